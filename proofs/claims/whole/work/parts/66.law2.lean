/-! THE LAW: its walk -/
def b_L_law : x_B := [(0, 1, [(.new 7, 3), (.dup, 1), (.invokespecial 9, 3), (.astore_n 1, 1), (.new 10, 3), (.dup, 1), (.invokespecial 12, 3), (.astore_n 2, 1), (.iconst 0, 1), (.istore_n 3, 1)]),
  (18, 4, [(.iload_n 3, 1), (.aload_n 0, 1), (.arraylength, 1), (.bipush 6, 2), (.isub, 1), (.if_icmp .gt 1024, 3), (.aload_n 0, 1), (.iload_n 3, 1), (.iaload, 1), (.bipush 31, 2), (.iand, 1), (.tableswitch 1009 0 23 #[111, 134, 167, 200, 233, 286, 335, 368, 411, 454, 477, 520, 563, 606, 629, 672, 715, 758, 821, 844, 887, 930, 943, 986], 111)]),
  (144, 4, [(.aload_n 1, 1), (.aload_n 0, 1), (.iload_n 3, 1), (.iconst 1, 1), (.iadd, 1), (.iaload, 1), (.invokevirtual 13, 3), (.aload_n 2, 1), (.aload_n 0, 1), (.iload_n 3, 1), (.iconst 1, 1), (.iadd, 1), (.iaload, 1), (.invokevirtual 17, 3), (.if_icmp .eq 880, 3), (.iconst 0, 1), (.ireturn, 1)]),
  (167, 4, [(.aload_n 1, 1), (.aload_n 0, 1), (.iload_n 3, 1), (.iconst 1, 1), (.iadd, 1), (.iaload, 1), (.aload_n 0, 1), (.iload_n 3, 1), (.iconst 2, 1), (.iadd, 1), (.iaload, 1), (.invokevirtual 18, 3), (.aload_n 2, 1), (.aload_n 0, 1), (.iload_n 3, 1), (.iconst 1, 1), (.iadd, 1), (.iaload, 1), (.aload_n 0, 1), (.iload_n 3, 1), (.iconst 2, 1), (.iadd, 1), (.iaload, 1), (.invokevirtual 22, 3), (.if_icmp .eq 847, 3), (.iconst 0, 1), (.ireturn, 1)]),
  (200, 4, [(.aload_n 1, 1), (.aload_n 0, 1), (.iload_n 3, 1), (.iconst 1, 1), (.iadd, 1), (.iaload, 1), (.aload_n 0, 1), (.iload_n 3, 1), (.iconst 2, 1), (.iadd, 1), (.iaload, 1), (.invokevirtual 23, 3), (.aload_n 2, 1), (.aload_n 0, 1), (.iload_n 3, 1), (.iconst 1, 1), (.iadd, 1), (.iaload, 1), (.aload_n 0, 1), (.iload_n 3, 1), (.iconst 2, 1), (.iadd, 1), (.iaload, 1), (.invokevirtual 26, 3), (.if_icmp .eq 814, 3), (.iconst 0, 1), (.ireturn, 1)]),
  (233, 4, [(.aload_n 1, 1), (.aload_n 0, 1), (.iload_n 3, 1), (.iconst 1, 1), (.iadd, 1), (.iaload, 1), (.aload_n 0, 1), (.iload_n 3, 1), (.iconst 2, 1), (.iadd, 1), (.iaload, 1), (.invokevirtual 27, 3), (.aload_n 2, 1), (.aload_n 0, 1), (.iload_n 3, 1), (.iconst 1, 1), (.iadd, 1), (.iaload, 1), (.aload_n 0, 1), (.iload_n 3, 1), (.iconst 2, 1), (.iadd, 1), (.iaload, 1), (.invokevirtual 30, 3), (.if_icmp .eq 781, 3), (.iconst 0, 1), (.ireturn, 1)]),
  (266, 4, [(.aload_n 1, 1), (.aload_n 0, 1), (.iload_n 3, 1), (.iconst 1, 1), (.iadd, 1), (.iaload, 1), (.aload_n 0, 1), (.iload_n 3, 1), (.iconst 2, 1), (.iadd, 1), (.iaload, 1), (.aload_n 0, 1), (.iload_n 3, 1), (.iconst 3, 1), (.iadd, 1), (.iaload, 1), (.aload_n 0, 1), (.iload_n 3, 1), (.iconst 4, 1), (.iadd, 1), (.iaload, 1), (.invokevirtual 31, 3), (.aload_n 2, 1), (.aload_n 0, 1), (.iload_n 3, 1), (.iconst 1, 1), (.iadd, 1), (.iaload, 1), (.aload_n 0, 1), (.iload_n 3, 1), (.iconst 2, 1), (.iadd, 1), (.iaload, 1), (.aload_n 0, 1), (.iload_n 3, 1), (.iconst 3, 1), (.iadd, 1), (.iaload, 1), (.aload_n 0, 1), (.iload_n 3, 1), (.iconst 4, 1), (.iadd, 1), (.iaload, 1), (.invokevirtual 35, 3), (.if_icmp .eq 728, 3), (.iconst 0, 1), (.ireturn, 1)]),
  (319, 4, [(.aload_n 1, 1), (.aload_n 0, 1), (.iload_n 3, 1), (.iconst 1, 1), (.iadd, 1), (.iaload, 1), (.aload_n 0, 1), (.iload_n 3, 1), (.iconst 2, 1), (.iadd, 1), (.iaload, 1), (.ifCond .eq 7, 3), (.iconst 1, 1), (.goto 4, 3)]),
  (337, 4, [(.iconst 0, 1)]),
  (338, 4, [(.invokevirtual 36, 3), (.aload_n 2, 1), (.aload_n 0, 1), (.iload_n 3, 1), (.iconst 1, 1), (.iadd, 1), (.iaload, 1), (.aload_n 0, 1), (.iload_n 3, 1), (.iconst 2, 1), (.iadd, 1), (.iaload, 1), (.ifCond .eq 7, 3), (.iconst 1, 1), (.goto 4, 3)]),
  (359, 4, [(.iconst 0, 1)]),
  (360, 4, [(.invokevirtual 40, 3), (.if_icmp .eq 679, 3), (.iconst 0, 1), (.ireturn, 1)]),
  (368, 4, [(.aload_n 1, 1), (.aload_n 0, 1), (.iload_n 3, 1), (.iconst 1, 1), (.iadd, 1), (.iaload, 1), (.aload_n 0, 1), (.iload_n 3, 1), (.iconst 2, 1), (.iadd, 1), (.iaload, 1), (.invokevirtual 41, 3), (.aload_n 2, 1), (.aload_n 0, 1), (.iload_n 3, 1), (.iconst 1, 1), (.iadd, 1), (.iaload, 1), (.aload_n 0, 1), (.iload_n 3, 1), (.iconst 2, 1), (.iadd, 1), (.iaload, 1), (.invokevirtual 44, 3), (.if_icmp .eq 646, 3), (.iconst 0, 1), (.ireturn, 1)]),
  (401, 4, [(.aload_n 1, 1), (.aload_n 0, 1), (.iload_n 3, 1), (.iconst 1, 1), (.iadd, 1), (.iaload, 1), (.aload_n 0, 1), (.iload_n 3, 1), (.iconst 2, 1), (.iadd, 1), (.iaload, 1), (.aload_n 0, 1), (.iload_n 3, 1), (.iconst 3, 1), (.iadd, 1), (.iaload, 1), (.invokevirtual 45, 3), (.aload_n 2, 1), (.aload_n 0, 1), (.iload_n 3, 1), (.iconst 1, 1), (.iadd, 1), (.iaload, 1), (.aload_n 0, 1), (.iload_n 3, 1), (.iconst 2, 1), (.iadd, 1), (.iaload, 1), (.aload_n 0, 1), (.iload_n 3, 1), (.iconst 3, 1), (.iadd, 1), (.iaload, 1), (.invokevirtual 49, 3), (.if_icmp .eq 603, 3), (.iconst 0, 1), (.ireturn, 1)]),
  (444, 4, [(.aload_n 1, 1), (.aload_n 0, 1), (.iload_n 3, 1), (.iconst 1, 1), (.iadd, 1), (.iaload, 1), (.aload_n 0, 1), (.iload_n 3, 1), (.iconst 2, 1), (.iadd, 1), (.iaload, 1), (.aload_n 0, 1), (.iload_n 3, 1), (.iconst 3, 1), (.iadd, 1), (.iaload, 1), (.invokevirtual 50, 3), (.aload_n 2, 1), (.aload_n 0, 1), (.iload_n 3, 1), (.iconst 1, 1), (.iadd, 1), (.iaload, 1), (.aload_n 0, 1), (.iload_n 3, 1), (.iconst 2, 1), (.iadd, 1), (.iaload, 1), (.aload_n 0, 1), (.iload_n 3, 1), (.iconst 3, 1), (.iadd, 1), (.iaload, 1), (.invokevirtual 53, 3), (.if_icmp .eq 560, 3), (.iconst 0, 1), (.ireturn, 1)]),
  (487, 4, [(.aload_n 1, 1), (.aload_n 0, 1), (.iload_n 3, 1), (.iconst 1, 1), (.iadd, 1), (.iaload, 1), (.invokevirtual 54, 3), (.aload_n 2, 1), (.aload_n 0, 1), (.iload_n 3, 1), (.iconst 1, 1), (.iadd, 1), (.iaload, 1), (.invokevirtual 57, 3), (.if_icmp .eq 537, 3), (.iconst 0, 1), (.ireturn, 1)]),
  (510, 4, [(.aload_n 1, 1), (.aload_n 0, 1), (.iload_n 3, 1), (.iconst 1, 1), (.iadd, 1), (.iaload, 1), (.aload_n 0, 1), (.iload_n 3, 1), (.iconst 2, 1), (.iadd, 1), (.iaload, 1), (.aload_n 0, 1), (.iload_n 3, 1), (.iconst 3, 1), (.iadd, 1), (.iaload, 1), (.invokevirtual 58, 3), (.aload_n 2, 1), (.aload_n 0, 1), (.iload_n 3, 1), (.iconst 1, 1), (.iadd, 1), (.iaload, 1), (.aload_n 0, 1), (.iload_n 3, 1), (.iconst 2, 1), (.iadd, 1), (.iaload, 1), (.aload_n 0, 1), (.iload_n 3, 1), (.iconst 3, 1), (.iadd, 1), (.iaload, 1), (.invokevirtual 61, 3), (.if_icmp .eq 494, 3), (.iconst 0, 1), (.ireturn, 1)]),
  (553, 4, [(.aload_n 1, 1), (.aload_n 0, 1), (.iload_n 3, 1), (.iconst 1, 1), (.iadd, 1), (.iaload, 1), (.aload_n 0, 1), (.iload_n 3, 1), (.iconst 2, 1), (.iadd, 1), (.iaload, 1), (.aload_n 0, 1), (.iload_n 3, 1), (.iconst 3, 1), (.iadd, 1), (.iaload, 1), (.invokevirtual 62, 3), (.aload_n 2, 1), (.aload_n 0, 1), (.iload_n 3, 1), (.iconst 1, 1), (.iadd, 1), (.iaload, 1), (.aload_n 0, 1), (.iload_n 3, 1), (.iconst 2, 1), (.iadd, 1), (.iaload, 1), (.aload_n 0, 1), (.iload_n 3, 1), (.iconst 3, 1), (.iadd, 1), (.iaload, 1), (.invokevirtual 65, 3), (.if_icmp .eq 451, 3), (.iconst 0, 1), (.ireturn, 1)]),
  (596, 4, [(.aload_n 1, 1), (.aload_n 0, 1), (.iload_n 3, 1), (.iconst 1, 1), (.iadd, 1), (.iaload, 1), (.aload_n 0, 1), (.iload_n 3, 1), (.iconst 2, 1), (.iadd, 1), (.iaload, 1), (.aload_n 0, 1), (.iload_n 3, 1), (.iconst 3, 1), (.iadd, 1), (.iaload, 1), (.invokevirtual 66, 3), (.aload_n 2, 1), (.aload_n 0, 1), (.iload_n 3, 1), (.iconst 1, 1), (.iadd, 1), (.iaload, 1), (.aload_n 0, 1), (.iload_n 3, 1), (.iconst 2, 1), (.iadd, 1), (.iaload, 1), (.aload_n 0, 1), (.iload_n 3, 1), (.iconst 3, 1), (.iadd, 1), (.iaload, 1), (.invokevirtual 69, 3), (.if_icmp .eq 408, 3), (.iconst 0, 1), (.ireturn, 1)]),
  (639, 4, [(.aload_n 1, 1), (.aload_n 0, 1), (.iload_n 3, 1), (.iconst 1, 1), (.iadd, 1), (.iaload, 1), (.invokevirtual 70, 3), (.aload_n 2, 1), (.aload_n 0, 1), (.iload_n 3, 1), (.iconst 1, 1), (.iadd, 1), (.iaload, 1), (.invokevirtual 73, 3), (.if_icmp .eq 385, 3), (.iconst 0, 1), (.ireturn, 1)]),
  (662, 4, [(.aload_n 1, 1), (.aload_n 0, 1), (.iload_n 3, 1), (.iconst 1, 1), (.iadd, 1), (.iaload, 1), (.aload_n 0, 1), (.iload_n 3, 1), (.iconst 2, 1), (.iadd, 1), (.iaload, 1), (.aload_n 0, 1), (.iload_n 3, 1), (.iconst 3, 1), (.iadd, 1), (.iaload, 1), (.invokevirtual 74, 3), (.aload_n 2, 1), (.aload_n 0, 1), (.iload_n 3, 1), (.iconst 1, 1), (.iadd, 1), (.iaload, 1), (.aload_n 0, 1), (.iload_n 3, 1), (.iconst 2, 1), (.iadd, 1), (.iaload, 1), (.aload_n 0, 1), (.iload_n 3, 1), (.iconst 3, 1), (.iadd, 1), (.iaload, 1), (.invokevirtual 77, 3), (.if_icmp .eq 342, 3), (.iconst 0, 1), (.ireturn, 1)]),
  (705, 4, [(.aload_n 1, 1), (.aload_n 0, 1), (.iload_n 3, 1), (.iconst 1, 1), (.iadd, 1), (.iaload, 1), (.aload_n 0, 1), (.iload_n 3, 1), (.iconst 2, 1), (.iadd, 1), (.iaload, 1), (.aload_n 0, 1), (.iload_n 3, 1), (.iconst 3, 1), (.iadd, 1), (.iaload, 1), (.invokevirtual 78, 3), (.aload_n 2, 1), (.aload_n 0, 1), (.iload_n 3, 1), (.iconst 1, 1), (.iadd, 1), (.iaload, 1), (.aload_n 0, 1), (.iload_n 3, 1), (.iconst 2, 1), (.iadd, 1), (.iaload, 1), (.aload_n 0, 1), (.iload_n 3, 1), (.iconst 3, 1), (.iadd, 1), (.iaload, 1), (.invokevirtual 81, 3), (.if_icmp .eq 299, 3), (.iconst 0, 1), (.ireturn, 1)]),
  (748, 4, [(.aload_n 1, 1), (.aload_n 0, 1), (.iload_n 3, 1), (.iconst 1, 1), (.iadd, 1), (.iaload, 1), (.aload_n 0, 1), (.iload_n 3, 1), (.iconst 2, 1), (.iadd, 1), (.iaload, 1), (.aload_n 0, 1), (.iload_n 3, 1), (.iconst 3, 1), (.iadd, 1), (.iaload, 1), (.invokevirtual 82, 3), (.aload_n 2, 1), (.aload_n 0, 1), (.iload_n 3, 1), (.iconst 1, 1), (.iadd, 1), (.iaload, 1), (.aload_n 0, 1), (.iload_n 3, 1), (.iconst 2, 1), (.iadd, 1), (.iaload, 1), (.aload_n 0, 1), (.iload_n 3, 1), (.iconst 3, 1), (.iadd, 1), (.iaload, 1), (.invokevirtual 85, 3), (.if_icmp .eq 256, 3), (.iconst 0, 1), (.ireturn, 1)]),
  (791, 4, [(.aload_n 1, 1), (.aload_n 0, 1), (.iload_n 3, 1), (.iconst 1, 1), (.iadd, 1), (.iaload, 1), (.aload_n 0, 1), (.iload_n 3, 1), (.iconst 2, 1), (.iadd, 1), (.iaload, 1), (.aload_n 0, 1), (.iload_n 3, 1), (.iconst 3, 1), (.iadd, 1), (.iaload, 1), (.aload_n 0, 1), (.iload_n 3, 1), (.iconst 4, 1), (.iadd, 1), (.iaload, 1), (.aload_n 0, 1), (.iload_n 3, 1), (.iconst 5, 1), (.iadd, 1), (.iaload, 1), (.invokevirtual 86, 3), (.aload_n 2, 1), (.aload_n 0, 1), (.iload_n 3, 1), (.iconst 1, 1), (.iadd, 1), (.iaload, 1), (.aload_n 0, 1), (.iload_n 3, 1), (.iconst 2, 1), (.iadd, 1), (.iaload, 1), (.aload_n 0, 1), (.iload_n 3, 1), (.iconst 3, 1), (.iadd, 1), (.iaload, 1), (.aload_n 0, 1), (.iload_n 3, 1), (.iconst 4, 1), (.iadd, 1), (.iaload, 1), (.aload_n 0, 1), (.iload_n 3, 1), (.iconst 5, 1), (.iadd, 1), (.iaload, 1), (.invokevirtual 90, 3), (.if_icmp .eq 193, 3), (.iconst 0, 1), (.ireturn, 1)]),
  (854, 4, [(.aload_n 1, 1), (.aload_n 0, 1), (.iload_n 3, 1), (.iconst 1, 1), (.iadd, 1), (.iaload, 1), (.invokevirtual 91, 3), (.aload_n 2, 1), (.aload_n 0, 1), (.iload_n 3, 1), (.iconst 1, 1), (.iadd, 1), (.iaload, 1), (.invokevirtual 94, 3), (.if_icmp .eq 170, 3), (.iconst 0, 1), (.ireturn, 1)]),
  (877, 4, [(.aload_n 1, 1), (.aload_n 0, 1), (.iload_n 3, 1), (.iconst 1, 1), (.iadd, 1), (.iaload, 1), (.aload_n 0, 1), (.iload_n 3, 1), (.iconst 2, 1), (.iadd, 1), (.iaload, 1), (.aload_n 0, 1), (.iload_n 3, 1), (.iconst 3, 1), (.iadd, 1), (.iaload, 1), (.invokevirtual 95, 3), (.aload_n 2, 1), (.aload_n 0, 1), (.iload_n 3, 1), (.iconst 1, 1), (.iadd, 1), (.iaload, 1), (.aload_n 0, 1), (.iload_n 3, 1), (.iconst 2, 1), (.iadd, 1), (.iaload, 1), (.aload_n 0, 1), (.iload_n 3, 1), (.iconst 3, 1), (.iadd, 1), (.iaload, 1), (.invokevirtual 98, 3), (.if_icmp .eq 127, 3), (.iconst 0, 1), (.ireturn, 1)]),
  (920, 4, [(.aload_n 1, 1), (.aload_n 0, 1), (.iload_n 3, 1), (.iconst 1, 1), (.iadd, 1), (.iaload, 1), (.aload_n 0, 1), (.iload_n 3, 1), (.iconst 2, 1), (.iadd, 1), (.iaload, 1), (.aload_n 0, 1), (.iload_n 3, 1), (.iconst 3, 1), (.iadd, 1), (.iaload, 1), (.invokevirtual 99, 3), (.aload_n 2, 1), (.aload_n 0, 1), (.iload_n 3, 1), (.iconst 1, 1), (.iadd, 1), (.iaload, 1), (.aload_n 0, 1), (.iload_n 3, 1), (.iconst 2, 1), (.iadd, 1), (.iaload, 1), (.aload_n 0, 1), (.iload_n 3, 1), (.iconst 3, 1), (.iadd, 1), (.iaload, 1), (.invokevirtual 102, 3), (.if_icmp .eq 84, 3), (.iconst 0, 1), (.ireturn, 1)]),
  (963, 4, [(.aload_n 1, 1), (.invokevirtual 103, 3), (.aload_n 2, 1), (.invokevirtual 107, 3), (.if_icmp .eq 71, 3), (.iconst 0, 1), (.ireturn, 1)]),
  (976, 4, [(.aload_n 1, 1), (.aload_n 0, 1), (.iload_n 3, 1), (.iconst 1, 1), (.iadd, 1), (.iaload, 1), (.aload_n 0, 1), (.iload_n 3, 1), (.iconst 2, 1), (.iadd, 1), (.iaload, 1), (.aload_n 0, 1), (.iload_n 3, 1), (.iconst 3, 1), (.iadd, 1), (.iaload, 1), (.invokevirtual 108, 3), (.aload_n 2, 1), (.aload_n 0, 1), (.iload_n 3, 1), (.iconst 1, 1), (.iadd, 1), (.iaload, 1), (.aload_n 0, 1), (.iload_n 3, 1), (.iconst 2, 1), (.iadd, 1), (.iaload, 1), (.aload_n 0, 1), (.iload_n 3, 1), (.iconst 3, 1), (.iadd, 1), (.iaload, 1), (.invokevirtual 111, 3), (.if_icmp .eq 28, 3), (.iconst 0, 1), (.ireturn, 1)]),
  (1019, 4, [(.aload_n 1, 1), (.aload_n 0, 1), (.iload_n 3, 1), (.iconst 1, 1), (.iadd, 1), (.iaload, 1), (.invokevirtual 112, 3), (.aload_n 2, 1), (.aload_n 0, 1), (.iload_n 3, 1), (.iconst 1, 1), (.iadd, 1), (.iaload, 1), (.invokevirtual 115, 3), (.if_icmp .eq 5, 3), (.iconst 0, 1), (.ireturn, 1)]),
  (1042, 4, [(.iinc 3 6, 3), (.goto (-1027), 3)]),
  (1048, 4, [(.iconst 1, 1), (.ireturn, 1)])]
theorem b_L_law_ok : x_okB code 4 b_L_law = true := by decide +kernel
def K_law : List (Nat × x_K) := [(29, q_X6_init), (38, q_X7_init), (40, q_X6_turned), (52, q_X7_turned), (55, q_X6_composed), (67, q_X7_composed), (70, q_X6_near), (79, q_X7_near), (82, q_X6_steps), (91, q_X7_steps), (94, q_X6_tell), (106, q_X7_tell), (109, q_X6_silent), (121, q_X7_silent), (124, q_X6_statement), (133, q_X7_statement), (136, q_X6_told), (148, q_X7_told), (151, q_X6_closed), (160, q_X7_closed), (163, q_X6_canBe), (172, q_X7_canBe), (175, q_X6_can), (184, q_X7_can), (187, q_X6_drawing), (196, q_X7_drawing), (199, q_X6_drawn), (208, q_X7_drawn), (211, q_X6_core), (220, q_X7_core), (223, q_X6_word), (232, q_X7_word), (235, q_X6_say), (244, q_X7_say), (247, q_X6_ask), (256, q_X7_ask), (259, q_X6_box), (271, q_X7_box), (274, q_X6_rub), (283, q_X7_rub), (286, q_X6_read), (295, q_X7_read), (298, q_X6_holds), (307, q_X7_holds), (310, q_X6_fits), (322, q_X7_fits), (325, q_X6_moved), (334, q_X7_moved), (337, q_X6_count), (346, q_X7_count)]
def X_law (L : Nat) (xs : Nat → Int32) : x_X := ([], [], [], [(7, 4), (10, 5)], K_law, (600000, 7302250), (fun c => if c = 5 then L else x_kn c), (fun c j => if c = 5 then xs j else x_kf c j), 6, false)
theorem X_law_ok0 : x_okT RL (X_law 0 (fun _ => 0)) = true := by decide +kernel
theorem X_law_ok (L : Nat) (xs : Nat → Int32) : x_okT RL (X_law L xs) = true := X_law_ok0
theorem kl_29 (l : Launch) : x_Cal l room_1 code RL 4 29 q_X6_init := x_cal_I (idx := 9) (n := 0) (c_X6_init l) ⟨by decide, by decide⟩ (by decide +kernel) (by decide +kernel) (by decide +kernel) (by decide +kernel) rfl rfl (by decide +kernel) r_X6_init
theorem kl_38 (l : Launch) : x_Cal l room_1 code RL 4 38 q_X7_init := x_cal_I (idx := 12) (n := 0) (c_X7_init l) ⟨by decide, by decide⟩ (by decide +kernel) (by decide +kernel) (by decide +kernel) (by decide +kernel) rfl rfl (by decide +kernel) r_X7_init
theorem kl_40 (l : Launch) : x_Cal l room_1 code RL 4 40 q_X6_turned := x_cal_V (idx := 13) (ci := 4) (n := 1) (c_X6_turned l) ⟨by decide, by decide⟩ (by decide +kernel) (by decide +kernel) (by decide +kernel) (by decide +kernel) (by decide +kernel) rfl rfl rfl (by decide +kernel) r_X6_turned
theorem kl_52 (l : Launch) : x_Cal l room_1 code RL 4 52 q_X7_turned := x_cal_V (idx := 17) (ci := 5) (n := 1) (c_X7_turned l) ⟨by decide, by decide⟩ (by decide +kernel) (by decide +kernel) (by decide +kernel) (by decide +kernel) (by decide +kernel) rfl rfl rfl (by decide +kernel) r_X7_turned
theorem kl_55 (l : Launch) : x_Cal l room_1 code RL 4 55 q_X6_composed := x_cal_V (idx := 18) (ci := 4) (n := 2) (c_X6_composed l) ⟨by decide, by decide⟩ (by decide +kernel) (by decide +kernel) (by decide +kernel) (by decide +kernel) (by decide +kernel) rfl rfl rfl (by decide +kernel) r_X6_composed
theorem kl_67 (l : Launch) : x_Cal l room_1 code RL 4 67 q_X7_composed := x_cal_V (idx := 22) (ci := 5) (n := 2) (c_X7_composed l) ⟨by decide, by decide⟩ (by decide +kernel) (by decide +kernel) (by decide +kernel) (by decide +kernel) (by decide +kernel) rfl rfl rfl (by decide +kernel) r_X7_composed
theorem kl_70 (l : Launch) : x_Cal l room_1 code RL 4 70 q_X6_near := x_cal_V (idx := 23) (ci := 4) (n := 2) (c_X6_near l) ⟨by decide, by decide⟩ (by decide +kernel) (by decide +kernel) (by decide +kernel) (by decide +kernel) (by decide +kernel) rfl rfl rfl (by decide +kernel) r_X6_near
theorem kl_79 (l : Launch) : x_Cal l room_1 code RL 4 79 q_X7_near := x_cal_V (idx := 26) (ci := 5) (n := 2) (c_X7_near l) ⟨by decide, by decide⟩ (by decide +kernel) (by decide +kernel) (by decide +kernel) (by decide +kernel) (by decide +kernel) rfl rfl rfl (by decide +kernel) r_X7_near
theorem kl_82 (l : Launch) : x_Cal l room_1 code RL 4 82 q_X6_steps := x_cal_V (idx := 27) (ci := 4) (n := 2) (c_X6_steps l) ⟨by decide, by decide⟩ (by decide +kernel) (by decide +kernel) (by decide +kernel) (by decide +kernel) (by decide +kernel) rfl rfl rfl (by decide +kernel) r_X6_steps
theorem kl_91 (l : Launch) : x_Cal l room_1 code RL 4 91 q_X7_steps := x_cal_V (idx := 30) (ci := 5) (n := 2) (c_X7_steps l) ⟨by decide, by decide⟩ (by decide +kernel) (by decide +kernel) (by decide +kernel) (by decide +kernel) (by decide +kernel) rfl rfl rfl (by decide +kernel) r_X7_steps
theorem kl_94 (l : Launch) : x_Cal l room_1 code RL 4 94 q_X6_tell := x_cal_V (idx := 31) (ci := 4) (n := 4) (c_X6_tell l) ⟨by decide, by decide⟩ (by decide +kernel) (by decide +kernel) (by decide +kernel) (by decide +kernel) (by decide +kernel) rfl rfl rfl (by decide +kernel) r_X6_tell
theorem kl_106 (l : Launch) : x_Cal l room_1 code RL 4 106 q_X7_tell := x_cal_V (idx := 35) (ci := 5) (n := 4) (c_X7_tell l) ⟨by decide, by decide⟩ (by decide +kernel) (by decide +kernel) (by decide +kernel) (by decide +kernel) (by decide +kernel) rfl rfl rfl (by decide +kernel) r_X7_tell
theorem kl_109 (l : Launch) : x_Cal l room_1 code RL 4 109 q_X6_silent := x_cal_V (idx := 36) (ci := 4) (n := 2) (c_X6_silent l) ⟨by decide, by decide⟩ (by decide +kernel) (by decide +kernel) (by decide +kernel) (by decide +kernel) (by decide +kernel) rfl rfl rfl (by decide +kernel) r_X6_silent
theorem kl_121 (l : Launch) : x_Cal l room_1 code RL 4 121 q_X7_silent := x_cal_V (idx := 40) (ci := 5) (n := 2) (c_X7_silent l) ⟨by decide, by decide⟩ (by decide +kernel) (by decide +kernel) (by decide +kernel) (by decide +kernel) (by decide +kernel) rfl rfl rfl (by decide +kernel) r_X7_silent
theorem kl_124 (l : Launch) : x_Cal l room_1 code RL 4 124 q_X6_statement := x_cal_V (idx := 41) (ci := 4) (n := 2) (c_X6_statement l) ⟨by decide, by decide⟩ (by decide +kernel) (by decide +kernel) (by decide +kernel) (by decide +kernel) (by decide +kernel) rfl rfl rfl (by decide +kernel) r_X6_statement
theorem kl_133 (l : Launch) : x_Cal l room_1 code RL 4 133 q_X7_statement := x_cal_V (idx := 44) (ci := 5) (n := 2) (c_X7_statement l) ⟨by decide, by decide⟩ (by decide +kernel) (by decide +kernel) (by decide +kernel) (by decide +kernel) (by decide +kernel) rfl rfl rfl (by decide +kernel) r_X7_statement
theorem kl_136 (l : Launch) : x_Cal l room_1 code RL 4 136 q_X6_told := x_cal_V (idx := 45) (ci := 4) (n := 3) (c_X6_told l) ⟨by decide, by decide⟩ (by decide +kernel) (by decide +kernel) (by decide +kernel) (by decide +kernel) (by decide +kernel) rfl rfl rfl (by decide +kernel) r_X6_told
theorem kl_148 (l : Launch) : x_Cal l room_1 code RL 4 148 q_X7_told := x_cal_V (idx := 49) (ci := 5) (n := 3) (c_X7_told l) ⟨by decide, by decide⟩ (by decide +kernel) (by decide +kernel) (by decide +kernel) (by decide +kernel) (by decide +kernel) rfl rfl rfl (by decide +kernel) r_X7_told
theorem kl_151 (l : Launch) : x_Cal l room_1 code RL 4 151 q_X6_closed := x_cal_V (idx := 50) (ci := 4) (n := 3) (c_X6_closed l) ⟨by decide, by decide⟩ (by decide +kernel) (by decide +kernel) (by decide +kernel) (by decide +kernel) (by decide +kernel) rfl rfl rfl (by decide +kernel) r_X6_closed
theorem kl_160 (l : Launch) : x_Cal l room_1 code RL 4 160 q_X7_closed := x_cal_V (idx := 53) (ci := 5) (n := 3) (c_X7_closed l) ⟨by decide, by decide⟩ (by decide +kernel) (by decide +kernel) (by decide +kernel) (by decide +kernel) (by decide +kernel) rfl rfl rfl (by decide +kernel) r_X7_closed
theorem kl_163 (l : Launch) : x_Cal l room_1 code RL 4 163 q_X6_canBe := x_cal_V (idx := 54) (ci := 4) (n := 1) (c_X6_canBe l) ⟨by decide, by decide⟩ (by decide +kernel) (by decide +kernel) (by decide +kernel) (by decide +kernel) (by decide +kernel) rfl rfl rfl (by decide +kernel) r_X6_canBe
theorem kl_172 (l : Launch) : x_Cal l room_1 code RL 4 172 q_X7_canBe := x_cal_V (idx := 57) (ci := 5) (n := 1) (c_X7_canBe l) ⟨by decide, by decide⟩ (by decide +kernel) (by decide +kernel) (by decide +kernel) (by decide +kernel) (by decide +kernel) rfl rfl rfl (by decide +kernel) r_X7_canBe
theorem kl_175 (l : Launch) : x_Cal l room_1 code RL 4 175 q_X6_can := x_cal_V (idx := 58) (ci := 4) (n := 3) (c_X6_can l) ⟨by decide, by decide⟩ (by decide +kernel) (by decide +kernel) (by decide +kernel) (by decide +kernel) (by decide +kernel) rfl rfl rfl (by decide +kernel) r_X6_can
theorem kl_184 (l : Launch) : x_Cal l room_1 code RL 4 184 q_X7_can := x_cal_V (idx := 61) (ci := 5) (n := 3) (c_X7_can l) ⟨by decide, by decide⟩ (by decide +kernel) (by decide +kernel) (by decide +kernel) (by decide +kernel) (by decide +kernel) rfl rfl rfl (by decide +kernel) r_X7_can
theorem kl_187 (l : Launch) : x_Cal l room_1 code RL 4 187 q_X6_drawing := x_cal_V (idx := 62) (ci := 4) (n := 3) (c_X6_drawing l) ⟨by decide, by decide⟩ (by decide +kernel) (by decide +kernel) (by decide +kernel) (by decide +kernel) (by decide +kernel) rfl rfl rfl (by decide +kernel) r_X6_drawing
theorem kl_196 (l : Launch) : x_Cal l room_1 code RL 4 196 q_X7_drawing := x_cal_V (idx := 65) (ci := 5) (n := 3) (c_X7_drawing l) ⟨by decide, by decide⟩ (by decide +kernel) (by decide +kernel) (by decide +kernel) (by decide +kernel) (by decide +kernel) rfl rfl rfl (by decide +kernel) r_X7_drawing
theorem kl_199 (l : Launch) : x_Cal l room_1 code RL 4 199 q_X6_drawn := x_cal_V (idx := 66) (ci := 4) (n := 3) (c_X6_drawn l) ⟨by decide, by decide⟩ (by decide +kernel) (by decide +kernel) (by decide +kernel) (by decide +kernel) (by decide +kernel) rfl rfl rfl (by decide +kernel) r_X6_drawn
theorem kl_208 (l : Launch) : x_Cal l room_1 code RL 4 208 q_X7_drawn := x_cal_V (idx := 69) (ci := 5) (n := 3) (c_X7_drawn l) ⟨by decide, by decide⟩ (by decide +kernel) (by decide +kernel) (by decide +kernel) (by decide +kernel) (by decide +kernel) rfl rfl rfl (by decide +kernel) r_X7_drawn
theorem kl_211 (l : Launch) : x_Cal l room_1 code RL 4 211 q_X6_core := x_cal_V (idx := 70) (ci := 4) (n := 1) (c_X6_core l) ⟨by decide, by decide⟩ (by decide +kernel) (by decide +kernel) (by decide +kernel) (by decide +kernel) (by decide +kernel) rfl rfl rfl (by decide +kernel) r_X6_core
theorem kl_220 (l : Launch) : x_Cal l room_1 code RL 4 220 q_X7_core := x_cal_V (idx := 73) (ci := 5) (n := 1) (c_X7_core l) ⟨by decide, by decide⟩ (by decide +kernel) (by decide +kernel) (by decide +kernel) (by decide +kernel) (by decide +kernel) rfl rfl rfl (by decide +kernel) r_X7_core
theorem kl_223 (l : Launch) : x_Cal l room_1 code RL 4 223 q_X6_word := x_cal_V (idx := 74) (ci := 4) (n := 3) (c_X6_word l) ⟨by decide, by decide⟩ (by decide +kernel) (by decide +kernel) (by decide +kernel) (by decide +kernel) (by decide +kernel) rfl rfl rfl (by decide +kernel) r_X6_word
theorem kl_232 (l : Launch) : x_Cal l room_1 code RL 4 232 q_X7_word := x_cal_V (idx := 77) (ci := 5) (n := 3) (c_X7_word l) ⟨by decide, by decide⟩ (by decide +kernel) (by decide +kernel) (by decide +kernel) (by decide +kernel) (by decide +kernel) rfl rfl rfl (by decide +kernel) r_X7_word
theorem kl_235 (l : Launch) : x_Cal l room_1 code RL 4 235 q_X6_say := x_cal_V (idx := 78) (ci := 4) (n := 3) (c_X6_say l) ⟨by decide, by decide⟩ (by decide +kernel) (by decide +kernel) (by decide +kernel) (by decide +kernel) (by decide +kernel) rfl rfl rfl (by decide +kernel) r_X6_say
theorem kl_244 (l : Launch) : x_Cal l room_1 code RL 4 244 q_X7_say := x_cal_V (idx := 81) (ci := 5) (n := 3) (c_X7_say l) ⟨by decide, by decide⟩ (by decide +kernel) (by decide +kernel) (by decide +kernel) (by decide +kernel) (by decide +kernel) rfl rfl rfl (by decide +kernel) r_X7_say
theorem kl_247 (l : Launch) : x_Cal l room_1 code RL 4 247 q_X6_ask := x_cal_V (idx := 82) (ci := 4) (n := 3) (c_X6_ask l) ⟨by decide, by decide⟩ (by decide +kernel) (by decide +kernel) (by decide +kernel) (by decide +kernel) (by decide +kernel) rfl rfl rfl (by decide +kernel) r_X6_ask
theorem kl_256 (l : Launch) : x_Cal l room_1 code RL 4 256 q_X7_ask := x_cal_V (idx := 85) (ci := 5) (n := 3) (c_X7_ask l) ⟨by decide, by decide⟩ (by decide +kernel) (by decide +kernel) (by decide +kernel) (by decide +kernel) (by decide +kernel) rfl rfl rfl (by decide +kernel) r_X7_ask
theorem kl_259 (l : Launch) : x_Cal l room_1 code RL 4 259 q_X6_box := x_cal_V (idx := 86) (ci := 4) (n := 5) (c_X6_box l) ⟨by decide, by decide⟩ (by decide +kernel) (by decide +kernel) (by decide +kernel) (by decide +kernel) (by decide +kernel) rfl rfl rfl (by decide +kernel) r_X6_box
theorem kl_271 (l : Launch) : x_Cal l room_1 code RL 4 271 q_X7_box := x_cal_V (idx := 90) (ci := 5) (n := 5) (c_X7_box l) ⟨by decide, by decide⟩ (by decide +kernel) (by decide +kernel) (by decide +kernel) (by decide +kernel) (by decide +kernel) rfl rfl rfl (by decide +kernel) r_X7_box
theorem kl_274 (l : Launch) : x_Cal l room_1 code RL 4 274 q_X6_rub := x_cal_V (idx := 91) (ci := 4) (n := 1) (c_X6_rub l) ⟨by decide, by decide⟩ (by decide +kernel) (by decide +kernel) (by decide +kernel) (by decide +kernel) (by decide +kernel) rfl rfl rfl (by decide +kernel) r_X6_rub
theorem kl_283 (l : Launch) : x_Cal l room_1 code RL 4 283 q_X7_rub := x_cal_V (idx := 94) (ci := 5) (n := 1) (c_X7_rub l) ⟨by decide, by decide⟩ (by decide +kernel) (by decide +kernel) (by decide +kernel) (by decide +kernel) (by decide +kernel) rfl rfl rfl (by decide +kernel) r_X7_rub
theorem kl_286 (l : Launch) : x_Cal l room_1 code RL 4 286 q_X6_read := x_cal_V (idx := 95) (ci := 4) (n := 3) (c_X6_read l) ⟨by decide, by decide⟩ (by decide +kernel) (by decide +kernel) (by decide +kernel) (by decide +kernel) (by decide +kernel) rfl rfl rfl (by decide +kernel) r_X6_read
theorem kl_295 (l : Launch) : x_Cal l room_1 code RL 4 295 q_X7_read := x_cal_V (idx := 98) (ci := 5) (n := 3) (c_X7_read l) ⟨by decide, by decide⟩ (by decide +kernel) (by decide +kernel) (by decide +kernel) (by decide +kernel) (by decide +kernel) rfl rfl rfl (by decide +kernel) r_X7_read
theorem kl_298 (l : Launch) : x_Cal l room_1 code RL 4 298 q_X6_holds := x_cal_V (idx := 99) (ci := 4) (n := 3) (c_X6_holds l) ⟨by decide, by decide⟩ (by decide +kernel) (by decide +kernel) (by decide +kernel) (by decide +kernel) (by decide +kernel) rfl rfl rfl (by decide +kernel) r_X6_holds
theorem kl_307 (l : Launch) : x_Cal l room_1 code RL 4 307 q_X7_holds := x_cal_V (idx := 102) (ci := 5) (n := 3) (c_X7_holds l) ⟨by decide, by decide⟩ (by decide +kernel) (by decide +kernel) (by decide +kernel) (by decide +kernel) (by decide +kernel) rfl rfl rfl (by decide +kernel) r_X7_holds
theorem kl_310 (l : Launch) : x_Cal l room_1 code RL 4 310 q_X6_fits := x_cal_V (idx := 103) (ci := 4) (n := 0) (c_X6_fits l) ⟨by decide, by decide⟩ (by decide +kernel) (by decide +kernel) (by decide +kernel) (by decide +kernel) (by decide +kernel) rfl rfl rfl (by decide +kernel) r_X6_fits
theorem kl_322 (l : Launch) : x_Cal l room_1 code RL 4 322 q_X7_fits := x_cal_V (idx := 107) (ci := 5) (n := 0) (c_X7_fits l) ⟨by decide, by decide⟩ (by decide +kernel) (by decide +kernel) (by decide +kernel) (by decide +kernel) (by decide +kernel) rfl rfl rfl (by decide +kernel) r_X7_fits
theorem kl_325 (l : Launch) : x_Cal l room_1 code RL 4 325 q_X6_moved := x_cal_V (idx := 108) (ci := 4) (n := 3) (c_X6_moved l) ⟨by decide, by decide⟩ (by decide +kernel) (by decide +kernel) (by decide +kernel) (by decide +kernel) (by decide +kernel) rfl rfl rfl (by decide +kernel) r_X6_moved
theorem kl_334 (l : Launch) : x_Cal l room_1 code RL 4 334 q_X7_moved := x_cal_V (idx := 111) (ci := 5) (n := 3) (c_X7_moved l) ⟨by decide, by decide⟩ (by decide +kernel) (by decide +kernel) (by decide +kernel) (by decide +kernel) (by decide +kernel) rfl rfl rfl (by decide +kernel) r_X7_moved
theorem kl_337 (l : Launch) : x_Cal l room_1 code RL 4 337 q_X6_count := x_cal_V (idx := 112) (ci := 4) (n := 1) (c_X6_count l) ⟨by decide, by decide⟩ (by decide +kernel) (by decide +kernel) (by decide +kernel) (by decide +kernel) (by decide +kernel) rfl rfl rfl (by decide +kernel) r_X6_count
theorem kl_346 (l : Launch) : x_Cal l room_1 code RL 4 346 q_X7_count := x_cal_V (idx := 115) (ci := 5) (n := 1) (c_X7_count l) ⟨by decide, by decide⟩ (by decide +kernel) (by decide +kernel) (by decide +kernel) (by decide +kernel) (by decide +kernel) rfl rfl rfl (by decide +kernel) r_X7_count
theorem k_law (l : Launch) : ∀ z ∈ K_law, x_Cal l room_1 code RL 4 z.1 z.2 := List.forall_mem_cons.mpr ⟨kl_29 l, List.forall_mem_cons.mpr ⟨kl_38 l, List.forall_mem_cons.mpr ⟨kl_40 l, List.forall_mem_cons.mpr ⟨kl_52 l, List.forall_mem_cons.mpr ⟨kl_55 l, List.forall_mem_cons.mpr ⟨kl_67 l, List.forall_mem_cons.mpr ⟨kl_70 l, List.forall_mem_cons.mpr ⟨kl_79 l, List.forall_mem_cons.mpr ⟨kl_82 l, List.forall_mem_cons.mpr ⟨kl_91 l, List.forall_mem_cons.mpr ⟨kl_94 l, List.forall_mem_cons.mpr ⟨kl_106 l, List.forall_mem_cons.mpr ⟨kl_109 l, List.forall_mem_cons.mpr ⟨kl_121 l, List.forall_mem_cons.mpr ⟨kl_124 l, List.forall_mem_cons.mpr ⟨kl_133 l, List.forall_mem_cons.mpr ⟨kl_136 l, List.forall_mem_cons.mpr ⟨kl_148 l, List.forall_mem_cons.mpr ⟨kl_151 l, List.forall_mem_cons.mpr ⟨kl_160 l, List.forall_mem_cons.mpr ⟨kl_163 l, List.forall_mem_cons.mpr ⟨kl_172 l, List.forall_mem_cons.mpr ⟨kl_175 l, List.forall_mem_cons.mpr ⟨kl_184 l, List.forall_mem_cons.mpr ⟨kl_187 l, List.forall_mem_cons.mpr ⟨kl_196 l, List.forall_mem_cons.mpr ⟨kl_199 l, List.forall_mem_cons.mpr ⟨kl_208 l, List.forall_mem_cons.mpr ⟨kl_211 l, List.forall_mem_cons.mpr ⟨kl_220 l, List.forall_mem_cons.mpr ⟨kl_223 l, List.forall_mem_cons.mpr ⟨kl_232 l, List.forall_mem_cons.mpr ⟨kl_235 l, List.forall_mem_cons.mpr ⟨kl_244 l, List.forall_mem_cons.mpr ⟨kl_247 l, List.forall_mem_cons.mpr ⟨kl_256 l, List.forall_mem_cons.mpr ⟨kl_259 l, List.forall_mem_cons.mpr ⟨kl_271 l, List.forall_mem_cons.mpr ⟨kl_274 l, List.forall_mem_cons.mpr ⟨kl_283 l, List.forall_mem_cons.mpr ⟨kl_286 l, List.forall_mem_cons.mpr ⟨kl_295 l, List.forall_mem_cons.mpr ⟨kl_298 l, List.forall_mem_cons.mpr ⟨kl_307 l, List.forall_mem_cons.mpr ⟨kl_310 l, List.forall_mem_cons.mpr ⟨kl_322 l, List.forall_mem_cons.mpr ⟨kl_325 l, List.forall_mem_cons.mpr ⟨kl_334 l, List.forall_mem_cons.mpr ⟨kl_337 l, List.forall_mem_cons.mpr ⟨kl_346 l, fun _ h => absurd h List.not_mem_nil⟩⟩⟩⟩⟩⟩⟩⟩⟩⟩⟩⟩⟩⟩⟩⟩⟩⟩⟩⟩⟩⟩⟩⟩⟩⟩⟩⟩⟩⟩⟩⟩⟩⟩⟩⟩⟩⟩⟩⟩⟩⟩⟩⟩⟩⟩⟩⟩⟩⟩
def lwZ : Instr → List x_V → List x_S → x_M → Nat → Nat → Prop := fun i st _ _ cs sl => i = .ireturn ∧ st = [.inl (nI 1)] ∧ cs ≤ 600000 ∧ sl ≤ 7302250
def lwI (μ pc : Nat) (ls st : List x_V) (S : List x_S) (M : x_M) (cs sl : Nat) : Prop := ∃ i, i ≤ 512 ∧ LI i M ∧ pc = 18 ∧ st = [] ∧ S = SH ∧ cs = 71 ∧ sl = 2480 ∧ ls = [.inr (.inr 5), .inr (.inl 0), .inr (.inl 53), .inl (nI (6 * i))] ∧ μ = 600 - i
theorem g6 {L k : Nat} (hL : L ≤ 3072) (hk : k ≤ 4000) (h : ¬ nI L - nI 6 < nI k) : k + 6 ≤ L := by
  by_cases q : 6 ≤ L
  · rw [n_subN q, nI_ltI (by omega) (by omega)] at h; omega
  · exfalso
    apply h
    have h0 : nI L - nI 6 < nI 0 := by
      rcases (show L = 0 ∨ L = 1 ∨ L = 2 ∨ L = 3 ∨ L = 4 ∨ L = 5 by omega) with rfl | rfl | rfl | rfl | rfl | rfl <;> decide
    exact Int32.lt_of_lt_of_le h0 (nI_le (by omega) (by omega))
theorem g7 {L i j : Nat} (hL : L ≤ 3072) (h : 6 * i + 6 ≤ L) (hj : j < 6) : vp_in (nI (6 * i) + nI j) L := by rw [nI_add]; exact vp_in_nI (by omega) (by omega)
theorem g8 {L i : Nat} (hL : L ≤ 3072) (h : 6 * i + 6 ≤ L) : vp_in (nI (6 * i)) L := vp_in_nI (by omega) (by omega)
theorem LI_up {c : Nat} {M : x_M} (h : LI c M) : LI (c + 1) M := ⟨⟨⟨h.1.1.1, h.1.1.2.1, Cnt_mono h.1.1.2.2⟩, h.1.2⟩, h.2⟩
set_option maxHeartbeats 4000000 in
set_option maxRecDepth 100000 in
theorem law_c0 {L i : Nat} {xs : Nat → Int32} {M : x_M} (hL : L ≤ 3072) (h6 : 6 * i + 6 ≤ L) (hi : i ≤ 512) (hLI : LI i M) : x_go (X_law L xs) lwZ b_L_law [18] (fun pc ls st S M cs sl => ∃ μ, μ < 600 - i ∧ lwI μ pc ls st S M cs sl) 29 144 [.inr (.inr 5), .inr (.inl 0), .inr (.inl 53), .inl (nI (6 * i))] [] SH M 71 2480 := by
  refine xt_blk rfl rfl (by dsimp only [List.take]) ?_
  refine xt_aln1 rfl (by decide) ?_
  refine xt_acn0 rfl ?_
  refine xt_iln3 rfl ?_
  refine xt_ic ?_
  refine xt_add ?_
  refine xt_kal rfl (show vp_in _ L from g7 hL h6 (by decide)) ?_
  refine xt_v2 (key := 40) (q := q_X6_turned) rfl rfl rfl rfl rfl ⟨Nat.le_of_ble_eq_true rfl, Nat.le_of_ble_eq_true rfl⟩ ⟨_, rfl, rfl⟩ (fun rv_ S1 M_150 hq_150 => ?_)
  obtain ⟨eS_, hC0⟩ := hq_150 _ rfl
  replace eS_ := eS_.symm
  subst eS_
  have hC := CE_turned hC0
  obtain ⟨v1, rfl⟩ : ∃ v, rv_ = some (.inl v) := ⟨_, hC.2.2.1⟩
  try dsimp only [Option.toList, List.cons_append, List.nil_append]
  refine xt_aln2 rfl (by decide) ?_
  refine xt_acn0 rfl ?_
  refine xt_iln3 rfl ?_
  refine xt_ic ?_
  refine xt_add ?_
  refine xt_kal rfl (show vp_in _ L from g7 hL h6 (by decide)) ?_
  refine xt_v2 (key := 52) (q := q_X7_turned) rfl rfl rfl rfl rfl ⟨Nat.le_of_ble_eq_true rfl, Nat.le_of_ble_eq_true rfl⟩ ⟨_, 0, (lw_mid hLI hC).1, rfl, rfl⟩ (fun rv_ S1 M_159 hq_159 => ?_)
  obtain ⟨eS_, hR⟩ := hq_159 _ rfl
  replace eS_ := eS_.symm
  subst eS_
  obtain ⟨v2, rfl⟩ : ∃ v, rv_ = some (.inl v) := ⟨_, hR.2.2.1⟩
  obtain ⟨hL2, v, e1, e2⟩ := lw_step (sp := fun V => spTurned V _) (by omega) hLI (kTurned _) hC hR
  have hve : v1 = v2 := by cases e1; cases e2; rfl
  try dsimp only [Option.toList, List.cons_append, List.nil_append]
  refine xt_ceq (t := 1042) rfl (fun hc_162 => ?_) (fun hc_162 => ?_)
  · skip
    refine xt_blk rfl rfl (by dsimp only [List.take]) ?_
    refine xt_inc rfl (by dsimp only [x_sto]) ?_
    refine xt_goto (t := 18) rfl ?_
    refine xt_cut rfl rfl (by dsimp only [List.take]) ?_
    exact ⟨600 - (i + 1), by omega, i + 1, by omega, hL2, rfl, rfl, rfl, rfl, rfl, by rw [nI_add], rfl⟩
  · exact absurd hve hc_162
set_option maxHeartbeats 4000000 in
set_option maxRecDepth 100000 in
theorem law_c1 {L i : Nat} {xs : Nat → Int32} {M : x_M} (hL : L ≤ 3072) (h6 : 6 * i + 6 ≤ L) (hi : i ≤ 512) (hLI : LI i M) : x_go (X_law L xs) lwZ b_L_law [18] (fun pc ls st S M cs sl => ∃ μ, μ < 600 - i ∧ lwI μ pc ls st S M cs sl) 29 167 [.inr (.inr 5), .inr (.inl 0), .inr (.inl 53), .inl (nI (6 * i))] [] SH M 71 2480 := by
  refine xt_blk rfl rfl (by dsimp only [List.take]) ?_
  refine xt_aln1 rfl (by decide) ?_
  refine xt_acn0 rfl ?_
  refine xt_iln3 rfl ?_
  refine xt_ic ?_
  refine xt_add ?_
  refine xt_kal rfl (show vp_in _ L from g7 hL h6 (by decide)) ?_
  refine xt_acn0 rfl ?_
  refine xt_iln3 rfl ?_
  refine xt_ic ?_
  refine xt_add ?_
  refine xt_kal rfl (show vp_in _ L from g7 hL h6 (by decide)) ?_
  refine xt_v3 (key := 55) (q := q_X6_composed) rfl rfl rfl rfl rfl ⟨Nat.le_of_ble_eq_true rfl, Nat.le_of_ble_eq_true rfl⟩ ⟨_, _, rfl, rfl⟩ (fun rv_ S1 M_178 hq_178 => ?_)
  obtain ⟨eS_, hC0⟩ := hq_178 _ _ rfl
  replace eS_ := eS_.symm
  subst eS_
  have hC := CE_composed hC0
  obtain ⟨v1, rfl⟩ : ∃ v, rv_ = some (.inl v) := ⟨_, hC.2.2.1⟩
  try dsimp only [Option.toList, List.cons_append, List.nil_append]
  refine xt_aln2 rfl (by decide) ?_
  refine xt_acn0 rfl ?_
  refine xt_iln3 rfl ?_
  refine xt_ic ?_
  refine xt_add ?_
  refine xt_kal rfl (show vp_in _ L from g7 hL h6 (by decide)) ?_
  refine xt_acn0 rfl ?_
  refine xt_iln3 rfl ?_
  refine xt_ic ?_
  refine xt_add ?_
  refine xt_kal rfl (show vp_in _ L from g7 hL h6 (by decide)) ?_
  refine xt_v3 (key := 67) (q := q_X7_composed) rfl rfl rfl rfl rfl ⟨Nat.le_of_ble_eq_true rfl, Nat.le_of_ble_eq_true rfl⟩ ⟨_, _, 0, (lw_mid hLI hC).1, rfl, rfl⟩ (fun rv_ S1 M_192 hq_192 => ?_)
  obtain ⟨eS_, hR⟩ := hq_192 _ _ rfl
  replace eS_ := eS_.symm
  subst eS_
  obtain ⟨v2, rfl⟩ : ∃ v, rv_ = some (.inl v) := ⟨_, hR.2.2.1⟩
  obtain ⟨hL2, v, e1, e2⟩ := lw_step (sp := fun V => spComposed V _ _) (by omega) hLI (kComposed _ _) hC hR
  have hve : v1 = v2 := by cases e1; cases e2; rfl
  try dsimp only [Option.toList, List.cons_append, List.nil_append]
  refine xt_ceq (t := 1042) rfl (fun hc_195 => ?_) (fun hc_195 => ?_)
  · skip
    refine xt_blk rfl rfl (by dsimp only [List.take]) ?_
    refine xt_inc rfl (by dsimp only [x_sto]) ?_
    refine xt_goto (t := 18) rfl ?_
    refine xt_cut rfl rfl (by dsimp only [List.take]) ?_
    exact ⟨600 - (i + 1), by omega, i + 1, by omega, hL2, rfl, rfl, rfl, rfl, rfl, by rw [nI_add], rfl⟩
  · exact absurd hve hc_195
set_option maxHeartbeats 4000000 in
set_option maxRecDepth 100000 in
theorem law_c2 {L i : Nat} {xs : Nat → Int32} {M : x_M} (hL : L ≤ 3072) (h6 : 6 * i + 6 ≤ L) (hi : i ≤ 512) (hLI : LI i M) : x_go (X_law L xs) lwZ b_L_law [18] (fun pc ls st S M cs sl => ∃ μ, μ < 600 - i ∧ lwI μ pc ls st S M cs sl) 29 200 [.inr (.inr 5), .inr (.inl 0), .inr (.inl 53), .inl (nI (6 * i))] [] SH M 71 2480 := by
  refine xt_blk rfl rfl (by dsimp only [List.take]) ?_
  refine xt_aln1 rfl (by decide) ?_
  refine xt_acn0 rfl ?_
  refine xt_iln3 rfl ?_
  refine xt_ic ?_
  refine xt_add ?_
  refine xt_kal rfl (show vp_in _ L from g7 hL h6 (by decide)) ?_
  refine xt_acn0 rfl ?_
  refine xt_iln3 rfl ?_
  refine xt_ic ?_
  refine xt_add ?_
  refine xt_kal rfl (show vp_in _ L from g7 hL h6 (by decide)) ?_
  refine xt_v3 (key := 70) (q := q_X6_near) rfl rfl rfl rfl rfl ⟨Nat.le_of_ble_eq_true rfl, Nat.le_of_ble_eq_true rfl⟩ ⟨_, _, i, hLI.1, rfl, rfl⟩ (fun rv_ S1 M_211 hq_211 => ?_)
  obtain ⟨eS_, hC0⟩ := hq_211 _ _ rfl
  replace eS_ := eS_.symm
  subst eS_
  have hC := hC0
  obtain ⟨v1, rfl⟩ : ∃ v, rv_ = some (.inl v) := ⟨_, hC.2.2.1⟩
  try dsimp only [Option.toList, List.cons_append, List.nil_append]
  refine xt_aln2 rfl (by decide) ?_
  refine xt_acn0 rfl ?_
  refine xt_iln3 rfl ?_
  refine xt_ic ?_
  refine xt_add ?_
  refine xt_kal rfl (show vp_in _ L from g7 hL h6 (by decide)) ?_
  refine xt_acn0 rfl ?_
  refine xt_iln3 rfl ?_
  refine xt_ic ?_
  refine xt_add ?_
  refine xt_kal rfl (show vp_in _ L from g7 hL h6 (by decide)) ?_
  refine xt_v3 (key := 79) (q := q_X7_near) rfl rfl rfl rfl rfl ⟨Nat.le_of_ble_eq_true rfl, Nat.le_of_ble_eq_true rfl⟩ ⟨_, _, 0, (lw_mid hLI hC).1, rfl, rfl⟩ (fun rv_ S1 M_225 hq_225 => ?_)
  obtain ⟨eS_, hR⟩ := hq_225 _ _ rfl
  replace eS_ := eS_.symm
  subst eS_
  obtain ⟨v2, rfl⟩ : ∃ v, rv_ = some (.inl v) := ⟨_, hR.2.2.1⟩
  obtain ⟨hL2, v, e1, e2⟩ := lw_step (sp := fun V => spNear V _ _) (by omega) hLI (kNear _ _) hC hR
  have hve : v1 = v2 := by cases e1; cases e2; rfl
  try dsimp only [Option.toList, List.cons_append, List.nil_append]
  refine xt_ceq (t := 1042) rfl (fun hc_228 => ?_) (fun hc_228 => ?_)
  · skip
    refine xt_blk rfl rfl (by dsimp only [List.take]) ?_
    refine xt_inc rfl (by dsimp only [x_sto]) ?_
    refine xt_goto (t := 18) rfl ?_
    refine xt_cut rfl rfl (by dsimp only [List.take]) ?_
    exact ⟨600 - (i + 1), by omega, i + 1, by omega, hL2, rfl, rfl, rfl, rfl, rfl, by rw [nI_add], rfl⟩
  · exact absurd hve hc_228
set_option maxHeartbeats 4000000 in
set_option maxRecDepth 100000 in
theorem law_c3 {L i : Nat} {xs : Nat → Int32} {M : x_M} (hL : L ≤ 3072) (h6 : 6 * i + 6 ≤ L) (hi : i ≤ 512) (hLI : LI i M) : x_go (X_law L xs) lwZ b_L_law [18] (fun pc ls st S M cs sl => ∃ μ, μ < 600 - i ∧ lwI μ pc ls st S M cs sl) 29 233 [.inr (.inr 5), .inr (.inl 0), .inr (.inl 53), .inl (nI (6 * i))] [] SH M 71 2480 := by
  refine xt_blk rfl rfl (by dsimp only [List.take]) ?_
  refine xt_aln1 rfl (by decide) ?_
  refine xt_acn0 rfl ?_
  refine xt_iln3 rfl ?_
  refine xt_ic ?_
  refine xt_add ?_
  refine xt_kal rfl (show vp_in _ L from g7 hL h6 (by decide)) ?_
  refine xt_acn0 rfl ?_
  refine xt_iln3 rfl ?_
  refine xt_ic ?_
  refine xt_add ?_
  refine xt_kal rfl (show vp_in _ L from g7 hL h6 (by decide)) ?_
  refine xt_v3 (key := 82) (q := q_X6_steps) rfl rfl rfl rfl rfl ⟨Nat.le_of_ble_eq_true rfl, Nat.le_of_ble_eq_true rfl⟩ ⟨_, _, rfl, rfl⟩ (fun rv_ S1 M_244 hq_244 => ?_)
  obtain ⟨eS_, hC0⟩ := hq_244 _ _ rfl
  replace eS_ := eS_.symm
  subst eS_
  have hC := CE_steps hC0
  obtain ⟨v1, rfl⟩ : ∃ v, rv_ = some (.inl v) := ⟨_, hC.2.2.1⟩
  try dsimp only [Option.toList, List.cons_append, List.nil_append]
  refine xt_aln2 rfl (by decide) ?_
  refine xt_acn0 rfl ?_
  refine xt_iln3 rfl ?_
  refine xt_ic ?_
  refine xt_add ?_
  refine xt_kal rfl (show vp_in _ L from g7 hL h6 (by decide)) ?_
  refine xt_acn0 rfl ?_
  refine xt_iln3 rfl ?_
  refine xt_ic ?_
  refine xt_add ?_
  refine xt_kal rfl (show vp_in _ L from g7 hL h6 (by decide)) ?_
  refine xt_v3 (key := 91) (q := q_X7_steps) rfl rfl rfl rfl rfl ⟨Nat.le_of_ble_eq_true rfl, Nat.le_of_ble_eq_true rfl⟩ ⟨_, _, 0, (lw_mid hLI hC).1, rfl, rfl⟩ (fun rv_ S1 M_258 hq_258 => ?_)
  obtain ⟨eS_, hR⟩ := hq_258 _ _ rfl
  replace eS_ := eS_.symm
  subst eS_
  obtain ⟨v2, rfl⟩ : ∃ v, rv_ = some (.inl v) := ⟨_, hR.2.2.1⟩
  obtain ⟨hL2, v, e1, e2⟩ := lw_step (sp := fun V => spSteps V _ _) (by omega) hLI (kSteps _ _) hC hR
  have hve : v1 = v2 := by cases e1; cases e2; rfl
  try dsimp only [Option.toList, List.cons_append, List.nil_append]
  refine xt_ceq (t := 1042) rfl (fun hc_261 => ?_) (fun hc_261 => ?_)
  · skip
    refine xt_blk rfl rfl (by dsimp only [List.take]) ?_
    refine xt_inc rfl (by dsimp only [x_sto]) ?_
    refine xt_goto (t := 18) rfl ?_
    refine xt_cut rfl rfl (by dsimp only [List.take]) ?_
    exact ⟨600 - (i + 1), by omega, i + 1, by omega, hL2, rfl, rfl, rfl, rfl, rfl, by rw [nI_add], rfl⟩
  · exact absurd hve hc_261
set_option maxHeartbeats 4000000 in
set_option maxRecDepth 100000 in
theorem law_c4 {L i : Nat} {xs : Nat → Int32} {M : x_M} (hL : L ≤ 3072) (h6 : 6 * i + 6 ≤ L) (hi : i ≤ 512) (hLI : LI i M) : x_go (X_law L xs) lwZ b_L_law [18] (fun pc ls st S M cs sl => ∃ μ, μ < 600 - i ∧ lwI μ pc ls st S M cs sl) 29 266 [.inr (.inr 5), .inr (.inl 0), .inr (.inl 53), .inl (nI (6 * i))] [] SH M 71 2480 := by
  refine xt_blk rfl rfl (by dsimp only [List.take]) ?_
  refine xt_aln1 rfl (by decide) ?_
  refine xt_acn0 rfl ?_
  refine xt_iln3 rfl ?_
  refine xt_ic ?_
  refine xt_add ?_
  refine xt_kal rfl (show vp_in _ L from g7 hL h6 (by decide)) ?_
  refine xt_acn0 rfl ?_
  refine xt_iln3 rfl ?_
  refine xt_ic ?_
  refine xt_add ?_
  refine xt_kal rfl (show vp_in _ L from g7 hL h6 (by decide)) ?_
  refine xt_acn0 rfl ?_
  refine xt_iln3 rfl ?_
  refine xt_ic ?_
  refine xt_add ?_
  refine xt_kal rfl (show vp_in _ L from g7 hL h6 (by decide)) ?_
  refine xt_acn0 rfl ?_
  refine xt_iln3 rfl ?_
  refine xt_ic ?_
  refine xt_add ?_
  refine xt_kal rfl (show vp_in _ L from g7 hL h6 (by decide)) ?_
  refine xt_v5 (key := 94) (q := q_X6_tell) rfl rfl rfl rfl rfl ⟨Nat.le_of_ble_eq_true rfl, Nat.le_of_ble_eq_true rfl⟩ ⟨_, _, _, _, i, hLI.1, rfl, rfl⟩ (fun rv_ S1 M_287 hq_287 => ?_)
  obtain ⟨eS_, hC0⟩ := hq_287 _ _ _ _ rfl
  replace eS_ := eS_.symm
  subst eS_
  have hC := hC0
  obtain ⟨v1, rfl⟩ : ∃ v, rv_ = some (.inl v) := ⟨_, hC.2.2.1⟩
  try dsimp only [Option.toList, List.cons_append, List.nil_append]
  refine xt_aln2 rfl (by decide) ?_
  refine xt_acn0 rfl ?_
  refine xt_iln3 rfl ?_
  refine xt_ic ?_
  refine xt_add ?_
  refine xt_kal rfl (show vp_in _ L from g7 hL h6 (by decide)) ?_
  refine xt_acn0 rfl ?_
  refine xt_iln3 rfl ?_
  refine xt_ic ?_
  refine xt_add ?_
  refine xt_kal rfl (show vp_in _ L from g7 hL h6 (by decide)) ?_
  refine xt_acn0 rfl ?_
  refine xt_iln3 rfl ?_
  refine xt_ic ?_
  refine xt_add ?_
  refine xt_kal rfl (show vp_in _ L from g7 hL h6 (by decide)) ?_
  refine xt_acn0 rfl ?_
  refine xt_iln3 rfl ?_
  refine xt_ic ?_
  refine xt_add ?_
  refine xt_kal rfl (show vp_in _ L from g7 hL h6 (by decide)) ?_
  refine xt_v5 (key := 106) (q := q_X7_tell) rfl rfl rfl rfl rfl ⟨Nat.le_of_ble_eq_true rfl, Nat.le_of_ble_eq_true rfl⟩ ⟨_, _, _, _, 0, (lw_mid hLI hC).1, rfl, rfl⟩ (fun rv_ S1 M_311 hq_311 => ?_)
  obtain ⟨eS_, hR⟩ := hq_311 _ _ _ _ rfl
  replace eS_ := eS_.symm
  subst eS_
  obtain ⟨v2, rfl⟩ : ∃ v, rv_ = some (.inl v) := ⟨_, hR.2.2.1⟩
  obtain ⟨hL2, v, e1, e2⟩ := lw_step (sp := fun V => spTell V _ _ _ _) (by omega) hLI (kTell _ _ _ _) hC hR
  have hve : v1 = v2 := by cases e1; cases e2; rfl
  try dsimp only [Option.toList, List.cons_append, List.nil_append]
  refine xt_ceq (t := 1042) rfl (fun hc_314 => ?_) (fun hc_314 => ?_)
  · skip
    refine xt_blk rfl rfl (by dsimp only [List.take]) ?_
    refine xt_inc rfl (by dsimp only [x_sto]) ?_
    refine xt_goto (t := 18) rfl ?_
    refine xt_cut rfl rfl (by dsimp only [List.take]) ?_
    exact ⟨600 - (i + 1), by omega, i + 1, by omega, hL2, rfl, rfl, rfl, rfl, rfl, by rw [nI_add], rfl⟩
  · exact absurd hve hc_314
set_option maxHeartbeats 4000000 in
set_option maxRecDepth 100000 in
theorem law_c5 {L i : Nat} {xs : Nat → Int32} {M : x_M} (hL : L ≤ 3072) (h6 : 6 * i + 6 ≤ L) (hi : i ≤ 512) (hLI : LI i M) : x_go (X_law L xs) lwZ b_L_law [18] (fun pc ls st S M cs sl => ∃ μ, μ < 600 - i ∧ lwI μ pc ls st S M cs sl) 29 319 [.inr (.inr 5), .inr (.inl 0), .inr (.inl 53), .inl (nI (6 * i))] [] SH M 71 2480 := by
  refine xt_blk rfl rfl (by dsimp only [List.take]) ?_
  refine xt_aln1 rfl (by decide) ?_
  refine xt_acn0 rfl ?_
  refine xt_iln3 rfl ?_
  refine xt_ic ?_
  refine xt_add ?_
  refine xt_kal rfl (show vp_in _ L from g7 hL h6 (by decide)) ?_
  refine xt_acn0 rfl ?_
  refine xt_iln3 rfl ?_
  refine xt_ic ?_
  refine xt_add ?_
  refine xt_kal rfl (show vp_in _ L from g7 hL h6 (by decide)) ?_
  refine xt_eq (t := 337) rfl (fun hc_330 => ?_) (fun hc_330 => ?_)
  · skip
    refine xt_blk rfl rfl (by dsimp only [List.take]) ?_
    refine xt_ic ?_
    refine xt_nil (t := 338) rfl ?_
    refine xt_blk rfl rfl (by dsimp only [List.take]) ?_
    refine xt_v3 (key := 109) (q := q_X6_silent) rfl rfl rfl rfl rfl ⟨Nat.le_of_ble_eq_true rfl, Nat.le_of_ble_eq_true rfl⟩ ⟨_, _, i, hLI.1, rfl, rfl⟩ (fun rv_ S1 M_338 hq_338 => ?_)
    obtain ⟨eS_, hC0⟩ := hq_338 _ _ rfl
    replace eS_ := eS_.symm
    subst eS_
    have hC := hC0
    obtain ⟨v1, rfl⟩ : ∃ v, rv_ = some (.inl v) := ⟨_, hC.2.2.1⟩
    try dsimp only [Option.toList, List.cons_append, List.nil_append]
    refine xt_aln2 rfl (by decide) ?_
    refine xt_acn0 rfl ?_
    refine xt_iln3 rfl ?_
    refine xt_ic ?_
    refine xt_add ?_
    refine xt_kal rfl (show vp_in _ L from g7 hL h6 (by decide)) ?_
    refine xt_acn0 rfl ?_
    refine xt_iln3 rfl ?_
    refine xt_ic ?_
    refine xt_add ?_
    refine xt_kal rfl (show vp_in _ L from g7 hL h6 (by decide)) ?_
    refine xt_eq (t := 359) rfl (fun hc_352 => ?_) (fun hc_352 => ?_)
    · skip
      refine xt_blk rfl rfl (by dsimp only [List.take]) ?_
      refine xt_ic ?_
      refine xt_nil (t := 360) rfl ?_
      refine xt_blk rfl rfl (by dsimp only [List.take]) ?_
      refine xt_v3 (key := 121) (q := q_X7_silent) rfl rfl rfl rfl rfl ⟨Nat.le_of_ble_eq_true rfl, Nat.le_of_ble_eq_true rfl⟩ ⟨_, _, 0, (lw_mid hLI hC).1, rfl, rfl⟩ (fun rv_ S1 M_360 hq_360 => ?_)
      obtain ⟨eS_, hR⟩ := hq_360 _ _ rfl
      replace eS_ := eS_.symm
      subst eS_
      obtain ⟨v2, rfl⟩ : ∃ v, rv_ = some (.inl v) := ⟨_, hR.2.2.1⟩
      obtain ⟨hL2, v, e1, e2⟩ := lw_step (sp := fun V => spSilent V _ _) (by omega) hLI (kSilent _ _) hC hR
      have hve : v1 = v2 := by cases e1; cases e2; rfl
      try dsimp only [Option.toList, List.cons_append, List.nil_append]
      refine xt_ceq (t := 1042) rfl (fun hc_363 => ?_) (fun hc_363 => ?_)
      · skip
        refine xt_blk rfl rfl (by dsimp only [List.take]) ?_
        refine xt_inc rfl (by dsimp only [x_sto]) ?_
        refine xt_goto (t := 18) rfl ?_
        refine xt_cut rfl rfl (by dsimp only [List.take]) ?_
        exact ⟨600 - (i + 1), by omega, i + 1, by omega, hL2, rfl, rfl, rfl, rfl, rfl, by rw [nI_add], rfl⟩
      · exact absurd hve hc_363
    · skip
      exact absurd hc_330 hc_352
  · skip
    refine xt_ic ?_
    refine xt_goto (t := 338) rfl ?_
    refine xt_blk rfl rfl (by dsimp only [List.take]) ?_
    refine xt_v3 (key := 109) (q := q_X6_silent) rfl rfl rfl rfl rfl ⟨Nat.le_of_ble_eq_true rfl, Nat.le_of_ble_eq_true rfl⟩ ⟨_, _, i, hLI.1, rfl, rfl⟩ (fun rv_ S1 M_338 hq_338 => ?_)
    obtain ⟨eS_, hC0⟩ := hq_338 _ _ rfl
    replace eS_ := eS_.symm
    subst eS_
    have hC := hC0
    obtain ⟨v1, rfl⟩ : ∃ v, rv_ = some (.inl v) := ⟨_, hC.2.2.1⟩
    try dsimp only [Option.toList, List.cons_append, List.nil_append]
    refine xt_aln2 rfl (by decide) ?_
    refine xt_acn0 rfl ?_
    refine xt_iln3 rfl ?_
    refine xt_ic ?_
    refine xt_add ?_
    refine xt_kal rfl (show vp_in _ L from g7 hL h6 (by decide)) ?_
    refine xt_acn0 rfl ?_
    refine xt_iln3 rfl ?_
    refine xt_ic ?_
    refine xt_add ?_
    refine xt_kal rfl (show vp_in _ L from g7 hL h6 (by decide)) ?_
    refine xt_eq (t := 359) rfl (fun hc_352 => ?_) (fun hc_352 => ?_)
    · skip
      exact absurd hc_352 hc_330
    · skip
      refine xt_ic ?_
      refine xt_goto (t := 360) rfl ?_
      refine xt_blk rfl rfl (by dsimp only [List.take]) ?_
      refine xt_v3 (key := 121) (q := q_X7_silent) rfl rfl rfl rfl rfl ⟨Nat.le_of_ble_eq_true rfl, Nat.le_of_ble_eq_true rfl⟩ ⟨_, _, 0, (lw_mid hLI hC).1, rfl, rfl⟩ (fun rv_ S1 M_360 hq_360 => ?_)
      obtain ⟨eS_, hR⟩ := hq_360 _ _ rfl
      replace eS_ := eS_.symm
      subst eS_
      obtain ⟨v2, rfl⟩ : ∃ v, rv_ = some (.inl v) := ⟨_, hR.2.2.1⟩
      obtain ⟨hL2, v, e1, e2⟩ := lw_step (sp := fun V => spSilent V _ _) (by omega) hLI (kSilent _ _) hC hR
      have hve : v1 = v2 := by cases e1; cases e2; rfl
      try dsimp only [Option.toList, List.cons_append, List.nil_append]
      refine xt_ceq (t := 1042) rfl (fun hc_363 => ?_) (fun hc_363 => ?_)
      · skip
        refine xt_blk rfl rfl (by dsimp only [List.take]) ?_
        refine xt_inc rfl (by dsimp only [x_sto]) ?_
        refine xt_goto (t := 18) rfl ?_
        refine xt_cut rfl rfl (by dsimp only [List.take]) ?_
        exact ⟨600 - (i + 1), by omega, i + 1, by omega, hL2, rfl, rfl, rfl, rfl, rfl, by rw [nI_add], rfl⟩
      · exact absurd hve hc_363
set_option maxHeartbeats 4000000 in
set_option maxRecDepth 100000 in
theorem law_c6 {L i : Nat} {xs : Nat → Int32} {M : x_M} (hL : L ≤ 3072) (h6 : 6 * i + 6 ≤ L) (hi : i ≤ 512) (hLI : LI i M) : x_go (X_law L xs) lwZ b_L_law [18] (fun pc ls st S M cs sl => ∃ μ, μ < 600 - i ∧ lwI μ pc ls st S M cs sl) 29 368 [.inr (.inr 5), .inr (.inl 0), .inr (.inl 53), .inl (nI (6 * i))] [] SH M 71 2480 := by
  refine xt_blk rfl rfl (by dsimp only [List.take]) ?_
  refine xt_aln1 rfl (by decide) ?_
  refine xt_acn0 rfl ?_
  refine xt_iln3 rfl ?_
  refine xt_ic ?_
  refine xt_add ?_
  refine xt_kal rfl (show vp_in _ L from g7 hL h6 (by decide)) ?_
  refine xt_acn0 rfl ?_
  refine xt_iln3 rfl ?_
  refine xt_ic ?_
  refine xt_add ?_
  refine xt_kal rfl (show vp_in _ L from g7 hL h6 (by decide)) ?_
  refine xt_v3 (key := 124) (q := q_X6_statement) rfl rfl rfl rfl rfl ⟨Nat.le_of_ble_eq_true rfl, Nat.le_of_ble_eq_true rfl⟩ ⟨_, _, i, hLI.1, rfl, rfl⟩ (fun rv_ S1 M_379 hq_379 => ?_)
  obtain ⟨eS_, hC0⟩ := hq_379 _ _ rfl
  replace eS_ := eS_.symm
  subst eS_
  have hC := hC0
  obtain ⟨v1, rfl⟩ : ∃ v, rv_ = some (.inl v) := ⟨_, hC.2.2.1⟩
  try dsimp only [Option.toList, List.cons_append, List.nil_append]
  refine xt_aln2 rfl (by decide) ?_
  refine xt_acn0 rfl ?_
  refine xt_iln3 rfl ?_
  refine xt_ic ?_
  refine xt_add ?_
  refine xt_kal rfl (show vp_in _ L from g7 hL h6 (by decide)) ?_
  refine xt_acn0 rfl ?_
  refine xt_iln3 rfl ?_
  refine xt_ic ?_
  refine xt_add ?_
  refine xt_kal rfl (show vp_in _ L from g7 hL h6 (by decide)) ?_
  refine xt_v3 (key := 133) (q := q_X7_statement) rfl rfl rfl rfl rfl ⟨Nat.le_of_ble_eq_true rfl, Nat.le_of_ble_eq_true rfl⟩ ⟨_, _, 0, (lw_mid hLI hC).1, rfl, rfl⟩ (fun rv_ S1 M_393 hq_393 => ?_)
  obtain ⟨eS_, hR⟩ := hq_393 _ _ rfl
  replace eS_ := eS_.symm
  subst eS_
  obtain ⟨v2, rfl⟩ : ∃ v, rv_ = some (.inl v) := ⟨_, hR.2.2.1⟩
  obtain ⟨hL2, v, e1, e2⟩ := lw_step (sp := fun V => spStatement V _ _) (by omega) hLI (kStatement _ _) hC hR
  have hve : v1 = v2 := by cases e1; cases e2; rfl
  try dsimp only [Option.toList, List.cons_append, List.nil_append]
  refine xt_ceq (t := 1042) rfl (fun hc_396 => ?_) (fun hc_396 => ?_)
  · skip
    refine xt_blk rfl rfl (by dsimp only [List.take]) ?_
    refine xt_inc rfl (by dsimp only [x_sto]) ?_
    refine xt_goto (t := 18) rfl ?_
    refine xt_cut rfl rfl (by dsimp only [List.take]) ?_
    exact ⟨600 - (i + 1), by omega, i + 1, by omega, hL2, rfl, rfl, rfl, rfl, rfl, by rw [nI_add], rfl⟩
  · exact absurd hve hc_396
set_option maxHeartbeats 4000000 in
set_option maxRecDepth 100000 in
theorem law_c7 {L i : Nat} {xs : Nat → Int32} {M : x_M} (hL : L ≤ 3072) (h6 : 6 * i + 6 ≤ L) (hi : i ≤ 512) (hLI : LI i M) : x_go (X_law L xs) lwZ b_L_law [18] (fun pc ls st S M cs sl => ∃ μ, μ < 600 - i ∧ lwI μ pc ls st S M cs sl) 29 401 [.inr (.inr 5), .inr (.inl 0), .inr (.inl 53), .inl (nI (6 * i))] [] SH M 71 2480 := by
  refine xt_blk rfl rfl (by dsimp only [List.take]) ?_
  refine xt_aln1 rfl (by decide) ?_
  refine xt_acn0 rfl ?_
  refine xt_iln3 rfl ?_
  refine xt_ic ?_
  refine xt_add ?_
  refine xt_kal rfl (show vp_in _ L from g7 hL h6 (by decide)) ?_
  refine xt_acn0 rfl ?_
  refine xt_iln3 rfl ?_
  refine xt_ic ?_
  refine xt_add ?_
  refine xt_kal rfl (show vp_in _ L from g7 hL h6 (by decide)) ?_
  refine xt_acn0 rfl ?_
  refine xt_iln3 rfl ?_
  refine xt_ic ?_
  refine xt_add ?_
  refine xt_kal rfl (show vp_in _ L from g7 hL h6 (by decide)) ?_
  refine xt_v4 (key := 136) (q := q_X6_told) rfl rfl rfl rfl rfl ⟨Nat.le_of_ble_eq_true rfl, Nat.le_of_ble_eq_true rfl⟩ ⟨_, _, _, i, hLI.1, rfl, rfl⟩ (fun rv_ S1 M_417 hq_417 => ?_)
  obtain ⟨eS_, hC0⟩ := hq_417 _ _ _ rfl
  replace eS_ := eS_.symm
  subst eS_
  have hC := hC0
  obtain ⟨v1, rfl⟩ : ∃ v, rv_ = some (.inl v) := ⟨_, hC.2.2.1⟩
  try dsimp only [Option.toList, List.cons_append, List.nil_append]
  refine xt_aln2 rfl (by decide) ?_
  refine xt_acn0 rfl ?_
  refine xt_iln3 rfl ?_
  refine xt_ic ?_
  refine xt_add ?_
  refine xt_kal rfl (show vp_in _ L from g7 hL h6 (by decide)) ?_
  refine xt_acn0 rfl ?_
  refine xt_iln3 rfl ?_
  refine xt_ic ?_
  refine xt_add ?_
  refine xt_kal rfl (show vp_in _ L from g7 hL h6 (by decide)) ?_
  refine xt_acn0 rfl ?_
  refine xt_iln3 rfl ?_
  refine xt_ic ?_
  refine xt_add ?_
  refine xt_kal rfl (show vp_in _ L from g7 hL h6 (by decide)) ?_
  refine xt_v4 (key := 148) (q := q_X7_told) rfl rfl rfl rfl rfl ⟨Nat.le_of_ble_eq_true rfl, Nat.le_of_ble_eq_true rfl⟩ ⟨_, _, _, 0, (lw_mid hLI hC).1, rfl, rfl⟩ (fun rv_ S1 M_436 hq_436 => ?_)
  obtain ⟨eS_, hR⟩ := hq_436 _ _ _ rfl
  replace eS_ := eS_.symm
  subst eS_
  obtain ⟨v2, rfl⟩ : ∃ v, rv_ = some (.inl v) := ⟨_, hR.2.2.1⟩
  obtain ⟨hL2, v, e1, e2⟩ := lw_step (sp := fun V => spTold V _ _ _) (by omega) hLI (kTold _ _ _) hC hR
  have hve : v1 = v2 := by cases e1; cases e2; rfl
  try dsimp only [Option.toList, List.cons_append, List.nil_append]
  refine xt_ceq (t := 1042) rfl (fun hc_439 => ?_) (fun hc_439 => ?_)
  · skip
    refine xt_blk rfl rfl (by dsimp only [List.take]) ?_
    refine xt_inc rfl (by dsimp only [x_sto]) ?_
    refine xt_goto (t := 18) rfl ?_
    refine xt_cut rfl rfl (by dsimp only [List.take]) ?_
    exact ⟨600 - (i + 1), by omega, i + 1, by omega, hL2, rfl, rfl, rfl, rfl, rfl, by rw [nI_add], rfl⟩
  · exact absurd hve hc_439
set_option maxHeartbeats 4000000 in
set_option maxRecDepth 100000 in
theorem law_c8 {L i : Nat} {xs : Nat → Int32} {M : x_M} (hL : L ≤ 3072) (h6 : 6 * i + 6 ≤ L) (hi : i ≤ 512) (hLI : LI i M) : x_go (X_law L xs) lwZ b_L_law [18] (fun pc ls st S M cs sl => ∃ μ, μ < 600 - i ∧ lwI μ pc ls st S M cs sl) 29 444 [.inr (.inr 5), .inr (.inl 0), .inr (.inl 53), .inl (nI (6 * i))] [] SH M 71 2480 := by
  refine xt_blk rfl rfl (by dsimp only [List.take]) ?_
  refine xt_aln1 rfl (by decide) ?_
  refine xt_acn0 rfl ?_
  refine xt_iln3 rfl ?_
  refine xt_ic ?_
  refine xt_add ?_
  refine xt_kal rfl (show vp_in _ L from g7 hL h6 (by decide)) ?_
  refine xt_acn0 rfl ?_
  refine xt_iln3 rfl ?_
  refine xt_ic ?_
  refine xt_add ?_
  refine xt_kal rfl (show vp_in _ L from g7 hL h6 (by decide)) ?_
  refine xt_acn0 rfl ?_
  refine xt_iln3 rfl ?_
  refine xt_ic ?_
  refine xt_add ?_
  refine xt_kal rfl (show vp_in _ L from g7 hL h6 (by decide)) ?_
  refine xt_v4 (key := 151) (q := q_X6_closed) rfl rfl rfl rfl rfl ⟨Nat.le_of_ble_eq_true rfl, Nat.le_of_ble_eq_true rfl⟩ ⟨_, _, _, i, hLI.1, rfl, rfl⟩ (fun rv_ S1 M_460 hq_460 => ?_)
  obtain ⟨eS_, hC0⟩ := hq_460 _ _ _ rfl
  replace eS_ := eS_.symm
  subst eS_
  have hC := hC0
  obtain ⟨v1, rfl⟩ : ∃ v, rv_ = some (.inl v) := ⟨_, hC.2.2.1⟩
  try dsimp only [Option.toList, List.cons_append, List.nil_append]
  refine xt_aln2 rfl (by decide) ?_
  refine xt_acn0 rfl ?_
  refine xt_iln3 rfl ?_
  refine xt_ic ?_
  refine xt_add ?_
  refine xt_kal rfl (show vp_in _ L from g7 hL h6 (by decide)) ?_
  refine xt_acn0 rfl ?_
  refine xt_iln3 rfl ?_
  refine xt_ic ?_
  refine xt_add ?_
  refine xt_kal rfl (show vp_in _ L from g7 hL h6 (by decide)) ?_
  refine xt_acn0 rfl ?_
  refine xt_iln3 rfl ?_
  refine xt_ic ?_
  refine xt_add ?_
  refine xt_kal rfl (show vp_in _ L from g7 hL h6 (by decide)) ?_
  refine xt_v4 (key := 160) (q := q_X7_closed) rfl rfl rfl rfl rfl ⟨Nat.le_of_ble_eq_true rfl, Nat.le_of_ble_eq_true rfl⟩ ⟨_, _, _, 0, (lw_mid hLI hC).1, rfl, rfl⟩ (fun rv_ S1 M_479 hq_479 => ?_)
  obtain ⟨eS_, hR⟩ := hq_479 _ _ _ rfl
  replace eS_ := eS_.symm
  subst eS_
  obtain ⟨v2, rfl⟩ : ∃ v, rv_ = some (.inl v) := ⟨_, hR.2.2.1⟩
  obtain ⟨hL2, v, e1, e2⟩ := lw_step (sp := fun V => spClosed V _ _ _) (by omega) hLI (kClosed _ _ _) hC hR
  have hve : v1 = v2 := by cases e1; cases e2; rfl
  try dsimp only [Option.toList, List.cons_append, List.nil_append]
  refine xt_ceq (t := 1042) rfl (fun hc_482 => ?_) (fun hc_482 => ?_)
  · skip
    refine xt_blk rfl rfl (by dsimp only [List.take]) ?_
    refine xt_inc rfl (by dsimp only [x_sto]) ?_
    refine xt_goto (t := 18) rfl ?_
    refine xt_cut rfl rfl (by dsimp only [List.take]) ?_
    exact ⟨600 - (i + 1), by omega, i + 1, by omega, hL2, rfl, rfl, rfl, rfl, rfl, by rw [nI_add], rfl⟩
  · exact absurd hve hc_482
set_option maxHeartbeats 4000000 in
set_option maxRecDepth 100000 in
theorem law_c9 {L i : Nat} {xs : Nat → Int32} {M : x_M} (hL : L ≤ 3072) (h6 : 6 * i + 6 ≤ L) (hi : i ≤ 512) (hLI : LI i M) : x_go (X_law L xs) lwZ b_L_law [18] (fun pc ls st S M cs sl => ∃ μ, μ < 600 - i ∧ lwI μ pc ls st S M cs sl) 29 487 [.inr (.inr 5), .inr (.inl 0), .inr (.inl 53), .inl (nI (6 * i))] [] SH M 71 2480 := by
  refine xt_blk rfl rfl (by dsimp only [List.take]) ?_
  refine xt_aln1 rfl (by decide) ?_
  refine xt_acn0 rfl ?_
  refine xt_iln3 rfl ?_
  refine xt_ic ?_
  refine xt_add ?_
  refine xt_kal rfl (show vp_in _ L from g7 hL h6 (by decide)) ?_
  refine xt_v2 (key := 163) (q := q_X6_canBe) rfl rfl rfl rfl rfl ⟨Nat.le_of_ble_eq_true rfl, Nat.le_of_ble_eq_true rfl⟩ ⟨_, i, hLI.1, rfl, rfl⟩ (fun rv_ S1 M_493 hq_493 => ?_)
  obtain ⟨eS_, hC0⟩ := hq_493 _ rfl
  replace eS_ := eS_.symm
  subst eS_
  have hC := hC0
  obtain ⟨v1, rfl⟩ : ∃ v, rv_ = some (.inl v) := ⟨_, hC.2.2.1⟩
  try dsimp only [Option.toList, List.cons_append, List.nil_append]
  refine xt_aln2 rfl (by decide) ?_
  refine xt_acn0 rfl ?_
  refine xt_iln3 rfl ?_
  refine xt_ic ?_
  refine xt_add ?_
  refine xt_kal rfl (show vp_in _ L from g7 hL h6 (by decide)) ?_
  refine xt_v2 (key := 172) (q := q_X7_canBe) rfl rfl rfl rfl rfl ⟨Nat.le_of_ble_eq_true rfl, Nat.le_of_ble_eq_true rfl⟩ ⟨_, 0, (lw_mid hLI hC).1, rfl, rfl⟩ (fun rv_ S1 M_502 hq_502 => ?_)
  obtain ⟨eS_, hR⟩ := hq_502 _ rfl
  replace eS_ := eS_.symm
  subst eS_
  obtain ⟨v2, rfl⟩ : ∃ v, rv_ = some (.inl v) := ⟨_, hR.2.2.1⟩
  obtain ⟨hL2, v, e1, e2⟩ := lw_step (sp := fun V => spCanBe V _) (by omega) hLI (kCanBe _) hC hR
  have hve : v1 = v2 := by cases e1; cases e2; rfl
  try dsimp only [Option.toList, List.cons_append, List.nil_append]
  refine xt_ceq (t := 1042) rfl (fun hc_505 => ?_) (fun hc_505 => ?_)
  · skip
    refine xt_blk rfl rfl (by dsimp only [List.take]) ?_
    refine xt_inc rfl (by dsimp only [x_sto]) ?_
    refine xt_goto (t := 18) rfl ?_
    refine xt_cut rfl rfl (by dsimp only [List.take]) ?_
    exact ⟨600 - (i + 1), by omega, i + 1, by omega, hL2, rfl, rfl, rfl, rfl, rfl, by rw [nI_add], rfl⟩
  · exact absurd hve hc_505
set_option maxHeartbeats 4000000 in
set_option maxRecDepth 100000 in
theorem law_c10 {L i : Nat} {xs : Nat → Int32} {M : x_M} (hL : L ≤ 3072) (h6 : 6 * i + 6 ≤ L) (hi : i ≤ 512) (hLI : LI i M) : x_go (X_law L xs) lwZ b_L_law [18] (fun pc ls st S M cs sl => ∃ μ, μ < 600 - i ∧ lwI μ pc ls st S M cs sl) 29 510 [.inr (.inr 5), .inr (.inl 0), .inr (.inl 53), .inl (nI (6 * i))] [] SH M 71 2480 := by
  refine xt_blk rfl rfl (by dsimp only [List.take]) ?_
  refine xt_aln1 rfl (by decide) ?_
  refine xt_acn0 rfl ?_
  refine xt_iln3 rfl ?_
  refine xt_ic ?_
  refine xt_add ?_
  refine xt_kal rfl (show vp_in _ L from g7 hL h6 (by decide)) ?_
  refine xt_acn0 rfl ?_
  refine xt_iln3 rfl ?_
  refine xt_ic ?_
  refine xt_add ?_
  refine xt_kal rfl (show vp_in _ L from g7 hL h6 (by decide)) ?_
  refine xt_acn0 rfl ?_
  refine xt_iln3 rfl ?_
  refine xt_ic ?_
  refine xt_add ?_
  refine xt_kal rfl (show vp_in _ L from g7 hL h6 (by decide)) ?_
  refine xt_v4 (key := 175) (q := q_X6_can) rfl rfl rfl rfl rfl ⟨Nat.le_of_ble_eq_true rfl, Nat.le_of_ble_eq_true rfl⟩ ⟨_, _, _, i, hLI.1, rfl, rfl⟩ (fun rv_ S1 M_526 hq_526 => ?_)
  obtain ⟨eS_, hC0⟩ := hq_526 _ _ _ rfl
  replace eS_ := eS_.symm
  subst eS_
  have hC := hC0
  obtain ⟨v1, rfl⟩ : ∃ v, rv_ = some (.inl v) := ⟨_, hC.2.2.1⟩
  try dsimp only [Option.toList, List.cons_append, List.nil_append]
  refine xt_aln2 rfl (by decide) ?_
  refine xt_acn0 rfl ?_
  refine xt_iln3 rfl ?_
  refine xt_ic ?_
  refine xt_add ?_
  refine xt_kal rfl (show vp_in _ L from g7 hL h6 (by decide)) ?_
  refine xt_acn0 rfl ?_
  refine xt_iln3 rfl ?_
  refine xt_ic ?_
  refine xt_add ?_
  refine xt_kal rfl (show vp_in _ L from g7 hL h6 (by decide)) ?_
  refine xt_acn0 rfl ?_
  refine xt_iln3 rfl ?_
  refine xt_ic ?_
  refine xt_add ?_
  refine xt_kal rfl (show vp_in _ L from g7 hL h6 (by decide)) ?_
  refine xt_v4 (key := 184) (q := q_X7_can) rfl rfl rfl rfl rfl ⟨Nat.le_of_ble_eq_true rfl, Nat.le_of_ble_eq_true rfl⟩ ⟨_, _, _, 0, (lw_mid hLI hC).1, rfl, rfl⟩ (fun rv_ S1 M_545 hq_545 => ?_)
  obtain ⟨eS_, hR⟩ := hq_545 _ _ _ rfl
  replace eS_ := eS_.symm
  subst eS_
  obtain ⟨v2, rfl⟩ : ∃ v, rv_ = some (.inl v) := ⟨_, hR.2.2.1⟩
  obtain ⟨hL2, v, e1, e2⟩ := lw_step (sp := fun V => spCan V _ _ _) (by omega) hLI (kCan _ _ _) hC hR
  have hve : v1 = v2 := by cases e1; cases e2; rfl
  try dsimp only [Option.toList, List.cons_append, List.nil_append]
  refine xt_ceq (t := 1042) rfl (fun hc_548 => ?_) (fun hc_548 => ?_)
  · skip
    refine xt_blk rfl rfl (by dsimp only [List.take]) ?_
    refine xt_inc rfl (by dsimp only [x_sto]) ?_
    refine xt_goto (t := 18) rfl ?_
    refine xt_cut rfl rfl (by dsimp only [List.take]) ?_
    exact ⟨600 - (i + 1), by omega, i + 1, by omega, hL2, rfl, rfl, rfl, rfl, rfl, by rw [nI_add], rfl⟩
  · exact absurd hve hc_548
set_option maxHeartbeats 4000000 in
set_option maxRecDepth 100000 in
theorem law_c11 {L i : Nat} {xs : Nat → Int32} {M : x_M} (hL : L ≤ 3072) (h6 : 6 * i + 6 ≤ L) (hi : i ≤ 512) (hLI : LI i M) : x_go (X_law L xs) lwZ b_L_law [18] (fun pc ls st S M cs sl => ∃ μ, μ < 600 - i ∧ lwI μ pc ls st S M cs sl) 29 553 [.inr (.inr 5), .inr (.inl 0), .inr (.inl 53), .inl (nI (6 * i))] [] SH M 71 2480 := by
  refine xt_blk rfl rfl (by dsimp only [List.take]) ?_
  refine xt_aln1 rfl (by decide) ?_
  refine xt_acn0 rfl ?_
  refine xt_iln3 rfl ?_
  refine xt_ic ?_
  refine xt_add ?_
  refine xt_kal rfl (show vp_in _ L from g7 hL h6 (by decide)) ?_
  refine xt_acn0 rfl ?_
  refine xt_iln3 rfl ?_
  refine xt_ic ?_
  refine xt_add ?_
  refine xt_kal rfl (show vp_in _ L from g7 hL h6 (by decide)) ?_
  refine xt_acn0 rfl ?_
  refine xt_iln3 rfl ?_
  refine xt_ic ?_
  refine xt_add ?_
  refine xt_kal rfl (show vp_in _ L from g7 hL h6 (by decide)) ?_
  refine xt_v4 (key := 187) (q := q_X6_drawing) rfl rfl rfl rfl rfl ⟨Nat.le_of_ble_eq_true rfl, Nat.le_of_ble_eq_true rfl⟩ ⟨_, _, _, i, hLI.1, rfl, rfl⟩ (fun rv_ S1 M_569 hq_569 => ?_)
  obtain ⟨eS_, hC0⟩ := hq_569 _ _ _ rfl
  replace eS_ := eS_.symm
  subst eS_
  have hC := hC0
  obtain ⟨v1, rfl⟩ : ∃ v, rv_ = some (.inl v) := ⟨_, hC.2.2.1⟩
  try dsimp only [Option.toList, List.cons_append, List.nil_append]
  refine xt_aln2 rfl (by decide) ?_
  refine xt_acn0 rfl ?_
  refine xt_iln3 rfl ?_
  refine xt_ic ?_
  refine xt_add ?_
  refine xt_kal rfl (show vp_in _ L from g7 hL h6 (by decide)) ?_
  refine xt_acn0 rfl ?_
  refine xt_iln3 rfl ?_
  refine xt_ic ?_
  refine xt_add ?_
  refine xt_kal rfl (show vp_in _ L from g7 hL h6 (by decide)) ?_
  refine xt_acn0 rfl ?_
  refine xt_iln3 rfl ?_
  refine xt_ic ?_
  refine xt_add ?_
  refine xt_kal rfl (show vp_in _ L from g7 hL h6 (by decide)) ?_
  refine xt_v4 (key := 196) (q := q_X7_drawing) rfl rfl rfl rfl rfl ⟨Nat.le_of_ble_eq_true rfl, Nat.le_of_ble_eq_true rfl⟩ ⟨_, _, _, 0, (lw_mid hLI hC).1, rfl, rfl⟩ (fun rv_ S1 M_588 hq_588 => ?_)
  obtain ⟨eS_, hR⟩ := hq_588 _ _ _ rfl
  replace eS_ := eS_.symm
  subst eS_
  obtain ⟨v2, rfl⟩ : ∃ v, rv_ = some (.inl v) := ⟨_, hR.2.2.1⟩
  obtain ⟨hL2, v, e1, e2⟩ := lw_step (sp := fun V => spDrawing V _ _ _) (by omega) hLI (kDrawing _ _ _) hC hR
  have hve : v1 = v2 := by cases e1; cases e2; rfl
  try dsimp only [Option.toList, List.cons_append, List.nil_append]
  refine xt_ceq (t := 1042) rfl (fun hc_591 => ?_) (fun hc_591 => ?_)
  · skip
    refine xt_blk rfl rfl (by dsimp only [List.take]) ?_
    refine xt_inc rfl (by dsimp only [x_sto]) ?_
    refine xt_goto (t := 18) rfl ?_
    refine xt_cut rfl rfl (by dsimp only [List.take]) ?_
    exact ⟨600 - (i + 1), by omega, i + 1, by omega, hL2, rfl, rfl, rfl, rfl, rfl, by rw [nI_add], rfl⟩
  · exact absurd hve hc_591
set_option maxHeartbeats 4000000 in
set_option maxRecDepth 100000 in
theorem law_c12 {L i : Nat} {xs : Nat → Int32} {M : x_M} (hL : L ≤ 3072) (h6 : 6 * i + 6 ≤ L) (hi : i ≤ 512) (hLI : LI i M) : x_go (X_law L xs) lwZ b_L_law [18] (fun pc ls st S M cs sl => ∃ μ, μ < 600 - i ∧ lwI μ pc ls st S M cs sl) 29 596 [.inr (.inr 5), .inr (.inl 0), .inr (.inl 53), .inl (nI (6 * i))] [] SH M 71 2480 := by
  refine xt_blk rfl rfl (by dsimp only [List.take]) ?_
  refine xt_aln1 rfl (by decide) ?_
  refine xt_acn0 rfl ?_
  refine xt_iln3 rfl ?_
  refine xt_ic ?_
  refine xt_add ?_
  refine xt_kal rfl (show vp_in _ L from g7 hL h6 (by decide)) ?_
  refine xt_acn0 rfl ?_
  refine xt_iln3 rfl ?_
  refine xt_ic ?_
  refine xt_add ?_
  refine xt_kal rfl (show vp_in _ L from g7 hL h6 (by decide)) ?_
  refine xt_acn0 rfl ?_
  refine xt_iln3 rfl ?_
  refine xt_ic ?_
  refine xt_add ?_
  refine xt_kal rfl (show vp_in _ L from g7 hL h6 (by decide)) ?_
  refine xt_v4 (key := 199) (q := q_X6_drawn) rfl rfl rfl rfl rfl ⟨Nat.le_of_ble_eq_true rfl, Nat.le_of_ble_eq_true rfl⟩ ⟨_, _, _, i, hLI.1, rfl, rfl⟩ (fun rv_ S1 M_612 hq_612 => ?_)
  obtain ⟨eS_, hC0⟩ := hq_612 _ _ _ rfl
  replace eS_ := eS_.symm
  subst eS_
  have hC := hC0
  obtain ⟨v1, rfl⟩ : ∃ v, rv_ = some (.inl v) := ⟨_, hC.2.2.1⟩
  try dsimp only [Option.toList, List.cons_append, List.nil_append]
  refine xt_aln2 rfl (by decide) ?_
  refine xt_acn0 rfl ?_
  refine xt_iln3 rfl ?_
  refine xt_ic ?_
  refine xt_add ?_
  refine xt_kal rfl (show vp_in _ L from g7 hL h6 (by decide)) ?_
  refine xt_acn0 rfl ?_
  refine xt_iln3 rfl ?_
  refine xt_ic ?_
  refine xt_add ?_
  refine xt_kal rfl (show vp_in _ L from g7 hL h6 (by decide)) ?_
  refine xt_acn0 rfl ?_
  refine xt_iln3 rfl ?_
  refine xt_ic ?_
  refine xt_add ?_
  refine xt_kal rfl (show vp_in _ L from g7 hL h6 (by decide)) ?_
  refine xt_v4 (key := 208) (q := q_X7_drawn) rfl rfl rfl rfl rfl ⟨Nat.le_of_ble_eq_true rfl, Nat.le_of_ble_eq_true rfl⟩ ⟨_, _, _, 0, (lw_mid hLI hC).1, rfl, rfl⟩ (fun rv_ S1 M_631 hq_631 => ?_)
  obtain ⟨eS_, hR⟩ := hq_631 _ _ _ rfl
  replace eS_ := eS_.symm
  subst eS_
  obtain ⟨v2, rfl⟩ : ∃ v, rv_ = some (.inl v) := ⟨_, hR.2.2.1⟩
  obtain ⟨hL2, v, e1, e2⟩ := lw_step (sp := fun V => spDrawn V _ _ _) (by omega) hLI (kDrawn _ _ _) hC hR
  have hve : v1 = v2 := by cases e1; cases e2; rfl
  try dsimp only [Option.toList, List.cons_append, List.nil_append]
  refine xt_ceq (t := 1042) rfl (fun hc_634 => ?_) (fun hc_634 => ?_)
  · skip
    refine xt_blk rfl rfl (by dsimp only [List.take]) ?_
    refine xt_inc rfl (by dsimp only [x_sto]) ?_
    refine xt_goto (t := 18) rfl ?_
    refine xt_cut rfl rfl (by dsimp only [List.take]) ?_
    exact ⟨600 - (i + 1), by omega, i + 1, by omega, hL2, rfl, rfl, rfl, rfl, rfl, by rw [nI_add], rfl⟩
  · exact absurd hve hc_634
set_option maxHeartbeats 4000000 in
set_option maxRecDepth 100000 in
theorem law_c13 {L i : Nat} {xs : Nat → Int32} {M : x_M} (hL : L ≤ 3072) (h6 : 6 * i + 6 ≤ L) (hi : i ≤ 512) (hLI : LI i M) : x_go (X_law L xs) lwZ b_L_law [18] (fun pc ls st S M cs sl => ∃ μ, μ < 600 - i ∧ lwI μ pc ls st S M cs sl) 29 639 [.inr (.inr 5), .inr (.inl 0), .inr (.inl 53), .inl (nI (6 * i))] [] SH M 71 2480 := by
  refine xt_blk rfl rfl (by dsimp only [List.take]) ?_
  refine xt_aln1 rfl (by decide) ?_
  refine xt_acn0 rfl ?_
  refine xt_iln3 rfl ?_
  refine xt_ic ?_
  refine xt_add ?_
  refine xt_kal rfl (show vp_in _ L from g7 hL h6 (by decide)) ?_
  refine xt_v2 (key := 211) (q := q_X6_core) rfl rfl rfl rfl rfl ⟨Nat.le_of_ble_eq_true rfl, Nat.le_of_ble_eq_true rfl⟩ ⟨_, i, hLI.1, rfl, rfl⟩ (fun rv_ S1 M_645 hq_645 => ?_)
  obtain ⟨eS_, hC0⟩ := hq_645 _ rfl
  replace eS_ := eS_.symm
  subst eS_
  have hC := hC0
  obtain ⟨v1, rfl⟩ : ∃ v, rv_ = some (.inl v) := ⟨_, hC.2.2.1⟩
  try dsimp only [Option.toList, List.cons_append, List.nil_append]
  refine xt_aln2 rfl (by decide) ?_
  refine xt_acn0 rfl ?_
  refine xt_iln3 rfl ?_
  refine xt_ic ?_
  refine xt_add ?_
  refine xt_kal rfl (show vp_in _ L from g7 hL h6 (by decide)) ?_
  refine xt_v2 (key := 220) (q := q_X7_core) rfl rfl rfl rfl rfl ⟨Nat.le_of_ble_eq_true rfl, Nat.le_of_ble_eq_true rfl⟩ ⟨_, 0, (lw_mid hLI hC).1, rfl, rfl⟩ (fun rv_ S1 M_654 hq_654 => ?_)
  obtain ⟨eS_, hR⟩ := hq_654 _ rfl
  replace eS_ := eS_.symm
  subst eS_
  obtain ⟨v2, rfl⟩ : ∃ v, rv_ = some (.inl v) := ⟨_, hR.2.2.1⟩
  obtain ⟨hL2, v, e1, e2⟩ := lw_step (sp := fun V => spCore V _) (by omega) hLI (kCore _) hC hR
  have hve : v1 = v2 := by cases e1; cases e2; rfl
  try dsimp only [Option.toList, List.cons_append, List.nil_append]
  refine xt_ceq (t := 1042) rfl (fun hc_657 => ?_) (fun hc_657 => ?_)
  · skip
    refine xt_blk rfl rfl (by dsimp only [List.take]) ?_
    refine xt_inc rfl (by dsimp only [x_sto]) ?_
    refine xt_goto (t := 18) rfl ?_
    refine xt_cut rfl rfl (by dsimp only [List.take]) ?_
    exact ⟨600 - (i + 1), by omega, i + 1, by omega, hL2, rfl, rfl, rfl, rfl, rfl, by rw [nI_add], rfl⟩
  · exact absurd hve hc_657
set_option maxHeartbeats 4000000 in
set_option maxRecDepth 100000 in
theorem law_c14 {L i : Nat} {xs : Nat → Int32} {M : x_M} (hL : L ≤ 3072) (h6 : 6 * i + 6 ≤ L) (hi : i ≤ 512) (hLI : LI i M) : x_go (X_law L xs) lwZ b_L_law [18] (fun pc ls st S M cs sl => ∃ μ, μ < 600 - i ∧ lwI μ pc ls st S M cs sl) 29 662 [.inr (.inr 5), .inr (.inl 0), .inr (.inl 53), .inl (nI (6 * i))] [] SH M 71 2480 := by
  refine xt_blk rfl rfl (by dsimp only [List.take]) ?_
  refine xt_aln1 rfl (by decide) ?_
  refine xt_acn0 rfl ?_
  refine xt_iln3 rfl ?_
  refine xt_ic ?_
  refine xt_add ?_
  refine xt_kal rfl (show vp_in _ L from g7 hL h6 (by decide)) ?_
  refine xt_acn0 rfl ?_
  refine xt_iln3 rfl ?_
  refine xt_ic ?_
  refine xt_add ?_
  refine xt_kal rfl (show vp_in _ L from g7 hL h6 (by decide)) ?_
  refine xt_acn0 rfl ?_
  refine xt_iln3 rfl ?_
  refine xt_ic ?_
  refine xt_add ?_
  refine xt_kal rfl (show vp_in _ L from g7 hL h6 (by decide)) ?_
  refine xt_v4 (key := 223) (q := q_X6_word) rfl rfl rfl rfl rfl ⟨Nat.le_of_ble_eq_true rfl, Nat.le_of_ble_eq_true rfl⟩ ⟨_, _, _, i, hLI.1, rfl, rfl⟩ (fun rv_ S1 M_678 hq_678 => ?_)
  obtain ⟨eS_, hC0⟩ := hq_678 _ _ _ rfl
  replace eS_ := eS_.symm
  subst eS_
  have hC := hC0
  obtain ⟨v1, rfl⟩ : ∃ v, rv_ = some (.inl v) := ⟨_, hC.2.2.1⟩
  try dsimp only [Option.toList, List.cons_append, List.nil_append]
  refine xt_aln2 rfl (by decide) ?_
  refine xt_acn0 rfl ?_
  refine xt_iln3 rfl ?_
  refine xt_ic ?_
  refine xt_add ?_
  refine xt_kal rfl (show vp_in _ L from g7 hL h6 (by decide)) ?_
  refine xt_acn0 rfl ?_
  refine xt_iln3 rfl ?_
  refine xt_ic ?_
  refine xt_add ?_
  refine xt_kal rfl (show vp_in _ L from g7 hL h6 (by decide)) ?_
  refine xt_acn0 rfl ?_
  refine xt_iln3 rfl ?_
  refine xt_ic ?_
  refine xt_add ?_
  refine xt_kal rfl (show vp_in _ L from g7 hL h6 (by decide)) ?_
  refine xt_v4 (key := 232) (q := q_X7_word) rfl rfl rfl rfl rfl ⟨Nat.le_of_ble_eq_true rfl, Nat.le_of_ble_eq_true rfl⟩ ⟨_, _, _, 0, (lw_mid hLI hC).1, rfl, rfl⟩ (fun rv_ S1 M_697 hq_697 => ?_)
  obtain ⟨eS_, hR⟩ := hq_697 _ _ _ rfl
  replace eS_ := eS_.symm
  subst eS_
  obtain ⟨v2, rfl⟩ : ∃ v, rv_ = some (.inl v) := ⟨_, hR.2.2.1⟩
  obtain ⟨hL2, v, e1, e2⟩ := lw_step (sp := fun V => spWord V _ _ _) (by omega) hLI (kWord _ _ _) hC hR
  have hve : v1 = v2 := by cases e1; cases e2; rfl
  try dsimp only [Option.toList, List.cons_append, List.nil_append]
  refine xt_ceq (t := 1042) rfl (fun hc_700 => ?_) (fun hc_700 => ?_)
  · skip
    refine xt_blk rfl rfl (by dsimp only [List.take]) ?_
    refine xt_inc rfl (by dsimp only [x_sto]) ?_
    refine xt_goto (t := 18) rfl ?_
    refine xt_cut rfl rfl (by dsimp only [List.take]) ?_
    exact ⟨600 - (i + 1), by omega, i + 1, by omega, hL2, rfl, rfl, rfl, rfl, rfl, by rw [nI_add], rfl⟩
  · exact absurd hve hc_700
set_option maxHeartbeats 4000000 in
set_option maxRecDepth 100000 in
theorem law_c15 {L i : Nat} {xs : Nat → Int32} {M : x_M} (hL : L ≤ 3072) (h6 : 6 * i + 6 ≤ L) (hi : i ≤ 512) (hLI : LI i M) : x_go (X_law L xs) lwZ b_L_law [18] (fun pc ls st S M cs sl => ∃ μ, μ < 600 - i ∧ lwI μ pc ls st S M cs sl) 29 705 [.inr (.inr 5), .inr (.inl 0), .inr (.inl 53), .inl (nI (6 * i))] [] SH M 71 2480 := by
  refine xt_blk rfl rfl (by dsimp only [List.take]) ?_
  refine xt_aln1 rfl (by decide) ?_
  refine xt_acn0 rfl ?_
  refine xt_iln3 rfl ?_
  refine xt_ic ?_
  refine xt_add ?_
  refine xt_kal rfl (show vp_in _ L from g7 hL h6 (by decide)) ?_
  refine xt_acn0 rfl ?_
  refine xt_iln3 rfl ?_
  refine xt_ic ?_
  refine xt_add ?_
  refine xt_kal rfl (show vp_in _ L from g7 hL h6 (by decide)) ?_
  refine xt_acn0 rfl ?_
  refine xt_iln3 rfl ?_
  refine xt_ic ?_
  refine xt_add ?_
  refine xt_kal rfl (show vp_in _ L from g7 hL h6 (by decide)) ?_
  refine xt_v4 (key := 235) (q := q_X6_say) rfl rfl rfl rfl rfl ⟨Nat.le_of_ble_eq_true rfl, Nat.le_of_ble_eq_true rfl⟩ ⟨_, _, _, i, hLI.1, rfl, rfl⟩ (fun rv_ S1 M_721 hq_721 => ?_)
  obtain ⟨eS_, hC0⟩ := hq_721 _ _ _ rfl
  replace eS_ := eS_.symm
  subst eS_
  have hC := hC0
  obtain ⟨v1, rfl⟩ : ∃ v, rv_ = some (.inl v) := ⟨_, hC.2.2.1⟩
  try dsimp only [Option.toList, List.cons_append, List.nil_append]
  refine xt_aln2 rfl (by decide) ?_
  refine xt_acn0 rfl ?_
  refine xt_iln3 rfl ?_
  refine xt_ic ?_
  refine xt_add ?_
  refine xt_kal rfl (show vp_in _ L from g7 hL h6 (by decide)) ?_
  refine xt_acn0 rfl ?_
  refine xt_iln3 rfl ?_
  refine xt_ic ?_
  refine xt_add ?_
  refine xt_kal rfl (show vp_in _ L from g7 hL h6 (by decide)) ?_
  refine xt_acn0 rfl ?_
  refine xt_iln3 rfl ?_
  refine xt_ic ?_
  refine xt_add ?_
  refine xt_kal rfl (show vp_in _ L from g7 hL h6 (by decide)) ?_
  refine xt_v4 (key := 244) (q := q_X7_say) rfl rfl rfl rfl rfl ⟨Nat.le_of_ble_eq_true rfl, Nat.le_of_ble_eq_true rfl⟩ ⟨_, _, _, 0, (lw_mid hLI hC).1, rfl, rfl⟩ (fun rv_ S1 M_740 hq_740 => ?_)
  obtain ⟨eS_, hR⟩ := hq_740 _ _ _ rfl
  replace eS_ := eS_.symm
  subst eS_
  obtain ⟨v2, rfl⟩ : ∃ v, rv_ = some (.inl v) := ⟨_, hR.2.2.1⟩
  obtain ⟨hL2, v, e1, e2⟩ := lw_step (sp := fun V => spSay V _ _ _) (by omega) hLI (kSay _ _ _) hC hR
  have hve : v1 = v2 := by cases e1; cases e2; rfl
  try dsimp only [Option.toList, List.cons_append, List.nil_append]
  refine xt_ceq (t := 1042) rfl (fun hc_743 => ?_) (fun hc_743 => ?_)
  · skip
    refine xt_blk rfl rfl (by dsimp only [List.take]) ?_
    refine xt_inc rfl (by dsimp only [x_sto]) ?_
    refine xt_goto (t := 18) rfl ?_
    refine xt_cut rfl rfl (by dsimp only [List.take]) ?_
    exact ⟨600 - (i + 1), by omega, i + 1, by omega, hL2, rfl, rfl, rfl, rfl, rfl, by rw [nI_add], rfl⟩
  · exact absurd hve hc_743
set_option maxHeartbeats 4000000 in
set_option maxRecDepth 100000 in
theorem law_c16 {L i : Nat} {xs : Nat → Int32} {M : x_M} (hL : L ≤ 3072) (h6 : 6 * i + 6 ≤ L) (hi : i ≤ 512) (hLI : LI i M) : x_go (X_law L xs) lwZ b_L_law [18] (fun pc ls st S M cs sl => ∃ μ, μ < 600 - i ∧ lwI μ pc ls st S M cs sl) 29 748 [.inr (.inr 5), .inr (.inl 0), .inr (.inl 53), .inl (nI (6 * i))] [] SH M 71 2480 := by
  refine xt_blk rfl rfl (by dsimp only [List.take]) ?_
  refine xt_aln1 rfl (by decide) ?_
  refine xt_acn0 rfl ?_
  refine xt_iln3 rfl ?_
  refine xt_ic ?_
  refine xt_add ?_
  refine xt_kal rfl (show vp_in _ L from g7 hL h6 (by decide)) ?_
  refine xt_acn0 rfl ?_
  refine xt_iln3 rfl ?_
  refine xt_ic ?_
  refine xt_add ?_
  refine xt_kal rfl (show vp_in _ L from g7 hL h6 (by decide)) ?_
  refine xt_acn0 rfl ?_
  refine xt_iln3 rfl ?_
  refine xt_ic ?_
  refine xt_add ?_
  refine xt_kal rfl (show vp_in _ L from g7 hL h6 (by decide)) ?_
  refine xt_v4 (key := 247) (q := q_X6_ask) rfl rfl rfl rfl rfl ⟨Nat.le_of_ble_eq_true rfl, Nat.le_of_ble_eq_true rfl⟩ ⟨_, _, _, i, hLI.1, rfl, rfl⟩ (fun rv_ S1 M_764 hq_764 => ?_)
  obtain ⟨eS_, hC0⟩ := hq_764 _ _ _ rfl
  replace eS_ := eS_.symm
  subst eS_
  have hC := hC0
  obtain ⟨v1, rfl⟩ : ∃ v, rv_ = some (.inl v) := ⟨_, hC.2.2.1⟩
  try dsimp only [Option.toList, List.cons_append, List.nil_append]
  refine xt_aln2 rfl (by decide) ?_
  refine xt_acn0 rfl ?_
  refine xt_iln3 rfl ?_
  refine xt_ic ?_
  refine xt_add ?_
  refine xt_kal rfl (show vp_in _ L from g7 hL h6 (by decide)) ?_
  refine xt_acn0 rfl ?_
  refine xt_iln3 rfl ?_
  refine xt_ic ?_
  refine xt_add ?_
  refine xt_kal rfl (show vp_in _ L from g7 hL h6 (by decide)) ?_
  refine xt_acn0 rfl ?_
  refine xt_iln3 rfl ?_
  refine xt_ic ?_
  refine xt_add ?_
  refine xt_kal rfl (show vp_in _ L from g7 hL h6 (by decide)) ?_
  refine xt_v4 (key := 256) (q := q_X7_ask) rfl rfl rfl rfl rfl ⟨Nat.le_of_ble_eq_true rfl, Nat.le_of_ble_eq_true rfl⟩ ⟨_, _, _, 0, (lw_mid hLI hC).1, rfl, rfl⟩ (fun rv_ S1 M_783 hq_783 => ?_)
  obtain ⟨eS_, hR⟩ := hq_783 _ _ _ rfl
  replace eS_ := eS_.symm
  subst eS_
  obtain ⟨v2, rfl⟩ : ∃ v, rv_ = some (.inl v) := ⟨_, hR.2.2.1⟩
  obtain ⟨hL2, v, e1, e2⟩ := lw_step (sp := fun V => spAsk V _ _ _) (by omega) hLI (kAsk _ _ _) hC hR
  have hve : v1 = v2 := by cases e1; cases e2; rfl
  try dsimp only [Option.toList, List.cons_append, List.nil_append]
  refine xt_ceq (t := 1042) rfl (fun hc_786 => ?_) (fun hc_786 => ?_)
  · skip
    refine xt_blk rfl rfl (by dsimp only [List.take]) ?_
    refine xt_inc rfl (by dsimp only [x_sto]) ?_
    refine xt_goto (t := 18) rfl ?_
    refine xt_cut rfl rfl (by dsimp only [List.take]) ?_
    exact ⟨600 - (i + 1), by omega, i + 1, by omega, hL2, rfl, rfl, rfl, rfl, rfl, by rw [nI_add], rfl⟩
  · exact absurd hve hc_786
set_option maxHeartbeats 4000000 in
set_option maxRecDepth 100000 in
theorem law_c17 {L i : Nat} {xs : Nat → Int32} {M : x_M} (hL : L ≤ 3072) (h6 : 6 * i + 6 ≤ L) (hi : i ≤ 512) (hLI : LI i M) : x_go (X_law L xs) lwZ b_L_law [18] (fun pc ls st S M cs sl => ∃ μ, μ < 600 - i ∧ lwI μ pc ls st S M cs sl) 29 791 [.inr (.inr 5), .inr (.inl 0), .inr (.inl 53), .inl (nI (6 * i))] [] SH M 71 2480 := by
  refine xt_blk rfl rfl (by dsimp only [List.take]) ?_
  refine xt_aln1 rfl (by decide) ?_
  refine xt_acn0 rfl ?_
  refine xt_iln3 rfl ?_
  refine xt_ic ?_
  refine xt_add ?_
  refine xt_kal rfl (show vp_in _ L from g7 hL h6 (by decide)) ?_
  refine xt_acn0 rfl ?_
  refine xt_iln3 rfl ?_
  refine xt_ic ?_
  refine xt_add ?_
  refine xt_kal rfl (show vp_in _ L from g7 hL h6 (by decide)) ?_
  refine xt_acn0 rfl ?_
  refine xt_iln3 rfl ?_
  refine xt_ic ?_
  refine xt_add ?_
  refine xt_kal rfl (show vp_in _ L from g7 hL h6 (by decide)) ?_
  refine xt_acn0 rfl ?_
  refine xt_iln3 rfl ?_
  refine xt_ic ?_
  refine xt_add ?_
  refine xt_kal rfl (show vp_in _ L from g7 hL h6 (by decide)) ?_
  refine xt_acn0 rfl ?_
  refine xt_iln3 rfl ?_
  refine xt_ic ?_
  refine xt_add ?_
  refine xt_kal rfl (show vp_in _ L from g7 hL h6 (by decide)) ?_
  refine xt_v6 (key := 259) (q := q_X6_box) rfl rfl rfl rfl rfl ⟨Nat.le_of_ble_eq_true rfl, Nat.le_of_ble_eq_true rfl⟩ ⟨_, _, _, _, _, i, hLI.1, rfl, rfl⟩ (fun rv_ S1 M_817 hq_817 => ?_)
  obtain ⟨eS_, hC0⟩ := hq_817 _ _ _ _ _ rfl
  replace eS_ := eS_.symm
  subst eS_
  have hC := hC0
  obtain ⟨v1, rfl⟩ : ∃ v, rv_ = some (.inl v) := ⟨_, hC.2.2.1⟩
  try dsimp only [Option.toList, List.cons_append, List.nil_append]
  refine xt_aln2 rfl (by decide) ?_
  refine xt_acn0 rfl ?_
  refine xt_iln3 rfl ?_
  refine xt_ic ?_
  refine xt_add ?_
  refine xt_kal rfl (show vp_in _ L from g7 hL h6 (by decide)) ?_
  refine xt_acn0 rfl ?_
  refine xt_iln3 rfl ?_
  refine xt_ic ?_
  refine xt_add ?_
  refine xt_kal rfl (show vp_in _ L from g7 hL h6 (by decide)) ?_
  refine xt_acn0 rfl ?_
  refine xt_iln3 rfl ?_
  refine xt_ic ?_
  refine xt_add ?_
  refine xt_kal rfl (show vp_in _ L from g7 hL h6 (by decide)) ?_
  refine xt_acn0 rfl ?_
  refine xt_iln3 rfl ?_
  refine xt_ic ?_
  refine xt_add ?_
  refine xt_kal rfl (show vp_in _ L from g7 hL h6 (by decide)) ?_
  refine xt_acn0 rfl ?_
  refine xt_iln3 rfl ?_
  refine xt_ic ?_
  refine xt_add ?_
  refine xt_kal rfl (show vp_in _ L from g7 hL h6 (by decide)) ?_
  refine xt_v6 (key := 271) (q := q_X7_box) rfl rfl rfl rfl rfl ⟨Nat.le_of_ble_eq_true rfl, Nat.le_of_ble_eq_true rfl⟩ ⟨_, _, _, _, _, 0, (lw_mid hLI hC).1, rfl, rfl⟩ (fun rv_ S1 M_846 hq_846 => ?_)
  obtain ⟨eS_, hR⟩ := hq_846 _ _ _ _ _ rfl
  replace eS_ := eS_.symm
  subst eS_
  obtain ⟨v2, rfl⟩ : ∃ v, rv_ = some (.inl v) := ⟨_, hR.2.2.1⟩
  obtain ⟨hL2, v, e1, e2⟩ := lw_step (sp := fun V => spBox V _ _ _ _ _) (by omega) hLI (kBox _ _ _ _ _) hC hR
  have hve : v1 = v2 := by cases e1; cases e2; rfl
  try dsimp only [Option.toList, List.cons_append, List.nil_append]
  refine xt_ceq (t := 1042) rfl (fun hc_849 => ?_) (fun hc_849 => ?_)
  · skip
    refine xt_blk rfl rfl (by dsimp only [List.take]) ?_
    refine xt_inc rfl (by dsimp only [x_sto]) ?_
    refine xt_goto (t := 18) rfl ?_
    refine xt_cut rfl rfl (by dsimp only [List.take]) ?_
    exact ⟨600 - (i + 1), by omega, i + 1, by omega, hL2, rfl, rfl, rfl, rfl, rfl, by rw [nI_add], rfl⟩
  · exact absurd hve hc_849
set_option maxHeartbeats 4000000 in
set_option maxRecDepth 100000 in
theorem law_c18 {L i : Nat} {xs : Nat → Int32} {M : x_M} (hL : L ≤ 3072) (h6 : 6 * i + 6 ≤ L) (hi : i ≤ 512) (hLI : LI i M) : x_go (X_law L xs) lwZ b_L_law [18] (fun pc ls st S M cs sl => ∃ μ, μ < 600 - i ∧ lwI μ pc ls st S M cs sl) 29 854 [.inr (.inr 5), .inr (.inl 0), .inr (.inl 53), .inl (nI (6 * i))] [] SH M 71 2480 := by
  refine xt_blk rfl rfl (by dsimp only [List.take]) ?_
  refine xt_aln1 rfl (by decide) ?_
  refine xt_acn0 rfl ?_
  refine xt_iln3 rfl ?_
  refine xt_ic ?_
  refine xt_add ?_
  refine xt_kal rfl (show vp_in _ L from g7 hL h6 (by decide)) ?_
  refine xt_v2 (key := 274) (q := q_X6_rub) rfl rfl rfl rfl rfl ⟨Nat.le_of_ble_eq_true rfl, Nat.le_of_ble_eq_true rfl⟩ ⟨_, i, hLI.1, rfl, rfl⟩ (fun rv_ S1 M_860 hq_860 => ?_)
  obtain ⟨eS_, hC0⟩ := hq_860 _ rfl
  replace eS_ := eS_.symm
  subst eS_
  have hC := hC0
  obtain ⟨v1, rfl⟩ : ∃ v, rv_ = some (.inl v) := ⟨_, hC.2.2.1⟩
  try dsimp only [Option.toList, List.cons_append, List.nil_append]
  refine xt_aln2 rfl (by decide) ?_
  refine xt_acn0 rfl ?_
  refine xt_iln3 rfl ?_
  refine xt_ic ?_
  refine xt_add ?_
  refine xt_kal rfl (show vp_in _ L from g7 hL h6 (by decide)) ?_
  refine xt_v2 (key := 283) (q := q_X7_rub) rfl rfl rfl rfl rfl ⟨Nat.le_of_ble_eq_true rfl, Nat.le_of_ble_eq_true rfl⟩ ⟨_, 0, (lw_mid hLI hC).1, rfl, rfl⟩ (fun rv_ S1 M_869 hq_869 => ?_)
  obtain ⟨eS_, hR⟩ := hq_869 _ rfl
  replace eS_ := eS_.symm
  subst eS_
  obtain ⟨v2, rfl⟩ : ∃ v, rv_ = some (.inl v) := ⟨_, hR.2.2.1⟩
  obtain ⟨hL2, v, e1, e2⟩ := lw_step (sp := fun V => spRub V _) (by omega) hLI (kRub _) hC hR
  have hve : v1 = v2 := by cases e1; cases e2; rfl
  try dsimp only [Option.toList, List.cons_append, List.nil_append]
  refine xt_ceq (t := 1042) rfl (fun hc_872 => ?_) (fun hc_872 => ?_)
  · skip
    refine xt_blk rfl rfl (by dsimp only [List.take]) ?_
    refine xt_inc rfl (by dsimp only [x_sto]) ?_
    refine xt_goto (t := 18) rfl ?_
    refine xt_cut rfl rfl (by dsimp only [List.take]) ?_
    exact ⟨600 - (i + 1), by omega, i + 1, by omega, hL2, rfl, rfl, rfl, rfl, rfl, by rw [nI_add], rfl⟩
  · exact absurd hve hc_872
set_option maxHeartbeats 4000000 in
set_option maxRecDepth 100000 in
theorem law_c19 {L i : Nat} {xs : Nat → Int32} {M : x_M} (hL : L ≤ 3072) (h6 : 6 * i + 6 ≤ L) (hi : i ≤ 512) (hLI : LI i M) : x_go (X_law L xs) lwZ b_L_law [18] (fun pc ls st S M cs sl => ∃ μ, μ < 600 - i ∧ lwI μ pc ls st S M cs sl) 29 877 [.inr (.inr 5), .inr (.inl 0), .inr (.inl 53), .inl (nI (6 * i))] [] SH M 71 2480 := by
  refine xt_blk rfl rfl (by dsimp only [List.take]) ?_
  refine xt_aln1 rfl (by decide) ?_
  refine xt_acn0 rfl ?_
  refine xt_iln3 rfl ?_
  refine xt_ic ?_
  refine xt_add ?_
  refine xt_kal rfl (show vp_in _ L from g7 hL h6 (by decide)) ?_
  refine xt_acn0 rfl ?_
  refine xt_iln3 rfl ?_
  refine xt_ic ?_
  refine xt_add ?_
  refine xt_kal rfl (show vp_in _ L from g7 hL h6 (by decide)) ?_
  refine xt_acn0 rfl ?_
  refine xt_iln3 rfl ?_
  refine xt_ic ?_
  refine xt_add ?_
  refine xt_kal rfl (show vp_in _ L from g7 hL h6 (by decide)) ?_
  refine xt_v4 (key := 286) (q := q_X6_read) rfl rfl rfl rfl rfl ⟨Nat.le_of_ble_eq_true rfl, Nat.le_of_ble_eq_true rfl⟩ ⟨_, _, _, i, hLI.1, rfl, rfl⟩ (fun rv_ S1 M_893 hq_893 => ?_)
  obtain ⟨eS_, hC0⟩ := hq_893 _ _ _ rfl
  replace eS_ := eS_.symm
  subst eS_
  have hC := hC0
  obtain ⟨v1, rfl⟩ : ∃ v, rv_ = some (.inl v) := ⟨_, hC.2.2.1⟩
  try dsimp only [Option.toList, List.cons_append, List.nil_append]
  refine xt_aln2 rfl (by decide) ?_
  refine xt_acn0 rfl ?_
  refine xt_iln3 rfl ?_
  refine xt_ic ?_
  refine xt_add ?_
  refine xt_kal rfl (show vp_in _ L from g7 hL h6 (by decide)) ?_
  refine xt_acn0 rfl ?_
  refine xt_iln3 rfl ?_
  refine xt_ic ?_
  refine xt_add ?_
  refine xt_kal rfl (show vp_in _ L from g7 hL h6 (by decide)) ?_
  refine xt_acn0 rfl ?_
  refine xt_iln3 rfl ?_
  refine xt_ic ?_
  refine xt_add ?_
  refine xt_kal rfl (show vp_in _ L from g7 hL h6 (by decide)) ?_
  refine xt_v4 (key := 295) (q := q_X7_read) rfl rfl rfl rfl rfl ⟨Nat.le_of_ble_eq_true rfl, Nat.le_of_ble_eq_true rfl⟩ ⟨_, _, _, 0, (lw_mid hLI hC).1, rfl, rfl⟩ (fun rv_ S1 M_912 hq_912 => ?_)
  obtain ⟨eS_, hR⟩ := hq_912 _ _ _ rfl
  replace eS_ := eS_.symm
  subst eS_
  obtain ⟨v2, rfl⟩ : ∃ v, rv_ = some (.inl v) := ⟨_, hR.2.2.1⟩
  obtain ⟨hL2, v, e1, e2⟩ := lw_step (sp := fun V => spRead V _ _ _) (by omega) hLI (kRead _ _ _) hC hR
  have hve : v1 = v2 := by cases e1; cases e2; rfl
  try dsimp only [Option.toList, List.cons_append, List.nil_append]
  refine xt_ceq (t := 1042) rfl (fun hc_915 => ?_) (fun hc_915 => ?_)
  · skip
    refine xt_blk rfl rfl (by dsimp only [List.take]) ?_
    refine xt_inc rfl (by dsimp only [x_sto]) ?_
    refine xt_goto (t := 18) rfl ?_
    refine xt_cut rfl rfl (by dsimp only [List.take]) ?_
    exact ⟨600 - (i + 1), by omega, i + 1, by omega, hL2, rfl, rfl, rfl, rfl, rfl, by rw [nI_add], rfl⟩
  · exact absurd hve hc_915
set_option maxHeartbeats 4000000 in
set_option maxRecDepth 100000 in
theorem law_c20 {L i : Nat} {xs : Nat → Int32} {M : x_M} (hL : L ≤ 3072) (h6 : 6 * i + 6 ≤ L) (hi : i ≤ 512) (hLI : LI i M) : x_go (X_law L xs) lwZ b_L_law [18] (fun pc ls st S M cs sl => ∃ μ, μ < 600 - i ∧ lwI μ pc ls st S M cs sl) 29 920 [.inr (.inr 5), .inr (.inl 0), .inr (.inl 53), .inl (nI (6 * i))] [] SH M 71 2480 := by
  refine xt_blk rfl rfl (by dsimp only [List.take]) ?_
  refine xt_aln1 rfl (by decide) ?_
  refine xt_acn0 rfl ?_
  refine xt_iln3 rfl ?_
  refine xt_ic ?_
  refine xt_add ?_
  refine xt_kal rfl (show vp_in _ L from g7 hL h6 (by decide)) ?_
  refine xt_acn0 rfl ?_
  refine xt_iln3 rfl ?_
  refine xt_ic ?_
  refine xt_add ?_
  refine xt_kal rfl (show vp_in _ L from g7 hL h6 (by decide)) ?_
  refine xt_acn0 rfl ?_
  refine xt_iln3 rfl ?_
  refine xt_ic ?_
  refine xt_add ?_
  refine xt_kal rfl (show vp_in _ L from g7 hL h6 (by decide)) ?_
  refine xt_v4 (key := 298) (q := q_X6_holds) rfl rfl rfl rfl rfl ⟨Nat.le_of_ble_eq_true rfl, Nat.le_of_ble_eq_true rfl⟩ ⟨_, _, _, i, hLI.1, rfl, rfl⟩ (fun rv_ S1 M_936 hq_936 => ?_)
  obtain ⟨eS_, hC0⟩ := hq_936 _ _ _ rfl
  replace eS_ := eS_.symm
  subst eS_
  have hC := hC0
  obtain ⟨v1, rfl⟩ : ∃ v, rv_ = some (.inl v) := ⟨_, hC.2.2.1⟩
  try dsimp only [Option.toList, List.cons_append, List.nil_append]
  refine xt_aln2 rfl (by decide) ?_
  refine xt_acn0 rfl ?_
  refine xt_iln3 rfl ?_
  refine xt_ic ?_
  refine xt_add ?_
  refine xt_kal rfl (show vp_in _ L from g7 hL h6 (by decide)) ?_
  refine xt_acn0 rfl ?_
  refine xt_iln3 rfl ?_
  refine xt_ic ?_
  refine xt_add ?_
  refine xt_kal rfl (show vp_in _ L from g7 hL h6 (by decide)) ?_
  refine xt_acn0 rfl ?_
  refine xt_iln3 rfl ?_
  refine xt_ic ?_
  refine xt_add ?_
  refine xt_kal rfl (show vp_in _ L from g7 hL h6 (by decide)) ?_
  refine xt_v4 (key := 307) (q := q_X7_holds) rfl rfl rfl rfl rfl ⟨Nat.le_of_ble_eq_true rfl, Nat.le_of_ble_eq_true rfl⟩ ⟨_, _, _, 0, (lw_mid hLI hC).1, rfl, rfl⟩ (fun rv_ S1 M_955 hq_955 => ?_)
  obtain ⟨eS_, hR⟩ := hq_955 _ _ _ rfl
  replace eS_ := eS_.symm
  subst eS_
  obtain ⟨v2, rfl⟩ : ∃ v, rv_ = some (.inl v) := ⟨_, hR.2.2.1⟩
  obtain ⟨hL2, v, e1, e2⟩ := lw_step (sp := fun V => spHolds V _ _ _) (by omega) hLI (kHolds _ _ _) hC hR
  have hve : v1 = v2 := by cases e1; cases e2; rfl
  try dsimp only [Option.toList, List.cons_append, List.nil_append]
  refine xt_ceq (t := 1042) rfl (fun hc_958 => ?_) (fun hc_958 => ?_)
  · skip
    refine xt_blk rfl rfl (by dsimp only [List.take]) ?_
    refine xt_inc rfl (by dsimp only [x_sto]) ?_
    refine xt_goto (t := 18) rfl ?_
    refine xt_cut rfl rfl (by dsimp only [List.take]) ?_
    exact ⟨600 - (i + 1), by omega, i + 1, by omega, hL2, rfl, rfl, rfl, rfl, rfl, by rw [nI_add], rfl⟩
  · exact absurd hve hc_958
set_option maxHeartbeats 4000000 in
set_option maxRecDepth 100000 in
theorem law_c21 {L i : Nat} {xs : Nat → Int32} {M : x_M} (hL : L ≤ 3072) (h6 : 6 * i + 6 ≤ L) (hi : i ≤ 512) (hLI : LI i M) : x_go (X_law L xs) lwZ b_L_law [18] (fun pc ls st S M cs sl => ∃ μ, μ < 600 - i ∧ lwI μ pc ls st S M cs sl) 29 963 [.inr (.inr 5), .inr (.inl 0), .inr (.inl 53), .inl (nI (6 * i))] [] SH M 71 2480 := by
  refine xt_blk rfl rfl (by dsimp only [List.take]) ?_
  refine xt_aln1 rfl (by decide) ?_
  refine xt_v1 (key := 310) (q := q_X6_fits) rfl rfl rfl rfl rfl ⟨Nat.le_of_ble_eq_true rfl, Nat.le_of_ble_eq_true rfl⟩ ⟨i, hLI.1, rfl, rfl⟩ (fun rv_ S1 M_964 hq_964 => ?_)
  obtain ⟨eS_, hC0⟩ := hq_964 rfl
  replace eS_ := eS_.symm
  subst eS_
  have hC := hC0
  obtain ⟨v1, rfl⟩ : ∃ v, rv_ = some (.inl v) := ⟨_, hC.2.2.1⟩
  try dsimp only [Option.toList, List.cons_append, List.nil_append]
  refine xt_aln2 rfl (by decide) ?_
  refine xt_v1 (key := 322) (q := q_X7_fits) rfl rfl rfl rfl rfl ⟨Nat.le_of_ble_eq_true rfl, Nat.le_of_ble_eq_true rfl⟩ ⟨0, (lw_mid hLI hC).1, rfl, rfl⟩ (fun rv_ S1 M_968 hq_968 => ?_)
  obtain ⟨eS_, hR⟩ := hq_968 rfl
  replace eS_ := eS_.symm
  subst eS_
  obtain ⟨v2, rfl⟩ : ∃ v, rv_ = some (.inl v) := ⟨_, hR.2.2.1⟩
  obtain ⟨hL2, v, e1, e2⟩ := lw_step (sp := fun V => spFits V) (by omega) hLI (kFits) hC hR
  have hve : v1 = v2 := by cases e1; cases e2; rfl
  try dsimp only [Option.toList, List.cons_append, List.nil_append]
  refine xt_ceq (t := 1042) rfl (fun hc_971 => ?_) (fun hc_971 => ?_)
  · skip
    refine xt_blk rfl rfl (by dsimp only [List.take]) ?_
    refine xt_inc rfl (by dsimp only [x_sto]) ?_
    refine xt_goto (t := 18) rfl ?_
    refine xt_cut rfl rfl (by dsimp only [List.take]) ?_
    exact ⟨600 - (i + 1), by omega, i + 1, by omega, hL2, rfl, rfl, rfl, rfl, rfl, by rw [nI_add], rfl⟩
  · exact absurd hve hc_971
set_option maxHeartbeats 4000000 in
set_option maxRecDepth 100000 in
theorem law_c22 {L i : Nat} {xs : Nat → Int32} {M : x_M} (hL : L ≤ 3072) (h6 : 6 * i + 6 ≤ L) (hi : i ≤ 512) (hLI : LI i M) : x_go (X_law L xs) lwZ b_L_law [18] (fun pc ls st S M cs sl => ∃ μ, μ < 600 - i ∧ lwI μ pc ls st S M cs sl) 29 976 [.inr (.inr 5), .inr (.inl 0), .inr (.inl 53), .inl (nI (6 * i))] [] SH M 71 2480 := by
  refine xt_blk rfl rfl (by dsimp only [List.take]) ?_
  refine xt_aln1 rfl (by decide) ?_
  refine xt_acn0 rfl ?_
  refine xt_iln3 rfl ?_
  refine xt_ic ?_
  refine xt_add ?_
  refine xt_kal rfl (show vp_in _ L from g7 hL h6 (by decide)) ?_
  refine xt_acn0 rfl ?_
  refine xt_iln3 rfl ?_
  refine xt_ic ?_
  refine xt_add ?_
  refine xt_kal rfl (show vp_in _ L from g7 hL h6 (by decide)) ?_
  refine xt_acn0 rfl ?_
  refine xt_iln3 rfl ?_
  refine xt_ic ?_
  refine xt_add ?_
  refine xt_kal rfl (show vp_in _ L from g7 hL h6 (by decide)) ?_
  refine xt_v4 (key := 325) (q := q_X6_moved) rfl rfl rfl rfl rfl ⟨Nat.le_of_ble_eq_true rfl, Nat.le_of_ble_eq_true rfl⟩ ⟨_, _, _, i, hLI.1, rfl, rfl⟩ (fun rv_ S1 M_992 hq_992 => ?_)
  obtain ⟨eS_, hC0⟩ := hq_992 _ _ _ rfl
  replace eS_ := eS_.symm
  subst eS_
  have hC := hC0
  obtain ⟨v1, rfl⟩ : ∃ v, rv_ = some (.inl v) := ⟨_, hC.2.2.1⟩
  try dsimp only [Option.toList, List.cons_append, List.nil_append]
  refine xt_aln2 rfl (by decide) ?_
  refine xt_acn0 rfl ?_
  refine xt_iln3 rfl ?_
  refine xt_ic ?_
  refine xt_add ?_
  refine xt_kal rfl (show vp_in _ L from g7 hL h6 (by decide)) ?_
  refine xt_acn0 rfl ?_
  refine xt_iln3 rfl ?_
  refine xt_ic ?_
  refine xt_add ?_
  refine xt_kal rfl (show vp_in _ L from g7 hL h6 (by decide)) ?_
  refine xt_acn0 rfl ?_
  refine xt_iln3 rfl ?_
  refine xt_ic ?_
  refine xt_add ?_
  refine xt_kal rfl (show vp_in _ L from g7 hL h6 (by decide)) ?_
  refine xt_v4 (key := 334) (q := q_X7_moved) rfl rfl rfl rfl rfl ⟨Nat.le_of_ble_eq_true rfl, Nat.le_of_ble_eq_true rfl⟩ ⟨_, _, _, 0, (lw_mid hLI hC).1, rfl, rfl⟩ (fun rv_ S1 M_1011 hq_1011 => ?_)
  obtain ⟨eS_, hR⟩ := hq_1011 _ _ _ rfl
  replace eS_ := eS_.symm
  subst eS_
  obtain ⟨v2, rfl⟩ : ∃ v, rv_ = some (.inl v) := ⟨_, hR.2.2.1⟩
  obtain ⟨hL2, v, e1, e2⟩ := lw_step (sp := fun V => spMoved V _ _ _) (by omega) hLI (kMoved _ _ _) hC hR
  have hve : v1 = v2 := by cases e1; cases e2; rfl
  try dsimp only [Option.toList, List.cons_append, List.nil_append]
  refine xt_ceq (t := 1042) rfl (fun hc_1014 => ?_) (fun hc_1014 => ?_)
  · skip
    refine xt_blk rfl rfl (by dsimp only [List.take]) ?_
    refine xt_inc rfl (by dsimp only [x_sto]) ?_
    refine xt_goto (t := 18) rfl ?_
    refine xt_cut rfl rfl (by dsimp only [List.take]) ?_
    exact ⟨600 - (i + 1), by omega, i + 1, by omega, hL2, rfl, rfl, rfl, rfl, rfl, by rw [nI_add], rfl⟩
  · exact absurd hve hc_1014
set_option maxHeartbeats 4000000 in
set_option maxRecDepth 100000 in
theorem law_c23 {L i : Nat} {xs : Nat → Int32} {M : x_M} (hL : L ≤ 3072) (h6 : 6 * i + 6 ≤ L) (hi : i ≤ 512) (hLI : LI i M) : x_go (X_law L xs) lwZ b_L_law [18] (fun pc ls st S M cs sl => ∃ μ, μ < 600 - i ∧ lwI μ pc ls st S M cs sl) 29 1019 [.inr (.inr 5), .inr (.inl 0), .inr (.inl 53), .inl (nI (6 * i))] [] SH M 71 2480 := by
  refine xt_blk rfl rfl (by dsimp only [List.take]) ?_
  refine xt_aln1 rfl (by decide) ?_
  refine xt_acn0 rfl ?_
  refine xt_iln3 rfl ?_
  refine xt_ic ?_
  refine xt_add ?_
  refine xt_kal rfl (show vp_in _ L from g7 hL h6 (by decide)) ?_
  refine xt_v2 (key := 337) (q := q_X6_count) rfl rfl rfl rfl rfl ⟨Nat.le_of_ble_eq_true rfl, Nat.le_of_ble_eq_true rfl⟩ ⟨_, i, hLI.1, rfl, rfl⟩ (fun rv_ S1 M_1025 hq_1025 => ?_)
  obtain ⟨eS_, hC0⟩ := hq_1025 _ rfl
  replace eS_ := eS_.symm
  subst eS_
  have hC := hC0
  obtain ⟨v1, rfl⟩ : ∃ v, rv_ = some (.inl v) := ⟨_, hC.2.2.1⟩
  try dsimp only [Option.toList, List.cons_append, List.nil_append]
  refine xt_aln2 rfl (by decide) ?_
  refine xt_acn0 rfl ?_
  refine xt_iln3 rfl ?_
  refine xt_ic ?_
  refine xt_add ?_
  refine xt_kal rfl (show vp_in _ L from g7 hL h6 (by decide)) ?_
  refine xt_v2 (key := 346) (q := q_X7_count) rfl rfl rfl rfl rfl ⟨Nat.le_of_ble_eq_true rfl, Nat.le_of_ble_eq_true rfl⟩ ⟨_, 0, (lw_mid hLI hC).1, rfl, rfl⟩ (fun rv_ S1 M_1034 hq_1034 => ?_)
  obtain ⟨eS_, hR⟩ := hq_1034 _ rfl
  replace eS_ := eS_.symm
  subst eS_
  obtain ⟨v2, rfl⟩ : ∃ v, rv_ = some (.inl v) := ⟨_, hR.2.2.1⟩
  obtain ⟨hL2, v, e1, e2⟩ := lw_step (sp := fun V => spCount V _) (by omega) hLI (kCount _) hC hR
  have hve : v1 = v2 := by cases e1; cases e2; rfl
  try dsimp only [Option.toList, List.cons_append, List.nil_append]
  refine xt_ceq (t := 1042) rfl (fun hc_1037 => ?_) (fun hc_1037 => ?_)
  · skip
    refine xt_blk rfl rfl (by dsimp only [List.take]) ?_
    refine xt_inc rfl (by dsimp only [x_sto]) ?_
    refine xt_goto (t := 18) rfl ?_
    refine xt_cut rfl rfl (by dsimp only [List.take]) ?_
    exact ⟨600 - (i + 1), by omega, i + 1, by omega, hL2, rfl, rfl, rfl, rfl, rfl, by rw [nI_add], rfl⟩
  · exact absurd hve hc_1037
set_option maxHeartbeats 4000000 in
set_option maxRecDepth 100000 in
theorem law_18 {L i : Nat} {xs : Nat → Int32} {M : x_M} (hL : L ≤ 3072) (hi : i ≤ 512) (hLI : LI i M) : ∃ b, x_lk b_L_law 18 = some b ∧ x_wp (X_law L xs) lwZ (x_go (X_law L xs) lwZ b_L_law [18] (fun pc ls st S M cs sl => ∃ μ, μ < 600 - i ∧ lwI μ pc ls st S M cs sl) 30) b.2 18 [.inr (.inr 5), .inr (.inl 0), .inr (.inl 53), .inl (nI (6 * i))] [] SH M 71 2480 := by
  refine ⟨_, rfl, ?_⟩
  refine xt_iln3 rfl ?_
  refine xt_acn0 rfl ?_
  refine xt_lek rfl ?_
  refine xt_bi ?_
  refine xt_sub ?_
  refine xt_cgt (t := 1048) rfl (fun hc_24 => ?_) (fun hc_24 => ?_)
  · skip
    refine xt_blk rfl rfl (by dsimp only [List.take]) ?_
    refine xt_ic ?_
    exact xt_ret (Or.inl rfl) ⟨rfl, rfl, by decide, by decide⟩
  · skip
    have h6 := g6 hL (by omega) hc_24
    refine xt_acn0 rfl ?_
    refine xt_iln3 rfl ?_
    refine xt_kal rfl (show vp_in _ L from g8 hL h6) ?_
    refine xt_bi ?_
    refine xt_and ?_
    refine xt_sw (T0 := 1042) (ts := [144, 167, 200, 233, 266, 319, 368, 401, 444, 487, 510, 553, 596, 639, 662, 705, 748, 791, 854, 877, 920, 963, 976, 1019]) rfl rfl rfl (by decide) (fun hd_33 => ?_) ⟨fun hx_0 => ?_, fun hx_1 => ?_, fun hx_2 => ?_, fun hx_3 => ?_, fun hx_4 => ?_, fun hx_5 => ?_, fun hx_6 => ?_, fun hx_7 => ?_, fun hx_8 => ?_, fun hx_9 => ?_, fun hx_10 => ?_, fun hx_11 => ?_, fun hx_12 => ?_, fun hx_13 => ?_, fun hx_14 => ?_, fun hx_15 => ?_, fun hx_16 => ?_, fun hx_17 => ?_, fun hx_18 => ?_, fun hx_19 => ?_, fun hx_20 => ?_, fun hx_21 => ?_, fun hx_22 => ?_, fun hx_23 => ?_, trivial⟩
    · skip
      refine xt_blk rfl rfl (by dsimp only [List.take]) ?_
      refine xt_inc rfl (by dsimp only [x_sto]) ?_
      refine xt_goto (t := 18) rfl ?_
      refine xt_cut rfl rfl (by dsimp only [List.take]) ?_
      exact ⟨600 - (i + 1), by omega, i + 1, by omega, LI_up hLI, rfl, rfl, rfl, rfl, rfl, by rw [nI_add], rfl⟩
    · skip
      exact law_c0 hL h6 hi hLI
    · skip
      exact law_c1 hL h6 hi hLI
    · skip
      exact law_c2 hL h6 hi hLI
    · skip
      exact law_c3 hL h6 hi hLI
    · skip
      exact law_c4 hL h6 hi hLI
    · skip
      exact law_c5 hL h6 hi hLI
    · skip
      exact law_c6 hL h6 hi hLI
    · skip
      exact law_c7 hL h6 hi hLI
    · skip
      exact law_c8 hL h6 hi hLI
    · skip
      exact law_c9 hL h6 hi hLI
    · skip
      exact law_c10 hL h6 hi hLI
    · skip
      exact law_c11 hL h6 hi hLI
    · skip
      exact law_c12 hL h6 hi hLI
    · skip
      exact law_c13 hL h6 hi hLI
    · skip
      exact law_c14 hL h6 hi hLI
    · skip
      exact law_c15 hL h6 hi hLI
    · skip
      exact law_c16 hL h6 hi hLI
    · skip
      exact law_c17 hL h6 hi hLI
    · skip
      exact law_c18 hL h6 hi hLI
    · skip
      exact law_c19 hL h6 hi hLI
    · skip
      exact law_c20 hL h6 hi hLI
    · skip
      exact law_c21 hL h6 hi hLI
    · skip
      exact law_c22 hL h6 hi hLI
    · skip
      exact law_c23 hL h6 hi hLI
set_option maxHeartbeats 4000000 in
set_option maxRecDepth 100000 in
theorem law_0 (L : Nat) (xs : Nat → Int32) : x_go (X_law L xs) lwZ b_L_law [18] (fun pc ls st S M cs sl => ∃ μ, lwI μ pc ls st S M cs sl) 30 0 [.inr (.inr 5)] [] [] (fun _ _ => 0) 0 0 := by
  refine xt_blk rfl rfl (by dsimp only [List.take]) ?_
  refine xt_new (ci := 4) (p := 0) (S' := Sg 1 [(0, 4, [some 9999, some 9999, some 9999, some 9999, some 9999, some 9999])]) (a := 1) (b := 6) rfl (by decide) (by rfl) (by decide) (by rfl) rfl rfl (Nat.le_of_ble_eq_true rfl) (Nat.le_of_ble_eq_true rfl) ?_
  refine xt_dup ?_
  refine xt_al1 (key := 29) (q := q_X6_init) (A := 52) (B := 1224) (a := 53) (b := 1230) rfl rfl rfl rfl rfl rfl rfl (Nat.le_of_ble_eq_true rfl) (Nat.le_of_ble_eq_true rfl) ⟨rfl, rfl⟩ (fun rv_ S1 M_4 hq_4 => ?_)
  obtain ⟨eS_, hI6, h52, rfl⟩ := hq_4 rfl
  subst eS_
  try dsimp only [Option.toList, List.cons_append, List.nil_append]
  refine xt_asn1 rfl (by decide) (by dsimp only [x_sto]) ?_
  refine xt_new (ci := 5) (p := 53) (S' := Sg 54 [(53, 5, [some 9999, some 9999, some 9999, some 9999, none, some 9999, some 9999, some 9999, some 9999, some 9999, some 9999, some 9999, some 9999, some 9999, some 9999, some 9999, some 9999, some 9999])]) (a := 54) (b := 1248) rfl (by decide) (by rfl) (by decide) (by rfl) rfl rfl (Nat.le_of_ble_eq_true rfl) (Nat.le_of_ble_eq_true rfl) ?_
  refine xt_dup ?_
  refine xt_al1 (key := 38) (q := q_X7_init) (A := 17) (B := 1232) (a := 71) (b := 2480) rfl rfl rfl rfl rfl rfl rfl (Nat.le_of_ble_eq_true rfl) (Nat.le_of_ble_eq_true rfl) ⟨rfl, rfl⟩ (fun rv_ S1 M_12 hq_12 => ?_)
  obtain ⟨eS_, hI7, hT7, rfl⟩ := hq_12 rfl
  subst eS_
  try dsimp only [Option.toList, List.cons_append, List.nil_append]
  refine xt_asn2 rfl (by decide) (by dsimp only [x_sto]) ?_
  refine xt_ic ?_
  refine xt_isn3 rfl (by dsimp only [x_sto]) ?_
  refine xt_nil (t := 18) rfl ?_
  refine xt_cut rfl rfl (by dsimp only [List.take]) ?_
  have hr : (∀ k, k < 53 → M_12 k = M_4 k) := fun k hk => by rw [hI7.1 k hk, x_row_ne _ _ (by omega)]
  have h53 : M_12 53 = z0 := by rw [hI7.2.1.1, x_row_self]; rfl
  exact ⟨600 - 0, 0, by omega, LI_0 hI6 h52 ⟨hr, ⟨h53, hI7.2.1.2⟩, hI7.2.2.2⟩ hT7, rfl, rfl, rfl, rfl, rfl, rfl, rfl⟩
