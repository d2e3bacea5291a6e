/-! THE LAW: its walk -/
def b_L_law : x_B := [(0, 1, [(.new 7, 3), (.dup, 1), (.invokespecial 9, 3), (.astore_n 1, 1), (.new 10, 3), (.dup, 1), (.invokespecial 12, 3), (.astore_n 2, 1), (.iconst 0, 1), (.istore_n 3, 1)]),
  (18, 4, [(.iload_n 3, 1), (.aload_n 0, 1), (.arraylength, 1), (.bipush 6, 2), (.isub, 1), (.if_icmp .gt 1024, 3), (.aload_n 0, 1), (.iload_n 3, 1), (.iaload, 1), (.bipush 31, 2), (.iand, 1), (.tableswitch 1009 0 23 #[111, 134, 167, 200, 233, 286, 335, 368, 411, 454, 477, 520, 563, 606, 629, 672, 715, 758, 821, 844, 887, 930, 943, 986], 111)]),
  (144, 4, [(.aload_n 1, 1), (.aload_n 0, 1), (.iload_n 3, 1), (.iconst 1, 1), (.iadd, 1), (.iaload, 1), (.invokevirtual 13, 3), (.aload_n 2, 1), (.aload_n 0, 1), (.iload_n 3, 1), (.iconst 1, 1), (.iadd, 1), (.iaload, 1), (.invokevirtual 17, 3), (.if_icmp .eq 880, 3), (.iconst 0, 1), (.ireturn, 1)]),
  (167, 4, [(.aload_n 1, 1), (.aload_n 0, 1), (.iload_n 3, 1), (.iconst 1, 1), (.iadd, 1), (.iaload, 1), (.aload_n 0, 1), (.iload_n 3, 1), (.iconst 2, 1), (.iadd, 1), (.iaload, 1), (.invokevirtual 18, 3), (.aload_n 2, 1), (.aload_n 0, 1), (.iload_n 3, 1), (.iconst 1, 1), (.iadd, 1), (.iaload, 1), (.aload_n 0, 1), (.iload_n 3, 1), (.iconst 2, 1), (.iadd, 1), (.iaload, 1), (.invokevirtual 22, 3), (.if_icmp .eq 847, 3), (.iconst 0, 1), (.ireturn, 1)]),
  (200, 4, [(.aload_n 1, 1), (.aload_n 0, 1), (.iload_n 3, 1), (.iconst 1, 1), (.iadd, 1), (.iaload, 1), (.aload_n 0, 1), (.iload_n 3, 1), (.iconst 2, 1), (.iadd, 1), (.iaload, 1), (.invokevirtual 23, 3), (.aload_n 2, 1), (.aload_n 0, 1), (.iload_n 3, 1), (.iconst 1, 1), (.iadd, 1), (.iaload, 1), (.aload_n 0, 1), (.iload_n 3, 1), (.iconst 2, 1), (.iadd, 1), (.iaload, 1), (.invokevirtual 26, 3), (.if_icmp .eq 814, 3), (.iconst 0, 1), (.ireturn, 1)]),
  (233, 4, [(.aload_n 1, 1), (.aload_n 0, 1), (.iload_n 3, 1), (.iconst 1, 1), (.iadd, 1), (.iaload, 1), (.aload_n 0, 1), (.iload_n 3, 1), (.iconst 2, 1), (.iadd, 1), (.iaload, 1), (.invokevirtual 27, 3), (.aload_n 2, 1), (.aload_n 0, 1), (.iload_n 3, 1), (.iconst 1, 1), (.iadd, 1), (.iaload, 1), (.aload_n 0, 1), (.iload_n 3, 1), (.iconst 2, 1), (.iadd, 1), (.iaload, 1), (.invokevirtual 30, 3), (.if_icmp .eq 781, 3), (.iconst 0, 1), (.ireturn, 1)]),
  (266, 4, [(.aload_n 1, 1), (.aload_n 0, 1), (.iload_n 3, 1), (.iconst 1, 1), (.iadd, 1), (.iaload, 1), (.aload_n 0, 1), (.iload_n 3, 1), (.iconst 2, 1), (.iadd, 1), (.iaload, 1), (.aload_n 0, 1), (.iload_n 3, 1), (.iconst 3, 1), (.iadd, 1), (.iaload, 1), (.aload_n 0, 1), (.iload_n 3, 1), (.iconst 4, 1), (.iadd, 1), (.iaload, 1), (.invokevirtual 31, 3), (.aload_n 2, 1), (.aload_n 0, 1), (.iload_n 3, 1), (.iconst 1, 1), (.iadd, 1), (.iaload, 1), (.aload_n 0, 1), (.iload_n 3, 1), (.iconst 2, 1), (.iadd, 1), (.iaload, 1), (.aload_n 0, 1), (.iload_n 3, 1), (.iconst 3, 1), (.iadd, 1), (.iaload, 1), (.aload_n 0, 1), (.iload_n 3, 1), (.iconst 4, 1), (.iadd, 1), (.iaload, 1), (.invokevirtual 35, 3), (.if_icmp .eq 728, 3), (.iconst 0, 1), (.ireturn, 1)]),
  (319, 4, [(.aload_n 1, 1), (.aload_n 0, 1), (.iload_n 3, 1), (.iconst 1, 1), (.iadd, 1), (.iaload, 1), (.aload_n 0, 1), (.iload_n 3, 1), (.iconst 2, 1), (.iadd, 1), (.iaload, 1), (.ifCond .eq 7, 3), (.iconst 1, 1), (.goto 4, 3)]),
  (337, 4, [(.iconst 0, 1)]),
  (338, 4, [(.invokevirtual 36, 3), (.aload_n 2, 1), (.aload_n 0, 1), (.iload_n 3, 1), (.iconst 1, 1), (.iadd, 1), (.iaload, 1), (.aload_n 0, 1), (.iload_n 3, 1), (.iconst 2, 1), (.iadd, 1), (.iaload, 1), (.ifCond .eq 7, 3), (.iconst 1, 1), (.goto 4, 3)]),
  (359, 4, [(.iconst 0, 1)]),
  (360, 4, [(.invokevirtual 40, 3), (.if_icmp .eq 679, 3), (.iconst 0, 1), (.ireturn, 1)]),
  (368, 4, [(.aload_n 1, 1), (.aload_n 0, 1), (.iload_n 3, 1), (.iconst 1, 1), (.iadd, 1), (.iaload, 1), (.aload_n 0, 1), (.iload_n 3, 1), (.iconst 2, 1), (.iadd, 1), (.iaload, 1), (.invokevirtual 41, 3), (.aload_n 2, 1), (.aload_n 0, 1), (.iload_n 3, 1), (.iconst 1, 1), (.iadd, 1), (.iaload, 1), (.aload_n 0, 1), (.iload_n 3, 1), (.iconst 2, 1), (.iadd, 1), (.iaload, 1), (.invokevirtual 44, 3), (.if_icmp .eq 646, 3), (.iconst 0, 1), (.ireturn, 1)]),
  (401, 4, [(.aload_n 1, 1), (.aload_n 0, 1), (.iload_n 3, 1), (.iconst 1, 1), (.iadd, 1), (.iaload, 1), (.aload_n 0, 1), (.iload_n 3, 1), (.iconst 2, 1), (.iadd, 1), (.iaload, 1), (.aload_n 0, 1), (.iload_n 3, 1), (.iconst 3, 1), (.iadd, 1), (.iaload, 1), (.invokevirtual 45, 3), (.aload_n 2, 1), (.aload_n 0, 1), (.iload_n 3, 1), (.iconst 1, 1), (.iadd, 1), (.iaload, 1), (.aload_n 0, 1), (.iload_n 3, 1), (.iconst 2, 1), (.iadd, 1), (.iaload, 1), (.aload_n 0, 1), (.iload_n 3, 1), (.iconst 3, 1), (.iadd, 1), (.iaload, 1), (.invokevirtual 49, 3), (.if_icmp .eq 603, 3), (.iconst 0, 1), (.ireturn, 1)]),
  (444, 4, [(.aload_n 1, 1), (.aload_n 0, 1), (.iload_n 3, 1), (.iconst 1, 1), (.iadd, 1), (.iaload, 1), (.aload_n 0, 1), (.iload_n 3, 1), (.iconst 2, 1), (.iadd, 1), (.iaload, 1), (.aload_n 0, 1), (.iload_n 3, 1), (.iconst 3, 1), (.iadd, 1), (.iaload, 1), (.invokevirtual 50, 3), (.aload_n 2, 1), (.aload_n 0, 1), (.iload_n 3, 1), (.iconst 1, 1), (.iadd, 1), (.iaload, 1), (.aload_n 0, 1), (.iload_n 3, 1), (.iconst 2, 1), (.iadd, 1), (.iaload, 1), (.aload_n 0, 1), (.iload_n 3, 1), (.iconst 3, 1), (.iadd, 1), (.iaload, 1), (.invokevirtual 53, 3), (.if_icmp .eq 560, 3), (.iconst 0, 1), (.ireturn, 1)]),
  (487, 4, [(.aload_n 1, 1), (.aload_n 0, 1), (.iload_n 3, 1), (.iconst 1, 1), (.iadd, 1), (.iaload, 1), (.invokevirtual 54, 3), (.aload_n 2, 1), (.aload_n 0, 1), (.iload_n 3, 1), (.iconst 1, 1), (.iadd, 1), (.iaload, 1), (.invokevirtual 57, 3), (.if_icmp .eq 537, 3), (.iconst 0, 1), (.ireturn, 1)]),
  (510, 4, [(.aload_n 1, 1), (.aload_n 0, 1), (.iload_n 3, 1), (.iconst 1, 1), (.iadd, 1), (.iaload, 1), (.aload_n 0, 1), (.iload_n 3, 1), (.iconst 2, 1), (.iadd, 1), (.iaload, 1), (.aload_n 0, 1), (.iload_n 3, 1), (.iconst 3, 1), (.iadd, 1), (.iaload, 1), (.invokevirtual 58, 3), (.aload_n 2, 1), (.aload_n 0, 1), (.iload_n 3, 1), (.iconst 1, 1), (.iadd, 1), (.iaload, 1), (.aload_n 0, 1), (.iload_n 3, 1), (.iconst 2, 1), (.iadd, 1), (.iaload, 1), (.aload_n 0, 1), (.iload_n 3, 1), (.iconst 3, 1), (.iadd, 1), (.iaload, 1), (.invokevirtual 61, 3), (.if_icmp .eq 494, 3), (.iconst 0, 1), (.ireturn, 1)]),
  (553, 4, [(.aload_n 1, 1), (.aload_n 0, 1), (.iload_n 3, 1), (.iconst 1, 1), (.iadd, 1), (.iaload, 1), (.aload_n 0, 1), (.iload_n 3, 1), (.iconst 2, 1), (.iadd, 1), (.iaload, 1), (.aload_n 0, 1), (.iload_n 3, 1), (.iconst 3, 1), (.iadd, 1), (.iaload, 1), (.invokevirtual 62, 3), (.aload_n 2, 1), (.aload_n 0, 1), (.iload_n 3, 1), (.iconst 1, 1), (.iadd, 1), (.iaload, 1), (.aload_n 0, 1), (.iload_n 3, 1), (.iconst 2, 1), (.iadd, 1), (.iaload, 1), (.aload_n 0, 1), (.iload_n 3, 1), (.iconst 3, 1), (.iadd, 1), (.iaload, 1), (.invokevirtual 65, 3), (.if_icmp .eq 451, 3), (.iconst 0, 1), (.ireturn, 1)]),
  (596, 4, [(.aload_n 1, 1), (.aload_n 0, 1), (.iload_n 3, 1), (.iconst 1, 1), (.iadd, 1), (.iaload, 1), (.aload_n 0, 1), (.iload_n 3, 1), (.iconst 2, 1), (.iadd, 1), (.iaload, 1), (.aload_n 0, 1), (.iload_n 3, 1), (.iconst 3, 1), (.iadd, 1), (.iaload, 1), (.invokevirtual 66, 3), (.aload_n 2, 1), (.aload_n 0, 1), (.iload_n 3, 1), (.iconst 1, 1), (.iadd, 1), (.iaload, 1), (.aload_n 0, 1), (.iload_n 3, 1), (.iconst 2, 1), (.iadd, 1), (.iaload, 1), (.aload_n 0, 1), (.iload_n 3, 1), (.iconst 3, 1), (.iadd, 1), (.iaload, 1), (.invokevirtual 69, 3), (.if_icmp .eq 408, 3), (.iconst 0, 1), (.ireturn, 1)]),
  (639, 4, [(.aload_n 1, 1), (.aload_n 0, 1), (.iload_n 3, 1), (.iconst 1, 1), (.iadd, 1), (.iaload, 1), (.invokevirtual 70, 3), (.aload_n 2, 1), (.aload_n 0, 1), (.iload_n 3, 1), (.iconst 1, 1), (.iadd, 1), (.iaload, 1), (.invokevirtual 73, 3), (.if_icmp .eq 385, 3), (.iconst 0, 1), (.ireturn, 1)]),
  (662, 4, [(.aload_n 1, 1), (.aload_n 0, 1), (.iload_n 3, 1), (.iconst 1, 1), (.iadd, 1), (.iaload, 1), (.aload_n 0, 1), (.iload_n 3, 1), (.iconst 2, 1), (.iadd, 1), (.iaload, 1), (.aload_n 0, 1), (.iload_n 3, 1), (.iconst 3, 1), (.iadd, 1), (.iaload, 1), (.invokevirtual 74, 3), (.aload_n 2, 1), (.aload_n 0, 1), (.iload_n 3, 1), (.iconst 1, 1), (.iadd, 1), (.iaload, 1), (.aload_n 0, 1), (.iload_n 3, 1), (.iconst 2, 1), (.iadd, 1), (.iaload, 1), (.aload_n 0, 1), (.iload_n 3, 1), (.iconst 3, 1), (.iadd, 1), (.iaload, 1), (.invokevirtual 77, 3), (.if_icmp .eq 342, 3), (.iconst 0, 1), (.ireturn, 1)]),
  (705, 4, [(.aload_n 1, 1), (.aload_n 0, 1), (.iload_n 3, 1), (.iconst 1, 1), (.iadd, 1), (.iaload, 1), (.aload_n 0, 1), (.iload_n 3, 1), (.iconst 2, 1), (.iadd, 1), (.iaload, 1), (.aload_n 0, 1), (.iload_n 3, 1), (.iconst 3, 1), (.iadd, 1), (.iaload, 1), (.invokevirtual 78, 3), (.aload_n 2, 1), (.aload_n 0, 1), (.iload_n 3, 1), (.iconst 1, 1), (.iadd, 1), (.iaload, 1), (.aload_n 0, 1), (.iload_n 3, 1), (.iconst 2, 1), (.iadd, 1), (.iaload, 1), (.aload_n 0, 1), (.iload_n 3, 1), (.iconst 3, 1), (.iadd, 1), (.iaload, 1), (.invokevirtual 81, 3), (.if_icmp .eq 299, 3), (.iconst 0, 1), (.ireturn, 1)]),
  (748, 4, [(.aload_n 1, 1), (.aload_n 0, 1), (.iload_n 3, 1), (.iconst 1, 1), (.iadd, 1), (.iaload, 1), (.aload_n 0, 1), (.iload_n 3, 1), (.iconst 2, 1), (.iadd, 1), (.iaload, 1), (.aload_n 0, 1), (.iload_n 3, 1), (.iconst 3, 1), (.iadd, 1), (.iaload, 1), (.invokevirtual 82, 3), (.aload_n 2, 1), (.aload_n 0, 1), (.iload_n 3, 1), (.iconst 1, 1), (.iadd, 1), (.iaload, 1), (.aload_n 0, 1), (.iload_n 3, 1), (.iconst 2, 1), (.iadd, 1), (.iaload, 1), (.aload_n 0, 1), (.iload_n 3, 1), (.iconst 3, 1), (.iadd, 1), (.iaload, 1), (.invokevirtual 85, 3), (.if_icmp .eq 256, 3), (.iconst 0, 1), (.ireturn, 1)]),
  (791, 4, [(.aload_n 1, 1), (.aload_n 0, 1), (.iload_n 3, 1), (.iconst 1, 1), (.iadd, 1), (.iaload, 1), (.aload_n 0, 1), (.iload_n 3, 1), (.iconst 2, 1), (.iadd, 1), (.iaload, 1), (.aload_n 0, 1), (.iload_n 3, 1), (.iconst 3, 1), (.iadd, 1), (.iaload, 1), (.aload_n 0, 1), (.iload_n 3, 1), (.iconst 4, 1), (.iadd, 1), (.iaload, 1), (.aload_n 0, 1), (.iload_n 3, 1), (.iconst 5, 1), (.iadd, 1), (.iaload, 1), (.invokevirtual 86, 3), (.aload_n 2, 1), (.aload_n 0, 1), (.iload_n 3, 1), (.iconst 1, 1), (.iadd, 1), (.iaload, 1), (.aload_n 0, 1), (.iload_n 3, 1), (.iconst 2, 1), (.iadd, 1), (.iaload, 1), (.aload_n 0, 1), (.iload_n 3, 1), (.iconst 3, 1), (.iadd, 1), (.iaload, 1), (.aload_n 0, 1), (.iload_n 3, 1), (.iconst 4, 1), (.iadd, 1), (.iaload, 1), (.aload_n 0, 1), (.iload_n 3, 1), (.iconst 5, 1), (.iadd, 1), (.iaload, 1), (.invokevirtual 90, 3), (.if_icmp .eq 193, 3), (.iconst 0, 1), (.ireturn, 1)]),
  (854, 4, [(.aload_n 1, 1), (.aload_n 0, 1), (.iload_n 3, 1), (.iconst 1, 1), (.iadd, 1), (.iaload, 1), (.invokevirtual 91, 3), (.aload_n 2, 1), (.aload_n 0, 1), (.iload_n 3, 1), (.iconst 1, 1), (.iadd, 1), (.iaload, 1), (.invokevirtual 94, 3), (.if_icmp .eq 170, 3), (.iconst 0, 1), (.ireturn, 1)]),
  (877, 4, [(.aload_n 1, 1), (.aload_n 0, 1), (.iload_n 3, 1), (.iconst 1, 1), (.iadd, 1), (.iaload, 1), (.aload_n 0, 1), (.iload_n 3, 1), (.iconst 2, 1), (.iadd, 1), (.iaload, 1), (.aload_n 0, 1), (.iload_n 3, 1), (.iconst 3, 1), (.iadd, 1), (.iaload, 1), (.invokevirtual 95, 3), (.aload_n 2, 1), (.aload_n 0, 1), (.iload_n 3, 1), (.iconst 1, 1), (.iadd, 1), (.iaload, 1), (.aload_n 0, 1), (.iload_n 3, 1), (.iconst 2, 1), (.iadd, 1), (.iaload, 1), (.aload_n 0, 1), (.iload_n 3, 1), (.iconst 3, 1), (.iadd, 1), (.iaload, 1), (.invokevirtual 98, 3), (.if_icmp .eq 127, 3), (.iconst 0, 1), (.ireturn, 1)]),
  (920, 4, [(.aload_n 1, 1), (.aload_n 0, 1), (.iload_n 3, 1), (.iconst 1, 1), (.iadd, 1), (.iaload, 1), (.aload_n 0, 1), (.iload_n 3, 1), (.iconst 2, 1), (.iadd, 1), (.iaload, 1), (.aload_n 0, 1), (.iload_n 3, 1), (.iconst 3, 1), (.iadd, 1), (.iaload, 1), (.invokevirtual 99, 3), (.aload_n 2, 1), (.aload_n 0, 1), (.iload_n 3, 1), (.iconst 1, 1), (.iadd, 1), (.iaload, 1), (.aload_n 0, 1), (.iload_n 3, 1), (.iconst 2, 1), (.iadd, 1), (.iaload, 1), (.aload_n 0, 1), (.iload_n 3, 1), (.iconst 3, 1), (.iadd, 1), (.iaload, 1), (.invokevirtual 102, 3), (.if_icmp .eq 84, 3), (.iconst 0, 1), (.ireturn, 1)]),
  (963, 4, [(.aload_n 1, 1), (.invokevirtual 103, 3), (.aload_n 2, 1), (.invokevirtual 107, 3), (.if_icmp .eq 71, 3), (.iconst 0, 1), (.ireturn, 1)]),
  (976, 4, [(.aload_n 1, 1), (.aload_n 0, 1), (.iload_n 3, 1), (.iconst 1, 1), (.iadd, 1), (.iaload, 1), (.aload_n 0, 1), (.iload_n 3, 1), (.iconst 2, 1), (.iadd, 1), (.iaload, 1), (.aload_n 0, 1), (.iload_n 3, 1), (.iconst 3, 1), (.iadd, 1), (.iaload, 1), (.invokevirtual 108, 3), (.aload_n 2, 1), (.aload_n 0, 1), (.iload_n 3, 1), (.iconst 1, 1), (.iadd, 1), (.iaload, 1), (.aload_n 0, 1), (.iload_n 3, 1), (.iconst 2, 1), (.iadd, 1), (.iaload, 1), (.aload_n 0, 1), (.iload_n 3, 1), (.iconst 3, 1), (.iadd, 1), (.iaload, 1), (.invokevirtual 111, 3), (.if_icmp .eq 28, 3), (.iconst 0, 1), (.ireturn, 1)]),
  (1019, 4, [(.aload_n 1, 1), (.aload_n 0, 1), (.iload_n 3, 1), (.iconst 1, 1), (.iadd, 1), (.iaload, 1), (.invokevirtual 112, 3), (.aload_n 2, 1), (.aload_n 0, 1), (.iload_n 3, 1), (.iconst 1, 1), (.iadd, 1), (.iaload, 1), (.invokevirtual 115, 3), (.if_icmp .eq 5, 3), (.iconst 0, 1), (.ireturn, 1)]),
  (1042, 4, [(.iinc 3 6, 3), (.goto (-1027), 3)]),
  (1048, 4, [(.iconst 1, 1), (.ireturn, 1)])]
theorem okB_cons {cc : ByteArray} {nL j : Nat} {bl : x_B} (h1 : x_okB cc nL ((bl.drop j).take 1) = true) (h2 : x_okB cc nL (bl.drop (j + 1)) = true) : x_okB cc nL (bl.drop j) = true := by
  unfold x_okB at *
  rw [show bl.drop j = (bl.drop j).take 1 ++ (bl.drop j).drop 1 from (List.take_append_drop 1 _).symm, List.all_append, List.drop_drop, h1, h2]
  rfl
theorem bk_law_0 : x_okB code 4 ((b_L_law.drop 0).take 1) = true := by decide +kernel
theorem bk_law_1 : x_okB code 4 ((b_L_law.drop 1).take 1) = true := by decide +kernel
theorem bk_law_2 : x_okB code 4 ((b_L_law.drop 2).take 1) = true := by decide +kernel
theorem bk_law_3 : x_okB code 4 ((b_L_law.drop 3).take 1) = true := by decide +kernel
theorem bk_law_4 : x_okB code 4 ((b_L_law.drop 4).take 1) = true := by decide +kernel
theorem bk_law_5 : x_okB code 4 ((b_L_law.drop 5).take 1) = true := by decide +kernel
theorem bk_law_6 : x_okB code 4 ((b_L_law.drop 6).take 1) = true := by decide +kernel
theorem bk_law_7 : x_okB code 4 ((b_L_law.drop 7).take 1) = true := by decide +kernel
theorem bk_law_8 : x_okB code 4 ((b_L_law.drop 8).take 1) = true := by decide +kernel
theorem bk_law_9 : x_okB code 4 ((b_L_law.drop 9).take 1) = true := by decide +kernel
theorem bk_law_10 : x_okB code 4 ((b_L_law.drop 10).take 1) = true := by decide +kernel
theorem bk_law_11 : x_okB code 4 ((b_L_law.drop 11).take 1) = true := by decide +kernel
theorem bk_law_12 : x_okB code 4 ((b_L_law.drop 12).take 1) = true := by decide +kernel
theorem bk_law_13 : x_okB code 4 ((b_L_law.drop 13).take 1) = true := by decide +kernel
theorem bk_law_14 : x_okB code 4 ((b_L_law.drop 14).take 1) = true := by decide +kernel
theorem bk_law_15 : x_okB code 4 ((b_L_law.drop 15).take 1) = true := by decide +kernel
theorem bk_law_16 : x_okB code 4 ((b_L_law.drop 16).take 1) = true := by decide +kernel
theorem bk_law_17 : x_okB code 4 ((b_L_law.drop 17).take 1) = true := by decide +kernel
theorem bk_law_18 : x_okB code 4 ((b_L_law.drop 18).take 1) = true := by decide +kernel
theorem bk_law_19 : x_okB code 4 ((b_L_law.drop 19).take 1) = true := by decide +kernel
theorem bk_law_20 : x_okB code 4 ((b_L_law.drop 20).take 1) = true := by decide +kernel
theorem bk_law_21 : x_okB code 4 ((b_L_law.drop 21).take 1) = true := by decide +kernel
theorem bk_law_22 : x_okB code 4 ((b_L_law.drop 22).take 1) = true := by decide +kernel
theorem bk_law_23 : x_okB code 4 ((b_L_law.drop 23).take 1) = true := by decide +kernel
theorem bk_law_24 : x_okB code 4 ((b_L_law.drop 24).take 1) = true := by decide +kernel
theorem bk_law_25 : x_okB code 4 ((b_L_law.drop 25).take 1) = true := by decide +kernel
theorem bk_law_26 : x_okB code 4 ((b_L_law.drop 26).take 1) = true := by decide +kernel
theorem bk_law_27 : x_okB code 4 ((b_L_law.drop 27).take 1) = true := by decide +kernel
theorem bk_law_28 : x_okB code 4 ((b_L_law.drop 28).take 1) = true := by decide +kernel
theorem bk_law_29 : x_okB code 4 ((b_L_law.drop 29).take 1) = true := by decide +kernel
theorem bk_law_30 : x_okB code 4 ((b_L_law.drop 30).take 1) = true := by decide +kernel
theorem bk_law_31 : x_okB code 4 ((b_L_law.drop 31).take 1) = true := by decide +kernel
theorem bl_law_32 : x_okB code 4 (b_L_law.drop 32) = true := by decide +kernel
theorem bl_law_31 : x_okB code 4 (b_L_law.drop 31) = true := okB_cons bk_law_31 bl_law_32
theorem bl_law_30 : x_okB code 4 (b_L_law.drop 30) = true := okB_cons bk_law_30 bl_law_31
theorem bl_law_29 : x_okB code 4 (b_L_law.drop 29) = true := okB_cons bk_law_29 bl_law_30
theorem bl_law_28 : x_okB code 4 (b_L_law.drop 28) = true := okB_cons bk_law_28 bl_law_29
theorem bl_law_27 : x_okB code 4 (b_L_law.drop 27) = true := okB_cons bk_law_27 bl_law_28
theorem bl_law_26 : x_okB code 4 (b_L_law.drop 26) = true := okB_cons bk_law_26 bl_law_27
theorem bl_law_25 : x_okB code 4 (b_L_law.drop 25) = true := okB_cons bk_law_25 bl_law_26
theorem bl_law_24 : x_okB code 4 (b_L_law.drop 24) = true := okB_cons bk_law_24 bl_law_25
theorem bl_law_23 : x_okB code 4 (b_L_law.drop 23) = true := okB_cons bk_law_23 bl_law_24
theorem bl_law_22 : x_okB code 4 (b_L_law.drop 22) = true := okB_cons bk_law_22 bl_law_23
theorem bl_law_21 : x_okB code 4 (b_L_law.drop 21) = true := okB_cons bk_law_21 bl_law_22
theorem bl_law_20 : x_okB code 4 (b_L_law.drop 20) = true := okB_cons bk_law_20 bl_law_21
theorem bl_law_19 : x_okB code 4 (b_L_law.drop 19) = true := okB_cons bk_law_19 bl_law_20
theorem bl_law_18 : x_okB code 4 (b_L_law.drop 18) = true := okB_cons bk_law_18 bl_law_19
theorem bl_law_17 : x_okB code 4 (b_L_law.drop 17) = true := okB_cons bk_law_17 bl_law_18
theorem bl_law_16 : x_okB code 4 (b_L_law.drop 16) = true := okB_cons bk_law_16 bl_law_17
theorem bl_law_15 : x_okB code 4 (b_L_law.drop 15) = true := okB_cons bk_law_15 bl_law_16
theorem bl_law_14 : x_okB code 4 (b_L_law.drop 14) = true := okB_cons bk_law_14 bl_law_15
theorem bl_law_13 : x_okB code 4 (b_L_law.drop 13) = true := okB_cons bk_law_13 bl_law_14
theorem bl_law_12 : x_okB code 4 (b_L_law.drop 12) = true := okB_cons bk_law_12 bl_law_13
theorem bl_law_11 : x_okB code 4 (b_L_law.drop 11) = true := okB_cons bk_law_11 bl_law_12
theorem bl_law_10 : x_okB code 4 (b_L_law.drop 10) = true := okB_cons bk_law_10 bl_law_11
theorem bl_law_9 : x_okB code 4 (b_L_law.drop 9) = true := okB_cons bk_law_9 bl_law_10
theorem bl_law_8 : x_okB code 4 (b_L_law.drop 8) = true := okB_cons bk_law_8 bl_law_9
theorem bl_law_7 : x_okB code 4 (b_L_law.drop 7) = true := okB_cons bk_law_7 bl_law_8
theorem bl_law_6 : x_okB code 4 (b_L_law.drop 6) = true := okB_cons bk_law_6 bl_law_7
theorem bl_law_5 : x_okB code 4 (b_L_law.drop 5) = true := okB_cons bk_law_5 bl_law_6
theorem bl_law_4 : x_okB code 4 (b_L_law.drop 4) = true := okB_cons bk_law_4 bl_law_5
theorem bl_law_3 : x_okB code 4 (b_L_law.drop 3) = true := okB_cons bk_law_3 bl_law_4
theorem bl_law_2 : x_okB code 4 (b_L_law.drop 2) = true := okB_cons bk_law_2 bl_law_3
theorem bl_law_1 : x_okB code 4 (b_L_law.drop 1) = true := okB_cons bk_law_1 bl_law_2
theorem bl_law_0 : x_okB code 4 (b_L_law.drop 0) = true := okB_cons bk_law_0 bl_law_1
theorem b_L_law_ok : x_okB code 4 b_L_law = true := by
  have h := bl_law_0
  rw [List.drop_zero] at h
  exact h
def K_law : List (Nat × x_K) := [(29, q_X6_init), (38, q_X7_init), (40, q_X6_turned), (52, q_X7_turned), (55, q_X6_composed), (67, q_X7_composed), (70, q_X6_near), (79, q_X7_near), (82, q_X6_steps), (91, q_X7_steps), (94, q_X6_tell), (106, q_X7_tell), (109, q_X6_silent), (121, q_X7_silent), (124, q_X6_statement), (133, q_X7_statement), (136, q_X6_told), (148, q_X7_told), (151, q_X6_closed), (160, q_X7_closed), (163, q_X6_canBe), (172, q_X7_canBe), (175, q_X6_can), (184, q_X7_can), (187, q_X6_drawing), (196, q_X7_drawing), (199, q_X6_drawn), (208, q_X7_drawn), (211, q_X6_core), (220, q_X7_core), (223, q_X6_word), (232, q_X7_word), (235, q_X6_say), (244, q_X7_say), (247, q_X6_ask), (256, q_X7_ask), (259, q_X6_box), (271, q_X7_box), (274, q_X6_rub), (283, q_X7_rub), (286, q_X6_read), (295, q_X7_read), (298, q_X6_holds), (307, q_X7_holds), (310, q_X6_fits), (322, q_X7_fits), (325, q_X6_moved), (334, q_X7_moved), (337, q_X6_count), (346, q_X7_count)]
def X_law (L : Nat) (xs : Nat → Int32) : x_X := ([], [], [], [(7, 4), (10, 5)], K_law, (600000, 7302250), (fun c => if c = 5 then L else x_kn c), (fun c j => if c = 5 then xs j else x_kf c j), 6, false)
theorem X_law_ok0 : x_okT RL (X_law 0 (fun _ => 0)) = true := by decide +kernel
theorem X_law_ok (L : Nat) (xs : Nat → Int32) : x_okT RL (X_law L xs) = true := X_law_ok0
