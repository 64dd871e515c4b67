theorem dX0_init_0 : decode cX0_init 0 = .ok (.aload_n 0, 1) := by decide +kernel
theorem dX0_init_1 : decode cX0_init 1 = .ok (.invokespecial 3, 3) := by decide +kernel
theorem dX0_init_4 : decode cX0_init 4 = .ok (.aload_n 0, 1) := by decide +kernel
theorem dX0_init_5 : decode cX0_init 5 = .ok (.iload_n 1, 1) := by decide +kernel
theorem dX0_init_6 : decode cX0_init 6 = .ok (.putfield 9, 3) := by decide +kernel
theorem dX0_init_9 : decode cX0_init 9 = .ok (.aload_n 0, 1) := by decide +kernel
theorem dX0_init_10 : decode cX0_init 10 = .ok (.iload_n 2, 1) := by decide +kernel
theorem dX0_init_11 : decode cX0_init 11 = .ok (.putfield 15, 3) := by decide +kernel
theorem dX0_init_14 : decode cX0_init 14 = .ok (.aload_n 0, 1) := by decide +kernel
theorem dX0_init_15 : decode cX0_init 15 = .ok (.iload_n 3, 1) := by decide +kernel
theorem dX0_init_16 : decode cX0_init 16 = .ok (.putfield 18, 3) := by decide +kernel
theorem dX0_init_19 : decode cX0_init 19 = .ok (.return_, 1) := by decide +kernel
theorem dX0_anniversaries_0 : decode cX0_anniversaries 0 = .ok (.aload_n 0, 1) := by decide +kernel
theorem dX0_anniversaries_1 : decode cX0_anniversaries 1 = .ok (.getfield 18, 3) := by decide +kernel
theorem dX0_anniversaries_4 : decode cX0_anniversaries 4 = .ok (.aload_n 0, 1) := by decide +kernel
theorem dX0_anniversaries_5 : decode cX0_anniversaries 5 = .ok (.getfield 15, 3) := by decide +kernel
theorem dX0_anniversaries_8 : decode cX0_anniversaries 8 = .ok (.isub, 1) := by decide +kernel
theorem dX0_anniversaries_9 : decode cX0_anniversaries 9 = .ok (.iconst 1, 1) := by decide +kernel
theorem dX0_anniversaries_10 : decode cX0_anniversaries 10 = .ok (.isub, 1) := by decide +kernel
theorem dX0_anniversaries_11 : decode cX0_anniversaries 11 = .ok (.sipush 365, 3) := by decide +kernel
theorem dX0_anniversaries_14 : decode cX0_anniversaries 14 = .ok (.idiv, 1) := by decide +kernel
theorem dX0_anniversaries_15 : decode cX0_anniversaries 15 = .ok (.ireturn, 1) := by decide +kernel
theorem dX0_anniversaryDay_0 : decode cX0_anniversaryDay 0 = .ok (.aload_n 0, 1) := by decide +kernel
theorem dX0_anniversaryDay_1 : decode cX0_anniversaryDay 1 = .ok (.getfield 15, 3) := by decide +kernel
theorem dX0_anniversaryDay_4 : decode cX0_anniversaryDay 4 = .ok (.sipush 365, 3) := by decide +kernel
theorem dX0_anniversaryDay_7 : decode cX0_anniversaryDay 7 = .ok (.iload_n 1, 1) := by decide +kernel
theorem dX0_anniversaryDay_8 : decode cX0_anniversaryDay 8 = .ok (.iconst 1, 1) := by decide +kernel
theorem dX0_anniversaryDay_9 : decode cX0_anniversaryDay 9 = .ok (.iadd, 1) := by decide +kernel
theorem dX0_anniversaryDay_10 : decode cX0_anniversaryDay 10 = .ok (.imul, 1) := by decide +kernel
theorem dX0_anniversaryDay_11 : decode cX0_anniversaryDay 11 = .ok (.iadd, 1) := by decide +kernel
theorem dX0_anniversaryDay_12 : decode cX0_anniversaryDay 12 = .ok (.ireturn, 1) := by decide +kernel
theorem dX0_anniversaryToEndorse_0 : decode cX0_anniversaryToEndorse 0 = .ok (.iconst 0, 1) := by decide +kernel
theorem dX0_anniversaryToEndorse_1 : decode cX0_anniversaryToEndorse 1 = .ok (.istore_n 2, 1) := by decide +kernel
theorem dX0_anniversaryToEndorse_2 : decode cX0_anniversaryToEndorse 2 = .ok (.iload_n 2, 1) := by decide +kernel
theorem dX0_anniversaryToEndorse_3 : decode cX0_anniversaryToEndorse 3 = .ok (.aload_n 0, 1) := by decide +kernel
theorem dX0_anniversaryToEndorse_4 : decode cX0_anniversaryToEndorse 4 = .ok (.invokevirtual 21, 3) := by decide +kernel
theorem dX0_anniversaryToEndorse_7 : decode cX0_anniversaryToEndorse 7 = .ok (.if_icmp .ge 37, 3) := by decide +kernel
theorem dX0_anniversaryToEndorse_10 : decode cX0_anniversaryToEndorse 10 = .ok (.iload_n 2, 1) := by decide +kernel
theorem dX0_anniversaryToEndorse_11 : decode cX0_anniversaryToEndorse 11 = .ok (.aload_n 0, 1) := by decide +kernel
theorem dX0_anniversaryToEndorse_12 : decode cX0_anniversaryToEndorse 12 = .ok (.getfield 25, 3) := by decide +kernel
theorem dX0_anniversaryToEndorse_15 : decode cX0_anniversaryToEndorse 15 = .ok (.invokestatic 28, 3) := by decide +kernel
theorem dX0_anniversaryToEndorse_18 : decode cX0_anniversaryToEndorse 18 = .ok (.ifCond .ne 20, 3) := by decide +kernel
theorem dX0_anniversaryToEndorse_21 : decode cX0_anniversaryToEndorse 21 = .ok (.iload_n 1, 1) := by decide +kernel
theorem dX0_anniversaryToEndorse_22 : decode cX0_anniversaryToEndorse 22 = .ok (.aload_n 0, 1) := by decide +kernel
theorem dX0_anniversaryToEndorse_23 : decode cX0_anniversaryToEndorse 23 = .ok (.iload_n 2, 1) := by decide +kernel
theorem dX0_anniversaryToEndorse_24 : decode cX0_anniversaryToEndorse 24 = .ok (.invokevirtual 32, 3) := by decide +kernel
theorem dX0_anniversaryToEndorse_27 : decode cX0_anniversaryToEndorse 27 = .ok (.isub, 1) := by decide +kernel
theorem dX0_anniversaryToEndorse_28 : decode cX0_anniversaryToEndorse 28 = .ok (.invokestatic 36, 3) := by decide +kernel
theorem dX0_anniversaryToEndorse_31 : decode cX0_anniversaryToEndorse 31 = .ok (.bipush 90, 2) := by decide +kernel
theorem dX0_anniversaryToEndorse_33 : decode cX0_anniversaryToEndorse 33 = .ok (.if_icmp .gt 5, 3) := by decide +kernel
theorem dX0_anniversaryToEndorse_36 : decode cX0_anniversaryToEndorse 36 = .ok (.iload_n 2, 1) := by decide +kernel
theorem dX0_anniversaryToEndorse_37 : decode cX0_anniversaryToEndorse 37 = .ok (.ireturn, 1) := by decide +kernel
theorem dX0_anniversaryToEndorse_38 : decode cX0_anniversaryToEndorse 38 = .ok (.iinc 2 1, 3) := by decide +kernel
theorem dX0_anniversaryToEndorse_41 : decode cX0_anniversaryToEndorse 41 = .ok (.goto (-39), 3) := by decide +kernel
theorem dX0_anniversaryToEndorse_44 : decode cX0_anniversaryToEndorse 44 = .ok (.iconst (-1), 1) := by decide +kernel
theorem dX0_anniversaryToEndorse_45 : decode cX0_anniversaryToEndorse 45 = .ok (.ireturn, 1) := by decide +kernel
theorem dX0_hasLapsedByItself_0 : decode cX0_hasLapsedByItself 0 = .ok (.iconst 0, 1) := by decide +kernel
theorem dX0_hasLapsedByItself_1 : decode cX0_hasLapsedByItself 1 = .ok (.istore_n 2, 1) := by decide +kernel
theorem dX0_hasLapsedByItself_2 : decode cX0_hasLapsedByItself 2 = .ok (.iload_n 2, 1) := by decide +kernel
theorem dX0_hasLapsedByItself_3 : decode cX0_hasLapsedByItself 3 = .ok (.aload_n 0, 1) := by decide +kernel
theorem dX0_hasLapsedByItself_4 : decode cX0_hasLapsedByItself 4 = .ok (.invokevirtual 21, 3) := by decide +kernel
theorem dX0_hasLapsedByItself_7 : decode cX0_hasLapsedByItself 7 = .ok (.if_icmp .ge 34, 3) := by decide +kernel
theorem dX0_hasLapsedByItself_10 : decode cX0_hasLapsedByItself 10 = .ok (.iload_n 2, 1) := by decide +kernel
theorem dX0_hasLapsedByItself_11 : decode cX0_hasLapsedByItself 11 = .ok (.aload_n 0, 1) := by decide +kernel
theorem dX0_hasLapsedByItself_12 : decode cX0_hasLapsedByItself 12 = .ok (.getfield 25, 3) := by decide +kernel
theorem dX0_hasLapsedByItself_15 : decode cX0_hasLapsedByItself 15 = .ok (.invokestatic 28, 3) := by decide +kernel
theorem dX0_hasLapsedByItself_18 : decode cX0_hasLapsedByItself 18 = .ok (.ifCond .ne 17, 3) := by decide +kernel
theorem dX0_hasLapsedByItself_21 : decode cX0_hasLapsedByItself 21 = .ok (.iload_n 1, 1) := by decide +kernel
theorem dX0_hasLapsedByItself_22 : decode cX0_hasLapsedByItself 22 = .ok (.aload_n 0, 1) := by decide +kernel
theorem dX0_hasLapsedByItself_23 : decode cX0_hasLapsedByItself 23 = .ok (.iload_n 2, 1) := by decide +kernel
theorem dX0_hasLapsedByItself_24 : decode cX0_hasLapsedByItself 24 = .ok (.invokevirtual 32, 3) := by decide +kernel
theorem dX0_hasLapsedByItself_27 : decode cX0_hasLapsedByItself 27 = .ok (.bipush 90, 2) := by decide +kernel
theorem dX0_hasLapsedByItself_29 : decode cX0_hasLapsedByItself 29 = .ok (.iadd, 1) := by decide +kernel
theorem dX0_hasLapsedByItself_30 : decode cX0_hasLapsedByItself 30 = .ok (.if_icmp .le 5, 3) := by decide +kernel
theorem dX0_hasLapsedByItself_33 : decode cX0_hasLapsedByItself 33 = .ok (.iconst 1, 1) := by decide +kernel
theorem dX0_hasLapsedByItself_34 : decode cX0_hasLapsedByItself 34 = .ok (.ireturn, 1) := by decide +kernel
theorem dX0_hasLapsedByItself_35 : decode cX0_hasLapsedByItself 35 = .ok (.iinc 2 1, 3) := by decide +kernel
theorem dX0_hasLapsedByItself_38 : decode cX0_hasLapsedByItself 38 = .ok (.goto (-36), 3) := by decide +kernel
theorem dX0_hasLapsedByItself_41 : decode cX0_hasLapsedByItself 41 = .ok (.iload_n 1, 1) := by decide +kernel
theorem dX0_hasLapsedByItself_42 : decode cX0_hasLapsedByItself 42 = .ok (.aload_n 0, 1) := by decide +kernel
theorem dX0_hasLapsedByItself_43 : decode cX0_hasLapsedByItself 43 = .ok (.getfield 18, 3) := by decide +kernel
theorem dX0_hasLapsedByItself_46 : decode cX0_hasLapsedByItself 46 = .ok (.if_icmp .le 7, 3) := by decide +kernel
theorem dX0_hasLapsedByItself_49 : decode cX0_hasLapsedByItself 49 = .ok (.iconst 1, 1) := by decide +kernel
theorem dX0_hasLapsedByItself_50 : decode cX0_hasLapsedByItself 50 = .ok (.goto 4, 3) := by decide +kernel
theorem dX0_hasLapsedByItself_53 : decode cX0_hasLapsedByItself 53 = .ok (.iconst 0, 1) := by decide +kernel
theorem dX0_hasLapsedByItself_54 : decode cX0_hasLapsedByItself 54 = .ok (.ireturn, 1) := by decide +kernel
theorem dX1_init_0 : decode cX1_init 0 = .ok (.aload_n 0, 1) := by decide +kernel
theorem dX1_init_1 : decode cX1_init 1 = .ok (.invokespecial 1, 3) := by decide +kernel
theorem dX1_init_4 : decode cX1_init 4 = .ok (.aload_n 0, 1) := by decide +kernel
theorem dX1_init_5 : decode cX1_init 5 = .ok (.iload_n 1, 1) := by decide +kernel
theorem dX1_init_6 : decode cX1_init 6 = .ok (.putfield 7, 3) := by decide +kernel
theorem dX1_init_9 : decode cX1_init 9 = .ok (.return_, 1) := by decide +kernel
theorem dX1_isOpen_0 : decode cX1_isOpen 0 = .ok (.aload_n 0, 1) := by decide +kernel
theorem dX1_isOpen_1 : decode cX1_isOpen 1 = .ok (.getfield 13, 3) := by decide +kernel
theorem dX1_isOpen_4 : decode cX1_isOpen 4 = .ok (.ifCond .ne 14, 3) := by decide +kernel
theorem dX1_isOpen_7 : decode cX1_isOpen 7 = .ok (.aload_n 0, 1) := by decide +kernel
theorem dX1_isOpen_8 : decode cX1_isOpen 8 = .ok (.getfield 17, 3) := by decide +kernel
theorem dX1_isOpen_11 : decode cX1_isOpen 11 = .ok (.ifCond .ne 7, 3) := by decide +kernel
theorem dX1_isOpen_14 : decode cX1_isOpen 14 = .ok (.iconst 1, 1) := by decide +kernel
theorem dX1_isOpen_15 : decode cX1_isOpen 15 = .ok (.goto 4, 3) := by decide +kernel
theorem dX1_isOpen_18 : decode cX1_isOpen 18 = .ok (.iconst 0, 1) := by decide +kernel
theorem dX1_isOpen_19 : decode cX1_isOpen 19 = .ok (.ireturn, 1) := by decide +kernel
theorem dX2_init_0 : decode cX2_init 0 = .ok (.aload_n 0, 1) := by decide +kernel
theorem dX2_init_1 : decode cX2_init 1 = .ok (.invokespecial 1, 3) := by decide +kernel
theorem dX2_init_4 : decode cX2_init 4 = .ok (.aload_n 0, 1) := by decide +kernel
theorem dX2_init_5 : decode cX2_init 5 = .ok (.iload_n 1, 1) := by decide +kernel
theorem dX2_init_6 : decode cX2_init 6 = .ok (.putfield 7, 3) := by decide +kernel
theorem dX2_init_9 : decode cX2_init 9 = .ok (.aload_n 0, 1) := by decide +kernel
theorem dX2_init_10 : decode cX2_init 10 = .ok (.iload_n 2, 1) := by decide +kernel
theorem dX2_init_11 : decode cX2_init 11 = .ok (.putfield 13, 3) := by decide +kernel
theorem dX2_init_14 : decode cX2_init 14 = .ok (.aload_n 0, 1) := by decide +kernel
theorem dX2_init_15 : decode cX2_init 15 = .ok (.iload_n 3, 1) := by decide +kernel
theorem dX2_init_16 : decode cX2_init 16 = .ok (.putfield 16, 3) := by decide +kernel
theorem dX2_init_19 : decode cX2_init 19 = .ok (.aload_n 0, 1) := by decide +kernel
theorem dX2_init_20 : decode cX2_init 20 = .ok (.iload 4, 2) := by decide +kernel
theorem dX2_init_22 : decode cX2_init 22 = .ok (.putfield 19, 3) := by decide +kernel
theorem dX2_init_25 : decode cX2_init 25 = .ok (.return_, 1) := by decide +kernel
theorem dX3_init_0 : decode cX3_init 0 = .ok (.aload_n 0, 1) := by decide +kernel
theorem dX3_init_1 : decode cX3_init 1 = .ok (.invokespecial 1, 3) := by decide +kernel
theorem dX3_init_4 : decode cX3_init 4 = .ok (.aload_n 0, 1) := by decide +kernel
theorem dX3_init_5 : decode cX3_init 5 = .ok (.iload_n 1, 1) := by decide +kernel
theorem dX3_init_6 : decode cX3_init 6 = .ok (.putfield 7, 3) := by decide +kernel
theorem dX3_init_9 : decode cX3_init 9 = .ok (.aload_n 0, 1) := by decide +kernel
theorem dX3_init_10 : decode cX3_init 10 = .ok (.iload_n 2, 1) := by decide +kernel
theorem dX3_init_11 : decode cX3_init 11 = .ok (.putfield 13, 3) := by decide +kernel
theorem dX3_init_14 : decode cX3_init 14 = .ok (.aload_n 0, 1) := by decide +kernel
theorem dX3_init_15 : decode cX3_init 15 = .ok (.iload_n 3, 1) := by decide +kernel
theorem dX3_init_16 : decode cX3_init 16 = .ok (.putfield 16, 3) := by decide +kernel
theorem dX3_init_19 : decode cX3_init 19 = .ok (.aload_n 0, 1) := by decide +kernel
theorem dX3_init_20 : decode cX3_init 20 = .ok (.iload 4, 2) := by decide +kernel
theorem dX3_init_22 : decode cX3_init 22 = .ok (.putfield 19, 3) := by decide +kernel
theorem dX3_init_25 : decode cX3_init 25 = .ok (.aload_n 0, 1) := by decide +kernel
theorem dX3_init_26 : decode cX3_init 26 = .ok (.iload 5, 2) := by decide +kernel
theorem dX3_init_28 : decode cX3_init 28 = .ok (.putfield 22, 3) := by decide +kernel
theorem dX3_init_31 : decode cX3_init 31 = .ok (.return_, 1) := by decide +kernel
theorem dX3_isInForce_0 : decode cX3_isInForce 0 = .ok (.aload_n 1, 1) := by decide +kernel
theorem dX3_isInForce_1 : decode cX3_isInForce 1 = .ok (.getfield 25, 3) := by decide +kernel
theorem dX3_isInForce_4 : decode cX3_isInForce 4 = .ok (.aload_n 0, 1) := by decide +kernel
theorem dX3_isInForce_5 : decode cX3_isInForce 5 = .ok (.getfield 19, 3) := by decide +kernel
theorem dX3_isInForce_8 : decode cX3_isInForce 8 = .ok (.if_icmp .ge 15, 3) := by decide +kernel
theorem dX3_isInForce_11 : decode cX3_isInForce 11 = .ok (.aload_n 0, 1) := by decide +kernel
theorem dX3_isInForce_12 : decode cX3_isInForce 12 = .ok (.getfield 19, 3) := by decide +kernel
theorem dX3_isInForce_15 : decode cX3_isInForce 15 = .ok (.aload_n 0, 1) := by decide +kernel
theorem dX3_isInForce_16 : decode cX3_isInForce 16 = .ok (.getfield 22, 3) := by decide +kernel
theorem dX3_isInForce_19 : decode cX3_isInForce 19 = .ok (.iadd, 1) := by decide +kernel
theorem dX3_isInForce_20 : decode cX3_isInForce 20 = .ok (.goto 7, 3) := by decide +kernel
theorem dX3_isInForce_23 : decode cX3_isInForce 23 = .ok (.aload_n 0, 1) := by decide +kernel
theorem dX3_isInForce_24 : decode cX3_isInForce 24 = .ok (.getfield 19, 3) := by decide +kernel
theorem dX3_isInForce_27 : decode cX3_isInForce 27 = .ok (.istore_n 3, 1) := by decide +kernel
theorem dX3_isInForce_28 : decode cX3_isInForce 28 = .ok (.aload_n 1, 1) := by decide +kernel
theorem dX3_isInForce_29 : decode cX3_isInForce 29 = .ok (.getfield 30, 3) := by decide +kernel
theorem dX3_isInForce_32 : decode cX3_isInForce 32 = .ok (.aload_n 0, 1) := by decide +kernel
theorem dX3_isInForce_33 : decode cX3_isInForce 33 = .ok (.getfield 13, 3) := by decide +kernel
theorem dX3_isInForce_36 : decode cX3_isInForce 36 = .ok (.if_icmp .lt 26, 3) := by decide +kernel
theorem dX3_isInForce_39 : decode cX3_isInForce 39 = .ok (.aload_n 1, 1) := by decide +kernel
theorem dX3_isInForce_40 : decode cX3_isInForce 40 = .ok (.getfield 31, 3) := by decide +kernel
theorem dX3_isInForce_43 : decode cX3_isInForce 43 = .ok (.aload_n 0, 1) := by decide +kernel
theorem dX3_isInForce_44 : decode cX3_isInForce 44 = .ok (.getfield 16, 3) := by decide +kernel
theorem dX3_isInForce_47 : decode cX3_isInForce 47 = .ok (.invokestatic 34, 3) := by decide +kernel
theorem dX3_isInForce_50 : decode cX3_isInForce 50 = .ok (.ifCond .eq 12, 3) := by decide +kernel
theorem dX3_isInForce_53 : decode cX3_isInForce 53 = .ok (.iload_n 2, 1) := by decide +kernel
theorem dX3_isInForce_54 : decode cX3_isInForce 54 = .ok (.iload_n 3, 1) := by decide +kernel
theorem dX3_isInForce_55 : decode cX3_isInForce 55 = .ok (.if_icmp .lt 7, 3) := by decide +kernel
theorem dX3_isInForce_58 : decode cX3_isInForce 58 = .ok (.iconst 1, 1) := by decide +kernel
theorem dX3_isInForce_59 : decode cX3_isInForce 59 = .ok (.goto 4, 3) := by decide +kernel
theorem dX3_isInForce_62 : decode cX3_isInForce 62 = .ok (.iconst 0, 1) := by decide +kernel
theorem dX3_isInForce_63 : decode cX3_isInForce 63 = .ok (.ireturn, 1) := by decide +kernel
theorem dX4_init_0 : decode cX4_init 0 = .ok (.aload_n 0, 1) := by decide +kernel
theorem dX4_init_1 : decode cX4_init 1 = .ok (.invokespecial 3, 3) := by decide +kernel
theorem dX4_init_4 : decode cX4_init 4 = .ok (.aload_n 0, 1) := by decide +kernel
theorem dX4_init_5 : decode cX4_init 5 = .ok (.iload_n 1, 1) := by decide +kernel
theorem dX4_init_6 : decode cX4_init 6 = .ok (.putfield 9, 3) := by decide +kernel
theorem dX4_init_9 : decode cX4_init 9 = .ok (.aload_n 0, 1) := by decide +kernel
theorem dX4_init_10 : decode cX4_init 10 = .ok (.iload_n 2, 1) := by decide +kernel
theorem dX4_init_11 : decode cX4_init 11 = .ok (.putfield 15, 3) := by decide +kernel
theorem dX4_init_14 : decode cX4_init 14 = .ok (.aload_n 0, 1) := by decide +kernel
theorem dX4_init_15 : decode cX4_init 15 = .ok (.iload_n 3, 1) := by decide +kernel
theorem dX4_init_16 : decode cX4_init 16 = .ok (.putfield 18, 3) := by decide +kernel
theorem dX4_init_19 : decode cX4_init 19 = .ok (.aload_n 0, 1) := by decide +kernel
theorem dX4_init_20 : decode cX4_init 20 = .ok (.iload 4, 2) := by decide +kernel
theorem dX4_init_22 : decode cX4_init 22 = .ok (.putfield 21, 3) := by decide +kernel
theorem dX4_init_25 : decode cX4_init 25 = .ok (.aload_n 0, 1) := by decide +kernel
theorem dX4_init_26 : decode cX4_init 26 = .ok (.iload 5, 2) := by decide +kernel
theorem dX4_init_28 : decode cX4_init 28 = .ok (.putfield 24, 3) := by decide +kernel
theorem dX4_init_31 : decode cX4_init 31 = .ok (.aload_n 0, 1) := by decide +kernel
theorem dX4_init_32 : decode cX4_init 32 = .ok (.iload 6, 2) := by decide +kernel
theorem dX4_init_34 : decode cX4_init 34 = .ok (.putfield 27, 3) := by decide +kernel
theorem dX4_init_37 : decode cX4_init 37 = .ok (.aload_n 0, 1) := by decide +kernel
theorem dX4_init_38 : decode cX4_init 38 = .ok (.iconst 5, 1) := by decide +kernel
theorem dX4_init_39 : decode cX4_init 39 = .ok (.anewarray 30, 3) := by decide +kernel
theorem dX4_init_42 : decode cX4_init 42 = .ok (.putfield 32, 3) := by decide +kernel
theorem dX4_init_45 : decode cX4_init 45 = .ok (.aload_n 0, 1) := by decide +kernel
theorem dX4_init_46 : decode cX4_init 46 = .ok (.new 36, 3) := by decide +kernel
theorem dX4_init_49 : decode cX4_init 49 = .ok (.dup, 1) := by decide +kernel
theorem dX4_init_50 : decode cX4_init 50 = .ok (.invokespecial 38, 3) := by decide +kernel
theorem dX4_init_53 : decode cX4_init 53 = .ok (.putfield 39, 3) := by decide +kernel
theorem dX4_init_56 : decode cX4_init 56 = .ok (.aload_n 0, 1) := by decide +kernel
theorem dX4_init_57 : decode cX4_init 57 = .ok (.iconst (-1), 1) := by decide +kernel
theorem dX4_init_58 : decode cX4_init 58 = .ok (.putfield 43, 3) := by decide +kernel
theorem dX4_init_61 : decode cX4_init 61 = .ok (.aload_n 0, 1) := by decide +kernel
theorem dX4_init_62 : decode cX4_init 62 = .ok (.iconst (-1), 1) := by decide +kernel
theorem dX4_init_63 : decode cX4_init 63 = .ok (.putfield 46, 3) := by decide +kernel
theorem dX4_init_66 : decode cX4_init 66 = .ok (.return_, 1) := by decide +kernel
theorem dX4_note_0 : decode cX4_note 0 = .ok (.aload_n 0, 1) := by decide +kernel
theorem dX4_note_1 : decode cX4_note 1 = .ok (.getfield 39, 3) := by decide +kernel
theorem dX4_note_4 : decode cX4_note 4 = .ok (.invokevirtual 49, 3) := by decide +kernel
theorem dX4_note_7 : decode cX4_note 7 = .ok (.sipush 514, 3) := by decide +kernel
theorem dX4_note_10 : decode cX4_note 10 = .ok (.if_icmp .ge 23, 3) := by decide +kernel
theorem dX4_note_13 : decode cX4_note 13 = .ok (.aload_n 0, 1) := by decide +kernel
theorem dX4_note_14 : decode cX4_note 14 = .ok (.getfield 39, 3) := by decide +kernel
theorem dX4_note_17 : decode cX4_note 17 = .ok (.new 52, 3) := by decide +kernel
theorem dX4_note_20 : decode cX4_note 20 = .ok (.dup, 1) := by decide +kernel
theorem dX4_note_21 : decode cX4_note 21 = .ok (.iload_n 1, 1) := by decide +kernel
theorem dX4_note_22 : decode cX4_note 22 = .ok (.iload_n 2, 1) := by decide +kernel
theorem dX4_note_23 : decode cX4_note 23 = .ok (.iload_n 3, 1) := by decide +kernel
theorem dX4_note_24 : decode cX4_note 24 = .ok (.iload 4, 2) := by decide +kernel
theorem dX4_note_26 : decode cX4_note 26 = .ok (.invokespecial 54, 3) := by decide +kernel
theorem dX4_note_29 : decode cX4_note 29 = .ok (.invokevirtual 57, 3) := by decide +kernel
theorem dX4_note_32 : decode cX4_note 32 = .ok (.pop, 1) := by decide +kernel
theorem dX4_note_33 : decode cX4_note 33 = .ok (.return_, 1) := by decide +kernel
theorem dX5_init_0 : decode cX5_init 0 = .ok (.aload_n 0, 1) := by decide +kernel
theorem dX5_init_1 : decode cX5_init 1 = .ok (.invokespecial 3, 3) := by decide +kernel
theorem dX5_init_4 : decode cX5_init 4 = .ok (.aload_n 0, 1) := by decide +kernel
theorem dX5_init_5 : decode cX5_init 5 = .ok (.aload_n 1, 1) := by decide +kernel
theorem dX5_init_6 : decode cX5_init 6 = .ok (.putfield 9, 3) := by decide +kernel
theorem dX5_init_9 : decode cX5_init 9 = .ok (.aload_n 0, 1) := by decide +kernel
theorem dX5_init_10 : decode cX5_init 10 = .ok (.iload_n 2, 1) := by decide +kernel
theorem dX5_init_11 : decode cX5_init 11 = .ok (.putfield 15, 3) := by decide +kernel
theorem dX5_init_14 : decode cX5_init 14 = .ok (.aload_n 0, 1) := by decide +kernel
theorem dX5_init_15 : decode cX5_init 15 = .ok (.aload_n 1, 1) := by decide +kernel
theorem dX5_init_16 : decode cX5_init 16 = .ok (.getfield 19, 3) := by decide +kernel
theorem dX5_init_19 : decode cX5_init 19 = .ok (.putfield 24, 3) := by decide +kernel
theorem dX5_init_22 : decode cX5_init 22 = .ok (.aload_n 0, 1) := by decide +kernel
theorem dX5_init_23 : decode cX5_init 23 = .ok (.iload_n 3, 1) := by decide +kernel
theorem dX5_init_24 : decode cX5_init 24 = .ok (.putfield 25, 3) := by decide +kernel
theorem dX5_init_27 : decode cX5_init 27 = .ok (.aload_n 0, 1) := by decide +kernel
theorem dX5_init_28 : decode cX5_init 28 = .ok (.aload_n 1, 1) := by decide +kernel
theorem dX5_init_29 : decode cX5_init 29 = .ok (.getfield 28, 3) := by decide +kernel
theorem dX5_init_32 : decode cX5_init 32 = .ok (.putfield 31, 3) := by decide +kernel
theorem dX5_init_35 : decode cX5_init 35 = .ok (.aload_n 0, 1) := by decide +kernel
theorem dX5_init_36 : decode cX5_init 36 = .ok (.iload 4, 2) := by decide +kernel
theorem dX5_init_38 : decode cX5_init 38 = .ok (.putfield 32, 3) := by decide +kernel
theorem dX5_init_41 : decode cX5_init 41 = .ok (.aload_n 0, 1) := by decide +kernel
theorem dX5_init_42 : decode cX5_init 42 = .ok (.new 35, 3) := by decide +kernel
theorem dX5_init_45 : decode cX5_init 45 = .ok (.dup, 1) := by decide +kernel
theorem dX5_init_46 : decode cX5_init 46 = .ok (.invokespecial 37, 3) := by decide +kernel
theorem dX5_init_49 : decode cX5_init 49 = .ok (.putfield 38, 3) := by decide +kernel
theorem dX5_init_52 : decode cX5_init 52 = .ok (.aload_n 0, 1) := by decide +kernel
theorem dX5_init_53 : decode cX5_init 53 = .ok (.iconst (-1), 1) := by decide +kernel
theorem dX5_init_54 : decode cX5_init 54 = .ok (.putfield 42, 3) := by decide +kernel
theorem dX5_init_57 : decode cX5_init 57 = .ok (.return_, 1) := by decide +kernel
theorem dX5_openFindings_0 : decode cX5_openFindings 0 = .ok (.iconst 0, 1) := by decide +kernel
theorem dX5_openFindings_1 : decode cX5_openFindings 1 = .ok (.istore_n 1, 1) := by decide +kernel
theorem dX5_openFindings_2 : decode cX5_openFindings 2 = .ok (.iconst 0, 1) := by decide +kernel
theorem dX5_openFindings_3 : decode cX5_openFindings 3 = .ok (.istore_n 2, 1) := by decide +kernel
theorem dX5_openFindings_4 : decode cX5_openFindings 4 = .ok (.iload_n 2, 1) := by decide +kernel
theorem dX5_openFindings_5 : decode cX5_openFindings 5 = .ok (.aload_n 0, 1) := by decide +kernel
theorem dX5_openFindings_6 : decode cX5_openFindings 6 = .ok (.getfield 38, 3) := by decide +kernel
theorem dX5_openFindings_9 : decode cX5_openFindings 9 = .ok (.invokevirtual 45, 3) := by decide +kernel
theorem dX5_openFindings_12 : decode cX5_openFindings 12 = .ok (.if_icmp .ge 34, 3) := by decide +kernel
theorem dX5_openFindings_15 : decode cX5_openFindings 15 = .ok (.iload_n 1, 1) := by decide +kernel
theorem dX5_openFindings_16 : decode cX5_openFindings 16 = .ok (.aload_n 0, 1) := by decide +kernel
theorem dX5_openFindings_17 : decode cX5_openFindings 17 = .ok (.getfield 38, 3) := by decide +kernel
theorem dX5_openFindings_20 : decode cX5_openFindings 20 = .ok (.iload_n 2, 1) := by decide +kernel
theorem dX5_openFindings_21 : decode cX5_openFindings 21 = .ok (.invokevirtual 49, 3) := by decide +kernel
theorem dX5_openFindings_24 : decode cX5_openFindings 24 = .ok (.checkcast 53, 3) := by decide +kernel
theorem dX5_openFindings_27 : decode cX5_openFindings 27 = .ok (.invokevirtual 55, 3) := by decide +kernel
theorem dX5_openFindings_30 : decode cX5_openFindings 30 = .ok (.ifCond .eq 7, 3) := by decide +kernel
theorem dX5_openFindings_33 : decode cX5_openFindings 33 = .ok (.iconst 1, 1) := by decide +kernel
theorem dX5_openFindings_34 : decode cX5_openFindings 34 = .ok (.goto 4, 3) := by decide +kernel
theorem dX5_openFindings_37 : decode cX5_openFindings 37 = .ok (.iconst 0, 1) := by decide +kernel
theorem dX5_openFindings_38 : decode cX5_openFindings 38 = .ok (.iadd, 1) := by decide +kernel
theorem dX5_openFindings_39 : decode cX5_openFindings 39 = .ok (.istore_n 1, 1) := by decide +kernel
theorem dX5_openFindings_40 : decode cX5_openFindings 40 = .ok (.iinc 2 1, 3) := by decide +kernel
theorem dX5_openFindings_43 : decode cX5_openFindings 43 = .ok (.goto (-39), 3) := by decide +kernel
theorem dX5_openFindings_46 : decode cX5_openFindings 46 = .ok (.iload_n 1, 1) := by decide +kernel
theorem dX5_openFindings_47 : decode cX5_openFindings 47 = .ok (.ireturn, 1) := by decide +kernel
theorem dX5_openWeight_0 : decode cX5_openWeight 0 = .ok (.iconst 0, 1) := by decide +kernel
theorem dX5_openWeight_1 : decode cX5_openWeight 1 = .ok (.istore_n 1, 1) := by decide +kernel
theorem dX5_openWeight_2 : decode cX5_openWeight 2 = .ok (.iconst 0, 1) := by decide +kernel
theorem dX5_openWeight_3 : decode cX5_openWeight 3 = .ok (.istore_n 2, 1) := by decide +kernel
theorem dX5_openWeight_4 : decode cX5_openWeight 4 = .ok (.iload_n 2, 1) := by decide +kernel
theorem dX5_openWeight_5 : decode cX5_openWeight 5 = .ok (.aload_n 0, 1) := by decide +kernel
theorem dX5_openWeight_6 : decode cX5_openWeight 6 = .ok (.getfield 38, 3) := by decide +kernel
theorem dX5_openWeight_9 : decode cX5_openWeight 9 = .ok (.invokevirtual 45, 3) := by decide +kernel
theorem dX5_openWeight_12 : decode cX5_openWeight 12 = .ok (.if_icmp .ge 39, 3) := by decide +kernel
theorem dX5_openWeight_15 : decode cX5_openWeight 15 = .ok (.aload_n 0, 1) := by decide +kernel
theorem dX5_openWeight_16 : decode cX5_openWeight 16 = .ok (.getfield 38, 3) := by decide +kernel
theorem dX5_openWeight_19 : decode cX5_openWeight 19 = .ok (.iload_n 2, 1) := by decide +kernel
theorem dX5_openWeight_20 : decode cX5_openWeight 20 = .ok (.invokevirtual 49, 3) := by decide +kernel
theorem dX5_openWeight_23 : decode cX5_openWeight 23 = .ok (.checkcast 53, 3) := by decide +kernel
theorem dX5_openWeight_26 : decode cX5_openWeight 26 = .ok (.astore_n 3, 1) := by decide +kernel
theorem dX5_openWeight_27 : decode cX5_openWeight 27 = .ok (.iload_n 1, 1) := by decide +kernel
theorem dX5_openWeight_28 : decode cX5_openWeight 28 = .ok (.aload_n 3, 1) := by decide +kernel
theorem dX5_openWeight_29 : decode cX5_openWeight 29 = .ok (.invokevirtual 55, 3) := by decide +kernel
theorem dX5_openWeight_32 : decode cX5_openWeight 32 = .ok (.ifCond .eq 10, 3) := by decide +kernel
theorem dX5_openWeight_35 : decode cX5_openWeight 35 = .ok (.aload_n 3, 1) := by decide +kernel
theorem dX5_openWeight_36 : decode cX5_openWeight 36 = .ok (.getfield 59, 3) := by decide +kernel
theorem dX5_openWeight_39 : decode cX5_openWeight 39 = .ok (.goto 4, 3) := by decide +kernel
theorem dX5_openWeight_42 : decode cX5_openWeight 42 = .ok (.iconst 0, 1) := by decide +kernel
theorem dX5_openWeight_43 : decode cX5_openWeight 43 = .ok (.iadd, 1) := by decide +kernel
theorem dX5_openWeight_44 : decode cX5_openWeight 44 = .ok (.istore_n 1, 1) := by decide +kernel
theorem dX5_openWeight_45 : decode cX5_openWeight 45 = .ok (.iinc 2 1, 3) := by decide +kernel
theorem dX5_openWeight_48 : decode cX5_openWeight 48 = .ok (.goto (-44), 3) := by decide +kernel
theorem dX5_openWeight_51 : decode cX5_openWeight 51 = .ok (.iload_n 1, 1) := by decide +kernel
theorem dX5_openWeight_52 : decode cX5_openWeight 52 = .ok (.ireturn, 1) := by decide +kernel
theorem dX5_hasPutOffUnmended_0 : decode cX5_hasPutOffUnmended 0 = .ok (.iconst 0, 1) := by decide +kernel
theorem dX5_hasPutOffUnmended_1 : decode cX5_hasPutOffUnmended 1 = .ok (.istore_n 1, 1) := by decide +kernel
theorem dX5_hasPutOffUnmended_2 : decode cX5_hasPutOffUnmended 2 = .ok (.iload_n 1, 1) := by decide +kernel
theorem dX5_hasPutOffUnmended_3 : decode cX5_hasPutOffUnmended 3 = .ok (.aload_n 0, 1) := by decide +kernel
theorem dX5_hasPutOffUnmended_4 : decode cX5_hasPutOffUnmended 4 = .ok (.getfield 38, 3) := by decide +kernel
theorem dX5_hasPutOffUnmended_7 : decode cX5_hasPutOffUnmended 7 = .ok (.invokevirtual 45, 3) := by decide +kernel
theorem dX5_hasPutOffUnmended_10 : decode cX5_hasPutOffUnmended 10 = .ok (.if_icmp .ge 37, 3) := by decide +kernel
theorem dX5_hasPutOffUnmended_13 : decode cX5_hasPutOffUnmended 13 = .ok (.aload_n 0, 1) := by decide +kernel
theorem dX5_hasPutOffUnmended_14 : decode cX5_hasPutOffUnmended 14 = .ok (.getfield 38, 3) := by decide +kernel
theorem dX5_hasPutOffUnmended_17 : decode cX5_hasPutOffUnmended 17 = .ok (.iload_n 1, 1) := by decide +kernel
theorem dX5_hasPutOffUnmended_18 : decode cX5_hasPutOffUnmended 18 = .ok (.invokevirtual 49, 3) := by decide +kernel
theorem dX5_hasPutOffUnmended_21 : decode cX5_hasPutOffUnmended 21 = .ok (.checkcast 53, 3) := by decide +kernel
theorem dX5_hasPutOffUnmended_24 : decode cX5_hasPutOffUnmended 24 = .ok (.astore_n 2, 1) := by decide +kernel
theorem dX5_hasPutOffUnmended_25 : decode cX5_hasPutOffUnmended 25 = .ok (.aload_n 2, 1) := by decide +kernel
theorem dX5_hasPutOffUnmended_26 : decode cX5_hasPutOffUnmended 26 = .ok (.getfield 62, 3) := by decide +kernel
theorem dX5_hasPutOffUnmended_29 : decode cX5_hasPutOffUnmended 29 = .ok (.ifCond .eq 12, 3) := by decide +kernel
theorem dX5_hasPutOffUnmended_32 : decode cX5_hasPutOffUnmended 32 = .ok (.aload_n 2, 1) := by decide +kernel
theorem dX5_hasPutOffUnmended_33 : decode cX5_hasPutOffUnmended 33 = .ok (.getfield 66, 3) := by decide +kernel
theorem dX5_hasPutOffUnmended_36 : decode cX5_hasPutOffUnmended 36 = .ok (.ifCond .ne 5, 3) := by decide +kernel
theorem dX5_hasPutOffUnmended_39 : decode cX5_hasPutOffUnmended 39 = .ok (.iconst 1, 1) := by decide +kernel
theorem dX5_hasPutOffUnmended_40 : decode cX5_hasPutOffUnmended 40 = .ok (.ireturn, 1) := by decide +kernel
theorem dX5_hasPutOffUnmended_41 : decode cX5_hasPutOffUnmended 41 = .ok (.iinc 1 1, 3) := by decide +kernel
theorem dX5_hasPutOffUnmended_44 : decode cX5_hasPutOffUnmended 44 = .ok (.goto (-42), 3) := by decide +kernel
theorem dX5_hasPutOffUnmended_47 : decode cX5_hasPutOffUnmended 47 = .ok (.iconst 0, 1) := by decide +kernel
theorem dX5_hasPutOffUnmended_48 : decode cX5_hasPutOffUnmended 48 = .ok (.ireturn, 1) := by decide +kernel
theorem dX5_wasDetention_0 : decode cX5_wasDetention 0 = .ok (.aload_n 0, 1) := by decide +kernel
theorem dX5_wasDetention_1 : decode cX5_wasDetention 1 = .ok (.getfield 42, 3) := by decide +kernel
theorem dX5_wasDetention_4 : decode cX5_wasDetention 4 = .ok (.iconst (-1), 1) := by decide +kernel
theorem dX5_wasDetention_5 : decode cX5_wasDetention 5 = .ok (.if_icmp .eq 7, 3) := by decide +kernel
theorem dX5_wasDetention_8 : decode cX5_wasDetention 8 = .ok (.iconst 1, 1) := by decide +kernel
theorem dX5_wasDetention_9 : decode cX5_wasDetention 9 = .ok (.goto 4, 3) := by decide +kernel
theorem dX5_wasDetention_12 : decode cX5_wasDetention 12 = .ok (.iconst 0, 1) := by decide +kernel
theorem dX5_wasDetention_13 : decode cX5_wasDetention 13 = .ok (.ireturn, 1) := by decide +kernel
theorem dX5_decision_0 : decode cX5_decision 0 = .ok (.aload_n 0, 1) := by decide +kernel
theorem dX5_decision_1 : decode cX5_decision 1 = .ok (.getfield 69, 3) := by decide +kernel
theorem dX5_decision_4 : decode cX5_decision 4 = .ok (.iconst 2, 1) := by decide +kernel
theorem dX5_decision_5 : decode cX5_decision 5 = .ok (.if_icmp .lt 7, 3) := by decide +kernel
theorem dX5_decision_8 : decode cX5_decision 8 = .ok (.iconst 1, 1) := by decide +kernel
theorem dX5_decision_9 : decode cX5_decision 9 = .ok (.goto 16, 3) := by decide +kernel
theorem dX5_decision_12 : decode cX5_decision 12 = .ok (.aload_n 0, 1) := by decide +kernel
theorem dX5_decision_13 : decode cX5_decision 13 = .ok (.getfield 72, 3) := by decide +kernel
theorem dX5_decision_16 : decode cX5_decision 16 = .ok (.iconst 2, 1) := by decide +kernel
theorem dX5_decision_17 : decode cX5_decision 17 = .ok (.if_icmp .lt 7, 3) := by decide +kernel
theorem dX5_decision_20 : decode cX5_decision 20 = .ok (.iconst 2, 1) := by decide +kernel
theorem dX5_decision_21 : decode cX5_decision 21 = .ok (.goto 4, 3) := by decide +kernel
theorem dX5_decision_24 : decode cX5_decision 24 = .ok (.iconst 0, 1) := by decide +kernel
theorem dX5_decision_25 : decode cX5_decision 25 = .ok (.ireturn, 1) := by decide +kernel
theorem dX5_counts_0 : decode cX5_counts 0 = .ok (.aload_n 0, 1) := by decide +kernel
theorem dX5_counts_1 : decode cX5_counts 1 = .ok (.getfield 42, 3) := by decide +kernel
theorem dX5_counts_4 : decode cX5_counts 4 = .ok (.iconst (-1), 1) := by decide +kernel
theorem dX5_counts_5 : decode cX5_counts 5 = .ok (.if_icmp .eq 15, 3) := by decide +kernel
theorem dX5_counts_8 : decode cX5_counts 8 = .ok (.aload_n 0, 1) := by decide +kernel
theorem dX5_counts_9 : decode cX5_counts 9 = .ok (.getfield 69, 3) := by decide +kernel
theorem dX5_counts_12 : decode cX5_counts 12 = .ok (.iconst 2, 1) := by decide +kernel
theorem dX5_counts_13 : decode cX5_counts 13 = .ok (.if_icmp .ge 7, 3) := by decide +kernel
theorem dX5_counts_16 : decode cX5_counts 16 = .ok (.iconst 1, 1) := by decide +kernel
theorem dX5_counts_17 : decode cX5_counts 17 = .ok (.goto 4, 3) := by decide +kernel
theorem dX5_counts_20 : decode cX5_counts 20 = .ok (.iconst 0, 1) := by decide +kernel
theorem dX5_counts_21 : decode cX5_counts 21 = .ok (.ireturn, 1) := by decide +kernel
theorem dX5_isKnownAt_0 : decode cX5_isKnownAt 0 = .ok (.iload_n 2, 1) := by decide +kernel
theorem dX5_isKnownAt_1 : decode cX5_isKnownAt 1 = .ok (.aload_n 0, 1) := by decide +kernel
theorem dX5_isKnownAt_2 : decode cX5_isKnownAt 2 = .ok (.getfield 24, 3) := by decide +kernel
theorem dX5_isKnownAt_5 : decode cX5_isKnownAt 5 = .ok (.iload_n 1, 1) := by decide +kernel
theorem dX5_isKnownAt_6 : decode cX5_isKnownAt 6 = .ok (.if_icmp .ne 10, 3) := by decide +kernel
theorem dX5_isKnownAt_9 : decode cX5_isKnownAt 9 = .ok (.aload_n 0, 1) := by decide +kernel
theorem dX5_isKnownAt_10 : decode cX5_isKnownAt 10 = .ok (.getfield 25, 3) := by decide +kernel
theorem dX5_isKnownAt_13 : decode cX5_isKnownAt 13 = .ok (.goto 9, 3) := by decide +kernel
theorem dX5_isKnownAt_16 : decode cX5_isKnownAt 16 = .ok (.aload_n 0, 1) := by decide +kernel
theorem dX5_isKnownAt_17 : decode cX5_isKnownAt 17 = .ok (.getfield 25, 3) := by decide +kernel
theorem dX5_isKnownAt_20 : decode cX5_isKnownAt 20 = .ok (.iconst 3, 1) := by decide +kernel
theorem dX5_isKnownAt_21 : decode cX5_isKnownAt 21 = .ok (.iadd, 1) := by decide +kernel
theorem dX5_isKnownAt_22 : decode cX5_isKnownAt 22 = .ok (.if_icmp .lt 7, 3) := by decide +kernel
theorem dX5_isKnownAt_25 : decode cX5_isKnownAt 25 = .ok (.iconst 1, 1) := by decide +kernel
theorem dX5_isKnownAt_26 : decode cX5_isKnownAt 26 = .ok (.goto 4, 3) := by decide +kernel
theorem dX5_isKnownAt_29 : decode cX5_isKnownAt 29 = .ok (.iconst 0, 1) := by decide +kernel
theorem dX5_isKnownAt_30 : decode cX5_isKnownAt 30 = .ok (.ireturn, 1) := by decide +kernel
theorem dX6_init_0 : decode cX6_init 0 = .ok (.aload_n 0, 1) := by decide +kernel
theorem dX6_init_1 : decode cX6_init 1 = .ok (.invokespecial 1, 3) := by decide +kernel
theorem dX6_init_4 : decode cX6_init 4 = .ok (.aload_n 0, 1) := by decide +kernel
theorem dX6_init_5 : decode cX6_init 5 = .ok (.new 7, 3) := by decide +kernel
theorem dX6_init_8 : decode cX6_init 8 = .ok (.dup, 1) := by decide +kernel
theorem dX6_init_9 : decode cX6_init 9 = .ok (.invokespecial 9, 3) := by decide +kernel
theorem dX6_init_12 : decode cX6_init 12 = .ok (.putfield 10, 3) := by decide +kernel
theorem dX6_init_15 : decode cX6_init 15 = .ok (.aload_n 0, 1) := by decide +kernel
theorem dX6_init_16 : decode cX6_init 16 = .ok (.new 7, 3) := by decide +kernel
theorem dX6_init_19 : decode cX6_init 19 = .ok (.dup, 1) := by decide +kernel
theorem dX6_init_20 : decode cX6_init 20 = .ok (.invokespecial 9, 3) := by decide +kernel
theorem dX6_init_23 : decode cX6_init 23 = .ok (.putfield 16, 3) := by decide +kernel
theorem dX6_init_26 : decode cX6_init 26 = .ok (.aload_n 0, 1) := by decide +kernel
theorem dX6_init_27 : decode cX6_init 27 = .ok (.new 7, 3) := by decide +kernel
theorem dX6_init_30 : decode cX6_init 30 = .ok (.dup, 1) := by decide +kernel
theorem dX6_init_31 : decode cX6_init 31 = .ok (.invokespecial 9, 3) := by decide +kernel
theorem dX6_init_34 : decode cX6_init 34 = .ok (.putfield 19, 3) := by decide +kernel
theorem dX6_init_37 : decode cX6_init 37 = .ok (.aload_n 0, 1) := by decide +kernel
theorem dX6_init_38 : decode cX6_init 38 = .ok (.iconst 4, 1) := by decide +kernel
theorem dX6_init_39 : decode cX6_init 39 = .ok (.newarray .boolean, 2) := by decide +kernel
theorem dX6_init_41 : decode cX6_init 41 = .ok (.putfield 22, 3) := by decide +kernel
theorem dX6_init_44 : decode cX6_init 44 = .ok (.aload_n 0, 1) := by decide +kernel
theorem dX6_init_45 : decode cX6_init 45 = .ok (.iconst 4, 1) := by decide +kernel
theorem dX6_init_46 : decode cX6_init 46 = .ok (.newarray .int, 2) := by decide +kernel
theorem dX6_init_48 : decode cX6_init 48 = .ok (.putfield 26, 3) := by decide +kernel
theorem dX6_init_51 : decode cX6_init 51 = .ok (.aload_n 0, 1) := by decide +kernel
theorem dX6_init_52 : decode cX6_init 52 = .ok (.iconst 0, 1) := by decide +kernel
theorem dX6_init_53 : decode cX6_init 53 = .ok (.putfield 30, 3) := by decide +kernel
theorem dX6_init_56 : decode cX6_init 56 = .ok (.return_, 1) := by decide +kernel
theorem dX6_pass_0 : decode cX6_pass 0 = .ok (.iload_n 1, 1) := by decide +kernel
theorem dX6_pass_1 : decode cX6_pass 1 = .ok (.iconst 1, 1) := by decide +kernel
theorem dX6_pass_2 : decode cX6_pass 2 = .ok (.if_icmp .lt 10, 3) := by decide +kernel
theorem dX6_pass_5 : decode cX6_pass 5 = .ok (.iload_n 1, 1) := by decide +kernel
theorem dX6_pass_6 : decode cX6_pass 6 = .ok (.sipush 500, 3) := by decide +kernel
theorem dX6_pass_9 : decode cX6_pass 9 = .ok (.if_icmp .le 13, 3) := by decide +kernel
theorem dX6_pass_12 : decode cX6_pass 12 = .ok (.new 34, 3) := by decide +kernel
theorem dX6_pass_15 : decode cX6_pass 15 = .ok (.dup, 1) := by decide +kernel
theorem dX6_pass_16 : decode cX6_pass 16 = .ok (.ldc 36, 2) := by decide +kernel
theorem dX6_pass_18 : decode cX6_pass 18 = .ok (.invokespecial 38, 3) := by decide +kernel
theorem dX6_pass_21 : decode cX6_pass 21 = .ok (.athrow, 1) := by decide +kernel
theorem dX6_pass_22 : decode cX6_pass 22 = .ok (.aload_n 0, 1) := by decide +kernel
theorem dX6_pass_23 : decode cX6_pass 23 = .ok (.getfield 30, 3) := by decide +kernel
theorem dX6_pass_26 : decode cX6_pass 26 = .ok (.iload_n 1, 1) := by decide +kernel
theorem dX6_pass_27 : decode cX6_pass 27 = .ok (.iadd, 1) := by decide +kernel
theorem dX6_pass_28 : decode cX6_pass 28 = .ok (.sipush 9000, 3) := by decide +kernel
theorem dX6_pass_31 : decode cX6_pass 31 = .ok (.if_icmp .le 13, 3) := by decide +kernel
theorem dX6_pass_34 : decode cX6_pass 34 = .ok (.new 41, 3) := by decide +kernel
theorem dX6_pass_37 : decode cX6_pass 37 = .ok (.dup, 1) := by decide +kernel
theorem dX6_pass_38 : decode cX6_pass 38 = .ok (.ldc 43, 2) := by decide +kernel
theorem dX6_pass_40 : decode cX6_pass 40 = .ok (.invokespecial 45, 3) := by decide +kernel
theorem dX6_pass_43 : decode cX6_pass 43 = .ok (.athrow, 1) := by decide +kernel
theorem dX6_pass_44 : decode cX6_pass 44 = .ok (.aload_n 0, 1) := by decide +kernel
theorem dX6_pass_45 : decode cX6_pass 45 = .ok (.dup, 1) := by decide +kernel
theorem dX6_pass_46 : decode cX6_pass 46 = .ok (.getfield 30, 3) := by decide +kernel
theorem dX6_pass_49 : decode cX6_pass 49 = .ok (.iload_n 1, 1) := by decide +kernel
theorem dX6_pass_50 : decode cX6_pass 50 = .ok (.iadd, 1) := by decide +kernel
theorem dX6_pass_51 : decode cX6_pass 51 = .ok (.putfield 30, 3) := by decide +kernel
theorem dX6_pass_54 : decode cX6_pass 54 = .ok (.aload_n 0, 1) := by decide +kernel
theorem dX6_pass_55 : decode cX6_pass 55 = .ok (.getfield 30, 3) := by decide +kernel
theorem dX6_pass_58 : decode cX6_pass 58 = .ok (.ireturn, 1) := by decide +kernel
theorem dX6_ship_0 : decode cX6_ship 0 = .ok (.iload 4, 2) := by decide +kernel
theorem dX6_ship_2 : decode cX6_ship 2 = .ok (.bipush 6, 2) := by decide +kernel
theorem dX6_ship_4 : decode cX6_ship 4 = .ok (.invokestatic 46, 3) := by decide +kernel
theorem dX6_ship_7 : decode cX6_ship 7 = .ok (.ifCond .eq 12, 3) := by decide +kernel
theorem dX6_ship_10 : decode cX6_ship 10 = .ok (.iload 5, 2) := by decide +kernel
theorem dX6_ship_12 : decode cX6_ship 12 = .ok (.iconst 4, 1) := by decide +kernel
theorem dX6_ship_13 : decode cX6_ship 13 = .ok (.invokestatic 46, 3) := by decide +kernel
theorem dX6_ship_16 : decode cX6_ship 16 = .ok (.ifCond .ne 13, 3) := by decide +kernel
theorem dX6_ship_19 : decode cX6_ship 19 = .ok (.new 50, 3) := by decide +kernel
theorem dX6_ship_22 : decode cX6_ship 22 = .ok (.dup, 1) := by decide +kernel
theorem dX6_ship_23 : decode cX6_ship 23 = .ok (.ldc 52, 2) := by decide +kernel
theorem dX6_ship_25 : decode cX6_ship 25 = .ok (.invokespecial 54, 3) := by decide +kernel
theorem dX6_ship_28 : decode cX6_ship 28 = .ok (.athrow, 1) := by decide +kernel
theorem dX6_ship_29 : decode cX6_ship 29 = .ok (.iload_n 1, 1) := by decide +kernel
theorem dX6_ship_30 : decode cX6_ship 30 = .ok (.sipush (-10000), 3) := by decide +kernel
theorem dX6_ship_33 : decode cX6_ship 33 = .ok (.if_icmp .lt 32, 3) := by decide +kernel
theorem dX6_ship_36 : decode cX6_ship 36 = .ok (.iload_n 1, 1) := by decide +kernel
theorem dX6_ship_37 : decode cX6_ship 37 = .ok (.aload_n 0, 1) := by decide +kernel
theorem dX6_ship_38 : decode cX6_ship 38 = .ok (.getfield 30, 3) := by decide +kernel
theorem dX6_ship_41 : decode cX6_ship 41 = .ok (.if_icmp .gt 24, 3) := by decide +kernel
theorem dX6_ship_44 : decode cX6_ship 44 = .ok (.iload_n 2, 1) := by decide +kernel
theorem dX6_ship_45 : decode cX6_ship 45 = .ok (.bipush 100, 2) := by decide +kernel
theorem dX6_ship_47 : decode cX6_ship 47 = .ok (.if_icmp .lt 18, 3) := by decide +kernel
theorem dX6_ship_50 : decode cX6_ship 50 = .ok (.iload_n 2, 1) := by decide +kernel
theorem dX6_ship_51 : decode cX6_ship 51 = .ok (.ldc 55, 2) := by decide +kernel
theorem dX6_ship_53 : decode cX6_ship 53 = .ok (.if_icmp .gt 12, 3) := by decide +kernel
theorem dX6_ship_56 : decode cX6_ship 56 = .ok (.iload_n 3, 1) := by decide +kernel
theorem dX6_ship_57 : decode cX6_ship 57 = .ok (.ifCond .lt 8, 3) := by decide +kernel
theorem dX6_ship_60 : decode cX6_ship 60 = .ok (.iload_n 3, 1) := by decide +kernel
theorem dX6_ship_61 : decode cX6_ship 61 = .ok (.iconst 2, 1) := by decide +kernel
theorem dX6_ship_62 : decode cX6_ship 62 = .ok (.if_icmp .le 13, 3) := by decide +kernel
theorem dX6_ship_65 : decode cX6_ship 65 = .ok (.new 34, 3) := by decide +kernel
theorem dX6_ship_68 : decode cX6_ship 68 = .ok (.dup, 1) := by decide +kernel
theorem dX6_ship_69 : decode cX6_ship 69 = .ok (.ldc 56, 2) := by decide +kernel
theorem dX6_ship_71 : decode cX6_ship 71 = .ok (.invokespecial 38, 3) := by decide +kernel
theorem dX6_ship_74 : decode cX6_ship 74 = .ok (.athrow, 1) := by decide +kernel
theorem dX6_ship_75 : decode cX6_ship 75 = .ok (.aload_n 0, 1) := by decide +kernel
theorem dX6_ship_76 : decode cX6_ship 76 = .ok (.getfield 10, 3) := by decide +kernel
theorem dX6_ship_79 : decode cX6_ship 79 = .ok (.invokevirtual 58, 3) := by decide +kernel
theorem dX6_ship_82 : decode cX6_ship 82 = .ok (.bipush 12, 2) := by decide +kernel
theorem dX6_ship_84 : decode cX6_ship 84 = .ok (.if_icmp .lt 13, 3) := by decide +kernel
theorem dX6_ship_87 : decode cX6_ship 87 = .ok (.new 41, 3) := by decide +kernel
theorem dX6_ship_90 : decode cX6_ship 90 = .ok (.dup, 1) := by decide +kernel
theorem dX6_ship_91 : decode cX6_ship 91 = .ok (.ldc 62, 2) := by decide +kernel
theorem dX6_ship_93 : decode cX6_ship 93 = .ok (.invokespecial 45, 3) := by decide +kernel
theorem dX6_ship_96 : decode cX6_ship 96 = .ok (.athrow, 1) := by decide +kernel
theorem dX6_ship_97 : decode cX6_ship 97 = .ok (.new 64, 3) := by decide +kernel
theorem dX6_ship_100 : decode cX6_ship 100 = .ok (.dup, 1) := by decide +kernel
theorem dX6_ship_101 : decode cX6_ship 101 = .ok (.aload_n 0, 1) := by decide +kernel
theorem dX6_ship_102 : decode cX6_ship 102 = .ok (.getfield 10, 3) := by decide +kernel
theorem dX6_ship_105 : decode cX6_ship 105 = .ok (.invokevirtual 58, 3) := by decide +kernel
theorem dX6_ship_108 : decode cX6_ship 108 = .ok (.iload_n 1, 1) := by decide +kernel
theorem dX6_ship_109 : decode cX6_ship 109 = .ok (.iload_n 2, 1) := by decide +kernel
theorem dX6_ship_110 : decode cX6_ship 110 = .ok (.iload_n 3, 1) := by decide +kernel
theorem dX6_ship_111 : decode cX6_ship 111 = .ok (.iload 4, 2) := by decide +kernel
theorem dX6_ship_113 : decode cX6_ship 113 = .ok (.iload 5, 2) := by decide +kernel
theorem dX6_ship_115 : decode cX6_ship 115 = .ok (.invokespecial 66, 3) := by decide +kernel
theorem dX6_ship_118 : decode cX6_ship 118 = .ok (.astore 6, 2) := by decide +kernel
theorem dX6_ship_120 : decode cX6_ship 120 = .ok (.aload 6, 2) := by decide +kernel
theorem dX6_ship_122 : decode cX6_ship 122 = .ok (.iconst 0, 1) := by decide +kernel
theorem dX6_ship_123 : decode cX6_ship 123 = .ok (.iconst (-1), 1) := by decide +kernel
theorem dX6_ship_124 : decode cX6_ship 124 = .ok (.iload_n 1, 1) := by decide +kernel
theorem dX6_ship_125 : decode cX6_ship 125 = .ok (.iload_n 3, 1) := by decide +kernel
theorem dX6_ship_126 : decode cX6_ship 126 = .ok (.invokevirtual 71, 3) := by decide +kernel
theorem dX6_ship_129 : decode cX6_ship 129 = .ok (.aload 6, 2) := by decide +kernel
theorem dX6_ship_131 : decode cX6_ship 131 = .ok (.iconst 1, 1) := by decide +kernel
theorem dX6_ship_132 : decode cX6_ship 132 = .ok (.iconst (-1), 1) := by decide +kernel
theorem dX6_ship_133 : decode cX6_ship 133 = .ok (.iload 4, 2) := by decide +kernel
theorem dX6_ship_135 : decode cX6_ship 135 = .ok (.iload 5, 2) := by decide +kernel
theorem dX6_ship_137 : decode cX6_ship 137 = .ok (.invokevirtual 71, 3) := by decide +kernel
theorem dX6_ship_140 : decode cX6_ship 140 = .ok (.aload_n 0, 1) := by decide +kernel
theorem dX6_ship_141 : decode cX6_ship 141 = .ok (.getfield 10, 3) := by decide +kernel
theorem dX6_ship_144 : decode cX6_ship 144 = .ok (.aload 6, 2) := by decide +kernel
theorem dX6_ship_146 : decode cX6_ship 146 = .ok (.invokevirtual 75, 3) := by decide +kernel
theorem dX6_ship_149 : decode cX6_ship 149 = .ok (.pop, 1) := by decide +kernel
theorem dX6_ship_150 : decode cX6_ship 150 = .ok (.aload 6, 2) := by decide +kernel
theorem dX6_ship_152 : decode cX6_ship 152 = .ok (.getfield 79, 3) := by decide +kernel
theorem dX6_ship_155 : decode cX6_ship 155 = .ok (.ireturn, 1) := by decide +kernel
theorem dX6_changes_0 : decode cX6_changes 0 = .ok (.aload_n 0, 1) := by decide +kernel
theorem dX6_changes_1 : decode cX6_changes 1 = .ok (.iload_n 1, 1) := by decide +kernel
theorem dX6_changes_2 : decode cX6_changes 2 = .ok (.invokevirtual 82, 3) := by decide +kernel
theorem dX6_changes_5 : decode cX6_changes 5 = .ok (.astore 4, 2) := by decide +kernel
theorem dX6_changes_7 : decode cX6_changes 7 = .ok (.iload_n 2, 1) := by decide +kernel
theorem dX6_changes_8 : decode cX6_changes 8 = .ok (.bipush 6, 2) := by decide +kernel
theorem dX6_changes_10 : decode cX6_changes 10 = .ok (.invokestatic 46, 3) := by decide +kernel
theorem dX6_changes_13 : decode cX6_changes 13 = .ok (.ifCond .eq 11, 3) := by decide +kernel
theorem dX6_changes_16 : decode cX6_changes 16 = .ok (.iload_n 3, 1) := by decide +kernel
theorem dX6_changes_17 : decode cX6_changes 17 = .ok (.iconst 4, 1) := by decide +kernel
theorem dX6_changes_18 : decode cX6_changes 18 = .ok (.invokestatic 46, 3) := by decide +kernel
theorem dX6_changes_21 : decode cX6_changes 21 = .ok (.ifCond .ne 13, 3) := by decide +kernel
theorem dX6_changes_24 : decode cX6_changes 24 = .ok (.new 50, 3) := by decide +kernel
theorem dX6_changes_27 : decode cX6_changes 27 = .ok (.dup, 1) := by decide +kernel
theorem dX6_changes_28 : decode cX6_changes 28 = .ok (.ldc 52, 2) := by decide +kernel
theorem dX6_changes_30 : decode cX6_changes 30 = .ok (.invokespecial 54, 3) := by decide +kernel
theorem dX6_changes_33 : decode cX6_changes 33 = .ok (.athrow, 1) := by decide +kernel
theorem dX6_changes_34 : decode cX6_changes 34 = .ok (.aload 4, 2) := by decide +kernel
theorem dX6_changes_36 : decode cX6_changes 36 = .ok (.iload_n 2, 1) := by decide +kernel
theorem dX6_changes_37 : decode cX6_changes 37 = .ok (.putfield 86, 3) := by decide +kernel
theorem dX6_changes_40 : decode cX6_changes 40 = .ok (.aload 4, 2) := by decide +kernel
theorem dX6_changes_42 : decode cX6_changes 42 = .ok (.iload_n 3, 1) := by decide +kernel
theorem dX6_changes_43 : decode cX6_changes 43 = .ok (.putfield 89, 3) := by decide +kernel
theorem dX6_changes_46 : decode cX6_changes 46 = .ok (.aload 4, 2) := by decide +kernel
theorem dX6_changes_48 : decode cX6_changes 48 = .ok (.dup, 1) := by decide +kernel
theorem dX6_changes_49 : decode cX6_changes 49 = .ok (.getfield 92, 3) := by decide +kernel
theorem dX6_changes_52 : decode cX6_changes 52 = .ok (.iconst 1, 1) := by decide +kernel
theorem dX6_changes_53 : decode cX6_changes 53 = .ok (.iadd, 1) := by decide +kernel
theorem dX6_changes_54 : decode cX6_changes 54 = .ok (.putfield 92, 3) := by decide +kernel
theorem dX6_changes_57 : decode cX6_changes 57 = .ok (.aload 4, 2) := by decide +kernel
theorem dX6_changes_59 : decode cX6_changes 59 = .ok (.iconst 1, 1) := by decide +kernel
theorem dX6_changes_60 : decode cX6_changes 60 = .ok (.iconst (-1), 1) := by decide +kernel
theorem dX6_changes_61 : decode cX6_changes 61 = .ok (.iload_n 2, 1) := by decide +kernel
theorem dX6_changes_62 : decode cX6_changes 62 = .ok (.iload_n 3, 1) := by decide +kernel
theorem dX6_changes_63 : decode cX6_changes 63 = .ok (.invokevirtual 71, 3) := by decide +kernel
theorem dX6_changes_66 : decode cX6_changes 66 = .ok (.aload 4, 2) := by decide +kernel
theorem dX6_changes_68 : decode cX6_changes 68 = .ok (.getfield 92, 3) := by decide +kernel
theorem dX6_changes_71 : decode cX6_changes 71 = .ok (.ireturn, 1) := by decide +kernel
theorem dX6_suspend_0 : decode cX6_suspend 0 = .ok (.iload_n 1, 1) := by decide +kernel
theorem dX6_suspend_1 : decode cX6_suspend 1 = .ok (.aload_n 0, 1) := by decide +kernel
theorem dX6_suspend_2 : decode cX6_suspend 2 = .ok (.getfield 22, 3) := by decide +kernel
theorem dX6_suspend_5 : decode cX6_suspend 5 = .ok (.arraylength, 1) := by decide +kernel
theorem dX6_suspend_6 : decode cX6_suspend 6 = .ok (.invokestatic 46, 3) := by decide +kernel
theorem dX6_suspend_9 : decode cX6_suspend 9 = .ok (.ifCond .ne 13, 3) := by decide +kernel
theorem dX6_suspend_12 : decode cX6_suspend 12 = .ok (.new 50, 3) := by decide +kernel
theorem dX6_suspend_15 : decode cX6_suspend 15 = .ok (.dup, 1) := by decide +kernel
theorem dX6_suspend_16 : decode cX6_suspend 16 = .ok (.ldc 95, 2) := by decide +kernel
theorem dX6_suspend_18 : decode cX6_suspend 18 = .ok (.invokespecial 54, 3) := by decide +kernel
theorem dX6_suspend_21 : decode cX6_suspend 21 = .ok (.athrow, 1) := by decide +kernel
theorem dX6_suspend_22 : decode cX6_suspend 22 = .ok (.aload_n 0, 1) := by decide +kernel
theorem dX6_suspend_23 : decode cX6_suspend 23 = .ok (.getfield 22, 3) := by decide +kernel
theorem dX6_suspend_26 : decode cX6_suspend 26 = .ok (.iload_n 1, 1) := by decide +kernel
theorem dX6_suspend_27 : decode cX6_suspend 27 = .ok (.baload, 1) := by decide +kernel
theorem dX6_suspend_28 : decode cX6_suspend 28 = .ok (.istore_n 3, 1) := by decide +kernel
theorem dX6_suspend_29 : decode cX6_suspend 29 = .ok (.aload_n 0, 1) := by decide +kernel
theorem dX6_suspend_30 : decode cX6_suspend 30 = .ok (.getfield 22, 3) := by decide +kernel
theorem dX6_suspend_33 : decode cX6_suspend 33 = .ok (.iload_n 1, 1) := by decide +kernel
theorem dX6_suspend_34 : decode cX6_suspend 34 = .ok (.iload_n 2, 1) := by decide +kernel
theorem dX6_suspend_35 : decode cX6_suspend 35 = .ok (.bastore, 1) := by decide +kernel
theorem dX6_suspend_36 : decode cX6_suspend 36 = .ok (.iload_n 3, 1) := by decide +kernel
theorem dX6_suspend_37 : decode cX6_suspend 37 = .ok (.ireturn, 1) := by decide +kernel
theorem dX6_rule_0 : decode cX6_rule 0 = .ok (.iload_n 1, 1) := by decide +kernel
theorem dX6_rule_1 : decode cX6_rule 1 = .ok (.bipush 10, 2) := by decide +kernel
theorem dX6_rule_3 : decode cX6_rule 3 = .ok (.invokestatic 46, 3) := by decide +kernel
theorem dX6_rule_6 : decode cX6_rule 6 = .ok (.ifCond .eq 50, 3) := by decide +kernel
theorem dX6_rule_9 : decode cX6_rule 9 = .ok (.iload_n 2, 1) := by decide +kernel
theorem dX6_rule_10 : decode cX6_rule 10 = .ok (.ifCond .lt 46, 3) := by decide +kernel
theorem dX6_rule_13 : decode cX6_rule 13 = .ok (.iload_n 2, 1) := by decide +kernel
theorem dX6_rule_14 : decode cX6_rule 14 = .ok (.ldc 55, 2) := by decide +kernel
theorem dX6_rule_16 : decode cX6_rule 16 = .ok (.if_icmp .gt 40, 3) := by decide +kernel
theorem dX6_rule_19 : decode cX6_rule 19 = .ok (.iload_n 3, 1) := by decide +kernel
theorem dX6_rule_20 : decode cX6_rule 20 = .ok (.iconst 1, 1) := by decide +kernel
theorem dX6_rule_21 : decode cX6_rule 21 = .ok (.if_icmp .lt 35, 3) := by decide +kernel
theorem dX6_rule_24 : decode cX6_rule 24 = .ok (.iload_n 3, 1) := by decide +kernel
theorem dX6_rule_25 : decode cX6_rule 25 = .ok (.bipush 7, 2) := by decide +kernel
theorem dX6_rule_27 : decode cX6_rule 27 = .ok (.if_icmp .gt 29, 3) := by decide +kernel
theorem dX6_rule_30 : decode cX6_rule 30 = .ok (.iload 4, 2) := by decide +kernel
theorem dX6_rule_32 : decode cX6_rule 32 = .ok (.ifCond .lt 24, 3) := by decide +kernel
theorem dX6_rule_35 : decode cX6_rule 35 = .ok (.iload 4, 2) := by decide +kernel
theorem dX6_rule_37 : decode cX6_rule 37 = .ok (.sipush 9000, 3) := by decide +kernel
theorem dX6_rule_40 : decode cX6_rule 40 = .ok (.if_icmp .gt 16, 3) := by decide +kernel
theorem dX6_rule_43 : decode cX6_rule 43 = .ok (.iload 5, 2) := by decide +kernel
theorem dX6_rule_45 : decode cX6_rule 45 = .ok (.ifCond .lt 11, 3) := by decide +kernel
theorem dX6_rule_48 : decode cX6_rule 48 = .ok (.iload 5, 2) := by decide +kernel
theorem dX6_rule_50 : decode cX6_rule 50 = .ok (.sipush 3000, 3) := by decide +kernel
theorem dX6_rule_53 : decode cX6_rule 53 = .ok (.if_icmp .le 13, 3) := by decide +kernel
theorem dX6_rule_56 : decode cX6_rule 56 = .ok (.new 34, 3) := by decide +kernel
theorem dX6_rule_59 : decode cX6_rule 59 = .ok (.dup, 1) := by decide +kernel
theorem dX6_rule_60 : decode cX6_rule 60 = .ok (.ldc 97, 2) := by decide +kernel
theorem dX6_rule_62 : decode cX6_rule 62 = .ok (.invokespecial 38, 3) := by decide +kernel
theorem dX6_rule_65 : decode cX6_rule 65 = .ok (.athrow, 1) := by decide +kernel
theorem dX6_rule_66 : decode cX6_rule 66 = .ok (.aload_n 0, 1) := by decide +kernel
theorem dX6_rule_67 : decode cX6_rule 67 = .ok (.getfield 16, 3) := by decide +kernel
theorem dX6_rule_70 : decode cX6_rule 70 = .ok (.invokevirtual 58, 3) := by decide +kernel
theorem dX6_rule_73 : decode cX6_rule 73 = .ok (.bipush 20, 2) := by decide +kernel
theorem dX6_rule_75 : decode cX6_rule 75 = .ok (.if_icmp .lt 13, 3) := by decide +kernel
theorem dX6_rule_78 : decode cX6_rule 78 = .ok (.new 41, 3) := by decide +kernel
theorem dX6_rule_81 : decode cX6_rule 81 = .ok (.dup, 1) := by decide +kernel
theorem dX6_rule_82 : decode cX6_rule 82 = .ok (.ldc 99, 2) := by decide +kernel
theorem dX6_rule_84 : decode cX6_rule 84 = .ok (.invokespecial 45, 3) := by decide +kernel
theorem dX6_rule_87 : decode cX6_rule 87 = .ok (.athrow, 1) := by decide +kernel
theorem dX6_rule_88 : decode cX6_rule 88 = .ok (.aload_n 0, 1) := by decide +kernel
theorem dX6_rule_89 : decode cX6_rule 89 = .ok (.getfield 16, 3) := by decide +kernel
theorem dX6_rule_92 : decode cX6_rule 92 = .ok (.new 101, 3) := by decide +kernel
theorem dX6_rule_95 : decode cX6_rule 95 = .ok (.dup, 1) := by decide +kernel
theorem dX6_rule_96 : decode cX6_rule 96 = .ok (.iload_n 1, 1) := by decide +kernel
theorem dX6_rule_97 : decode cX6_rule 97 = .ok (.iload_n 2, 1) := by decide +kernel
theorem dX6_rule_98 : decode cX6_rule 98 = .ok (.iload_n 3, 1) := by decide +kernel
theorem dX6_rule_99 : decode cX6_rule 99 = .ok (.iload 4, 2) := by decide +kernel
theorem dX6_rule_101 : decode cX6_rule 101 = .ok (.iload 5, 2) := by decide +kernel
theorem dX6_rule_103 : decode cX6_rule 103 = .ok (.invokespecial 103, 3) := by decide +kernel
theorem dX6_rule_106 : decode cX6_rule 106 = .ok (.invokevirtual 75, 3) := by decide +kernel
theorem dX6_rule_109 : decode cX6_rule 109 = .ok (.pop, 1) := by decide +kernel
theorem dX6_rule_110 : decode cX6_rule 110 = .ok (.aload_n 0, 1) := by decide +kernel
theorem dX6_rule_111 : decode cX6_rule 111 = .ok (.getfield 16, 3) := by decide +kernel
theorem dX6_rule_114 : decode cX6_rule 114 = .ok (.invokevirtual 58, 3) := by decide +kernel
theorem dX6_rule_117 : decode cX6_rule 117 = .ok (.iconst 1, 1) := by decide +kernel
theorem dX6_rule_118 : decode cX6_rule 118 = .ok (.isub, 1) := by decide +kernel
theorem dX6_rule_119 : decode cX6_rule 119 = .ok (.ireturn, 1) := by decide +kernel
theorem dX6_issue_0 : decode cX6_issue 0 = .ok (.aload_n 0, 1) := by decide +kernel
theorem dX6_issue_1 : decode cX6_issue 1 = .ok (.iload_n 1, 1) := by decide +kernel
theorem dX6_issue_2 : decode cX6_issue 2 = .ok (.invokevirtual 82, 3) := by decide +kernel
theorem dX6_issue_5 : decode cX6_issue 5 = .ok (.astore 4, 2) := by decide +kernel
theorem dX6_issue_7 : decode cX6_issue 7 = .ok (.iload_n 2, 1) := by decide +kernel
theorem dX6_issue_8 : decode cX6_issue 8 = .ok (.aload 4, 2) := by decide +kernel
theorem dX6_issue_10 : decode cX6_issue 10 = .ok (.getfield 106, 3) := by decide +kernel
theorem dX6_issue_13 : decode cX6_issue 13 = .ok (.arraylength, 1) := by decide +kernel
theorem dX6_issue_14 : decode cX6_issue 14 = .ok (.invokestatic 46, 3) := by decide +kernel
theorem dX6_issue_17 : decode cX6_issue 17 = .ok (.ifCond .eq 15, 3) := by decide +kernel
theorem dX6_issue_20 : decode cX6_issue 20 = .ok (.iload_n 3, 1) := by decide +kernel
theorem dX6_issue_21 : decode cX6_issue 21 = .ok (.iconst 1, 1) := by decide +kernel
theorem dX6_issue_22 : decode cX6_issue 22 = .ok (.if_icmp .lt 10, 3) := by decide +kernel
theorem dX6_issue_25 : decode cX6_issue 25 = .ok (.iload_n 3, 1) := by decide +kernel
theorem dX6_issue_26 : decode cX6_issue 26 = .ok (.sipush 1825, 3) := by decide +kernel
theorem dX6_issue_29 : decode cX6_issue 29 = .ok (.if_icmp .le 13, 3) := by decide +kernel
theorem dX6_issue_32 : decode cX6_issue 32 = .ok (.new 34, 3) := by decide +kernel
theorem dX6_issue_35 : decode cX6_issue 35 = .ok (.dup, 1) := by decide +kernel
theorem dX6_issue_36 : decode cX6_issue 36 = .ok (.ldc 110, 2) := by decide +kernel
theorem dX6_issue_38 : decode cX6_issue 38 = .ok (.invokespecial 38, 3) := by decide +kernel
theorem dX6_issue_41 : decode cX6_issue 41 = .ok (.athrow, 1) := by decide +kernel
theorem dX6_issue_42 : decode cX6_issue 42 = .ok (.aload_n 0, 1) := by decide +kernel
theorem dX6_issue_43 : decode cX6_issue 43 = .ok (.aload 4, 2) := by decide +kernel
theorem dX6_issue_45 : decode cX6_issue 45 = .ok (.getfield 89, 3) := by decide +kernel
theorem dX6_issue_48 : decode cX6_issue 48 = .ok (.invokevirtual 112, 3) := by decide +kernel
theorem dX6_issue_51 : decode cX6_issue 51 = .ok (.ifCond .ne 19, 3) := by decide +kernel
theorem dX6_issue_54 : decode cX6_issue 54 = .ok (.iload_n 2, 1) := by decide +kernel
theorem dX6_issue_55 : decode cX6_issue 55 = .ok (.invokestatic 116, 3) := by decide +kernel
theorem dX6_issue_58 : decode cX6_issue 58 = .ok (.aload_n 0, 1) := by decide +kernel
theorem dX6_issue_59 : decode cX6_issue 59 = .ok (.aload 4, 2) := by decide +kernel
theorem dX6_issue_61 : decode cX6_issue 61 = .ok (.invokevirtual 120, 3) := by decide +kernel
theorem dX6_issue_64 : decode cX6_issue 64 = .ok (.invokestatic 124, 3) := by decide +kernel
theorem dX6_issue_67 : decode cX6_issue 67 = .ok (.ifCond .eq 13, 3) := by decide +kernel
theorem dX6_issue_70 : decode cX6_issue 70 = .ok (.new 41, 3) := by decide +kernel
theorem dX6_issue_73 : decode cX6_issue 73 = .ok (.dup, 1) := by decide +kernel
theorem dX6_issue_74 : decode cX6_issue 74 = .ok (.ldc 127, 2) := by decide +kernel
theorem dX6_issue_76 : decode cX6_issue 76 = .ok (.invokespecial 45, 3) := by decide +kernel
theorem dX6_issue_79 : decode cX6_issue 79 = .ok (.athrow, 1) := by decide +kernel
theorem dX6_issue_80 : decode cX6_issue 80 = .ok (.new 129, 3) := by decide +kernel
theorem dX6_issue_83 : decode cX6_issue 83 = .ok (.dup, 1) := by decide +kernel
theorem dX6_issue_84 : decode cX6_issue 84 = .ok (.aload 4, 2) := by decide +kernel
theorem dX6_issue_86 : decode cX6_issue 86 = .ok (.getfield 89, 3) := by decide +kernel
theorem dX6_issue_89 : decode cX6_issue 89 = .ok (.aload_n 0, 1) := by decide +kernel
theorem dX6_issue_90 : decode cX6_issue 90 = .ok (.getfield 30, 3) := by decide +kernel
theorem dX6_issue_93 : decode cX6_issue 93 = .ok (.aload_n 0, 1) := by decide +kernel
theorem dX6_issue_94 : decode cX6_issue 94 = .ok (.getfield 30, 3) := by decide +kernel
theorem dX6_issue_97 : decode cX6_issue 97 = .ok (.iload_n 3, 1) := by decide +kernel
theorem dX6_issue_98 : decode cX6_issue 98 = .ok (.iadd, 1) := by decide +kernel
theorem dX6_issue_99 : decode cX6_issue 99 = .ok (.invokespecial 131, 3) := by decide +kernel
theorem dX6_issue_102 : decode cX6_issue 102 = .ok (.astore 5, 2) := by decide +kernel
theorem dX6_issue_104 : decode cX6_issue 104 = .ok (.aload 4, 2) := by decide +kernel
theorem dX6_issue_106 : decode cX6_issue 106 = .ok (.getfield 106, 3) := by decide +kernel
theorem dX6_issue_109 : decode cX6_issue 109 = .ok (.iload_n 2, 1) := by decide +kernel
theorem dX6_issue_110 : decode cX6_issue 110 = .ok (.aload 5, 2) := by decide +kernel
theorem dX6_issue_112 : decode cX6_issue 112 = .ok (.aastore, 1) := by decide +kernel
theorem dX6_issue_113 : decode cX6_issue 113 = .ok (.aload 5, 2) := by decide +kernel
theorem dX6_issue_115 : decode cX6_issue 115 = .ok (.getfield 134, 3) := by decide +kernel
theorem dX6_issue_118 : decode cX6_issue 118 = .ok (.ireturn, 1) := by decide +kernel
theorem dX6_endorse_0 : decode cX6_endorse 0 = .ok (.aload_n 0, 1) := by decide +kernel
theorem dX6_endorse_1 : decode cX6_endorse 1 = .ok (.iload_n 1, 1) := by decide +kernel
theorem dX6_endorse_2 : decode cX6_endorse 2 = .ok (.invokevirtual 82, 3) := by decide +kernel
theorem dX6_endorse_5 : decode cX6_endorse 5 = .ok (.astore_n 3, 1) := by decide +kernel
theorem dX6_endorse_6 : decode cX6_endorse 6 = .ok (.iload_n 2, 1) := by decide +kernel
theorem dX6_endorse_7 : decode cX6_endorse 7 = .ok (.aload_n 3, 1) := by decide +kernel
theorem dX6_endorse_8 : decode cX6_endorse 8 = .ok (.getfield 106, 3) := by decide +kernel
theorem dX6_endorse_11 : decode cX6_endorse 11 = .ok (.arraylength, 1) := by decide +kernel
theorem dX6_endorse_12 : decode cX6_endorse 12 = .ok (.invokestatic 46, 3) := by decide +kernel
theorem dX6_endorse_15 : decode cX6_endorse 15 = .ok (.ifCond .ne 13, 3) := by decide +kernel
theorem dX6_endorse_18 : decode cX6_endorse 18 = .ok (.new 34, 3) := by decide +kernel
theorem dX6_endorse_21 : decode cX6_endorse 21 = .ok (.dup, 1) := by decide +kernel
theorem dX6_endorse_22 : decode cX6_endorse 22 = .ok (.ldc 137, 2) := by decide +kernel
theorem dX6_endorse_24 : decode cX6_endorse 24 = .ok (.invokespecial 38, 3) := by decide +kernel
theorem dX6_endorse_27 : decode cX6_endorse 27 = .ok (.athrow, 1) := by decide +kernel
theorem dX6_endorse_28 : decode cX6_endorse 28 = .ok (.aload_n 3, 1) := by decide +kernel
theorem dX6_endorse_29 : decode cX6_endorse 29 = .ok (.getfield 106, 3) := by decide +kernel
theorem dX6_endorse_32 : decode cX6_endorse 32 = .ok (.iload_n 2, 1) := by decide +kernel
theorem dX6_endorse_33 : decode cX6_endorse 33 = .ok (.aaload, 1) := by decide +kernel
theorem dX6_endorse_34 : decode cX6_endorse 34 = .ok (.astore 4, 2) := by decide +kernel
theorem dX6_endorse_36 : decode cX6_endorse 36 = .ok (.aload 4, 2) := by decide +kernel
theorem dX6_endorse_38 : decode cX6_endorse 38 = .ok (.ifnull 15, 3) := by decide +kernel
theorem dX6_endorse_41 : decode cX6_endorse 41 = .ok (.iload_n 2, 1) := by decide +kernel
theorem dX6_endorse_42 : decode cX6_endorse 42 = .ok (.aload_n 0, 1) := by decide +kernel
theorem dX6_endorse_43 : decode cX6_endorse 43 = .ok (.aload_n 3, 1) := by decide +kernel
theorem dX6_endorse_44 : decode cX6_endorse 44 = .ok (.invokevirtual 120, 3) := by decide +kernel
theorem dX6_endorse_47 : decode cX6_endorse 47 = .ok (.invokestatic 124, 3) := by decide +kernel
theorem dX6_endorse_50 : decode cX6_endorse 50 = .ok (.ifCond .eq 13, 3) := by decide +kernel
theorem dX6_endorse_53 : decode cX6_endorse 53 = .ok (.new 41, 3) := by decide +kernel
theorem dX6_endorse_56 : decode cX6_endorse 56 = .ok (.dup, 1) := by decide +kernel
theorem dX6_endorse_57 : decode cX6_endorse 57 = .ok (.ldc 139, 2) := by decide +kernel
theorem dX6_endorse_59 : decode cX6_endorse 59 = .ok (.invokespecial 45, 3) := by decide +kernel
theorem dX6_endorse_62 : decode cX6_endorse 62 = .ok (.athrow, 1) := by decide +kernel
theorem dX6_endorse_63 : decode cX6_endorse 63 = .ok (.aload 4, 2) := by decide +kernel
theorem dX6_endorse_65 : decode cX6_endorse 65 = .ok (.aload_n 0, 1) := by decide +kernel
theorem dX6_endorse_66 : decode cX6_endorse 66 = .ok (.getfield 30, 3) := by decide +kernel
theorem dX6_endorse_69 : decode cX6_endorse 69 = .ok (.invokevirtual 141, 3) := by decide +kernel
theorem dX6_endorse_72 : decode cX6_endorse 72 = .ok (.istore 5, 2) := by decide +kernel
theorem dX6_endorse_74 : decode cX6_endorse 74 = .ok (.iload 5, 2) := by decide +kernel
theorem dX6_endorse_76 : decode cX6_endorse 76 = .ok (.iconst (-1), 1) := by decide +kernel
theorem dX6_endorse_77 : decode cX6_endorse 77 = .ok (.if_icmp .ne 13, 3) := by decide +kernel
theorem dX6_endorse_80 : decode cX6_endorse 80 = .ok (.new 41, 3) := by decide +kernel
theorem dX6_endorse_83 : decode cX6_endorse 83 = .ok (.dup, 1) := by decide +kernel
theorem dX6_endorse_84 : decode cX6_endorse 84 = .ok (.ldc 144, 2) := by decide +kernel
theorem dX6_endorse_86 : decode cX6_endorse 86 = .ok (.invokespecial 45, 3) := by decide +kernel
theorem dX6_endorse_89 : decode cX6_endorse 89 = .ok (.athrow, 1) := by decide +kernel
theorem dX6_endorse_90 : decode cX6_endorse 90 = .ok (.aload 4, 2) := by decide +kernel
theorem dX6_endorse_92 : decode cX6_endorse 92 = .ok (.dup, 1) := by decide +kernel
theorem dX6_endorse_93 : decode cX6_endorse 93 = .ok (.getfield 146, 3) := by decide +kernel
theorem dX6_endorse_96 : decode cX6_endorse 96 = .ok (.iconst 1, 1) := by decide +kernel
theorem dX6_endorse_97 : decode cX6_endorse 97 = .ok (.iload 5, 2) := by decide +kernel
theorem dX6_endorse_99 : decode cX6_endorse 99 = .ok (.ishl, 1) := by decide +kernel
theorem dX6_endorse_100 : decode cX6_endorse 100 = .ok (.ior, 1) := by decide +kernel
theorem dX6_endorse_101 : decode cX6_endorse 101 = .ok (.putfield 146, 3) := by decide +kernel
theorem dX6_endorse_104 : decode cX6_endorse 104 = .ok (.aload 4, 2) := by decide +kernel
theorem dX6_endorse_106 : decode cX6_endorse 106 = .ok (.getfield 146, 3) := by decide +kernel
theorem dX6_endorse_109 : decode cX6_endorse 109 = .ok (.invokestatic 149, 3) := by decide +kernel
theorem dX6_endorse_112 : decode cX6_endorse 112 = .ok (.ireturn, 1) := by decide +kernel
theorem dX6_calls_0 : decode cX6_calls 0 = .ok (.aload_n 0, 1) := by decide +kernel
theorem dX6_calls_1 : decode cX6_calls 1 = .ok (.iload_n 1, 1) := by decide +kernel
theorem dX6_calls_2 : decode cX6_calls 2 = .ok (.invokevirtual 82, 3) := by decide +kernel
theorem dX6_calls_5 : decode cX6_calls 5 = .ok (.astore_n 3, 1) := by decide +kernel
theorem dX6_calls_6 : decode cX6_calls 6 = .ok (.iload_n 2, 1) := by decide +kernel
theorem dX6_calls_7 : decode cX6_calls 7 = .ok (.iconst 4, 1) := by decide +kernel
theorem dX6_calls_8 : decode cX6_calls 8 = .ok (.invokestatic 46, 3) := by decide +kernel
theorem dX6_calls_11 : decode cX6_calls 11 = .ok (.ifCond .ne 13, 3) := by decide +kernel
theorem dX6_calls_14 : decode cX6_calls 14 = .ok (.new 50, 3) := by decide +kernel
theorem dX6_calls_17 : decode cX6_calls 17 = .ok (.dup, 1) := by decide +kernel
theorem dX6_calls_18 : decode cX6_calls 18 = .ok (.ldc 154, 2) := by decide +kernel
theorem dX6_calls_20 : decode cX6_calls 20 = .ok (.invokespecial 54, 3) := by decide +kernel
theorem dX6_calls_23 : decode cX6_calls 23 = .ok (.athrow, 1) := by decide +kernel
theorem dX6_calls_24 : decode cX6_calls 24 = .ok (.aload_n 3, 1) := by decide +kernel
theorem dX6_calls_25 : decode cX6_calls 25 = .ok (.getfield 156, 3) := by decide +kernel
theorem dX6_calls_28 : decode cX6_calls 28 = .ok (.iconst (-1), 1) := by decide +kernel
theorem dX6_calls_29 : decode cX6_calls 29 = .ok (.if_icmp .ne 11, 3) := by decide +kernel
theorem dX6_calls_32 : decode cX6_calls 32 = .ok (.aload_n 0, 1) := by decide +kernel
theorem dX6_calls_33 : decode cX6_calls 33 = .ok (.aload_n 3, 1) := by decide +kernel
theorem dX6_calls_34 : decode cX6_calls 34 = .ok (.invokevirtual 159, 3) := by decide +kernel
theorem dX6_calls_37 : decode cX6_calls 37 = .ok (.ifCond .eq 13, 3) := by decide +kernel
theorem dX6_calls_40 : decode cX6_calls 40 = .ok (.new 41, 3) := by decide +kernel
theorem dX6_calls_43 : decode cX6_calls 43 = .ok (.dup, 1) := by decide +kernel
theorem dX6_calls_44 : decode cX6_calls 44 = .ok (.ldc 163, 2) := by decide +kernel
theorem dX6_calls_46 : decode cX6_calls 46 = .ok (.invokespecial 45, 3) := by decide +kernel
theorem dX6_calls_49 : decode cX6_calls 49 = .ok (.athrow, 1) := by decide +kernel
theorem dX6_calls_50 : decode cX6_calls 50 = .ok (.aload_n 3, 1) := by decide +kernel
theorem dX6_calls_51 : decode cX6_calls 51 = .ok (.iload_n 2, 1) := by decide +kernel
theorem dX6_calls_52 : decode cX6_calls 52 = .ok (.putfield 156, 3) := by decide +kernel
theorem dX6_calls_55 : decode cX6_calls 55 = .ok (.aload_n 0, 1) := by decide +kernel
theorem dX6_calls_56 : decode cX6_calls 56 = .ok (.aload_n 3, 1) := by decide +kernel
theorem dX6_calls_57 : decode cX6_calls 57 = .ok (.invokevirtual 165, 3) := by decide +kernel
theorem dX6_calls_60 : decode cX6_calls 60 = .ok (.ireturn, 1) := by decide +kernel
theorem dX6_leaves_0 : decode cX6_leaves 0 = .ok (.aload_n 0, 1) := by decide +kernel
theorem dX6_leaves_1 : decode cX6_leaves 1 = .ok (.iload_n 1, 1) := by decide +kernel
theorem dX6_leaves_2 : decode cX6_leaves 2 = .ok (.invokevirtual 82, 3) := by decide +kernel
theorem dX6_leaves_5 : decode cX6_leaves 5 = .ok (.astore_n 2, 1) := by decide +kernel
theorem dX6_leaves_6 : decode cX6_leaves 6 = .ok (.aload_n 2, 1) := by decide +kernel
theorem dX6_leaves_7 : decode cX6_leaves 7 = .ok (.getfield 156, 3) := by decide +kernel
theorem dX6_leaves_10 : decode cX6_leaves 10 = .ok (.iconst (-1), 1) := by decide +kernel
theorem dX6_leaves_11 : decode cX6_leaves 11 = .ok (.if_icmp .eq 10, 3) := by decide +kernel
theorem dX6_leaves_14 : decode cX6_leaves 14 = .ok (.aload_n 2, 1) := by decide +kernel
theorem dX6_leaves_15 : decode cX6_leaves 15 = .ok (.getfield 168, 3) := by decide +kernel
theorem dX6_leaves_18 : decode cX6_leaves 18 = .ok (.ifnull 13, 3) := by decide +kernel
theorem dX6_leaves_21 : decode cX6_leaves 21 = .ok (.new 41, 3) := by decide +kernel
theorem dX6_leaves_24 : decode cX6_leaves 24 = .ok (.dup, 1) := by decide +kernel
theorem dX6_leaves_25 : decode cX6_leaves 25 = .ok (.ldc 172, 2) := by decide +kernel
theorem dX6_leaves_27 : decode cX6_leaves 27 = .ok (.invokespecial 45, 3) := by decide +kernel
theorem dX6_leaves_30 : decode cX6_leaves 30 = .ok (.athrow, 1) := by decide +kernel
theorem dX6_leaves_31 : decode cX6_leaves 31 = .ok (.aload_n 2, 1) := by decide +kernel
theorem dX6_leaves_32 : decode cX6_leaves 32 = .ok (.getfield 174, 3) := by decide +kernel
theorem dX6_leaves_35 : decode cX6_leaves 35 = .ok (.ifnonnull 16, 3) := by decide +kernel
theorem dX6_leaves_38 : decode cX6_leaves 38 = .ok (.aload_n 0, 1) := by decide +kernel
theorem dX6_leaves_39 : decode cX6_leaves 39 = .ok (.aload_n 2, 1) := by decide +kernel
theorem dX6_leaves_40 : decode cX6_leaves 40 = .ok (.invokevirtual 165, 3) := by decide +kernel
theorem dX6_leaves_43 : decode cX6_leaves 43 = .ok (.iconst 2, 1) := by decide +kernel
theorem dX6_leaves_44 : decode cX6_leaves 44 = .ok (.if_icmp .ne 7, 3) := by decide +kernel
theorem dX6_leaves_47 : decode cX6_leaves 47 = .ok (.iconst 1, 1) := by decide +kernel
theorem dX6_leaves_48 : decode cX6_leaves 48 = .ok (.goto 4, 3) := by decide +kernel
theorem dX6_leaves_51 : decode cX6_leaves 51 = .ok (.iconst 0, 1) := by decide +kernel
theorem dX6_leaves_52 : decode cX6_leaves 52 = .ok (.istore_n 3, 1) := by decide +kernel
theorem dX6_leaves_53 : decode cX6_leaves 53 = .ok (.iload_n 3, 1) := by decide +kernel
theorem dX6_leaves_54 : decode cX6_leaves 54 = .ok (.ifCond .eq 31, 3) := by decide +kernel
theorem dX6_leaves_57 : decode cX6_leaves 57 = .ok (.aload_n 2, 1) := by decide +kernel
theorem dX6_leaves_58 : decode cX6_leaves 58 = .ok (.getfield 156, 3) := by decide +kernel
theorem dX6_leaves_61 : decode cX6_leaves 61 = .ok (.aload_n 0, 1) := by decide +kernel
theorem dX6_leaves_62 : decode cX6_leaves 62 = .ok (.getfield 26, 3) := by decide +kernel
theorem dX6_leaves_65 : decode cX6_leaves 65 = .ok (.arraylength, 1) := by decide +kernel
theorem dX6_leaves_66 : decode cX6_leaves 66 = .ok (.invokestatic 46, 3) := by decide +kernel
theorem dX6_leaves_69 : decode cX6_leaves 69 = .ok (.ifCond .eq 16, 3) := by decide +kernel
theorem dX6_leaves_72 : decode cX6_leaves 72 = .ok (.aload_n 0, 1) := by decide +kernel
theorem dX6_leaves_73 : decode cX6_leaves 73 = .ok (.getfield 26, 3) := by decide +kernel
theorem dX6_leaves_76 : decode cX6_leaves 76 = .ok (.aload_n 2, 1) := by decide +kernel
theorem dX6_leaves_77 : decode cX6_leaves 77 = .ok (.getfield 156, 3) := by decide +kernel
theorem dX6_leaves_80 : decode cX6_leaves 80 = .ok (.dup2, 1) := by decide +kernel
theorem dX6_leaves_81 : decode cX6_leaves 81 = .ok (.iaload, 1) := by decide +kernel
theorem dX6_leaves_82 : decode cX6_leaves 82 = .ok (.iconst 1, 1) := by decide +kernel
theorem dX6_leaves_83 : decode cX6_leaves 83 = .ok (.iadd, 1) := by decide +kernel
theorem dX6_leaves_84 : decode cX6_leaves 84 = .ok (.iastore, 1) := by decide +kernel
theorem dX6_leaves_85 : decode cX6_leaves 85 = .ok (.aload_n 2, 1) := by decide +kernel
theorem dX6_leaves_86 : decode cX6_leaves 86 = .ok (.iconst (-1), 1) := by decide +kernel
theorem dX6_leaves_87 : decode cX6_leaves 87 = .ok (.putfield 156, 3) := by decide +kernel
theorem dX6_leaves_90 : decode cX6_leaves 90 = .ok (.aload_n 2, 1) := by decide +kernel
theorem dX6_leaves_91 : decode cX6_leaves 91 = .ok (.aconst_null, 1) := by decide +kernel
theorem dX6_leaves_92 : decode cX6_leaves 92 = .ok (.putfield 174, 3) := by decide +kernel
theorem dX6_leaves_95 : decode cX6_leaves 95 = .ok (.iload_n 3, 1) := by decide +kernel
theorem dX6_leaves_96 : decode cX6_leaves 96 = .ok (.ireturn, 1) := by decide +kernel
theorem dX6_visit_0 : decode cX6_visit 0 = .ok (.aload_n 0, 1) := by decide +kernel
theorem dX6_visit_1 : decode cX6_visit 1 = .ok (.iload_n 1, 1) := by decide +kernel
theorem dX6_visit_2 : decode cX6_visit 2 = .ok (.invokevirtual 82, 3) := by decide +kernel
theorem dX6_visit_5 : decode cX6_visit 5 = .ok (.astore_n 2, 1) := by decide +kernel
theorem dX6_visit_6 : decode cX6_visit 6 = .ok (.aload_n 2, 1) := by decide +kernel
theorem dX6_visit_7 : decode cX6_visit 7 = .ok (.getfield 156, 3) := by decide +kernel
theorem dX6_visit_10 : decode cX6_visit 10 = .ok (.iconst (-1), 1) := by decide +kernel
theorem dX6_visit_11 : decode cX6_visit 11 = .ok (.if_icmp .eq 22, 3) := by decide +kernel
theorem dX6_visit_14 : decode cX6_visit 14 = .ok (.aload_n 2, 1) := by decide +kernel
theorem dX6_visit_15 : decode cX6_visit 15 = .ok (.getfield 174, 3) := by decide +kernel
theorem dX6_visit_18 : decode cX6_visit 18 = .ok (.ifnonnull 15, 3) := by decide +kernel
theorem dX6_visit_21 : decode cX6_visit 21 = .ok (.aload_n 0, 1) := by decide +kernel
theorem dX6_visit_22 : decode cX6_visit 22 = .ok (.getfield 19, 3) := by decide +kernel
theorem dX6_visit_25 : decode cX6_visit 25 = .ok (.invokevirtual 58, 3) := by decide +kernel
theorem dX6_visit_28 : decode cX6_visit 28 = .ok (.bipush 60, 2) := by decide +kernel
theorem dX6_visit_30 : decode cX6_visit 30 = .ok (.if_icmp .lt 13, 3) := by decide +kernel
theorem dX6_visit_33 : decode cX6_visit 33 = .ok (.new 41, 3) := by decide +kernel
theorem dX6_visit_36 : decode cX6_visit 36 = .ok (.dup, 1) := by decide +kernel
theorem dX6_visit_37 : decode cX6_visit 37 = .ok (.ldc 177, 2) := by decide +kernel
theorem dX6_visit_39 : decode cX6_visit 39 = .ok (.invokespecial 45, 3) := by decide +kernel
theorem dX6_visit_42 : decode cX6_visit 42 = .ok (.athrow, 1) := by decide +kernel
theorem dX6_visit_43 : decode cX6_visit 43 = .ok (.new 179, 3) := by decide +kernel
theorem dX6_visit_46 : decode cX6_visit 46 = .ok (.dup, 1) := by decide +kernel
theorem dX6_visit_47 : decode cX6_visit 47 = .ok (.aload_n 2, 1) := by decide +kernel
theorem dX6_visit_48 : decode cX6_visit 48 = .ok (.aload_n 0, 1) := by decide +kernel
theorem dX6_visit_49 : decode cX6_visit 49 = .ok (.getfield 19, 3) := by decide +kernel
theorem dX6_visit_52 : decode cX6_visit 52 = .ok (.invokevirtual 58, 3) := by decide +kernel
theorem dX6_visit_55 : decode cX6_visit 55 = .ok (.aload_n 0, 1) := by decide +kernel
theorem dX6_visit_56 : decode cX6_visit 56 = .ok (.getfield 30, 3) := by decide +kernel
theorem dX6_visit_59 : decode cX6_visit 59 = .ok (.aload_n 0, 1) := by decide +kernel
theorem dX6_visit_60 : decode cX6_visit 60 = .ok (.aload_n 2, 1) := by decide +kernel
theorem dX6_visit_61 : decode cX6_visit 61 = .ok (.invokevirtual 181, 3) := by decide +kernel
theorem dX6_visit_64 : decode cX6_visit 64 = .ok (.invokespecial 184, 3) := by decide +kernel
theorem dX6_visit_67 : decode cX6_visit 67 = .ok (.astore_n 3, 1) := by decide +kernel
theorem dX6_visit_68 : decode cX6_visit 68 = .ok (.aload_n 0, 1) := by decide +kernel
theorem dX6_visit_69 : decode cX6_visit 69 = .ok (.getfield 19, 3) := by decide +kernel
theorem dX6_visit_72 : decode cX6_visit 72 = .ok (.aload_n 3, 1) := by decide +kernel
theorem dX6_visit_73 : decode cX6_visit 73 = .ok (.invokevirtual 75, 3) := by decide +kernel
theorem dX6_visit_76 : decode cX6_visit 76 = .ok (.pop, 1) := by decide +kernel
theorem dX6_visit_77 : decode cX6_visit 77 = .ok (.aload_n 2, 1) := by decide +kernel
theorem dX6_visit_78 : decode cX6_visit 78 = .ok (.aload_n 3, 1) := by decide +kernel
theorem dX6_visit_79 : decode cX6_visit 79 = .ok (.putfield 174, 3) := by decide +kernel
theorem dX6_visit_82 : decode cX6_visit 82 = .ok (.aload_n 2, 1) := by decide +kernel
theorem dX6_visit_83 : decode cX6_visit 83 = .ok (.aload_n 3, 1) := by decide +kernel
theorem dX6_visit_84 : decode cX6_visit 84 = .ok (.putfield 187, 3) := by decide +kernel
theorem dX6_visit_87 : decode cX6_visit 87 = .ok (.aload_n 2, 1) := by decide +kernel
theorem dX6_visit_88 : decode cX6_visit 88 = .ok (.iconst 2, 1) := by decide +kernel
theorem dX6_visit_89 : decode cX6_visit 89 = .ok (.aload_n 3, 1) := by decide +kernel
theorem dX6_visit_90 : decode cX6_visit 90 = .ok (.getfield 190, 3) := by decide +kernel
theorem dX6_visit_93 : decode cX6_visit 93 = .ok (.aload_n 0, 1) := by decide +kernel
theorem dX6_visit_94 : decode cX6_visit 94 = .ok (.getfield 30, 3) := by decide +kernel
theorem dX6_visit_97 : decode cX6_visit 97 = .ok (.iconst (-1), 1) := by decide +kernel
theorem dX6_visit_98 : decode cX6_visit 98 = .ok (.invokevirtual 71, 3) := by decide +kernel
theorem dX6_visit_101 : decode cX6_visit 101 = .ok (.aload_n 3, 1) := by decide +kernel
theorem dX6_visit_102 : decode cX6_visit 102 = .ok (.getfield 190, 3) := by decide +kernel
theorem dX6_visit_105 : decode cX6_visit 105 = .ok (.ireturn, 1) := by decide +kernel
theorem dX6_finds_0 : decode cX6_finds 0 = .ok (.aload_n 0, 1) := by decide +kernel
theorem dX6_finds_1 : decode cX6_finds 1 = .ok (.iload_n 1, 1) := by decide +kernel
theorem dX6_finds_2 : decode cX6_finds 2 = .ok (.invokevirtual 191, 3) := by decide +kernel
theorem dX6_finds_5 : decode cX6_finds 5 = .ok (.astore 4, 2) := by decide +kernel
theorem dX6_finds_7 : decode cX6_finds 7 = .ok (.iload_n 2, 1) := by decide +kernel
theorem dX6_finds_8 : decode cX6_finds 8 = .ok (.bipush 10, 2) := by decide +kernel
theorem dX6_finds_10 : decode cX6_finds 10 = .ok (.invokestatic 46, 3) := by decide +kernel
theorem dX6_finds_13 : decode cX6_finds 13 = .ok (.ifCond .eq 14, 3) := by decide +kernel
theorem dX6_finds_16 : decode cX6_finds 16 = .ok (.iload_n 3, 1) := by decide +kernel
theorem dX6_finds_17 : decode cX6_finds 17 = .ok (.iconst 1, 1) := by decide +kernel
theorem dX6_finds_18 : decode cX6_finds 18 = .ok (.if_icmp .lt 9, 3) := by decide +kernel
theorem dX6_finds_21 : decode cX6_finds 21 = .ok (.iload_n 3, 1) := by decide +kernel
theorem dX6_finds_22 : decode cX6_finds 22 = .ok (.bipush 10, 2) := by decide +kernel
theorem dX6_finds_24 : decode cX6_finds 24 = .ok (.if_icmp .le 13, 3) := by decide +kernel
theorem dX6_finds_27 : decode cX6_finds 27 = .ok (.new 34, 3) := by decide +kernel
theorem dX6_finds_30 : decode cX6_finds 30 = .ok (.dup, 1) := by decide +kernel
theorem dX6_finds_31 : decode cX6_finds 31 = .ok (.ldc 195, 2) := by decide +kernel
theorem dX6_finds_33 : decode cX6_finds 33 = .ok (.invokespecial 38, 3) := by decide +kernel
theorem dX6_finds_36 : decode cX6_finds 36 = .ok (.athrow, 1) := by decide +kernel
theorem dX6_finds_37 : decode cX6_finds 37 = .ok (.aload 4, 2) := by decide +kernel
theorem dX6_finds_39 : decode cX6_finds 39 = .ok (.invokestatic 197, 3) := by decide +kernel
theorem dX6_finds_42 : decode cX6_finds 42 = .ok (.ifCond .ne 29, 3) := by decide +kernel
theorem dX6_finds_45 : decode cX6_finds 45 = .ok (.aload_n 0, 1) := by decide +kernel
theorem dX6_finds_46 : decode cX6_finds 46 = .ok (.aload 4, 2) := by decide +kernel
theorem dX6_finds_48 : decode cX6_finds 48 = .ok (.getfield 201, 3) := by decide +kernel
theorem dX6_finds_51 : decode cX6_finds 51 = .ok (.iload_n 2, 1) := by decide +kernel
theorem dX6_finds_52 : decode cX6_finds 52 = .ok (.invokevirtual 205, 3) := by decide +kernel
theorem dX6_finds_55 : decode cX6_finds 55 = .ok (.ifCond .eq 16, 3) := by decide +kernel
theorem dX6_finds_58 : decode cX6_finds 58 = .ok (.aload 4, 2) := by decide +kernel
theorem dX6_finds_60 : decode cX6_finds 60 = .ok (.getfield 209, 3) := by decide +kernel
theorem dX6_finds_63 : decode cX6_finds 63 = .ok (.invokevirtual 58, 3) := by decide +kernel
theorem dX6_finds_66 : decode cX6_finds 66 = .ok (.bipush 12, 2) := by decide +kernel
theorem dX6_finds_68 : decode cX6_finds 68 = .ok (.if_icmp .lt 13, 3) := by decide +kernel
theorem dX6_finds_71 : decode cX6_finds 71 = .ok (.new 41, 3) := by decide +kernel
theorem dX6_finds_74 : decode cX6_finds 74 = .ok (.dup, 1) := by decide +kernel
theorem dX6_finds_75 : decode cX6_finds 75 = .ok (.ldc 212, 2) := by decide +kernel
theorem dX6_finds_77 : decode cX6_finds 77 = .ok (.invokespecial 45, 3) := by decide +kernel
theorem dX6_finds_80 : decode cX6_finds 80 = .ok (.athrow, 1) := by decide +kernel
theorem dX6_finds_81 : decode cX6_finds 81 = .ok (.aload 4, 2) := by decide +kernel
theorem dX6_finds_83 : decode cX6_finds 83 = .ok (.getfield 209, 3) := by decide +kernel
theorem dX6_finds_86 : decode cX6_finds 86 = .ok (.new 214, 3) := by decide +kernel
theorem dX6_finds_89 : decode cX6_finds 89 = .ok (.dup, 1) := by decide +kernel
theorem dX6_finds_90 : decode cX6_finds 90 = .ok (.iload_n 3, 1) := by decide +kernel
theorem dX6_finds_91 : decode cX6_finds 91 = .ok (.invokespecial 216, 3) := by decide +kernel
theorem dX6_finds_94 : decode cX6_finds 94 = .ok (.invokevirtual 75, 3) := by decide +kernel
theorem dX6_finds_97 : decode cX6_finds 97 = .ok (.pop, 1) := by decide +kernel
theorem dX6_finds_98 : decode cX6_finds 98 = .ok (.aload 4, 2) := by decide +kernel
theorem dX6_finds_100 : decode cX6_finds 100 = .ok (.getfield 219, 3) := by decide +kernel
theorem dX6_finds_103 : decode cX6_finds 103 = .ok (.ifCond .ne 21, 3) := by decide +kernel
theorem dX6_finds_106 : decode cX6_finds 106 = .ok (.aload 4, 2) := by decide +kernel
theorem dX6_finds_108 : decode cX6_finds 108 = .ok (.getfield 209, 3) := by decide +kernel
theorem dX6_finds_111 : decode cX6_finds 111 = .ok (.invokevirtual 58, 3) := by decide +kernel
theorem dX6_finds_114 : decode cX6_finds 114 = .ok (.iconst 3, 1) := by decide +kernel
theorem dX6_finds_115 : decode cX6_finds 115 = .ok (.if_icmp .lt 9, 3) := by decide +kernel
theorem dX6_finds_118 : decode cX6_finds 118 = .ok (.aload 4, 2) := by decide +kernel
theorem dX6_finds_120 : decode cX6_finds 120 = .ok (.iconst 1, 1) := by decide +kernel
theorem dX6_finds_121 : decode cX6_finds 121 = .ok (.putfield 219, 3) := by decide +kernel
theorem dX6_finds_124 : decode cX6_finds 124 = .ok (.aload 4, 2) := by decide +kernel
theorem dX6_finds_126 : decode cX6_finds 126 = .ok (.getfield 201, 3) := by decide +kernel
theorem dX6_finds_129 : decode cX6_finds 129 = .ok (.iconst 3, 1) := by decide +kernel
theorem dX6_finds_130 : decode cX6_finds 130 = .ok (.aload 4, 2) := by decide +kernel
theorem dX6_finds_132 : decode cX6_finds 132 = .ok (.getfield 190, 3) := by decide +kernel
theorem dX6_finds_135 : decode cX6_finds 135 = .ok (.iload_n 2, 1) := by decide +kernel
theorem dX6_finds_136 : decode cX6_finds 136 = .ok (.iload_n 3, 1) := by decide +kernel
theorem dX6_finds_137 : decode cX6_finds 137 = .ok (.invokevirtual 71, 3) := by decide +kernel
theorem dX6_finds_140 : decode cX6_finds 140 = .ok (.aload 4, 2) := by decide +kernel
theorem dX6_finds_142 : decode cX6_finds 142 = .ok (.getfield 209, 3) := by decide +kernel
theorem dX6_finds_145 : decode cX6_finds 145 = .ok (.invokevirtual 58, 3) := by decide +kernel
theorem dX6_finds_148 : decode cX6_finds 148 = .ok (.iconst 1, 1) := by decide +kernel
theorem dX6_finds_149 : decode cX6_finds 149 = .ok (.isub, 1) := by decide +kernel
theorem dX6_finds_150 : decode cX6_finds 150 = .ok (.ireturn, 1) := by decide +kernel
theorem dX6_mends_0 : decode cX6_mends 0 = .ok (.aload_n 0, 1) := by decide +kernel
theorem dX6_mends_1 : decode cX6_mends 1 = .ok (.iload_n 1, 1) := by decide +kernel
theorem dX6_mends_2 : decode cX6_mends 2 = .ok (.invokevirtual 191, 3) := by decide +kernel
theorem dX6_mends_5 : decode cX6_mends 5 = .ok (.astore 4, 2) := by decide +kernel
theorem dX6_mends_7 : decode cX6_mends 7 = .ok (.iload_n 2, 1) := by decide +kernel
theorem dX6_mends_8 : decode cX6_mends 8 = .ok (.aload 4, 2) := by decide +kernel
theorem dX6_mends_10 : decode cX6_mends 10 = .ok (.getfield 209, 3) := by decide +kernel
theorem dX6_mends_13 : decode cX6_mends 13 = .ok (.invokevirtual 58, 3) := by decide +kernel
theorem dX6_mends_16 : decode cX6_mends 16 = .ok (.invokestatic 46, 3) := by decide +kernel
theorem dX6_mends_19 : decode cX6_mends 19 = .ok (.ifCond .ne 13, 3) := by decide +kernel
theorem dX6_mends_22 : decode cX6_mends 22 = .ok (.new 50, 3) := by decide +kernel
theorem dX6_mends_25 : decode cX6_mends 25 = .ok (.dup, 1) := by decide +kernel
theorem dX6_mends_26 : decode cX6_mends 26 = .ok (.ldc 222, 2) := by decide +kernel
theorem dX6_mends_28 : decode cX6_mends 28 = .ok (.invokespecial 54, 3) := by decide +kernel
theorem dX6_mends_31 : decode cX6_mends 31 = .ok (.athrow, 1) := by decide +kernel
theorem dX6_mends_32 : decode cX6_mends 32 = .ok (.aload 4, 2) := by decide +kernel
theorem dX6_mends_34 : decode cX6_mends 34 = .ok (.getfield 209, 3) := by decide +kernel
theorem dX6_mends_37 : decode cX6_mends 37 = .ok (.iload_n 2, 1) := by decide +kernel
theorem dX6_mends_38 : decode cX6_mends 38 = .ok (.invokevirtual 224, 3) := by decide +kernel
theorem dX6_mends_41 : decode cX6_mends 41 = .ok (.checkcast 214, 3) := by decide +kernel
theorem dX6_mends_44 : decode cX6_mends 44 = .ok (.astore 5, 2) := by decide +kernel
theorem dX6_mends_46 : decode cX6_mends 46 = .ok (.aload 5, 2) := by decide +kernel
theorem dX6_mends_48 : decode cX6_mends 48 = .ok (.getfield 228, 3) := by decide +kernel
theorem dX6_mends_51 : decode cX6_mends 51 = .ok (.ifCond .eq 13, 3) := by decide +kernel
theorem dX6_mends_54 : decode cX6_mends 54 = .ok (.new 41, 3) := by decide +kernel
theorem dX6_mends_57 : decode cX6_mends 57 = .ok (.dup, 1) := by decide +kernel
theorem dX6_mends_58 : decode cX6_mends 58 = .ok (.ldc 232, 2) := by decide +kernel
theorem dX6_mends_60 : decode cX6_mends 60 = .ok (.invokespecial 45, 3) := by decide +kernel
theorem dX6_mends_63 : decode cX6_mends 63 = .ok (.athrow, 1) := by decide +kernel
theorem dX6_mends_64 : decode cX6_mends 64 = .ok (.iload_n 3, 1) := by decide +kernel
theorem dX6_mends_65 : decode cX6_mends 65 = .ok (.ifCond .eq 39, 3) := by decide +kernel
theorem dX6_mends_68 : decode cX6_mends 68 = .ok (.aload 5, 2) := by decide +kernel
theorem dX6_mends_70 : decode cX6_mends 70 = .ok (.getfield 234, 3) := by decide +kernel
theorem dX6_mends_73 : decode cX6_mends 73 = .ok (.ifCond .ne 21, 3) := by decide +kernel
theorem dX6_mends_76 : decode cX6_mends 76 = .ok (.aload 5, 2) := by decide +kernel
theorem dX6_mends_78 : decode cX6_mends 78 = .ok (.getfield 237, 3) := by decide +kernel
theorem dX6_mends_81 : decode cX6_mends 81 = .ok (.bipush 8, 2) := by decide +kernel
theorem dX6_mends_83 : decode cX6_mends 83 = .ok (.if_icmp .ge 11, 3) := by decide +kernel
theorem dX6_mends_86 : decode cX6_mends 86 = .ok (.aload 4, 2) := by decide +kernel
theorem dX6_mends_88 : decode cX6_mends 88 = .ok (.invokestatic 197, 3) := by decide +kernel
theorem dX6_mends_91 : decode cX6_mends 91 = .ok (.ifCond .eq 13, 3) := by decide +kernel
theorem dX6_mends_94 : decode cX6_mends 94 = .ok (.new 41, 3) := by decide +kernel
theorem dX6_mends_97 : decode cX6_mends 97 = .ok (.dup, 1) := by decide +kernel
theorem dX6_mends_98 : decode cX6_mends 98 = .ok (.ldc 240, 2) := by decide +kernel
theorem dX6_mends_100 : decode cX6_mends 100 = .ok (.invokespecial 45, 3) := by decide +kernel
theorem dX6_mends_103 : decode cX6_mends 103 = .ok (.athrow, 1) := by decide +kernel
theorem dX6_mends_104 : decode cX6_mends 104 = .ok (.iload_n 3, 1) := by decide +kernel
theorem dX6_mends_105 : decode cX6_mends 105 = .ok (.ifCond .eq 12, 3) := by decide +kernel
theorem dX6_mends_108 : decode cX6_mends 108 = .ok (.aload 5, 2) := by decide +kernel
theorem dX6_mends_110 : decode cX6_mends 110 = .ok (.iconst 1, 1) := by decide +kernel
theorem dX6_mends_111 : decode cX6_mends 111 = .ok (.putfield 234, 3) := by decide +kernel
theorem dX6_mends_114 : decode cX6_mends 114 = .ok (.goto 9, 3) := by decide +kernel
theorem dX6_mends_117 : decode cX6_mends 117 = .ok (.aload 5, 2) := by decide +kernel
theorem dX6_mends_119 : decode cX6_mends 119 = .ok (.iconst 1, 1) := by decide +kernel
theorem dX6_mends_120 : decode cX6_mends 120 = .ok (.putfield 228, 3) := by decide +kernel
theorem dX6_mends_123 : decode cX6_mends 123 = .ok (.aload 4, 2) := by decide +kernel
theorem dX6_mends_125 : decode cX6_mends 125 = .ok (.invokevirtual 242, 3) := by decide +kernel
theorem dX6_mends_128 : decode cX6_mends 128 = .ok (.ireturn, 1) := by decide +kernel
theorem dX6_detain_0 : decode cX6_detain 0 = .ok (.aload_n 0, 1) := by decide +kernel
theorem dX6_detain_1 : decode cX6_detain 1 = .ok (.iload_n 1, 1) := by decide +kernel
theorem dX6_detain_2 : decode cX6_detain 2 = .ok (.invokevirtual 191, 3) := by decide +kernel
theorem dX6_detain_5 : decode cX6_detain 5 = .ok (.astore_n 2, 1) := by decide +kernel
theorem dX6_detain_6 : decode cX6_detain 6 = .ok (.aload_n 2, 1) := by decide +kernel
theorem dX6_detain_7 : decode cX6_detain 7 = .ok (.invokestatic 197, 3) := by decide +kernel
theorem dX6_detain_10 : decode cX6_detain 10 = .ok (.ifCond .ne 18, 3) := by decide +kernel
theorem dX6_detain_13 : decode cX6_detain 13 = .ok (.aload_n 2, 1) := by decide +kernel
theorem dX6_detain_14 : decode cX6_detain 14 = .ok (.invokevirtual 245, 3) := by decide +kernel
theorem dX6_detain_17 : decode cX6_detain 17 = .ok (.ifCond .ne 11, 3) := by decide +kernel
theorem dX6_detain_20 : decode cX6_detain 20 = .ok (.aload_n 0, 1) := by decide +kernel
theorem dX6_detain_21 : decode cX6_detain 21 = .ok (.aload_n 2, 1) := by decide +kernel
theorem dX6_detain_22 : decode cX6_detain 22 = .ok (.invokevirtual 249, 3) := by decide +kernel
theorem dX6_detain_25 : decode cX6_detain 25 = .ok (.ifCond .ne 13, 3) := by decide +kernel
theorem dX6_detain_28 : decode cX6_detain 28 = .ok (.new 41, 3) := by decide +kernel
theorem dX6_detain_31 : decode cX6_detain 31 = .ok (.dup, 1) := by decide +kernel
theorem dX6_detain_32 : decode cX6_detain 32 = .ok (.ldc 252, 2) := by decide +kernel
theorem dX6_detain_34 : decode cX6_detain 34 = .ok (.invokespecial 45, 3) := by decide +kernel
theorem dX6_detain_37 : decode cX6_detain 37 = .ok (.athrow, 1) := by decide +kernel
theorem dX6_detain_38 : decode cX6_detain 38 = .ok (.aload_n 2, 1) := by decide +kernel
theorem dX6_detain_39 : decode cX6_detain 39 = .ok (.aload_n 0, 1) := by decide +kernel
theorem dX6_detain_40 : decode cX6_detain 40 = .ok (.getfield 30, 3) := by decide +kernel
theorem dX6_detain_43 : decode cX6_detain 43 = .ok (.putfield 254, 3) := by decide +kernel
theorem dX6_detain_46 : decode cX6_detain 46 = .ok (.aload_n 2, 1) := by decide +kernel
theorem dX6_detain_47 : decode cX6_detain 47 = .ok (.getfield 201, 3) := by decide +kernel
theorem dX6_detain_50 : decode cX6_detain 50 = .ok (.aload_n 2, 1) := by decide +kernel
theorem dX6_detain_51 : decode cX6_detain 51 = .ok (.putfield 168, 3) := by decide +kernel
theorem dX6_detain_54 : decode cX6_detain 54 = .ok (.aload_n 2, 1) := by decide +kernel
theorem dX6_detain_55 : decode cX6_detain 55 = .ok (.getfield 201, 3) := by decide +kernel
theorem dX6_detain_58 : decode cX6_detain 58 = .ok (.iconst 4, 1) := by decide +kernel
theorem dX6_detain_59 : decode cX6_detain 59 = .ok (.aload_n 2, 1) := by decide +kernel
theorem dX6_detain_60 : decode cX6_detain 60 = .ok (.getfield 190, 3) := by decide +kernel
theorem dX6_detain_63 : decode cX6_detain 63 = .ok (.aload_n 0, 1) := by decide +kernel
theorem dX6_detain_64 : decode cX6_detain 64 = .ok (.getfield 30, 3) := by decide +kernel
theorem dX6_detain_67 : decode cX6_detain 67 = .ok (.iconst (-1), 1) := by decide +kernel
theorem dX6_detain_68 : decode cX6_detain 68 = .ok (.invokevirtual 71, 3) := by decide +kernel
theorem dX6_detain_71 : decode cX6_detain 71 = .ok (.aload_n 0, 1) := by decide +kernel
theorem dX6_detain_72 : decode cX6_detain 72 = .ok (.aload_n 2, 1) := by decide +kernel
theorem dX6_detain_73 : decode cX6_detain 73 = .ok (.getfield 201, 3) := by decide +kernel
theorem dX6_detain_76 : decode cX6_detain 76 = .ok (.invokevirtual 257, 3) := by decide +kernel
theorem dX6_detain_79 : decode cX6_detain 79 = .ok (.aload_n 0, 1) := by decide +kernel
theorem dX6_detain_80 : decode cX6_detain 80 = .ok (.aload_n 2, 1) := by decide +kernel
theorem dX6_detain_81 : decode cX6_detain 81 = .ok (.getfield 201, 3) := by decide +kernel
theorem dX6_detain_84 : decode cX6_detain 84 = .ok (.invokevirtual 261, 3) := by decide +kernel
theorem dX6_detain_87 : decode cX6_detain 87 = .ok (.ireturn, 1) := by decide +kernel
theorem dX6_release_0 : decode cX6_release 0 = .ok (.aload_n 0, 1) := by decide +kernel
theorem dX6_release_1 : decode cX6_release 1 = .ok (.iload_n 1, 1) := by decide +kernel
theorem dX6_release_2 : decode cX6_release 2 = .ok (.invokevirtual 82, 3) := by decide +kernel
theorem dX6_release_5 : decode cX6_release 5 = .ok (.astore_n 2, 1) := by decide +kernel
theorem dX6_release_6 : decode cX6_release 6 = .ok (.aload_n 2, 1) := by decide +kernel
theorem dX6_release_7 : decode cX6_release 7 = .ok (.getfield 168, 3) := by decide +kernel
theorem dX6_release_10 : decode cX6_release 10 = .ok (.astore_n 3, 1) := by decide +kernel
theorem dX6_release_11 : decode cX6_release 11 = .ok (.aload_n 3, 1) := by decide +kernel
theorem dX6_release_12 : decode cX6_release 12 = .ok (.ifnull 18, 3) := by decide +kernel
theorem dX6_release_15 : decode cX6_release 15 = .ok (.aload_n 3, 1) := by decide +kernel
theorem dX6_release_16 : decode cX6_release 16 = .ok (.invokevirtual 242, 3) := by decide +kernel
theorem dX6_release_19 : decode cX6_release 19 = .ok (.ifCond .gt 11, 3) := by decide +kernel
theorem dX6_release_22 : decode cX6_release 22 = .ok (.aload_n 0, 1) := by decide +kernel
theorem dX6_release_23 : decode cX6_release 23 = .ok (.aload_n 2, 1) := by decide +kernel
theorem dX6_release_24 : decode cX6_release 24 = .ok (.invokevirtual 120, 3) := by decide +kernel
theorem dX6_release_27 : decode cX6_release 27 = .ok (.ifCond .eq 14, 3) := by decide +kernel
theorem dX6_release_30 : decode cX6_release 30 = .ok (.new 41, 3) := by decide +kernel
theorem dX6_release_33 : decode cX6_release 33 = .ok (.dup, 1) := by decide +kernel
theorem dX6_release_34 : decode cX6_release 34 = .ok (.ldc_w 264, 3) := by decide +kernel
theorem dX6_release_37 : decode cX6_release 37 = .ok (.invokespecial 45, 3) := by decide +kernel
theorem dX6_release_40 : decode cX6_release 40 = .ok (.athrow, 1) := by decide +kernel
theorem dX6_release_41 : decode cX6_release 41 = .ok (.bipush 100, 2) := by decide +kernel
theorem dX6_release_43 : decode cX6_release 43 = .ok (.aload_n 0, 1) := by decide +kernel
theorem dX6_release_44 : decode cX6_release 44 = .ok (.getfield 30, 3) := by decide +kernel
theorem dX6_release_47 : decode cX6_release 47 = .ok (.aload_n 3, 1) := by decide +kernel
theorem dX6_release_48 : decode cX6_release 48 = .ok (.getfield 254, 3) := by decide +kernel
theorem dX6_release_51 : decode cX6_release 51 = .ok (.isub, 1) := by decide +kernel
theorem dX6_release_52 : decode cX6_release 52 = .ok (.imul, 1) := by decide +kernel
theorem dX6_release_53 : decode cX6_release 53 = .ok (.istore 4, 2) := by decide +kernel
theorem dX6_release_55 : decode cX6_release 55 = .ok (.aload_n 2, 1) := by decide +kernel
theorem dX6_release_56 : decode cX6_release 56 = .ok (.dup, 1) := by decide +kernel
theorem dX6_release_57 : decode cX6_release 57 = .ok (.getfield 266, 3) := by decide +kernel
theorem dX6_release_60 : decode cX6_release 60 = .ok (.iload 4, 2) := by decide +kernel
theorem dX6_release_62 : decode cX6_release 62 = .ok (.iadd, 1) := by decide +kernel
theorem dX6_release_63 : decode cX6_release 63 = .ok (.putfield 266, 3) := by decide +kernel
theorem dX6_release_66 : decode cX6_release 66 = .ok (.aload_n 2, 1) := by decide +kernel
theorem dX6_release_67 : decode cX6_release 67 = .ok (.aconst_null, 1) := by decide +kernel
theorem dX6_release_68 : decode cX6_release 68 = .ok (.putfield 168, 3) := by decide +kernel
theorem dX6_release_71 : decode cX6_release 71 = .ok (.aload_n 2, 1) := by decide +kernel
theorem dX6_release_72 : decode cX6_release 72 = .ok (.getfield 269, 3) := by decide +kernel
theorem dX6_release_75 : decode cX6_release 75 = .ok (.ifCond .eq 8, 3) := by decide +kernel
theorem dX6_release_78 : decode cX6_release 78 = .ok (.aload_n 0, 1) := by decide +kernel
theorem dX6_release_79 : decode cX6_release 79 = .ok (.aload_n 2, 1) := by decide +kernel
theorem dX6_release_80 : decode cX6_release 80 = .ok (.invokevirtual 272, 3) := by decide +kernel
theorem dX6_release_83 : decode cX6_release 83 = .ok (.iload 4, 2) := by decide +kernel
theorem dX6_release_85 : decode cX6_release 85 = .ok (.ireturn, 1) := by decide +kernel
theorem dX6_appeal_0 : decode cX6_appeal 0 = .ok (.aload_n 0, 1) := by decide +kernel
theorem dX6_appeal_1 : decode cX6_appeal 1 = .ok (.iload_n 1, 1) := by decide +kernel
theorem dX6_appeal_2 : decode cX6_appeal 2 = .ok (.invokevirtual 191, 3) := by decide +kernel
theorem dX6_appeal_5 : decode cX6_appeal 5 = .ok (.astore_n 2, 1) := by decide +kernel
theorem dX6_appeal_6 : decode cX6_appeal 6 = .ok (.aload_n 2, 1) := by decide +kernel
theorem dX6_appeal_7 : decode cX6_appeal 7 = .ok (.invokevirtual 245, 3) := by decide +kernel
theorem dX6_appeal_10 : decode cX6_appeal 10 = .ok (.ifCond .eq 24, 3) := by decide +kernel
theorem dX6_appeal_13 : decode cX6_appeal 13 = .ok (.aload_n 2, 1) := by decide +kernel
theorem dX6_appeal_14 : decode cX6_appeal 14 = .ok (.getfield 275, 3) := by decide +kernel
theorem dX6_appeal_17 : decode cX6_appeal 17 = .ok (.ifCond .ne 17, 3) := by decide +kernel
theorem dX6_appeal_20 : decode cX6_appeal 20 = .ok (.aload_n 0, 1) := by decide +kernel
theorem dX6_appeal_21 : decode cX6_appeal 21 = .ok (.getfield 30, 3) := by decide +kernel
theorem dX6_appeal_24 : decode cX6_appeal 24 = .ok (.aload_n 2, 1) := by decide +kernel
theorem dX6_appeal_25 : decode cX6_appeal 25 = .ok (.getfield 254, 3) := by decide +kernel
theorem dX6_appeal_28 : decode cX6_appeal 28 = .ok (.isub, 1) := by decide +kernel
theorem dX6_appeal_29 : decode cX6_appeal 29 = .ok (.bipush 30, 2) := by decide +kernel
theorem dX6_appeal_31 : decode cX6_appeal 31 = .ok (.if_icmp .le 14, 3) := by decide +kernel
theorem dX6_appeal_34 : decode cX6_appeal 34 = .ok (.new 41, 3) := by decide +kernel
theorem dX6_appeal_37 : decode cX6_appeal 37 = .ok (.dup, 1) := by decide +kernel
theorem dX6_appeal_38 : decode cX6_appeal 38 = .ok (.ldc_w 278, 3) := by decide +kernel
theorem dX6_appeal_41 : decode cX6_appeal 41 = .ok (.invokespecial 45, 3) := by decide +kernel
theorem dX6_appeal_44 : decode cX6_appeal 44 = .ok (.athrow, 1) := by decide +kernel
theorem dX6_appeal_45 : decode cX6_appeal 45 = .ok (.aload_n 2, 1) := by decide +kernel
theorem dX6_appeal_46 : decode cX6_appeal 46 = .ok (.iconst 1, 1) := by decide +kernel
theorem dX6_appeal_47 : decode cX6_appeal 47 = .ok (.putfield 275, 3) := by decide +kernel
theorem dX6_appeal_50 : decode cX6_appeal 50 = .ok (.return_, 1) := by decide +kernel
theorem dX6_vote_0 : decode cX6_vote 0 = .ok (.aload_n 0, 1) := by decide +kernel
theorem dX6_vote_1 : decode cX6_vote 1 = .ok (.iload_n 1, 1) := by decide +kernel
theorem dX6_vote_2 : decode cX6_vote 2 = .ok (.invokevirtual 191, 3) := by decide +kernel
theorem dX6_vote_5 : decode cX6_vote 5 = .ok (.astore_n 3, 1) := by decide +kernel
theorem dX6_vote_6 : decode cX6_vote 6 = .ok (.aload_n 3, 1) := by decide +kernel
theorem dX6_vote_7 : decode cX6_vote 7 = .ok (.getfield 275, 3) := by decide +kernel
theorem dX6_vote_10 : decode cX6_vote 10 = .ok (.ifCond .eq 10, 3) := by decide +kernel
theorem dX6_vote_13 : decode cX6_vote 13 = .ok (.aload_n 3, 1) := by decide +kernel
theorem dX6_vote_14 : decode cX6_vote 14 = .ok (.invokevirtual 280, 3) := by decide +kernel
theorem dX6_vote_17 : decode cX6_vote 17 = .ok (.ifCond .eq 14, 3) := by decide +kernel
theorem dX6_vote_20 : decode cX6_vote 20 = .ok (.new 41, 3) := by decide +kernel
theorem dX6_vote_23 : decode cX6_vote 23 = .ok (.dup, 1) := by decide +kernel
theorem dX6_vote_24 : decode cX6_vote 24 = .ok (.ldc_w 283, 3) := by decide +kernel
theorem dX6_vote_27 : decode cX6_vote 27 = .ok (.invokespecial 45, 3) := by decide +kernel
theorem dX6_vote_30 : decode cX6_vote 30 = .ok (.athrow, 1) := by decide +kernel
theorem dX6_vote_31 : decode cX6_vote 31 = .ok (.iload_n 2, 1) := by decide +kernel
theorem dX6_vote_32 : decode cX6_vote 32 = .ok (.ifCond .eq 16, 3) := by decide +kernel
theorem dX6_vote_35 : decode cX6_vote 35 = .ok (.aload_n 3, 1) := by decide +kernel
theorem dX6_vote_36 : decode cX6_vote 36 = .ok (.dup, 1) := by decide +kernel
theorem dX6_vote_37 : decode cX6_vote 37 = .ok (.getfield 285, 3) := by decide +kernel
theorem dX6_vote_40 : decode cX6_vote 40 = .ok (.iconst 1, 1) := by decide +kernel
theorem dX6_vote_41 : decode cX6_vote 41 = .ok (.iadd, 1) := by decide +kernel
theorem dX6_vote_42 : decode cX6_vote 42 = .ok (.putfield 285, 3) := by decide +kernel
theorem dX6_vote_45 : decode cX6_vote 45 = .ok (.goto 13, 3) := by decide +kernel
theorem dX6_vote_48 : decode cX6_vote 48 = .ok (.aload_n 3, 1) := by decide +kernel
theorem dX6_vote_49 : decode cX6_vote 49 = .ok (.dup, 1) := by decide +kernel
theorem dX6_vote_50 : decode cX6_vote 50 = .ok (.getfield 288, 3) := by decide +kernel
theorem dX6_vote_53 : decode cX6_vote 53 = .ok (.iconst 1, 1) := by decide +kernel
theorem dX6_vote_54 : decode cX6_vote 54 = .ok (.iadd, 1) := by decide +kernel
theorem dX6_vote_55 : decode cX6_vote 55 = .ok (.putfield 288, 3) := by decide +kernel
theorem dX6_vote_58 : decode cX6_vote 58 = .ok (.aload_n 3, 1) := by decide +kernel
theorem dX6_vote_59 : decode cX6_vote 59 = .ok (.getfield 201, 3) := by decide +kernel
theorem dX6_vote_62 : decode cX6_vote 62 = .ok (.iload_n 2, 1) := by decide +kernel
theorem dX6_vote_63 : decode cX6_vote 63 = .ok (.ifCond .eq 7, 3) := by decide +kernel
theorem dX6_vote_66 : decode cX6_vote 66 = .ok (.iconst 5, 1) := by decide +kernel
theorem dX6_vote_67 : decode cX6_vote 67 = .ok (.goto 5, 3) := by decide +kernel
theorem dX6_vote_70 : decode cX6_vote 70 = .ok (.bipush 6, 2) := by decide +kernel
theorem dX6_vote_72 : decode cX6_vote 72 = .ok (.aload_n 3, 1) := by decide +kernel
theorem dX6_vote_73 : decode cX6_vote 73 = .ok (.getfield 190, 3) := by decide +kernel
theorem dX6_vote_76 : decode cX6_vote 76 = .ok (.iconst (-1), 1) := by decide +kernel
theorem dX6_vote_77 : decode cX6_vote 77 = .ok (.iconst (-1), 1) := by decide +kernel
theorem dX6_vote_78 : decode cX6_vote 78 = .ok (.invokevirtual 71, 3) := by decide +kernel
theorem dX6_vote_81 : decode cX6_vote 81 = .ok (.aload_n 3, 1) := by decide +kernel
theorem dX6_vote_82 : decode cX6_vote 82 = .ok (.invokevirtual 280, 3) := by decide +kernel
theorem dX6_vote_85 : decode cX6_vote 85 = .ok (.ireturn, 1) := by decide +kernel
theorem dX6_ofShip_0 : decode cX6_ofShip 0 = .ok (.aload_n 0, 1) := by decide +kernel
theorem dX6_ofShip_1 : decode cX6_ofShip 1 = .ok (.iload_n 1, 1) := by decide +kernel
theorem dX6_ofShip_2 : decode cX6_ofShip 2 = .ok (.invokevirtual 82, 3) := by decide +kernel
theorem dX6_ofShip_5 : decode cX6_ofShip 5 = .ok (.astore_n 3, 1) := by decide +kernel
theorem dX6_ofShip_6 : decode cX6_ofShip 6 = .ok (.iload_n 2, 1) := by decide +kernel
theorem dX6_ofShip_7 : decode cX6_ofShip 7 = .ok (.bipush 8, 2) := by decide +kernel
theorem dX6_ofShip_9 : decode cX6_ofShip 9 = .ok (.invokestatic 46, 3) := by decide +kernel
theorem dX6_ofShip_12 : decode cX6_ofShip 12 = .ok (.ifCond .ne 14, 3) := by decide +kernel
theorem dX6_ofShip_15 : decode cX6_ofShip 15 = .ok (.new 34, 3) := by decide +kernel
theorem dX6_ofShip_18 : decode cX6_ofShip 18 = .ok (.dup, 1) := by decide +kernel
theorem dX6_ofShip_19 : decode cX6_ofShip 19 = .ok (.ldc_w 291, 3) := by decide +kernel
theorem dX6_ofShip_22 : decode cX6_ofShip 22 = .ok (.invokespecial 38, 3) := by decide +kernel
theorem dX6_ofShip_25 : decode cX6_ofShip 25 = .ok (.athrow, 1) := by decide +kernel
theorem dX6_ofShip_26 : decode cX6_ofShip 26 = .ok (.iload_n 2, 1) := by decide +kernel
theorem dX6_ofShip_27 : decode cX6_ofShip 27 = .ok (.tableswitch 96 0 6 #[41, 47, 53, 59, 64, 77, 91], 41) := by decide +kernel
theorem dX6_ofShip_68 : decode cX6_ofShip 68 = .ok (.aload_n 0, 1) := by decide +kernel
theorem dX6_ofShip_69 : decode cX6_ofShip 69 = .ok (.aload_n 3, 1) := by decide +kernel
theorem dX6_ofShip_70 : decode cX6_ofShip 70 = .ok (.invokevirtual 293, 3) := by decide +kernel
theorem dX6_ofShip_73 : decode cX6_ofShip 73 = .ok (.ireturn, 1) := by decide +kernel
theorem dX6_ofShip_74 : decode cX6_ofShip 74 = .ok (.aload_n 0, 1) := by decide +kernel
theorem dX6_ofShip_75 : decode cX6_ofShip 75 = .ok (.aload_n 3, 1) := by decide +kernel
theorem dX6_ofShip_76 : decode cX6_ofShip 76 = .ok (.invokevirtual 296, 3) := by decide +kernel
theorem dX6_ofShip_79 : decode cX6_ofShip 79 = .ok (.ireturn, 1) := by decide +kernel
theorem dX6_ofShip_80 : decode cX6_ofShip 80 = .ok (.aload_n 0, 1) := by decide +kernel
theorem dX6_ofShip_81 : decode cX6_ofShip 81 = .ok (.aload_n 3, 1) := by decide +kernel
theorem dX6_ofShip_82 : decode cX6_ofShip 82 = .ok (.invokevirtual 165, 3) := by decide +kernel
theorem dX6_ofShip_85 : decode cX6_ofShip 85 = .ok (.ireturn, 1) := by decide +kernel
theorem dX6_ofShip_86 : decode cX6_ofShip 86 = .ok (.aload_n 3, 1) := by decide +kernel
theorem dX6_ofShip_87 : decode cX6_ofShip 87 = .ok (.getfield 156, 3) := by decide +kernel
theorem dX6_ofShip_90 : decode cX6_ofShip 90 = .ok (.ireturn, 1) := by decide +kernel
theorem dX6_ofShip_91 : decode cX6_ofShip 91 = .ok (.aload_n 3, 1) := by decide +kernel
theorem dX6_ofShip_92 : decode cX6_ofShip 92 = .ok (.getfield 168, 3) := by decide +kernel
theorem dX6_ofShip_95 : decode cX6_ofShip 95 = .ok (.ifnull 7, 3) := by decide +kernel
theorem dX6_ofShip_98 : decode cX6_ofShip 98 = .ok (.iconst 1, 1) := by decide +kernel
theorem dX6_ofShip_99 : decode cX6_ofShip 99 = .ok (.goto 4, 3) := by decide +kernel
theorem dX6_ofShip_102 : decode cX6_ofShip 102 = .ok (.iconst 0, 1) := by decide +kernel
theorem dX6_ofShip_103 : decode cX6_ofShip 103 = .ok (.ireturn, 1) := by decide +kernel
theorem dX6_ofShip_104 : decode cX6_ofShip 104 = .ok (.aload_n 0, 1) := by decide +kernel
theorem dX6_ofShip_105 : decode cX6_ofShip 105 = .ok (.aload_n 3, 1) := by decide +kernel
theorem dX6_ofShip_106 : decode cX6_ofShip 106 = .ok (.invokevirtual 159, 3) := by decide +kernel
theorem dX6_ofShip_109 : decode cX6_ofShip 109 = .ok (.ifCond .eq 7, 3) := by decide +kernel
theorem dX6_ofShip_112 : decode cX6_ofShip 112 = .ok (.iconst 1, 1) := by decide +kernel
theorem dX6_ofShip_113 : decode cX6_ofShip 113 = .ok (.goto 4, 3) := by decide +kernel
theorem dX6_ofShip_116 : decode cX6_ofShip 116 = .ok (.iconst 0, 1) := by decide +kernel
theorem dX6_ofShip_117 : decode cX6_ofShip 117 = .ok (.ireturn, 1) := by decide +kernel
theorem dX6_ofShip_118 : decode cX6_ofShip 118 = .ok (.aload_n 3, 1) := by decide +kernel
theorem dX6_ofShip_119 : decode cX6_ofShip 119 = .ok (.getfield 266, 3) := by decide +kernel
theorem dX6_ofShip_122 : decode cX6_ofShip 122 = .ok (.ireturn, 1) := by decide +kernel
theorem dX6_ofShip_123 : decode cX6_ofShip 123 = .ok (.aload_n 0, 1) := by decide +kernel
theorem dX6_ofShip_124 : decode cX6_ofShip 124 = .ok (.aload_n 3, 1) := by decide +kernel
theorem dX6_ofShip_125 : decode cX6_ofShip 125 = .ok (.invokevirtual 120, 3) := by decide +kernel
theorem dX6_ofShip_128 : decode cX6_ofShip 128 = .ok (.ireturn, 1) := by decide +kernel
theorem dX6_pointsAnew_0 : decode cX6_pointsAnew 0 = .ok (.aload_n 0, 1) := by decide +kernel
theorem dX6_pointsAnew_1 : decode cX6_pointsAnew 1 = .ok (.aload_n 0, 1) := by decide +kernel
theorem dX6_pointsAnew_2 : decode cX6_pointsAnew 2 = .ok (.iload_n 1, 1) := by decide +kernel
theorem dX6_pointsAnew_3 : decode cX6_pointsAnew 3 = .ok (.invokevirtual 82, 3) := by decide +kernel
theorem dX6_pointsAnew_6 : decode cX6_pointsAnew 6 = .ok (.getfield 299, 3) := by decide +kernel
theorem dX6_pointsAnew_9 : decode cX6_pointsAnew 9 = .ok (.invokevirtual 302, 3) := by decide +kernel
theorem dX6_pointsAnew_12 : decode cX6_pointsAnew 12 = .ok (.ireturn, 1) := by decide +kernel
theorem dX6_isGround_0 : decode cX6_isGround 0 = .ok (.aload_n 0, 1) := by decide +kernel
theorem dX6_isGround_1 : decode cX6_isGround 1 = .ok (.iload_n 1, 1) := by decide +kernel
theorem dX6_isGround_2 : decode cX6_isGround 2 = .ok (.invokevirtual 82, 3) := by decide +kernel
theorem dX6_isGround_5 : decode cX6_isGround 5 = .ok (.astore_n 3, 1) := by decide +kernel
theorem dX6_isGround_6 : decode cX6_isGround 6 = .ok (.iload_n 2, 1) := by decide +kernel
theorem dX6_isGround_7 : decode cX6_isGround 7 = .ok (.bipush 10, 2) := by decide +kernel
theorem dX6_isGround_9 : decode cX6_isGround 9 = .ok (.invokestatic 46, 3) := by decide +kernel
theorem dX6_isGround_12 : decode cX6_isGround 12 = .ok (.ifCond .ne 14, 3) := by decide +kernel
theorem dX6_isGround_15 : decode cX6_isGround 15 = .ok (.new 34, 3) := by decide +kernel
theorem dX6_isGround_18 : decode cX6_isGround 18 = .ok (.dup, 1) := by decide +kernel
theorem dX6_isGround_19 : decode cX6_isGround 19 = .ok (.ldc_w 306, 3) := by decide +kernel
theorem dX6_isGround_22 : decode cX6_isGround 22 = .ok (.invokespecial 38, 3) := by decide +kernel
theorem dX6_isGround_25 : decode cX6_isGround 25 = .ok (.athrow, 1) := by decide +kernel
theorem dX6_isGround_26 : decode cX6_isGround 26 = .ok (.aload_n 0, 1) := by decide +kernel
theorem dX6_isGround_27 : decode cX6_isGround 27 = .ok (.aload_n 3, 1) := by decide +kernel
theorem dX6_isGround_28 : decode cX6_isGround 28 = .ok (.iload_n 2, 1) := by decide +kernel
theorem dX6_isGround_29 : decode cX6_isGround 29 = .ok (.invokevirtual 205, 3) := by decide +kernel
theorem dX6_isGround_32 : decode cX6_isGround 32 = .ok (.ireturn, 1) := by decide +kernel
theorem dX6_ofVisit_0 : decode cX6_ofVisit 0 = .ok (.aload_n 0, 1) := by decide +kernel
theorem dX6_ofVisit_1 : decode cX6_ofVisit 1 = .ok (.iload_n 1, 1) := by decide +kernel
theorem dX6_ofVisit_2 : decode cX6_ofVisit 2 = .ok (.invokevirtual 191, 3) := by decide +kernel
theorem dX6_ofVisit_5 : decode cX6_ofVisit 5 = .ok (.astore_n 3, 1) := by decide +kernel
theorem dX6_ofVisit_6 : decode cX6_ofVisit 6 = .ok (.iload_n 2, 1) := by decide +kernel
theorem dX6_ofVisit_7 : decode cX6_ofVisit 7 = .ok (.bipush 7, 2) := by decide +kernel
theorem dX6_ofVisit_9 : decode cX6_ofVisit 9 = .ok (.invokestatic 46, 3) := by decide +kernel
theorem dX6_ofVisit_12 : decode cX6_ofVisit 12 = .ok (.ifCond .ne 14, 3) := by decide +kernel
theorem dX6_ofVisit_15 : decode cX6_ofVisit 15 = .ok (.new 34, 3) := by decide +kernel
theorem dX6_ofVisit_18 : decode cX6_ofVisit 18 = .ok (.dup, 1) := by decide +kernel
theorem dX6_ofVisit_19 : decode cX6_ofVisit 19 = .ok (.ldc_w 291, 3) := by decide +kernel
theorem dX6_ofVisit_22 : decode cX6_ofVisit 22 = .ok (.invokespecial 38, 3) := by decide +kernel
theorem dX6_ofVisit_25 : decode cX6_ofVisit 25 = .ok (.athrow, 1) := by decide +kernel
theorem dX6_ofVisit_26 : decode cX6_ofVisit 26 = .ok (.iload_n 2, 1) := by decide +kernel
theorem dX6_ofVisit_27 : decode cX6_ofVisit 27 = .ok (.tableswitch 73 0 5 #[37, 45, 50, 55, 60, 68], 37) := by decide +kernel
theorem dX6_ofVisit_64 : decode cX6_ofVisit 64 = .ok (.aload_n 3, 1) := by decide +kernel
theorem dX6_ofVisit_65 : decode cX6_ofVisit 65 = .ok (.getfield 201, 3) := by decide +kernel
theorem dX6_ofVisit_68 : decode cX6_ofVisit 68 = .ok (.getfield 79, 3) := by decide +kernel
theorem dX6_ofVisit_71 : decode cX6_ofVisit 71 = .ok (.ireturn, 1) := by decide +kernel
theorem dX6_ofVisit_72 : decode cX6_ofVisit 72 = .ok (.aload_n 3, 1) := by decide +kernel
theorem dX6_ofVisit_73 : decode cX6_ofVisit 73 = .ok (.getfield 308, 3) := by decide +kernel
theorem dX6_ofVisit_76 : decode cX6_ofVisit 76 = .ok (.ireturn, 1) := by decide +kernel
theorem dX6_ofVisit_77 : decode cX6_ofVisit 77 = .ok (.aload_n 3, 1) := by decide +kernel
theorem dX6_ofVisit_78 : decode cX6_ofVisit 78 = .ok (.getfield 309, 3) := by decide +kernel
theorem dX6_ofVisit_81 : decode cX6_ofVisit 81 = .ok (.ireturn, 1) := by decide +kernel
theorem dX6_ofVisit_82 : decode cX6_ofVisit 82 = .ok (.aload_n 3, 1) := by decide +kernel
theorem dX6_ofVisit_83 : decode cX6_ofVisit 83 = .ok (.getfield 219, 3) := by decide +kernel
theorem dX6_ofVisit_86 : decode cX6_ofVisit 86 = .ok (.ireturn, 1) := by decide +kernel
theorem dX6_ofVisit_87 : decode cX6_ofVisit 87 = .ok (.aload_n 3, 1) := by decide +kernel
theorem dX6_ofVisit_88 : decode cX6_ofVisit 88 = .ok (.getfield 209, 3) := by decide +kernel
theorem dX6_ofVisit_91 : decode cX6_ofVisit 91 = .ok (.invokevirtual 58, 3) := by decide +kernel
theorem dX6_ofVisit_94 : decode cX6_ofVisit 94 = .ok (.ireturn, 1) := by decide +kernel
theorem dX6_ofVisit_95 : decode cX6_ofVisit 95 = .ok (.aload_n 3, 1) := by decide +kernel
theorem dX6_ofVisit_96 : decode cX6_ofVisit 96 = .ok (.invokevirtual 242, 3) := by decide +kernel
theorem dX6_ofVisit_99 : decode cX6_ofVisit 99 = .ok (.ireturn, 1) := by decide +kernel
theorem dX6_ofVisit_100 : decode cX6_ofVisit 100 = .ok (.aload_n 3, 1) := by decide +kernel
theorem dX6_ofVisit_101 : decode cX6_ofVisit 101 = .ok (.invokevirtual 312, 3) := by decide +kernel
theorem dX6_ofVisit_104 : decode cX6_ofVisit 104 = .ok (.ifCond .eq 7, 3) := by decide +kernel
theorem dX6_ofVisit_107 : decode cX6_ofVisit 107 = .ok (.iconst 1, 1) := by decide +kernel
theorem dX6_ofVisit_108 : decode cX6_ofVisit 108 = .ok (.goto 4, 3) := by decide +kernel
theorem dX6_ofVisit_111 : decode cX6_ofVisit 111 = .ok (.iconst 0, 1) := by decide +kernel
theorem dX6_ofVisit_112 : decode cX6_ofVisit 112 = .ok (.ireturn, 1) := by decide +kernel
theorem dX6_list_0 : decode cX6_list 0 = .ok (.iload_n 1, 1) := by decide +kernel
theorem dX6_list_1 : decode cX6_list 1 = .ok (.bipush 6, 2) := by decide +kernel
theorem dX6_list_3 : decode cX6_list 3 = .ok (.invokestatic 46, 3) := by decide +kernel
theorem dX6_list_6 : decode cX6_list 6 = .ok (.ifCond .ne 14, 3) := by decide +kernel
theorem dX6_list_9 : decode cX6_list 9 = .ok (.new 50, 3) := by decide +kernel
theorem dX6_list_12 : decode cX6_list 12 = .ok (.dup, 1) := by decide +kernel
theorem dX6_list_13 : decode cX6_list 13 = .ok (.ldc_w 315, 3) := by decide +kernel
theorem dX6_list_16 : decode cX6_list 16 = .ok (.invokespecial 54, 3) := by decide +kernel
theorem dX6_list_19 : decode cX6_list 19 = .ok (.athrow, 1) := by decide +kernel
theorem dX6_list_20 : decode cX6_list 20 = .ok (.aload_n 0, 1) := by decide +kernel
theorem dX6_list_21 : decode cX6_list 21 = .ok (.iload_n 1, 1) := by decide +kernel
theorem dX6_list_22 : decode cX6_list 22 = .ok (.invokevirtual 317, 3) := by decide +kernel
theorem dX6_list_25 : decode cX6_list 25 = .ok (.ireturn, 1) := by decide +kernel
theorem dX6_missed_0 : decode cX6_missed 0 = .ok (.iload_n 1, 1) := by decide +kernel
theorem dX6_missed_1 : decode cX6_missed 1 = .ok (.aload_n 0, 1) := by decide +kernel
theorem dX6_missed_2 : decode cX6_missed 2 = .ok (.getfield 26, 3) := by decide +kernel
theorem dX6_missed_5 : decode cX6_missed 5 = .ok (.arraylength, 1) := by decide +kernel
theorem dX6_missed_6 : decode cX6_missed 6 = .ok (.invokestatic 46, 3) := by decide +kernel
theorem dX6_missed_9 : decode cX6_missed 9 = .ok (.ifCond .ne 13, 3) := by decide +kernel
theorem dX6_missed_12 : decode cX6_missed 12 = .ok (.new 50, 3) := by decide +kernel
theorem dX6_missed_15 : decode cX6_missed 15 = .ok (.dup, 1) := by decide +kernel
theorem dX6_missed_16 : decode cX6_missed 16 = .ok (.ldc 154, 2) := by decide +kernel
theorem dX6_missed_18 : decode cX6_missed 18 = .ok (.invokespecial 54, 3) := by decide +kernel
theorem dX6_missed_21 : decode cX6_missed 21 = .ok (.athrow, 1) := by decide +kernel
theorem dX6_missed_22 : decode cX6_missed 22 = .ok (.aload_n 0, 1) := by decide +kernel
theorem dX6_missed_23 : decode cX6_missed 23 = .ok (.getfield 26, 3) := by decide +kernel
theorem dX6_missed_26 : decode cX6_missed 26 = .ok (.iload_n 1, 1) := by decide +kernel
theorem dX6_missed_27 : decode cX6_missed 27 = .ok (.iaload, 1) := by decide +kernel
theorem dX6_missed_28 : decode cX6_missed 28 = .ok (.ireturn, 1) := by decide +kernel
theorem dX6_knew_0 : decode cX6_knew 0 = .ok (.aload_n 0, 1) := by decide +kernel
theorem dX6_knew_1 : decode cX6_knew 1 = .ok (.iload_n 1, 1) := by decide +kernel
theorem dX6_knew_2 : decode cX6_knew 2 = .ok (.invokevirtual 82, 3) := by decide +kernel
theorem dX6_knew_5 : decode cX6_knew 5 = .ok (.astore 4, 2) := by decide +kernel
theorem dX6_knew_7 : decode cX6_knew 7 = .ok (.iload_n 2, 1) := by decide +kernel
theorem dX6_knew_8 : decode cX6_knew 8 = .ok (.iconst 4, 1) := by decide +kernel
theorem dX6_knew_9 : decode cX6_knew 9 = .ok (.invokestatic 46, 3) := by decide +kernel
theorem dX6_knew_12 : decode cX6_knew 12 = .ok (.ifCond .ne 13, 3) := by decide +kernel
theorem dX6_knew_15 : decode cX6_knew 15 = .ok (.new 50, 3) := by decide +kernel
theorem dX6_knew_18 : decode cX6_knew 18 = .ok (.dup, 1) := by decide +kernel
theorem dX6_knew_19 : decode cX6_knew 19 = .ok (.ldc 154, 2) := by decide +kernel
theorem dX6_knew_21 : decode cX6_knew 21 = .ok (.invokespecial 54, 3) := by decide +kernel
theorem dX6_knew_24 : decode cX6_knew 24 = .ok (.athrow, 1) := by decide +kernel
theorem dX6_knew_25 : decode cX6_knew 25 = .ok (.iload_n 3, 1) := by decide +kernel
theorem dX6_knew_26 : decode cX6_knew 26 = .ok (.ifCond .lt 11, 3) := by decide +kernel
theorem dX6_knew_29 : decode cX6_knew 29 = .ok (.iload_n 3, 1) := by decide +kernel
theorem dX6_knew_30 : decode cX6_knew 30 = .ok (.aload_n 0, 1) := by decide +kernel
theorem dX6_knew_31 : decode cX6_knew 31 = .ok (.getfield 30, 3) := by decide +kernel
theorem dX6_knew_34 : decode cX6_knew 34 = .ok (.if_icmp .le 14, 3) := by decide +kernel
theorem dX6_knew_37 : decode cX6_knew 37 = .ok (.new 34, 3) := by decide +kernel
theorem dX6_knew_40 : decode cX6_knew 40 = .ok (.dup, 1) := by decide +kernel
theorem dX6_knew_41 : decode cX6_knew 41 = .ok (.ldc_w 320, 3) := by decide +kernel
theorem dX6_knew_44 : decode cX6_knew 44 = .ok (.invokespecial 38, 3) := by decide +kernel
theorem dX6_knew_47 : decode cX6_knew 47 = .ok (.athrow, 1) := by decide +kernel
theorem dX6_knew_48 : decode cX6_knew 48 = .ok (.iconst 0, 1) := by decide +kernel
theorem dX6_knew_49 : decode cX6_knew 49 = .ok (.istore 5, 2) := by decide +kernel
theorem dX6_knew_51 : decode cX6_knew 51 = .ok (.iconst 0, 1) := by decide +kernel
theorem dX6_knew_52 : decode cX6_knew 52 = .ok (.istore 6, 2) := by decide +kernel
theorem dX6_knew_54 : decode cX6_knew 54 = .ok (.iload 6, 2) := by decide +kernel
theorem dX6_knew_56 : decode cX6_knew 56 = .ok (.aload_n 0, 1) := by decide +kernel
theorem dX6_knew_57 : decode cX6_knew 57 = .ok (.getfield 19, 3) := by decide +kernel
theorem dX6_knew_60 : decode cX6_knew 60 = .ok (.invokevirtual 58, 3) := by decide +kernel
theorem dX6_knew_63 : decode cX6_knew 63 = .ok (.if_icmp .ge 56, 3) := by decide +kernel
theorem dX6_knew_66 : decode cX6_knew 66 = .ok (.aload_n 0, 1) := by decide +kernel
theorem dX6_knew_67 : decode cX6_knew 67 = .ok (.getfield 19, 3) := by decide +kernel
theorem dX6_knew_70 : decode cX6_knew 70 = .ok (.iload 6, 2) := by decide +kernel
theorem dX6_knew_72 : decode cX6_knew 72 = .ok (.invokevirtual 224, 3) := by decide +kernel
theorem dX6_knew_75 : decode cX6_knew 75 = .ok (.checkcast 179, 3) := by decide +kernel
theorem dX6_knew_78 : decode cX6_knew 78 = .ok (.astore 7, 2) := by decide +kernel
theorem dX6_knew_80 : decode cX6_knew 80 = .ok (.aload 7, 2) := by decide +kernel
theorem dX6_knew_82 : decode cX6_knew 82 = .ok (.getfield 201, 3) := by decide +kernel
theorem dX6_knew_85 : decode cX6_knew 85 = .ok (.aload 4, 2) := by decide +kernel
theorem dX6_knew_87 : decode cX6_knew 87 = .ok (.if_acmp .ne 26, 3) := by decide +kernel
theorem dX6_knew_90 : decode cX6_knew 90 = .ok (.aload 7, 2) := by decide +kernel
theorem dX6_knew_92 : decode cX6_knew 92 = .ok (.iload_n 2, 1) := by decide +kernel
theorem dX6_knew_93 : decode cX6_knew 93 = .ok (.iload_n 3, 1) := by decide +kernel
theorem dX6_knew_94 : decode cX6_knew 94 = .ok (.invokevirtual 322, 3) := by decide +kernel
theorem dX6_knew_97 : decode cX6_knew 97 = .ok (.ifCond .eq 16, 3) := by decide +kernel
theorem dX6_knew_100 : decode cX6_knew 100 = .ok (.iload 5, 2) := by decide +kernel
theorem dX6_knew_102 : decode cX6_knew 102 = .ok (.aload 7, 2) := by decide +kernel
theorem dX6_knew_104 : decode cX6_knew 104 = .ok (.getfield 209, 3) := by decide +kernel
theorem dX6_knew_107 : decode cX6_knew 107 = .ok (.invokevirtual 58, 3) := by decide +kernel
theorem dX6_knew_110 : decode cX6_knew 110 = .ok (.iadd, 1) := by decide +kernel
theorem dX6_knew_111 : decode cX6_knew 111 = .ok (.istore 5, 2) := by decide +kernel
theorem dX6_knew_113 : decode cX6_knew 113 = .ok (.iinc 6 1, 3) := by decide +kernel
theorem dX6_knew_116 : decode cX6_knew 116 = .ok (.goto (-62), 3) := by decide +kernel
theorem dX6_knew_119 : decode cX6_knew 119 = .ok (.iload 5, 2) := by decide +kernel
theorem dX6_knew_121 : decode cX6_knew 121 = .ok (.ireturn, 1) := by decide +kernel
theorem dX6_isIndex_0 : decode cX6_isIndex 0 = .ok (.iload_n 0, 1) := by decide +kernel
theorem dX6_isIndex_1 : decode cX6_isIndex 1 = .ok (.ifCond .lt 12, 3) := by decide +kernel
theorem dX6_isIndex_4 : decode cX6_isIndex 4 = .ok (.iload_n 0, 1) := by decide +kernel
theorem dX6_isIndex_5 : decode cX6_isIndex 5 = .ok (.iload_n 1, 1) := by decide +kernel
theorem dX6_isIndex_6 : decode cX6_isIndex 6 = .ok (.if_icmp .ge 7, 3) := by decide +kernel
theorem dX6_isIndex_9 : decode cX6_isIndex 9 = .ok (.iconst 1, 1) := by decide +kernel
theorem dX6_isIndex_10 : decode cX6_isIndex 10 = .ok (.goto 4, 3) := by decide +kernel
theorem dX6_isIndex_13 : decode cX6_isIndex 13 = .ok (.iconst 0, 1) := by decide +kernel
theorem dX6_isIndex_14 : decode cX6_isIndex 14 = .ok (.ireturn, 1) := by decide +kernel
theorem dX6_isIn_0 : decode cX6_isIn 0 = .ok (.iload_n 0, 1) := by decide +kernel
theorem dX6_isIn_1 : decode cX6_isIn 1 = .ok (.ifCond .lt 16, 3) := by decide +kernel
theorem dX6_isIn_4 : decode cX6_isIn 4 = .ok (.iload_n 1, 1) := by decide +kernel
theorem dX6_isIn_5 : decode cX6_isIn 5 = .ok (.iload_n 0, 1) := by decide +kernel
theorem dX6_isIn_6 : decode cX6_isIn 6 = .ok (.ishr, 1) := by decide +kernel
theorem dX6_isIn_7 : decode cX6_isIn 7 = .ok (.iconst 1, 1) := by decide +kernel
theorem dX6_isIn_8 : decode cX6_isIn 8 = .ok (.iand, 1) := by decide +kernel
theorem dX6_isIn_9 : decode cX6_isIn 9 = .ok (.iconst 1, 1) := by decide +kernel
theorem dX6_isIn_10 : decode cX6_isIn 10 = .ok (.if_icmp .ne 7, 3) := by decide +kernel
theorem dX6_isIn_13 : decode cX6_isIn 13 = .ok (.iconst 1, 1) := by decide +kernel
theorem dX6_isIn_14 : decode cX6_isIn 14 = .ok (.goto 4, 3) := by decide +kernel
theorem dX6_isIn_17 : decode cX6_isIn 17 = .ok (.iconst 0, 1) := by decide +kernel
theorem dX6_isIn_18 : decode cX6_isIn 18 = .ok (.ireturn, 1) := by decide +kernel
theorem dX6_shipNumbered_0 : decode cX6_shipNumbered 0 = .ok (.iload_n 1, 1) := by decide +kernel
theorem dX6_shipNumbered_1 : decode cX6_shipNumbered 1 = .ok (.aload_n 0, 1) := by decide +kernel
theorem dX6_shipNumbered_2 : decode cX6_shipNumbered 2 = .ok (.getfield 10, 3) := by decide +kernel
theorem dX6_shipNumbered_5 : decode cX6_shipNumbered 5 = .ok (.invokevirtual 58, 3) := by decide +kernel
theorem dX6_shipNumbered_8 : decode cX6_shipNumbered 8 = .ok (.invokestatic 46, 3) := by decide +kernel
theorem dX6_shipNumbered_11 : decode cX6_shipNumbered 11 = .ok (.ifCond .ne 14, 3) := by decide +kernel
theorem dX6_shipNumbered_14 : decode cX6_shipNumbered 14 = .ok (.new 50, 3) := by decide +kernel
theorem dX6_shipNumbered_17 : decode cX6_shipNumbered 17 = .ok (.dup, 1) := by decide +kernel
theorem dX6_shipNumbered_18 : decode cX6_shipNumbered 18 = .ok (.ldc_w 325, 3) := by decide +kernel
theorem dX6_shipNumbered_21 : decode cX6_shipNumbered 21 = .ok (.invokespecial 54, 3) := by decide +kernel
theorem dX6_shipNumbered_24 : decode cX6_shipNumbered 24 = .ok (.athrow, 1) := by decide +kernel
theorem dX6_shipNumbered_25 : decode cX6_shipNumbered 25 = .ok (.aload_n 0, 1) := by decide +kernel
theorem dX6_shipNumbered_26 : decode cX6_shipNumbered 26 = .ok (.getfield 10, 3) := by decide +kernel
theorem dX6_shipNumbered_29 : decode cX6_shipNumbered 29 = .ok (.iload_n 1, 1) := by decide +kernel
theorem dX6_shipNumbered_30 : decode cX6_shipNumbered 30 = .ok (.invokevirtual 224, 3) := by decide +kernel
theorem dX6_shipNumbered_33 : decode cX6_shipNumbered 33 = .ok (.checkcast 64, 3) := by decide +kernel
theorem dX6_shipNumbered_36 : decode cX6_shipNumbered 36 = .ok (.areturn, 1) := by decide +kernel
theorem dX6_visitNumbered_0 : decode cX6_visitNumbered 0 = .ok (.iload_n 1, 1) := by decide +kernel
theorem dX6_visitNumbered_1 : decode cX6_visitNumbered 1 = .ok (.aload_n 0, 1) := by decide +kernel
theorem dX6_visitNumbered_2 : decode cX6_visitNumbered 2 = .ok (.getfield 19, 3) := by decide +kernel
theorem dX6_visitNumbered_5 : decode cX6_visitNumbered 5 = .ok (.invokevirtual 58, 3) := by decide +kernel
theorem dX6_visitNumbered_8 : decode cX6_visitNumbered 8 = .ok (.invokestatic 46, 3) := by decide +kernel
theorem dX6_visitNumbered_11 : decode cX6_visitNumbered 11 = .ok (.ifCond .ne 14, 3) := by decide +kernel
theorem dX6_visitNumbered_14 : decode cX6_visitNumbered 14 = .ok (.new 50, 3) := by decide +kernel
theorem dX6_visitNumbered_17 : decode cX6_visitNumbered 17 = .ok (.dup, 1) := by decide +kernel
theorem dX6_visitNumbered_18 : decode cX6_visitNumbered 18 = .ok (.ldc_w 327, 3) := by decide +kernel
theorem dX6_visitNumbered_21 : decode cX6_visitNumbered 21 = .ok (.invokespecial 54, 3) := by decide +kernel
theorem dX6_visitNumbered_24 : decode cX6_visitNumbered 24 = .ok (.athrow, 1) := by decide +kernel
theorem dX6_visitNumbered_25 : decode cX6_visitNumbered 25 = .ok (.aload_n 0, 1) := by decide +kernel
theorem dX6_visitNumbered_26 : decode cX6_visitNumbered 26 = .ok (.getfield 19, 3) := by decide +kernel
theorem dX6_visitNumbered_29 : decode cX6_visitNumbered 29 = .ok (.iload_n 1, 1) := by decide +kernel
theorem dX6_visitNumbered_30 : decode cX6_visitNumbered 30 = .ok (.invokevirtual 224, 3) := by decide +kernel
theorem dX6_visitNumbered_33 : decode cX6_visitNumbered 33 = .ok (.checkcast 179, 3) := by decide +kernel
theorem dX6_visitNumbered_36 : decode cX6_visitNumbered 36 = .ok (.areturn, 1) := by decide +kernel
theorem dX6_isOfLatest_0 : decode cX6_isOfLatest 0 = .ok (.aload_n 0, 1) := by decide +kernel
theorem dX6_isOfLatest_1 : decode cX6_isOfLatest 1 = .ok (.getfield 30, 3) := by decide +kernel
theorem dX6_isOfLatest_4 : decode cX6_isOfLatest 4 = .ok (.iload_n 1, 1) := by decide +kernel
theorem dX6_isOfLatest_5 : decode cX6_isOfLatest 5 = .ok (.isub, 1) := by decide +kernel
theorem dX6_isOfLatest_6 : decode cX6_isOfLatest 6 = .ok (.sipush 1095, 3) := by decide +kernel
theorem dX6_isOfLatest_9 : decode cX6_isOfLatest 9 = .ok (.if_icmp .ge 7, 3) := by decide +kernel
theorem dX6_isOfLatest_12 : decode cX6_isOfLatest 12 = .ok (.iconst 1, 1) := by decide +kernel
theorem dX6_isOfLatest_13 : decode cX6_isOfLatest 13 = .ok (.goto 4, 3) := by decide +kernel
theorem dX6_isOfLatest_16 : decode cX6_isOfLatest 16 = .ok (.iconst 0, 1) := by decide +kernel
theorem dX6_isOfLatest_17 : decode cX6_isOfLatest 17 = .ok (.ireturn, 1) := by decide +kernel
theorem dX6_isSuspended_0 : decode cX6_isSuspended 0 = .ok (.iload_n 1, 1) := by decide +kernel
theorem dX6_isSuspended_1 : decode cX6_isSuspended 1 = .ok (.aload_n 0, 1) := by decide +kernel
theorem dX6_isSuspended_2 : decode cX6_isSuspended 2 = .ok (.getfield 22, 3) := by decide +kernel
theorem dX6_isSuspended_5 : decode cX6_isSuspended 5 = .ok (.arraylength, 1) := by decide +kernel
theorem dX6_isSuspended_6 : decode cX6_isSuspended 6 = .ok (.invokestatic 46, 3) := by decide +kernel
theorem dX6_isSuspended_9 : decode cX6_isSuspended 9 = .ok (.ifCond .eq 16, 3) := by decide +kernel
theorem dX6_isSuspended_12 : decode cX6_isSuspended 12 = .ok (.aload_n 0, 1) := by decide +kernel
theorem dX6_isSuspended_13 : decode cX6_isSuspended 13 = .ok (.getfield 22, 3) := by decide +kernel
theorem dX6_isSuspended_16 : decode cX6_isSuspended 16 = .ok (.iload_n 1, 1) := by decide +kernel
theorem dX6_isSuspended_17 : decode cX6_isSuspended 17 = .ok (.baload, 1) := by decide +kernel
theorem dX6_isSuspended_18 : decode cX6_isSuspended 18 = .ok (.ifCond .eq 7, 3) := by decide +kernel
theorem dX6_isSuspended_21 : decode cX6_isSuspended 21 = .ok (.iconst 1, 1) := by decide +kernel
theorem dX6_isSuspended_22 : decode cX6_isSuspended 22 = .ok (.goto 4, 3) := by decide +kernel
theorem dX6_isSuspended_25 : decode cX6_isSuspended 25 = .ok (.iconst 0, 1) := by decide +kernel
theorem dX6_isSuspended_26 : decode cX6_isSuspended 26 = .ok (.ireturn, 1) := by decide +kernel
theorem dX6_isGroundToday_0 : decode cX6_isGroundToday 0 = .ok (.iconst 0, 1) := by decide +kernel
theorem dX6_isGroundToday_1 : decode cX6_isGroundToday 1 = .ok (.istore_n 3, 1) := by decide +kernel
theorem dX6_isGroundToday_2 : decode cX6_isGroundToday 2 = .ok (.iload_n 3, 1) := by decide +kernel
theorem dX6_isGroundToday_3 : decode cX6_isGroundToday 3 = .ok (.aload_n 0, 1) := by decide +kernel
theorem dX6_isGroundToday_4 : decode cX6_isGroundToday 4 = .ok (.getfield 16, 3) := by decide +kernel
theorem dX6_isGroundToday_7 : decode cX6_isGroundToday 7 = .ok (.invokevirtual 58, 3) := by decide +kernel
theorem dX6_isGroundToday_10 : decode cX6_isGroundToday 10 = .ok (.if_icmp .ge 46, 3) := by decide +kernel
theorem dX6_isGroundToday_13 : decode cX6_isGroundToday 13 = .ok (.aload_n 0, 1) := by decide +kernel
theorem dX6_isGroundToday_14 : decode cX6_isGroundToday 14 = .ok (.getfield 16, 3) := by decide +kernel
theorem dX6_isGroundToday_17 : decode cX6_isGroundToday 17 = .ok (.iload_n 3, 1) := by decide +kernel
theorem dX6_isGroundToday_18 : decode cX6_isGroundToday 18 = .ok (.invokevirtual 224, 3) := by decide +kernel
theorem dX6_isGroundToday_21 : decode cX6_isGroundToday 21 = .ok (.checkcast 101, 3) := by decide +kernel
theorem dX6_isGroundToday_24 : decode cX6_isGroundToday 24 = .ok (.astore 4, 2) := by decide +kernel
theorem dX6_isGroundToday_26 : decode cX6_isGroundToday 26 = .ok (.aload 4, 2) := by decide +kernel
theorem dX6_isGroundToday_28 : decode cX6_isGroundToday 28 = .ok (.getfield 329, 3) := by decide +kernel
theorem dX6_isGroundToday_31 : decode cX6_isGroundToday 31 = .ok (.iload_n 2, 1) := by decide +kernel
theorem dX6_isGroundToday_32 : decode cX6_isGroundToday 32 = .ok (.if_icmp .ne 18, 3) := by decide +kernel
theorem dX6_isGroundToday_35 : decode cX6_isGroundToday 35 = .ok (.aload 4, 2) := by decide +kernel
theorem dX6_isGroundToday_37 : decode cX6_isGroundToday 37 = .ok (.aload_n 1, 1) := by decide +kernel
theorem dX6_isGroundToday_38 : decode cX6_isGroundToday 38 = .ok (.aload_n 0, 1) := by decide +kernel
theorem dX6_isGroundToday_39 : decode cX6_isGroundToday 39 = .ok (.getfield 30, 3) := by decide +kernel
theorem dX6_isGroundToday_42 : decode cX6_isGroundToday 42 = .ok (.invokevirtual 332, 3) := by decide +kernel
theorem dX6_isGroundToday_45 : decode cX6_isGroundToday 45 = .ok (.ifCond .eq 5, 3) := by decide +kernel
theorem dX6_isGroundToday_48 : decode cX6_isGroundToday 48 = .ok (.iconst 1, 1) := by decide +kernel
theorem dX6_isGroundToday_49 : decode cX6_isGroundToday 49 = .ok (.ireturn, 1) := by decide +kernel
theorem dX6_isGroundToday_50 : decode cX6_isGroundToday 50 = .ok (.iinc 3 1, 3) := by decide +kernel
theorem dX6_isGroundToday_53 : decode cX6_isGroundToday 53 = .ok (.goto (-51), 3) := by decide +kernel
theorem dX6_isGroundToday_56 : decode cX6_isGroundToday 56 = .ok (.iconst 0, 1) := by decide +kernel
theorem dX6_isGroundToday_57 : decode cX6_isGroundToday 57 = .ok (.ireturn, 1) := by decide +kernel
theorem dX6_hangsOn_0 : decode cX6_hangsOn 0 = .ok (.iload_n 0, 1) := by decide +kernel
theorem dX6_hangsOn_1 : decode cX6_hangsOn 1 = .ok (.tableswitch 33 1 3 #[27, 31, 29], 27) := by decide +kernel
theorem dX6_hangsOn_28 : decode cX6_hangsOn 28 = .ok (.iconst 0, 1) := by decide +kernel
theorem dX6_hangsOn_29 : decode cX6_hangsOn 29 = .ok (.ireturn, 1) := by decide +kernel
theorem dX6_hangsOn_30 : decode cX6_hangsOn 30 = .ok (.iconst 0, 1) := by decide +kernel
theorem dX6_hangsOn_31 : decode cX6_hangsOn 31 = .ok (.ireturn, 1) := by decide +kernel
theorem dX6_hangsOn_32 : decode cX6_hangsOn 32 = .ok (.iconst 1, 1) := by decide +kernel
theorem dX6_hangsOn_33 : decode cX6_hangsOn 33 = .ok (.ireturn, 1) := by decide +kernel
theorem dX6_hangsOn_34 : decode cX6_hangsOn 34 = .ok (.iconst (-1), 1) := by decide +kernel
theorem dX6_hangsOn_35 : decode cX6_hangsOn 35 = .ok (.ireturn, 1) := by decide +kernel
theorem dX6_familiesNotGood_0 : decode cX6_familiesNotGood 0 = .ok (.iconst 0, 1) := by decide +kernel
theorem dX6_familiesNotGood_1 : decode cX6_familiesNotGood 1 = .ok (.istore_n 2, 1) := by decide +kernel
theorem dX6_familiesNotGood_2 : decode cX6_familiesNotGood 2 = .ok (.iconst 0, 1) := by decide +kernel
theorem dX6_familiesNotGood_3 : decode cX6_familiesNotGood 3 = .ok (.istore_n 3, 1) := by decide +kernel
theorem dX6_familiesNotGood_4 : decode cX6_familiesNotGood 4 = .ok (.iload_n 3, 1) := by decide +kernel
theorem dX6_familiesNotGood_5 : decode cX6_familiesNotGood 5 = .ok (.aload_n 1, 1) := by decide +kernel
theorem dX6_familiesNotGood_6 : decode cX6_familiesNotGood 6 = .ok (.getfield 106, 3) := by decide +kernel
theorem dX6_familiesNotGood_9 : decode cX6_familiesNotGood 9 = .ok (.arraylength, 1) := by decide +kernel
theorem dX6_familiesNotGood_10 : decode cX6_familiesNotGood 10 = .ok (.if_icmp .ge 63, 3) := by decide +kernel
theorem dX6_familiesNotGood_13 : decode cX6_familiesNotGood 13 = .ok (.aload_n 1, 1) := by decide +kernel
theorem dX6_familiesNotGood_14 : decode cX6_familiesNotGood 14 = .ok (.getfield 106, 3) := by decide +kernel
theorem dX6_familiesNotGood_17 : decode cX6_familiesNotGood 17 = .ok (.iload_n 3, 1) := by decide +kernel
theorem dX6_familiesNotGood_18 : decode cX6_familiesNotGood 18 = .ok (.aaload, 1) := by decide +kernel
theorem dX6_familiesNotGood_19 : decode cX6_familiesNotGood 19 = .ok (.astore 4, 2) := by decide +kernel
theorem dX6_familiesNotGood_21 : decode cX6_familiesNotGood 21 = .ok (.aload 4, 2) := by decide +kernel
theorem dX6_familiesNotGood_23 : decode cX6_familiesNotGood 23 = .ok (.ifnull 38, 3) := by decide +kernel
theorem dX6_familiesNotGood_26 : decode cX6_familiesNotGood 26 = .ok (.aload 4, 2) := by decide +kernel
theorem dX6_familiesNotGood_28 : decode cX6_familiesNotGood 28 = .ok (.aload_n 0, 1) := by decide +kernel
theorem dX6_familiesNotGood_29 : decode cX6_familiesNotGood 29 = .ok (.getfield 30, 3) := by decide +kernel
theorem dX6_familiesNotGood_32 : decode cX6_familiesNotGood 32 = .ok (.invokevirtual 335, 3) := by decide +kernel
theorem dX6_familiesNotGood_35 : decode cX6_familiesNotGood 35 = .ok (.ifCond .ne 26, 3) := by decide +kernel
theorem dX6_familiesNotGood_38 : decode cX6_familiesNotGood 38 = .ok (.aload_n 0, 1) := by decide +kernel
theorem dX6_familiesNotGood_39 : decode cX6_familiesNotGood 39 = .ok (.aload 4, 2) := by decide +kernel
theorem dX6_familiesNotGood_41 : decode cX6_familiesNotGood 41 = .ok (.getfield 338, 3) := by decide +kernel
theorem dX6_familiesNotGood_44 : decode cX6_familiesNotGood 44 = .ok (.invokevirtual 112, 3) := by decide +kernel
theorem dX6_familiesNotGood_47 : decode cX6_familiesNotGood 47 = .ok (.ifCond .ne 14, 3) := by decide +kernel
theorem dX6_familiesNotGood_50 : decode cX6_familiesNotGood 50 = .ok (.iload_n 3, 1) := by decide +kernel
theorem dX6_familiesNotGood_51 : decode cX6_familiesNotGood 51 = .ok (.invokestatic 116, 3) := by decide +kernel
theorem dX6_familiesNotGood_54 : decode cX6_familiesNotGood 54 = .ok (.iload_n 2, 1) := by decide +kernel
theorem dX6_familiesNotGood_55 : decode cX6_familiesNotGood 55 = .ok (.invokestatic 124, 3) := by decide +kernel
theorem dX6_familiesNotGood_58 : decode cX6_familiesNotGood 58 = .ok (.ifCond .eq 9, 3) := by decide +kernel
theorem dX6_familiesNotGood_61 : decode cX6_familiesNotGood 61 = .ok (.iload_n 2, 1) := by decide +kernel
theorem dX6_familiesNotGood_62 : decode cX6_familiesNotGood 62 = .ok (.iconst 1, 1) := by decide +kernel
theorem dX6_familiesNotGood_63 : decode cX6_familiesNotGood 63 = .ok (.iload_n 3, 1) := by decide +kernel
theorem dX6_familiesNotGood_64 : decode cX6_familiesNotGood 64 = .ok (.ishl, 1) := by decide +kernel
theorem dX6_familiesNotGood_65 : decode cX6_familiesNotGood 65 = .ok (.ior, 1) := by decide +kernel
theorem dX6_familiesNotGood_66 : decode cX6_familiesNotGood 66 = .ok (.istore_n 2, 1) := by decide +kernel
theorem dX6_familiesNotGood_67 : decode cX6_familiesNotGood 67 = .ok (.iinc 3 1, 3) := by decide +kernel
theorem dX6_familiesNotGood_70 : decode cX6_familiesNotGood 70 = .ok (.goto (-66), 3) := by decide +kernel
theorem dX6_familiesNotGood_73 : decode cX6_familiesNotGood 73 = .ok (.iload_n 2, 1) := by decide +kernel
theorem dX6_familiesNotGood_74 : decode cX6_familiesNotGood 74 = .ok (.ireturn, 1) := by decide +kernel
theorem dX6_pointsOf_0 : decode cX6_pointsOf 0 = .ok (.iconst 0, 1) := by decide +kernel
theorem dX6_pointsOf_1 : decode cX6_pointsOf 1 = .ok (.istore_n 2, 1) := by decide +kernel
theorem dX6_pointsOf_2 : decode cX6_pointsOf 2 = .ok (.iconst 0, 1) := by decide +kernel
theorem dX6_pointsOf_3 : decode cX6_pointsOf 3 = .ok (.istore_n 3, 1) := by decide +kernel
theorem dX6_pointsOf_4 : decode cX6_pointsOf 4 = .ok (.iload_n 3, 1) := by decide +kernel
theorem dX6_pointsOf_5 : decode cX6_pointsOf 5 = .ok (.aload_n 0, 1) := by decide +kernel
theorem dX6_pointsOf_6 : decode cX6_pointsOf 6 = .ok (.getfield 19, 3) := by decide +kernel
theorem dX6_pointsOf_9 : decode cX6_pointsOf 9 = .ok (.invokevirtual 58, 3) := by decide +kernel
theorem dX6_pointsOf_12 : decode cX6_pointsOf 12 = .ok (.if_icmp .ge 57, 3) := by decide +kernel
theorem dX6_pointsOf_15 : decode cX6_pointsOf 15 = .ok (.aload_n 0, 1) := by decide +kernel
theorem dX6_pointsOf_16 : decode cX6_pointsOf 16 = .ok (.getfield 19, 3) := by decide +kernel
theorem dX6_pointsOf_19 : decode cX6_pointsOf 19 = .ok (.iload_n 3, 1) := by decide +kernel
theorem dX6_pointsOf_20 : decode cX6_pointsOf 20 = .ok (.invokevirtual 224, 3) := by decide +kernel
theorem dX6_pointsOf_23 : decode cX6_pointsOf 23 = .ok (.checkcast 179, 3) := by decide +kernel
theorem dX6_pointsOf_26 : decode cX6_pointsOf 26 = .ok (.astore 4, 2) := by decide +kernel
theorem dX6_pointsOf_28 : decode cX6_pointsOf 28 = .ok (.aload 4, 2) := by decide +kernel
theorem dX6_pointsOf_30 : decode cX6_pointsOf 30 = .ok (.getfield 201, 3) := by decide +kernel
theorem dX6_pointsOf_33 : decode cX6_pointsOf 33 = .ok (.aload_n 1, 1) := by decide +kernel
theorem dX6_pointsOf_34 : decode cX6_pointsOf 34 = .ok (.if_acmp .ne 29, 3) := by decide +kernel
theorem dX6_pointsOf_37 : decode cX6_pointsOf 37 = .ok (.aload_n 0, 1) := by decide +kernel
theorem dX6_pointsOf_38 : decode cX6_pointsOf 38 = .ok (.aload 4, 2) := by decide +kernel
theorem dX6_pointsOf_40 : decode cX6_pointsOf 40 = .ok (.getfield 309, 3) := by decide +kernel
theorem dX6_pointsOf_43 : decode cX6_pointsOf 43 = .ok (.invokevirtual 339, 3) := by decide +kernel
theorem dX6_pointsOf_46 : decode cX6_pointsOf 46 = .ok (.ifCond .eq 17, 3) := by decide +kernel
theorem dX6_pointsOf_49 : decode cX6_pointsOf 49 = .ok (.aload 4, 2) := by decide +kernel
theorem dX6_pointsOf_51 : decode cX6_pointsOf 51 = .ok (.getfield 209, 3) := by decide +kernel
theorem dX6_pointsOf_54 : decode cX6_pointsOf 54 = .ok (.invokevirtual 58, 3) := by decide +kernel
theorem dX6_pointsOf_57 : decode cX6_pointsOf 57 = .ok (.iconst 5, 1) := by decide +kernel
theorem dX6_pointsOf_58 : decode cX6_pointsOf 58 = .ok (.if_icmp .le 5, 3) := by decide +kernel
theorem dX6_pointsOf_61 : decode cX6_pointsOf 61 = .ok (.iconst 1, 1) := by decide +kernel
theorem dX6_pointsOf_62 : decode cX6_pointsOf 62 = .ok (.istore_n 2, 1) := by decide +kernel
theorem dX6_pointsOf_63 : decode cX6_pointsOf 63 = .ok (.iinc 3 1, 3) := by decide +kernel
theorem dX6_pointsOf_66 : decode cX6_pointsOf 66 = .ok (.goto (-62), 3) := by decide +kernel
theorem dX6_pointsOf_69 : decode cX6_pointsOf 69 = .ok (.aload_n 0, 1) := by decide +kernel
theorem dX6_pointsOf_70 : decode cX6_pointsOf 70 = .ok (.aload_n 1, 1) := by decide +kernel
theorem dX6_pointsOf_71 : decode cX6_pointsOf 71 = .ok (.getfield 342, 3) := by decide +kernel
theorem dX6_pointsOf_74 : decode cX6_pointsOf 74 = .ok (.aload_n 1, 1) := by decide +kernel
theorem dX6_pointsOf_75 : decode cX6_pointsOf 75 = .ok (.getfield 345, 3) := by decide +kernel
theorem dX6_pointsOf_78 : decode cX6_pointsOf 78 = .ok (.invokevirtual 348, 3) := by decide +kernel
theorem dX6_pointsOf_81 : decode cX6_pointsOf 81 = .ok (.aload_n 0, 1) := by decide +kernel
theorem dX6_pointsOf_82 : decode cX6_pointsOf 82 = .ok (.aload_n 1, 1) := by decide +kernel
theorem dX6_pointsOf_83 : decode cX6_pointsOf 83 = .ok (.getfield 86, 3) := by decide +kernel
theorem dX6_pointsOf_86 : decode cX6_pointsOf 86 = .ok (.aload_n 1, 1) := by decide +kernel
theorem dX6_pointsOf_87 : decode cX6_pointsOf 87 = .ok (.getfield 89, 3) := by decide +kernel
theorem dX6_pointsOf_90 : decode cX6_pointsOf 90 = .ok (.invokevirtual 352, 3) := by decide +kernel
theorem dX6_pointsOf_93 : decode cX6_pointsOf 93 = .ok (.iadd, 1) := by decide +kernel
theorem dX6_pointsOf_94 : decode cX6_pointsOf 94 = .ok (.iload_n 2, 1) := by decide +kernel
theorem dX6_pointsOf_95 : decode cX6_pointsOf 95 = .ok (.aload_n 0, 1) := by decide +kernel
theorem dX6_pointsOf_96 : decode cX6_pointsOf 96 = .ok (.aload_n 1, 1) := by decide +kernel
theorem dX6_pointsOf_97 : decode cX6_pointsOf 97 = .ok (.invokevirtual 261, 3) := by decide +kernel
theorem dX6_pointsOf_100 : decode cX6_pointsOf 100 = .ok (.invokestatic 355, 3) := by decide +kernel
theorem dX6_pointsOf_103 : decode cX6_pointsOf 103 = .ok (.iadd, 1) := by decide +kernel
theorem dX6_pointsOf_104 : decode cX6_pointsOf 104 = .ok (.ireturn, 1) := by decide +kernel
theorem dX6_pointsByFile_0 : decode cX6_pointsByFile 0 = .ok (.iconst 0, 1) := by decide +kernel
theorem dX6_pointsByFile_1 : decode cX6_pointsByFile 1 = .ok (.istore_n 2, 1) := by decide +kernel
theorem dX6_pointsByFile_2 : decode cX6_pointsByFile 2 = .ok (.iconst 0, 1) := by decide +kernel
theorem dX6_pointsByFile_3 : decode cX6_pointsByFile 3 = .ok (.istore_n 3, 1) := by decide +kernel
theorem dX6_pointsByFile_4 : decode cX6_pointsByFile 4 = .ok (.iconst 0, 1) := by decide +kernel
theorem dX6_pointsByFile_5 : decode cX6_pointsByFile 5 = .ok (.istore 4, 2) := by decide +kernel
theorem dX6_pointsByFile_7 : decode cX6_pointsByFile 7 = .ok (.iconst 0, 1) := by decide +kernel
theorem dX6_pointsByFile_8 : decode cX6_pointsByFile 8 = .ok (.istore 5, 2) := by decide +kernel
theorem dX6_pointsByFile_10 : decode cX6_pointsByFile 10 = .ok (.iconst 0, 1) := by decide +kernel
theorem dX6_pointsByFile_11 : decode cX6_pointsByFile 11 = .ok (.istore 6, 2) := by decide +kernel
theorem dX6_pointsByFile_13 : decode cX6_pointsByFile 13 = .ok (.iload 6, 2) := by decide +kernel
theorem dX6_pointsByFile_15 : decode cX6_pointsByFile 15 = .ok (.aload_n 1, 1) := by decide +kernel
theorem dX6_pointsByFile_16 : decode cX6_pointsByFile 16 = .ok (.invokevirtual 58, 3) := by decide +kernel
theorem dX6_pointsByFile_19 : decode cX6_pointsByFile 19 = .ok (.if_icmp .ge 142, 3) := by decide +kernel
theorem dX6_pointsByFile_22 : decode cX6_pointsByFile 22 = .ok (.aload_n 1, 1) := by decide +kernel
theorem dX6_pointsByFile_23 : decode cX6_pointsByFile 23 = .ok (.iload 6, 2) := by decide +kernel
theorem dX6_pointsByFile_25 : decode cX6_pointsByFile 25 = .ok (.invokevirtual 224, 3) := by decide +kernel
theorem dX6_pointsByFile_28 : decode cX6_pointsByFile 28 = .ok (.checkcast 69, 3) := by decide +kernel
theorem dX6_pointsByFile_31 : decode cX6_pointsByFile 31 = .ok (.astore 7, 2) := by decide +kernel
theorem dX6_pointsByFile_33 : decode cX6_pointsByFile 33 = .ok (.aload 7, 2) := by decide +kernel
theorem dX6_pointsByFile_35 : decode cX6_pointsByFile 35 = .ok (.getfield 359, 3) := by decide +kernel
theorem dX6_pointsByFile_38 : decode cX6_pointsByFile 38 = .ok (.ifCond .ne 21, 3) := by decide +kernel
theorem dX6_pointsByFile_41 : decode cX6_pointsByFile 41 = .ok (.aload_n 0, 1) := by decide +kernel
theorem dX6_pointsByFile_42 : decode cX6_pointsByFile 42 = .ok (.aload 7, 2) := by decide +kernel
theorem dX6_pointsByFile_44 : decode cX6_pointsByFile 44 = .ok (.getfield 362, 3) := by decide +kernel
theorem dX6_pointsByFile_47 : decode cX6_pointsByFile 47 = .ok (.aload 7, 2) := by decide +kernel
theorem dX6_pointsByFile_49 : decode cX6_pointsByFile 49 = .ok (.getfield 365, 3) := by decide +kernel
theorem dX6_pointsByFile_52 : decode cX6_pointsByFile 52 = .ok (.invokevirtual 348, 3) := by decide +kernel
theorem dX6_pointsByFile_55 : decode cX6_pointsByFile 55 = .ok (.istore_n 2, 1) := by decide +kernel
theorem dX6_pointsByFile_56 : decode cX6_pointsByFile 56 = .ok (.goto 99, 3) := by decide +kernel
theorem dX6_pointsByFile_59 : decode cX6_pointsByFile 59 = .ok (.aload 7, 2) := by decide +kernel
theorem dX6_pointsByFile_61 : decode cX6_pointsByFile 61 = .ok (.getfield 359, 3) := by decide +kernel
theorem dX6_pointsByFile_64 : decode cX6_pointsByFile 64 = .ok (.iconst 1, 1) := by decide +kernel
theorem dX6_pointsByFile_65 : decode cX6_pointsByFile 65 = .ok (.if_icmp .ne 21, 3) := by decide +kernel
theorem dX6_pointsByFile_68 : decode cX6_pointsByFile 68 = .ok (.aload_n 0, 1) := by decide +kernel
theorem dX6_pointsByFile_69 : decode cX6_pointsByFile 69 = .ok (.aload 7, 2) := by decide +kernel
theorem dX6_pointsByFile_71 : decode cX6_pointsByFile 71 = .ok (.getfield 362, 3) := by decide +kernel
theorem dX6_pointsByFile_74 : decode cX6_pointsByFile 74 = .ok (.aload 7, 2) := by decide +kernel
theorem dX6_pointsByFile_76 : decode cX6_pointsByFile 76 = .ok (.getfield 365, 3) := by decide +kernel
theorem dX6_pointsByFile_79 : decode cX6_pointsByFile 79 = .ok (.invokevirtual 352, 3) := by decide +kernel
theorem dX6_pointsByFile_82 : decode cX6_pointsByFile 82 = .ok (.istore_n 3, 1) := by decide +kernel
theorem dX6_pointsByFile_83 : decode cX6_pointsByFile 83 = .ok (.goto 72, 3) := by decide +kernel
theorem dX6_pointsByFile_86 : decode cX6_pointsByFile 86 = .ok (.aload 7, 2) := by decide +kernel
theorem dX6_pointsByFile_88 : decode cX6_pointsByFile 88 = .ok (.getfield 359, 3) := by decide +kernel
theorem dX6_pointsByFile_91 : decode cX6_pointsByFile 91 = .ok (.iconst 2, 1) := by decide +kernel
theorem dX6_pointsByFile_92 : decode cX6_pointsByFile 92 = .ok (.if_icmp .ne 63, 3) := by decide +kernel
theorem dX6_pointsByFile_95 : decode cX6_pointsByFile 95 = .ok (.aload_n 0, 1) := by decide +kernel
theorem dX6_pointsByFile_96 : decode cX6_pointsByFile 96 = .ok (.aload 7, 2) := by decide +kernel
theorem dX6_pointsByFile_98 : decode cX6_pointsByFile 98 = .ok (.getfield 362, 3) := by decide +kernel
theorem dX6_pointsByFile_101 : decode cX6_pointsByFile 101 = .ok (.invokevirtual 339, 3) := by decide +kernel
theorem dX6_pointsByFile_104 : decode cX6_pointsByFile 104 = .ok (.ifCond .eq 51, 3) := by decide +kernel
theorem dX6_pointsByFile_107 : decode cX6_pointsByFile 107 = .ok (.iload 5, 2) := by decide +kernel
theorem dX6_pointsByFile_109 : decode cX6_pointsByFile 109 = .ok (.ifCond .ne 17, 3) := by decide +kernel
theorem dX6_pointsByFile_112 : decode cX6_pointsByFile 112 = .ok (.aload_n 1, 1) := by decide +kernel
theorem dX6_pointsByFile_113 : decode cX6_pointsByFile 113 = .ok (.iconst 3, 1) := by decide +kernel
theorem dX6_pointsByFile_114 : decode cX6_pointsByFile 114 = .ok (.aload 7, 2) := by decide +kernel
theorem dX6_pointsByFile_116 : decode cX6_pointsByFile 116 = .ok (.getfield 368, 3) := by decide +kernel
theorem dX6_pointsByFile_119 : decode cX6_pointsByFile 119 = .ok (.invokestatic 371, 3) := by decide +kernel
theorem dX6_pointsByFile_122 : decode cX6_pointsByFile 122 = .ok (.iconst 5, 1) := by decide +kernel
theorem dX6_pointsByFile_123 : decode cX6_pointsByFile 123 = .ok (.if_icmp .le 7, 3) := by decide +kernel
theorem dX6_pointsByFile_126 : decode cX6_pointsByFile 126 = .ok (.iconst 1, 1) := by decide +kernel
theorem dX6_pointsByFile_127 : decode cX6_pointsByFile 127 = .ok (.goto 4, 3) := by decide +kernel
theorem dX6_pointsByFile_130 : decode cX6_pointsByFile 130 = .ok (.iconst 0, 1) := by decide +kernel
theorem dX6_pointsByFile_131 : decode cX6_pointsByFile 131 = .ok (.istore 5, 2) := by decide +kernel
theorem dX6_pointsByFile_133 : decode cX6_pointsByFile 133 = .ok (.iload 4, 2) := by decide +kernel
theorem dX6_pointsByFile_135 : decode cX6_pointsByFile 135 = .ok (.aload_n 1, 1) := by decide +kernel
theorem dX6_pointsByFile_136 : decode cX6_pointsByFile 136 = .ok (.aload 7, 2) := by decide +kernel
theorem dX6_pointsByFile_138 : decode cX6_pointsByFile 138 = .ok (.getfield 368, 3) := by decide +kernel
theorem dX6_pointsByFile_141 : decode cX6_pointsByFile 141 = .ok (.invokestatic 375, 3) := by decide +kernel
theorem dX6_pointsByFile_144 : decode cX6_pointsByFile 144 = .ok (.ifCond .eq 7, 3) := by decide +kernel
theorem dX6_pointsByFile_147 : decode cX6_pointsByFile 147 = .ok (.iconst 1, 1) := by decide +kernel
theorem dX6_pointsByFile_148 : decode cX6_pointsByFile 148 = .ok (.goto 4, 3) := by decide +kernel
theorem dX6_pointsByFile_151 : decode cX6_pointsByFile 151 = .ok (.iconst 0, 1) := by decide +kernel
theorem dX6_pointsByFile_152 : decode cX6_pointsByFile 152 = .ok (.iadd, 1) := by decide +kernel
theorem dX6_pointsByFile_153 : decode cX6_pointsByFile 153 = .ok (.istore 4, 2) := by decide +kernel
theorem dX6_pointsByFile_155 : decode cX6_pointsByFile 155 = .ok (.iinc 6 1, 3) := by decide +kernel
theorem dX6_pointsByFile_158 : decode cX6_pointsByFile 158 = .ok (.goto (-145), 3) := by decide +kernel
theorem dX6_pointsByFile_161 : decode cX6_pointsByFile 161 = .ok (.iload_n 2, 1) := by decide +kernel
theorem dX6_pointsByFile_162 : decode cX6_pointsByFile 162 = .ok (.iload_n 3, 1) := by decide +kernel
theorem dX6_pointsByFile_163 : decode cX6_pointsByFile 163 = .ok (.iadd, 1) := by decide +kernel
theorem dX6_pointsByFile_164 : decode cX6_pointsByFile 164 = .ok (.iload 5, 2) := by decide +kernel
theorem dX6_pointsByFile_166 : decode cX6_pointsByFile 166 = .ok (.iload 4, 2) := by decide +kernel
theorem dX6_pointsByFile_168 : decode cX6_pointsByFile 168 = .ok (.invokestatic 355, 3) := by decide +kernel
theorem dX6_pointsByFile_171 : decode cX6_pointsByFile 171 = .ok (.iadd, 1) := by decide +kernel
theorem dX6_pointsByFile_172 : decode cX6_pointsByFile 172 = .ok (.ireturn, 1) := by decide +kernel
theorem dX6_countsByFile_0 : decode cX6_countsByFile 0 = .ok (.aload_n 0, 1) := by decide +kernel
theorem dX6_countsByFile_1 : decode cX6_countsByFile 1 = .ok (.iconst 4, 1) := by decide +kernel
theorem dX6_countsByFile_2 : decode cX6_countsByFile 2 = .ok (.iload_n 1, 1) := by decide +kernel
theorem dX6_countsByFile_3 : decode cX6_countsByFile 3 = .ok (.invokestatic 371, 3) := by decide +kernel
theorem dX6_countsByFile_6 : decode cX6_countsByFile 6 = .ok (.ifCond .le 17, 3) := by decide +kernel
theorem dX6_countsByFile_9 : decode cX6_countsByFile 9 = .ok (.aload_n 0, 1) := by decide +kernel
theorem dX6_countsByFile_10 : decode cX6_countsByFile 10 = .ok (.iconst 5, 1) := by decide +kernel
theorem dX6_countsByFile_11 : decode cX6_countsByFile 11 = .ok (.iload_n 1, 1) := by decide +kernel
theorem dX6_countsByFile_12 : decode cX6_countsByFile 12 = .ok (.invokestatic 371, 3) := by decide +kernel
theorem dX6_countsByFile_15 : decode cX6_countsByFile 15 = .ok (.iconst 2, 1) := by decide +kernel
theorem dX6_countsByFile_16 : decode cX6_countsByFile 16 = .ok (.if_icmp .ge 7, 3) := by decide +kernel
theorem dX6_countsByFile_19 : decode cX6_countsByFile 19 = .ok (.iconst 1, 1) := by decide +kernel
theorem dX6_countsByFile_20 : decode cX6_countsByFile 20 = .ok (.goto 4, 3) := by decide +kernel
theorem dX6_countsByFile_23 : decode cX6_countsByFile 23 = .ok (.iconst 0, 1) := by decide +kernel
theorem dX6_countsByFile_24 : decode cX6_countsByFile 24 = .ok (.ireturn, 1) := by decide +kernel
theorem dX6_notesOf_0 : decode cX6_notesOf 0 = .ok (.iconst 0, 1) := by decide +kernel
theorem dX6_notesOf_1 : decode cX6_notesOf 1 = .ok (.istore_n 3, 1) := by decide +kernel
theorem dX6_notesOf_2 : decode cX6_notesOf 2 = .ok (.iconst 0, 1) := by decide +kernel
theorem dX6_notesOf_3 : decode cX6_notesOf 3 = .ok (.istore 4, 2) := by decide +kernel
theorem dX6_notesOf_5 : decode cX6_notesOf 5 = .ok (.iload 4, 2) := by decide +kernel
theorem dX6_notesOf_7 : decode cX6_notesOf 7 = .ok (.aload_n 0, 1) := by decide +kernel
theorem dX6_notesOf_8 : decode cX6_notesOf 8 = .ok (.invokevirtual 58, 3) := by decide +kernel
theorem dX6_notesOf_11 : decode cX6_notesOf 11 = .ok (.if_icmp .ge 41, 3) := by decide +kernel
theorem dX6_notesOf_14 : decode cX6_notesOf 14 = .ok (.aload_n 0, 1) := by decide +kernel
theorem dX6_notesOf_15 : decode cX6_notesOf 15 = .ok (.iload 4, 2) := by decide +kernel
theorem dX6_notesOf_17 : decode cX6_notesOf 17 = .ok (.invokevirtual 224, 3) := by decide +kernel
theorem dX6_notesOf_20 : decode cX6_notesOf 20 = .ok (.checkcast 69, 3) := by decide +kernel
theorem dX6_notesOf_23 : decode cX6_notesOf 23 = .ok (.astore 5, 2) := by decide +kernel
theorem dX6_notesOf_25 : decode cX6_notesOf 25 = .ok (.aload 5, 2) := by decide +kernel
theorem dX6_notesOf_27 : decode cX6_notesOf 27 = .ok (.getfield 359, 3) := by decide +kernel
theorem dX6_notesOf_30 : decode cX6_notesOf 30 = .ok (.iload_n 1, 1) := by decide +kernel
theorem dX6_notesOf_31 : decode cX6_notesOf 31 = .ok (.if_icmp .ne 15, 3) := by decide +kernel
theorem dX6_notesOf_34 : decode cX6_notesOf 34 = .ok (.aload 5, 2) := by decide +kernel
theorem dX6_notesOf_36 : decode cX6_notesOf 36 = .ok (.getfield 368, 3) := by decide +kernel
theorem dX6_notesOf_39 : decode cX6_notesOf 39 = .ok (.iload_n 2, 1) := by decide +kernel
theorem dX6_notesOf_40 : decode cX6_notesOf 40 = .ok (.if_icmp .ne 6, 3) := by decide +kernel
theorem dX6_notesOf_43 : decode cX6_notesOf 43 = .ok (.iinc 3 1, 3) := by decide +kernel
theorem dX6_notesOf_46 : decode cX6_notesOf 46 = .ok (.iinc 4 1, 3) := by decide +kernel
theorem dX6_notesOf_49 : decode cX6_notesOf 49 = .ok (.goto (-44), 3) := by decide +kernel
theorem dX6_notesOf_52 : decode cX6_notesOf 52 = .ok (.iload_n 3, 1) := by decide +kernel
theorem dX6_notesOf_53 : decode cX6_notesOf 53 = .ok (.ireturn, 1) := by decide +kernel
theorem dX6_pointsOfMake_0 : decode cX6_pointsOfMake 0 = .ok (.iload_n 2, 1) := by decide +kernel
theorem dX6_pointsOfMake_1 : decode cX6_pointsOfMake 1 = .ok (.iconst 2, 1) := by decide +kernel
theorem dX6_pointsOfMake_2 : decode cX6_pointsOfMake 2 = .ok (.if_icmp .ne 7, 3) := by decide +kernel
theorem dX6_pointsOfMake_5 : decode cX6_pointsOfMake 5 = .ok (.iconst 2, 1) := by decide +kernel
theorem dX6_pointsOfMake_6 : decode cX6_pointsOfMake 6 = .ok (.goto 13, 3) := by decide +kernel
theorem dX6_pointsOfMake_9 : decode cX6_pointsOfMake 9 = .ok (.iload_n 2, 1) := by decide +kernel
theorem dX6_pointsOfMake_10 : decode cX6_pointsOfMake 10 = .ok (.iconst 1, 1) := by decide +kernel
theorem dX6_pointsOfMake_11 : decode cX6_pointsOfMake 11 = .ok (.if_icmp .ne 7, 3) := by decide +kernel
theorem dX6_pointsOfMake_14 : decode cX6_pointsOfMake 14 = .ok (.iconst 1, 1) := by decide +kernel
theorem dX6_pointsOfMake_15 : decode cX6_pointsOfMake 15 = .ok (.goto 4, 3) := by decide +kernel
theorem dX6_pointsOfMake_18 : decode cX6_pointsOfMake 18 = .ok (.iconst 0, 1) := by decide +kernel
theorem dX6_pointsOfMake_19 : decode cX6_pointsOfMake 19 = .ok (.istore_n 3, 1) := by decide +kernel
theorem dX6_pointsOfMake_20 : decode cX6_pointsOfMake 20 = .ok (.aload_n 0, 1) := by decide +kernel
theorem dX6_pointsOfMake_21 : decode cX6_pointsOfMake 21 = .ok (.iload_n 1, 1) := by decide +kernel
theorem dX6_pointsOfMake_22 : decode cX6_pointsOfMake 22 = .ok (.invokevirtual 379, 3) := by decide +kernel
theorem dX6_pointsOfMake_25 : decode cX6_pointsOfMake 25 = .ok (.ifCond .eq 7, 3) := by decide +kernel
theorem dX6_pointsOfMake_28 : decode cX6_pointsOfMake 28 = .ok (.iconst 1, 1) := by decide +kernel
theorem dX6_pointsOfMake_29 : decode cX6_pointsOfMake 29 = .ok (.goto 4, 3) := by decide +kernel
theorem dX6_pointsOfMake_32 : decode cX6_pointsOfMake 32 = .ok (.iconst 0, 1) := by decide +kernel
theorem dX6_pointsOfMake_33 : decode cX6_pointsOfMake 33 = .ok (.iload_n 3, 1) := by decide +kernel
theorem dX6_pointsOfMake_34 : decode cX6_pointsOfMake 34 = .ok (.iadd, 1) := by decide +kernel
theorem dX6_pointsOfMake_35 : decode cX6_pointsOfMake 35 = .ok (.ireturn, 1) := by decide +kernel
theorem dX6_pointsOfBelonging_0 : decode cX6_pointsOfBelonging 0 = .ok (.aload_n 0, 1) := by decide +kernel
theorem dX6_pointsOfBelonging_1 : decode cX6_pointsOfBelonging 1 = .ok (.iload_n 1, 1) := by decide +kernel
theorem dX6_pointsOfBelonging_2 : decode cX6_pointsOfBelonging 2 = .ok (.invokevirtual 317, 3) := by decide +kernel
theorem dX6_pointsOfBelonging_5 : decode cX6_pointsOfBelonging 5 = .ok (.istore_n 3, 1) := by decide +kernel
theorem dX6_pointsOfBelonging_6 : decode cX6_pointsOfBelonging 6 = .ok (.iload_n 3, 1) := by decide +kernel
theorem dX6_pointsOfBelonging_7 : decode cX6_pointsOfBelonging 7 = .ok (.iconst 3, 1) := by decide +kernel
theorem dX6_pointsOfBelonging_8 : decode cX6_pointsOfBelonging 8 = .ok (.if_icmp .ne 7, 3) := by decide +kernel
theorem dX6_pointsOfBelonging_11 : decode cX6_pointsOfBelonging 11 = .ok (.iconst 2, 1) := by decide +kernel
theorem dX6_pointsOfBelonging_12 : decode cX6_pointsOfBelonging 12 = .ok (.goto 13, 3) := by decide +kernel
theorem dX6_pointsOfBelonging_15 : decode cX6_pointsOfBelonging 15 = .ok (.iload_n 3, 1) := by decide +kernel
theorem dX6_pointsOfBelonging_16 : decode cX6_pointsOfBelonging 16 = .ok (.iconst 2, 1) := by decide +kernel
theorem dX6_pointsOfBelonging_17 : decode cX6_pointsOfBelonging 17 = .ok (.if_icmp .ne 7, 3) := by decide +kernel
theorem dX6_pointsOfBelonging_20 : decode cX6_pointsOfBelonging 20 = .ok (.iconst 1, 1) := by decide +kernel
theorem dX6_pointsOfBelonging_21 : decode cX6_pointsOfBelonging 21 = .ok (.goto 4, 3) := by decide +kernel
theorem dX6_pointsOfBelonging_24 : decode cX6_pointsOfBelonging 24 = .ok (.iconst 0, 1) := by decide +kernel
theorem dX6_pointsOfBelonging_25 : decode cX6_pointsOfBelonging 25 = .ok (.istore 4, 2) := by decide +kernel
theorem dX6_pointsOfBelonging_27 : decode cX6_pointsOfBelonging 27 = .ok (.iload 4, 2) := by decide +kernel
theorem dX6_pointsOfBelonging_29 : decode cX6_pointsOfBelonging 29 = .ok (.aload_n 0, 1) := by decide +kernel
theorem dX6_pointsOfBelonging_30 : decode cX6_pointsOfBelonging 30 = .ok (.iload_n 2, 1) := by decide +kernel
theorem dX6_pointsOfBelonging_31 : decode cX6_pointsOfBelonging 31 = .ok (.invokevirtual 112, 3) := by decide +kernel
theorem dX6_pointsOfBelonging_34 : decode cX6_pointsOfBelonging 34 = .ok (.ifCond .eq 7, 3) := by decide +kernel
theorem dX6_pointsOfBelonging_37 : decode cX6_pointsOfBelonging 37 = .ok (.iconst 1, 1) := by decide +kernel
theorem dX6_pointsOfBelonging_38 : decode cX6_pointsOfBelonging 38 = .ok (.goto 4, 3) := by decide +kernel
theorem dX6_pointsOfBelonging_41 : decode cX6_pointsOfBelonging 41 = .ok (.iconst 0, 1) := by decide +kernel
theorem dX6_pointsOfBelonging_42 : decode cX6_pointsOfBelonging 42 = .ok (.iadd, 1) := by decide +kernel
theorem dX6_pointsOfBelonging_43 : decode cX6_pointsOfBelonging 43 = .ok (.ireturn, 1) := by decide +kernel
theorem dX6_pointsOfVisits_0 : decode cX6_pointsOfVisits 0 = .ok (.iload_n 0, 1) := by decide +kernel
theorem dX6_pointsOfVisits_1 : decode cX6_pointsOfVisits 1 = .ok (.ifCond .eq 7, 3) := by decide +kernel
theorem dX6_pointsOfVisits_4 : decode cX6_pointsOfVisits 4 = .ok (.iconst 1, 1) := by decide +kernel
theorem dX6_pointsOfVisits_5 : decode cX6_pointsOfVisits 5 = .ok (.goto 4, 3) := by decide +kernel
theorem dX6_pointsOfVisits_8 : decode cX6_pointsOfVisits 8 = .ok (.iconst 0, 1) := by decide +kernel
theorem dX6_pointsOfVisits_9 : decode cX6_pointsOfVisits 9 = .ok (.iload_n 1, 1) := by decide +kernel
theorem dX6_pointsOfVisits_10 : decode cX6_pointsOfVisits 10 = .ok (.iconst 2, 1) := by decide +kernel
theorem dX6_pointsOfVisits_11 : decode cX6_pointsOfVisits 11 = .ok (.invokestatic 382, 3) := by decide +kernel
theorem dX6_pointsOfVisits_14 : decode cX6_pointsOfVisits 14 = .ok (.iadd, 1) := by decide +kernel
theorem dX6_pointsOfVisits_15 : decode cX6_pointsOfVisits 15 = .ok (.ireturn, 1) := by decide +kernel
theorem dX6_isOld_0 : decode cX6_isOld 0 = .ok (.aload_n 0, 1) := by decide +kernel
theorem dX6_isOld_1 : decode cX6_isOld 1 = .ok (.getfield 30, 3) := by decide +kernel
theorem dX6_isOld_4 : decode cX6_isOld 4 = .ok (.iload_n 1, 1) := by decide +kernel
theorem dX6_isOld_5 : decode cX6_isOld 5 = .ok (.isub, 1) := by decide +kernel
theorem dX6_isOld_6 : decode cX6_isOld 6 = .ok (.sipush 4380, 3) := by decide +kernel
theorem dX6_isOld_9 : decode cX6_isOld 9 = .ok (.if_icmp .le 7, 3) := by decide +kernel
theorem dX6_isOld_12 : decode cX6_isOld 12 = .ok (.iconst 1, 1) := by decide +kernel
theorem dX6_isOld_13 : decode cX6_isOld 13 = .ok (.goto 4, 3) := by decide +kernel
theorem dX6_isOld_16 : decode cX6_isOld 16 = .ok (.iconst 0, 1) := by decide +kernel
theorem dX6_isOld_17 : decode cX6_isOld 17 = .ok (.ireturn, 1) := by decide +kernel
theorem dX6_riskOf_0 : decode cX6_riskOf 0 = .ok (.aload_n 0, 1) := by decide +kernel
theorem dX6_riskOf_1 : decode cX6_riskOf 1 = .ok (.aload_n 1, 1) := by decide +kernel
theorem dX6_riskOf_2 : decode cX6_riskOf 2 = .ok (.invokevirtual 293, 3) := by decide +kernel
theorem dX6_riskOf_5 : decode cX6_riskOf 5 = .ok (.istore_n 2, 1) := by decide +kernel
theorem dX6_riskOf_6 : decode cX6_riskOf 6 = .ok (.iload_n 2, 1) := by decide +kernel
theorem dX6_riskOf_7 : decode cX6_riskOf 7 = .ok (.iconst 5, 1) := by decide +kernel
theorem dX6_riskOf_8 : decode cX6_riskOf 8 = .ok (.if_icmp .lt 5, 3) := by decide +kernel
theorem dX6_riskOf_11 : decode cX6_riskOf 11 = .ok (.iconst 2, 1) := by decide +kernel
theorem dX6_riskOf_12 : decode cX6_riskOf 12 = .ok (.ireturn, 1) := by decide +kernel
theorem dX6_riskOf_13 : decode cX6_riskOf 13 = .ok (.iload_n 2, 1) := by decide +kernel
theorem dX6_riskOf_14 : decode cX6_riskOf 14 = .ok (.ifCond .ne 19, 3) := by decide +kernel
theorem dX6_riskOf_17 : decode cX6_riskOf 17 = .ok (.aload_n 0, 1) := by decide +kernel
theorem dX6_riskOf_18 : decode cX6_riskOf 18 = .ok (.aload_n 1, 1) := by decide +kernel
theorem dX6_riskOf_19 : decode cX6_riskOf 19 = .ok (.getfield 86, 3) := by decide +kernel
theorem dX6_riskOf_22 : decode cX6_riskOf 22 = .ok (.invokevirtual 317, 3) := by decide +kernel
theorem dX6_riskOf_25 : decode cX6_riskOf 25 = .ok (.iconst 1, 1) := by decide +kernel
theorem dX6_riskOf_26 : decode cX6_riskOf 26 = .ok (.if_icmp .ne 7, 3) := by decide +kernel
theorem dX6_riskOf_29 : decode cX6_riskOf 29 = .ok (.iconst 0, 1) := by decide +kernel
theorem dX6_riskOf_30 : decode cX6_riskOf 30 = .ok (.goto 4, 3) := by decide +kernel
theorem dX6_riskOf_33 : decode cX6_riskOf 33 = .ok (.iconst 1, 1) := by decide +kernel
theorem dX6_riskOf_34 : decode cX6_riskOf 34 = .ok (.ireturn, 1) := by decide +kernel
theorem dX6_priorityOf_0 : decode cX6_priorityOf 0 = .ok (.aload_n 1, 1) := by decide +kernel
theorem dX6_priorityOf_1 : decode cX6_priorityOf 1 = .ok (.getfield 187, 3) := by decide +kernel
theorem dX6_priorityOf_4 : decode cX6_priorityOf 4 = .ok (.astore_n 2, 1) := by decide +kernel
theorem dX6_priorityOf_5 : decode cX6_priorityOf 5 = .ok (.aload_n 2, 1) := by decide +kernel
theorem dX6_priorityOf_6 : decode cX6_priorityOf 6 = .ok (.ifnonnull 5, 3) := by decide +kernel
theorem dX6_priorityOf_9 : decode cX6_priorityOf 9 = .ok (.iconst 2, 1) := by decide +kernel
theorem dX6_priorityOf_10 : decode cX6_priorityOf 10 = .ok (.ireturn, 1) := by decide +kernel
theorem dX6_priorityOf_11 : decode cX6_priorityOf 11 = .ok (.aload_n 0, 1) := by decide +kernel
theorem dX6_priorityOf_12 : decode cX6_priorityOf 12 = .ok (.getfield 30, 3) := by decide +kernel
theorem dX6_priorityOf_15 : decode cX6_priorityOf 15 = .ok (.aload_n 2, 1) := by decide +kernel
theorem dX6_priorityOf_16 : decode cX6_priorityOf 16 = .ok (.getfield 309, 3) := by decide +kernel
theorem dX6_priorityOf_19 : decode cX6_priorityOf 19 = .ok (.isub, 1) := by decide +kernel
theorem dX6_priorityOf_20 : decode cX6_priorityOf 20 = .ok (.istore_n 3, 1) := by decide +kernel
theorem dX6_priorityOf_21 : decode cX6_priorityOf 21 = .ok (.aload_n 0, 1) := by decide +kernel
theorem dX6_priorityOf_22 : decode cX6_priorityOf 22 = .ok (.aload_n 1, 1) := by decide +kernel
theorem dX6_priorityOf_23 : decode cX6_priorityOf 23 = .ok (.invokevirtual 296, 3) := by decide +kernel
theorem dX6_priorityOf_26 : decode cX6_priorityOf 26 = .ok (.istore 4, 2) := by decide +kernel
theorem dX6_priorityOf_28 : decode cX6_priorityOf 28 = .ok (.iload_n 3, 1) := by decide +kernel
theorem dX6_priorityOf_29 : decode cX6_priorityOf 29 = .ok (.iload 4, 2) := by decide +kernel
theorem dX6_priorityOf_31 : decode cX6_priorityOf 31 = .ok (.invokestatic 387, 3) := by decide +kernel
theorem dX6_priorityOf_34 : decode cX6_priorityOf 34 = .ok (.if_icmp .le 5, 3) := by decide +kernel
theorem dX6_priorityOf_37 : decode cX6_priorityOf 37 = .ok (.iconst 2, 1) := by decide +kernel
theorem dX6_priorityOf_38 : decode cX6_priorityOf 38 = .ok (.ireturn, 1) := by decide +kernel
theorem dX6_priorityOf_39 : decode cX6_priorityOf 39 = .ok (.iload_n 3, 1) := by decide +kernel
theorem dX6_priorityOf_40 : decode cX6_priorityOf 40 = .ok (.iload 4, 2) := by decide +kernel
theorem dX6_priorityOf_42 : decode cX6_priorityOf 42 = .ok (.invokestatic 390, 3) := by decide +kernel
theorem dX6_priorityOf_45 : decode cX6_priorityOf 45 = .ok (.if_icmp .lt 7, 3) := by decide +kernel
theorem dX6_priorityOf_48 : decode cX6_priorityOf 48 = .ok (.iconst 1, 1) := by decide +kernel
theorem dX6_priorityOf_49 : decode cX6_priorityOf 49 = .ok (.goto 4, 3) := by decide +kernel
theorem dX6_priorityOf_52 : decode cX6_priorityOf 52 = .ok (.iconst 0, 1) := by decide +kernel
theorem dX6_priorityOf_53 : decode cX6_priorityOf 53 = .ok (.ireturn, 1) := by decide +kernel
theorem dX6_windowBegin_0 : decode cX6_windowBegin 0 = .ok (.iload_n 0, 1) := by decide +kernel
theorem dX6_windowBegin_1 : decode cX6_windowBegin 1 = .ok (.lookupswitch 35 #[(0, 31), (2, 27)], 27) := by decide +kernel
theorem dX6_windowBegin_28 : decode cX6_windowBegin 28 = .ok (.sipush 150, 3) := by decide +kernel
theorem dX6_windowBegin_31 : decode cX6_windowBegin 31 = .ok (.ireturn, 1) := by decide +kernel
theorem dX6_windowBegin_32 : decode cX6_windowBegin 32 = .ok (.sipush 720, 3) := by decide +kernel
theorem dX6_windowBegin_35 : decode cX6_windowBegin 35 = .ok (.ireturn, 1) := by decide +kernel
theorem dX6_windowBegin_36 : decode cX6_windowBegin 36 = .ok (.sipush 300, 3) := by decide +kernel
theorem dX6_windowBegin_39 : decode cX6_windowBegin 39 = .ok (.ireturn, 1) := by decide +kernel
theorem dX6_windowEnd_0 : decode cX6_windowEnd 0 = .ok (.iload_n 0, 1) := by decide +kernel
theorem dX6_windowEnd_1 : decode cX6_windowEnd 1 = .ok (.lookupswitch 35 #[(0, 31), (2, 27)], 27) := by decide +kernel
theorem dX6_windowEnd_28 : decode cX6_windowEnd 28 = .ok (.sipush 180, 3) := by decide +kernel
theorem dX6_windowEnd_31 : decode cX6_windowEnd 31 = .ok (.ireturn, 1) := by decide +kernel
theorem dX6_windowEnd_32 : decode cX6_windowEnd 32 = .ok (.sipush 1080, 3) := by decide +kernel
theorem dX6_windowEnd_35 : decode cX6_windowEnd 35 = .ok (.ireturn, 1) := by decide +kernel
theorem dX6_windowEnd_36 : decode cX6_windowEnd 36 = .ok (.sipush 360, 3) := by decide +kernel
theorem dX6_windowEnd_39 : decode cX6_windowEnd 39 = .ok (.ireturn, 1) := by decide +kernel
theorem dX6_depthOfNext_0 : decode cX6_depthOfNext 0 = .ok (.aload_n 0, 1) := by decide +kernel
theorem dX6_depthOfNext_1 : decode cX6_depthOfNext 1 = .ok (.aload_n 1, 1) := by decide +kernel
theorem dX6_depthOfNext_2 : decode cX6_depthOfNext 2 = .ok (.invokevirtual 296, 3) := by decide +kernel
theorem dX6_depthOfNext_5 : decode cX6_depthOfNext 5 = .ok (.iconst 2, 1) := by decide +kernel
theorem dX6_depthOfNext_6 : decode cX6_depthOfNext 6 = .ok (.if_icmp .eq 21, 3) := by decide +kernel
theorem dX6_depthOfNext_9 : decode cX6_depthOfNext 9 = .ok (.aload_n 0, 1) := by decide +kernel
theorem dX6_depthOfNext_10 : decode cX6_depthOfNext 10 = .ok (.aload_n 1, 1) := by decide +kernel
theorem dX6_depthOfNext_11 : decode cX6_depthOfNext 11 = .ok (.getfield 342, 3) := by decide +kernel
theorem dX6_depthOfNext_14 : decode cX6_depthOfNext 14 = .ok (.invokevirtual 379, 3) := by decide +kernel
theorem dX6_depthOfNext_17 : decode cX6_depthOfNext 17 = .ok (.ifCond .eq 12, 3) := by decide +kernel
theorem dX6_depthOfNext_20 : decode cX6_depthOfNext 20 = .ok (.aload_n 1, 1) := by decide +kernel
theorem dX6_depthOfNext_21 : decode cX6_depthOfNext 21 = .ok (.getfield 345, 3) := by decide +kernel
theorem dX6_depthOfNext_24 : decode cX6_depthOfNext 24 = .ok (.ifCond .eq 5, 3) := by decide +kernel
theorem dX6_depthOfNext_27 : decode cX6_depthOfNext 27 = .ok (.iconst 2, 1) := by decide +kernel
theorem dX6_depthOfNext_28 : decode cX6_depthOfNext 28 = .ok (.ireturn, 1) := by decide +kernel
theorem dX6_depthOfNext_29 : decode cX6_depthOfNext 29 = .ok (.aload_n 0, 1) := by decide +kernel
theorem dX6_depthOfNext_30 : decode cX6_depthOfNext 30 = .ok (.aload_n 1, 1) := by decide +kernel
theorem dX6_depthOfNext_31 : decode cX6_depthOfNext 31 = .ok (.invokevirtual 120, 3) := by decide +kernel
theorem dX6_depthOfNext_34 : decode cX6_depthOfNext 34 = .ok (.ifCond .ne 11, 3) := by decide +kernel
theorem dX6_depthOfNext_37 : decode cX6_depthOfNext 37 = .ok (.aload_n 0, 1) := by decide +kernel
theorem dX6_depthOfNext_38 : decode cX6_depthOfNext 38 = .ok (.aload_n 1, 1) := by decide +kernel
theorem dX6_depthOfNext_39 : decode cX6_depthOfNext 39 = .ok (.invokevirtual 393, 3) := by decide +kernel
theorem dX6_depthOfNext_42 : decode cX6_depthOfNext 42 = .ok (.ifCond .eq 7, 3) := by decide +kernel
theorem dX6_depthOfNext_45 : decode cX6_depthOfNext 45 = .ok (.iconst 1, 1) := by decide +kernel
theorem dX6_depthOfNext_46 : decode cX6_depthOfNext 46 = .ok (.goto 4, 3) := by decide +kernel
theorem dX6_depthOfNext_49 : decode cX6_depthOfNext 49 = .ok (.iconst 0, 1) := by decide +kernel
theorem dX6_depthOfNext_50 : decode cX6_depthOfNext 50 = .ok (.ireturn, 1) := by decide +kernel
theorem dX6_hasPutOffUnmended_0 : decode cX6_hasPutOffUnmended 0 = .ok (.iconst 0, 1) := by decide +kernel
theorem dX6_hasPutOffUnmended_1 : decode cX6_hasPutOffUnmended 1 = .ok (.istore_n 2, 1) := by decide +kernel
theorem dX6_hasPutOffUnmended_2 : decode cX6_hasPutOffUnmended 2 = .ok (.iload_n 2, 1) := by decide +kernel
theorem dX6_hasPutOffUnmended_3 : decode cX6_hasPutOffUnmended 3 = .ok (.aload_n 0, 1) := by decide +kernel
theorem dX6_hasPutOffUnmended_4 : decode cX6_hasPutOffUnmended 4 = .ok (.getfield 19, 3) := by decide +kernel
theorem dX6_hasPutOffUnmended_7 : decode cX6_hasPutOffUnmended 7 = .ok (.invokevirtual 58, 3) := by decide +kernel
theorem dX6_hasPutOffUnmended_10 : decode cX6_hasPutOffUnmended 10 = .ok (.if_icmp .ge 38, 3) := by decide +kernel
theorem dX6_hasPutOffUnmended_13 : decode cX6_hasPutOffUnmended 13 = .ok (.aload_n 0, 1) := by decide +kernel
theorem dX6_hasPutOffUnmended_14 : decode cX6_hasPutOffUnmended 14 = .ok (.getfield 19, 3) := by decide +kernel
theorem dX6_hasPutOffUnmended_17 : decode cX6_hasPutOffUnmended 17 = .ok (.iload_n 2, 1) := by decide +kernel
theorem dX6_hasPutOffUnmended_18 : decode cX6_hasPutOffUnmended 18 = .ok (.invokevirtual 224, 3) := by decide +kernel
theorem dX6_hasPutOffUnmended_21 : decode cX6_hasPutOffUnmended 21 = .ok (.checkcast 179, 3) := by decide +kernel
theorem dX6_hasPutOffUnmended_24 : decode cX6_hasPutOffUnmended 24 = .ok (.astore_n 3, 1) := by decide +kernel
theorem dX6_hasPutOffUnmended_25 : decode cX6_hasPutOffUnmended 25 = .ok (.aload_n 3, 1) := by decide +kernel
theorem dX6_hasPutOffUnmended_26 : decode cX6_hasPutOffUnmended 26 = .ok (.getfield 201, 3) := by decide +kernel
theorem dX6_hasPutOffUnmended_29 : decode cX6_hasPutOffUnmended 29 = .ok (.aload_n 1, 1) := by decide +kernel
theorem dX6_hasPutOffUnmended_30 : decode cX6_hasPutOffUnmended 30 = .ok (.if_acmp .ne 12, 3) := by decide +kernel
theorem dX6_hasPutOffUnmended_33 : decode cX6_hasPutOffUnmended 33 = .ok (.aload_n 3, 1) := by decide +kernel
theorem dX6_hasPutOffUnmended_34 : decode cX6_hasPutOffUnmended 34 = .ok (.invokevirtual 396, 3) := by decide +kernel
theorem dX6_hasPutOffUnmended_37 : decode cX6_hasPutOffUnmended 37 = .ok (.ifCond .eq 5, 3) := by decide +kernel
theorem dX6_hasPutOffUnmended_40 : decode cX6_hasPutOffUnmended 40 = .ok (.iconst 1, 1) := by decide +kernel
theorem dX6_hasPutOffUnmended_41 : decode cX6_hasPutOffUnmended 41 = .ok (.ireturn, 1) := by decide +kernel
theorem dX6_hasPutOffUnmended_42 : decode cX6_hasPutOffUnmended 42 = .ok (.iinc 2 1, 3) := by decide +kernel
theorem dX6_hasPutOffUnmended_45 : decode cX6_hasPutOffUnmended 45 = .ok (.goto (-43), 3) := by decide +kernel
theorem dX6_hasPutOffUnmended_48 : decode cX6_hasPutOffUnmended 48 = .ok (.iconst 0, 1) := by decide +kernel
theorem dX6_hasPutOffUnmended_49 : decode cX6_hasPutOffUnmended 49 = .ok (.ireturn, 1) := by decide +kernel
theorem dX6_hasLeftSince_0 : decode cX6_hasLeftSince 0 = .ok (.aload_n 0, 1) := by decide +kernel
theorem dX6_hasLeftSince_1 : decode cX6_hasLeftSince 1 = .ok (.getfield 201, 3) := by decide +kernel
theorem dX6_hasLeftSince_4 : decode cX6_hasLeftSince 4 = .ok (.getfield 174, 3) := by decide +kernel
theorem dX6_hasLeftSince_7 : decode cX6_hasLeftSince 7 = .ok (.aload_n 0, 1) := by decide +kernel
theorem dX6_hasLeftSince_8 : decode cX6_hasLeftSince 8 = .ok (.if_acmp .eq 7, 3) := by decide +kernel
theorem dX6_hasLeftSince_11 : decode cX6_hasLeftSince 11 = .ok (.iconst 1, 1) := by decide +kernel
theorem dX6_hasLeftSince_12 : decode cX6_hasLeftSince 12 = .ok (.goto 4, 3) := by decide +kernel
theorem dX6_hasLeftSince_15 : decode cX6_hasLeftSince 15 = .ok (.iconst 0, 1) := by decide +kernel
theorem dX6_hasLeftSince_16 : decode cX6_hasLeftSince 16 = .ok (.ireturn, 1) := by decide +kernel
theorem dX6_isDetainable_0 : decode cX6_isDetainable 0 = .ok (.aload_n 1, 1) := by decide +kernel
theorem dX6_isDetainable_1 : decode cX6_isDetainable 1 = .ok (.invokevirtual 398, 3) := by decide +kernel
theorem dX6_isDetainable_4 : decode cX6_isDetainable 4 = .ok (.bipush 10, 2) := by decide +kernel
theorem dX6_isDetainable_6 : decode cX6_isDetainable 6 = .ok (.if_icmp .ge 14, 3) := by decide +kernel
theorem dX6_isDetainable_9 : decode cX6_isDetainable 9 = .ok (.aload_n 0, 1) := by decide +kernel
theorem dX6_isDetainable_10 : decode cX6_isDetainable 10 = .ok (.aload_n 1, 1) := by decide +kernel
theorem dX6_isDetainable_11 : decode cX6_isDetainable 11 = .ok (.getfield 201, 3) := by decide +kernel
theorem dX6_isDetainable_14 : decode cX6_isDetainable 14 = .ok (.invokevirtual 120, 3) := by decide +kernel
theorem dX6_isDetainable_17 : decode cX6_isDetainable 17 = .ok (.ifCond .eq 7, 3) := by decide +kernel
theorem dX6_isDetainable_20 : decode cX6_isDetainable 20 = .ok (.iconst 1, 1) := by decide +kernel
theorem dX6_isDetainable_21 : decode cX6_isDetainable 21 = .ok (.goto 4, 3) := by decide +kernel
theorem dX6_isDetainable_24 : decode cX6_isDetainable 24 = .ok (.iconst 0, 1) := by decide +kernel
theorem dX6_isDetainable_25 : decode cX6_isDetainable 25 = .ok (.ireturn, 1) := by decide +kernel
theorem dX6_detentionsThatCount_0 : decode cX6_detentionsThatCount 0 = .ok (.iconst 0, 1) := by decide +kernel
theorem dX6_detentionsThatCount_1 : decode cX6_detentionsThatCount 1 = .ok (.istore_n 2, 1) := by decide +kernel
theorem dX6_detentionsThatCount_2 : decode cX6_detentionsThatCount 2 = .ok (.iconst 0, 1) := by decide +kernel
theorem dX6_detentionsThatCount_3 : decode cX6_detentionsThatCount 3 = .ok (.istore_n 3, 1) := by decide +kernel
theorem dX6_detentionsThatCount_4 : decode cX6_detentionsThatCount 4 = .ok (.iload_n 3, 1) := by decide +kernel
theorem dX6_detentionsThatCount_5 : decode cX6_detentionsThatCount 5 = .ok (.aload_n 0, 1) := by decide +kernel
theorem dX6_detentionsThatCount_6 : decode cX6_detentionsThatCount 6 = .ok (.getfield 19, 3) := by decide +kernel
theorem dX6_detentionsThatCount_9 : decode cX6_detentionsThatCount 9 = .ok (.invokevirtual 58, 3) := by decide +kernel
theorem dX6_detentionsThatCount_12 : decode cX6_detentionsThatCount 12 = .ok (.if_icmp .ge 31, 3) := by decide +kernel
theorem dX6_detentionsThatCount_15 : decode cX6_detentionsThatCount 15 = .ok (.aload_n 0, 1) := by decide +kernel
theorem dX6_detentionsThatCount_16 : decode cX6_detentionsThatCount 16 = .ok (.aload_n 0, 1) := by decide +kernel
theorem dX6_detentionsThatCount_17 : decode cX6_detentionsThatCount 17 = .ok (.getfield 19, 3) := by decide +kernel
theorem dX6_detentionsThatCount_20 : decode cX6_detentionsThatCount 20 = .ok (.iload_n 3, 1) := by decide +kernel
theorem dX6_detentionsThatCount_21 : decode cX6_detentionsThatCount 21 = .ok (.invokevirtual 224, 3) := by decide +kernel
theorem dX6_detentionsThatCount_24 : decode cX6_detentionsThatCount 24 = .ok (.checkcast 179, 3) := by decide +kernel
theorem dX6_detentionsThatCount_27 : decode cX6_detentionsThatCount 27 = .ok (.aload_n 1, 1) := by decide +kernel
theorem dX6_detentionsThatCount_28 : decode cX6_detentionsThatCount 28 = .ok (.invokevirtual 401, 3) := by decide +kernel
theorem dX6_detentionsThatCount_31 : decode cX6_detentionsThatCount 31 = .ok (.ifCond .eq 6, 3) := by decide +kernel
theorem dX6_detentionsThatCount_34 : decode cX6_detentionsThatCount 34 = .ok (.iinc 2 1, 3) := by decide +kernel
theorem dX6_detentionsThatCount_37 : decode cX6_detentionsThatCount 37 = .ok (.iinc 3 1, 3) := by decide +kernel
theorem dX6_detentionsThatCount_40 : decode cX6_detentionsThatCount 40 = .ok (.goto (-36), 3) := by decide +kernel
theorem dX6_detentionsThatCount_43 : decode cX6_detentionsThatCount 43 = .ok (.iload_n 2, 1) := by decide +kernel
theorem dX6_detentionsThatCount_44 : decode cX6_detentionsThatCount 44 = .ok (.ireturn, 1) := by decide +kernel
theorem dX6_isCounted_0 : decode cX6_isCounted 0 = .ok (.aload_n 1, 1) := by decide +kernel
theorem dX6_isCounted_1 : decode cX6_isCounted 1 = .ok (.getfield 201, 3) := by decide +kernel
theorem dX6_isCounted_4 : decode cX6_isCounted 4 = .ok (.aload_n 2, 1) := by decide +kernel
theorem dX6_isCounted_5 : decode cX6_isCounted 5 = .ok (.if_acmp .ne 25, 3) := by decide +kernel
theorem dX6_isCounted_8 : decode cX6_isCounted 8 = .ok (.aload_n 0, 1) := by decide +kernel
theorem dX6_isCounted_9 : decode cX6_isCounted 9 = .ok (.aload_n 1, 1) := by decide +kernel
theorem dX6_isCounted_10 : decode cX6_isCounted 10 = .ok (.getfield 309, 3) := by decide +kernel
theorem dX6_isCounted_13 : decode cX6_isCounted 13 = .ok (.invokevirtual 339, 3) := by decide +kernel
theorem dX6_isCounted_16 : decode cX6_isCounted 16 = .ok (.ifCond .eq 14, 3) := by decide +kernel
theorem dX6_isCounted_19 : decode cX6_isCounted 19 = .ok (.aload_n 1, 1) := by decide +kernel
theorem dX6_isCounted_20 : decode cX6_isCounted 20 = .ok (.invokevirtual 312, 3) := by decide +kernel
theorem dX6_isCounted_23 : decode cX6_isCounted 23 = .ok (.ifCond .eq 7, 3) := by decide +kernel
theorem dX6_isCounted_26 : decode cX6_isCounted 26 = .ok (.iconst 1, 1) := by decide +kernel
theorem dX6_isCounted_27 : decode cX6_isCounted 27 = .ok (.goto 4, 3) := by decide +kernel
theorem dX6_isCounted_30 : decode cX6_isCounted 30 = .ok (.iconst 0, 1) := by decide +kernel
theorem dX6_isCounted_31 : decode cX6_isCounted 31 = .ok (.ireturn, 1) := by decide +kernel
theorem dX6_lookForBan_0 : decode cX6_lookForBan 0 = .ok (.iconst 0, 1) := by decide +kernel
theorem dX6_lookForBan_1 : decode cX6_lookForBan 1 = .ok (.istore_n 2, 1) := by decide +kernel
theorem dX6_lookForBan_2 : decode cX6_lookForBan 2 = .ok (.iconst 0, 1) := by decide +kernel
theorem dX6_lookForBan_3 : decode cX6_lookForBan 3 = .ok (.istore_n 3, 1) := by decide +kernel
theorem dX6_lookForBan_4 : decode cX6_lookForBan 4 = .ok (.iload_n 3, 1) := by decide +kernel
theorem dX6_lookForBan_5 : decode cX6_lookForBan 5 = .ok (.aload_n 0, 1) := by decide +kernel
theorem dX6_lookForBan_6 : decode cX6_lookForBan 6 = .ok (.getfield 19, 3) := by decide +kernel
theorem dX6_lookForBan_9 : decode cX6_lookForBan 9 = .ok (.invokevirtual 58, 3) := by decide +kernel
theorem dX6_lookForBan_12 : decode cX6_lookForBan 12 = .ok (.if_icmp .ge 43, 3) := by decide +kernel
theorem dX6_lookForBan_15 : decode cX6_lookForBan 15 = .ok (.aload_n 0, 1) := by decide +kernel
theorem dX6_lookForBan_16 : decode cX6_lookForBan 16 = .ok (.getfield 19, 3) := by decide +kernel
theorem dX6_lookForBan_19 : decode cX6_lookForBan 19 = .ok (.iload_n 3, 1) := by decide +kernel
theorem dX6_lookForBan_20 : decode cX6_lookForBan 20 = .ok (.invokevirtual 224, 3) := by decide +kernel
theorem dX6_lookForBan_23 : decode cX6_lookForBan 23 = .ok (.checkcast 179, 3) := by decide +kernel
theorem dX6_lookForBan_26 : decode cX6_lookForBan 26 = .ok (.astore 4, 2) := by decide +kernel
theorem dX6_lookForBan_28 : decode cX6_lookForBan 28 = .ok (.aload_n 0, 1) := by decide +kernel
theorem dX6_lookForBan_29 : decode cX6_lookForBan 29 = .ok (.aload 4, 2) := by decide +kernel
theorem dX6_lookForBan_31 : decode cX6_lookForBan 31 = .ok (.aload_n 1, 1) := by decide +kernel
theorem dX6_lookForBan_32 : decode cX6_lookForBan 32 = .ok (.invokevirtual 401, 3) := by decide +kernel
theorem dX6_lookForBan_35 : decode cX6_lookForBan 35 = .ok (.ifCond .eq 14, 3) := by decide +kernel
theorem dX6_lookForBan_38 : decode cX6_lookForBan 38 = .ok (.aload 4, 2) := by decide +kernel
theorem dX6_lookForBan_40 : decode cX6_lookForBan 40 = .ok (.getfield 405, 3) := by decide +kernel
theorem dX6_lookForBan_43 : decode cX6_lookForBan 43 = .ok (.ifCond .ne 6, 3) := by decide +kernel
theorem dX6_lookForBan_46 : decode cX6_lookForBan 46 = .ok (.iinc 2 1, 3) := by decide +kernel
theorem dX6_lookForBan_49 : decode cX6_lookForBan 49 = .ok (.iinc 3 1, 3) := by decide +kernel
theorem dX6_lookForBan_52 : decode cX6_lookForBan 52 = .ok (.goto (-48), 3) := by decide +kernel
theorem dX6_lookForBan_55 : decode cX6_lookForBan 55 = .ok (.iload_n 2, 1) := by decide +kernel
theorem dX6_lookForBan_56 : decode cX6_lookForBan 56 = .ok (.iconst 3, 1) := by decide +kernel
theorem dX6_lookForBan_57 : decode cX6_lookForBan 57 = .ok (.if_icmp .ge 4, 3) := by decide +kernel
theorem dX6_lookForBan_60 : decode cX6_lookForBan 60 = .ok (.return_, 1) := by decide +kernel
theorem dX6_lookForBan_61 : decode cX6_lookForBan 61 = .ok (.aload_n 1, 1) := by decide +kernel
theorem dX6_lookForBan_62 : decode cX6_lookForBan 62 = .ok (.iconst 1, 1) := by decide +kernel
theorem dX6_lookForBan_63 : decode cX6_lookForBan 63 = .ok (.putfield 269, 3) := by decide +kernel
theorem dX6_lookForBan_66 : decode cX6_lookForBan 66 = .ok (.iconst 0, 1) := by decide +kernel
theorem dX6_lookForBan_67 : decode cX6_lookForBan 67 = .ok (.istore_n 3, 1) := by decide +kernel
theorem dX6_lookForBan_68 : decode cX6_lookForBan 68 = .ok (.iload_n 3, 1) := by decide +kernel
theorem dX6_lookForBan_69 : decode cX6_lookForBan 69 = .ok (.aload_n 0, 1) := by decide +kernel
theorem dX6_lookForBan_70 : decode cX6_lookForBan 70 = .ok (.getfield 19, 3) := by decide +kernel
theorem dX6_lookForBan_73 : decode cX6_lookForBan 73 = .ok (.invokevirtual 58, 3) := by decide +kernel
theorem dX6_lookForBan_76 : decode cX6_lookForBan 76 = .ok (.if_icmp .ge 38, 3) := by decide +kernel
theorem dX6_lookForBan_79 : decode cX6_lookForBan 79 = .ok (.aload_n 0, 1) := by decide +kernel
theorem dX6_lookForBan_80 : decode cX6_lookForBan 80 = .ok (.getfield 19, 3) := by decide +kernel
theorem dX6_lookForBan_83 : decode cX6_lookForBan 83 = .ok (.iload_n 3, 1) := by decide +kernel
theorem dX6_lookForBan_84 : decode cX6_lookForBan 84 = .ok (.invokevirtual 224, 3) := by decide +kernel
theorem dX6_lookForBan_87 : decode cX6_lookForBan 87 = .ok (.checkcast 179, 3) := by decide +kernel
theorem dX6_lookForBan_90 : decode cX6_lookForBan 90 = .ok (.astore 4, 2) := by decide +kernel
theorem dX6_lookForBan_92 : decode cX6_lookForBan 92 = .ok (.aload_n 0, 1) := by decide +kernel
theorem dX6_lookForBan_93 : decode cX6_lookForBan 93 = .ok (.aload 4, 2) := by decide +kernel
theorem dX6_lookForBan_95 : decode cX6_lookForBan 95 = .ok (.aload_n 1, 1) := by decide +kernel
theorem dX6_lookForBan_96 : decode cX6_lookForBan 96 = .ok (.invokevirtual 401, 3) := by decide +kernel
theorem dX6_lookForBan_99 : decode cX6_lookForBan 99 = .ok (.ifCond .eq 9, 3) := by decide +kernel
theorem dX6_lookForBan_102 : decode cX6_lookForBan 102 = .ok (.aload 4, 2) := by decide +kernel
theorem dX6_lookForBan_104 : decode cX6_lookForBan 104 = .ok (.iconst 1, 1) := by decide +kernel
theorem dX6_lookForBan_105 : decode cX6_lookForBan 105 = .ok (.putfield 405, 3) := by decide +kernel
theorem dX6_lookForBan_108 : decode cX6_lookForBan 108 = .ok (.iinc 3 1, 3) := by decide +kernel
theorem dX6_lookForBan_111 : decode cX6_lookForBan 111 = .ok (.goto (-43), 3) := by decide +kernel
theorem dX6_lookForBan_114 : decode cX6_lookForBan 114 = .ok (.return_, 1) := by decide +kernel
theorem dX6_ban_0 : decode cX6_ban 0 = .ok (.aload_n 1, 1) := by decide +kernel
theorem dX6_ban_1 : decode cX6_ban 1 = .ok (.iconst 0, 1) := by decide +kernel
theorem dX6_ban_2 : decode cX6_ban 2 = .ok (.putfield 269, 3) := by decide +kernel
theorem dX6_ban_5 : decode cX6_ban 5 = .ok (.aload_n 1, 1) := by decide +kernel
theorem dX6_ban_6 : decode cX6_ban 6 = .ok (.dup, 1) := by decide +kernel
theorem dX6_ban_7 : decode cX6_ban 7 = .ok (.getfield 408, 3) := by decide +kernel
theorem dX6_ban_10 : decode cX6_ban 10 = .ok (.iconst 1, 1) := by decide +kernel
theorem dX6_ban_11 : decode cX6_ban 11 = .ok (.iadd, 1) := by decide +kernel
theorem dX6_ban_12 : decode cX6_ban 12 = .ok (.putfield 408, 3) := by decide +kernel
theorem dX6_ban_15 : decode cX6_ban 15 = .ok (.aload_n 1, 1) := by decide +kernel
theorem dX6_ban_16 : decode cX6_ban 16 = .ok (.aload_n 1, 1) := by decide +kernel
theorem dX6_ban_17 : decode cX6_ban 17 = .ok (.getfield 408, 3) := by decide +kernel
theorem dX6_ban_20 : decode cX6_ban 20 = .ok (.iconst 1, 1) := by decide +kernel
theorem dX6_ban_21 : decode cX6_ban 21 = .ok (.if_icmp .ne 13, 3) := by decide +kernel
theorem dX6_ban_24 : decode cX6_ban 24 = .ok (.aload_n 0, 1) := by decide +kernel
theorem dX6_ban_25 : decode cX6_ban 25 = .ok (.getfield 30, 3) := by decide +kernel
theorem dX6_ban_28 : decode cX6_ban 28 = .ok (.bipush 90, 2) := by decide +kernel
theorem dX6_ban_30 : decode cX6_ban 30 = .ok (.iadd, 1) := by decide +kernel
theorem dX6_ban_31 : decode cX6_ban 31 = .ok (.goto 25, 3) := by decide +kernel
theorem dX6_ban_34 : decode cX6_ban 34 = .ok (.aload_n 1, 1) := by decide +kernel
theorem dX6_ban_35 : decode cX6_ban 35 = .ok (.getfield 408, 3) := by decide +kernel
theorem dX6_ban_38 : decode cX6_ban 38 = .ok (.iconst 2, 1) := by decide +kernel
theorem dX6_ban_39 : decode cX6_ban 39 = .ok (.if_icmp .ne 14, 3) := by decide +kernel
theorem dX6_ban_42 : decode cX6_ban 42 = .ok (.aload_n 0, 1) := by decide +kernel
theorem dX6_ban_43 : decode cX6_ban 43 = .ok (.getfield 30, 3) := by decide +kernel
theorem dX6_ban_46 : decode cX6_ban 46 = .ok (.sipush 360, 3) := by decide +kernel
theorem dX6_ban_49 : decode cX6_ban 49 = .ok (.iadd, 1) := by decide +kernel
theorem dX6_ban_50 : decode cX6_ban 50 = .ok (.goto 6, 3) := by decide +kernel
theorem dX6_ban_53 : decode cX6_ban 53 = .ok (.sipush 9000, 3) := by decide +kernel
theorem dX6_ban_56 : decode cX6_ban 56 = .ok (.putfield 411, 3) := by decide +kernel
theorem dX6_ban_59 : decode cX6_ban 59 = .ok (.return_, 1) := by decide +kernel
theorem dX6_isBanned_0 : decode cX6_isBanned 0 = .ok (.aload_n 0, 1) := by decide +kernel
theorem dX6_isBanned_1 : decode cX6_isBanned 1 = .ok (.getfield 30, 3) := by decide +kernel
theorem dX6_isBanned_4 : decode cX6_isBanned 4 = .ok (.aload_n 1, 1) := by decide +kernel
theorem dX6_isBanned_5 : decode cX6_isBanned 5 = .ok (.getfield 411, 3) := by decide +kernel
theorem dX6_isBanned_8 : decode cX6_isBanned 8 = .ok (.if_icmp .gt 7, 3) := by decide +kernel
theorem dX6_isBanned_11 : decode cX6_isBanned 11 = .ok (.iconst 1, 1) := by decide +kernel
theorem dX6_isBanned_12 : decode cX6_isBanned 12 = .ok (.goto 4, 3) := by decide +kernel
theorem dX6_isBanned_15 : decode cX6_isBanned 15 = .ok (.iconst 0, 1) := by decide +kernel
theorem dX6_isBanned_16 : decode cX6_isBanned 16 = .ok (.ireturn, 1) := by decide +kernel
theorem dX6_listOf_0 : decode cX6_listOf 0 = .ok (.iconst 0, 1) := by decide +kernel
theorem dX6_listOf_1 : decode cX6_listOf 1 = .ok (.istore_n 2, 1) := by decide +kernel
theorem dX6_listOf_2 : decode cX6_listOf 2 = .ok (.iconst 0, 1) := by decide +kernel
theorem dX6_listOf_3 : decode cX6_listOf 3 = .ok (.istore_n 3, 1) := by decide +kernel
theorem dX6_listOf_4 : decode cX6_listOf 4 = .ok (.iconst 0, 1) := by decide +kernel
theorem dX6_listOf_5 : decode cX6_listOf 5 = .ok (.istore 4, 2) := by decide +kernel
theorem dX6_listOf_7 : decode cX6_listOf 7 = .ok (.iload 4, 2) := by decide +kernel
theorem dX6_listOf_9 : decode cX6_listOf 9 = .ok (.aload_n 0, 1) := by decide +kernel
theorem dX6_listOf_10 : decode cX6_listOf 10 = .ok (.getfield 19, 3) := by decide +kernel
theorem dX6_listOf_13 : decode cX6_listOf 13 = .ok (.invokevirtual 58, 3) := by decide +kernel
theorem dX6_listOf_16 : decode cX6_listOf 16 = .ok (.if_icmp .ge 63, 3) := by decide +kernel
theorem dX6_listOf_19 : decode cX6_listOf 19 = .ok (.aload_n 0, 1) := by decide +kernel
theorem dX6_listOf_20 : decode cX6_listOf 20 = .ok (.getfield 19, 3) := by decide +kernel
theorem dX6_listOf_23 : decode cX6_listOf 23 = .ok (.iload 4, 2) := by decide +kernel
theorem dX6_listOf_25 : decode cX6_listOf 25 = .ok (.invokevirtual 224, 3) := by decide +kernel
theorem dX6_listOf_28 : decode cX6_listOf 28 = .ok (.checkcast 179, 3) := by decide +kernel
theorem dX6_listOf_31 : decode cX6_listOf 31 = .ok (.astore 5, 2) := by decide +kernel
theorem dX6_listOf_33 : decode cX6_listOf 33 = .ok (.aload 5, 2) := by decide +kernel
theorem dX6_listOf_35 : decode cX6_listOf 35 = .ok (.getfield 414, 3) := by decide +kernel
theorem dX6_listOf_38 : decode cX6_listOf 38 = .ok (.iload_n 1, 1) := by decide +kernel
theorem dX6_listOf_39 : decode cX6_listOf 39 = .ok (.if_icmp .ne 34, 3) := by decide +kernel
theorem dX6_listOf_42 : decode cX6_listOf 42 = .ok (.aload_n 0, 1) := by decide +kernel
theorem dX6_listOf_43 : decode cX6_listOf 43 = .ok (.aload 5, 2) := by decide +kernel
theorem dX6_listOf_45 : decode cX6_listOf 45 = .ok (.getfield 309, 3) := by decide +kernel
theorem dX6_listOf_48 : decode cX6_listOf 48 = .ok (.invokevirtual 339, 3) := by decide +kernel
theorem dX6_listOf_51 : decode cX6_listOf 51 = .ok (.ifCond .eq 22, 3) := by decide +kernel
theorem dX6_listOf_54 : decode cX6_listOf 54 = .ok (.iinc 2 1, 3) := by decide +kernel
theorem dX6_listOf_57 : decode cX6_listOf 57 = .ok (.iload_n 3, 1) := by decide +kernel
theorem dX6_listOf_58 : decode cX6_listOf 58 = .ok (.aload 5, 2) := by decide +kernel
theorem dX6_listOf_60 : decode cX6_listOf 60 = .ok (.invokevirtual 312, 3) := by decide +kernel
theorem dX6_listOf_63 : decode cX6_listOf 63 = .ok (.ifCond .eq 7, 3) := by decide +kernel
theorem dX6_listOf_66 : decode cX6_listOf 66 = .ok (.iconst 1, 1) := by decide +kernel
theorem dX6_listOf_67 : decode cX6_listOf 67 = .ok (.goto 4, 3) := by decide +kernel
theorem dX6_listOf_70 : decode cX6_listOf 70 = .ok (.iconst 0, 1) := by decide +kernel
theorem dX6_listOf_71 : decode cX6_listOf 71 = .ok (.iadd, 1) := by decide +kernel
theorem dX6_listOf_72 : decode cX6_listOf 72 = .ok (.istore_n 3, 1) := by decide +kernel
theorem dX6_listOf_73 : decode cX6_listOf 73 = .ok (.iinc 4 1, 3) := by decide +kernel
theorem dX6_listOf_76 : decode cX6_listOf 76 = .ok (.goto (-69), 3) := by decide +kernel
theorem dX6_listOf_79 : decode cX6_listOf 79 = .ok (.iload_n 2, 1) := by decide +kernel
theorem dX6_listOf_80 : decode cX6_listOf 80 = .ok (.iload_n 3, 1) := by decide +kernel
theorem dX6_listOf_81 : decode cX6_listOf 81 = .ok (.invokestatic 415, 3) := by decide +kernel
theorem dX6_listOf_84 : decode cX6_listOf 84 = .ok (.ireturn, 1) := by decide +kernel
theorem dX6_listBy_0 : decode cX6_listBy 0 = .ok (.iload_n 0, 1) := by decide +kernel
theorem dX6_listBy_1 : decode cX6_listBy 1 = .ok (.bipush 6, 2) := by decide +kernel
theorem dX6_listBy_3 : decode cX6_listBy 3 = .ok (.if_icmp .ge 5, 3) := by decide +kernel
theorem dX6_listBy_6 : decode cX6_listBy 6 = .ok (.iconst 0, 1) := by decide +kernel
theorem dX6_listBy_7 : decode cX6_listBy 7 = .ok (.ireturn, 1) := by decide +kernel
theorem dX6_listBy_8 : decode cX6_listBy 8 = .ok (.bipush 100, 2) := by decide +kernel
theorem dX6_listBy_10 : decode cX6_listBy 10 = .ok (.iload_n 1, 1) := by decide +kernel
theorem dX6_listBy_11 : decode cX6_listBy 11 = .ok (.imul, 1) := by decide +kernel
theorem dX6_listBy_12 : decode cX6_listBy 12 = .ok (.bipush 7, 2) := by decide +kernel
theorem dX6_listBy_14 : decode cX6_listBy 14 = .ok (.iload_n 0, 1) := by decide +kernel
theorem dX6_listBy_15 : decode cX6_listBy 15 = .ok (.imul, 1) := by decide +kernel
theorem dX6_listBy_16 : decode cX6_listBy 16 = .ok (.isub, 1) := by decide +kernel
theorem dX6_listBy_17 : decode cX6_listBy 17 = .ok (.bipush 50, 2) := by decide +kernel
theorem dX6_listBy_19 : decode cX6_listBy 19 = .ok (.isub, 1) := by decide +kernel
theorem dX6_listBy_20 : decode cX6_listBy 20 = .ok (.istore_n 2, 1) := by decide +kernel
theorem dX6_listBy_21 : decode cX6_listBy 21 = .ok (.iload_n 2, 1) := by decide +kernel
theorem dX6_listBy_22 : decode cX6_listBy 22 = .ok (.ifCond .le 16, 3) := by decide +kernel
theorem dX6_listBy_25 : decode cX6_listBy 25 = .ok (.iload_n 2, 1) := by decide +kernel
theorem dX6_listBy_26 : decode cX6_listBy 26 = .ok (.iload_n 2, 1) := by decide +kernel
theorem dX6_listBy_27 : decode cX6_listBy 27 = .ok (.imul, 1) := by decide +kernel
theorem dX6_listBy_28 : decode cX6_listBy 28 = .ok (.sipush 1762, 3) := by decide +kernel
theorem dX6_listBy_31 : decode cX6_listBy 31 = .ok (.iload_n 0, 1) := by decide +kernel
theorem dX6_listBy_32 : decode cX6_listBy 32 = .ok (.imul, 1) := by decide +kernel
theorem dX6_listBy_33 : decode cX6_listBy 33 = .ok (.if_icmp .le 5, 3) := by decide +kernel
theorem dX6_listBy_36 : decode cX6_listBy 36 = .ok (.iconst 3, 1) := by decide +kernel
theorem dX6_listBy_37 : decode cX6_listBy 37 = .ok (.ireturn, 1) := by decide +kernel
theorem dX6_listBy_38 : decode cX6_listBy 38 = .ok (.bipush 7, 2) := by decide +kernel
theorem dX6_listBy_40 : decode cX6_listBy 40 = .ok (.iload_n 0, 1) := by decide +kernel
theorem dX6_listBy_41 : decode cX6_listBy 41 = .ok (.imul, 1) := by decide +kernel
theorem dX6_listBy_42 : decode cX6_listBy 42 = .ok (.bipush 50, 2) := by decide +kernel
theorem dX6_listBy_44 : decode cX6_listBy 44 = .ok (.isub, 1) := by decide +kernel
theorem dX6_listBy_45 : decode cX6_listBy 45 = .ok (.bipush 100, 2) := by decide +kernel
theorem dX6_listBy_47 : decode cX6_listBy 47 = .ok (.iload_n 1, 1) := by decide +kernel
theorem dX6_listBy_48 : decode cX6_listBy 48 = .ok (.imul, 1) := by decide +kernel
theorem dX6_listBy_49 : decode cX6_listBy 49 = .ok (.isub, 1) := by decide +kernel
theorem dX6_listBy_50 : decode cX6_listBy 50 = .ok (.istore_n 3, 1) := by decide +kernel
theorem dX6_listBy_51 : decode cX6_listBy 51 = .ok (.iload_n 3, 1) := by decide +kernel
theorem dX6_listBy_52 : decode cX6_listBy 52 = .ok (.ifCond .le 18, 3) := by decide +kernel
theorem dX6_listBy_55 : decode cX6_listBy 55 = .ok (.iload_n 3, 1) := by decide +kernel
theorem dX6_listBy_56 : decode cX6_listBy 56 = .ok (.iload_n 3, 1) := by decide +kernel
theorem dX6_listBy_57 : decode cX6_listBy 57 = .ok (.imul, 1) := by decide +kernel
theorem dX6_listBy_58 : decode cX6_listBy 58 = .ok (.sipush 1762, 3) := by decide +kernel
theorem dX6_listBy_61 : decode cX6_listBy 61 = .ok (.iload_n 0, 1) := by decide +kernel
theorem dX6_listBy_62 : decode cX6_listBy 62 = .ok (.imul, 1) := by decide +kernel
theorem dX6_listBy_63 : decode cX6_listBy 63 = .ok (.if_icmp .le 7, 3) := by decide +kernel
theorem dX6_listBy_66 : decode cX6_listBy 66 = .ok (.iconst 1, 1) := by decide +kernel
theorem dX6_listBy_67 : decode cX6_listBy 67 = .ok (.goto 4, 3) := by decide +kernel
theorem dX6_listBy_70 : decode cX6_listBy 70 = .ok (.iconst 2, 1) := by decide +kernel
theorem dX6_listBy_71 : decode cX6_listBy 71 = .ok (.ireturn, 1) := by decide +kernel
theorem dJ6_bitCount_0f7a4_0 : decode cJ6_bitCount_0f7a4 0 = .ok (.iload_n 0, 1) := by decide +kernel
theorem dJ6_bitCount_0f7a4_1 : decode cJ6_bitCount_0f7a4 1 = .ok (.iload_n 0, 1) := by decide +kernel
theorem dJ6_bitCount_0f7a4_2 : decode cJ6_bitCount_0f7a4 2 = .ok (.iconst 1, 1) := by decide +kernel
theorem dJ6_bitCount_0f7a4_3 : decode cJ6_bitCount_0f7a4 3 = .ok (.iushr, 1) := by decide +kernel
theorem dJ6_bitCount_0f7a4_4 : decode cJ6_bitCount_0f7a4 4 = .ok (.ldc_w 265, 3) := by decide +kernel
theorem dJ6_bitCount_0f7a4_7 : decode cJ6_bitCount_0f7a4 7 = .ok (.iand, 1) := by decide +kernel
theorem dJ6_bitCount_0f7a4_8 : decode cJ6_bitCount_0f7a4 8 = .ok (.isub, 1) := by decide +kernel
theorem dJ6_bitCount_0f7a4_9 : decode cJ6_bitCount_0f7a4 9 = .ok (.istore_n 0, 1) := by decide +kernel
theorem dJ6_bitCount_0f7a4_10 : decode cJ6_bitCount_0f7a4 10 = .ok (.iload_n 0, 1) := by decide +kernel
theorem dJ6_bitCount_0f7a4_11 : decode cJ6_bitCount_0f7a4 11 = .ok (.ldc_w 266, 3) := by decide +kernel
theorem dJ6_bitCount_0f7a4_14 : decode cJ6_bitCount_0f7a4 14 = .ok (.iand, 1) := by decide +kernel
theorem dJ6_bitCount_0f7a4_15 : decode cJ6_bitCount_0f7a4 15 = .ok (.iload_n 0, 1) := by decide +kernel
theorem dJ6_bitCount_0f7a4_16 : decode cJ6_bitCount_0f7a4 16 = .ok (.iconst 2, 1) := by decide +kernel
theorem dJ6_bitCount_0f7a4_17 : decode cJ6_bitCount_0f7a4 17 = .ok (.iushr, 1) := by decide +kernel
theorem dJ6_bitCount_0f7a4_18 : decode cJ6_bitCount_0f7a4 18 = .ok (.ldc_w 266, 3) := by decide +kernel
theorem dJ6_bitCount_0f7a4_21 : decode cJ6_bitCount_0f7a4 21 = .ok (.iand, 1) := by decide +kernel
theorem dJ6_bitCount_0f7a4_22 : decode cJ6_bitCount_0f7a4 22 = .ok (.iadd, 1) := by decide +kernel
theorem dJ6_bitCount_0f7a4_23 : decode cJ6_bitCount_0f7a4 23 = .ok (.istore_n 0, 1) := by decide +kernel
theorem dJ6_bitCount_0f7a4_24 : decode cJ6_bitCount_0f7a4 24 = .ok (.iload_n 0, 1) := by decide +kernel
theorem dJ6_bitCount_0f7a4_25 : decode cJ6_bitCount_0f7a4 25 = .ok (.iload_n 0, 1) := by decide +kernel
theorem dJ6_bitCount_0f7a4_26 : decode cJ6_bitCount_0f7a4 26 = .ok (.iconst 4, 1) := by decide +kernel
theorem dJ6_bitCount_0f7a4_27 : decode cJ6_bitCount_0f7a4 27 = .ok (.iushr, 1) := by decide +kernel
theorem dJ6_bitCount_0f7a4_28 : decode cJ6_bitCount_0f7a4 28 = .ok (.iadd, 1) := by decide +kernel
theorem dJ6_bitCount_0f7a4_29 : decode cJ6_bitCount_0f7a4 29 = .ok (.ldc_w 267, 3) := by decide +kernel
theorem dJ6_bitCount_0f7a4_32 : decode cJ6_bitCount_0f7a4 32 = .ok (.iand, 1) := by decide +kernel
theorem dJ6_bitCount_0f7a4_33 : decode cJ6_bitCount_0f7a4 33 = .ok (.istore_n 0, 1) := by decide +kernel
theorem dJ6_bitCount_0f7a4_34 : decode cJ6_bitCount_0f7a4 34 = .ok (.iload_n 0, 1) := by decide +kernel
theorem dJ6_bitCount_0f7a4_35 : decode cJ6_bitCount_0f7a4 35 = .ok (.iload_n 0, 1) := by decide +kernel
theorem dJ6_bitCount_0f7a4_36 : decode cJ6_bitCount_0f7a4 36 = .ok (.bipush 8, 2) := by decide +kernel
theorem dJ6_bitCount_0f7a4_38 : decode cJ6_bitCount_0f7a4 38 = .ok (.iushr, 1) := by decide +kernel
theorem dJ6_bitCount_0f7a4_39 : decode cJ6_bitCount_0f7a4 39 = .ok (.iadd, 1) := by decide +kernel
theorem dJ6_bitCount_0f7a4_40 : decode cJ6_bitCount_0f7a4 40 = .ok (.istore_n 0, 1) := by decide +kernel
theorem dJ6_bitCount_0f7a4_41 : decode cJ6_bitCount_0f7a4 41 = .ok (.iload_n 0, 1) := by decide +kernel
theorem dJ6_bitCount_0f7a4_42 : decode cJ6_bitCount_0f7a4 42 = .ok (.iload_n 0, 1) := by decide +kernel
theorem dJ6_bitCount_0f7a4_43 : decode cJ6_bitCount_0f7a4 43 = .ok (.bipush 16, 2) := by decide +kernel
theorem dJ6_bitCount_0f7a4_45 : decode cJ6_bitCount_0f7a4 45 = .ok (.iushr, 1) := by decide +kernel
theorem dJ6_bitCount_0f7a4_46 : decode cJ6_bitCount_0f7a4 46 = .ok (.iadd, 1) := by decide +kernel
theorem dJ6_bitCount_0f7a4_47 : decode cJ6_bitCount_0f7a4 47 = .ok (.istore_n 0, 1) := by decide +kernel
theorem dJ6_bitCount_0f7a4_48 : decode cJ6_bitCount_0f7a4 48 = .ok (.iload_n 0, 1) := by decide +kernel
theorem dJ6_bitCount_0f7a4_49 : decode cJ6_bitCount_0f7a4 49 = .ok (.bipush 63, 2) := by decide +kernel
theorem dJ6_bitCount_0f7a4_51 : decode cJ6_bitCount_0f7a4 51 = .ok (.iand, 1) := by decide +kernel
theorem dJ6_bitCount_0f7a4_52 : decode cJ6_bitCount_0f7a4 52 = .ok (.ireturn, 1) := by decide +kernel
theorem dJ9_abs_0f7a4_0 : decode cJ9_abs_0f7a4 0 = .ok (.iload_n 0, 1) := by decide +kernel
theorem dJ9_abs_0f7a4_1 : decode cJ9_abs_0f7a4 1 = .ok (.ifCond .ge 8, 3) := by decide +kernel
theorem dJ9_abs_0f7a4_4 : decode cJ9_abs_0f7a4 4 = .ok (.iload_n 0, 1) := by decide +kernel
theorem dJ9_abs_0f7a4_5 : decode cJ9_abs_0f7a4 5 = .ok (.ineg, 1) := by decide +kernel
theorem dJ9_abs_0f7a4_6 : decode cJ9_abs_0f7a4 6 = .ok (.goto 4, 3) := by decide +kernel
theorem dJ9_abs_0f7a4_9 : decode cJ9_abs_0f7a4 9 = .ok (.iload_n 0, 1) := by decide +kernel
theorem dJ9_abs_0f7a4_10 : decode cJ9_abs_0f7a4 10 = .ok (.ireturn, 1) := by decide +kernel
theorem dJ9_max_7cf53_0 : decode cJ9_max_7cf53 0 = .ok (.iload_n 0, 1) := by decide +kernel
theorem dJ9_max_7cf53_1 : decode cJ9_max_7cf53 1 = .ok (.iload_n 1, 1) := by decide +kernel
theorem dJ9_max_7cf53_2 : decode cJ9_max_7cf53 2 = .ok (.if_icmp .lt 7, 3) := by decide +kernel
theorem dJ9_max_7cf53_5 : decode cJ9_max_7cf53 5 = .ok (.iload_n 0, 1) := by decide +kernel
theorem dJ9_max_7cf53_6 : decode cJ9_max_7cf53 6 = .ok (.goto 4, 3) := by decide +kernel
theorem dJ9_max_7cf53_9 : decode cJ9_max_7cf53 9 = .ok (.iload_n 1, 1) := by decide +kernel
theorem dJ9_max_7cf53_10 : decode cJ9_max_7cf53 10 = .ok (.ireturn, 1) := by decide +kernel
theorem dJ9_min_7cf53_0 : decode cJ9_min_7cf53 0 = .ok (.iload_n 0, 1) := by decide +kernel
theorem dJ9_min_7cf53_1 : decode cJ9_min_7cf53 1 = .ok (.iload_n 1, 1) := by decide +kernel
theorem dJ9_min_7cf53_2 : decode cJ9_min_7cf53 2 = .ok (.if_icmp .gt 7, 3) := by decide +kernel
theorem dJ9_min_7cf53_5 : decode cJ9_min_7cf53 5 = .ok (.iload_n 0, 1) := by decide +kernel
theorem dJ9_min_7cf53_6 : decode cJ9_min_7cf53 6 = .ok (.goto 4, 3) := by decide +kernel
theorem dJ9_min_7cf53_9 : decode cJ9_min_7cf53 9 = .ok (.iload_n 1, 1) := by decide +kernel
theorem dJ9_min_7cf53_10 : decode cJ9_min_7cf53 10 = .ok (.ireturn, 1) := by decide +kernel
theorem dJxa1e45_init_da8c8_0 : decode cJxa1e45_init_da8c8 0 = .ok (.aload_n 0, 1) := by decide +kernel
theorem dJxa1e45_init_da8c8_1 : decode cJxa1e45_init_da8c8 1 = .ok (.invokespecial 1, 3) := by decide +kernel
theorem dJxa1e45_init_da8c8_4 : decode cJxa1e45_init_da8c8 4 = .ok (.return_, 1) := by decide +kernel
theorem dJxc12de_init_da8c8_0 : decode cJxc12de_init_da8c8 0 = .ok (.aload_n 0, 1) := by decide +kernel
theorem dJxc12de_init_da8c8_1 : decode cJxc12de_init_da8c8 1 = .ok (.invokespecial 1, 3) := by decide +kernel
theorem dJxc12de_init_da8c8_4 : decode cJxc12de_init_da8c8 4 = .ok (.aload_n 0, 1) := by decide +kernel
theorem dJxc12de_init_da8c8_5 : decode cJxc12de_init_da8c8 5 = .ok (.iconst 0, 1) := by decide +kernel
theorem dJxc12de_init_da8c8_6 : decode cJxc12de_init_da8c8 6 = .ok (.putfield 7, 3) := by decide +kernel
theorem dJxc12de_init_da8c8_9 : decode cJxc12de_init_da8c8 9 = .ok (.return_, 1) := by decide +kernel
theorem dJx4a65c_init_da8c8_0 : decode cJx4a65c_init_da8c8 0 = .ok (.aload_n 0, 1) := by decide +kernel
theorem dJx4a65c_init_da8c8_1 : decode cJx4a65c_init_da8c8 1 = .ok (.invokespecial 1, 3) := by decide +kernel
theorem dJx4a65c_init_da8c8_4 : decode cJx4a65c_init_da8c8 4 = .ok (.aload_n 0, 1) := by decide +kernel
theorem dJx4a65c_init_da8c8_5 : decode cJx4a65c_init_da8c8 5 = .ok (.getstatic 39, 3) := by decide +kernel
theorem dJx4a65c_init_da8c8_8 : decode cJx4a65c_init_da8c8 8 = .ok (.putfield 9, 3) := by decide +kernel
theorem dJx4a65c_init_da8c8_11 : decode cJx4a65c_init_da8c8 11 = .ok (.return_, 1) := by decide +kernel
theorem dJx4a65c_grow_92f84_0 : decode cJx4a65c_grow_92f84 0 = .ok (.aload_n 0, 1) := by decide +kernel
theorem dJx4a65c_grow_92f84_1 : decode cJx4a65c_grow_92f84 1 = .ok (.getfield 9, 3) := by decide +kernel
theorem dJx4a65c_grow_92f84_4 : decode cJx4a65c_grow_92f84 4 = .ok (.arraylength, 1) := by decide +kernel
theorem dJx4a65c_grow_92f84_5 : decode cJx4a65c_grow_92f84 5 = .ok (.istore_n 2, 1) := by decide +kernel
theorem dJx4a65c_grow_92f84_6 : decode cJx4a65c_grow_92f84 6 = .ok (.iload_n 2, 1) := by decide +kernel
theorem dJx4a65c_grow_92f84_7 : decode cJx4a65c_grow_92f84 7 = .ok (.ifCond .gt 13, 3) := by decide +kernel
theorem dJx4a65c_grow_92f84_10 : decode cJx4a65c_grow_92f84 10 = .ok (.aload_n 0, 1) := by decide +kernel
theorem dJx4a65c_grow_92f84_11 : decode cJx4a65c_grow_92f84 11 = .ok (.getfield 9, 3) := by decide +kernel
theorem dJx4a65c_grow_92f84_14 : decode cJx4a65c_grow_92f84 14 = .ok (.getstatic 39, 3) := by decide +kernel
theorem dJx4a65c_grow_92f84_17 : decode cJx4a65c_grow_92f84 17 = .ok (.if_acmp .eq 28, 3) := by decide +kernel
theorem dJx4a65c_grow_92f84_20 : decode cJx4a65c_grow_92f84 20 = .ok (.iload_n 2, 1) := by decide +kernel
theorem dJx4a65c_grow_92f84_21 : decode cJx4a65c_grow_92f84 21 = .ok (.iload_n 1, 1) := by decide +kernel
theorem dJx4a65c_grow_92f84_22 : decode cJx4a65c_grow_92f84 22 = .ok (.iload_n 2, 1) := by decide +kernel
theorem dJx4a65c_grow_92f84_23 : decode cJx4a65c_grow_92f84 23 = .ok (.isub, 1) := by decide +kernel
theorem dJx4a65c_grow_92f84_24 : decode cJx4a65c_grow_92f84 24 = .ok (.iload_n 2, 1) := by decide +kernel
theorem dJx4a65c_grow_92f84_25 : decode cJx4a65c_grow_92f84 25 = .ok (.iconst 1, 1) := by decide +kernel
theorem dJx4a65c_grow_92f84_26 : decode cJx4a65c_grow_92f84 26 = .ok (.ishr, 1) := by decide +kernel
theorem dJx4a65c_grow_92f84_27 : decode cJx4a65c_grow_92f84 27 = .ok (.invokestatic 73, 3) := by decide +kernel
theorem dJx4a65c_grow_92f84_30 : decode cJx4a65c_grow_92f84 30 = .ok (.istore_n 3, 1) := by decide +kernel
theorem dJx4a65c_grow_92f84_31 : decode cJx4a65c_grow_92f84 31 = .ok (.aload_n 0, 1) := by decide +kernel
theorem dJx4a65c_grow_92f84_32 : decode cJx4a65c_grow_92f84 32 = .ok (.aload_n 0, 1) := by decide +kernel
theorem dJx4a65c_grow_92f84_33 : decode cJx4a65c_grow_92f84 33 = .ok (.getfield 9, 3) := by decide +kernel
theorem dJx4a65c_grow_92f84_36 : decode cJx4a65c_grow_92f84 36 = .ok (.iload_n 3, 1) := by decide +kernel
theorem dJx4a65c_grow_92f84_37 : decode cJx4a65c_grow_92f84 37 = .ok (.invokestatic 66, 3) := by decide +kernel
theorem dJx4a65c_grow_92f84_40 : decode cJx4a65c_grow_92f84 40 = .ok (.dup_x1, 1) := by decide +kernel
theorem dJx4a65c_grow_92f84_41 : decode cJx4a65c_grow_92f84 41 = .ok (.putfield 9, 3) := by decide +kernel
theorem dJx4a65c_grow_92f84_44 : decode cJx4a65c_grow_92f84 44 = .ok (.areturn, 1) := by decide +kernel
theorem dJx4a65c_grow_92f84_45 : decode cJx4a65c_grow_92f84 45 = .ok (.aload_n 0, 1) := by decide +kernel
theorem dJx4a65c_grow_92f84_46 : decode cJx4a65c_grow_92f84 46 = .ok (.bipush 10, 2) := by decide +kernel
theorem dJx4a65c_grow_92f84_48 : decode cJx4a65c_grow_92f84 48 = .ok (.iload_n 1, 1) := by decide +kernel
theorem dJx4a65c_grow_92f84_49 : decode cJx4a65c_grow_92f84 49 = .ok (.invokestatic 79, 3) := by decide +kernel
theorem dJx4a65c_grow_92f84_52 : decode cJx4a65c_grow_92f84 52 = .ok (.anewarray 7, 3) := by decide +kernel
theorem dJx4a65c_grow_92f84_55 : decode cJx4a65c_grow_92f84 55 = .ok (.dup_x1, 1) := by decide +kernel
theorem dJx4a65c_grow_92f84_56 : decode cJx4a65c_grow_92f84 56 = .ok (.putfield 9, 3) := by decide +kernel
theorem dJx4a65c_grow_92f84_59 : decode cJx4a65c_grow_92f84 59 = .ok (.areturn, 1) := by decide +kernel
theorem dJx4a65c_grow_d5877_0 : decode cJx4a65c_grow_d5877 0 = .ok (.aload_n 0, 1) := by decide +kernel
theorem dJx4a65c_grow_d5877_1 : decode cJx4a65c_grow_d5877 1 = .ok (.aload_n 0, 1) := by decide +kernel
theorem dJx4a65c_grow_d5877_2 : decode cJx4a65c_grow_d5877 2 = .ok (.getfield 48, 3) := by decide +kernel
theorem dJx4a65c_grow_d5877_5 : decode cJx4a65c_grow_d5877 5 = .ok (.iconst 1, 1) := by decide +kernel
theorem dJx4a65c_grow_d5877_6 : decode cJx4a65c_grow_d5877 6 = .ok (.iadd, 1) := by decide +kernel
theorem dJx4a65c_grow_d5877_7 : decode cJx4a65c_grow_d5877 7 = .ok (.invokevirtual 69, 3) := by decide +kernel
theorem dJx4a65c_grow_d5877_10 : decode cJx4a65c_grow_d5877 10 = .ok (.areturn, 1) := by decide +kernel
theorem dJx4a65c_size_8abf5_0 : decode cJx4a65c_size_8abf5 0 = .ok (.aload_n 0, 1) := by decide +kernel
theorem dJx4a65c_size_8abf5_1 : decode cJx4a65c_size_8abf5 1 = .ok (.getfield 48, 3) := by decide +kernel
theorem dJx4a65c_size_8abf5_4 : decode cJx4a65c_size_8abf5 4 = .ok (.ireturn, 1) := by decide +kernel
theorem dJx4a65c_elementData_915e3_0 : decode cJx4a65c_elementData_915e3 0 = .ok (.aload_n 0, 1) := by decide +kernel
theorem dJx4a65c_elementData_915e3_1 : decode cJx4a65c_elementData_915e3 1 = .ok (.getfield 9, 3) := by decide +kernel
theorem dJx4a65c_elementData_915e3_4 : decode cJx4a65c_elementData_915e3 4 = .ok (.iload_n 1, 1) := by decide +kernel
theorem dJx4a65c_elementData_915e3_5 : decode cJx4a65c_elementData_915e3 5 = .ok (.aaload, 1) := by decide +kernel
theorem dJx4a65c_elementData_915e3_6 : decode cJx4a65c_elementData_915e3 6 = .ok (.areturn, 1) := by decide +kernel
theorem dJx4a65c_get_915e3_0 : decode cJx4a65c_get_915e3 0 = .ok (.iload_n 1, 1) := by decide +kernel
theorem dJx4a65c_get_915e3_1 : decode cJx4a65c_get_915e3 1 = .ok (.aload_n 0, 1) := by decide +kernel
theorem dJx4a65c_get_915e3_2 : decode cJx4a65c_get_915e3 2 = .ok (.getfield 48, 3) := by decide +kernel
theorem dJx4a65c_get_915e3_5 : decode cJx4a65c_get_915e3 5 = .ok (.invokestatic 118, 3) := by decide +kernel
theorem dJx4a65c_get_915e3_8 : decode cJx4a65c_get_915e3 8 = .ok (.pop, 1) := by decide +kernel
theorem dJx4a65c_get_915e3_9 : decode cJx4a65c_get_915e3 9 = .ok (.aload_n 0, 1) := by decide +kernel
theorem dJx4a65c_get_915e3_10 : decode cJx4a65c_get_915e3 10 = .ok (.iload_n 1, 1) := by decide +kernel
theorem dJx4a65c_get_915e3_11 : decode cJx4a65c_get_915e3 11 = .ok (.invokevirtual 123, 3) := by decide +kernel
theorem dJx4a65c_get_915e3_14 : decode cJx4a65c_get_915e3 14 = .ok (.areturn, 1) := by decide +kernel
theorem dJx4a65c_add_72be8_0 : decode cJx4a65c_add_72be8 0 = .ok (.iload_n 3, 1) := by decide +kernel
theorem dJx4a65c_add_72be8_1 : decode cJx4a65c_add_72be8 1 = .ok (.aload_n 2, 1) := by decide +kernel
theorem dJx4a65c_add_72be8_2 : decode cJx4a65c_add_72be8 2 = .ok (.arraylength, 1) := by decide +kernel
theorem dJx4a65c_add_72be8_3 : decode cJx4a65c_add_72be8 3 = .ok (.if_icmp .ne 8, 3) := by decide +kernel
theorem dJx4a65c_add_72be8_6 : decode cJx4a65c_add_72be8 6 = .ok (.aload_n 0, 1) := by decide +kernel
theorem dJx4a65c_add_72be8_7 : decode cJx4a65c_add_72be8 7 = .ok (.invokevirtual 129, 3) := by decide +kernel
theorem dJx4a65c_add_72be8_10 : decode cJx4a65c_add_72be8 10 = .ok (.astore_n 2, 1) := by decide +kernel
theorem dJx4a65c_add_72be8_11 : decode cJx4a65c_add_72be8 11 = .ok (.aload_n 2, 1) := by decide +kernel
theorem dJx4a65c_add_72be8_12 : decode cJx4a65c_add_72be8 12 = .ok (.iload_n 3, 1) := by decide +kernel
theorem dJx4a65c_add_72be8_13 : decode cJx4a65c_add_72be8 13 = .ok (.aload_n 1, 1) := by decide +kernel
theorem dJx4a65c_add_72be8_14 : decode cJx4a65c_add_72be8 14 = .ok (.aastore, 1) := by decide +kernel
theorem dJx4a65c_add_72be8_15 : decode cJx4a65c_add_72be8 15 = .ok (.aload_n 0, 1) := by decide +kernel
theorem dJx4a65c_add_72be8_16 : decode cJx4a65c_add_72be8 16 = .ok (.iload_n 3, 1) := by decide +kernel
theorem dJx4a65c_add_72be8_17 : decode cJx4a65c_add_72be8 17 = .ok (.iconst 1, 1) := by decide +kernel
theorem dJx4a65c_add_72be8_18 : decode cJx4a65c_add_72be8 18 = .ok (.iadd, 1) := by decide +kernel
theorem dJx4a65c_add_72be8_19 : decode cJx4a65c_add_72be8 19 = .ok (.putfield 48, 3) := by decide +kernel
theorem dJx4a65c_add_72be8_22 : decode cJx4a65c_add_72be8 22 = .ok (.return_, 1) := by decide +kernel
theorem dJx4a65c_add_9ea2d_0 : decode cJx4a65c_add_9ea2d 0 = .ok (.aload_n 0, 1) := by decide +kernel
theorem dJx4a65c_add_9ea2d_1 : decode cJx4a65c_add_9ea2d 1 = .ok (.dup, 1) := by decide +kernel
theorem dJx4a65c_add_9ea2d_2 : decode cJx4a65c_add_9ea2d 2 = .ok (.getfield 63, 3) := by decide +kernel
theorem dJx4a65c_add_9ea2d_5 : decode cJx4a65c_add_9ea2d 5 = .ok (.iconst 1, 1) := by decide +kernel
theorem dJx4a65c_add_9ea2d_6 : decode cJx4a65c_add_9ea2d 6 = .ok (.iadd, 1) := by decide +kernel
theorem dJx4a65c_add_9ea2d_7 : decode cJx4a65c_add_9ea2d 7 = .ok (.putfield 63, 3) := by decide +kernel
theorem dJx4a65c_add_9ea2d_10 : decode cJx4a65c_add_9ea2d 10 = .ok (.aload_n 0, 1) := by decide +kernel
theorem dJx4a65c_add_9ea2d_11 : decode cJx4a65c_add_9ea2d 11 = .ok (.aload_n 1, 1) := by decide +kernel
theorem dJx4a65c_add_9ea2d_12 : decode cJx4a65c_add_9ea2d 12 = .ok (.aload_n 0, 1) := by decide +kernel
theorem dJx4a65c_add_9ea2d_13 : decode cJx4a65c_add_9ea2d 13 = .ok (.getfield 9, 3) := by decide +kernel
theorem dJx4a65c_add_9ea2d_16 : decode cJx4a65c_add_9ea2d 16 = .ok (.aload_n 0, 1) := by decide +kernel
theorem dJx4a65c_add_9ea2d_17 : decode cJx4a65c_add_9ea2d 17 = .ok (.getfield 48, 3) := by decide +kernel
theorem dJx4a65c_add_9ea2d_20 : decode cJx4a65c_add_9ea2d 20 = .ok (.invokevirtual 131, 3) := by decide +kernel
theorem dJx4a65c_add_9ea2d_23 : decode cJx4a65c_add_9ea2d 23 = .ok (.iconst 1, 1) := by decide +kernel
theorem dJx4a65c_add_9ea2d_24 : decode cJx4a65c_add_9ea2d 24 = .ok (.ireturn, 1) := by decide +kernel
theorem dJ7_copyOf_1904c_0 : decode cJ7_copyOf_1904c 0 = .ok (.aload_n 0, 1) := by decide +kernel
theorem dJ7_copyOf_1904c_1 : decode cJ7_copyOf_1904c 1 = .ok (.iload_n 1, 1) := by decide +kernel
theorem dJ7_copyOf_1904c_2 : decode cJ7_copyOf_1904c 2 = .ok (.aload_n 0, 1) := by decide +kernel
theorem dJ7_copyOf_1904c_3 : decode cJ7_copyOf_1904c 3 = .ok (.invokevirtual 86, 3) := by decide +kernel
theorem dJ7_copyOf_1904c_6 : decode cJ7_copyOf_1904c 6 = .ok (.invokestatic 300, 3) := by decide +kernel
theorem dJ7_copyOf_1904c_9 : decode cJ7_copyOf_1904c 9 = .ok (.areturn, 1) := by decide +kernel
theorem dJ7_copyOf_6403c_0 : decode cJ7_copyOf_6403c 0 = .ok (.aload_n 2, 1) := by decide +kernel
theorem dJ7_copyOf_6403c_1 : decode cJ7_copyOf_6403c 1 = .ok (.ldc 110, 2) := by decide +kernel
theorem dJ7_copyOf_6403c_3 : decode cJ7_copyOf_6403c 3 = .ok (.if_acmp .ne 10, 3) := by decide +kernel
theorem dJ7_copyOf_6403c_6 : decode cJ7_copyOf_6403c 6 = .ok (.iload_n 1, 1) := by decide +kernel
theorem dJ7_copyOf_6403c_7 : decode cJ7_copyOf_6403c 7 = .ok (.anewarray 2, 3) := by decide +kernel
theorem dJ7_copyOf_6403c_10 : decode cJ7_copyOf_6403c 10 = .ok (.goto 14, 3) := by decide +kernel
theorem dJ7_copyOf_6403c_13 : decode cJ7_copyOf_6403c 13 = .ok (.aload_n 2, 1) := by decide +kernel
theorem dJ7_copyOf_6403c_14 : decode cJ7_copyOf_6403c 14 = .ok (.invokevirtual 90, 3) := by decide +kernel
theorem dJ7_copyOf_6403c_17 : decode cJ7_copyOf_6403c 17 = .ok (.iload_n 1, 1) := by decide +kernel
theorem dJ7_copyOf_6403c_18 : decode cJ7_copyOf_6403c 18 = .ok (.invokestatic 95, 3) := by decide +kernel
theorem dJ7_copyOf_6403c_21 : decode cJ7_copyOf_6403c 21 = .ok (.checkcast 110, 3) := by decide +kernel
theorem dJ7_copyOf_6403c_24 : decode cJ7_copyOf_6403c 24 = .ok (.astore_n 3, 1) := by decide +kernel
theorem dJ7_copyOf_6403c_25 : decode cJ7_copyOf_6403c 25 = .ok (.aload_n 0, 1) := by decide +kernel
theorem dJ7_copyOf_6403c_26 : decode cJ7_copyOf_6403c 26 = .ok (.iconst 0, 1) := by decide +kernel
theorem dJ7_copyOf_6403c_27 : decode cJ7_copyOf_6403c 27 = .ok (.aload_n 3, 1) := by decide +kernel
theorem dJ7_copyOf_6403c_28 : decode cJ7_copyOf_6403c 28 = .ok (.iconst 0, 1) := by decide +kernel
theorem dJ7_copyOf_6403c_29 : decode cJ7_copyOf_6403c 29 = .ok (.aload_n 0, 1) := by decide +kernel
theorem dJ7_copyOf_6403c_30 : decode cJ7_copyOf_6403c 30 = .ok (.arraylength, 1) := by decide +kernel
theorem dJ7_copyOf_6403c_31 : decode cJ7_copyOf_6403c 31 = .ok (.iload_n 1, 1) := by decide +kernel
theorem dJ7_copyOf_6403c_32 : decode cJ7_copyOf_6403c 32 = .ok (.invokestatic 304, 3) := by decide +kernel
theorem dJ7_copyOf_6403c_35 : decode cJ7_copyOf_6403c 35 = .ok (.invokestatic 150, 3) := by decide +kernel
theorem dJ7_copyOf_6403c_38 : decode cJ7_copyOf_6403c 38 = .ok (.aload_n 3, 1) := by decide +kernel
theorem dJ7_copyOf_6403c_39 : decode cJ7_copyOf_6403c 39 = .ok (.areturn, 1) := by decide +kernel
theorem dJ15_checkIndex_7cf53_0 : decode cJ15_checkIndex_7cf53 0 = .ok (.iload_n 0, 1) := by decide +kernel
theorem dJ15_checkIndex_7cf53_1 : decode cJ15_checkIndex_7cf53 1 = .ok (.iload_n 1, 1) := by decide +kernel
theorem dJ15_checkIndex_7cf53_2 : decode cJ15_checkIndex_7cf53 2 = .ok (.aconst_null, 1) := by decide +kernel
theorem dJ15_checkIndex_7cf53_3 : decode cJ15_checkIndex_7cf53 3 = .ok (.invokestatic 105, 3) := by decide +kernel
theorem dJ15_checkIndex_7cf53_6 : decode cJ15_checkIndex_7cf53 6 = .ok (.ireturn, 1) := by decide +kernel
theorem dJ8_newLength_cabcc_0 : decode cJ8_newLength_cabcc 0 = .ok (.iload_n 0, 1) := by decide +kernel
theorem dJ8_newLength_cabcc_1 : decode cJ8_newLength_cabcc 1 = .ok (.iload_n 1, 1) := by decide +kernel
theorem dJ8_newLength_cabcc_2 : decode cJ8_newLength_cabcc 2 = .ok (.iload_n 2, 1) := by decide +kernel
theorem dJ8_newLength_cabcc_3 : decode cJ8_newLength_cabcc 3 = .ok (.invokestatic 194, 3) := by decide +kernel
theorem dJ8_newLength_cabcc_6 : decode cJ8_newLength_cabcc 6 = .ok (.iadd, 1) := by decide +kernel
theorem dJ8_newLength_cabcc_7 : decode cJ8_newLength_cabcc 7 = .ok (.istore_n 3, 1) := by decide +kernel
theorem dJ8_newLength_cabcc_8 : decode cJ8_newLength_cabcc 8 = .ok (.iconst 0, 1) := by decide +kernel
theorem dJ8_newLength_cabcc_9 : decode cJ8_newLength_cabcc 9 = .ok (.iload_n 3, 1) := by decide +kernel
theorem dJ8_newLength_cabcc_10 : decode cJ8_newLength_cabcc 10 = .ok (.if_icmp .ge 11, 3) := by decide +kernel
theorem dJ8_newLength_cabcc_13 : decode cJ8_newLength_cabcc 13 = .ok (.iload_n 3, 1) := by decide +kernel
theorem dJ8_newLength_cabcc_14 : decode cJ8_newLength_cabcc 14 = .ok (.ldc 200, 2) := by decide +kernel
theorem dJ8_newLength_cabcc_16 : decode cJ8_newLength_cabcc 16 = .ok (.if_icmp .gt 5, 3) := by decide +kernel
theorem dJ8_newLength_cabcc_19 : decode cJ8_newLength_cabcc 19 = .ok (.iload_n 3, 1) := by decide +kernel
theorem dJ8_newLength_cabcc_20 : decode cJ8_newLength_cabcc 20 = .ok (.ireturn, 1) := by decide +kernel
theorem dJ8_newLength_cabcc_21 : decode cJ8_newLength_cabcc 21 = .ok (.iload_n 0, 1) := by decide +kernel
theorem dJ8_newLength_cabcc_22 : decode cJ8_newLength_cabcc 22 = .ok (.iload_n 1, 1) := by decide +kernel
theorem dJ8_newLength_cabcc_23 : decode cJ8_newLength_cabcc 23 = .ok (.invokestatic 201, 3) := by decide +kernel
theorem dJ8_newLength_cabcc_26 : decode cJ8_newLength_cabcc 26 = .ok (.ireturn, 1) := by decide +kernel
theorem dJ8_hugeLength_7cf53_0 : decode cJ8_hugeLength_7cf53 0 = .ok (.iload_n 0, 1) := by decide +kernel
theorem dJ8_hugeLength_7cf53_1 : decode cJ8_hugeLength_7cf53 1 = .ok (.iload_n 1, 1) := by decide +kernel
theorem dJ8_hugeLength_7cf53_2 : decode cJ8_hugeLength_7cf53 2 = .ok (.iadd, 1) := by decide +kernel
theorem dJ8_hugeLength_7cf53_3 : decode cJ8_hugeLength_7cf53 3 = .ok (.istore_n 2, 1) := by decide +kernel
theorem dJ8_hugeLength_7cf53_4 : decode cJ8_hugeLength_7cf53 4 = .ok (.iload_n 2, 1) := by decide +kernel
theorem dJ8_hugeLength_7cf53_5 : decode cJ8_hugeLength_7cf53 5 = .ok (.ifCond .ge 44, 3) := by decide +kernel
theorem dJ8_hugeLength_7cf53_8 : decode cJ8_hugeLength_7cf53 8 = .ok (.new 204, 3) := by decide +kernel
theorem dJ8_hugeLength_7cf53_11 : decode cJ8_hugeLength_7cf53 11 = .ok (.dup, 1) := by decide +kernel
theorem dJ8_hugeLength_7cf53_12 : decode cJ8_hugeLength_7cf53 12 = .ok (.new 89, 3) := by decide +kernel
theorem dJ8_hugeLength_7cf53_15 : decode cJ8_hugeLength_7cf53 15 = .ok (.dup, 1) := by decide +kernel
theorem dJ8_hugeLength_7cf53_16 : decode cJ8_hugeLength_7cf53 16 = .ok (.invokespecial 91, 3) := by decide +kernel
theorem dJ8_hugeLength_7cf53_19 : decode cJ8_hugeLength_7cf53 19 = .ok (.ldc 206, 2) := by decide +kernel
theorem dJ8_hugeLength_7cf53_21 : decode cJ8_hugeLength_7cf53 21 = .ok (.invokevirtual 94, 3) := by decide +kernel
theorem dJ8_hugeLength_7cf53_24 : decode cJ8_hugeLength_7cf53 24 = .ok (.iload_n 0, 1) := by decide +kernel
theorem dJ8_hugeLength_7cf53_25 : decode cJ8_hugeLength_7cf53 25 = .ok (.invokevirtual 98, 3) := by decide +kernel
theorem dJ8_hugeLength_7cf53_28 : decode cJ8_hugeLength_7cf53 28 = .ok (.ldc 208, 2) := by decide +kernel
theorem dJ8_hugeLength_7cf53_30 : decode cJ8_hugeLength_7cf53 30 = .ok (.invokevirtual 94, 3) := by decide +kernel
theorem dJ8_hugeLength_7cf53_33 : decode cJ8_hugeLength_7cf53 33 = .ok (.iload_n 1, 1) := by decide +kernel
theorem dJ8_hugeLength_7cf53_34 : decode cJ8_hugeLength_7cf53 34 = .ok (.invokevirtual 98, 3) := by decide +kernel
theorem dJ8_hugeLength_7cf53_37 : decode cJ8_hugeLength_7cf53 37 = .ok (.ldc 210, 2) := by decide +kernel
theorem dJ8_hugeLength_7cf53_39 : decode cJ8_hugeLength_7cf53 39 = .ok (.invokevirtual 94, 3) := by decide +kernel
theorem dJ8_hugeLength_7cf53_42 : decode cJ8_hugeLength_7cf53 42 = .ok (.invokevirtual 101, 3) := by decide +kernel
theorem dJ8_hugeLength_7cf53_45 : decode cJ8_hugeLength_7cf53 45 = .ok (.invokespecial 212, 3) := by decide +kernel
theorem dJ8_hugeLength_7cf53_48 : decode cJ8_hugeLength_7cf53 48 = .ok (.athrow, 1) := by decide +kernel
theorem dJ8_hugeLength_7cf53_49 : decode cJ8_hugeLength_7cf53 49 = .ok (.iload_n 2, 1) := by decide +kernel
theorem dJ8_hugeLength_7cf53_50 : decode cJ8_hugeLength_7cf53 50 = .ok (.ldc 200, 2) := by decide +kernel
theorem dJ8_hugeLength_7cf53_52 : decode cJ8_hugeLength_7cf53 52 = .ok (.if_icmp .gt 6, 3) := by decide +kernel
theorem dJ8_hugeLength_7cf53_55 : decode cJ8_hugeLength_7cf53 55 = .ok (.ldc 200, 2) := by decide +kernel
theorem dJ8_hugeLength_7cf53_57 : decode cJ8_hugeLength_7cf53 57 = .ok (.ireturn, 1) := by decide +kernel
theorem dJ8_hugeLength_7cf53_58 : decode cJ8_hugeLength_7cf53 58 = .ok (.iload_n 2, 1) := by decide +kernel
theorem dJ8_hugeLength_7cf53_59 : decode cJ8_hugeLength_7cf53 59 = .ok (.ireturn, 1) := by decide +kernel
theorem dJ3_checkIndex_8e157_0 : decode cJ3_checkIndex_8e157 0 = .ok (.iload_n 0, 1) := by decide +kernel
theorem dJ3_checkIndex_8e157_1 : decode cJ3_checkIndex_8e157 1 = .ok (.ifCond .lt 8, 3) := by decide +kernel
theorem dJ3_checkIndex_8e157_4 : decode cJ3_checkIndex_8e157 4 = .ok (.iload_n 0, 1) := by decide +kernel
theorem dJ3_checkIndex_8e157_5 : decode cJ3_checkIndex_8e157 5 = .ok (.iload_n 1, 1) := by decide +kernel
theorem dJ3_checkIndex_8e157_6 : decode cJ3_checkIndex_8e157 6 = .ok (.if_icmp .lt 10, 3) := by decide +kernel
theorem dJ3_checkIndex_8e157_9 : decode cJ3_checkIndex_8e157 9 = .ok (.aload_n 2, 1) := by decide +kernel
theorem dJ3_checkIndex_8e157_10 : decode cJ3_checkIndex_8e157 10 = .ok (.iload_n 0, 1) := by decide +kernel
theorem dJ3_checkIndex_8e157_11 : decode cJ3_checkIndex_8e157 11 = .ok (.iload_n 1, 1) := by decide +kernel
theorem dJ3_checkIndex_8e157_12 : decode cJ3_checkIndex_8e157 12 = .ok (.invokestatic 95, 3) := by decide +kernel
theorem dJ3_checkIndex_8e157_15 : decode cJ3_checkIndex_8e157 15 = .ok (.athrow, 1) := by decide +kernel
theorem dJ3_checkIndex_8e157_16 : decode cJ3_checkIndex_8e157 16 = .ok (.iload_n 0, 1) := by decide +kernel
theorem dJ3_checkIndex_8e157_17 : decode cJ3_checkIndex_8e157 17 = .ok (.ireturn, 1) := by decide +kernel
