theorem dX0_init_0 : decode cX0_init 0 = .ok (.aload_n 0, 1) := by decide +kernel
theorem dX0_init_1 : decode cX0_init 1 = .ok (.invokespecial 3, 3) := by decide +kernel
theorem dX0_init_4 : decode cX0_init 4 = .ok (.aload_n 0, 1) := by decide +kernel
theorem dX0_init_5 : decode cX0_init 5 = .ok (.bipush 12, 2) := by decide +kernel
theorem dX0_init_7 : decode cX0_init 7 = .ok (.anewarray 9, 3) := by decide +kernel
theorem dX0_init_10 : decode cX0_init 10 = .ok (.putfield 11, 3) := by decide +kernel
theorem dX0_init_13 : decode cX0_init 13 = .ok (.iconst 0, 1) := by decide +kernel
theorem dX0_init_14 : decode cX0_init 14 = .ok (.istore_n 1, 1) := by decide +kernel
theorem dX0_init_15 : decode cX0_init 15 = .ok (.iload_n 1, 1) := by decide +kernel
theorem dX0_init_16 : decode cX0_init 16 = .ok (.bipush 12, 2) := by decide +kernel
theorem dX0_init_18 : decode cX0_init 18 = .ok (.if_icmp .ge 22, 3) := by decide +kernel
theorem dX0_init_21 : decode cX0_init 21 = .ok (.aload_n 0, 1) := by decide +kernel
theorem dX0_init_22 : decode cX0_init 22 = .ok (.getfield 11, 3) := by decide +kernel
theorem dX0_init_25 : decode cX0_init 25 = .ok (.iload_n 1, 1) := by decide +kernel
theorem dX0_init_26 : decode cX0_init 26 = .ok (.new 9, 3) := by decide +kernel
theorem dX0_init_29 : decode cX0_init 29 = .ok (.dup, 1) := by decide +kernel
theorem dX0_init_30 : decode cX0_init 30 = .ok (.invokespecial 17, 3) := by decide +kernel
theorem dX0_init_33 : decode cX0_init 33 = .ok (.aastore, 1) := by decide +kernel
theorem dX0_init_34 : decode cX0_init 34 = .ok (.iinc 1 1, 3) := by decide +kernel
theorem dX0_init_37 : decode cX0_init 37 = .ok (.goto (-22), 3) := by decide +kernel
theorem dX0_init_40 : decode cX0_init 40 = .ok (.aload_n 0, 1) := by decide +kernel
theorem dX0_init_41 : decode cX0_init 41 = .ok (.iconst 0, 1) := by decide +kernel
theorem dX0_init_42 : decode cX0_init 42 = .ok (.putfield 18, 3) := by decide +kernel
theorem dX0_init_45 : decode cX0_init 45 = .ok (.aload_n 0, 1) := by decide +kernel
theorem dX0_init_46 : decode cX0_init 46 = .ok (.bipush 20, 2) := by decide +kernel
theorem dX0_init_48 : decode cX0_init 48 = .ok (.putfield 22, 3) := by decide +kernel
theorem dX0_init_51 : decode cX0_init 51 = .ok (.return_, 1) := by decide +kernel
theorem dX0_become_0 : decode cX0_become 0 = .ok (.aload_n 0, 1) := by decide +kernel
theorem dX0_become_1 : decode cX0_become 1 = .ok (.aload_n 1, 1) := by decide +kernel
theorem dX0_become_2 : decode cX0_become 2 = .ok (.getfield 18, 3) := by decide +kernel
theorem dX0_become_5 : decode cX0_become 5 = .ok (.putfield 18, 3) := by decide +kernel
theorem dX0_become_8 : decode cX0_become 8 = .ok (.aload_n 0, 1) := by decide +kernel
theorem dX0_become_9 : decode cX0_become 9 = .ok (.aload_n 1, 1) := by decide +kernel
theorem dX0_become_10 : decode cX0_become 10 = .ok (.getfield 22, 3) := by decide +kernel
theorem dX0_become_13 : decode cX0_become 13 = .ok (.putfield 22, 3) := by decide +kernel
theorem dX0_become_16 : decode cX0_become 16 = .ok (.iconst 0, 1) := by decide +kernel
theorem dX0_become_17 : decode cX0_become 17 = .ok (.istore_n 2, 1) := by decide +kernel
theorem dX0_become_18 : decode cX0_become 18 = .ok (.iload_n 2, 1) := by decide +kernel
theorem dX0_become_19 : decode cX0_become 19 = .ok (.aload_n 0, 1) := by decide +kernel
theorem dX0_become_20 : decode cX0_become 20 = .ok (.getfield 18, 3) := by decide +kernel
theorem dX0_become_23 : decode cX0_become 23 = .ok (.if_icmp .ge 24, 3) := by decide +kernel
theorem dX0_become_26 : decode cX0_become 26 = .ok (.aload_n 0, 1) := by decide +kernel
theorem dX0_become_27 : decode cX0_become 27 = .ok (.getfield 11, 3) := by decide +kernel
theorem dX0_become_30 : decode cX0_become 30 = .ok (.iload_n 2, 1) := by decide +kernel
theorem dX0_become_31 : decode cX0_become 31 = .ok (.aaload, 1) := by decide +kernel
theorem dX0_become_32 : decode cX0_become 32 = .ok (.aload_n 1, 1) := by decide +kernel
theorem dX0_become_33 : decode cX0_become 33 = .ok (.getfield 11, 3) := by decide +kernel
theorem dX0_become_36 : decode cX0_become 36 = .ok (.iload_n 2, 1) := by decide +kernel
theorem dX0_become_37 : decode cX0_become 37 = .ok (.aaload, 1) := by decide +kernel
theorem dX0_become_38 : decode cX0_become 38 = .ok (.invokevirtual 25, 3) := by decide +kernel
theorem dX0_become_41 : decode cX0_become 41 = .ok (.iinc 2 1, 3) := by decide +kernel
theorem dX0_become_44 : decode cX0_become 44 = .ok (.goto (-26), 3) := by decide +kernel
theorem dX0_become_47 : decode cX0_become 47 = .ok (.return_, 1) := by decide +kernel
theorem dX0_has_0 : decode cX0_has 0 = .ok (.iload_n 1, 1) := by decide +kernel
theorem dX0_has_1 : decode cX0_has 1 = .ok (.ifCond .lt 15, 3) := by decide +kernel
theorem dX0_has_4 : decode cX0_has 4 = .ok (.iload_n 1, 1) := by decide +kernel
theorem dX0_has_5 : decode cX0_has 5 = .ok (.aload_n 0, 1) := by decide +kernel
theorem dX0_has_6 : decode cX0_has 6 = .ok (.getfield 18, 3) := by decide +kernel
theorem dX0_has_9 : decode cX0_has 9 = .ok (.if_icmp .ge 7, 3) := by decide +kernel
theorem dX0_has_12 : decode cX0_has 12 = .ok (.iconst 1, 1) := by decide +kernel
theorem dX0_has_13 : decode cX0_has 13 = .ok (.goto 4, 3) := by decide +kernel
theorem dX0_has_16 : decode cX0_has 16 = .ok (.iconst 0, 1) := by decide +kernel
theorem dX0_has_17 : decode cX0_has 17 = .ok (.ireturn, 1) := by decide +kernel
theorem dX0_hasAll_0 : decode cX0_hasAll 0 = .ok (.iload_n 1, 1) := by decide +kernel
theorem dX0_hasAll_1 : decode cX0_hasAll 1 = .ok (.iconst 1, 1) := by decide +kernel
theorem dX0_hasAll_2 : decode cX0_hasAll 2 = .ok (.aload_n 0, 1) := by decide +kernel
theorem dX0_hasAll_3 : decode cX0_hasAll 3 = .ok (.getfield 18, 3) := by decide +kernel
theorem dX0_hasAll_6 : decode cX0_hasAll 6 = .ok (.ishl, 1) := by decide +kernel
theorem dX0_hasAll_7 : decode cX0_hasAll 7 = .ok (.ineg, 1) := by decide +kernel
theorem dX0_hasAll_8 : decode cX0_hasAll 8 = .ok (.iand, 1) := by decide +kernel
theorem dX0_hasAll_9 : decode cX0_hasAll 9 = .ok (.ifCond .ne 7, 3) := by decide +kernel
theorem dX0_hasAll_12 : decode cX0_hasAll 12 = .ok (.iconst 1, 1) := by decide +kernel
theorem dX0_hasAll_13 : decode cX0_hasAll 13 = .ok (.goto 4, 3) := by decide +kernel
theorem dX0_hasAll_16 : decode cX0_hasAll 16 = .ok (.iconst 0, 1) := by decide +kernel
theorem dX0_hasAll_17 : decode cX0_hasAll 17 = .ok (.ireturn, 1) := by decide +kernel
theorem dX0_isFull_0 : decode cX0_isFull 0 = .ok (.aload_n 0, 1) := by decide +kernel
theorem dX0_isFull_1 : decode cX0_isFull 1 = .ok (.getfield 18, 3) := by decide +kernel
theorem dX0_isFull_4 : decode cX0_isFull 4 = .ok (.bipush 12, 2) := by decide +kernel
theorem dX0_isFull_6 : decode cX0_isFull 6 = .ok (.if_icmp .lt 7, 3) := by decide +kernel
theorem dX0_isFull_9 : decode cX0_isFull 9 = .ok (.iconst 1, 1) := by decide +kernel
theorem dX0_isFull_10 : decode cX0_isFull 10 = .ok (.goto 4, 3) := by decide +kernel
theorem dX0_isFull_13 : decode cX0_isFull 13 = .ok (.iconst 0, 1) := by decide +kernel
theorem dX0_isFull_14 : decode cX0_isFull 14 = .ok (.ireturn, 1) := by decide +kernel
theorem dX0_hang_0 : decode cX0_hang 0 = .ok (.aload_n 0, 1) := by decide +kernel
theorem dX0_hang_1 : decode cX0_hang 1 = .ok (.invokevirtual 29, 3) := by decide +kernel
theorem dX0_hang_4 : decode cX0_hang 4 = .ok (.ifCond .eq 5, 3) := by decide +kernel
theorem dX0_hang_7 : decode cX0_hang 7 = .ok (.iconst (-1), 1) := by decide +kernel
theorem dX0_hang_8 : decode cX0_hang 8 = .ok (.ireturn, 1) := by decide +kernel
theorem dX0_hang_9 : decode cX0_hang 9 = .ok (.aload_n 0, 1) := by decide +kernel
theorem dX0_hang_10 : decode cX0_hang 10 = .ok (.getfield 11, 3) := by decide +kernel
theorem dX0_hang_13 : decode cX0_hang 13 = .ok (.aload_n 0, 1) := by decide +kernel
theorem dX0_hang_14 : decode cX0_hang 14 = .ok (.getfield 18, 3) := by decide +kernel
theorem dX0_hang_17 : decode cX0_hang 17 = .ok (.aaload, 1) := by decide +kernel
theorem dX0_hang_18 : decode cX0_hang 18 = .ok (.iload_n 1, 1) := by decide +kernel
theorem dX0_hang_19 : decode cX0_hang 19 = .ok (.lload_n 2, 1) := by decide +kernel
theorem dX0_hang_20 : decode cX0_hang 20 = .ok (.invokevirtual 33, 3) := by decide +kernel
theorem dX0_hang_23 : decode cX0_hang 23 = .ok (.aload_n 0, 1) := by decide +kernel
theorem dX0_hang_24 : decode cX0_hang 24 = .ok (.dup, 1) := by decide +kernel
theorem dX0_hang_25 : decode cX0_hang 25 = .ok (.getfield 18, 3) := by decide +kernel
theorem dX0_hang_28 : decode cX0_hang 28 = .ok (.iconst 1, 1) := by decide +kernel
theorem dX0_hang_29 : decode cX0_hang 29 = .ok (.iadd, 1) := by decide +kernel
theorem dX0_hang_30 : decode cX0_hang 30 = .ok (.putfield 18, 3) := by decide +kernel
theorem dX0_hang_33 : decode cX0_hang 33 = .ok (.aload_n 0, 1) := by decide +kernel
theorem dX0_hang_34 : decode cX0_hang 34 = .ok (.getfield 18, 3) := by decide +kernel
theorem dX0_hang_37 : decode cX0_hang 37 = .ok (.iconst 1, 1) := by decide +kernel
theorem dX0_hang_38 : decode cX0_hang 38 = .ok (.isub, 1) := by decide +kernel
theorem dX0_hang_39 : decode cX0_hang 39 = .ok (.ireturn, 1) := by decide +kernel
theorem dX0_canBe_0 : decode cX0_canBe 0 = .ok (.aload_n 0, 1) := by decide +kernel
theorem dX0_canBe_1 : decode cX0_canBe 1 = .ok (.iload_n 1, 1) := by decide +kernel
theorem dX0_canBe_2 : decode cX0_canBe 2 = .ok (.iload_n 2, 1) := by decide +kernel
theorem dX0_canBe_3 : decode cX0_canBe 3 = .ok (.invokevirtual 37, 3) := by decide +kernel
theorem dX0_canBe_6 : decode cX0_canBe 6 = .ok (.ifCond .eq 16, 3) := by decide +kernel
theorem dX0_canBe_9 : decode cX0_canBe 9 = .ok (.aload_n 0, 1) := by decide +kernel
theorem dX0_canBe_10 : decode cX0_canBe 10 = .ok (.iload_n 1, 1) := by decide +kernel
theorem dX0_canBe_11 : decode cX0_canBe 11 = .ok (.iload_n 2, 1) := by decide +kernel
theorem dX0_canBe_12 : decode cX0_canBe 12 = .ok (.invokevirtual 41, 3) := by decide +kernel
theorem dX0_canBe_15 : decode cX0_canBe 15 = .ok (.ifCond .eq 7, 3) := by decide +kernel
theorem dX0_canBe_18 : decode cX0_canBe 18 = .ok (.iconst 1, 1) := by decide +kernel
theorem dX0_canBe_19 : decode cX0_canBe 19 = .ok (.goto 4, 3) := by decide +kernel
theorem dX0_canBe_22 : decode cX0_canBe 22 = .ok (.iconst 0, 1) := by decide +kernel
theorem dX0_canBe_23 : decode cX0_canBe 23 = .ok (.ireturn, 1) := by decide +kernel
theorem dX0_widthsAllow_0 : decode cX0_widthsAllow 0 = .ok (.aload_n 0, 1) := by decide +kernel
theorem dX0_widthsAllow_1 : decode cX0_widthsAllow 1 = .ok (.iload_n 1, 1) := by decide +kernel
theorem dX0_widthsAllow_2 : decode cX0_widthsAllow 2 = .ok (.iload_n 2, 1) := by decide +kernel
theorem dX0_widthsAllow_3 : decode cX0_widthsAllow 3 = .ok (.invokevirtual 44, 3) := by decide +kernel
theorem dX0_widthsAllow_6 : decode cX0_widthsAllow 6 = .ok (.aload_n 0, 1) := by decide +kernel
theorem dX0_widthsAllow_7 : decode cX0_widthsAllow 7 = .ok (.getfield 22, 3) := by decide +kernel
theorem dX0_widthsAllow_10 : decode cX0_widthsAllow 10 = .ok (.if_icmp .gt 7, 3) := by decide +kernel
theorem dX0_widthsAllow_13 : decode cX0_widthsAllow 13 = .ok (.iconst 1, 1) := by decide +kernel
theorem dX0_widthsAllow_14 : decode cX0_widthsAllow 14 = .ok (.goto 4, 3) := by decide +kernel
theorem dX0_widthsAllow_17 : decode cX0_widthsAllow 17 = .ok (.iconst 0, 1) := by decide +kernel
theorem dX0_widthsAllow_18 : decode cX0_widthsAllow 18 = .ok (.ireturn, 1) := by decide +kernel
theorem dX0_canAllBe_0 : decode cX0_canAllBe 0 = .ok (.iconst 0, 1) := by decide +kernel
theorem dX0_canAllBe_1 : decode cX0_canAllBe 1 = .ok (.istore_n 3, 1) := by decide +kernel
theorem dX0_canAllBe_2 : decode cX0_canAllBe 2 = .ok (.iload_n 3, 1) := by decide +kernel
theorem dX0_canAllBe_3 : decode cX0_canAllBe 3 = .ok (.aload_n 0, 1) := by decide +kernel
theorem dX0_canAllBe_4 : decode cX0_canAllBe 4 = .ok (.getfield 18, 3) := by decide +kernel
theorem dX0_canAllBe_7 : decode cX0_canAllBe 7 = .ok (.if_icmp .ge 28, 3) := by decide +kernel
theorem dX0_canAllBe_10 : decode cX0_canAllBe 10 = .ok (.iload_n 1, 1) := by decide +kernel
theorem dX0_canAllBe_11 : decode cX0_canAllBe 11 = .ok (.iconst 1, 1) := by decide +kernel
theorem dX0_canAllBe_12 : decode cX0_canAllBe 12 = .ok (.iload_n 3, 1) := by decide +kernel
theorem dX0_canAllBe_13 : decode cX0_canAllBe 13 = .ok (.ishl, 1) := by decide +kernel
theorem dX0_canAllBe_14 : decode cX0_canAllBe 14 = .ok (.iand, 1) := by decide +kernel
theorem dX0_canAllBe_15 : decode cX0_canAllBe 15 = .ok (.ifCond .eq 14, 3) := by decide +kernel
theorem dX0_canAllBe_18 : decode cX0_canAllBe 18 = .ok (.aload_n 0, 1) := by decide +kernel
theorem dX0_canAllBe_19 : decode cX0_canAllBe 19 = .ok (.iload_n 3, 1) := by decide +kernel
theorem dX0_canAllBe_20 : decode cX0_canAllBe 20 = .ok (.iload_n 2, 1) := by decide +kernel
theorem dX0_canAllBe_21 : decode cX0_canAllBe 21 = .ok (.invokevirtual 48, 3) := by decide +kernel
theorem dX0_canAllBe_24 : decode cX0_canAllBe 24 = .ok (.ifCond .ne 5, 3) := by decide +kernel
theorem dX0_canAllBe_27 : decode cX0_canAllBe 27 = .ok (.iconst 0, 1) := by decide +kernel
theorem dX0_canAllBe_28 : decode cX0_canAllBe 28 = .ok (.ireturn, 1) := by decide +kernel
theorem dX0_canAllBe_29 : decode cX0_canAllBe 29 = .ok (.iinc 3 1, 3) := by decide +kernel
theorem dX0_canAllBe_32 : decode cX0_canAllBe 32 = .ok (.goto (-30), 3) := by decide +kernel
theorem dX0_canAllBe_35 : decode cX0_canAllBe 35 = .ok (.iconst 1, 1) := by decide +kernel
theorem dX0_canAllBe_36 : decode cX0_canAllBe 36 = .ok (.ireturn, 1) := by decide +kernel
theorem dX0_marksAllow_0 : decode cX0_marksAllow 0 = .ok (.aload_n 0, 1) := by decide +kernel
theorem dX0_marksAllow_1 : decode cX0_marksAllow 1 = .ok (.getfield 11, 3) := by decide +kernel
theorem dX0_marksAllow_4 : decode cX0_marksAllow 4 = .ok (.iload_n 2, 1) := by decide +kernel
theorem dX0_marksAllow_5 : decode cX0_marksAllow 5 = .ok (.aaload, 1) := by decide +kernel
theorem dX0_marksAllow_6 : decode cX0_marksAllow 6 = .ok (.getfield 51, 3) := by decide +kernel
theorem dX0_marksAllow_9 : decode cX0_marksAllow 9 = .ok (.iconst 4, 1) := by decide +kernel
theorem dX0_marksAllow_10 : decode cX0_marksAllow 10 = .ok (.if_icmp .eq 27, 3) := by decide +kernel
theorem dX0_marksAllow_13 : decode cX0_marksAllow 13 = .ok (.aload_n 0, 1) := by decide +kernel
theorem dX0_marksAllow_14 : decode cX0_marksAllow 14 = .ok (.getfield 11, 3) := by decide +kernel
theorem dX0_marksAllow_17 : decode cX0_marksAllow 17 = .ok (.iload_n 1, 1) := by decide +kernel
theorem dX0_marksAllow_18 : decode cX0_marksAllow 18 = .ok (.aaload, 1) := by decide +kernel
theorem dX0_marksAllow_19 : decode cX0_marksAllow 19 = .ok (.invokevirtual 54, 3) := by decide +kernel
theorem dX0_marksAllow_22 : decode cX0_marksAllow 22 = .ok (.aload_n 0, 1) := by decide +kernel
theorem dX0_marksAllow_23 : decode cX0_marksAllow 23 = .ok (.getfield 11, 3) := by decide +kernel
theorem dX0_marksAllow_26 : decode cX0_marksAllow 26 = .ok (.iload_n 2, 1) := by decide +kernel
theorem dX0_marksAllow_27 : decode cX0_marksAllow 27 = .ok (.aaload, 1) := by decide +kernel
theorem dX0_marksAllow_28 : decode cX0_marksAllow 28 = .ok (.invokevirtual 58, 3) := by decide +kernel
theorem dX0_marksAllow_31 : decode cX0_marksAllow 31 = .ok (.land, 1) := by decide +kernel
theorem dX0_marksAllow_32 : decode cX0_marksAllow 32 = .ok (.lconst 0, 1) := by decide +kernel
theorem dX0_marksAllow_33 : decode cX0_marksAllow 33 = .ok (.lcmp, 1) := by decide +kernel
theorem dX0_marksAllow_34 : decode cX0_marksAllow 34 = .ok (.ifCond .ne 7, 3) := by decide +kernel
theorem dX0_marksAllow_37 : decode cX0_marksAllow 37 = .ok (.iconst 1, 1) := by decide +kernel
theorem dX0_marksAllow_38 : decode cX0_marksAllow 38 = .ok (.goto 4, 3) := by decide +kernel
theorem dX0_marksAllow_41 : decode cX0_marksAllow 41 = .ok (.iconst 0, 1) := by decide +kernel
theorem dX0_marksAllow_42 : decode cX0_marksAllow 42 = .ok (.ireturn, 1) := by decide +kernel
theorem dX0_widthGap_0 : decode cX0_widthGap 0 = .ok (.aload_n 0, 1) := by decide +kernel
theorem dX0_widthGap_1 : decode cX0_widthGap 1 = .ok (.getfield 11, 3) := by decide +kernel
theorem dX0_widthGap_4 : decode cX0_widthGap 4 = .ok (.iload_n 1, 1) := by decide +kernel
theorem dX0_widthGap_5 : decode cX0_widthGap 5 = .ok (.aaload, 1) := by decide +kernel
theorem dX0_widthGap_6 : decode cX0_widthGap 6 = .ok (.invokevirtual 61, 3) := by decide +kernel
theorem dX0_widthGap_9 : decode cX0_widthGap 9 = .ok (.aload_n 0, 1) := by decide +kernel
theorem dX0_widthGap_10 : decode cX0_widthGap 10 = .ok (.getfield 11, 3) := by decide +kernel
theorem dX0_widthGap_13 : decode cX0_widthGap 13 = .ok (.iload_n 2, 1) := by decide +kernel
theorem dX0_widthGap_14 : decode cX0_widthGap 14 = .ok (.aaload, 1) := by decide +kernel
theorem dX0_widthGap_15 : decode cX0_widthGap 15 = .ok (.invokevirtual 61, 3) := by decide +kernel
theorem dX0_widthGap_18 : decode cX0_widthGap 18 = .ok (.isub, 1) := by decide +kernel
theorem dX0_widthGap_19 : decode cX0_widthGap 19 = .ok (.invokestatic 65, 3) := by decide +kernel
theorem dX0_widthGap_22 : decode cX0_widthGap 22 = .ok (.ireturn, 1) := by decide +kernel
theorem dX0_isEarlier_0 : decode cX0_isEarlier 0 = .ok (.aload_n 0, 1) := by decide +kernel
theorem dX0_isEarlier_1 : decode cX0_isEarlier 1 = .ok (.getfield 11, 3) := by decide +kernel
theorem dX0_isEarlier_4 : decode cX0_isEarlier 4 = .ok (.iload_n 1, 1) := by decide +kernel
theorem dX0_isEarlier_5 : decode cX0_isEarlier 5 = .ok (.aaload, 1) := by decide +kernel
theorem dX0_isEarlier_6 : decode cX0_isEarlier 6 = .ok (.getfield 71, 3) := by decide +kernel
theorem dX0_isEarlier_9 : decode cX0_isEarlier 9 = .ok (.istore_n 3, 1) := by decide +kernel
theorem dX0_isEarlier_10 : decode cX0_isEarlier 10 = .ok (.aload_n 0, 1) := by decide +kernel
theorem dX0_isEarlier_11 : decode cX0_isEarlier 11 = .ok (.getfield 11, 3) := by decide +kernel
theorem dX0_isEarlier_14 : decode cX0_isEarlier 14 = .ok (.iload_n 2, 1) := by decide +kernel
theorem dX0_isEarlier_15 : decode cX0_isEarlier 15 = .ok (.aaload, 1) := by decide +kernel
theorem dX0_isEarlier_16 : decode cX0_isEarlier 16 = .ok (.getfield 71, 3) := by decide +kernel
theorem dX0_isEarlier_19 : decode cX0_isEarlier 19 = .ok (.istore 4, 2) := by decide +kernel
theorem dX0_isEarlier_21 : decode cX0_isEarlier 21 = .ok (.iload_n 3, 1) := by decide +kernel
theorem dX0_isEarlier_22 : decode cX0_isEarlier 22 = .ok (.iload 4, 2) := by decide +kernel
theorem dX0_isEarlier_24 : decode cX0_isEarlier 24 = .ok (.if_icmp .lt 14, 3) := by decide +kernel
theorem dX0_isEarlier_27 : decode cX0_isEarlier 27 = .ok (.iload_n 3, 1) := by decide +kernel
theorem dX0_isEarlier_28 : decode cX0_isEarlier 28 = .ok (.iload 4, 2) := by decide +kernel
theorem dX0_isEarlier_30 : decode cX0_isEarlier 30 = .ok (.if_icmp .ne 12, 3) := by decide +kernel
theorem dX0_isEarlier_33 : decode cX0_isEarlier 33 = .ok (.iload_n 1, 1) := by decide +kernel
theorem dX0_isEarlier_34 : decode cX0_isEarlier 34 = .ok (.iload_n 2, 1) := by decide +kernel
theorem dX0_isEarlier_35 : decode cX0_isEarlier 35 = .ok (.if_icmp .ge 7, 3) := by decide +kernel
theorem dX0_isEarlier_38 : decode cX0_isEarlier 38 = .ok (.iconst 1, 1) := by decide +kernel
theorem dX0_isEarlier_39 : decode cX0_isEarlier 39 = .ok (.goto 4, 3) := by decide +kernel
theorem dX0_isEarlier_42 : decode cX0_isEarlier 42 = .ok (.iconst 0, 1) := by decide +kernel
theorem dX0_isEarlier_43 : decode cX0_isEarlier 43 = .ok (.ireturn, 1) := by decide +kernel
theorem dX0_sourceOf_0 : decode cX0_sourceOf 0 = .ok (.aload_n 0, 1) := by decide +kernel
theorem dX0_sourceOf_1 : decode cX0_sourceOf 1 = .ok (.iload_n 1, 1) := by decide +kernel
theorem dX0_sourceOf_2 : decode cX0_sourceOf 2 = .ok (.invokevirtual 74, 3) := by decide +kernel
theorem dX0_sourceOf_5 : decode cX0_sourceOf 5 = .ok (.ifCond .eq 19, 3) := by decide +kernel
theorem dX0_sourceOf_8 : decode cX0_sourceOf 8 = .ok (.aload_n 0, 1) := by decide +kernel
theorem dX0_sourceOf_9 : decode cX0_sourceOf 9 = .ok (.getfield 11, 3) := by decide +kernel
theorem dX0_sourceOf_12 : decode cX0_sourceOf 12 = .ok (.iload_n 1, 1) := by decide +kernel
theorem dX0_sourceOf_13 : decode cX0_sourceOf 13 = .ok (.aaload, 1) := by decide +kernel
theorem dX0_sourceOf_14 : decode cX0_sourceOf 14 = .ok (.getfield 51, 3) := by decide +kernel
theorem dX0_sourceOf_17 : decode cX0_sourceOf 17 = .ok (.iconst 2, 1) := by decide +kernel
theorem dX0_sourceOf_18 : decode cX0_sourceOf 18 = .ok (.invokestatic 78, 3) := by decide +kernel
theorem dX0_sourceOf_21 : decode cX0_sourceOf 21 = .ok (.ifCond .ne 5, 3) := by decide +kernel
theorem dX0_sourceOf_24 : decode cX0_sourceOf 24 = .ok (.iconst (-1), 1) := by decide +kernel
theorem dX0_sourceOf_25 : decode cX0_sourceOf 25 = .ok (.ireturn, 1) := by decide +kernel
theorem dX0_sourceOf_26 : decode cX0_sourceOf 26 = .ok (.iconst 0, 1) := by decide +kernel
theorem dX0_sourceOf_27 : decode cX0_sourceOf 27 = .ok (.istore_n 2, 1) := by decide +kernel
theorem dX0_sourceOf_28 : decode cX0_sourceOf 28 = .ok (.iload_n 2, 1) := by decide +kernel
theorem dX0_sourceOf_29 : decode cX0_sourceOf 29 = .ok (.aload_n 0, 1) := by decide +kernel
theorem dX0_sourceOf_30 : decode cX0_sourceOf 30 = .ok (.getfield 18, 3) := by decide +kernel
theorem dX0_sourceOf_33 : decode cX0_sourceOf 33 = .ok (.if_icmp .ge 34, 3) := by decide +kernel
theorem dX0_sourceOf_36 : decode cX0_sourceOf 36 = .ok (.iload_n 2, 1) := by decide +kernel
theorem dX0_sourceOf_37 : decode cX0_sourceOf 37 = .ok (.iload_n 1, 1) := by decide +kernel
theorem dX0_sourceOf_38 : decode cX0_sourceOf 38 = .ok (.if_icmp .eq 23, 3) := by decide +kernel
theorem dX0_sourceOf_41 : decode cX0_sourceOf 41 = .ok (.aload_n 0, 1) := by decide +kernel
theorem dX0_sourceOf_42 : decode cX0_sourceOf 42 = .ok (.getfield 11, 3) := by decide +kernel
theorem dX0_sourceOf_45 : decode cX0_sourceOf 45 = .ok (.iload_n 1, 1) := by decide +kernel
theorem dX0_sourceOf_46 : decode cX0_sourceOf 46 = .ok (.aaload, 1) := by decide +kernel
theorem dX0_sourceOf_47 : decode cX0_sourceOf 47 = .ok (.aload_n 0, 1) := by decide +kernel
theorem dX0_sourceOf_48 : decode cX0_sourceOf 48 = .ok (.getfield 11, 3) := by decide +kernel
theorem dX0_sourceOf_51 : decode cX0_sourceOf 51 = .ok (.iload_n 2, 1) := by decide +kernel
theorem dX0_sourceOf_52 : decode cX0_sourceOf 52 = .ok (.aaload, 1) := by decide +kernel
theorem dX0_sourceOf_53 : decode cX0_sourceOf 53 = .ok (.invokestatic 81, 3) := by decide +kernel
theorem dX0_sourceOf_56 : decode cX0_sourceOf 56 = .ok (.ifCond .eq 5, 3) := by decide +kernel
theorem dX0_sourceOf_59 : decode cX0_sourceOf 59 = .ok (.iload_n 2, 1) := by decide +kernel
theorem dX0_sourceOf_60 : decode cX0_sourceOf 60 = .ok (.ireturn, 1) := by decide +kernel
theorem dX0_sourceOf_61 : decode cX0_sourceOf 61 = .ok (.iinc 2 1, 3) := by decide +kernel
theorem dX0_sourceOf_64 : decode cX0_sourceOf 64 = .ok (.goto (-36), 3) := by decide +kernel
theorem dX0_sourceOf_67 : decode cX0_sourceOf 67 = .ok (.iconst (-1), 1) := by decide +kernel
theorem dX0_sourceOf_68 : decode cX0_sourceOf 68 = .ok (.ireturn, 1) := by decide +kernel
theorem dX0_canBeCast_0 : decode cX0_canBeCast 0 = .ok (.aload_n 1, 1) := by decide +kernel
theorem dX0_canBeCast_1 : decode cX0_canBeCast 1 = .ok (.getfield 71, 3) := by decide +kernel
theorem dX0_canBeCast_4 : decode cX0_canBeCast 4 = .ok (.aload_n 0, 1) := by decide +kernel
theorem dX0_canBeCast_5 : decode cX0_canBeCast 5 = .ok (.getfield 71, 3) := by decide +kernel
theorem dX0_canBeCast_8 : decode cX0_canBeCast 8 = .ok (.if_icmp .gt 53, 3) := by decide +kernel
theorem dX0_canBeCast_11 : decode cX0_canBeCast 11 = .ok (.aload_n 1, 1) := by decide +kernel
theorem dX0_canBeCast_12 : decode cX0_canBeCast 12 = .ok (.getfield 85, 3) := by decide +kernel
theorem dX0_canBeCast_15 : decode cX0_canBeCast 15 = .ok (.aload_n 0, 1) := by decide +kernel
theorem dX0_canBeCast_16 : decode cX0_canBeCast 16 = .ok (.getfield 85, 3) := by decide +kernel
theorem dX0_canBeCast_19 : decode cX0_canBeCast 19 = .ok (.lcmp, 1) := by decide +kernel
theorem dX0_canBeCast_20 : decode cX0_canBeCast 20 = .ok (.ifCond .ne 41, 3) := by decide +kernel
theorem dX0_canBeCast_23 : decode cX0_canBeCast 23 = .ok (.aload_n 1, 1) := by decide +kernel
theorem dX0_canBeCast_24 : decode cX0_canBeCast 24 = .ok (.getfield 89, 3) := by decide +kernel
theorem dX0_canBeCast_27 : decode cX0_canBeCast 27 = .ok (.bipush 96, 2) := by decide +kernel
theorem dX0_canBeCast_29 : decode cX0_canBeCast 29 = .ok (.imul, 1) := by decide +kernel
theorem dX0_canBeCast_30 : decode cX0_canBeCast 30 = .ok (.aload_n 0, 1) := by decide +kernel
theorem dX0_canBeCast_31 : decode cX0_canBeCast 31 = .ok (.getfield 89, 3) := by decide +kernel
theorem dX0_canBeCast_34 : decode cX0_canBeCast 34 = .ok (.bipush 100, 2) := by decide +kernel
theorem dX0_canBeCast_36 : decode cX0_canBeCast 36 = .ok (.imul, 1) := by decide +kernel
theorem dX0_canBeCast_37 : decode cX0_canBeCast 37 = .ok (.if_icmp .gt 24, 3) := by decide +kernel
theorem dX0_canBeCast_40 : decode cX0_canBeCast 40 = .ok (.aload_n 1, 1) := by decide +kernel
theorem dX0_canBeCast_41 : decode cX0_canBeCast 41 = .ok (.getfield 89, 3) := by decide +kernel
theorem dX0_canBeCast_44 : decode cX0_canBeCast 44 = .ok (.bipush 98, 2) := by decide +kernel
theorem dX0_canBeCast_46 : decode cX0_canBeCast 46 = .ok (.imul, 1) := by decide +kernel
theorem dX0_canBeCast_47 : decode cX0_canBeCast 47 = .ok (.aload_n 0, 1) := by decide +kernel
theorem dX0_canBeCast_48 : decode cX0_canBeCast 48 = .ok (.getfield 89, 3) := by decide +kernel
theorem dX0_canBeCast_51 : decode cX0_canBeCast 51 = .ok (.bipush 100, 2) := by decide +kernel
theorem dX0_canBeCast_53 : decode cX0_canBeCast 53 = .ok (.imul, 1) := by decide +kernel
theorem dX0_canBeCast_54 : decode cX0_canBeCast 54 = .ok (.if_icmp .lt 7, 3) := by decide +kernel
theorem dX0_canBeCast_57 : decode cX0_canBeCast 57 = .ok (.iconst 1, 1) := by decide +kernel
theorem dX0_canBeCast_58 : decode cX0_canBeCast 58 = .ok (.goto 4, 3) := by decide +kernel
theorem dX0_canBeCast_61 : decode cX0_canBeCast 61 = .ok (.iconst 0, 1) := by decide +kernel
theorem dX0_canBeCast_62 : decode cX0_canBeCast 62 = .ok (.ireturn, 1) := by decide +kernel
theorem dX0_howManySeen_0 : decode cX0_howManySeen 0 = .ok (.iconst 0, 1) := by decide +kernel
theorem dX0_howManySeen_1 : decode cX0_howManySeen 1 = .ok (.istore_n 1, 1) := by decide +kernel
theorem dX0_howManySeen_2 : decode cX0_howManySeen 2 = .ok (.iconst 0, 1) := by decide +kernel
theorem dX0_howManySeen_3 : decode cX0_howManySeen 3 = .ok (.istore_n 2, 1) := by decide +kernel
theorem dX0_howManySeen_4 : decode cX0_howManySeen 4 = .ok (.iload_n 2, 1) := by decide +kernel
theorem dX0_howManySeen_5 : decode cX0_howManySeen 5 = .ok (.aload_n 0, 1) := by decide +kernel
theorem dX0_howManySeen_6 : decode cX0_howManySeen 6 = .ok (.getfield 18, 3) := by decide +kernel
theorem dX0_howManySeen_9 : decode cX0_howManySeen 9 = .ok (.if_icmp .ge 24, 3) := by decide +kernel
theorem dX0_howManySeen_12 : decode cX0_howManySeen 12 = .ok (.aload_n 0, 1) := by decide +kernel
theorem dX0_howManySeen_13 : decode cX0_howManySeen 13 = .ok (.getfield 11, 3) := by decide +kernel
theorem dX0_howManySeen_16 : decode cX0_howManySeen 16 = .ok (.iload_n 2, 1) := by decide +kernel
theorem dX0_howManySeen_17 : decode cX0_howManySeen 17 = .ok (.aaload, 1) := by decide +kernel
theorem dX0_howManySeen_18 : decode cX0_howManySeen 18 = .ok (.getfield 92, 3) := by decide +kernel
theorem dX0_howManySeen_21 : decode cX0_howManySeen 21 = .ok (.ifCond .eq 6, 3) := by decide +kernel
theorem dX0_howManySeen_24 : decode cX0_howManySeen 24 = .ok (.iinc 1 1, 3) := by decide +kernel
theorem dX0_howManySeen_27 : decode cX0_howManySeen 27 = .ok (.iinc 2 1, 3) := by decide +kernel
theorem dX0_howManySeen_30 : decode cX0_howManySeen 30 = .ok (.goto (-26), 3) := by decide +kernel
theorem dX0_howManySeen_33 : decode cX0_howManySeen 33 = .ok (.iload_n 1, 1) := by decide +kernel
theorem dX0_howManySeen_34 : decode cX0_howManySeen 34 = .ok (.ireturn, 1) := by decide +kernel
theorem dX0_howManyMarks_0 : decode cX0_howManyMarks 0 = .ok (.iconst 0, 1) := by decide +kernel
theorem dX0_howManyMarks_1 : decode cX0_howManyMarks 1 = .ok (.istore_n 1, 1) := by decide +kernel
theorem dX0_howManyMarks_2 : decode cX0_howManyMarks 2 = .ok (.iconst 0, 1) := by decide +kernel
theorem dX0_howManyMarks_3 : decode cX0_howManyMarks 3 = .ok (.istore_n 2, 1) := by decide +kernel
theorem dX0_howManyMarks_4 : decode cX0_howManyMarks 4 = .ok (.iload_n 2, 1) := by decide +kernel
theorem dX0_howManyMarks_5 : decode cX0_howManyMarks 5 = .ok (.aload_n 0, 1) := by decide +kernel
theorem dX0_howManyMarks_6 : decode cX0_howManyMarks 6 = .ok (.getfield 18, 3) := by decide +kernel
theorem dX0_howManyMarks_9 : decode cX0_howManyMarks 9 = .ok (.if_icmp .ge 24, 3) := by decide +kernel
theorem dX0_howManyMarks_12 : decode cX0_howManyMarks 12 = .ok (.iload_n 1, 1) := by decide +kernel
theorem dX0_howManyMarks_13 : decode cX0_howManyMarks 13 = .ok (.aload_n 0, 1) := by decide +kernel
theorem dX0_howManyMarks_14 : decode cX0_howManyMarks 14 = .ok (.getfield 11, 3) := by decide +kernel
theorem dX0_howManyMarks_17 : decode cX0_howManyMarks 17 = .ok (.iload_n 2, 1) := by decide +kernel
theorem dX0_howManyMarks_18 : decode cX0_howManyMarks 18 = .ok (.aaload, 1) := by decide +kernel
theorem dX0_howManyMarks_19 : decode cX0_howManyMarks 19 = .ok (.getfield 85, 3) := by decide +kernel
theorem dX0_howManyMarks_22 : decode cX0_howManyMarks 22 = .ok (.invokestatic 96, 3) := by decide +kernel
theorem dX0_howManyMarks_25 : decode cX0_howManyMarks 25 = .ok (.iadd, 1) := by decide +kernel
theorem dX0_howManyMarks_26 : decode cX0_howManyMarks 26 = .ok (.istore_n 1, 1) := by decide +kernel
theorem dX0_howManyMarks_27 : decode cX0_howManyMarks 27 = .ok (.iinc 2 1, 3) := by decide +kernel
theorem dX0_howManyMarks_30 : decode cX0_howManyMarks 30 = .ok (.goto (-26), 3) := by decide +kernel
theorem dX0_howManyMarks_33 : decode cX0_howManyMarks 33 = .ok (.iload_n 1, 1) := by decide +kernel
theorem dX0_howManyMarks_34 : decode cX0_howManyMarks 34 = .ok (.ireturn, 1) := by decide +kernel
theorem dX1_init_0 : decode cX1_init 0 = .ok (.aload_n 0, 1) := by decide +kernel
theorem dX1_init_1 : decode cX1_init 1 = .ok (.invokespecial 3, 3) := by decide +kernel
theorem dX1_init_4 : decode cX1_init 4 = .ok (.return_, 1) := by decide +kernel
theorem dX1_begin_0 : decode cX1_begin 0 = .ok (.aload_n 0, 1) := by decide +kernel
theorem dX1_begin_1 : decode cX1_begin 1 = .ok (.iload_n 1, 1) := by decide +kernel
theorem dX1_begin_2 : decode cX1_begin 2 = .ok (.putfield 9, 3) := by decide +kernel
theorem dX1_begin_5 : decode cX1_begin 5 = .ok (.aload_n 0, 1) := by decide +kernel
theorem dX1_begin_6 : decode cX1_begin 6 = .ok (.sipush 1000, 3) := by decide +kernel
theorem dX1_begin_9 : decode cX1_begin 9 = .ok (.putfield 15, 3) := by decide +kernel
theorem dX1_begin_12 : decode cX1_begin 12 = .ok (.aload_n 0, 1) := by decide +kernel
theorem dX1_begin_13 : decode cX1_begin 13 = .ok (.iconst 0, 1) := by decide +kernel
theorem dX1_begin_14 : decode cX1_begin 14 = .ok (.putfield 18, 3) := by decide +kernel
theorem dX1_begin_17 : decode cX1_begin 17 = .ok (.aload_n 0, 1) := by decide +kernel
theorem dX1_begin_18 : decode cX1_begin 18 = .ok (.iconst 0, 1) := by decide +kernel
theorem dX1_begin_19 : decode cX1_begin 19 = .ok (.putfield 21, 3) := by decide +kernel
theorem dX1_begin_22 : decode cX1_begin 22 = .ok (.aload_n 0, 1) := by decide +kernel
theorem dX1_begin_23 : decode cX1_begin 23 = .ok (.lload_n 2, 1) := by decide +kernel
theorem dX1_begin_24 : decode cX1_begin 24 = .ok (.ldc2_w 25, 3) := by decide +kernel
theorem dX1_begin_27 : decode cX1_begin 27 = .ok (.land, 1) := by decide +kernel
theorem dX1_begin_28 : decode cX1_begin 28 = .ok (.putfield 27, 3) := by decide +kernel
theorem dX1_begin_31 : decode cX1_begin 31 = .ok (.return_, 1) := by decide +kernel
theorem dX1_become_0 : decode cX1_become 0 = .ok (.aload_n 0, 1) := by decide +kernel
theorem dX1_become_1 : decode cX1_become 1 = .ok (.aload_n 1, 1) := by decide +kernel
theorem dX1_become_2 : decode cX1_become 2 = .ok (.getfield 9, 3) := by decide +kernel
theorem dX1_become_5 : decode cX1_become 5 = .ok (.putfield 9, 3) := by decide +kernel
theorem dX1_become_8 : decode cX1_become 8 = .ok (.aload_n 0, 1) := by decide +kernel
theorem dX1_become_9 : decode cX1_become 9 = .ok (.aload_n 1, 1) := by decide +kernel
theorem dX1_become_10 : decode cX1_become 10 = .ok (.getfield 15, 3) := by decide +kernel
theorem dX1_become_13 : decode cX1_become 13 = .ok (.putfield 15, 3) := by decide +kernel
theorem dX1_become_16 : decode cX1_become 16 = .ok (.aload_n 0, 1) := by decide +kernel
theorem dX1_become_17 : decode cX1_become 17 = .ok (.aload_n 1, 1) := by decide +kernel
theorem dX1_become_18 : decode cX1_become 18 = .ok (.getfield 18, 3) := by decide +kernel
theorem dX1_become_21 : decode cX1_become 21 = .ok (.putfield 18, 3) := by decide +kernel
theorem dX1_become_24 : decode cX1_become 24 = .ok (.aload_n 0, 1) := by decide +kernel
theorem dX1_become_25 : decode cX1_become 25 = .ok (.aload_n 1, 1) := by decide +kernel
theorem dX1_become_26 : decode cX1_become 26 = .ok (.getfield 21, 3) := by decide +kernel
theorem dX1_become_29 : decode cX1_become 29 = .ok (.putfield 21, 3) := by decide +kernel
theorem dX1_become_32 : decode cX1_become 32 = .ok (.aload_n 0, 1) := by decide +kernel
theorem dX1_become_33 : decode cX1_become 33 = .ok (.aload_n 1, 1) := by decide +kernel
theorem dX1_become_34 : decode cX1_become 34 = .ok (.getfield 27, 3) := by decide +kernel
theorem dX1_become_37 : decode cX1_become 37 = .ok (.putfield 27, 3) := by decide +kernel
theorem dX1_become_40 : decode cX1_become 40 = .ok (.return_, 1) := by decide +kernel
theorem dX1_trueWidth_0 : decode cX1_trueWidth 0 = .ok (.aload_n 0, 1) := by decide +kernel
theorem dX1_trueWidth_1 : decode cX1_trueWidth 1 = .ok (.getfield 9, 3) := by decide +kernel
theorem dX1_trueWidth_4 : decode cX1_trueWidth 4 = .ok (.tableswitch 89 1 5 #[36, 47, 58, 89, 72], 36) := by decide +kernel
theorem dX1_trueWidth_40 : decode cX1_trueWidth 40 = .ok (.bipush 100, 2) := by decide +kernel
theorem dX1_trueWidth_42 : decode cX1_trueWidth 42 = .ok (.aload_n 0, 1) := by decide +kernel
theorem dX1_trueWidth_43 : decode cX1_trueWidth 43 = .ok (.getfield 15, 3) := by decide +kernel
theorem dX1_trueWidth_46 : decode cX1_trueWidth 46 = .ok (.imul, 1) := by decide +kernel
theorem dX1_trueWidth_47 : decode cX1_trueWidth 47 = .ok (.bipush 90, 2) := by decide +kernel
theorem dX1_trueWidth_49 : decode cX1_trueWidth 49 = .ok (.idiv, 1) := by decide +kernel
theorem dX1_trueWidth_50 : decode cX1_trueWidth 50 = .ok (.ireturn, 1) := by decide +kernel
theorem dX1_trueWidth_51 : decode cX1_trueWidth 51 = .ok (.bipush 100, 2) := by decide +kernel
theorem dX1_trueWidth_53 : decode cX1_trueWidth 53 = .ok (.aload_n 0, 1) := by decide +kernel
theorem dX1_trueWidth_54 : decode cX1_trueWidth 54 = .ok (.getfield 15, 3) := by decide +kernel
theorem dX1_trueWidth_57 : decode cX1_trueWidth 57 = .ok (.imul, 1) := by decide +kernel
theorem dX1_trueWidth_58 : decode cX1_trueWidth 58 = .ok (.bipush 97, 2) := by decide +kernel
theorem dX1_trueWidth_60 : decode cX1_trueWidth 60 = .ok (.idiv, 1) := by decide +kernel
theorem dX1_trueWidth_61 : decode cX1_trueWidth 61 = .ok (.ireturn, 1) := by decide +kernel
theorem dX1_trueWidth_62 : decode cX1_trueWidth 62 = .ok (.bipush 100, 2) := by decide +kernel
theorem dX1_trueWidth_64 : decode cX1_trueWidth 64 = .ok (.aload_n 0, 1) := by decide +kernel
theorem dX1_trueWidth_65 : decode cX1_trueWidth 65 = .ok (.getfield 15, 3) := by decide +kernel
theorem dX1_trueWidth_68 : decode cX1_trueWidth 68 = .ok (.imul, 1) := by decide +kernel
theorem dX1_trueWidth_69 : decode cX1_trueWidth 69 = .ok (.bipush 97, 2) := by decide +kernel
theorem dX1_trueWidth_71 : decode cX1_trueWidth 71 = .ok (.idiv, 1) := by decide +kernel
theorem dX1_trueWidth_72 : decode cX1_trueWidth 72 = .ok (.bipush 10, 2) := by decide +kernel
theorem dX1_trueWidth_74 : decode cX1_trueWidth 74 = .ok (.iadd, 1) := by decide +kernel
theorem dX1_trueWidth_75 : decode cX1_trueWidth 75 = .ok (.ireturn, 1) := by decide +kernel
theorem dX1_trueWidth_76 : decode cX1_trueWidth 76 = .ok (.bipush 100, 2) := by decide +kernel
theorem dX1_trueWidth_78 : decode cX1_trueWidth 78 = .ok (.bipush 100, 2) := by decide +kernel
theorem dX1_trueWidth_80 : decode cX1_trueWidth 80 = .ok (.aload_n 0, 1) := by decide +kernel
theorem dX1_trueWidth_81 : decode cX1_trueWidth 81 = .ok (.getfield 15, 3) := by decide +kernel
theorem dX1_trueWidth_84 : decode cX1_trueWidth 84 = .ok (.imul, 1) := by decide +kernel
theorem dX1_trueWidth_85 : decode cX1_trueWidth 85 = .ok (.bipush 90, 2) := by decide +kernel
theorem dX1_trueWidth_87 : decode cX1_trueWidth 87 = .ok (.idiv, 1) := by decide +kernel
theorem dX1_trueWidth_88 : decode cX1_trueWidth 88 = .ok (.imul, 1) := by decide +kernel
theorem dX1_trueWidth_89 : decode cX1_trueWidth 89 = .ok (.bipush 80, 2) := by decide +kernel
theorem dX1_trueWidth_91 : decode cX1_trueWidth 91 = .ok (.idiv, 1) := by decide +kernel
theorem dX1_trueWidth_92 : decode cX1_trueWidth 92 = .ok (.ireturn, 1) := by decide +kernel
theorem dX1_trueWidth_93 : decode cX1_trueWidth 93 = .ok (.aload_n 0, 1) := by decide +kernel
theorem dX1_trueWidth_94 : decode cX1_trueWidth 94 = .ok (.getfield 15, 3) := by decide +kernel
theorem dX1_trueWidth_97 : decode cX1_trueWidth 97 = .ok (.ireturn, 1) := by decide +kernel
theorem dX1_hidden_0 : decode cX1_hidden 0 = .ok (.aload_n 0, 1) := by decide +kernel
theorem dX1_hidden_1 : decode cX1_hidden 1 = .ok (.getfield 21, 3) := by decide +kernel
theorem dX1_hidden_4 : decode cX1_hidden 4 = .ok (.ifCond .eq 7, 3) := by decide +kernel
theorem dX1_hidden_7 : decode cX1_hidden 7 = .ok (.lconst 0, 1) := by decide +kernel
theorem dX1_hidden_8 : decode cX1_hidden 8 = .ok (.goto 6, 3) := by decide +kernel
theorem dX1_hidden_11 : decode cX1_hidden 11 = .ok (.ldc2_w 31, 3) := by decide +kernel
theorem dX1_hidden_14 : decode cX1_hidden 14 = .ok (.lstore_n 1, 1) := by decide +kernel
theorem dX1_hidden_15 : decode cX1_hidden 15 = .ok (.aload_n 0, 1) := by decide +kernel
theorem dX1_hidden_16 : decode cX1_hidden 16 = .ok (.getfield 9, 3) := by decide +kernel
theorem dX1_hidden_19 : decode cX1_hidden 19 = .ok (.lookupswitch 41 #[(1, 25), (5, 31)], 25) := by decide +kernel
theorem dX1_hidden_44 : decode cX1_hidden 44 = .ok (.lload_n 1, 1) := by decide +kernel
theorem dX1_hidden_45 : decode cX1_hidden 45 = .ok (.ldc2_w 33, 3) := by decide +kernel
theorem dX1_hidden_48 : decode cX1_hidden 48 = .ok (.lor, 1) := by decide +kernel
theorem dX1_hidden_49 : decode cX1_hidden 49 = .ok (.lreturn, 1) := by decide +kernel
theorem dX1_hidden_50 : decode cX1_hidden 50 = .ok (.lload_n 1, 1) := by decide +kernel
theorem dX1_hidden_51 : decode cX1_hidden 51 = .ok (.ldc2_w 33, 3) := by decide +kernel
theorem dX1_hidden_54 : decode cX1_hidden 54 = .ok (.lor, 1) := by decide +kernel
theorem dX1_hidden_55 : decode cX1_hidden 55 = .ok (.ldc2_w 35, 3) := by decide +kernel
theorem dX1_hidden_58 : decode cX1_hidden 58 = .ok (.lor, 1) := by decide +kernel
theorem dX1_hidden_59 : decode cX1_hidden 59 = .ok (.lreturn, 1) := by decide +kernel
theorem dX1_hidden_60 : decode cX1_hidden 60 = .ok (.lload_n 1, 1) := by decide +kernel
theorem dX1_hidden_61 : decode cX1_hidden 61 = .ok (.lreturn, 1) := by decide +kernel
theorem dX1_shown_0 : decode cX1_shown 0 = .ok (.aload_n 0, 1) := by decide +kernel
theorem dX1_shown_1 : decode cX1_shown 1 = .ok (.getfield 27, 3) := by decide +kernel
theorem dX1_shown_4 : decode cX1_shown 4 = .ok (.aload_n 0, 1) := by decide +kernel
theorem dX1_shown_5 : decode cX1_shown 5 = .ok (.invokevirtual 37, 3) := by decide +kernel
theorem dX1_shown_8 : decode cX1_shown 8 = .ok (.ldc2_w 41, 3) := by decide +kernel
theorem dX1_shown_11 : decode cX1_shown 11 = .ok (.lxor, 1) := by decide +kernel
theorem dX1_shown_12 : decode cX1_shown 12 = .ok (.land, 1) := by decide +kernel
theorem dX1_shown_13 : decode cX1_shown 13 = .ok (.lreturn, 1) := by decide +kernel
theorem dX1_bare_0 : decode cX1_bare 0 = .ok (.ldc2_w 25, 3) := by decide +kernel
theorem dX1_bare_3 : decode cX1_bare 3 = .ok (.aload_n 0, 1) := by decide +kernel
theorem dX1_bare_4 : decode cX1_bare 4 = .ok (.getfield 27, 3) := by decide +kernel
theorem dX1_bare_7 : decode cX1_bare 7 = .ok (.aload_n 0, 1) := by decide +kernel
theorem dX1_bare_8 : decode cX1_bare 8 = .ok (.invokevirtual 37, 3) := by decide +kernel
theorem dX1_bare_11 : decode cX1_bare 11 = .ok (.lor, 1) := by decide +kernel
theorem dX1_bare_12 : decode cX1_bare 12 = .ok (.ldc2_w 41, 3) := by decide +kernel
theorem dX1_bare_15 : decode cX1_bare 15 = .ok (.lxor, 1) := by decide +kernel
theorem dX1_bare_16 : decode cX1_bare 16 = .ok (.land, 1) := by decide +kernel
theorem dX1_bare_17 : decode cX1_bare 17 = .ok (.lreturn, 1) := by decide +kernel
theorem dX2_init_0 : decode cX2_init 0 = .ok (.aload_n 0, 1) := by decide +kernel
theorem dX2_init_1 : decode cX2_init 1 = .ok (.invokespecial 3, 3) := by decide +kernel
theorem dX2_init_4 : decode cX2_init 4 = .ok (.aload_n 0, 1) := by decide +kernel
theorem dX2_init_5 : decode cX2_init 5 = .ok (.aload_n 1, 1) := by decide +kernel
theorem dX2_init_6 : decode cX2_init 6 = .ok (.putfield 9, 3) := by decide +kernel
theorem dX2_init_9 : decode cX2_init 9 = .ok (.aload_n 0, 1) := by decide +kernel
theorem dX2_init_10 : decode cX2_init 10 = .ok (.bipush 12, 2) := by decide +kernel
theorem dX2_init_12 : decode cX2_init 12 = .ok (.newarray .int, 2) := by decide +kernel
theorem dX2_init_14 : decode cX2_init 14 = .ok (.putfield 15, 3) := by decide +kernel
theorem dX2_init_17 : decode cX2_init 17 = .ok (.aload_n 0, 1) := by decide +kernel
theorem dX2_init_18 : decode cX2_init 18 = .ok (.bipush 12, 2) := by decide +kernel
theorem dX2_init_20 : decode cX2_init 20 = .ok (.newarray .int, 2) := by decide +kernel
theorem dX2_init_22 : decode cX2_init 22 = .ok (.putfield 19, 3) := by decide +kernel
theorem dX2_init_25 : decode cX2_init 25 = .ok (.aload_n 0, 1) := by decide +kernel
theorem dX2_init_26 : decode cX2_init 26 = .ok (.bipush 12, 2) := by decide +kernel
theorem dX2_init_28 : decode cX2_init 28 = .ok (.newarray .int, 2) := by decide +kernel
theorem dX2_init_30 : decode cX2_init 30 = .ok (.putfield 22, 3) := by decide +kernel
theorem dX2_init_33 : decode cX2_init 33 = .ok (.aload_n 0, 1) := by decide +kernel
theorem dX2_init_34 : decode cX2_init 34 = .ok (.bipush 12, 2) := by decide +kernel
theorem dX2_init_36 : decode cX2_init 36 = .ok (.newarray .int, 2) := by decide +kernel
theorem dX2_init_38 : decode cX2_init 38 = .ok (.putfield 25, 3) := by decide +kernel
theorem dX2_init_41 : decode cX2_init 41 = .ok (.aload_n 0, 1) := by decide +kernel
theorem dX2_init_42 : decode cX2_init 42 = .ok (.bipush 8, 2) := by decide +kernel
theorem dX2_init_44 : decode cX2_init 44 = .ok (.newarray .int, 2) := by decide +kernel
theorem dX2_init_46 : decode cX2_init 46 = .ok (.putfield 28, 3) := by decide +kernel
theorem dX2_init_49 : decode cX2_init 49 = .ok (.aload_n 0, 1) := by decide +kernel
theorem dX2_init_50 : decode cX2_init 50 = .ok (.bipush 8, 2) := by decide +kernel
theorem dX2_init_52 : decode cX2_init 52 = .ok (.newarray .int, 2) := by decide +kernel
theorem dX2_init_54 : decode cX2_init 54 = .ok (.putfield 31, 3) := by decide +kernel
theorem dX2_init_57 : decode cX2_init 57 = .ok (.aload_n 0, 1) := by decide +kernel
theorem dX2_init_58 : decode cX2_init 58 = .ok (.sipush 256, 3) := by decide +kernel
theorem dX2_init_61 : decode cX2_init 61 = .ok (.newarray .int, 2) := by decide +kernel
theorem dX2_init_63 : decode cX2_init 63 = .ok (.putfield 34, 3) := by decide +kernel
theorem dX2_init_66 : decode cX2_init 66 = .ok (.return_, 1) := by decide +kernel
theorem dX2_weigh_0 : decode cX2_weigh 0 = .ok (.iconst 0, 1) := by decide +kernel
theorem dX2_weigh_1 : decode cX2_weigh 1 = .ok (.istore_n 1, 1) := by decide +kernel
theorem dX2_weigh_2 : decode cX2_weigh 2 = .ok (.iload_n 1, 1) := by decide +kernel
theorem dX2_weigh_3 : decode cX2_weigh 3 = .ok (.bipush 12, 2) := by decide +kernel
theorem dX2_weigh_5 : decode cX2_weigh 5 = .ok (.if_icmp .ge 23, 3) := by decide +kernel
theorem dX2_weigh_8 : decode cX2_weigh 8 = .ok (.aload_n 0, 1) := by decide +kernel
theorem dX2_weigh_9 : decode cX2_weigh 9 = .ok (.getfield 15, 3) := by decide +kernel
theorem dX2_weigh_12 : decode cX2_weigh 12 = .ok (.iload_n 1, 1) := by decide +kernel
theorem dX2_weigh_13 : decode cX2_weigh 13 = .ok (.iconst 0, 1) := by decide +kernel
theorem dX2_weigh_14 : decode cX2_weigh 14 = .ok (.iastore, 1) := by decide +kernel
theorem dX2_weigh_15 : decode cX2_weigh 15 = .ok (.aload_n 0, 1) := by decide +kernel
theorem dX2_weigh_16 : decode cX2_weigh 16 = .ok (.getfield 19, 3) := by decide +kernel
theorem dX2_weigh_19 : decode cX2_weigh 19 = .ok (.iload_n 1, 1) := by decide +kernel
theorem dX2_weigh_20 : decode cX2_weigh 20 = .ok (.iconst 0, 1) := by decide +kernel
theorem dX2_weigh_21 : decode cX2_weigh 21 = .ok (.iastore, 1) := by decide +kernel
theorem dX2_weigh_22 : decode cX2_weigh 22 = .ok (.iinc 1 1, 3) := by decide +kernel
theorem dX2_weigh_25 : decode cX2_weigh 25 = .ok (.goto (-23), 3) := by decide +kernel
theorem dX2_weigh_28 : decode cX2_weigh 28 = .ok (.iconst 1, 1) := by decide +kernel
theorem dX2_weigh_29 : decode cX2_weigh 29 = .ok (.istore_n 1, 1) := by decide +kernel
theorem dX2_weigh_30 : decode cX2_weigh 30 = .ok (.iload_n 1, 1) := by decide +kernel
theorem dX2_weigh_31 : decode cX2_weigh 31 = .ok (.aload_n 0, 1) := by decide +kernel
theorem dX2_weigh_32 : decode cX2_weigh 32 = .ok (.getfield 9, 3) := by decide +kernel
theorem dX2_weigh_35 : decode cX2_weigh 35 = .ok (.getfield 37, 3) := by decide +kernel
theorem dX2_weigh_38 : decode cX2_weigh 38 = .ok (.if_icmp .ge 28, 3) := by decide +kernel
theorem dX2_weigh_41 : decode cX2_weigh 41 = .ok (.iconst 0, 1) := by decide +kernel
theorem dX2_weigh_42 : decode cX2_weigh 42 = .ok (.istore_n 2, 1) := by decide +kernel
theorem dX2_weigh_43 : decode cX2_weigh 43 = .ok (.iload_n 2, 1) := by decide +kernel
theorem dX2_weigh_44 : decode cX2_weigh 44 = .ok (.iload_n 1, 1) := by decide +kernel
theorem dX2_weigh_45 : decode cX2_weigh 45 = .ok (.if_icmp .ge 15, 3) := by decide +kernel
theorem dX2_weigh_48 : decode cX2_weigh 48 = .ok (.aload_n 0, 1) := by decide +kernel
theorem dX2_weigh_49 : decode cX2_weigh 49 = .ok (.iload_n 2, 1) := by decide +kernel
theorem dX2_weigh_50 : decode cX2_weigh 50 = .ok (.iload_n 1, 1) := by decide +kernel
theorem dX2_weigh_51 : decode cX2_weigh 51 = .ok (.invokevirtual 43, 3) := by decide +kernel
theorem dX2_weigh_54 : decode cX2_weigh 54 = .ok (.iinc 2 1, 3) := by decide +kernel
theorem dX2_weigh_57 : decode cX2_weigh 57 = .ok (.goto (-14), 3) := by decide +kernel
theorem dX2_weigh_60 : decode cX2_weigh 60 = .ok (.iinc 1 1, 3) := by decide +kernel
theorem dX2_weigh_63 : decode cX2_weigh 63 = .ok (.goto (-33), 3) := by decide +kernel
theorem dX2_weigh_66 : decode cX2_weigh 66 = .ok (.return_, 1) := by decide +kernel
theorem dX2_weighOne_0 : decode cX2_weighOne 0 = .ok (.iconst 0, 1) := by decide +kernel
theorem dX2_weighOne_1 : decode cX2_weighOne 1 = .ok (.istore_n 2, 1) := by decide +kernel
theorem dX2_weighOne_2 : decode cX2_weighOne 2 = .ok (.iload_n 2, 1) := by decide +kernel
theorem dX2_weighOne_3 : decode cX2_weighOne 3 = .ok (.aload_n 0, 1) := by decide +kernel
theorem dX2_weighOne_4 : decode cX2_weighOne 4 = .ok (.getfield 9, 3) := by decide +kernel
theorem dX2_weighOne_7 : decode cX2_weighOne 7 = .ok (.getfield 37, 3) := by decide +kernel
theorem dX2_weighOne_10 : decode cX2_weighOne 10 = .ok (.if_icmp .ge 20, 3) := by decide +kernel
theorem dX2_weighOne_13 : decode cX2_weighOne 13 = .ok (.iload_n 2, 1) := by decide +kernel
theorem dX2_weighOne_14 : decode cX2_weighOne 14 = .ok (.iload_n 1, 1) := by decide +kernel
theorem dX2_weighOne_15 : decode cX2_weighOne 15 = .ok (.if_icmp .eq 9, 3) := by decide +kernel
theorem dX2_weighOne_18 : decode cX2_weighOne 18 = .ok (.aload_n 0, 1) := by decide +kernel
theorem dX2_weighOne_19 : decode cX2_weighOne 19 = .ok (.iload_n 1, 1) := by decide +kernel
theorem dX2_weighOne_20 : decode cX2_weighOne 20 = .ok (.iload_n 2, 1) := by decide +kernel
theorem dX2_weighOne_21 : decode cX2_weighOne 21 = .ok (.invokevirtual 43, 3) := by decide +kernel
theorem dX2_weighOne_24 : decode cX2_weighOne 24 = .ok (.iinc 2 1, 3) := by decide +kernel
theorem dX2_weighOne_27 : decode cX2_weighOne 27 = .ok (.goto (-25), 3) := by decide +kernel
theorem dX2_weighOne_30 : decode cX2_weighOne 30 = .ok (.return_, 1) := by decide +kernel
theorem dX2_weighPair_0 : decode cX2_weighPair 0 = .ok (.aload_n 0, 1) := by decide +kernel
theorem dX2_weighPair_1 : decode cX2_weighPair 1 = .ok (.getfield 9, 3) := by decide +kernel
theorem dX2_weighPair_4 : decode cX2_weighPair 4 = .ok (.iload_n 1, 1) := by decide +kernel
theorem dX2_weighPair_5 : decode cX2_weighPair 5 = .ok (.iload_n 2, 1) := by decide +kernel
theorem dX2_weighPair_6 : decode cX2_weighPair 6 = .ok (.invokevirtual 47, 3) := by decide +kernel
theorem dX2_weighPair_9 : decode cX2_weighPair 9 = .ok (.istore_n 3, 1) := by decide +kernel
theorem dX2_weighPair_10 : decode cX2_weighPair 10 = .ok (.iload_n 3, 1) := by decide +kernel
theorem dX2_weighPair_11 : decode cX2_weighPair 11 = .ok (.ifCond .eq 19, 3) := by decide +kernel
theorem dX2_weighPair_14 : decode cX2_weighPair 14 = .ok (.aload_n 0, 1) := by decide +kernel
theorem dX2_weighPair_15 : decode cX2_weighPair 15 = .ok (.getfield 9, 3) := by decide +kernel
theorem dX2_weighPair_18 : decode cX2_weighPair 18 = .ok (.iload_n 1, 1) := by decide +kernel
theorem dX2_weighPair_19 : decode cX2_weighPair 19 = .ok (.iload_n 2, 1) := by decide +kernel
theorem dX2_weighPair_20 : decode cX2_weighPair 20 = .ok (.invokevirtual 51, 3) := by decide +kernel
theorem dX2_weighPair_23 : decode cX2_weighPair 23 = .ok (.ifCond .eq 7, 3) := by decide +kernel
theorem dX2_weighPair_26 : decode cX2_weighPair 26 = .ok (.iconst 1, 1) := by decide +kernel
theorem dX2_weighPair_27 : decode cX2_weighPair 27 = .ok (.goto 4, 3) := by decide +kernel
theorem dX2_weighPair_30 : decode cX2_weighPair 30 = .ok (.iconst 0, 1) := by decide +kernel
theorem dX2_weighPair_31 : decode cX2_weighPair 31 = .ok (.istore 4, 2) := by decide +kernel
theorem dX2_weighPair_33 : decode cX2_weighPair 33 = .ok (.iload_n 3, 1) := by decide +kernel
theorem dX2_weighPair_34 : decode cX2_weighPair 34 = .ok (.ifCond .eq 19, 3) := by decide +kernel
theorem dX2_weighPair_37 : decode cX2_weighPair 37 = .ok (.aload_n 0, 1) := by decide +kernel
theorem dX2_weighPair_38 : decode cX2_weighPair 38 = .ok (.getfield 9, 3) := by decide +kernel
theorem dX2_weighPair_41 : decode cX2_weighPair 41 = .ok (.iload_n 2, 1) := by decide +kernel
theorem dX2_weighPair_42 : decode cX2_weighPair 42 = .ok (.iload_n 1, 1) := by decide +kernel
theorem dX2_weighPair_43 : decode cX2_weighPair 43 = .ok (.invokevirtual 51, 3) := by decide +kernel
theorem dX2_weighPair_46 : decode cX2_weighPair 46 = .ok (.ifCond .eq 7, 3) := by decide +kernel
theorem dX2_weighPair_49 : decode cX2_weighPair 49 = .ok (.iconst 1, 1) := by decide +kernel
theorem dX2_weighPair_50 : decode cX2_weighPair 50 = .ok (.goto 4, 3) := by decide +kernel
theorem dX2_weighPair_53 : decode cX2_weighPair 53 = .ok (.iconst 0, 1) := by decide +kernel
theorem dX2_weighPair_54 : decode cX2_weighPair 54 = .ok (.istore 5, 2) := by decide +kernel
theorem dX2_weighPair_56 : decode cX2_weighPair 56 = .ok (.aload_n 0, 1) := by decide +kernel
theorem dX2_weighPair_57 : decode cX2_weighPair 57 = .ok (.getfield 9, 3) := by decide +kernel
theorem dX2_weighPair_60 : decode cX2_weighPair 60 = .ok (.iload_n 1, 1) := by decide +kernel
theorem dX2_weighPair_61 : decode cX2_weighPair 61 = .ok (.iload_n 2, 1) := by decide +kernel
theorem dX2_weighPair_62 : decode cX2_weighPair 62 = .ok (.invokevirtual 54, 3) := by decide +kernel
theorem dX2_weighPair_65 : decode cX2_weighPair 65 = .ok (.ifCond .eq 8, 3) := by decide +kernel
theorem dX2_weighPair_68 : decode cX2_weighPair 68 = .ok (.iload 4, 2) := by decide +kernel
theorem dX2_weighPair_70 : decode cX2_weighPair 70 = .ok (.goto 5, 3) := by decide +kernel
theorem dX2_weighPair_73 : decode cX2_weighPair 73 = .ok (.iload 5, 2) := by decide +kernel
theorem dX2_weighPair_75 : decode cX2_weighPair 75 = .ok (.istore 6, 2) := by decide +kernel
theorem dX2_weighPair_77 : decode cX2_weighPair 77 = .ok (.aload_n 0, 1) := by decide +kernel
theorem dX2_weighPair_78 : decode cX2_weighPair 78 = .ok (.getfield 15, 3) := by decide +kernel
theorem dX2_weighPair_81 : decode cX2_weighPair 81 = .ok (.iload_n 1, 1) := by decide +kernel
theorem dX2_weighPair_82 : decode cX2_weighPair 82 = .ok (.iload_n 2, 1) := by decide +kernel
theorem dX2_weighPair_83 : decode cX2_weighPair 83 = .ok (.iload 4, 2) := by decide +kernel
theorem dX2_weighPair_85 : decode cX2_weighPair 85 = .ok (.invokestatic 57, 3) := by decide +kernel
theorem dX2_weighPair_88 : decode cX2_weighPair 88 = .ok (.aload_n 0, 1) := by decide +kernel
theorem dX2_weighPair_89 : decode cX2_weighPair 89 = .ok (.getfield 15, 3) := by decide +kernel
theorem dX2_weighPair_92 : decode cX2_weighPair 92 = .ok (.iload_n 2, 1) := by decide +kernel
theorem dX2_weighPair_93 : decode cX2_weighPair 93 = .ok (.iload_n 1, 1) := by decide +kernel
theorem dX2_weighPair_94 : decode cX2_weighPair 94 = .ok (.iload 5, 2) := by decide +kernel
theorem dX2_weighPair_96 : decode cX2_weighPair 96 = .ok (.invokestatic 57, 3) := by decide +kernel
theorem dX2_weighPair_99 : decode cX2_weighPair 99 = .ok (.aload_n 0, 1) := by decide +kernel
theorem dX2_weighPair_100 : decode cX2_weighPair 100 = .ok (.getfield 19, 3) := by decide +kernel
theorem dX2_weighPair_103 : decode cX2_weighPair 103 = .ok (.iload_n 1, 1) := by decide +kernel
theorem dX2_weighPair_104 : decode cX2_weighPair 104 = .ok (.iload_n 2, 1) := by decide +kernel
theorem dX2_weighPair_105 : decode cX2_weighPair 105 = .ok (.iload 6, 2) := by decide +kernel
theorem dX2_weighPair_107 : decode cX2_weighPair 107 = .ok (.invokestatic 57, 3) := by decide +kernel
theorem dX2_weighPair_110 : decode cX2_weighPair 110 = .ok (.aload_n 0, 1) := by decide +kernel
theorem dX2_weighPair_111 : decode cX2_weighPair 111 = .ok (.getfield 19, 3) := by decide +kernel
theorem dX2_weighPair_114 : decode cX2_weighPair 114 = .ok (.iload_n 2, 1) := by decide +kernel
theorem dX2_weighPair_115 : decode cX2_weighPair 115 = .ok (.iload_n 1, 1) := by decide +kernel
theorem dX2_weighPair_116 : decode cX2_weighPair 116 = .ok (.iload 6, 2) := by decide +kernel
theorem dX2_weighPair_118 : decode cX2_weighPair 118 = .ok (.invokestatic 57, 3) := by decide +kernel
theorem dX2_weighPair_121 : decode cX2_weighPair 121 = .ok (.return_, 1) := by decide +kernel
theorem dX2_note_0 : decode cX2_note 0 = .ok (.iconst 1, 1) := by decide +kernel
theorem dX2_note_1 : decode cX2_note 1 = .ok (.iload_n 2, 1) := by decide +kernel
theorem dX2_note_2 : decode cX2_note 2 = .ok (.ishl, 1) := by decide +kernel
theorem dX2_note_3 : decode cX2_note 3 = .ok (.istore 4, 2) := by decide +kernel
theorem dX2_note_5 : decode cX2_note 5 = .ok (.aload_n 0, 1) := by decide +kernel
theorem dX2_note_6 : decode cX2_note 6 = .ok (.iload_n 1, 1) := by decide +kernel
theorem dX2_note_7 : decode cX2_note 7 = .ok (.iload_n 3, 1) := by decide +kernel
theorem dX2_note_8 : decode cX2_note 8 = .ok (.ifCond .eq 12, 3) := by decide +kernel
theorem dX2_note_11 : decode cX2_note 11 = .ok (.aload_n 0, 1) := by decide +kernel
theorem dX2_note_12 : decode cX2_note 12 = .ok (.iload_n 1, 1) := by decide +kernel
theorem dX2_note_13 : decode cX2_note 13 = .ok (.iaload, 1) := by decide +kernel
theorem dX2_note_14 : decode cX2_note 14 = .ok (.iload 4, 2) := by decide +kernel
theorem dX2_note_16 : decode cX2_note 16 = .ok (.ior, 1) := by decide +kernel
theorem dX2_note_17 : decode cX2_note 17 = .ok (.goto 11, 3) := by decide +kernel
theorem dX2_note_20 : decode cX2_note 20 = .ok (.aload_n 0, 1) := by decide +kernel
theorem dX2_note_21 : decode cX2_note 21 = .ok (.iload_n 1, 1) := by decide +kernel
theorem dX2_note_22 : decode cX2_note 22 = .ok (.iaload, 1) := by decide +kernel
theorem dX2_note_23 : decode cX2_note 23 = .ok (.iload 4, 2) := by decide +kernel
theorem dX2_note_25 : decode cX2_note 25 = .ok (.iconst (-1), 1) := by decide +kernel
theorem dX2_note_26 : decode cX2_note 26 = .ok (.ixor, 1) := by decide +kernel
theorem dX2_note_27 : decode cX2_note 27 = .ok (.iand, 1) := by decide +kernel
theorem dX2_note_28 : decode cX2_note 28 = .ok (.iastore, 1) := by decide +kernel
theorem dX2_note_29 : decode cX2_note 29 = .ok (.return_, 1) := by decide +kernel
theorem dX2_isIn_0 : decode cX2_isIn 0 = .ok (.iload_n 0, 1) := by decide +kernel
theorem dX2_isIn_1 : decode cX2_isIn 1 = .ok (.iconst 1, 1) := by decide +kernel
theorem dX2_isIn_2 : decode cX2_isIn 2 = .ok (.iload_n 1, 1) := by decide +kernel
theorem dX2_isIn_3 : decode cX2_isIn 3 = .ok (.ishl, 1) := by decide +kernel
theorem dX2_isIn_4 : decode cX2_isIn 4 = .ok (.iand, 1) := by decide +kernel
theorem dX2_isIn_5 : decode cX2_isIn 5 = .ok (.ifCond .eq 7, 3) := by decide +kernel
theorem dX2_isIn_8 : decode cX2_isIn 8 = .ok (.iconst 1, 1) := by decide +kernel
theorem dX2_isIn_9 : decode cX2_isIn 9 = .ok (.goto 4, 3) := by decide +kernel
theorem dX2_isIn_12 : decode cX2_isIn 12 = .ok (.iconst 0, 1) := by decide +kernel
theorem dX2_isIn_13 : decode cX2_isIn 13 = .ok (.ireturn, 1) := by decide +kernel
theorem dX2_without_0 : decode cX2_without 0 = .ok (.iload_n 0, 1) := by decide +kernel
theorem dX2_without_1 : decode cX2_without 1 = .ok (.iconst 1, 1) := by decide +kernel
theorem dX2_without_2 : decode cX2_without 2 = .ok (.iload_n 1, 1) := by decide +kernel
theorem dX2_without_3 : decode cX2_without 3 = .ok (.ishl, 1) := by decide +kernel
theorem dX2_without_4 : decode cX2_without 4 = .ok (.iconst (-1), 1) := by decide +kernel
theorem dX2_without_5 : decode cX2_without 5 = .ok (.ixor, 1) := by decide +kernel
theorem dX2_without_6 : decode cX2_without 6 = .ok (.iand, 1) := by decide +kernel
theorem dX2_without_7 : decode cX2_without 7 = .ok (.ireturn, 1) := by decide +kernel
theorem dX2_isRing_0 : decode cX2_isRing 0 = .ok (.iconst 0, 1) := by decide +kernel
theorem dX2_isRing_1 : decode cX2_isRing 1 = .ok (.istore_n 2, 1) := by decide +kernel
theorem dX2_isRing_2 : decode cX2_isRing 2 = .ok (.iload_n 2, 1) := by decide +kernel
theorem dX2_isRing_3 : decode cX2_isRing 3 = .ok (.aload_n 0, 1) := by decide +kernel
theorem dX2_isRing_4 : decode cX2_isRing 4 = .ok (.getfield 9, 3) := by decide +kernel
theorem dX2_isRing_7 : decode cX2_isRing 7 = .ok (.getfield 37, 3) := by decide +kernel
theorem dX2_isRing_10 : decode cX2_isRing 10 = .ok (.if_icmp .ge 36, 3) := by decide +kernel
theorem dX2_isRing_13 : decode cX2_isRing 13 = .ok (.iload_n 1, 1) := by decide +kernel
theorem dX2_isRing_14 : decode cX2_isRing 14 = .ok (.iload_n 2, 1) := by decide +kernel
theorem dX2_isRing_15 : decode cX2_isRing 15 = .ok (.invokestatic 61, 3) := by decide +kernel
theorem dX2_isRing_18 : decode cX2_isRing 18 = .ok (.ifCond .eq 22, 3) := by decide +kernel
theorem dX2_isRing_21 : decode cX2_isRing 21 = .ok (.iload_n 1, 1) := by decide +kernel
theorem dX2_isRing_22 : decode cX2_isRing 22 = .ok (.iload_n 2, 1) := by decide +kernel
theorem dX2_isRing_23 : decode cX2_isRing 23 = .ok (.invokestatic 64, 3) := by decide +kernel
theorem dX2_isRing_26 : decode cX2_isRing 26 = .ok (.aload_n 0, 1) := by decide +kernel
theorem dX2_isRing_27 : decode cX2_isRing 27 = .ok (.getfield 19, 3) := by decide +kernel
theorem dX2_isRing_30 : decode cX2_isRing 30 = .ok (.iload_n 2, 1) := by decide +kernel
theorem dX2_isRing_31 : decode cX2_isRing 31 = .ok (.iaload, 1) := by decide +kernel
theorem dX2_isRing_32 : decode cX2_isRing 32 = .ok (.iconst (-1), 1) := by decide +kernel
theorem dX2_isRing_33 : decode cX2_isRing 33 = .ok (.ixor, 1) := by decide +kernel
theorem dX2_isRing_34 : decode cX2_isRing 34 = .ok (.iand, 1) := by decide +kernel
theorem dX2_isRing_35 : decode cX2_isRing 35 = .ok (.ifCond .eq 5, 3) := by decide +kernel
theorem dX2_isRing_38 : decode cX2_isRing 38 = .ok (.iconst 0, 1) := by decide +kernel
theorem dX2_isRing_39 : decode cX2_isRing 39 = .ok (.ireturn, 1) := by decide +kernel
theorem dX2_isRing_40 : decode cX2_isRing 40 = .ok (.iinc 2 1, 3) := by decide +kernel
theorem dX2_isRing_43 : decode cX2_isRing 43 = .ok (.goto (-41), 3) := by decide +kernel
theorem dX2_isRing_46 : decode cX2_isRing 46 = .ok (.iconst 1, 1) := by decide +kernel
theorem dX2_isRing_47 : decode cX2_isRing 47 = .ok (.ireturn, 1) := by decide +kernel
theorem dX2_largestRing_0 : decode cX2_largestRing 0 = .ok (.aload_n 0, 1) := by decide +kernel
theorem dX2_largestRing_1 : decode cX2_largestRing 1 = .ok (.iconst 0, 1) := by decide +kernel
theorem dX2_largestRing_2 : decode cX2_largestRing 2 = .ok (.putfield 68, 3) := by decide +kernel
theorem dX2_largestRing_5 : decode cX2_largestRing 5 = .ok (.aload_n 0, 1) := by decide +kernel
theorem dX2_largestRing_6 : decode cX2_largestRing 6 = .ok (.iconst 0, 1) := by decide +kernel
theorem dX2_largestRing_7 : decode cX2_largestRing 7 = .ok (.iload_n 1, 1) := by decide +kernel
theorem dX2_largestRing_8 : decode cX2_largestRing 8 = .ok (.bipush 11, 2) := by decide +kernel
theorem dX2_largestRing_10 : decode cX2_largestRing 10 = .ok (.invokevirtual 71, 3) := by decide +kernel
theorem dX2_largestRing_13 : decode cX2_largestRing 13 = .ok (.aload_n 0, 1) := by decide +kernel
theorem dX2_largestRing_14 : decode cX2_largestRing 14 = .ok (.getfield 68, 3) := by decide +kernel
theorem dX2_largestRing_17 : decode cX2_largestRing 17 = .ok (.ireturn, 1) := by decide +kernel
theorem dX2_seekLargest_0 : decode cX2_seekLargest 0 = .ok (.iload_n 1, 1) := by decide +kernel
theorem dX2_seekLargest_1 : decode cX2_seekLargest 1 = .ok (.iload_n 2, 1) := by decide +kernel
theorem dX2_seekLargest_2 : decode cX2_seekLargest 2 = .ok (.ior, 1) := by decide +kernel
theorem dX2_seekLargest_3 : decode cX2_seekLargest 3 = .ok (.invokestatic 75, 3) := by decide +kernel
theorem dX2_seekLargest_6 : decode cX2_seekLargest 6 = .ok (.aload_n 0, 1) := by decide +kernel
theorem dX2_seekLargest_7 : decode cX2_seekLargest 7 = .ok (.getfield 68, 3) := by decide +kernel
theorem dX2_seekLargest_10 : decode cX2_seekLargest 10 = .ok (.invokestatic 75, 3) := by decide +kernel
theorem dX2_seekLargest_13 : decode cX2_seekLargest 13 = .ok (.if_icmp .gt 4, 3) := by decide +kernel
theorem dX2_seekLargest_16 : decode cX2_seekLargest 16 = .ok (.return_, 1) := by decide +kernel
theorem dX2_seekLargest_17 : decode cX2_seekLargest 17 = .ok (.iload_n 3, 1) := by decide +kernel
theorem dX2_seekLargest_18 : decode cX2_seekLargest 18 = .ok (.ifCond .lt 9, 3) := by decide +kernel
theorem dX2_seekLargest_21 : decode cX2_seekLargest 21 = .ok (.iload_n 3, 1) := by decide +kernel
theorem dX2_seekLargest_22 : decode cX2_seekLargest 22 = .ok (.bipush 12, 2) := by decide +kernel
theorem dX2_seekLargest_24 : decode cX2_seekLargest 24 = .ok (.if_icmp .lt 9, 3) := by decide +kernel
theorem dX2_seekLargest_27 : decode cX2_seekLargest 27 = .ok (.aload_n 0, 1) := by decide +kernel
theorem dX2_seekLargest_28 : decode cX2_seekLargest 28 = .ok (.iload_n 1, 1) := by decide +kernel
theorem dX2_seekLargest_29 : decode cX2_seekLargest 29 = .ok (.putfield 68, 3) := by decide +kernel
theorem dX2_seekLargest_32 : decode cX2_seekLargest 32 = .ok (.return_, 1) := by decide +kernel
theorem dX2_seekLargest_33 : decode cX2_seekLargest 33 = .ok (.aload_n 0, 1) := by decide +kernel
theorem dX2_seekLargest_34 : decode cX2_seekLargest 34 = .ok (.iload_n 1, 1) := by decide +kernel
theorem dX2_seekLargest_35 : decode cX2_seekLargest 35 = .ok (.iload_n 2, 1) := by decide +kernel
theorem dX2_seekLargest_36 : decode cX2_seekLargest 36 = .ok (.iload_n 3, 1) := by decide +kernel
theorem dX2_seekLargest_37 : decode cX2_seekLargest 37 = .ok (.invokestatic 64, 3) := by decide +kernel
theorem dX2_seekLargest_40 : decode cX2_seekLargest 40 = .ok (.iload_n 3, 1) := by decide +kernel
theorem dX2_seekLargest_41 : decode cX2_seekLargest 41 = .ok (.iconst 1, 1) := by decide +kernel
theorem dX2_seekLargest_42 : decode cX2_seekLargest 42 = .ok (.isub, 1) := by decide +kernel
theorem dX2_seekLargest_43 : decode cX2_seekLargest 43 = .ok (.invokevirtual 71, 3) := by decide +kernel
theorem dX2_seekLargest_46 : decode cX2_seekLargest 46 = .ok (.iload_n 2, 1) := by decide +kernel
theorem dX2_seekLargest_47 : decode cX2_seekLargest 47 = .ok (.iload_n 3, 1) := by decide +kernel
theorem dX2_seekLargest_48 : decode cX2_seekLargest 48 = .ok (.invokestatic 61, 3) := by decide +kernel
theorem dX2_seekLargest_51 : decode cX2_seekLargest 51 = .ok (.ifCond .eq 23, 3) := by decide +kernel
theorem dX2_seekLargest_54 : decode cX2_seekLargest 54 = .ok (.aload_n 0, 1) := by decide +kernel
theorem dX2_seekLargest_55 : decode cX2_seekLargest 55 = .ok (.iload_n 1, 1) := by decide +kernel
theorem dX2_seekLargest_56 : decode cX2_seekLargest 56 = .ok (.iconst 1, 1) := by decide +kernel
theorem dX2_seekLargest_57 : decode cX2_seekLargest 57 = .ok (.iload_n 3, 1) := by decide +kernel
theorem dX2_seekLargest_58 : decode cX2_seekLargest 58 = .ok (.ishl, 1) := by decide +kernel
theorem dX2_seekLargest_59 : decode cX2_seekLargest 59 = .ok (.ior, 1) := by decide +kernel
theorem dX2_seekLargest_60 : decode cX2_seekLargest 60 = .ok (.iload_n 2, 1) := by decide +kernel
theorem dX2_seekLargest_61 : decode cX2_seekLargest 61 = .ok (.aload_n 0, 1) := by decide +kernel
theorem dX2_seekLargest_62 : decode cX2_seekLargest 62 = .ok (.getfield 19, 3) := by decide +kernel
theorem dX2_seekLargest_65 : decode cX2_seekLargest 65 = .ok (.iload_n 3, 1) := by decide +kernel
theorem dX2_seekLargest_66 : decode cX2_seekLargest 66 = .ok (.iaload, 1) := by decide +kernel
theorem dX2_seekLargest_67 : decode cX2_seekLargest 67 = .ok (.iand, 1) := by decide +kernel
theorem dX2_seekLargest_68 : decode cX2_seekLargest 68 = .ok (.iload_n 3, 1) := by decide +kernel
theorem dX2_seekLargest_69 : decode cX2_seekLargest 69 = .ok (.iconst 1, 1) := by decide +kernel
theorem dX2_seekLargest_70 : decode cX2_seekLargest 70 = .ok (.isub, 1) := by decide +kernel
theorem dX2_seekLargest_71 : decode cX2_seekLargest 71 = .ok (.invokevirtual 71, 3) := by decide +kernel
theorem dX2_seekLargest_74 : decode cX2_seekLargest 74 = .ok (.return_, 1) := by decide +kernel
theorem dX2_fewestRings_0 : decode cX2_fewestRings 0 = .ok (.aload_n 0, 1) := by decide +kernel
theorem dX2_fewestRings_1 : decode cX2_fewestRings 1 = .ok (.iload_n 1, 1) := by decide +kernel
theorem dX2_fewestRings_2 : decode cX2_fewestRings 2 = .ok (.invokestatic 75, 3) := by decide +kernel
theorem dX2_fewestRings_5 : decode cX2_fewestRings 5 = .ok (.putfield 81, 3) := by decide +kernel
theorem dX2_fewestRings_8 : decode cX2_fewestRings 8 = .ok (.aload_n 0, 1) := by decide +kernel
theorem dX2_fewestRings_9 : decode cX2_fewestRings 9 = .ok (.iload_n 1, 1) := by decide +kernel
theorem dX2_fewestRings_10 : decode cX2_fewestRings 10 = .ok (.iconst 0, 1) := by decide +kernel
theorem dX2_fewestRings_11 : decode cX2_fewestRings 11 = .ok (.iconst 0, 1) := by decide +kernel
theorem dX2_fewestRings_12 : decode cX2_fewestRings 12 = .ok (.invokevirtual 84, 3) := by decide +kernel
theorem dX2_fewestRings_15 : decode cX2_fewestRings 15 = .ok (.aload_n 0, 1) := by decide +kernel
theorem dX2_fewestRings_16 : decode cX2_fewestRings 16 = .ok (.getfield 81, 3) := by decide +kernel
theorem dX2_fewestRings_19 : decode cX2_fewestRings 19 = .ok (.ireturn, 1) := by decide +kernel
theorem dX2_deal_0 : decode cX2_deal 0 = .ok (.iload_n 3, 1) := by decide +kernel
theorem dX2_deal_1 : decode cX2_deal 1 = .ok (.aload_n 0, 1) := by decide +kernel
theorem dX2_deal_2 : decode cX2_deal 2 = .ok (.getfield 81, 3) := by decide +kernel
theorem dX2_deal_5 : decode cX2_deal 5 = .ok (.if_icmp .lt 4, 3) := by decide +kernel
theorem dX2_deal_8 : decode cX2_deal 8 = .ok (.return_, 1) := by decide +kernel
theorem dX2_deal_9 : decode cX2_deal 9 = .ok (.iload_n 2, 1) := by decide +kernel
theorem dX2_deal_10 : decode cX2_deal 10 = .ok (.bipush 12, 2) := by decide +kernel
theorem dX2_deal_12 : decode cX2_deal 12 = .ok (.if_icmp .lt 9, 3) := by decide +kernel
theorem dX2_deal_15 : decode cX2_deal 15 = .ok (.aload_n 0, 1) := by decide +kernel
theorem dX2_deal_16 : decode cX2_deal 16 = .ok (.iload_n 3, 1) := by decide +kernel
theorem dX2_deal_17 : decode cX2_deal 17 = .ok (.putfield 81, 3) := by decide +kernel
theorem dX2_deal_20 : decode cX2_deal 20 = .ok (.return_, 1) := by decide +kernel
theorem dX2_deal_21 : decode cX2_deal 21 = .ok (.iload_n 1, 1) := by decide +kernel
theorem dX2_deal_22 : decode cX2_deal 22 = .ok (.iload_n 2, 1) := by decide +kernel
theorem dX2_deal_23 : decode cX2_deal 23 = .ok (.invokestatic 61, 3) := by decide +kernel
theorem dX2_deal_26 : decode cX2_deal 26 = .ok (.ifCond .ne 13, 3) := by decide +kernel
theorem dX2_deal_29 : decode cX2_deal 29 = .ok (.aload_n 0, 1) := by decide +kernel
theorem dX2_deal_30 : decode cX2_deal 30 = .ok (.iload_n 1, 1) := by decide +kernel
theorem dX2_deal_31 : decode cX2_deal 31 = .ok (.iload_n 2, 1) := by decide +kernel
theorem dX2_deal_32 : decode cX2_deal 32 = .ok (.iconst 1, 1) := by decide +kernel
theorem dX2_deal_33 : decode cX2_deal 33 = .ok (.iadd, 1) := by decide +kernel
theorem dX2_deal_34 : decode cX2_deal 34 = .ok (.iload_n 3, 1) := by decide +kernel
theorem dX2_deal_35 : decode cX2_deal 35 = .ok (.invokevirtual 84, 3) := by decide +kernel
theorem dX2_deal_38 : decode cX2_deal 38 = .ok (.return_, 1) := by decide +kernel
theorem dX2_deal_39 : decode cX2_deal 39 = .ok (.iconst 0, 1) := by decide +kernel
theorem dX2_deal_40 : decode cX2_deal 40 = .ok (.istore 4, 2) := by decide +kernel
theorem dX2_deal_42 : decode cX2_deal 42 = .ok (.iload 4, 2) := by decide +kernel
theorem dX2_deal_44 : decode cX2_deal 44 = .ok (.iload_n 3, 1) := by decide +kernel
theorem dX2_deal_45 : decode cX2_deal 45 = .ok (.if_icmp .ge 68, 3) := by decide +kernel
theorem dX2_deal_48 : decode cX2_deal 48 = .ok (.aload_n 0, 1) := by decide +kernel
theorem dX2_deal_49 : decode cX2_deal 49 = .ok (.getfield 25, 3) := by decide +kernel
theorem dX2_deal_52 : decode cX2_deal 52 = .ok (.iload 4, 2) := by decide +kernel
theorem dX2_deal_54 : decode cX2_deal 54 = .ok (.iaload, 1) := by decide +kernel
theorem dX2_deal_55 : decode cX2_deal 55 = .ok (.aload_n 0, 1) := by decide +kernel
theorem dX2_deal_56 : decode cX2_deal 56 = .ok (.getfield 19, 3) := by decide +kernel
theorem dX2_deal_59 : decode cX2_deal 59 = .ok (.iload_n 2, 1) := by decide +kernel
theorem dX2_deal_60 : decode cX2_deal 60 = .ok (.iaload, 1) := by decide +kernel
theorem dX2_deal_61 : decode cX2_deal 61 = .ok (.iconst (-1), 1) := by decide +kernel
theorem dX2_deal_62 : decode cX2_deal 62 = .ok (.ixor, 1) := by decide +kernel
theorem dX2_deal_63 : decode cX2_deal 63 = .ok (.iand, 1) := by decide +kernel
theorem dX2_deal_64 : decode cX2_deal 64 = .ok (.ifCond .ne 43, 3) := by decide +kernel
theorem dX2_deal_67 : decode cX2_deal 67 = .ok (.aload_n 0, 1) := by decide +kernel
theorem dX2_deal_68 : decode cX2_deal 68 = .ok (.getfield 25, 3) := by decide +kernel
theorem dX2_deal_71 : decode cX2_deal 71 = .ok (.iload 4, 2) := by decide +kernel
theorem dX2_deal_73 : decode cX2_deal 73 = .ok (.dup2, 1) := by decide +kernel
theorem dX2_deal_74 : decode cX2_deal 74 = .ok (.iaload, 1) := by decide +kernel
theorem dX2_deal_75 : decode cX2_deal 75 = .ok (.iconst 1, 1) := by decide +kernel
theorem dX2_deal_76 : decode cX2_deal 76 = .ok (.iload_n 2, 1) := by decide +kernel
theorem dX2_deal_77 : decode cX2_deal 77 = .ok (.ishl, 1) := by decide +kernel
theorem dX2_deal_78 : decode cX2_deal 78 = .ok (.ior, 1) := by decide +kernel
theorem dX2_deal_79 : decode cX2_deal 79 = .ok (.iastore, 1) := by decide +kernel
theorem dX2_deal_80 : decode cX2_deal 80 = .ok (.aload_n 0, 1) := by decide +kernel
theorem dX2_deal_81 : decode cX2_deal 81 = .ok (.iload_n 1, 1) := by decide +kernel
theorem dX2_deal_82 : decode cX2_deal 82 = .ok (.iload_n 2, 1) := by decide +kernel
theorem dX2_deal_83 : decode cX2_deal 83 = .ok (.iconst 1, 1) := by decide +kernel
theorem dX2_deal_84 : decode cX2_deal 84 = .ok (.iadd, 1) := by decide +kernel
theorem dX2_deal_85 : decode cX2_deal 85 = .ok (.iload_n 3, 1) := by decide +kernel
theorem dX2_deal_86 : decode cX2_deal 86 = .ok (.invokevirtual 84, 3) := by decide +kernel
theorem dX2_deal_89 : decode cX2_deal 89 = .ok (.aload_n 0, 1) := by decide +kernel
theorem dX2_deal_90 : decode cX2_deal 90 = .ok (.getfield 25, 3) := by decide +kernel
theorem dX2_deal_93 : decode cX2_deal 93 = .ok (.iload 4, 2) := by decide +kernel
theorem dX2_deal_95 : decode cX2_deal 95 = .ok (.aload_n 0, 1) := by decide +kernel
theorem dX2_deal_96 : decode cX2_deal 96 = .ok (.getfield 25, 3) := by decide +kernel
theorem dX2_deal_99 : decode cX2_deal 99 = .ok (.iload 4, 2) := by decide +kernel
theorem dX2_deal_101 : decode cX2_deal 101 = .ok (.iaload, 1) := by decide +kernel
theorem dX2_deal_102 : decode cX2_deal 102 = .ok (.iload_n 2, 1) := by decide +kernel
theorem dX2_deal_103 : decode cX2_deal 103 = .ok (.invokestatic 64, 3) := by decide +kernel
theorem dX2_deal_106 : decode cX2_deal 106 = .ok (.iastore, 1) := by decide +kernel
theorem dX2_deal_107 : decode cX2_deal 107 = .ok (.iinc 4 1, 3) := by decide +kernel
theorem dX2_deal_110 : decode cX2_deal 110 = .ok (.goto (-68), 3) := by decide +kernel
theorem dX2_deal_113 : decode cX2_deal 113 = .ok (.iload_n 3, 1) := by decide +kernel
theorem dX2_deal_114 : decode cX2_deal 114 = .ok (.bipush 12, 2) := by decide +kernel
theorem dX2_deal_116 : decode cX2_deal 116 = .ok (.if_icmp .ge 23, 3) := by decide +kernel
theorem dX2_deal_119 : decode cX2_deal 119 = .ok (.aload_n 0, 1) := by decide +kernel
theorem dX2_deal_120 : decode cX2_deal 120 = .ok (.getfield 25, 3) := by decide +kernel
theorem dX2_deal_123 : decode cX2_deal 123 = .ok (.iload_n 3, 1) := by decide +kernel
theorem dX2_deal_124 : decode cX2_deal 124 = .ok (.iconst 1, 1) := by decide +kernel
theorem dX2_deal_125 : decode cX2_deal 125 = .ok (.iload_n 2, 1) := by decide +kernel
theorem dX2_deal_126 : decode cX2_deal 126 = .ok (.ishl, 1) := by decide +kernel
theorem dX2_deal_127 : decode cX2_deal 127 = .ok (.iastore, 1) := by decide +kernel
theorem dX2_deal_128 : decode cX2_deal 128 = .ok (.aload_n 0, 1) := by decide +kernel
theorem dX2_deal_129 : decode cX2_deal 129 = .ok (.iload_n 1, 1) := by decide +kernel
theorem dX2_deal_130 : decode cX2_deal 130 = .ok (.iload_n 2, 1) := by decide +kernel
theorem dX2_deal_131 : decode cX2_deal 131 = .ok (.iconst 1, 1) := by decide +kernel
theorem dX2_deal_132 : decode cX2_deal 132 = .ok (.iadd, 1) := by decide +kernel
theorem dX2_deal_133 : decode cX2_deal 133 = .ok (.iload_n 3, 1) := by decide +kernel
theorem dX2_deal_134 : decode cX2_deal 134 = .ok (.iconst 1, 1) := by decide +kernel
theorem dX2_deal_135 : decode cX2_deal 135 = .ok (.iadd, 1) := by decide +kernel
theorem dX2_deal_136 : decode cX2_deal 136 = .ok (.invokevirtual 84, 3) := by decide +kernel
theorem dX2_deal_139 : decode cX2_deal 139 = .ok (.return_, 1) := by decide +kernel
theorem dX2_loners_0 : decode cX2_loners 0 = .ok (.iconst 0, 1) := by decide +kernel
theorem dX2_loners_1 : decode cX2_loners 1 = .ok (.istore_n 2, 1) := by decide +kernel
theorem dX2_loners_2 : decode cX2_loners 2 = .ok (.iconst 0, 1) := by decide +kernel
theorem dX2_loners_3 : decode cX2_loners 3 = .ok (.istore_n 3, 1) := by decide +kernel
theorem dX2_loners_4 : decode cX2_loners 4 = .ok (.iload_n 3, 1) := by decide +kernel
theorem dX2_loners_5 : decode cX2_loners 5 = .ok (.aload_n 0, 1) := by decide +kernel
theorem dX2_loners_6 : decode cX2_loners 6 = .ok (.getfield 9, 3) := by decide +kernel
theorem dX2_loners_9 : decode cX2_loners 9 = .ok (.getfield 37, 3) := by decide +kernel
theorem dX2_loners_12 : decode cX2_loners 12 = .ok (.if_icmp .ge 34, 3) := by decide +kernel
theorem dX2_loners_15 : decode cX2_loners 15 = .ok (.iload_n 1, 1) := by decide +kernel
theorem dX2_loners_16 : decode cX2_loners 16 = .ok (.iload_n 3, 1) := by decide +kernel
theorem dX2_loners_17 : decode cX2_loners 17 = .ok (.invokestatic 61, 3) := by decide +kernel
theorem dX2_loners_20 : decode cX2_loners 20 = .ok (.ifCond .eq 20, 3) := by decide +kernel
theorem dX2_loners_23 : decode cX2_loners 23 = .ok (.iload_n 1, 1) := by decide +kernel
theorem dX2_loners_24 : decode cX2_loners 24 = .ok (.aload_n 0, 1) := by decide +kernel
theorem dX2_loners_25 : decode cX2_loners 25 = .ok (.getfield 19, 3) := by decide +kernel
theorem dX2_loners_28 : decode cX2_loners 28 = .ok (.iload_n 3, 1) := by decide +kernel
theorem dX2_loners_29 : decode cX2_loners 29 = .ok (.iaload, 1) := by decide +kernel
theorem dX2_loners_30 : decode cX2_loners 30 = .ok (.iand, 1) := by decide +kernel
theorem dX2_loners_31 : decode cX2_loners 31 = .ok (.ifCond .ne 9, 3) := by decide +kernel
theorem dX2_loners_34 : decode cX2_loners 34 = .ok (.iload_n 2, 1) := by decide +kernel
theorem dX2_loners_35 : decode cX2_loners 35 = .ok (.iconst 1, 1) := by decide +kernel
theorem dX2_loners_36 : decode cX2_loners 36 = .ok (.iload_n 3, 1) := by decide +kernel
theorem dX2_loners_37 : decode cX2_loners 37 = .ok (.ishl, 1) := by decide +kernel
theorem dX2_loners_38 : decode cX2_loners 38 = .ok (.ior, 1) := by decide +kernel
theorem dX2_loners_39 : decode cX2_loners 39 = .ok (.istore_n 2, 1) := by decide +kernel
theorem dX2_loners_40 : decode cX2_loners 40 = .ok (.iinc 3 1, 3) := by decide +kernel
theorem dX2_loners_43 : decode cX2_loners 43 = .ok (.goto (-39), 3) := by decide +kernel
theorem dX2_loners_46 : decode cX2_loners 46 = .ok (.iload_n 2, 1) := by decide +kernel
theorem dX2_loners_47 : decode cX2_loners 47 = .ok (.ireturn, 1) := by decide +kernel
theorem dX2_howManyPairs_0 : decode cX2_howManyPairs 0 = .ok (.iconst 0, 1) := by decide +kernel
theorem dX2_howManyPairs_1 : decode cX2_howManyPairs 1 = .ok (.istore_n 1, 1) := by decide +kernel
theorem dX2_howManyPairs_2 : decode cX2_howManyPairs 2 = .ok (.iconst 0, 1) := by decide +kernel
theorem dX2_howManyPairs_3 : decode cX2_howManyPairs 3 = .ok (.istore_n 2, 1) := by decide +kernel
theorem dX2_howManyPairs_4 : decode cX2_howManyPairs 4 = .ok (.iload_n 2, 1) := by decide +kernel
theorem dX2_howManyPairs_5 : decode cX2_howManyPairs 5 = .ok (.aload_n 0, 1) := by decide +kernel
theorem dX2_howManyPairs_6 : decode cX2_howManyPairs 6 = .ok (.getfield 9, 3) := by decide +kernel
theorem dX2_howManyPairs_9 : decode cX2_howManyPairs 9 = .ok (.getfield 37, 3) := by decide +kernel
theorem dX2_howManyPairs_12 : decode cX2_howManyPairs 12 = .ok (.if_icmp .ge 21, 3) := by decide +kernel
theorem dX2_howManyPairs_15 : decode cX2_howManyPairs 15 = .ok (.iload_n 1, 1) := by decide +kernel
theorem dX2_howManyPairs_16 : decode cX2_howManyPairs 16 = .ok (.aload_n 0, 1) := by decide +kernel
theorem dX2_howManyPairs_17 : decode cX2_howManyPairs 17 = .ok (.getfield 19, 3) := by decide +kernel
theorem dX2_howManyPairs_20 : decode cX2_howManyPairs 20 = .ok (.iload_n 2, 1) := by decide +kernel
theorem dX2_howManyPairs_21 : decode cX2_howManyPairs 21 = .ok (.iaload, 1) := by decide +kernel
theorem dX2_howManyPairs_22 : decode cX2_howManyPairs 22 = .ok (.invokestatic 75, 3) := by decide +kernel
theorem dX2_howManyPairs_25 : decode cX2_howManyPairs 25 = .ok (.iadd, 1) := by decide +kernel
theorem dX2_howManyPairs_26 : decode cX2_howManyPairs 26 = .ok (.istore_n 1, 1) := by decide +kernel
theorem dX2_howManyPairs_27 : decode cX2_howManyPairs 27 = .ok (.iinc 2 1, 3) := by decide +kernel
theorem dX2_howManyPairs_30 : decode cX2_howManyPairs 30 = .ok (.goto (-26), 3) := by decide +kernel
theorem dX2_howManyPairs_33 : decode cX2_howManyPairs 33 = .ok (.iload_n 1, 1) := by decide +kernel
theorem dX2_howManyPairs_34 : decode cX2_howManyPairs 34 = .ok (.iconst 2, 1) := by decide +kernel
theorem dX2_howManyPairs_35 : decode cX2_howManyPairs 35 = .ok (.idiv, 1) := by decide +kernel
theorem dX2_howManyPairs_36 : decode cX2_howManyPairs 36 = .ok (.ireturn, 1) := by decide +kernel
theorem dX2_howManyOrders_0 : decode cX2_howManyOrders 0 = .ok (.aload_n 0, 1) := by decide +kernel
theorem dX2_howManyOrders_1 : decode cX2_howManyOrders 1 = .ok (.iload_n 1, 1) := by decide +kernel
theorem dX2_howManyOrders_2 : decode cX2_howManyOrders 2 = .ok (.invokevirtual 87, 3) := by decide +kernel
theorem dX2_howManyOrders_5 : decode cX2_howManyOrders 5 = .ok (.aload_n 0, 1) := by decide +kernel
theorem dX2_howManyOrders_6 : decode cX2_howManyOrders 6 = .ok (.getfield 34, 3) := by decide +kernel
theorem dX2_howManyOrders_9 : decode cX2_howManyOrders 9 = .ok (.iconst 1, 1) := by decide +kernel
theorem dX2_howManyOrders_10 : decode cX2_howManyOrders 10 = .ok (.aload_n 0, 1) := by decide +kernel
theorem dX2_howManyOrders_11 : decode cX2_howManyOrders 11 = .ok (.getfield 91, 3) := by decide +kernel
theorem dX2_howManyOrders_14 : decode cX2_howManyOrders 14 = .ok (.ishl, 1) := by decide +kernel
theorem dX2_howManyOrders_15 : decode cX2_howManyOrders 15 = .ok (.iconst 1, 1) := by decide +kernel
theorem dX2_howManyOrders_16 : decode cX2_howManyOrders 16 = .ok (.isub, 1) := by decide +kernel
theorem dX2_howManyOrders_17 : decode cX2_howManyOrders 17 = .ok (.iaload, 1) := by decide +kernel
theorem dX2_howManyOrders_18 : decode cX2_howManyOrders 18 = .ok (.ireturn, 1) := by decide +kernel
theorem dX2_countOrders_0 : decode cX2_countOrders 0 = .ok (.aload_n 0, 1) := by decide +kernel
theorem dX2_countOrders_1 : decode cX2_countOrders 1 = .ok (.iload_n 1, 1) := by decide +kernel
theorem dX2_countOrders_2 : decode cX2_countOrders 2 = .ok (.invokevirtual 94, 3) := by decide +kernel
theorem dX2_countOrders_5 : decode cX2_countOrders 5 = .ok (.aload_n 0, 1) := by decide +kernel
theorem dX2_countOrders_6 : decode cX2_countOrders 6 = .ok (.getfield 34, 3) := by decide +kernel
theorem dX2_countOrders_9 : decode cX2_countOrders 9 = .ok (.iconst 0, 1) := by decide +kernel
theorem dX2_countOrders_10 : decode cX2_countOrders 10 = .ok (.iconst 1, 1) := by decide +kernel
theorem dX2_countOrders_11 : decode cX2_countOrders 11 = .ok (.iastore, 1) := by decide +kernel
theorem dX2_countOrders_12 : decode cX2_countOrders 12 = .ok (.iconst 1, 1) := by decide +kernel
theorem dX2_countOrders_13 : decode cX2_countOrders 13 = .ok (.istore_n 2, 1) := by decide +kernel
theorem dX2_countOrders_14 : decode cX2_countOrders 14 = .ok (.iload_n 2, 1) := by decide +kernel
theorem dX2_countOrders_15 : decode cX2_countOrders 15 = .ok (.iconst 1, 1) := by decide +kernel
theorem dX2_countOrders_16 : decode cX2_countOrders 16 = .ok (.aload_n 0, 1) := by decide +kernel
theorem dX2_countOrders_17 : decode cX2_countOrders 17 = .ok (.getfield 91, 3) := by decide +kernel
theorem dX2_countOrders_20 : decode cX2_countOrders 20 = .ok (.ishl, 1) := by decide +kernel
theorem dX2_countOrders_21 : decode cX2_countOrders 21 = .ok (.if_icmp .ge 74, 3) := by decide +kernel
theorem dX2_countOrders_24 : decode cX2_countOrders 24 = .ok (.iconst 0, 1) := by decide +kernel
theorem dX2_countOrders_25 : decode cX2_countOrders 25 = .ok (.istore_n 3, 1) := by decide +kernel
theorem dX2_countOrders_26 : decode cX2_countOrders 26 = .ok (.iconst 0, 1) := by decide +kernel
theorem dX2_countOrders_27 : decode cX2_countOrders 27 = .ok (.istore 4, 2) := by decide +kernel
theorem dX2_countOrders_29 : decode cX2_countOrders 29 = .ok (.iload 4, 2) := by decide +kernel
theorem dX2_countOrders_31 : decode cX2_countOrders 31 = .ok (.aload_n 0, 1) := by decide +kernel
theorem dX2_countOrders_32 : decode cX2_countOrders 32 = .ok (.getfield 91, 3) := by decide +kernel
theorem dX2_countOrders_35 : decode cX2_countOrders 35 = .ok (.if_icmp .ge 47, 3) := by decide +kernel
theorem dX2_countOrders_38 : decode cX2_countOrders 38 = .ok (.iload_n 2, 1) := by decide +kernel
theorem dX2_countOrders_39 : decode cX2_countOrders 39 = .ok (.iload 4, 2) := by decide +kernel
theorem dX2_countOrders_41 : decode cX2_countOrders 41 = .ok (.invokestatic 61, 3) := by decide +kernel
theorem dX2_countOrders_44 : decode cX2_countOrders 44 = .ok (.ifCond .eq 32, 3) := by decide +kernel
theorem dX2_countOrders_47 : decode cX2_countOrders 47 = .ok (.aload_n 0, 1) := by decide +kernel
theorem dX2_countOrders_48 : decode cX2_countOrders 48 = .ok (.iload 4, 2) := by decide +kernel
theorem dX2_countOrders_50 : decode cX2_countOrders 50 = .ok (.iload_n 2, 1) := by decide +kernel
theorem dX2_countOrders_51 : decode cX2_countOrders 51 = .ok (.iload 4, 2) := by decide +kernel
theorem dX2_countOrders_53 : decode cX2_countOrders 53 = .ok (.invokestatic 64, 3) := by decide +kernel
theorem dX2_countOrders_56 : decode cX2_countOrders 56 = .ok (.invokevirtual 97, 3) := by decide +kernel
theorem dX2_countOrders_59 : decode cX2_countOrders 59 = .ok (.ifCond .eq 17, 3) := by decide +kernel
theorem dX2_countOrders_62 : decode cX2_countOrders 62 = .ok (.iload_n 3, 1) := by decide +kernel
theorem dX2_countOrders_63 : decode cX2_countOrders 63 = .ok (.aload_n 0, 1) := by decide +kernel
theorem dX2_countOrders_64 : decode cX2_countOrders 64 = .ok (.getfield 34, 3) := by decide +kernel
theorem dX2_countOrders_67 : decode cX2_countOrders 67 = .ok (.iload_n 2, 1) := by decide +kernel
theorem dX2_countOrders_68 : decode cX2_countOrders 68 = .ok (.iload 4, 2) := by decide +kernel
theorem dX2_countOrders_70 : decode cX2_countOrders 70 = .ok (.invokestatic 64, 3) := by decide +kernel
theorem dX2_countOrders_73 : decode cX2_countOrders 73 = .ok (.iaload, 1) := by decide +kernel
theorem dX2_countOrders_74 : decode cX2_countOrders 74 = .ok (.iadd, 1) := by decide +kernel
theorem dX2_countOrders_75 : decode cX2_countOrders 75 = .ok (.istore_n 3, 1) := by decide +kernel
theorem dX2_countOrders_76 : decode cX2_countOrders 76 = .ok (.iinc 4 1, 3) := by decide +kernel
theorem dX2_countOrders_79 : decode cX2_countOrders 79 = .ok (.goto (-50), 3) := by decide +kernel
theorem dX2_countOrders_82 : decode cX2_countOrders 82 = .ok (.aload_n 0, 1) := by decide +kernel
theorem dX2_countOrders_83 : decode cX2_countOrders 83 = .ok (.getfield 34, 3) := by decide +kernel
theorem dX2_countOrders_86 : decode cX2_countOrders 86 = .ok (.iload_n 2, 1) := by decide +kernel
theorem dX2_countOrders_87 : decode cX2_countOrders 87 = .ok (.iload_n 3, 1) := by decide +kernel
theorem dX2_countOrders_88 : decode cX2_countOrders 88 = .ok (.iastore, 1) := by decide +kernel
theorem dX2_countOrders_89 : decode cX2_countOrders 89 = .ok (.iinc 2 1, 3) := by decide +kernel
theorem dX2_countOrders_92 : decode cX2_countOrders 92 = .ok (.goto (-78), 3) := by decide +kernel
theorem dX2_countOrders_95 : decode cX2_countOrders 95 = .ok (.return_, 1) := by decide +kernel
theorem dX2_gatherMembers_0 : decode cX2_gatherMembers 0 = .ok (.aload_n 0, 1) := by decide +kernel
theorem dX2_gatherMembers_1 : decode cX2_gatherMembers 1 = .ok (.iconst 0, 1) := by decide +kernel
theorem dX2_gatherMembers_2 : decode cX2_gatherMembers 2 = .ok (.putfield 91, 3) := by decide +kernel
theorem dX2_gatherMembers_5 : decode cX2_gatherMembers 5 = .ok (.iconst 0, 1) := by decide +kernel
theorem dX2_gatherMembers_6 : decode cX2_gatherMembers 6 = .ok (.istore_n 2, 1) := by decide +kernel
theorem dX2_gatherMembers_7 : decode cX2_gatherMembers 7 = .ok (.iload_n 2, 1) := by decide +kernel
theorem dX2_gatherMembers_8 : decode cX2_gatherMembers 8 = .ok (.aload_n 0, 1) := by decide +kernel
theorem dX2_gatherMembers_9 : decode cX2_gatherMembers 9 = .ok (.getfield 9, 3) := by decide +kernel
theorem dX2_gatherMembers_12 : decode cX2_gatherMembers 12 = .ok (.getfield 37, 3) := by decide +kernel
theorem dX2_gatherMembers_15 : decode cX2_gatherMembers 15 = .ok (.if_icmp .ge 46, 3) := by decide +kernel
theorem dX2_gatherMembers_18 : decode cX2_gatherMembers 18 = .ok (.aload_n 0, 1) := by decide +kernel
theorem dX2_gatherMembers_19 : decode cX2_gatherMembers 19 = .ok (.getfield 91, 3) := by decide +kernel
theorem dX2_gatherMembers_22 : decode cX2_gatherMembers 22 = .ok (.bipush 8, 2) := by decide +kernel
theorem dX2_gatherMembers_24 : decode cX2_gatherMembers 24 = .ok (.if_icmp .ge 37, 3) := by decide +kernel
theorem dX2_gatherMembers_27 : decode cX2_gatherMembers 27 = .ok (.iload_n 1, 1) := by decide +kernel
theorem dX2_gatherMembers_28 : decode cX2_gatherMembers 28 = .ok (.iload_n 2, 1) := by decide +kernel
theorem dX2_gatherMembers_29 : decode cX2_gatherMembers 29 = .ok (.invokestatic 61, 3) := by decide +kernel
theorem dX2_gatherMembers_32 : decode cX2_gatherMembers 32 = .ok (.ifCond .eq 23, 3) := by decide +kernel
theorem dX2_gatherMembers_35 : decode cX2_gatherMembers 35 = .ok (.aload_n 0, 1) := by decide +kernel
theorem dX2_gatherMembers_36 : decode cX2_gatherMembers 36 = .ok (.getfield 28, 3) := by decide +kernel
theorem dX2_gatherMembers_39 : decode cX2_gatherMembers 39 = .ok (.aload_n 0, 1) := by decide +kernel
theorem dX2_gatherMembers_40 : decode cX2_gatherMembers 40 = .ok (.getfield 91, 3) := by decide +kernel
theorem dX2_gatherMembers_43 : decode cX2_gatherMembers 43 = .ok (.iload_n 2, 1) := by decide +kernel
theorem dX2_gatherMembers_44 : decode cX2_gatherMembers 44 = .ok (.iastore, 1) := by decide +kernel
theorem dX2_gatherMembers_45 : decode cX2_gatherMembers 45 = .ok (.aload_n 0, 1) := by decide +kernel
theorem dX2_gatherMembers_46 : decode cX2_gatherMembers 46 = .ok (.dup, 1) := by decide +kernel
theorem dX2_gatherMembers_47 : decode cX2_gatherMembers 47 = .ok (.getfield 91, 3) := by decide +kernel
theorem dX2_gatherMembers_50 : decode cX2_gatherMembers 50 = .ok (.iconst 1, 1) := by decide +kernel
theorem dX2_gatherMembers_51 : decode cX2_gatherMembers 51 = .ok (.iadd, 1) := by decide +kernel
theorem dX2_gatherMembers_52 : decode cX2_gatherMembers 52 = .ok (.putfield 91, 3) := by decide +kernel
theorem dX2_gatherMembers_55 : decode cX2_gatherMembers 55 = .ok (.iinc 2 1, 3) := by decide +kernel
theorem dX2_gatherMembers_58 : decode cX2_gatherMembers 58 = .ok (.goto (-51), 3) := by decide +kernel
theorem dX2_gatherMembers_61 : decode cX2_gatherMembers 61 = .ok (.iconst 0, 1) := by decide +kernel
theorem dX2_gatherMembers_62 : decode cX2_gatherMembers 62 = .ok (.istore_n 2, 1) := by decide +kernel
theorem dX2_gatherMembers_63 : decode cX2_gatherMembers 63 = .ok (.iload_n 2, 1) := by decide +kernel
theorem dX2_gatherMembers_64 : decode cX2_gatherMembers 64 = .ok (.aload_n 0, 1) := by decide +kernel
theorem dX2_gatherMembers_65 : decode cX2_gatherMembers 65 = .ok (.getfield 91, 3) := by decide +kernel
theorem dX2_gatherMembers_68 : decode cX2_gatherMembers 68 = .ok (.if_icmp .ge 54, 3) := by decide +kernel
theorem dX2_gatherMembers_71 : decode cX2_gatherMembers 71 = .ok (.iconst 0, 1) := by decide +kernel
theorem dX2_gatherMembers_72 : decode cX2_gatherMembers 72 = .ok (.istore_n 3, 1) := by decide +kernel
theorem dX2_gatherMembers_73 : decode cX2_gatherMembers 73 = .ok (.iload_n 3, 1) := by decide +kernel
theorem dX2_gatherMembers_74 : decode cX2_gatherMembers 74 = .ok (.aload_n 0, 1) := by decide +kernel
theorem dX2_gatherMembers_75 : decode cX2_gatherMembers 75 = .ok (.getfield 91, 3) := by decide +kernel
theorem dX2_gatherMembers_78 : decode cX2_gatherMembers 78 = .ok (.if_icmp .ge 38, 3) := by decide +kernel
theorem dX2_gatherMembers_81 : decode cX2_gatherMembers 81 = .ok (.aload_n 0, 1) := by decide +kernel
theorem dX2_gatherMembers_82 : decode cX2_gatherMembers 82 = .ok (.getfield 31, 3) := by decide +kernel
theorem dX2_gatherMembers_85 : decode cX2_gatherMembers 85 = .ok (.iload_n 2, 1) := by decide +kernel
theorem dX2_gatherMembers_86 : decode cX2_gatherMembers 86 = .ok (.iload_n 3, 1) := by decide +kernel
theorem dX2_gatherMembers_87 : decode cX2_gatherMembers 87 = .ok (.aload_n 0, 1) := by decide +kernel
theorem dX2_gatherMembers_88 : decode cX2_gatherMembers 88 = .ok (.getfield 15, 3) := by decide +kernel
theorem dX2_gatherMembers_91 : decode cX2_gatherMembers 91 = .ok (.aload_n 0, 1) := by decide +kernel
theorem dX2_gatherMembers_92 : decode cX2_gatherMembers 92 = .ok (.getfield 28, 3) := by decide +kernel
theorem dX2_gatherMembers_95 : decode cX2_gatherMembers 95 = .ok (.iload_n 2, 1) := by decide +kernel
theorem dX2_gatherMembers_96 : decode cX2_gatherMembers 96 = .ok (.iaload, 1) := by decide +kernel
theorem dX2_gatherMembers_97 : decode cX2_gatherMembers 97 = .ok (.iaload, 1) := by decide +kernel
theorem dX2_gatherMembers_98 : decode cX2_gatherMembers 98 = .ok (.aload_n 0, 1) := by decide +kernel
theorem dX2_gatherMembers_99 : decode cX2_gatherMembers 99 = .ok (.getfield 28, 3) := by decide +kernel
theorem dX2_gatherMembers_102 : decode cX2_gatherMembers 102 = .ok (.iload_n 3, 1) := by decide +kernel
theorem dX2_gatherMembers_103 : decode cX2_gatherMembers 103 = .ok (.iaload, 1) := by decide +kernel
theorem dX2_gatherMembers_104 : decode cX2_gatherMembers 104 = .ok (.invokestatic 61, 3) := by decide +kernel
theorem dX2_gatherMembers_107 : decode cX2_gatherMembers 107 = .ok (.invokestatic 57, 3) := by decide +kernel
theorem dX2_gatherMembers_110 : decode cX2_gatherMembers 110 = .ok (.iinc 3 1, 3) := by decide +kernel
theorem dX2_gatherMembers_113 : decode cX2_gatherMembers 113 = .ok (.goto (-40), 3) := by decide +kernel
theorem dX2_gatherMembers_116 : decode cX2_gatherMembers 116 = .ok (.iinc 2 1, 3) := by decide +kernel
theorem dX2_gatherMembers_119 : decode cX2_gatherMembers 119 = .ok (.goto (-56), 3) := by decide +kernel
theorem dX2_gatherMembers_122 : decode cX2_gatherMembers 122 = .ok (.return_, 1) := by decide +kernel
theorem dX2_canLead_0 : decode cX2_canLead 0 = .ok (.iload_n 2, 1) := by decide +kernel
theorem dX2_canLead_1 : decode cX2_canLead 1 = .ok (.aload_n 0, 1) := by decide +kernel
theorem dX2_canLead_2 : decode cX2_canLead 2 = .ok (.getfield 31, 3) := by decide +kernel
theorem dX2_canLead_5 : decode cX2_canLead 5 = .ok (.iload_n 1, 1) := by decide +kernel
theorem dX2_canLead_6 : decode cX2_canLead 6 = .ok (.iaload, 1) := by decide +kernel
theorem dX2_canLead_7 : decode cX2_canLead 7 = .ok (.iconst (-1), 1) := by decide +kernel
theorem dX2_canLead_8 : decode cX2_canLead 8 = .ok (.ixor, 1) := by decide +kernel
theorem dX2_canLead_9 : decode cX2_canLead 9 = .ok (.iand, 1) := by decide +kernel
theorem dX2_canLead_10 : decode cX2_canLead 10 = .ok (.ifCond .ne 7, 3) := by decide +kernel
theorem dX2_canLead_13 : decode cX2_canLead 13 = .ok (.iconst 1, 1) := by decide +kernel
theorem dX2_canLead_14 : decode cX2_canLead 14 = .ok (.goto 4, 3) := by decide +kernel
theorem dX2_canLead_17 : decode cX2_canLead 17 = .ok (.iconst 0, 1) := by decide +kernel
theorem dX2_canLead_18 : decode cX2_canLead 18 = .ok (.ireturn, 1) := by decide +kernel
theorem dX2_inFirstOrder_0 : decode cX2_inFirstOrder 0 = .ok (.aload_n 0, 1) := by decide +kernel
theorem dX2_inFirstOrder_1 : decode cX2_inFirstOrder 1 = .ok (.iload_n 1, 1) := by decide +kernel
theorem dX2_inFirstOrder_2 : decode cX2_inFirstOrder 2 = .ok (.invokevirtual 87, 3) := by decide +kernel
theorem dX2_inFirstOrder_5 : decode cX2_inFirstOrder 5 = .ok (.iconst 1, 1) := by decide +kernel
theorem dX2_inFirstOrder_6 : decode cX2_inFirstOrder 6 = .ok (.aload_n 0, 1) := by decide +kernel
theorem dX2_inFirstOrder_7 : decode cX2_inFirstOrder 7 = .ok (.getfield 91, 3) := by decide +kernel
theorem dX2_inFirstOrder_10 : decode cX2_inFirstOrder 10 = .ok (.ishl, 1) := by decide +kernel
theorem dX2_inFirstOrder_11 : decode cX2_inFirstOrder 11 = .ok (.iconst 1, 1) := by decide +kernel
theorem dX2_inFirstOrder_12 : decode cX2_inFirstOrder 12 = .ok (.isub, 1) := by decide +kernel
theorem dX2_inFirstOrder_13 : decode cX2_inFirstOrder 13 = .ok (.istore_n 3, 1) := by decide +kernel
theorem dX2_inFirstOrder_14 : decode cX2_inFirstOrder 14 = .ok (.iload_n 2, 1) := by decide +kernel
theorem dX2_inFirstOrder_15 : decode cX2_inFirstOrder 15 = .ok (.aload_n 0, 1) := by decide +kernel
theorem dX2_inFirstOrder_16 : decode cX2_inFirstOrder 16 = .ok (.getfield 91, 3) := by decide +kernel
theorem dX2_inFirstOrder_19 : decode cX2_inFirstOrder 19 = .ok (.if_icmp .ge 12, 3) := by decide +kernel
theorem dX2_inFirstOrder_22 : decode cX2_inFirstOrder 22 = .ok (.aload_n 0, 1) := by decide +kernel
theorem dX2_inFirstOrder_23 : decode cX2_inFirstOrder 23 = .ok (.getfield 34, 3) := by decide +kernel
theorem dX2_inFirstOrder_26 : decode cX2_inFirstOrder 26 = .ok (.iload_n 3, 1) := by decide +kernel
theorem dX2_inFirstOrder_27 : decode cX2_inFirstOrder 27 = .ok (.iaload, 1) := by decide +kernel
theorem dX2_inFirstOrder_28 : decode cX2_inFirstOrder 28 = .ok (.ifCond .ne 5, 3) := by decide +kernel
theorem dX2_inFirstOrder_31 : decode cX2_inFirstOrder 31 = .ok (.iconst (-1), 1) := by decide +kernel
theorem dX2_inFirstOrder_32 : decode cX2_inFirstOrder 32 = .ok (.ireturn, 1) := by decide +kernel
theorem dX2_inFirstOrder_33 : decode cX2_inFirstOrder 33 = .ok (.iconst (-1), 1) := by decide +kernel
theorem dX2_inFirstOrder_34 : decode cX2_inFirstOrder 34 = .ok (.istore 4, 2) := by decide +kernel
theorem dX2_inFirstOrder_36 : decode cX2_inFirstOrder 36 = .ok (.iconst 0, 1) := by decide +kernel
theorem dX2_inFirstOrder_37 : decode cX2_inFirstOrder 37 = .ok (.istore 5, 2) := by decide +kernel
theorem dX2_inFirstOrder_39 : decode cX2_inFirstOrder 39 = .ok (.iload 5, 2) := by decide +kernel
theorem dX2_inFirstOrder_41 : decode cX2_inFirstOrder 41 = .ok (.iload_n 2, 1) := by decide +kernel
theorem dX2_inFirstOrder_42 : decode cX2_inFirstOrder 42 = .ok (.if_icmp .gt 31, 3) := by decide +kernel
theorem dX2_inFirstOrder_45 : decode cX2_inFirstOrder 45 = .ok (.aload_n 0, 1) := by decide +kernel
theorem dX2_inFirstOrder_46 : decode cX2_inFirstOrder 46 = .ok (.iload_n 3, 1) := by decide +kernel
theorem dX2_inFirstOrder_47 : decode cX2_inFirstOrder 47 = .ok (.invokevirtual 100, 3) := by decide +kernel
theorem dX2_inFirstOrder_50 : decode cX2_inFirstOrder 50 = .ok (.istore 4, 2) := by decide +kernel
theorem dX2_inFirstOrder_52 : decode cX2_inFirstOrder 52 = .ok (.iload 4, 2) := by decide +kernel
theorem dX2_inFirstOrder_54 : decode cX2_inFirstOrder 54 = .ok (.iconst (-1), 1) := by decide +kernel
theorem dX2_inFirstOrder_55 : decode cX2_inFirstOrder 55 = .ok (.if_icmp .ne 5, 3) := by decide +kernel
theorem dX2_inFirstOrder_58 : decode cX2_inFirstOrder 58 = .ok (.iconst (-1), 1) := by decide +kernel
theorem dX2_inFirstOrder_59 : decode cX2_inFirstOrder 59 = .ok (.ireturn, 1) := by decide +kernel
theorem dX2_inFirstOrder_60 : decode cX2_inFirstOrder 60 = .ok (.iload_n 3, 1) := by decide +kernel
theorem dX2_inFirstOrder_61 : decode cX2_inFirstOrder 61 = .ok (.iload 4, 2) := by decide +kernel
theorem dX2_inFirstOrder_63 : decode cX2_inFirstOrder 63 = .ok (.invokestatic 64, 3) := by decide +kernel
theorem dX2_inFirstOrder_66 : decode cX2_inFirstOrder 66 = .ok (.istore_n 3, 1) := by decide +kernel
theorem dX2_inFirstOrder_67 : decode cX2_inFirstOrder 67 = .ok (.iinc 5 1, 3) := by decide +kernel
theorem dX2_inFirstOrder_70 : decode cX2_inFirstOrder 70 = .ok (.goto (-31), 3) := by decide +kernel
theorem dX2_inFirstOrder_73 : decode cX2_inFirstOrder 73 = .ok (.aload_n 0, 1) := by decide +kernel
theorem dX2_inFirstOrder_74 : decode cX2_inFirstOrder 74 = .ok (.getfield 28, 3) := by decide +kernel
theorem dX2_inFirstOrder_77 : decode cX2_inFirstOrder 77 = .ok (.iload 4, 2) := by decide +kernel
theorem dX2_inFirstOrder_79 : decode cX2_inFirstOrder 79 = .ok (.iaload, 1) := by decide +kernel
theorem dX2_inFirstOrder_80 : decode cX2_inFirstOrder 80 = .ok (.ireturn, 1) := by decide +kernel
theorem dX2_firstLeader_0 : decode cX2_firstLeader 0 = .ok (.iconst 0, 1) := by decide +kernel
theorem dX2_firstLeader_1 : decode cX2_firstLeader 1 = .ok (.istore_n 2, 1) := by decide +kernel
theorem dX2_firstLeader_2 : decode cX2_firstLeader 2 = .ok (.iload_n 2, 1) := by decide +kernel
theorem dX2_firstLeader_3 : decode cX2_firstLeader 3 = .ok (.aload_n 0, 1) := by decide +kernel
theorem dX2_firstLeader_4 : decode cX2_firstLeader 4 = .ok (.getfield 91, 3) := by decide +kernel
theorem dX2_firstLeader_7 : decode cX2_firstLeader 7 = .ok (.if_icmp .ge 32, 3) := by decide +kernel
theorem dX2_firstLeader_10 : decode cX2_firstLeader 10 = .ok (.iload_n 1, 1) := by decide +kernel
theorem dX2_firstLeader_11 : decode cX2_firstLeader 11 = .ok (.iload_n 2, 1) := by decide +kernel
theorem dX2_firstLeader_12 : decode cX2_firstLeader 12 = .ok (.invokestatic 61, 3) := by decide +kernel
theorem dX2_firstLeader_15 : decode cX2_firstLeader 15 = .ok (.ifCond .eq 18, 3) := by decide +kernel
theorem dX2_firstLeader_18 : decode cX2_firstLeader 18 = .ok (.aload_n 0, 1) := by decide +kernel
theorem dX2_firstLeader_19 : decode cX2_firstLeader 19 = .ok (.iload_n 2, 1) := by decide +kernel
theorem dX2_firstLeader_20 : decode cX2_firstLeader 20 = .ok (.iload_n 1, 1) := by decide +kernel
theorem dX2_firstLeader_21 : decode cX2_firstLeader 21 = .ok (.iload_n 2, 1) := by decide +kernel
theorem dX2_firstLeader_22 : decode cX2_firstLeader 22 = .ok (.invokestatic 64, 3) := by decide +kernel
theorem dX2_firstLeader_25 : decode cX2_firstLeader 25 = .ok (.invokevirtual 97, 3) := by decide +kernel
theorem dX2_firstLeader_28 : decode cX2_firstLeader 28 = .ok (.ifCond .eq 5, 3) := by decide +kernel
theorem dX2_firstLeader_31 : decode cX2_firstLeader 31 = .ok (.iload_n 2, 1) := by decide +kernel
theorem dX2_firstLeader_32 : decode cX2_firstLeader 32 = .ok (.ireturn, 1) := by decide +kernel
theorem dX2_firstLeader_33 : decode cX2_firstLeader 33 = .ok (.iinc 2 1, 3) := by decide +kernel
theorem dX2_firstLeader_36 : decode cX2_firstLeader 36 = .ok (.goto (-34), 3) := by decide +kernel
theorem dX2_firstLeader_39 : decode cX2_firstLeader 39 = .ok (.iconst (-1), 1) := by decide +kernel
theorem dX2_firstLeader_40 : decode cX2_firstLeader 40 = .ok (.ireturn, 1) := by decide +kernel
theorem dX2_misdated_0 : decode cX2_misdated 0 = .ok (.aload_n 0, 1) := by decide +kernel
theorem dX2_misdated_1 : decode cX2_misdated 1 = .ok (.iload_n 1, 1) := by decide +kernel
theorem dX2_misdated_2 : decode cX2_misdated 2 = .ok (.invokevirtual 103, 3) := by decide +kernel
theorem dX2_misdated_5 : decode cX2_misdated 5 = .ok (.istore_n 2, 1) := by decide +kernel
theorem dX2_misdated_6 : decode cX2_misdated 6 = .ok (.iconst 0, 1) := by decide +kernel
theorem dX2_misdated_7 : decode cX2_misdated 7 = .ok (.istore_n 3, 1) := by decide +kernel
theorem dX2_misdated_8 : decode cX2_misdated 8 = .ok (.iload_n 3, 1) := by decide +kernel
theorem dX2_misdated_9 : decode cX2_misdated 9 = .ok (.aload_n 0, 1) := by decide +kernel
theorem dX2_misdated_10 : decode cX2_misdated 10 = .ok (.getfield 9, 3) := by decide +kernel
theorem dX2_misdated_13 : decode cX2_misdated 13 = .ok (.getfield 37, 3) := by decide +kernel
theorem dX2_misdated_16 : decode cX2_misdated 16 = .ok (.if_icmp .ge 41, 3) := by decide +kernel
theorem dX2_misdated_19 : decode cX2_misdated 19 = .ok (.iload_n 1, 1) := by decide +kernel
theorem dX2_misdated_20 : decode cX2_misdated 20 = .ok (.iload_n 3, 1) := by decide +kernel
theorem dX2_misdated_21 : decode cX2_misdated 21 = .ok (.invokestatic 61, 3) := by decide +kernel
theorem dX2_misdated_24 : decode cX2_misdated 24 = .ok (.ifCond .eq 27, 3) := by decide +kernel
theorem dX2_misdated_27 : decode cX2_misdated 27 = .ok (.aload_n 0, 1) := by decide +kernel
theorem dX2_misdated_28 : decode cX2_misdated 28 = .ok (.iload_n 1, 1) := by decide +kernel
theorem dX2_misdated_29 : decode cX2_misdated 29 = .ok (.iload_n 3, 1) := by decide +kernel
theorem dX2_misdated_30 : decode cX2_misdated 30 = .ok (.invokestatic 64, 3) := by decide +kernel
theorem dX2_misdated_33 : decode cX2_misdated 33 = .ok (.invokevirtual 106, 3) := by decide +kernel
theorem dX2_misdated_36 : decode cX2_misdated 36 = .ok (.ifCond .eq 15, 3) := by decide +kernel
theorem dX2_misdated_39 : decode cX2_misdated 39 = .ok (.aload_n 0, 1) := by decide +kernel
theorem dX2_misdated_40 : decode cX2_misdated 40 = .ok (.iload_n 3, 1) := by decide +kernel
theorem dX2_misdated_41 : decode cX2_misdated 41 = .ok (.iload_n 1, 1) := by decide +kernel
theorem dX2_misdated_42 : decode cX2_misdated 42 = .ok (.iload_n 2, 1) := by decide +kernel
theorem dX2_misdated_43 : decode cX2_misdated 43 = .ok (.invokevirtual 110, 3) := by decide +kernel
theorem dX2_misdated_46 : decode cX2_misdated 46 = .ok (.ifCond .eq 5, 3) := by decide +kernel
theorem dX2_misdated_49 : decode cX2_misdated 49 = .ok (.iload_n 3, 1) := by decide +kernel
theorem dX2_misdated_50 : decode cX2_misdated 50 = .ok (.ireturn, 1) := by decide +kernel
theorem dX2_misdated_51 : decode cX2_misdated 51 = .ok (.iinc 3 1, 3) := by decide +kernel
theorem dX2_misdated_54 : decode cX2_misdated 54 = .ok (.goto (-46), 3) := by decide +kernel
theorem dX2_misdated_57 : decode cX2_misdated 57 = .ok (.iconst (-1), 1) := by decide +kernel
theorem dX2_misdated_58 : decode cX2_misdated 58 = .ok (.ireturn, 1) := by decide +kernel
theorem dX2_fitsSomewhere_0 : decode cX2_fitsSomewhere 0 = .ok (.iload_n 2, 1) := by decide +kernel
theorem dX2_fitsSomewhere_1 : decode cX2_fitsSomewhere 1 = .ok (.iload_n 1, 1) := by decide +kernel
theorem dX2_fitsSomewhere_2 : decode cX2_fitsSomewhere 2 = .ok (.invokestatic 64, 3) := by decide +kernel
theorem dX2_fitsSomewhere_5 : decode cX2_fitsSomewhere 5 = .ok (.istore 4, 2) := by decide +kernel
theorem dX2_fitsSomewhere_7 : decode cX2_fitsSomewhere 7 = .ok (.iload 4, 2) := by decide +kernel
theorem dX2_fitsSomewhere_9 : decode cX2_fitsSomewhere 9 = .ok (.aload_n 0, 1) := by decide +kernel
theorem dX2_fitsSomewhere_10 : decode cX2_fitsSomewhere 10 = .ok (.getfield 15, 3) := by decide +kernel
theorem dX2_fitsSomewhere_13 : decode cX2_fitsSomewhere 13 = .ok (.iload_n 1, 1) := by decide +kernel
theorem dX2_fitsSomewhere_14 : decode cX2_fitsSomewhere 14 = .ok (.iaload, 1) := by decide +kernel
theorem dX2_fitsSomewhere_15 : decode cX2_fitsSomewhere 15 = .ok (.iconst (-1), 1) := by decide +kernel
theorem dX2_fitsSomewhere_16 : decode cX2_fitsSomewhere 16 = .ok (.ixor, 1) := by decide +kernel
theorem dX2_fitsSomewhere_17 : decode cX2_fitsSomewhere 17 = .ok (.iand, 1) := by decide +kernel
theorem dX2_fitsSomewhere_18 : decode cX2_fitsSomewhere 18 = .ok (.ifCond .ne 5, 3) := by decide +kernel
theorem dX2_fitsSomewhere_21 : decode cX2_fitsSomewhere 21 = .ok (.iconst 1, 1) := by decide +kernel
theorem dX2_fitsSomewhere_22 : decode cX2_fitsSomewhere 22 = .ok (.ireturn, 1) := by decide +kernel
theorem dX2_fitsSomewhere_23 : decode cX2_fitsSomewhere 23 = .ok (.iconst 0, 1) := by decide +kernel
theorem dX2_fitsSomewhere_24 : decode cX2_fitsSomewhere 24 = .ok (.istore 5, 2) := by decide +kernel
theorem dX2_fitsSomewhere_26 : decode cX2_fitsSomewhere 26 = .ok (.iload 5, 2) := by decide +kernel
theorem dX2_fitsSomewhere_28 : decode cX2_fitsSomewhere 28 = .ok (.iload_n 3, 1) := by decide +kernel
theorem dX2_fitsSomewhere_29 : decode cX2_fitsSomewhere 29 = .ok (.if_icmp .ge 68, 3) := by decide +kernel
theorem dX2_fitsSomewhere_32 : decode cX2_fitsSomewhere 32 = .ok (.aload_n 0, 1) := by decide +kernel
theorem dX2_fitsSomewhere_33 : decode cX2_fitsSomewhere 33 = .ok (.getfield 22, 3) := by decide +kernel
theorem dX2_fitsSomewhere_36 : decode cX2_fitsSomewhere 36 = .ok (.iload 5, 2) := by decide +kernel
theorem dX2_fitsSomewhere_38 : decode cX2_fitsSomewhere 38 = .ok (.iaload, 1) := by decide +kernel
theorem dX2_fitsSomewhere_39 : decode cX2_fitsSomewhere 39 = .ok (.istore 6, 2) := by decide +kernel
theorem dX2_fitsSomewhere_41 : decode cX2_fitsSomewhere 41 = .ok (.iload 6, 2) := by decide +kernel
theorem dX2_fitsSomewhere_43 : decode cX2_fitsSomewhere 43 = .ok (.iload_n 1, 1) := by decide +kernel
theorem dX2_fitsSomewhere_44 : decode cX2_fitsSomewhere 44 = .ok (.if_icmp .ne 6, 3) := by decide +kernel
theorem dX2_fitsSomewhere_47 : decode cX2_fitsSomewhere 47 = .ok (.goto 44, 3) := by decide +kernel
theorem dX2_fitsSomewhere_50 : decode cX2_fitsSomewhere 50 = .ok (.aload_n 0, 1) := by decide +kernel
theorem dX2_fitsSomewhere_51 : decode cX2_fitsSomewhere 51 = .ok (.getfield 15, 3) := by decide +kernel
theorem dX2_fitsSomewhere_54 : decode cX2_fitsSomewhere 54 = .ok (.iload 6, 2) := by decide +kernel
theorem dX2_fitsSomewhere_56 : decode cX2_fitsSomewhere 56 = .ok (.iaload, 1) := by decide +kernel
theorem dX2_fitsSomewhere_57 : decode cX2_fitsSomewhere 57 = .ok (.iload_n 1, 1) := by decide +kernel
theorem dX2_fitsSomewhere_58 : decode cX2_fitsSomewhere 58 = .ok (.invokestatic 61, 3) := by decide +kernel
theorem dX2_fitsSomewhere_61 : decode cX2_fitsSomewhere 61 = .ok (.ifCond .ne 5, 3) := by decide +kernel
theorem dX2_fitsSomewhere_64 : decode cX2_fitsSomewhere 64 = .ok (.iconst 0, 1) := by decide +kernel
theorem dX2_fitsSomewhere_65 : decode cX2_fitsSomewhere 65 = .ok (.ireturn, 1) := by decide +kernel
theorem dX2_fitsSomewhere_66 : decode cX2_fitsSomewhere 66 = .ok (.iload 4, 2) := by decide +kernel
theorem dX2_fitsSomewhere_68 : decode cX2_fitsSomewhere 68 = .ok (.iload 6, 2) := by decide +kernel
theorem dX2_fitsSomewhere_70 : decode cX2_fitsSomewhere 70 = .ok (.invokestatic 64, 3) := by decide +kernel
theorem dX2_fitsSomewhere_73 : decode cX2_fitsSomewhere 73 = .ok (.istore 4, 2) := by decide +kernel
theorem dX2_fitsSomewhere_75 : decode cX2_fitsSomewhere 75 = .ok (.iload 4, 2) := by decide +kernel
theorem dX2_fitsSomewhere_77 : decode cX2_fitsSomewhere 77 = .ok (.aload_n 0, 1) := by decide +kernel
theorem dX2_fitsSomewhere_78 : decode cX2_fitsSomewhere 78 = .ok (.getfield 15, 3) := by decide +kernel
theorem dX2_fitsSomewhere_81 : decode cX2_fitsSomewhere 81 = .ok (.iload_n 1, 1) := by decide +kernel
theorem dX2_fitsSomewhere_82 : decode cX2_fitsSomewhere 82 = .ok (.iaload, 1) := by decide +kernel
theorem dX2_fitsSomewhere_83 : decode cX2_fitsSomewhere 83 = .ok (.iconst (-1), 1) := by decide +kernel
theorem dX2_fitsSomewhere_84 : decode cX2_fitsSomewhere 84 = .ok (.ixor, 1) := by decide +kernel
theorem dX2_fitsSomewhere_85 : decode cX2_fitsSomewhere 85 = .ok (.iand, 1) := by decide +kernel
theorem dX2_fitsSomewhere_86 : decode cX2_fitsSomewhere 86 = .ok (.ifCond .ne 5, 3) := by decide +kernel
theorem dX2_fitsSomewhere_89 : decode cX2_fitsSomewhere 89 = .ok (.iconst 1, 1) := by decide +kernel
theorem dX2_fitsSomewhere_90 : decode cX2_fitsSomewhere 90 = .ok (.ireturn, 1) := by decide +kernel
theorem dX2_fitsSomewhere_91 : decode cX2_fitsSomewhere 91 = .ok (.iinc 5 1, 3) := by decide +kernel
theorem dX2_fitsSomewhere_94 : decode cX2_fitsSomewhere 94 = .ok (.goto (-68), 3) := by decide +kernel
theorem dX2_fitsSomewhere_97 : decode cX2_fitsSomewhere 97 = .ok (.iconst 0, 1) := by decide +kernel
theorem dX2_fitsSomewhere_98 : decode cX2_fitsSomewhere 98 = .ok (.ireturn, 1) := by decide +kernel
theorem dX2_rowByYears_0 : decode cX2_rowByYears 0 = .ok (.iconst 0, 1) := by decide +kernel
theorem dX2_rowByYears_1 : decode cX2_rowByYears 1 = .ok (.istore_n 2, 1) := by decide +kernel
theorem dX2_rowByYears_2 : decode cX2_rowByYears 2 = .ok (.iconst 0, 1) := by decide +kernel
theorem dX2_rowByYears_3 : decode cX2_rowByYears 3 = .ok (.istore_n 3, 1) := by decide +kernel
theorem dX2_rowByYears_4 : decode cX2_rowByYears 4 = .ok (.iload_n 3, 1) := by decide +kernel
theorem dX2_rowByYears_5 : decode cX2_rowByYears 5 = .ok (.aload_n 0, 1) := by decide +kernel
theorem dX2_rowByYears_6 : decode cX2_rowByYears 6 = .ok (.getfield 9, 3) := by decide +kernel
theorem dX2_rowByYears_9 : decode cX2_rowByYears 9 = .ok (.getfield 37, 3) := by decide +kernel
theorem dX2_rowByYears_12 : decode cX2_rowByYears 12 = .ok (.if_icmp .ge 78, 3) := by decide +kernel
theorem dX2_rowByYears_15 : decode cX2_rowByYears 15 = .ok (.iload_n 1, 1) := by decide +kernel
theorem dX2_rowByYears_16 : decode cX2_rowByYears 16 = .ok (.iload_n 3, 1) := by decide +kernel
theorem dX2_rowByYears_17 : decode cX2_rowByYears 17 = .ok (.invokestatic 61, 3) := by decide +kernel
theorem dX2_rowByYears_20 : decode cX2_rowByYears 20 = .ok (.ifCond .eq 64, 3) := by decide +kernel
theorem dX2_rowByYears_23 : decode cX2_rowByYears 23 = .ok (.iload_n 2, 1) := by decide +kernel
theorem dX2_rowByYears_24 : decode cX2_rowByYears 24 = .ok (.istore 4, 2) := by decide +kernel
theorem dX2_rowByYears_26 : decode cX2_rowByYears 26 = .ok (.iload 4, 2) := by decide +kernel
theorem dX2_rowByYears_28 : decode cX2_rowByYears 28 = .ok (.ifCond .le 45, 3) := by decide +kernel
theorem dX2_rowByYears_31 : decode cX2_rowByYears 31 = .ok (.aload_n 0, 1) := by decide +kernel
theorem dX2_rowByYears_32 : decode cX2_rowByYears 32 = .ok (.getfield 9, 3) := by decide +kernel
theorem dX2_rowByYears_35 : decode cX2_rowByYears 35 = .ok (.iload_n 3, 1) := by decide +kernel
theorem dX2_rowByYears_36 : decode cX2_rowByYears 36 = .ok (.aload_n 0, 1) := by decide +kernel
theorem dX2_rowByYears_37 : decode cX2_rowByYears 37 = .ok (.getfield 22, 3) := by decide +kernel
theorem dX2_rowByYears_40 : decode cX2_rowByYears 40 = .ok (.iload 4, 2) := by decide +kernel
theorem dX2_rowByYears_42 : decode cX2_rowByYears 42 = .ok (.iconst 1, 1) := by decide +kernel
theorem dX2_rowByYears_43 : decode cX2_rowByYears 43 = .ok (.isub, 1) := by decide +kernel
theorem dX2_rowByYears_44 : decode cX2_rowByYears 44 = .ok (.iaload, 1) := by decide +kernel
theorem dX2_rowByYears_45 : decode cX2_rowByYears 45 = .ok (.invokevirtual 54, 3) := by decide +kernel
theorem dX2_rowByYears_48 : decode cX2_rowByYears 48 = .ok (.ifCond .eq 25, 3) := by decide +kernel
theorem dX2_rowByYears_51 : decode cX2_rowByYears 51 = .ok (.aload_n 0, 1) := by decide +kernel
theorem dX2_rowByYears_52 : decode cX2_rowByYears 52 = .ok (.getfield 22, 3) := by decide +kernel
theorem dX2_rowByYears_55 : decode cX2_rowByYears 55 = .ok (.iload 4, 2) := by decide +kernel
theorem dX2_rowByYears_57 : decode cX2_rowByYears 57 = .ok (.aload_n 0, 1) := by decide +kernel
theorem dX2_rowByYears_58 : decode cX2_rowByYears 58 = .ok (.getfield 22, 3) := by decide +kernel
theorem dX2_rowByYears_61 : decode cX2_rowByYears 61 = .ok (.iload 4, 2) := by decide +kernel
theorem dX2_rowByYears_63 : decode cX2_rowByYears 63 = .ok (.iconst 1, 1) := by decide +kernel
theorem dX2_rowByYears_64 : decode cX2_rowByYears 64 = .ok (.isub, 1) := by decide +kernel
theorem dX2_rowByYears_65 : decode cX2_rowByYears 65 = .ok (.iaload, 1) := by decide +kernel
theorem dX2_rowByYears_66 : decode cX2_rowByYears 66 = .ok (.iastore, 1) := by decide +kernel
theorem dX2_rowByYears_67 : decode cX2_rowByYears 67 = .ok (.iinc 4 (-1), 3) := by decide +kernel
theorem dX2_rowByYears_70 : decode cX2_rowByYears 70 = .ok (.goto (-44), 3) := by decide +kernel
theorem dX2_rowByYears_73 : decode cX2_rowByYears 73 = .ok (.aload_n 0, 1) := by decide +kernel
theorem dX2_rowByYears_74 : decode cX2_rowByYears 74 = .ok (.getfield 22, 3) := by decide +kernel
theorem dX2_rowByYears_77 : decode cX2_rowByYears 77 = .ok (.iload 4, 2) := by decide +kernel
theorem dX2_rowByYears_79 : decode cX2_rowByYears 79 = .ok (.iload_n 3, 1) := by decide +kernel
theorem dX2_rowByYears_80 : decode cX2_rowByYears 80 = .ok (.iastore, 1) := by decide +kernel
theorem dX2_rowByYears_81 : decode cX2_rowByYears 81 = .ok (.iinc 2 1, 3) := by decide +kernel
theorem dX2_rowByYears_84 : decode cX2_rowByYears 84 = .ok (.iinc 3 1, 3) := by decide +kernel
theorem dX2_rowByYears_87 : decode cX2_rowByYears 87 = .ok (.goto (-83), 3) := by decide +kernel
theorem dX2_rowByYears_90 : decode cX2_rowByYears 90 = .ok (.iload_n 2, 1) := by decide +kernel
theorem dX2_rowByYears_91 : decode cX2_rowByYears 91 = .ok (.ireturn, 1) := by decide +kernel
theorem dX2_surelyHad_0 : decode cX2_surelyHad 0 = .ok (.aload_n 0, 1) := by decide +kernel
theorem dX2_surelyHad_1 : decode cX2_surelyHad 1 = .ok (.iload_n 1, 1) := by decide +kernel
theorem dX2_surelyHad_2 : decode cX2_surelyHad 2 = .ok (.invokevirtual 103, 3) := by decide +kernel
theorem dX2_surelyHad_5 : decode cX2_surelyHad 5 = .ok (.istore_n 3, 1) := by decide +kernel
theorem dX2_surelyHad_6 : decode cX2_surelyHad 6 = .ok (.lconst 0, 1) := by decide +kernel
theorem dX2_surelyHad_7 : decode cX2_surelyHad 7 = .ok (.lstore 4, 2) := by decide +kernel
theorem dX2_surelyHad_9 : decode cX2_surelyHad 9 = .ok (.iconst 0, 1) := by decide +kernel
theorem dX2_surelyHad_10 : decode cX2_surelyHad 10 = .ok (.istore 6, 2) := by decide +kernel
theorem dX2_surelyHad_12 : decode cX2_surelyHad 12 = .ok (.iload 6, 2) := by decide +kernel
theorem dX2_surelyHad_14 : decode cX2_surelyHad 14 = .ok (.iload_n 3, 1) := by decide +kernel
theorem dX2_surelyHad_15 : decode cX2_surelyHad 15 = .ok (.if_icmp .ge 60, 3) := by decide +kernel
theorem dX2_surelyHad_18 : decode cX2_surelyHad 18 = .ok (.aload_n 0, 1) := by decide +kernel
theorem dX2_surelyHad_19 : decode cX2_surelyHad 19 = .ok (.getfield 9, 3) := by decide +kernel
theorem dX2_surelyHad_22 : decode cX2_surelyHad 22 = .ok (.getfield 114, 3) := by decide +kernel
theorem dX2_surelyHad_25 : decode cX2_surelyHad 25 = .ok (.aload_n 0, 1) := by decide +kernel
theorem dX2_surelyHad_26 : decode cX2_surelyHad 26 = .ok (.getfield 22, 3) := by decide +kernel
theorem dX2_surelyHad_29 : decode cX2_surelyHad 29 = .ok (.iload 6, 2) := by decide +kernel
theorem dX2_surelyHad_31 : decode cX2_surelyHad 31 = .ok (.iaload, 1) := by decide +kernel
theorem dX2_surelyHad_32 : decode cX2_surelyHad 32 = .ok (.aaload, 1) := by decide +kernel
theorem dX2_surelyHad_33 : decode cX2_surelyHad 33 = .ok (.astore 7, 2) := by decide +kernel
theorem dX2_surelyHad_35 : decode cX2_surelyHad 35 = .ok (.aload 7, 2) := by decide +kernel
theorem dX2_surelyHad_37 : decode cX2_surelyHad 37 = .ok (.getfield 118, 3) := by decide +kernel
theorem dX2_surelyHad_40 : decode cX2_surelyHad 40 = .ok (.iload_n 2, 1) := by decide +kernel
theorem dX2_surelyHad_41 : decode cX2_surelyHad 41 = .ok (.if_icmp .le 6, 3) := by decide +kernel
theorem dX2_surelyHad_44 : decode cX2_surelyHad 44 = .ok (.goto 31, 3) := by decide +kernel
theorem dX2_surelyHad_47 : decode cX2_surelyHad 47 = .ok (.aload 7, 2) := by decide +kernel
theorem dX2_surelyHad_49 : decode cX2_surelyHad 49 = .ok (.getfield 123, 3) := by decide +kernel
theorem dX2_surelyHad_52 : decode cX2_surelyHad 52 = .ok (.iconst 4, 1) := by decide +kernel
theorem dX2_surelyHad_53 : decode cX2_surelyHad 53 = .ok (.if_icmp .ne 6, 3) := by decide +kernel
theorem dX2_surelyHad_56 : decode cX2_surelyHad 56 = .ok (.lconst 0, 1) := by decide +kernel
theorem dX2_surelyHad_57 : decode cX2_surelyHad 57 = .ok (.lstore 4, 2) := by decide +kernel
theorem dX2_surelyHad_59 : decode cX2_surelyHad 59 = .ok (.lload 4, 2) := by decide +kernel
theorem dX2_surelyHad_61 : decode cX2_surelyHad 61 = .ok (.aload 7, 2) := by decide +kernel
theorem dX2_surelyHad_63 : decode cX2_surelyHad 63 = .ok (.invokevirtual 126, 3) := by decide +kernel
theorem dX2_surelyHad_66 : decode cX2_surelyHad 66 = .ok (.lor, 1) := by decide +kernel
theorem dX2_surelyHad_67 : decode cX2_surelyHad 67 = .ok (.lstore 4, 2) := by decide +kernel
theorem dX2_surelyHad_69 : decode cX2_surelyHad 69 = .ok (.iinc 6 1, 3) := by decide +kernel
theorem dX2_surelyHad_72 : decode cX2_surelyHad 72 = .ok (.goto (-60), 3) := by decide +kernel
theorem dX2_surelyHad_75 : decode cX2_surelyHad 75 = .ok (.lload 4, 2) := by decide +kernel
theorem dX2_surelyHad_77 : decode cX2_surelyHad 77 = .ok (.lreturn, 1) := by decide +kernel
theorem dX2_surelyHadNot_0 : decode cX2_surelyHadNot 0 = .ok (.aload_n 0, 1) := by decide +kernel
theorem dX2_surelyHadNot_1 : decode cX2_surelyHadNot 1 = .ok (.iload_n 1, 1) := by decide +kernel
theorem dX2_surelyHadNot_2 : decode cX2_surelyHadNot 2 = .ok (.invokevirtual 103, 3) := by decide +kernel
theorem dX2_surelyHadNot_5 : decode cX2_surelyHadNot 5 = .ok (.istore_n 3, 1) := by decide +kernel
theorem dX2_surelyHadNot_6 : decode cX2_surelyHadNot 6 = .ok (.lconst 0, 1) := by decide +kernel
theorem dX2_surelyHadNot_7 : decode cX2_surelyHadNot 7 = .ok (.lstore 4, 2) := by decide +kernel
theorem dX2_surelyHadNot_9 : decode cX2_surelyHadNot 9 = .ok (.iconst 0, 1) := by decide +kernel
theorem dX2_surelyHadNot_10 : decode cX2_surelyHadNot 10 = .ok (.istore 6, 2) := by decide +kernel
theorem dX2_surelyHadNot_12 : decode cX2_surelyHadNot 12 = .ok (.iload 6, 2) := by decide +kernel
theorem dX2_surelyHadNot_14 : decode cX2_surelyHadNot 14 = .ok (.iload_n 3, 1) := by decide +kernel
theorem dX2_surelyHadNot_15 : decode cX2_surelyHadNot 15 = .ok (.if_icmp .ge 66, 3) := by decide +kernel
theorem dX2_surelyHadNot_18 : decode cX2_surelyHadNot 18 = .ok (.aload_n 0, 1) := by decide +kernel
theorem dX2_surelyHadNot_19 : decode cX2_surelyHadNot 19 = .ok (.getfield 9, 3) := by decide +kernel
theorem dX2_surelyHadNot_22 : decode cX2_surelyHadNot 22 = .ok (.getfield 114, 3) := by decide +kernel
theorem dX2_surelyHadNot_25 : decode cX2_surelyHadNot 25 = .ok (.aload_n 0, 1) := by decide +kernel
theorem dX2_surelyHadNot_26 : decode cX2_surelyHadNot 26 = .ok (.getfield 22, 3) := by decide +kernel
theorem dX2_surelyHadNot_29 : decode cX2_surelyHadNot 29 = .ok (.iload 6, 2) := by decide +kernel
theorem dX2_surelyHadNot_31 : decode cX2_surelyHadNot 31 = .ok (.iaload, 1) := by decide +kernel
theorem dX2_surelyHadNot_32 : decode cX2_surelyHadNot 32 = .ok (.aaload, 1) := by decide +kernel
theorem dX2_surelyHadNot_33 : decode cX2_surelyHadNot 33 = .ok (.astore 7, 2) := by decide +kernel
theorem dX2_surelyHadNot_35 : decode cX2_surelyHadNot 35 = .ok (.aload 7, 2) := by decide +kernel
theorem dX2_surelyHadNot_37 : decode cX2_surelyHadNot 37 = .ok (.getfield 118, 3) := by decide +kernel
theorem dX2_surelyHadNot_40 : decode cX2_surelyHadNot 40 = .ok (.iload_n 2, 1) := by decide +kernel
theorem dX2_surelyHadNot_41 : decode cX2_surelyHadNot 41 = .ok (.if_icmp .le 15, 3) := by decide +kernel
theorem dX2_surelyHadNot_44 : decode cX2_surelyHadNot 44 = .ok (.aload 7, 2) := by decide +kernel
theorem dX2_surelyHadNot_46 : decode cX2_surelyHadNot 46 = .ok (.getfield 123, 3) := by decide +kernel
theorem dX2_surelyHadNot_49 : decode cX2_surelyHadNot 49 = .ok (.iconst 4, 1) := by decide +kernel
theorem dX2_surelyHadNot_50 : decode cX2_surelyHadNot 50 = .ok (.if_icmp .ne 6, 3) := by decide +kernel
theorem dX2_surelyHadNot_53 : decode cX2_surelyHadNot 53 = .ok (.goto 28, 3) := by decide +kernel
theorem dX2_surelyHadNot_56 : decode cX2_surelyHadNot 56 = .ok (.aload 7, 2) := by decide +kernel
theorem dX2_surelyHadNot_58 : decode cX2_surelyHadNot 58 = .ok (.getfield 118, 3) := by decide +kernel
theorem dX2_surelyHadNot_61 : decode cX2_surelyHadNot 61 = .ok (.iload_n 2, 1) := by decide +kernel
theorem dX2_surelyHadNot_62 : decode cX2_surelyHadNot 62 = .ok (.if_icmp .lt 13, 3) := by decide +kernel
theorem dX2_surelyHadNot_65 : decode cX2_surelyHadNot 65 = .ok (.lload 4, 2) := by decide +kernel
theorem dX2_surelyHadNot_67 : decode cX2_surelyHadNot 67 = .ok (.aload 7, 2) := by decide +kernel
theorem dX2_surelyHadNot_69 : decode cX2_surelyHadNot 69 = .ok (.invokevirtual 130, 3) := by decide +kernel
theorem dX2_surelyHadNot_72 : decode cX2_surelyHadNot 72 = .ok (.lor, 1) := by decide +kernel
theorem dX2_surelyHadNot_73 : decode cX2_surelyHadNot 73 = .ok (.lstore 4, 2) := by decide +kernel
theorem dX2_surelyHadNot_75 : decode cX2_surelyHadNot 75 = .ok (.iinc 6 1, 3) := by decide +kernel
theorem dX2_surelyHadNot_78 : decode cX2_surelyHadNot 78 = .ok (.goto (-66), 3) := by decide +kernel
theorem dX2_surelyHadNot_81 : decode cX2_surelyHadNot 81 = .ok (.lload 4, 2) := by decide +kernel
theorem dX2_surelyHadNot_83 : decode cX2_surelyHadNot 83 = .ok (.lreturn, 1) := by decide +kernel
theorem dX2_mostTelling_0 : decode cX2_mostTelling 0 = .ok (.iconst 1, 1) := by decide +kernel
theorem dX2_mostTelling_1 : decode cX2_mostTelling 1 = .ok (.aload_n 0, 1) := by decide +kernel
theorem dX2_mostTelling_2 : decode cX2_mostTelling 2 = .ok (.getfield 9, 3) := by decide +kernel
theorem dX2_mostTelling_5 : decode cX2_mostTelling 5 = .ok (.getfield 37, 3) := by decide +kernel
theorem dX2_mostTelling_8 : decode cX2_mostTelling 8 = .ok (.ishl, 1) := by decide +kernel
theorem dX2_mostTelling_9 : decode cX2_mostTelling 9 = .ok (.iconst 1, 1) := by decide +kernel
theorem dX2_mostTelling_10 : decode cX2_mostTelling 10 = .ok (.isub, 1) := by decide +kernel
theorem dX2_mostTelling_11 : decode cX2_mostTelling 11 = .ok (.istore_n 1, 1) := by decide +kernel
theorem dX2_mostTelling_12 : decode cX2_mostTelling 12 = .ok (.aload_n 0, 1) := by decide +kernel
theorem dX2_mostTelling_13 : decode cX2_mostTelling 13 = .ok (.iload_n 1, 1) := by decide +kernel
theorem dX2_mostTelling_14 : decode cX2_mostTelling 14 = .ok (.invokevirtual 133, 3) := by decide +kernel
theorem dX2_mostTelling_17 : decode cX2_mostTelling 17 = .ok (.istore_n 2, 1) := by decide +kernel
theorem dX2_mostTelling_18 : decode cX2_mostTelling 18 = .ok (.iconst (-1), 1) := by decide +kernel
theorem dX2_mostTelling_19 : decode cX2_mostTelling 19 = .ok (.istore_n 3, 1) := by decide +kernel
theorem dX2_mostTelling_20 : decode cX2_mostTelling 20 = .ok (.iconst 0, 1) := by decide +kernel
theorem dX2_mostTelling_21 : decode cX2_mostTelling 21 = .ok (.istore 4, 2) := by decide +kernel
theorem dX2_mostTelling_23 : decode cX2_mostTelling 23 = .ok (.iconst 0, 1) := by decide +kernel
theorem dX2_mostTelling_24 : decode cX2_mostTelling 24 = .ok (.istore 5, 2) := by decide +kernel
theorem dX2_mostTelling_26 : decode cX2_mostTelling 26 = .ok (.iload 5, 2) := by decide +kernel
theorem dX2_mostTelling_28 : decode cX2_mostTelling 28 = .ok (.aload_n 0, 1) := by decide +kernel
theorem dX2_mostTelling_29 : decode cX2_mostTelling 29 = .ok (.getfield 9, 3) := by decide +kernel
theorem dX2_mostTelling_32 : decode cX2_mostTelling 32 = .ok (.getfield 37, 3) := by decide +kernel
theorem dX2_mostTelling_35 : decode cX2_mostTelling 35 = .ok (.if_icmp .ge 107, 3) := by decide +kernel
theorem dX2_mostTelling_38 : decode cX2_mostTelling 38 = .ok (.aload_n 0, 1) := by decide +kernel
theorem dX2_mostTelling_39 : decode cX2_mostTelling 39 = .ok (.getfield 9, 3) := by decide +kernel
theorem dX2_mostTelling_42 : decode cX2_mostTelling 42 = .ok (.getfield 114, 3) := by decide +kernel
theorem dX2_mostTelling_45 : decode cX2_mostTelling 45 = .ok (.iload 5, 2) := by decide +kernel
theorem dX2_mostTelling_47 : decode cX2_mostTelling 47 = .ok (.aaload, 1) := by decide +kernel
theorem dX2_mostTelling_48 : decode cX2_mostTelling 48 = .ok (.astore 6, 2) := by decide +kernel
theorem dX2_mostTelling_50 : decode cX2_mostTelling 50 = .ok (.aload 6, 2) := by decide +kernel
theorem dX2_mostTelling_52 : decode cX2_mostTelling 52 = .ok (.getfield 136, 3) := by decide +kernel
theorem dX2_mostTelling_55 : decode cX2_mostTelling 55 = .ok (.ifCond .eq 6, 3) := by decide +kernel
theorem dX2_mostTelling_58 : decode cX2_mostTelling 58 = .ok (.goto 78, 3) := by decide +kernel
theorem dX2_mostTelling_61 : decode cX2_mostTelling 61 = .ok (.aload_n 0, 1) := by decide +kernel
theorem dX2_mostTelling_62 : decode cX2_mostTelling 62 = .ok (.getfield 19, 3) := by decide +kernel
theorem dX2_mostTelling_65 : decode cX2_mostTelling 65 = .ok (.iload 5, 2) := by decide +kernel
theorem dX2_mostTelling_67 : decode cX2_mostTelling 67 = .ok (.iaload, 1) := by decide +kernel
theorem dX2_mostTelling_68 : decode cX2_mostTelling 68 = .ok (.istore 7, 2) := by decide +kernel
theorem dX2_mostTelling_70 : decode cX2_mostTelling 70 = .ok (.aload 6, 2) := by decide +kernel
theorem dX2_mostTelling_72 : decode cX2_mostTelling 72 = .ok (.iconst 1, 1) := by decide +kernel
theorem dX2_mostTelling_73 : decode cX2_mostTelling 73 = .ok (.putfield 136, 3) := by decide +kernel
theorem dX2_mostTelling_76 : decode cX2_mostTelling 76 = .ok (.aload_n 0, 1) := by decide +kernel
theorem dX2_mostTelling_77 : decode cX2_mostTelling 77 = .ok (.iload 5, 2) := by decide +kernel
theorem dX2_mostTelling_79 : decode cX2_mostTelling 79 = .ok (.invokevirtual 140, 3) := by decide +kernel
theorem dX2_mostTelling_82 : decode cX2_mostTelling 82 = .ok (.aload_n 0, 1) := by decide +kernel
theorem dX2_mostTelling_83 : decode cX2_mostTelling 83 = .ok (.getfield 19, 3) := by decide +kernel
theorem dX2_mostTelling_86 : decode cX2_mostTelling 86 = .ok (.iload 5, 2) := by decide +kernel
theorem dX2_mostTelling_88 : decode cX2_mostTelling 88 = .ok (.iaload, 1) := by decide +kernel
theorem dX2_mostTelling_89 : decode cX2_mostTelling 89 = .ok (.iload 7, 2) := by decide +kernel
theorem dX2_mostTelling_91 : decode cX2_mostTelling 91 = .ok (.if_icmp .ne 7, 3) := by decide +kernel
theorem dX2_mostTelling_94 : decode cX2_mostTelling 94 = .ok (.iconst 0, 1) := by decide +kernel
theorem dX2_mostTelling_95 : decode cX2_mostTelling 95 = .ok (.goto 13, 3) := by decide +kernel
theorem dX2_mostTelling_98 : decode cX2_mostTelling 98 = .ok (.aload_n 0, 1) := by decide +kernel
theorem dX2_mostTelling_99 : decode cX2_mostTelling 99 = .ok (.iload_n 1, 1) := by decide +kernel
theorem dX2_mostTelling_100 : decode cX2_mostTelling 100 = .ok (.invokevirtual 133, 3) := by decide +kernel
theorem dX2_mostTelling_103 : decode cX2_mostTelling 103 = .ok (.iload_n 2, 1) := by decide +kernel
theorem dX2_mostTelling_104 : decode cX2_mostTelling 104 = .ok (.isub, 1) := by decide +kernel
theorem dX2_mostTelling_105 : decode cX2_mostTelling 105 = .ok (.invokestatic 143, 3) := by decide +kernel
theorem dX2_mostTelling_108 : decode cX2_mostTelling 108 = .ok (.istore 8, 2) := by decide +kernel
theorem dX2_mostTelling_110 : decode cX2_mostTelling 110 = .ok (.aload 6, 2) := by decide +kernel
theorem dX2_mostTelling_112 : decode cX2_mostTelling 112 = .ok (.iconst 0, 1) := by decide +kernel
theorem dX2_mostTelling_113 : decode cX2_mostTelling 113 = .ok (.putfield 136, 3) := by decide +kernel
theorem dX2_mostTelling_116 : decode cX2_mostTelling 116 = .ok (.aload_n 0, 1) := by decide +kernel
theorem dX2_mostTelling_117 : decode cX2_mostTelling 117 = .ok (.iload 5, 2) := by decide +kernel
theorem dX2_mostTelling_119 : decode cX2_mostTelling 119 = .ok (.invokevirtual 140, 3) := by decide +kernel
theorem dX2_mostTelling_122 : decode cX2_mostTelling 122 = .ok (.iload 8, 2) := by decide +kernel
theorem dX2_mostTelling_124 : decode cX2_mostTelling 124 = .ok (.iload 4, 2) := by decide +kernel
theorem dX2_mostTelling_126 : decode cX2_mostTelling 126 = .ok (.if_icmp .le 10, 3) := by decide +kernel
theorem dX2_mostTelling_129 : decode cX2_mostTelling 129 = .ok (.iload 8, 2) := by decide +kernel
theorem dX2_mostTelling_131 : decode cX2_mostTelling 131 = .ok (.istore 4, 2) := by decide +kernel
theorem dX2_mostTelling_133 : decode cX2_mostTelling 133 = .ok (.iload 5, 2) := by decide +kernel
theorem dX2_mostTelling_135 : decode cX2_mostTelling 135 = .ok (.istore_n 3, 1) := by decide +kernel
theorem dX2_mostTelling_136 : decode cX2_mostTelling 136 = .ok (.iinc 5 1, 3) := by decide +kernel
theorem dX2_mostTelling_139 : decode cX2_mostTelling 139 = .ok (.goto (-113), 3) := by decide +kernel
theorem dX2_mostTelling_142 : decode cX2_mostTelling 142 = .ok (.iload_n 3, 1) := by decide +kernel
theorem dX2_mostTelling_143 : decode cX2_mostTelling 143 = .ok (.ireturn, 1) := by decide +kernel
theorem dX2_likeliestKind_0 : decode cX2_likeliestKind 0 = .ok (.aload_n 0, 1) := by decide +kernel
theorem dX2_likeliestKind_1 : decode cX2_likeliestKind 1 = .ok (.getfield 9, 3) := by decide +kernel
theorem dX2_likeliestKind_4 : decode cX2_likeliestKind 4 = .ok (.getfield 114, 3) := by decide +kernel
theorem dX2_likeliestKind_7 : decode cX2_likeliestKind 7 = .ok (.iload_n 1, 1) := by decide +kernel
theorem dX2_likeliestKind_8 : decode cX2_likeliestKind 8 = .ok (.aaload, 1) := by decide +kernel
theorem dX2_likeliestKind_9 : decode cX2_likeliestKind 9 = .ok (.astore_n 2, 1) := by decide +kernel
theorem dX2_likeliestKind_10 : decode cX2_likeliestKind 10 = .ok (.aload_n 2, 1) := by decide +kernel
theorem dX2_likeliestKind_11 : decode cX2_likeliestKind 11 = .ok (.getfield 123, 3) := by decide +kernel
theorem dX2_likeliestKind_14 : decode cX2_likeliestKind 14 = .ok (.istore_n 3, 1) := by decide +kernel
theorem dX2_likeliestKind_15 : decode cX2_likeliestKind 15 = .ok (.iconst 0, 1) := by decide +kernel
theorem dX2_likeliestKind_16 : decode cX2_likeliestKind 16 = .ok (.istore 4, 2) := by decide +kernel
theorem dX2_likeliestKind_18 : decode cX2_likeliestKind 18 = .ok (.iconst (-1), 1) := by decide +kernel
theorem dX2_likeliestKind_19 : decode cX2_likeliestKind 19 = .ok (.istore 5, 2) := by decide +kernel
theorem dX2_likeliestKind_21 : decode cX2_likeliestKind 21 = .ok (.iconst 0, 1) := by decide +kernel
theorem dX2_likeliestKind_22 : decode cX2_likeliestKind 22 = .ok (.istore 6, 2) := by decide +kernel
theorem dX2_likeliestKind_24 : decode cX2_likeliestKind 24 = .ok (.iload 6, 2) := by decide +kernel
theorem dX2_likeliestKind_26 : decode cX2_likeliestKind 26 = .ok (.bipush 6, 2) := by decide +kernel
theorem dX2_likeliestKind_28 : decode cX2_likeliestKind 28 = .ok (.if_icmp .ge 46, 3) := by decide +kernel
theorem dX2_likeliestKind_31 : decode cX2_likeliestKind 31 = .ok (.aload_n 2, 1) := by decide +kernel
theorem dX2_likeliestKind_32 : decode cX2_likeliestKind 32 = .ok (.iload 6, 2) := by decide +kernel
theorem dX2_likeliestKind_34 : decode cX2_likeliestKind 34 = .ok (.putfield 123, 3) := by decide +kernel
theorem dX2_likeliestKind_37 : decode cX2_likeliestKind 37 = .ok (.aload_n 0, 1) := by decide +kernel
theorem dX2_likeliestKind_38 : decode cX2_likeliestKind 38 = .ok (.iload_n 1, 1) := by decide +kernel
theorem dX2_likeliestKind_39 : decode cX2_likeliestKind 39 = .ok (.invokevirtual 140, 3) := by decide +kernel
theorem dX2_likeliestKind_42 : decode cX2_likeliestKind 42 = .ok (.aload_n 0, 1) := by decide +kernel
theorem dX2_likeliestKind_43 : decode cX2_likeliestKind 43 = .ok (.getfield 19, 3) := by decide +kernel
theorem dX2_likeliestKind_46 : decode cX2_likeliestKind 46 = .ok (.iload_n 1, 1) := by decide +kernel
theorem dX2_likeliestKind_47 : decode cX2_likeliestKind 47 = .ok (.iaload, 1) := by decide +kernel
theorem dX2_likeliestKind_48 : decode cX2_likeliestKind 48 = .ok (.invokestatic 75, 3) := by decide +kernel
theorem dX2_likeliestKind_51 : decode cX2_likeliestKind 51 = .ok (.istore 7, 2) := by decide +kernel
theorem dX2_likeliestKind_53 : decode cX2_likeliestKind 53 = .ok (.iload 7, 2) := by decide +kernel
theorem dX2_likeliestKind_55 : decode cX2_likeliestKind 55 = .ok (.iload 5, 2) := by decide +kernel
theorem dX2_likeliestKind_57 : decode cX2_likeliestKind 57 = .ok (.if_icmp .le 11, 3) := by decide +kernel
theorem dX2_likeliestKind_60 : decode cX2_likeliestKind 60 = .ok (.iload 7, 2) := by decide +kernel
theorem dX2_likeliestKind_62 : decode cX2_likeliestKind 62 = .ok (.istore 5, 2) := by decide +kernel
theorem dX2_likeliestKind_64 : decode cX2_likeliestKind 64 = .ok (.iload 6, 2) := by decide +kernel
theorem dX2_likeliestKind_66 : decode cX2_likeliestKind 66 = .ok (.istore 4, 2) := by decide +kernel
theorem dX2_likeliestKind_68 : decode cX2_likeliestKind 68 = .ok (.iinc 6 1, 3) := by decide +kernel
theorem dX2_likeliestKind_71 : decode cX2_likeliestKind 71 = .ok (.goto (-47), 3) := by decide +kernel
theorem dX2_likeliestKind_74 : decode cX2_likeliestKind 74 = .ok (.aload_n 2, 1) := by decide +kernel
theorem dX2_likeliestKind_75 : decode cX2_likeliestKind 75 = .ok (.iload_n 3, 1) := by decide +kernel
theorem dX2_likeliestKind_76 : decode cX2_likeliestKind 76 = .ok (.putfield 123, 3) := by decide +kernel
theorem dX2_likeliestKind_79 : decode cX2_likeliestKind 79 = .ok (.iload 4, 2) := by decide +kernel
theorem dX2_likeliestKind_81 : decode cX2_likeliestKind 81 = .ok (.ireturn, 1) := by decide +kernel
theorem dX3_init_0 : decode cX3_init 0 = .ok (.aload_n 0, 1) := by decide +kernel
theorem dX3_init_1 : decode cX3_init 1 = .ok (.invokespecial 3, 3) := by decide +kernel
theorem dX3_init_4 : decode cX3_init 4 = .ok (.aload_n 0, 1) := by decide +kernel
theorem dX3_init_5 : decode cX3_init 5 = .ok (.bipush 40, 2) := by decide +kernel
theorem dX3_init_7 : decode cX3_init 7 = .ok (.newarray .long, 2) := by decide +kernel
theorem dX3_init_9 : decode cX3_init 9 = .ok (.putfield 9, 3) := by decide +kernel
theorem dX3_init_12 : decode cX3_init 12 = .ok (.aload_n 0, 1) := by decide +kernel
theorem dX3_init_13 : decode cX3_init 13 = .ok (.iconst 0, 1) := by decide +kernel
theorem dX3_init_14 : decode cX3_init 14 = .ok (.putfield 15, 3) := by decide +kernel
theorem dX3_init_17 : decode cX3_init 17 = .ok (.aload_n 0, 1) := by decide +kernel
theorem dX3_init_18 : decode cX3_init 18 = .ok (.iconst 0, 1) := by decide +kernel
theorem dX3_init_19 : decode cX3_init 19 = .ok (.putfield 19, 3) := by decide +kernel
theorem dX3_init_22 : decode cX3_init 22 = .ok (.return_, 1) := by decide +kernel
theorem dX3_isMissing_0 : decode cX3_isMissing 0 = .ok (.aload_n 0, 1) := by decide +kernel
theorem dX3_isMissing_1 : decode cX3_isMissing 1 = .ok (.getfield 15, 3) := by decide +kernel
theorem dX3_isMissing_4 : decode cX3_isMissing 4 = .ok (.ifCond .ne 7, 3) := by decide +kernel
theorem dX3_isMissing_7 : decode cX3_isMissing 7 = .ok (.iconst 1, 1) := by decide +kernel
theorem dX3_isMissing_8 : decode cX3_isMissing 8 = .ok (.goto 4, 3) := by decide +kernel
theorem dX3_isMissing_11 : decode cX3_isMissing 11 = .ok (.iconst 0, 1) := by decide +kernel
theorem dX3_isMissing_12 : decode cX3_isMissing 12 = .ok (.ireturn, 1) := by decide +kernel
theorem dX3_lay_0 : decode cX3_lay 0 = .ok (.aload_n 0, 1) := by decide +kernel
theorem dX3_lay_1 : decode cX3_lay 1 = .ok (.iload_n 1, 1) := by decide +kernel
theorem dX3_lay_2 : decode cX3_lay 2 = .ok (.putfield 15, 3) := by decide +kernel
theorem dX3_lay_5 : decode cX3_lay 5 = .ok (.aload_n 0, 1) := by decide +kernel
theorem dX3_lay_6 : decode cX3_lay 6 = .ok (.iload_n 2, 1) := by decide +kernel
theorem dX3_lay_7 : decode cX3_lay 7 = .ok (.putfield 19, 3) := by decide +kernel
theorem dX3_lay_10 : decode cX3_lay 10 = .ok (.iconst 0, 1) := by decide +kernel
theorem dX3_lay_11 : decode cX3_lay 11 = .ok (.istore_n 3, 1) := by decide +kernel
theorem dX3_lay_12 : decode cX3_lay 12 = .ok (.iload_n 3, 1) := by decide +kernel
theorem dX3_lay_13 : decode cX3_lay 13 = .ok (.bipush 40, 2) := by decide +kernel
theorem dX3_lay_15 : decode cX3_lay 15 = .ok (.if_icmp .ge 16, 3) := by decide +kernel
theorem dX3_lay_18 : decode cX3_lay 18 = .ok (.aload_n 0, 1) := by decide +kernel
theorem dX3_lay_19 : decode cX3_lay 19 = .ok (.getfield 9, 3) := by decide +kernel
theorem dX3_lay_22 : decode cX3_lay 22 = .ok (.iload_n 3, 1) := by decide +kernel
theorem dX3_lay_23 : decode cX3_lay 23 = .ok (.lconst 0, 1) := by decide +kernel
theorem dX3_lay_24 : decode cX3_lay 24 = .ok (.lastore, 1) := by decide +kernel
theorem dX3_lay_25 : decode cX3_lay 25 = .ok (.iinc 3 1, 3) := by decide +kernel
theorem dX3_lay_28 : decode cX3_lay 28 = .ok (.goto (-16), 3) := by decide +kernel
theorem dX3_lay_31 : decode cX3_lay 31 = .ok (.return_, 1) := by decide +kernel
theorem dX3_put_0 : decode cX3_put 0 = .ok (.iload_n 1, 1) := by decide +kernel
theorem dX3_put_1 : decode cX3_put 1 = .ok (.ifCond .lt 22, 3) := by decide +kernel
theorem dX3_put_4 : decode cX3_put 4 = .ok (.iload_n 1, 1) := by decide +kernel
theorem dX3_put_5 : decode cX3_put 5 = .ok (.aload_n 0, 1) := by decide +kernel
theorem dX3_put_6 : decode cX3_put 6 = .ok (.getfield 19, 3) := by decide +kernel
theorem dX3_put_9 : decode cX3_put 9 = .ok (.if_icmp .ge 14, 3) := by decide +kernel
theorem dX3_put_12 : decode cX3_put 12 = .ok (.aload_n 0, 1) := by decide +kernel
theorem dX3_put_13 : decode cX3_put 13 = .ok (.getfield 9, 3) := by decide +kernel
theorem dX3_put_16 : decode cX3_put 16 = .ok (.iload_n 1, 1) := by decide +kernel
theorem dX3_put_17 : decode cX3_put 17 = .ok (.aload_n 0, 1) := by decide +kernel
theorem dX3_put_18 : decode cX3_put 18 = .ok (.lload_n 2, 1) := by decide +kernel
theorem dX3_put_19 : decode cX3_put 19 = .ok (.invokevirtual 22, 3) := by decide +kernel
theorem dX3_put_22 : decode cX3_put 22 = .ok (.lastore, 1) := by decide +kernel
theorem dX3_put_23 : decode cX3_put 23 = .ok (.return_, 1) := by decide +kernel
theorem dX3_lowest_0 : decode cX3_lowest 0 = .ok (.aload_n 0, 1) := by decide +kernel
theorem dX3_lowest_1 : decode cX3_lowest 1 = .ok (.getfield 15, 3) := by decide +kernel
theorem dX3_lowest_4 : decode cX3_lowest 4 = .ok (.bipush 8, 2) := by decide +kernel
theorem dX3_lowest_6 : decode cX3_lowest 6 = .ok (.if_icmp .ne 8, 3) := by decide +kernel
theorem dX3_lowest_9 : decode cX3_lowest 9 = .ok (.lload_n 1, 1) := by decide +kernel
theorem dX3_lowest_10 : decode cX3_lowest 10 = .ok (.l2i, 1) := by decide +kernel
theorem dX3_lowest_11 : decode cX3_lowest 11 = .ok (.i2b, 1) := by decide +kernel
theorem dX3_lowest_12 : decode cX3_lowest 12 = .ok (.i2l, 1) := by decide +kernel
theorem dX3_lowest_13 : decode cX3_lowest 13 = .ok (.lreturn, 1) := by decide +kernel
theorem dX3_lowest_14 : decode cX3_lowest 14 = .ok (.aload_n 0, 1) := by decide +kernel
theorem dX3_lowest_15 : decode cX3_lowest 15 = .ok (.getfield 15, 3) := by decide +kernel
theorem dX3_lowest_18 : decode cX3_lowest 18 = .ok (.bipush 16, 2) := by decide +kernel
theorem dX3_lowest_20 : decode cX3_lowest 20 = .ok (.if_icmp .ne 10, 3) := by decide +kernel
theorem dX3_lowest_23 : decode cX3_lowest 23 = .ok (.lload_n 1, 1) := by decide +kernel
theorem dX3_lowest_24 : decode cX3_lowest 24 = .ok (.l2i, 1) := by decide +kernel
theorem dX3_lowest_25 : decode cX3_lowest 25 = .ok (.i2s, 1) := by decide +kernel
theorem dX3_lowest_26 : decode cX3_lowest 26 = .ok (.i2l, 1) := by decide +kernel
theorem dX3_lowest_27 : decode cX3_lowest 27 = .ok (.goto 4, 3) := by decide +kernel
theorem dX3_lowest_30 : decode cX3_lowest 30 = .ok (.lload_n 1, 1) := by decide +kernel
theorem dX3_lowest_31 : decode cX3_lowest 31 = .ok (.lreturn, 1) := by decide +kernel
theorem dX3_hasRun_0 : decode cX3_hasRun 0 = .ok (.iload_n 1, 1) := by decide +kernel
theorem dX3_hasRun_1 : decode cX3_hasRun 1 = .ok (.ifCond .lt 29, 3) := by decide +kernel
theorem dX3_hasRun_4 : decode cX3_hasRun 4 = .ok (.iload_n 2, 1) := by decide +kernel
theorem dX3_hasRun_5 : decode cX3_hasRun 5 = .ok (.ifCond .lt 25, 3) := by decide +kernel
theorem dX3_hasRun_8 : decode cX3_hasRun 8 = .ok (.iload_n 1, 1) := by decide +kernel
theorem dX3_hasRun_9 : decode cX3_hasRun 9 = .ok (.aload_n 0, 1) := by decide +kernel
theorem dX3_hasRun_10 : decode cX3_hasRun 10 = .ok (.getfield 19, 3) := by decide +kernel
theorem dX3_hasRun_13 : decode cX3_hasRun 13 = .ok (.if_icmp .gt 17, 3) := by decide +kernel
theorem dX3_hasRun_16 : decode cX3_hasRun 16 = .ok (.iload_n 2, 1) := by decide +kernel
theorem dX3_hasRun_17 : decode cX3_hasRun 17 = .ok (.aload_n 0, 1) := by decide +kernel
theorem dX3_hasRun_18 : decode cX3_hasRun 18 = .ok (.getfield 19, 3) := by decide +kernel
theorem dX3_hasRun_21 : decode cX3_hasRun 21 = .ok (.iload_n 1, 1) := by decide +kernel
theorem dX3_hasRun_22 : decode cX3_hasRun 22 = .ok (.isub, 1) := by decide +kernel
theorem dX3_hasRun_23 : decode cX3_hasRun 23 = .ok (.if_icmp .gt 7, 3) := by decide +kernel
theorem dX3_hasRun_26 : decode cX3_hasRun 26 = .ok (.iconst 1, 1) := by decide +kernel
theorem dX3_hasRun_27 : decode cX3_hasRun 27 = .ok (.goto 4, 3) := by decide +kernel
theorem dX3_hasRun_30 : decode cX3_hasRun 30 = .ok (.iconst 0, 1) := by decide +kernel
theorem dX3_hasRun_31 : decode cX3_hasRun 31 = .ok (.ireturn, 1) := by decide +kernel
theorem dX4_init_0 : decode cX4_init 0 = .ok (.aload_n 0, 1) := by decide +kernel
theorem dX4_init_1 : decode cX4_init 1 = .ok (.invokespecial 3, 3) := by decide +kernel
theorem dX4_init_4 : decode cX4_init 4 = .ok (.aload_n 0, 1) := by decide +kernel
theorem dX4_init_5 : decode cX4_init 5 = .ok (.bipush 120, 2) := by decide +kernel
theorem dX4_init_7 : decode cX4_init 7 = .ok (.newarray .int, 2) := by decide +kernel
theorem dX4_init_9 : decode cX4_init 9 = .ok (.putfield 9, 3) := by decide +kernel
theorem dX4_init_12 : decode cX4_init 12 = .ok (.aload_n 0, 1) := by decide +kernel
theorem dX4_init_13 : decode cX4_init 13 = .ok (.iconst 0, 1) := by decide +kernel
theorem dX4_init_14 : decode cX4_init 14 = .ok (.putfield 15, 3) := by decide +kernel
theorem dX4_init_17 : decode cX4_init 17 = .ok (.return_, 1) := by decide +kernel
theorem dX4_take_0 : decode cX4_take 0 = .ok (.aload_n 0, 1) := by decide +kernel
theorem dX4_take_1 : decode cX4_take 1 = .ok (.getfield 15, 3) := by decide +kernel
theorem dX4_take_4 : decode cX4_take 4 = .ok (.bipush 120, 2) := by decide +kernel
theorem dX4_take_6 : decode cX4_take 6 = .ok (.if_icmp .ge 23, 3) := by decide +kernel
theorem dX4_take_9 : decode cX4_take 9 = .ok (.aload_n 0, 1) := by decide +kernel
theorem dX4_take_10 : decode cX4_take 10 = .ok (.getfield 9, 3) := by decide +kernel
theorem dX4_take_13 : decode cX4_take 13 = .ok (.aload_n 0, 1) := by decide +kernel
theorem dX4_take_14 : decode cX4_take 14 = .ok (.getfield 15, 3) := by decide +kernel
theorem dX4_take_17 : decode cX4_take 17 = .ok (.iload_n 1, 1) := by decide +kernel
theorem dX4_take_18 : decode cX4_take 18 = .ok (.iastore, 1) := by decide +kernel
theorem dX4_take_19 : decode cX4_take 19 = .ok (.aload_n 0, 1) := by decide +kernel
theorem dX4_take_20 : decode cX4_take 20 = .ok (.dup, 1) := by decide +kernel
theorem dX4_take_21 : decode cX4_take 21 = .ok (.getfield 15, 3) := by decide +kernel
theorem dX4_take_24 : decode cX4_take 24 = .ok (.iconst 1, 1) := by decide +kernel
theorem dX4_take_25 : decode cX4_take 25 = .ok (.iadd, 1) := by decide +kernel
theorem dX4_take_26 : decode cX4_take 26 = .ok (.putfield 15, 3) := by decide +kernel
theorem dX4_take_29 : decode cX4_take 29 = .ok (.return_, 1) := by decide +kernel
theorem dX4_at_0 : decode cX4_at 0 = .ok (.iload_n 1, 1) := by decide +kernel
theorem dX4_at_1 : decode cX4_at 1 = .ok (.ifCond .lt 20, 3) := by decide +kernel
theorem dX4_at_4 : decode cX4_at 4 = .ok (.iload_n 1, 1) := by decide +kernel
theorem dX4_at_5 : decode cX4_at 5 = .ok (.aload_n 0, 1) := by decide +kernel
theorem dX4_at_6 : decode cX4_at 6 = .ok (.getfield 15, 3) := by decide +kernel
theorem dX4_at_9 : decode cX4_at 9 = .ok (.if_icmp .ge 12, 3) := by decide +kernel
theorem dX4_at_12 : decode cX4_at 12 = .ok (.aload_n 0, 1) := by decide +kernel
theorem dX4_at_13 : decode cX4_at 13 = .ok (.getfield 9, 3) := by decide +kernel
theorem dX4_at_16 : decode cX4_at 16 = .ok (.iload_n 1, 1) := by decide +kernel
theorem dX4_at_17 : decode cX4_at 17 = .ok (.iaload, 1) := by decide +kernel
theorem dX4_at_18 : decode cX4_at 18 = .ok (.goto 4, 3) := by decide +kernel
theorem dX4_at_21 : decode cX4_at 21 = .ok (.iconst (-1), 1) := by decide +kernel
theorem dX4_at_22 : decode cX4_at 22 = .ok (.ireturn, 1) := by decide +kernel
theorem dX5_init_0 : decode cX5_init 0 = .ok (.aload_n 0, 1) := by decide +kernel
theorem dX5_init_1 : decode cX5_init 1 = .ok (.invokespecial 3, 3) := by decide +kernel
theorem dX5_init_4 : decode cX5_init 4 = .ok (.aload_n 0, 1) := by decide +kernel
theorem dX5_init_5 : decode cX5_init 5 = .ok (.aload_n 1, 1) := by decide +kernel
theorem dX5_init_6 : decode cX5_init 6 = .ok (.putfield 9, 3) := by decide +kernel
theorem dX5_init_9 : decode cX5_init 9 = .ok (.aload_n 0, 1) := by decide +kernel
theorem dX5_init_10 : decode cX5_init 10 = .ok (.aload_n 2, 1) := by decide +kernel
theorem dX5_init_11 : decode cX5_init 11 = .ok (.putfield 15, 3) := by decide +kernel
theorem dX5_init_14 : decode cX5_init 14 = .ok (.aload_n 0, 1) := by decide +kernel
theorem dX5_init_15 : decode cX5_init 15 = .ok (.new 19, 3) := by decide +kernel
theorem dX5_init_18 : decode cX5_init 18 = .ok (.dup, 1) := by decide +kernel
theorem dX5_init_19 : decode cX5_init 19 = .ok (.invokespecial 21, 3) := by decide +kernel
theorem dX5_init_22 : decode cX5_init 22 = .ok (.putfield 22, 3) := by decide +kernel
theorem dX5_init_25 : decode cX5_init 25 = .ok (.return_, 1) := by decide +kernel
theorem dX5_readArchive_0 : decode cX5_readArchive 0 = .ok (.aload_n 0, 1) := by decide +kernel
theorem dX5_readArchive_1 : decode cX5_readArchive 1 = .ok (.getfield 22, 3) := by decide +kernel
theorem dX5_readArchive_4 : decode cX5_readArchive 4 = .ok (.aload_n 0, 1) := by decide +kernel
theorem dX5_readArchive_5 : decode cX5_readArchive 5 = .ok (.getfield 15, 3) := by decide +kernel
theorem dX5_readArchive_8 : decode cX5_readArchive 8 = .ok (.invokevirtual 25, 3) := by decide +kernel
theorem dX5_readArchive_11 : decode cX5_readArchive 11 = .ok (.aload_n 0, 1) := by decide +kernel
theorem dX5_readArchive_12 : decode cX5_readArchive 12 = .ok (.iconst 0, 1) := by decide +kernel
theorem dX5_readArchive_13 : decode cX5_readArchive 13 = .ok (.putfield 29, 3) := by decide +kernel
theorem dX5_readArchive_16 : decode cX5_readArchive 16 = .ok (.aload_n 0, 1) := by decide +kernel
theorem dX5_readArchive_17 : decode cX5_readArchive 17 = .ok (.invokevirtual 33, 3) := by decide +kernel
theorem dX5_readArchive_20 : decode cX5_readArchive 20 = .ok (.iconst 0, 1) := by decide +kernel
theorem dX5_readArchive_21 : decode cX5_readArchive 21 = .ok (.istore_n 1, 1) := by decide +kernel
theorem dX5_readArchive_22 : decode cX5_readArchive 22 = .ok (.iload_n 1, 1) := by decide +kernel
theorem dX5_readArchive_23 : decode cX5_readArchive 23 = .ok (.bipush 120, 2) := by decide +kernel
theorem dX5_readArchive_25 : decode cX5_readArchive 25 = .ok (.if_icmp .gt 40, 3) := by decide +kernel
theorem dX5_readArchive_28 : decode cX5_readArchive 28 = .ok (.aload_n 0, 1) := by decide +kernel
theorem dX5_readArchive_29 : decode cX5_readArchive 29 = .ok (.invokevirtual 36, 3) := by decide +kernel
theorem dX5_readArchive_32 : decode cX5_readArchive 32 = .ok (.ifCond .eq 33, 3) := by decide +kernel
theorem dX5_readArchive_35 : decode cX5_readArchive 35 = .ok (.iinc 1 1, 3) := by decide +kernel
theorem dX5_readArchive_38 : decode cX5_readArchive 38 = .ok (.aload_n 0, 1) := by decide +kernel
theorem dX5_readArchive_39 : decode cX5_readArchive 39 = .ok (.getfield 40, 3) := by decide +kernel
theorem dX5_readArchive_42 : decode cX5_readArchive 42 = .ok (.ifCond .ne 5, 3) := by decide +kernel
theorem dX5_readArchive_45 : decode cX5_readArchive 45 = .ok (.iload_n 1, 1) := by decide +kernel
theorem dX5_readArchive_46 : decode cX5_readArchive 46 = .ok (.ireturn, 1) := by decide +kernel
theorem dX5_readArchive_47 : decode cX5_readArchive 47 = .ok (.aload_n 0, 1) := by decide +kernel
theorem dX5_readArchive_48 : decode cX5_readArchive 48 = .ok (.getfield 40, 3) := by decide +kernel
theorem dX5_readArchive_51 : decode cX5_readArchive 51 = .ok (.iconst 3, 1) := by decide +kernel
theorem dX5_readArchive_52 : decode cX5_readArchive 52 = .ok (.if_icmp .eq 6, 3) := by decide +kernel
theorem dX5_readArchive_55 : decode cX5_readArchive 55 = .ok (.goto 10, 3) := by decide +kernel
theorem dX5_readArchive_58 : decode cX5_readArchive 58 = .ok (.aload_n 0, 1) := by decide +kernel
theorem dX5_readArchive_59 : decode cX5_readArchive 59 = .ok (.invokevirtual 33, 3) := by decide +kernel
theorem dX5_readArchive_62 : decode cX5_readArchive 62 = .ok (.goto (-40), 3) := by decide +kernel
theorem dX5_readArchive_65 : decode cX5_readArchive 65 = .ok (.aload_n 0, 1) := by decide +kernel
theorem dX5_readArchive_66 : decode cX5_readArchive 66 = .ok (.getfield 15, 3) := by decide +kernel
theorem dX5_readArchive_69 : decode cX5_readArchive 69 = .ok (.aload_n 0, 1) := by decide +kernel
theorem dX5_readArchive_70 : decode cX5_readArchive 70 = .ok (.getfield 22, 3) := by decide +kernel
theorem dX5_readArchive_73 : decode cX5_readArchive 73 = .ok (.invokevirtual 25, 3) := by decide +kernel
theorem dX5_readArchive_76 : decode cX5_readArchive 76 = .ok (.iconst (-1), 1) := by decide +kernel
theorem dX5_readArchive_77 : decode cX5_readArchive 77 = .ok (.aload_n 0, 1) := by decide +kernel
theorem dX5_readArchive_78 : decode cX5_readArchive 78 = .ok (.getfield 43, 3) := by decide +kernel
theorem dX5_readArchive_81 : decode cX5_readArchive 81 = .ok (.isub, 1) := by decide +kernel
theorem dX5_readArchive_82 : decode cX5_readArchive 82 = .ok (.ireturn, 1) := by decide +kernel
theorem dX5_readItem_0 : decode cX5_readItem 0 = .ok (.aload_n 0, 1) := by decide +kernel
theorem dX5_readItem_1 : decode cX5_readItem 1 = .ok (.ldc 46, 2) := by decide +kernel
theorem dX5_readItem_3 : decode cX5_readItem 3 = .ok (.invokevirtual 48, 3) := by decide +kernel
theorem dX5_readItem_6 : decode cX5_readItem 6 = .ok (.ifCond .eq 12, 3) := by decide +kernel
theorem dX5_readItem_9 : decode cX5_readItem 9 = .ok (.aload_n 0, 1) := by decide +kernel
theorem dX5_readItem_10 : decode cX5_readItem 10 = .ok (.invokevirtual 33, 3) := by decide +kernel
theorem dX5_readItem_13 : decode cX5_readItem 13 = .ok (.aload_n 0, 1) := by decide +kernel
theorem dX5_readItem_14 : decode cX5_readItem 14 = .ok (.invokevirtual 52, 3) := by decide +kernel
theorem dX5_readItem_17 : decode cX5_readItem 17 = .ok (.ireturn, 1) := by decide +kernel
theorem dX5_readItem_18 : decode cX5_readItem 18 = .ok (.aload_n 0, 1) := by decide +kernel
theorem dX5_readItem_19 : decode cX5_readItem 19 = .ok (.ldc 55, 2) := by decide +kernel
theorem dX5_readItem_21 : decode cX5_readItem 21 = .ok (.invokevirtual 48, 3) := by decide +kernel
theorem dX5_readItem_24 : decode cX5_readItem 24 = .ok (.ifCond .eq 12, 3) := by decide +kernel
theorem dX5_readItem_27 : decode cX5_readItem 27 = .ok (.aload_n 0, 1) := by decide +kernel
theorem dX5_readItem_28 : decode cX5_readItem 28 = .ok (.invokevirtual 33, 3) := by decide +kernel
theorem dX5_readItem_31 : decode cX5_readItem 31 = .ok (.aload_n 0, 1) := by decide +kernel
theorem dX5_readItem_32 : decode cX5_readItem 32 = .ok (.invokevirtual 57, 3) := by decide +kernel
theorem dX5_readItem_35 : decode cX5_readItem 35 = .ok (.ireturn, 1) := by decide +kernel
theorem dX5_readItem_36 : decode cX5_readItem 36 = .ok (.aload_n 0, 1) := by decide +kernel
theorem dX5_readItem_37 : decode cX5_readItem 37 = .ok (.invokevirtual 60, 3) := by decide +kernel
theorem dX5_readItem_40 : decode cX5_readItem 40 = .ok (.istore_n 1, 1) := by decide +kernel
theorem dX5_readItem_41 : decode cX5_readItem 41 = .ok (.iload_n 1, 1) := by decide +kernel
theorem dX5_readItem_42 : decode cX5_readItem 42 = .ok (.iconst (-1), 1) := by decide +kernel
theorem dX5_readItem_43 : decode cX5_readItem 43 = .ok (.if_icmp .ne 5, 3) := by decide +kernel
theorem dX5_readItem_46 : decode cX5_readItem 46 = .ok (.iconst 0, 1) := by decide +kernel
theorem dX5_readItem_47 : decode cX5_readItem 47 = .ok (.ireturn, 1) := by decide +kernel
theorem dX5_readItem_48 : decode cX5_readItem 48 = .ok (.aload_n 0, 1) := by decide +kernel
theorem dX5_readItem_49 : decode cX5_readItem 49 = .ok (.getfield 15, 3) := by decide +kernel
theorem dX5_readItem_52 : decode cX5_readItem 52 = .ok (.iload_n 1, 1) := by decide +kernel
theorem dX5_readItem_53 : decode cX5_readItem 53 = .ok (.lconst 0, 1) := by decide +kernel
theorem dX5_readItem_54 : decode cX5_readItem 54 = .ok (.invokevirtual 64, 3) := by decide +kernel
theorem dX5_readItem_57 : decode cX5_readItem 57 = .ok (.istore_n 2, 1) := by decide +kernel
theorem dX5_readItem_58 : decode cX5_readItem 58 = .ok (.iload_n 2, 1) := by decide +kernel
theorem dX5_readItem_59 : decode cX5_readItem 59 = .ok (.iconst (-1), 1) := by decide +kernel
theorem dX5_readItem_60 : decode cX5_readItem 60 = .ok (.if_icmp .ne 5, 3) := by decide +kernel
theorem dX5_readItem_63 : decode cX5_readItem 63 = .ok (.iconst 0, 1) := by decide +kernel
theorem dX5_readItem_64 : decode cX5_readItem 64 = .ok (.ireturn, 1) := by decide +kernel
theorem dX5_readItem_65 : decode cX5_readItem 65 = .ok (.aload_n 0, 1) := by decide +kernel
theorem dX5_readItem_66 : decode cX5_readItem 66 = .ok (.invokevirtual 33, 3) := by decide +kernel
theorem dX5_readItem_69 : decode cX5_readItem 69 = .ok (.aload_n 0, 1) := by decide +kernel
theorem dX5_readItem_70 : decode cX5_readItem 70 = .ok (.aload_n 0, 1) := by decide +kernel
theorem dX5_readItem_71 : decode cX5_readItem 71 = .ok (.getfield 15, 3) := by decide +kernel
theorem dX5_readItem_74 : decode cX5_readItem 74 = .ok (.getfield 68, 3) := by decide +kernel
theorem dX5_readItem_77 : decode cX5_readItem 77 = .ok (.iload_n 2, 1) := by decide +kernel
theorem dX5_readItem_78 : decode cX5_readItem 78 = .ok (.aaload, 1) := by decide +kernel
theorem dX5_readItem_79 : decode cX5_readItem 79 = .ok (.invokevirtual 72, 3) := by decide +kernel
theorem dX5_readItem_82 : decode cX5_readItem 82 = .ok (.ireturn, 1) := by decide +kernel
theorem dX5_readSlack_0 : decode cX5_readSlack 0 = .ok (.aload_n 0, 1) := by decide +kernel
theorem dX5_readSlack_1 : decode cX5_readSlack 1 = .ok (.iconst 0, 1) := by decide +kernel
theorem dX5_readSlack_2 : decode cX5_readSlack 2 = .ok (.sipush 999, 3) := by decide +kernel
theorem dX5_readSlack_5 : decode cX5_readSlack 5 = .ok (.invokevirtual 76, 3) := by decide +kernel
theorem dX5_readSlack_8 : decode cX5_readSlack 8 = .ok (.ifCond .ne 5, 3) := by decide +kernel
theorem dX5_readSlack_11 : decode cX5_readSlack 11 = .ok (.iconst 0, 1) := by decide +kernel
theorem dX5_readSlack_12 : decode cX5_readSlack 12 = .ok (.ireturn, 1) := by decide +kernel
theorem dX5_readSlack_13 : decode cX5_readSlack 13 = .ok (.aload_n 0, 1) := by decide +kernel
theorem dX5_readSlack_14 : decode cX5_readSlack 14 = .ok (.getfield 15, 3) := by decide +kernel
theorem dX5_readSlack_17 : decode cX5_readSlack 17 = .ok (.aload_n 0, 1) := by decide +kernel
theorem dX5_readSlack_18 : decode cX5_readSlack 18 = .ok (.getfield 80, 3) := by decide +kernel
theorem dX5_readSlack_21 : decode cX5_readSlack 21 = .ok (.putfield 83, 3) := by decide +kernel
theorem dX5_readSlack_24 : decode cX5_readSlack 24 = .ok (.aload_n 0, 1) := by decide +kernel
theorem dX5_readSlack_25 : decode cX5_readSlack 25 = .ok (.invokevirtual 33, 3) := by decide +kernel
theorem dX5_readSlack_28 : decode cX5_readSlack 28 = .ok (.iconst 1, 1) := by decide +kernel
theorem dX5_readSlack_29 : decode cX5_readSlack 29 = .ok (.ireturn, 1) := by decide +kernel
theorem dX5_readLook_0 : decode cX5_readLook 0 = .ok (.aload_n 0, 1) := by decide +kernel
theorem dX5_readLook_1 : decode cX5_readLook 1 = .ok (.iconst 0, 1) := by decide +kernel
theorem dX5_readLook_2 : decode cX5_readLook 2 = .ok (.aload_n 0, 1) := by decide +kernel
theorem dX5_readLook_3 : decode cX5_readLook 3 = .ok (.getfield 15, 3) := by decide +kernel
theorem dX5_readLook_6 : decode cX5_readLook 6 = .ok (.getfield 85, 3) := by decide +kernel
theorem dX5_readLook_9 : decode cX5_readLook 9 = .ok (.iconst 1, 1) := by decide +kernel
theorem dX5_readLook_10 : decode cX5_readLook 10 = .ok (.isub, 1) := by decide +kernel
theorem dX5_readLook_11 : decode cX5_readLook 11 = .ok (.invokevirtual 76, 3) := by decide +kernel
theorem dX5_readLook_14 : decode cX5_readLook 14 = .ok (.ifCond .ne 5, 3) := by decide +kernel
theorem dX5_readLook_17 : decode cX5_readLook 17 = .ok (.iconst 0, 1) := by decide +kernel
theorem dX5_readLook_18 : decode cX5_readLook 18 = .ok (.ireturn, 1) := by decide +kernel
theorem dX5_readLook_19 : decode cX5_readLook 19 = .ok (.aload_n 0, 1) := by decide +kernel
theorem dX5_readLook_20 : decode cX5_readLook 20 = .ok (.getfield 15, 3) := by decide +kernel
theorem dX5_readLook_23 : decode cX5_readLook 23 = .ok (.getfield 68, 3) := by decide +kernel
theorem dX5_readLook_26 : decode cX5_readLook 26 = .ok (.aload_n 0, 1) := by decide +kernel
theorem dX5_readLook_27 : decode cX5_readLook 27 = .ok (.getfield 80, 3) := by decide +kernel
theorem dX5_readLook_30 : decode cX5_readLook 30 = .ok (.aaload, 1) := by decide +kernel
theorem dX5_readLook_31 : decode cX5_readLook 31 = .ok (.iconst 1, 1) := by decide +kernel
theorem dX5_readLook_32 : decode cX5_readLook 32 = .ok (.putfield 88, 3) := by decide +kernel
theorem dX5_readLook_35 : decode cX5_readLook 35 = .ok (.aload_n 0, 1) := by decide +kernel
theorem dX5_readLook_36 : decode cX5_readLook 36 = .ok (.invokevirtual 33, 3) := by decide +kernel
theorem dX5_readLook_39 : decode cX5_readLook 39 = .ok (.iconst 1, 1) := by decide +kernel
theorem dX5_readLook_40 : decode cX5_readLook 40 = .ok (.ireturn, 1) := by decide +kernel
theorem dX5_readPrint_0 : decode cX5_readPrint 0 = .ok (.iconst 0, 1) := by decide +kernel
theorem dX5_readPrint_1 : decode cX5_readPrint 1 = .ok (.istore_n 2, 1) := by decide +kernel
theorem dX5_readPrint_2 : decode cX5_readPrint 2 = .ok (.iload_n 2, 1) := by decide +kernel
theorem dX5_readPrint_3 : decode cX5_readPrint 3 = .ok (.bipush 8, 2) := by decide +kernel
theorem dX5_readPrint_5 : decode cX5_readPrint 5 = .ok (.if_icmp .ge 64, 3) := by decide +kernel
theorem dX5_readPrint_8 : decode cX5_readPrint 8 = .ok (.aload_n 0, 1) := by decide +kernel
theorem dX5_readPrint_9 : decode cX5_readPrint 9 = .ok (.getfield 40, 3) := by decide +kernel
theorem dX5_readPrint_12 : decode cX5_readPrint 12 = .ok (.iconst 2, 1) := by decide +kernel
theorem dX5_readPrint_13 : decode cX5_readPrint 13 = .ok (.if_icmp .ne 56, 3) := by decide +kernel
theorem dX5_readPrint_16 : decode cX5_readPrint 16 = .ok (.aload_n 0, 1) := by decide +kernel
theorem dX5_readPrint_17 : decode cX5_readPrint 17 = .ok (.iconst 0, 1) := by decide +kernel
theorem dX5_readPrint_18 : decode cX5_readPrint 18 = .ok (.bipush 39, 2) := by decide +kernel
theorem dX5_readPrint_20 : decode cX5_readPrint 20 = .ok (.invokevirtual 76, 3) := by decide +kernel
theorem dX5_readPrint_23 : decode cX5_readPrint 23 = .ok (.ifCond .eq 19, 3) := by decide +kernel
theorem dX5_readPrint_26 : decode cX5_readPrint 26 = .ok (.aload_n 1, 1) := by decide +kernel
theorem dX5_readPrint_27 : decode cX5_readPrint 27 = .ok (.getfield 94, 3) := by decide +kernel
theorem dX5_readPrint_30 : decode cX5_readPrint 30 = .ok (.lconst 1, 1) := by decide +kernel
theorem dX5_readPrint_31 : decode cX5_readPrint 31 = .ok (.aload_n 0, 1) := by decide +kernel
theorem dX5_readPrint_32 : decode cX5_readPrint 32 = .ok (.getfield 80, 3) := by decide +kernel
theorem dX5_readPrint_35 : decode cX5_readPrint 35 = .ok (.lshl, 1) := by decide +kernel
theorem dX5_readPrint_36 : decode cX5_readPrint 36 = .ok (.land, 1) := by decide +kernel
theorem dX5_readPrint_37 : decode cX5_readPrint 37 = .ok (.lconst 0, 1) := by decide +kernel
theorem dX5_readPrint_38 : decode cX5_readPrint 38 = .ok (.lcmp, 1) := by decide +kernel
theorem dX5_readPrint_39 : decode cX5_readPrint 39 = .ok (.ifCond .eq 5, 3) := by decide +kernel
theorem dX5_readPrint_42 : decode cX5_readPrint 42 = .ok (.iconst 0, 1) := by decide +kernel
theorem dX5_readPrint_43 : decode cX5_readPrint 43 = .ok (.ireturn, 1) := by decide +kernel
theorem dX5_readPrint_44 : decode cX5_readPrint 44 = .ok (.aload_n 1, 1) := by decide +kernel
theorem dX5_readPrint_45 : decode cX5_readPrint 45 = .ok (.dup, 1) := by decide +kernel
theorem dX5_readPrint_46 : decode cX5_readPrint 46 = .ok (.getfield 94, 3) := by decide +kernel
theorem dX5_readPrint_49 : decode cX5_readPrint 49 = .ok (.lconst 1, 1) := by decide +kernel
theorem dX5_readPrint_50 : decode cX5_readPrint 50 = .ok (.aload_n 0, 1) := by decide +kernel
theorem dX5_readPrint_51 : decode cX5_readPrint 51 = .ok (.getfield 80, 3) := by decide +kernel
theorem dX5_readPrint_54 : decode cX5_readPrint 54 = .ok (.lshl, 1) := by decide +kernel
theorem dX5_readPrint_55 : decode cX5_readPrint 55 = .ok (.lor, 1) := by decide +kernel
theorem dX5_readPrint_56 : decode cX5_readPrint 56 = .ok (.putfield 94, 3) := by decide +kernel
theorem dX5_readPrint_59 : decode cX5_readPrint 59 = .ok (.aload_n 0, 1) := by decide +kernel
theorem dX5_readPrint_60 : decode cX5_readPrint 60 = .ok (.invokevirtual 33, 3) := by decide +kernel
theorem dX5_readPrint_63 : decode cX5_readPrint 63 = .ok (.iinc 2 1, 3) := by decide +kernel
theorem dX5_readPrint_66 : decode cX5_readPrint 66 = .ok (.goto (-64), 3) := by decide +kernel
theorem dX5_readPrint_69 : decode cX5_readPrint 69 = .ok (.aload_n 0, 1) := by decide +kernel
theorem dX5_readPrint_70 : decode cX5_readPrint 70 = .ok (.ldc 98, 2) := by decide +kernel
theorem dX5_readPrint_72 : decode cX5_readPrint 72 = .ok (.invokevirtual 48, 3) := by decide +kernel
theorem dX5_readPrint_75 : decode cX5_readPrint 75 = .ok (.ifCond .eq 32, 3) := by decide +kernel
theorem dX5_readPrint_78 : decode cX5_readPrint 78 = .ok (.aload_n 0, 1) := by decide +kernel
theorem dX5_readPrint_79 : decode cX5_readPrint 79 = .ok (.invokevirtual 33, 3) := by decide +kernel
theorem dX5_readPrint_82 : decode cX5_readPrint 82 = .ok (.aload_n 0, 1) := by decide +kernel
theorem dX5_readPrint_83 : decode cX5_readPrint 83 = .ok (.iconst 1, 1) := by decide +kernel
theorem dX5_readPrint_84 : decode cX5_readPrint 84 = .ok (.sipush 9999, 3) := by decide +kernel
theorem dX5_readPrint_87 : decode cX5_readPrint 87 = .ok (.invokevirtual 76, 3) := by decide +kernel
theorem dX5_readPrint_90 : decode cX5_readPrint 90 = .ok (.ifCond .ne 5, 3) := by decide +kernel
theorem dX5_readPrint_93 : decode cX5_readPrint 93 = .ok (.iconst 0, 1) := by decide +kernel
theorem dX5_readPrint_94 : decode cX5_readPrint 94 = .ok (.ireturn, 1) := by decide +kernel
theorem dX5_readPrint_95 : decode cX5_readPrint 95 = .ok (.aload_n 1, 1) := by decide +kernel
theorem dX5_readPrint_96 : decode cX5_readPrint 96 = .ok (.aload_n 0, 1) := by decide +kernel
theorem dX5_readPrint_97 : decode cX5_readPrint 97 = .ok (.getfield 80, 3) := by decide +kernel
theorem dX5_readPrint_100 : decode cX5_readPrint 100 = .ok (.putfield 100, 3) := by decide +kernel
theorem dX5_readPrint_103 : decode cX5_readPrint 103 = .ok (.aload_n 0, 1) := by decide +kernel
theorem dX5_readPrint_104 : decode cX5_readPrint 104 = .ok (.invokevirtual 33, 3) := by decide +kernel
theorem dX5_readPrint_107 : decode cX5_readPrint 107 = .ok (.aload_n 0, 1) := by decide +kernel
theorem dX5_readPrint_108 : decode cX5_readPrint 108 = .ok (.ldc 102, 2) := by decide +kernel
theorem dX5_readPrint_110 : decode cX5_readPrint 110 = .ok (.invokevirtual 48, 3) := by decide +kernel
theorem dX5_readPrint_113 : decode cX5_readPrint 113 = .ok (.ifCond .eq 32, 3) := by decide +kernel
theorem dX5_readPrint_116 : decode cX5_readPrint 116 = .ok (.aload_n 0, 1) := by decide +kernel
theorem dX5_readPrint_117 : decode cX5_readPrint 117 = .ok (.invokevirtual 33, 3) := by decide +kernel
theorem dX5_readPrint_120 : decode cX5_readPrint 120 = .ok (.aload_n 0, 1) := by decide +kernel
theorem dX5_readPrint_121 : decode cX5_readPrint 121 = .ok (.iconst 0, 1) := by decide +kernel
theorem dX5_readPrint_122 : decode cX5_readPrint 122 = .ok (.sipush 2000, 3) := by decide +kernel
theorem dX5_readPrint_125 : decode cX5_readPrint 125 = .ok (.invokevirtual 76, 3) := by decide +kernel
theorem dX5_readPrint_128 : decode cX5_readPrint 128 = .ok (.ifCond .ne 5, 3) := by decide +kernel
theorem dX5_readPrint_131 : decode cX5_readPrint 131 = .ok (.iconst 0, 1) := by decide +kernel
theorem dX5_readPrint_132 : decode cX5_readPrint 132 = .ok (.ireturn, 1) := by decide +kernel
theorem dX5_readPrint_133 : decode cX5_readPrint 133 = .ok (.aload_n 1, 1) := by decide +kernel
theorem dX5_readPrint_134 : decode cX5_readPrint 134 = .ok (.aload_n 0, 1) := by decide +kernel
theorem dX5_readPrint_135 : decode cX5_readPrint 135 = .ok (.getfield 80, 3) := by decide +kernel
theorem dX5_readPrint_138 : decode cX5_readPrint 138 = .ok (.putfield 104, 3) := by decide +kernel
theorem dX5_readPrint_141 : decode cX5_readPrint 141 = .ok (.aload_n 0, 1) := by decide +kernel
theorem dX5_readPrint_142 : decode cX5_readPrint 142 = .ok (.invokevirtual 33, 3) := by decide +kernel
theorem dX5_readPrint_145 : decode cX5_readPrint 145 = .ok (.aload_n 0, 1) := by decide +kernel
theorem dX5_readPrint_146 : decode cX5_readPrint 146 = .ok (.ldc 106, 2) := by decide +kernel
theorem dX5_readPrint_148 : decode cX5_readPrint 148 = .ok (.invokevirtual 48, 3) := by decide +kernel
theorem dX5_readPrint_151 : decode cX5_readPrint 151 = .ok (.ifCond .eq 12, 3) := by decide +kernel
theorem dX5_readPrint_154 : decode cX5_readPrint 154 = .ok (.aload_n 1, 1) := by decide +kernel
theorem dX5_readPrint_155 : decode cX5_readPrint 155 = .ok (.iconst 1, 1) := by decide +kernel
theorem dX5_readPrint_156 : decode cX5_readPrint 156 = .ok (.putfield 88, 3) := by decide +kernel
theorem dX5_readPrint_159 : decode cX5_readPrint 159 = .ok (.aload_n 0, 1) := by decide +kernel
theorem dX5_readPrint_160 : decode cX5_readPrint 160 = .ok (.invokevirtual 33, 3) := by decide +kernel
theorem dX5_readPrint_163 : decode cX5_readPrint 163 = .ok (.iconst 1, 1) := by decide +kernel
theorem dX5_readPrint_164 : decode cX5_readPrint 164 = .ok (.ireturn, 1) := by decide +kernel
theorem dX5_kindNamed_0 : decode cX5_kindNamed 0 = .ok (.aload_n 0, 1) := by decide +kernel
theorem dX5_kindNamed_1 : decode cX5_kindNamed 1 = .ok (.ldc 107, 2) := by decide +kernel
theorem dX5_kindNamed_3 : decode cX5_kindNamed 3 = .ok (.invokevirtual 48, 3) := by decide +kernel
theorem dX5_kindNamed_6 : decode cX5_kindNamed 6 = .ok (.ifCond .eq 5, 3) := by decide +kernel
theorem dX5_kindNamed_9 : decode cX5_kindNamed 9 = .ok (.iconst 0, 1) := by decide +kernel
theorem dX5_kindNamed_10 : decode cX5_kindNamed 10 = .ok (.ireturn, 1) := by decide +kernel
theorem dX5_kindNamed_11 : decode cX5_kindNamed 11 = .ok (.aload_n 0, 1) := by decide +kernel
theorem dX5_kindNamed_12 : decode cX5_kindNamed 12 = .ok (.ldc 109, 2) := by decide +kernel
theorem dX5_kindNamed_14 : decode cX5_kindNamed 14 = .ok (.invokevirtual 48, 3) := by decide +kernel
theorem dX5_kindNamed_17 : decode cX5_kindNamed 17 = .ok (.ifCond .eq 5, 3) := by decide +kernel
theorem dX5_kindNamed_20 : decode cX5_kindNamed 20 = .ok (.iconst 1, 1) := by decide +kernel
theorem dX5_kindNamed_21 : decode cX5_kindNamed 21 = .ok (.ireturn, 1) := by decide +kernel
theorem dX5_kindNamed_22 : decode cX5_kindNamed 22 = .ok (.aload_n 0, 1) := by decide +kernel
theorem dX5_kindNamed_23 : decode cX5_kindNamed 23 = .ok (.ldc 111, 2) := by decide +kernel
theorem dX5_kindNamed_25 : decode cX5_kindNamed 25 = .ok (.invokevirtual 48, 3) := by decide +kernel
theorem dX5_kindNamed_28 : decode cX5_kindNamed 28 = .ok (.ifCond .eq 5, 3) := by decide +kernel
theorem dX5_kindNamed_31 : decode cX5_kindNamed 31 = .ok (.iconst 2, 1) := by decide +kernel
theorem dX5_kindNamed_32 : decode cX5_kindNamed 32 = .ok (.ireturn, 1) := by decide +kernel
theorem dX5_kindNamed_33 : decode cX5_kindNamed 33 = .ok (.aload_n 0, 1) := by decide +kernel
theorem dX5_kindNamed_34 : decode cX5_kindNamed 34 = .ok (.ldc 113, 2) := by decide +kernel
theorem dX5_kindNamed_36 : decode cX5_kindNamed 36 = .ok (.invokevirtual 48, 3) := by decide +kernel
theorem dX5_kindNamed_39 : decode cX5_kindNamed 39 = .ok (.ifCond .eq 5, 3) := by decide +kernel
theorem dX5_kindNamed_42 : decode cX5_kindNamed 42 = .ok (.iconst 3, 1) := by decide +kernel
theorem dX5_kindNamed_43 : decode cX5_kindNamed 43 = .ok (.ireturn, 1) := by decide +kernel
theorem dX5_kindNamed_44 : decode cX5_kindNamed 44 = .ok (.aload_n 0, 1) := by decide +kernel
theorem dX5_kindNamed_45 : decode cX5_kindNamed 45 = .ok (.ldc 115, 2) := by decide +kernel
theorem dX5_kindNamed_47 : decode cX5_kindNamed 47 = .ok (.invokevirtual 48, 3) := by decide +kernel
theorem dX5_kindNamed_50 : decode cX5_kindNamed 50 = .ok (.ifCond .eq 5, 3) := by decide +kernel
theorem dX5_kindNamed_53 : decode cX5_kindNamed 53 = .ok (.iconst 4, 1) := by decide +kernel
theorem dX5_kindNamed_54 : decode cX5_kindNamed 54 = .ok (.ireturn, 1) := by decide +kernel
theorem dX5_kindNamed_55 : decode cX5_kindNamed 55 = .ok (.aload_n 0, 1) := by decide +kernel
theorem dX5_kindNamed_56 : decode cX5_kindNamed 56 = .ok (.ldc 117, 2) := by decide +kernel
theorem dX5_kindNamed_58 : decode cX5_kindNamed 58 = .ok (.invokevirtual 48, 3) := by decide +kernel
theorem dX5_kindNamed_61 : decode cX5_kindNamed 61 = .ok (.ifCond .eq 7, 3) := by decide +kernel
theorem dX5_kindNamed_64 : decode cX5_kindNamed 64 = .ok (.iconst 5, 1) := by decide +kernel
theorem dX5_kindNamed_65 : decode cX5_kindNamed 65 = .ok (.goto 4, 3) := by decide +kernel
theorem dX5_kindNamed_68 : decode cX5_kindNamed 68 = .ok (.iconst (-1), 1) := by decide +kernel
theorem dX5_kindNamed_69 : decode cX5_kindNamed 69 = .ok (.ireturn, 1) := by decide +kernel
theorem dX5_isNumber_0 : decode cX5_isNumber 0 = .ok (.aload_n 0, 1) := by decide +kernel
theorem dX5_isNumber_1 : decode cX5_isNumber 1 = .ok (.getfield 40, 3) := by decide +kernel
theorem dX5_isNumber_4 : decode cX5_isNumber 4 = .ok (.iconst 2, 1) := by decide +kernel
theorem dX5_isNumber_5 : decode cX5_isNumber 5 = .ok (.if_icmp .ne 23, 3) := by decide +kernel
theorem dX5_isNumber_8 : decode cX5_isNumber 8 = .ok (.aload_n 0, 1) := by decide +kernel
theorem dX5_isNumber_9 : decode cX5_isNumber 9 = .ok (.getfield 80, 3) := by decide +kernel
theorem dX5_isNumber_12 : decode cX5_isNumber 12 = .ok (.iload_n 1, 1) := by decide +kernel
theorem dX5_isNumber_13 : decode cX5_isNumber 13 = .ok (.if_icmp .lt 15, 3) := by decide +kernel
theorem dX5_isNumber_16 : decode cX5_isNumber 16 = .ok (.aload_n 0, 1) := by decide +kernel
theorem dX5_isNumber_17 : decode cX5_isNumber 17 = .ok (.getfield 80, 3) := by decide +kernel
theorem dX5_isNumber_20 : decode cX5_isNumber 20 = .ok (.iload_n 2, 1) := by decide +kernel
theorem dX5_isNumber_21 : decode cX5_isNumber 21 = .ok (.if_icmp .gt 7, 3) := by decide +kernel
theorem dX5_isNumber_24 : decode cX5_isNumber 24 = .ok (.iconst 1, 1) := by decide +kernel
theorem dX5_isNumber_25 : decode cX5_isNumber 25 = .ok (.goto 4, 3) := by decide +kernel
theorem dX5_isNumber_28 : decode cX5_isNumber 28 = .ok (.iconst 0, 1) := by decide +kernel
theorem dX5_isNumber_29 : decode cX5_isNumber 29 = .ok (.ireturn, 1) := by decide +kernel
theorem dX5_isWord_0 : decode cX5_isWord 0 = .ok (.aload_n 0, 1) := by decide +kernel
theorem dX5_isWord_1 : decode cX5_isWord 1 = .ok (.getfield 40, 3) := by decide +kernel
theorem dX5_isWord_4 : decode cX5_isWord 4 = .ok (.iconst 1, 1) := by decide +kernel
theorem dX5_isWord_5 : decode cX5_isWord 5 = .ok (.if_icmp .ne 19, 3) := by decide +kernel
theorem dX5_isWord_8 : decode cX5_isWord 8 = .ok (.aload_n 0, 1) := by decide +kernel
theorem dX5_isWord_9 : decode cX5_isWord 9 = .ok (.getfield 29, 3) := by decide +kernel
theorem dX5_isWord_12 : decode cX5_isWord 12 = .ok (.aload_n 0, 1) := by decide +kernel
theorem dX5_isWord_13 : decode cX5_isWord 13 = .ok (.getfield 43, 3) := by decide +kernel
theorem dX5_isWord_16 : decode cX5_isWord 16 = .ok (.isub, 1) := by decide +kernel
theorem dX5_isWord_17 : decode cX5_isWord 17 = .ok (.aload_n 1, 1) := by decide +kernel
theorem dX5_isWord_18 : decode cX5_isWord 18 = .ok (.invokevirtual 119, 3) := by decide +kernel
theorem dX5_isWord_21 : decode cX5_isWord 21 = .ok (.if_icmp .eq 5, 3) := by decide +kernel
theorem dX5_isWord_24 : decode cX5_isWord 24 = .ok (.iconst 0, 1) := by decide +kernel
theorem dX5_isWord_25 : decode cX5_isWord 25 = .ok (.ireturn, 1) := by decide +kernel
theorem dX5_isWord_26 : decode cX5_isWord 26 = .ok (.iconst 0, 1) := by decide +kernel
theorem dX5_isWord_27 : decode cX5_isWord 27 = .ok (.istore_n 2, 1) := by decide +kernel
theorem dX5_isWord_28 : decode cX5_isWord 28 = .ok (.iload_n 2, 1) := by decide +kernel
theorem dX5_isWord_29 : decode cX5_isWord 29 = .ok (.aload_n 1, 1) := by decide +kernel
theorem dX5_isWord_30 : decode cX5_isWord 30 = .ok (.invokevirtual 119, 3) := by decide +kernel
theorem dX5_isWord_33 : decode cX5_isWord 33 = .ok (.if_icmp .ge 32, 3) := by decide +kernel
theorem dX5_isWord_36 : decode cX5_isWord 36 = .ok (.aload_n 0, 1) := by decide +kernel
theorem dX5_isWord_37 : decode cX5_isWord 37 = .ok (.getfield 9, 3) := by decide +kernel
theorem dX5_isWord_40 : decode cX5_isWord 40 = .ok (.aload_n 0, 1) := by decide +kernel
theorem dX5_isWord_41 : decode cX5_isWord 41 = .ok (.getfield 43, 3) := by decide +kernel
theorem dX5_isWord_44 : decode cX5_isWord 44 = .ok (.iload_n 2, 1) := by decide +kernel
theorem dX5_isWord_45 : decode cX5_isWord 45 = .ok (.iadd, 1) := by decide +kernel
theorem dX5_isWord_46 : decode cX5_isWord 46 = .ok (.invokevirtual 124, 3) := by decide +kernel
theorem dX5_isWord_49 : decode cX5_isWord 49 = .ok (.aload_n 1, 1) := by decide +kernel
theorem dX5_isWord_50 : decode cX5_isWord 50 = .ok (.iload_n 2, 1) := by decide +kernel
theorem dX5_isWord_51 : decode cX5_isWord 51 = .ok (.invokevirtual 130, 3) := by decide +kernel
theorem dX5_isWord_54 : decode cX5_isWord 54 = .ok (.if_icmp .eq 5, 3) := by decide +kernel
theorem dX5_isWord_57 : decode cX5_isWord 57 = .ok (.iconst 0, 1) := by decide +kernel
theorem dX5_isWord_58 : decode cX5_isWord 58 = .ok (.ireturn, 1) := by decide +kernel
theorem dX5_isWord_59 : decode cX5_isWord 59 = .ok (.iinc 2 1, 3) := by decide +kernel
theorem dX5_isWord_62 : decode cX5_isWord 62 = .ok (.goto (-34), 3) := by decide +kernel
theorem dX5_isWord_65 : decode cX5_isWord 65 = .ok (.iconst 1, 1) := by decide +kernel
theorem dX5_isWord_66 : decode cX5_isWord 66 = .ok (.ireturn, 1) := by decide +kernel
theorem dX5_step_0 : decode cX5_step 0 = .ok (.aload_n 0, 1) := by decide +kernel
theorem dX5_step_1 : decode cX5_step 1 = .ok (.aload_n 0, 1) := by decide +kernel
theorem dX5_step_2 : decode cX5_step 2 = .ok (.getfield 29, 3) := by decide +kernel
theorem dX5_step_5 : decode cX5_step 5 = .ok (.putfield 43, 3) := by decide +kernel
theorem dX5_step_8 : decode cX5_step 8 = .ok (.aload_n 0, 1) := by decide +kernel
theorem dX5_step_9 : decode cX5_step 9 = .ok (.getfield 43, 3) := by decide +kernel
theorem dX5_step_12 : decode cX5_step 12 = .ok (.aload_n 0, 1) := by decide +kernel
theorem dX5_step_13 : decode cX5_step 13 = .ok (.getfield 9, 3) := by decide +kernel
theorem dX5_step_16 : decode cX5_step 16 = .ok (.getfield 134, 3) := by decide +kernel
theorem dX5_step_19 : decode cX5_step 19 = .ok (.if_icmp .ge 32, 3) := by decide +kernel
theorem dX5_step_22 : decode cX5_step 22 = .ok (.aload_n 0, 1) := by decide +kernel
theorem dX5_step_23 : decode cX5_step 23 = .ok (.getfield 9, 3) := by decide +kernel
theorem dX5_step_26 : decode cX5_step 26 = .ok (.aload_n 0, 1) := by decide +kernel
theorem dX5_step_27 : decode cX5_step 27 = .ok (.getfield 43, 3) := by decide +kernel
theorem dX5_step_30 : decode cX5_step 30 = .ok (.invokevirtual 124, 3) := by decide +kernel
theorem dX5_step_33 : decode cX5_step 33 = .ok (.bipush 32, 2) := by decide +kernel
theorem dX5_step_35 : decode cX5_step 35 = .ok (.if_icmp .ne 16, 3) := by decide +kernel
theorem dX5_step_38 : decode cX5_step 38 = .ok (.aload_n 0, 1) := by decide +kernel
theorem dX5_step_39 : decode cX5_step 39 = .ok (.dup, 1) := by decide +kernel
theorem dX5_step_40 : decode cX5_step 40 = .ok (.getfield 43, 3) := by decide +kernel
theorem dX5_step_43 : decode cX5_step 43 = .ok (.iconst 1, 1) := by decide +kernel
theorem dX5_step_44 : decode cX5_step 44 = .ok (.iadd, 1) := by decide +kernel
theorem dX5_step_45 : decode cX5_step 45 = .ok (.putfield 43, 3) := by decide +kernel
theorem dX5_step_48 : decode cX5_step 48 = .ok (.goto (-40), 3) := by decide +kernel
theorem dX5_step_51 : decode cX5_step 51 = .ok (.aload_n 0, 1) := by decide +kernel
theorem dX5_step_52 : decode cX5_step 52 = .ok (.aload_n 0, 1) := by decide +kernel
theorem dX5_step_53 : decode cX5_step 53 = .ok (.getfield 43, 3) := by decide +kernel
theorem dX5_step_56 : decode cX5_step 56 = .ok (.putfield 29, 3) := by decide +kernel
theorem dX5_step_59 : decode cX5_step 59 = .ok (.aload_n 0, 1) := by decide +kernel
theorem dX5_step_60 : decode cX5_step 60 = .ok (.iconst 0, 1) := by decide +kernel
theorem dX5_step_61 : decode cX5_step 61 = .ok (.putfield 80, 3) := by decide +kernel
theorem dX5_step_64 : decode cX5_step 64 = .ok (.aload_n 0, 1) := by decide +kernel
theorem dX5_step_65 : decode cX5_step 65 = .ok (.getfield 9, 3) := by decide +kernel
theorem dX5_step_68 : decode cX5_step 68 = .ok (.aload_n 0, 1) := by decide +kernel
theorem dX5_step_69 : decode cX5_step 69 = .ok (.getfield 43, 3) := by decide +kernel
theorem dX5_step_72 : decode cX5_step 72 = .ok (.invokevirtual 124, 3) := by decide +kernel
theorem dX5_step_75 : decode cX5_step 75 = .ok (.istore_n 1, 1) := by decide +kernel
theorem dX5_step_76 : decode cX5_step 76 = .ok (.iload_n 1, 1) := by decide +kernel
theorem dX5_step_77 : decode cX5_step 77 = .ok (.iconst (-1), 1) := by decide +kernel
theorem dX5_step_78 : decode cX5_step 78 = .ok (.if_icmp .ne 11, 3) := by decide +kernel
theorem dX5_step_81 : decode cX5_step 81 = .ok (.aload_n 0, 1) := by decide +kernel
theorem dX5_step_82 : decode cX5_step 82 = .ok (.iconst 0, 1) := by decide +kernel
theorem dX5_step_83 : decode cX5_step 83 = .ok (.putfield 40, 3) := by decide +kernel
theorem dX5_step_86 : decode cX5_step 86 = .ok (.goto 66, 3) := by decide +kernel
theorem dX5_step_89 : decode cX5_step 89 = .ok (.iload_n 1, 1) := by decide +kernel
theorem dX5_step_90 : decode cX5_step 90 = .ok (.invokestatic 135, 3) := by decide +kernel
theorem dX5_step_93 : decode cX5_step 93 = .ok (.ifCond .eq 15, 3) := by decide +kernel
theorem dX5_step_96 : decode cX5_step 96 = .ok (.aload_n 0, 1) := by decide +kernel
theorem dX5_step_97 : decode cX5_step 97 = .ok (.iconst 1, 1) := by decide +kernel
theorem dX5_step_98 : decode cX5_step 98 = .ok (.putfield 40, 3) := by decide +kernel
theorem dX5_step_101 : decode cX5_step 101 = .ok (.aload_n 0, 1) := by decide +kernel
theorem dX5_step_102 : decode cX5_step 102 = .ok (.invokevirtual 139, 3) := by decide +kernel
theorem dX5_step_105 : decode cX5_step 105 = .ok (.goto 47, 3) := by decide +kernel
theorem dX5_step_108 : decode cX5_step 108 = .ok (.iload_n 1, 1) := by decide +kernel
theorem dX5_step_109 : decode cX5_step 109 = .ok (.invokestatic 142, 3) := by decide +kernel
theorem dX5_step_112 : decode cX5_step 112 = .ok (.ifCond .eq 15, 3) := by decide +kernel
theorem dX5_step_115 : decode cX5_step 115 = .ok (.aload_n 0, 1) := by decide +kernel
theorem dX5_step_116 : decode cX5_step 116 = .ok (.iconst 2, 1) := by decide +kernel
theorem dX5_step_117 : decode cX5_step 117 = .ok (.putfield 40, 3) := by decide +kernel
theorem dX5_step_120 : decode cX5_step 120 = .ok (.aload_n 0, 1) := by decide +kernel
theorem dX5_step_121 : decode cX5_step 121 = .ok (.invokevirtual 145, 3) := by decide +kernel
theorem dX5_step_124 : decode cX5_step 124 = .ok (.goto 28, 3) := by decide +kernel
theorem dX5_step_127 : decode cX5_step 127 = .ok (.aload_n 0, 1) := by decide +kernel
theorem dX5_step_128 : decode cX5_step 128 = .ok (.iload_n 1, 1) := by decide +kernel
theorem dX5_step_129 : decode cX5_step 129 = .ok (.bipush 59, 2) := by decide +kernel
theorem dX5_step_131 : decode cX5_step 131 = .ok (.if_icmp .ne 7, 3) := by decide +kernel
theorem dX5_step_134 : decode cX5_step 134 = .ok (.iconst 3, 1) := by decide +kernel
theorem dX5_step_135 : decode cX5_step 135 = .ok (.goto 4, 3) := by decide +kernel
theorem dX5_step_138 : decode cX5_step 138 = .ok (.iconst 4, 1) := by decide +kernel
theorem dX5_step_139 : decode cX5_step 139 = .ok (.putfield 40, 3) := by decide +kernel
theorem dX5_step_142 : decode cX5_step 142 = .ok (.aload_n 0, 1) := by decide +kernel
theorem dX5_step_143 : decode cX5_step 143 = .ok (.dup, 1) := by decide +kernel
theorem dX5_step_144 : decode cX5_step 144 = .ok (.getfield 29, 3) := by decide +kernel
theorem dX5_step_147 : decode cX5_step 147 = .ok (.iconst 1, 1) := by decide +kernel
theorem dX5_step_148 : decode cX5_step 148 = .ok (.iadd, 1) := by decide +kernel
theorem dX5_step_149 : decode cX5_step 149 = .ok (.putfield 29, 3) := by decide +kernel
theorem dX5_step_152 : decode cX5_step 152 = .ok (.return_, 1) := by decide +kernel
theorem dX5_stepOverLetters_0 : decode cX5_stepOverLetters 0 = .ok (.aload_n 0, 1) := by decide +kernel
theorem dX5_stepOverLetters_1 : decode cX5_stepOverLetters 1 = .ok (.getfield 29, 3) := by decide +kernel
theorem dX5_stepOverLetters_4 : decode cX5_stepOverLetters 4 = .ok (.aload_n 0, 1) := by decide +kernel
theorem dX5_stepOverLetters_5 : decode cX5_stepOverLetters 5 = .ok (.getfield 9, 3) := by decide +kernel
theorem dX5_stepOverLetters_8 : decode cX5_stepOverLetters 8 = .ok (.getfield 134, 3) := by decide +kernel
theorem dX5_stepOverLetters_11 : decode cX5_stepOverLetters 11 = .ok (.if_icmp .ge 33, 3) := by decide +kernel
theorem dX5_stepOverLetters_14 : decode cX5_stepOverLetters 14 = .ok (.aload_n 0, 1) := by decide +kernel
theorem dX5_stepOverLetters_15 : decode cX5_stepOverLetters 15 = .ok (.getfield 9, 3) := by decide +kernel
theorem dX5_stepOverLetters_18 : decode cX5_stepOverLetters 18 = .ok (.aload_n 0, 1) := by decide +kernel
theorem dX5_stepOverLetters_19 : decode cX5_stepOverLetters 19 = .ok (.getfield 29, 3) := by decide +kernel
theorem dX5_stepOverLetters_22 : decode cX5_stepOverLetters 22 = .ok (.invokevirtual 124, 3) := by decide +kernel
theorem dX5_stepOverLetters_25 : decode cX5_stepOverLetters 25 = .ok (.invokestatic 135, 3) := by decide +kernel
theorem dX5_stepOverLetters_28 : decode cX5_stepOverLetters 28 = .ok (.ifCond .eq 16, 3) := by decide +kernel
theorem dX5_stepOverLetters_31 : decode cX5_stepOverLetters 31 = .ok (.aload_n 0, 1) := by decide +kernel
theorem dX5_stepOverLetters_32 : decode cX5_stepOverLetters 32 = .ok (.dup, 1) := by decide +kernel
theorem dX5_stepOverLetters_33 : decode cX5_stepOverLetters 33 = .ok (.getfield 29, 3) := by decide +kernel
theorem dX5_stepOverLetters_36 : decode cX5_stepOverLetters 36 = .ok (.iconst 1, 1) := by decide +kernel
theorem dX5_stepOverLetters_37 : decode cX5_stepOverLetters 37 = .ok (.iadd, 1) := by decide +kernel
theorem dX5_stepOverLetters_38 : decode cX5_stepOverLetters 38 = .ok (.putfield 29, 3) := by decide +kernel
theorem dX5_stepOverLetters_41 : decode cX5_stepOverLetters 41 = .ok (.goto (-41), 3) := by decide +kernel
theorem dX5_stepOverLetters_44 : decode cX5_stepOverLetters 44 = .ok (.return_, 1) := by decide +kernel
theorem dX5_stepOverDigits_0 : decode cX5_stepOverDigits 0 = .ok (.aload_n 0, 1) := by decide +kernel
theorem dX5_stepOverDigits_1 : decode cX5_stepOverDigits 1 = .ok (.getfield 29, 3) := by decide +kernel
theorem dX5_stepOverDigits_4 : decode cX5_stepOverDigits 4 = .ok (.aload_n 0, 1) := by decide +kernel
theorem dX5_stepOverDigits_5 : decode cX5_stepOverDigits 5 = .ok (.getfield 9, 3) := by decide +kernel
theorem dX5_stepOverDigits_8 : decode cX5_stepOverDigits 8 = .ok (.getfield 134, 3) := by decide +kernel
theorem dX5_stepOverDigits_11 : decode cX5_stepOverDigits 11 = .ok (.if_icmp .ge 65, 3) := by decide +kernel
theorem dX5_stepOverDigits_14 : decode cX5_stepOverDigits 14 = .ok (.aload_n 0, 1) := by decide +kernel
theorem dX5_stepOverDigits_15 : decode cX5_stepOverDigits 15 = .ok (.getfield 9, 3) := by decide +kernel
theorem dX5_stepOverDigits_18 : decode cX5_stepOverDigits 18 = .ok (.aload_n 0, 1) := by decide +kernel
theorem dX5_stepOverDigits_19 : decode cX5_stepOverDigits 19 = .ok (.getfield 29, 3) := by decide +kernel
theorem dX5_stepOverDigits_22 : decode cX5_stepOverDigits 22 = .ok (.invokevirtual 124, 3) := by decide +kernel
theorem dX5_stepOverDigits_25 : decode cX5_stepOverDigits 25 = .ok (.invokestatic 142, 3) := by decide +kernel
theorem dX5_stepOverDigits_28 : decode cX5_stepOverDigits 28 = .ok (.ifCond .eq 48, 3) := by decide +kernel
theorem dX5_stepOverDigits_31 : decode cX5_stepOverDigits 31 = .ok (.aload_n 0, 1) := by decide +kernel
theorem dX5_stepOverDigits_32 : decode cX5_stepOverDigits 32 = .ok (.bipush 10, 2) := by decide +kernel
theorem dX5_stepOverDigits_34 : decode cX5_stepOverDigits 34 = .ok (.aload_n 0, 1) := by decide +kernel
theorem dX5_stepOverDigits_35 : decode cX5_stepOverDigits 35 = .ok (.getfield 80, 3) := by decide +kernel
theorem dX5_stepOverDigits_38 : decode cX5_stepOverDigits 38 = .ok (.imul, 1) := by decide +kernel
theorem dX5_stepOverDigits_39 : decode cX5_stepOverDigits 39 = .ok (.aload_n 0, 1) := by decide +kernel
theorem dX5_stepOverDigits_40 : decode cX5_stepOverDigits 40 = .ok (.getfield 9, 3) := by decide +kernel
theorem dX5_stepOverDigits_43 : decode cX5_stepOverDigits 43 = .ok (.aload_n 0, 1) := by decide +kernel
theorem dX5_stepOverDigits_44 : decode cX5_stepOverDigits 44 = .ok (.getfield 29, 3) := by decide +kernel
theorem dX5_stepOverDigits_47 : decode cX5_stepOverDigits 47 = .ok (.invokevirtual 124, 3) := by decide +kernel
theorem dX5_stepOverDigits_50 : decode cX5_stepOverDigits 50 = .ok (.iadd, 1) := by decide +kernel
theorem dX5_stepOverDigits_51 : decode cX5_stepOverDigits 51 = .ok (.bipush 48, 2) := by decide +kernel
theorem dX5_stepOverDigits_53 : decode cX5_stepOverDigits 53 = .ok (.isub, 1) := by decide +kernel
theorem dX5_stepOverDigits_54 : decode cX5_stepOverDigits 54 = .ok (.sipush 10000, 3) := by decide +kernel
theorem dX5_stepOverDigits_57 : decode cX5_stepOverDigits 57 = .ok (.invokestatic 148, 3) := by decide +kernel
theorem dX5_stepOverDigits_60 : decode cX5_stepOverDigits 60 = .ok (.putfield 80, 3) := by decide +kernel
theorem dX5_stepOverDigits_63 : decode cX5_stepOverDigits 63 = .ok (.aload_n 0, 1) := by decide +kernel
theorem dX5_stepOverDigits_64 : decode cX5_stepOverDigits 64 = .ok (.dup, 1) := by decide +kernel
theorem dX5_stepOverDigits_65 : decode cX5_stepOverDigits 65 = .ok (.getfield 29, 3) := by decide +kernel
theorem dX5_stepOverDigits_68 : decode cX5_stepOverDigits 68 = .ok (.iconst 1, 1) := by decide +kernel
theorem dX5_stepOverDigits_69 : decode cX5_stepOverDigits 69 = .ok (.iadd, 1) := by decide +kernel
theorem dX5_stepOverDigits_70 : decode cX5_stepOverDigits 70 = .ok (.putfield 29, 3) := by decide +kernel
theorem dX5_stepOverDigits_73 : decode cX5_stepOverDigits 73 = .ok (.goto (-73), 3) := by decide +kernel
theorem dX5_stepOverDigits_76 : decode cX5_stepOverDigits 76 = .ok (.return_, 1) := by decide +kernel
theorem dX5_isLetter_0 : decode cX5_isLetter 0 = .ok (.iload_n 0, 1) := by decide +kernel
theorem dX5_isLetter_1 : decode cX5_isLetter 1 = .ok (.bipush 97, 2) := by decide +kernel
theorem dX5_isLetter_3 : decode cX5_isLetter 3 = .ok (.if_icmp .lt 13, 3) := by decide +kernel
theorem dX5_isLetter_6 : decode cX5_isLetter 6 = .ok (.iload_n 0, 1) := by decide +kernel
theorem dX5_isLetter_7 : decode cX5_isLetter 7 = .ok (.bipush 122, 2) := by decide +kernel
theorem dX5_isLetter_9 : decode cX5_isLetter 9 = .ok (.if_icmp .gt 7, 3) := by decide +kernel
theorem dX5_isLetter_12 : decode cX5_isLetter 12 = .ok (.iconst 1, 1) := by decide +kernel
theorem dX5_isLetter_13 : decode cX5_isLetter 13 = .ok (.goto 4, 3) := by decide +kernel
theorem dX5_isLetter_16 : decode cX5_isLetter 16 = .ok (.iconst 0, 1) := by decide +kernel
theorem dX5_isLetter_17 : decode cX5_isLetter 17 = .ok (.ireturn, 1) := by decide +kernel
theorem dX5_isDigit_0 : decode cX5_isDigit 0 = .ok (.iload_n 0, 1) := by decide +kernel
theorem dX5_isDigit_1 : decode cX5_isDigit 1 = .ok (.bipush 48, 2) := by decide +kernel
theorem dX5_isDigit_3 : decode cX5_isDigit 3 = .ok (.if_icmp .lt 13, 3) := by decide +kernel
theorem dX5_isDigit_6 : decode cX5_isDigit 6 = .ok (.iload_n 0, 1) := by decide +kernel
theorem dX5_isDigit_7 : decode cX5_isDigit 7 = .ok (.bipush 57, 2) := by decide +kernel
theorem dX5_isDigit_9 : decode cX5_isDigit 9 = .ok (.if_icmp .gt 7, 3) := by decide +kernel
theorem dX5_isDigit_12 : decode cX5_isDigit 12 = .ok (.iconst 1, 1) := by decide +kernel
theorem dX5_isDigit_13 : decode cX5_isDigit 13 = .ok (.goto 4, 3) := by decide +kernel
theorem dX5_isDigit_16 : decode cX5_isDigit 16 = .ok (.iconst 0, 1) := by decide +kernel
theorem dX5_isDigit_17 : decode cX5_isDigit 17 = .ok (.ireturn, 1) := by decide +kernel
theorem dX6_init_0 : decode cX6_init 0 = .ok (.aload_n 0, 1) := by decide +kernel
theorem dX6_init_1 : decode cX6_init 1 = .ok (.invokespecial 1, 3) := by decide +kernel
theorem dX6_init_4 : decode cX6_init 4 = .ok (.aload_n 0, 1) := by decide +kernel
theorem dX6_init_5 : decode cX6_init 5 = .ok (.new 7, 3) := by decide +kernel
theorem dX6_init_8 : decode cX6_init 8 = .ok (.dup, 1) := by decide +kernel
theorem dX6_init_9 : decode cX6_init 9 = .ok (.invokespecial 9, 3) := by decide +kernel
theorem dX6_init_12 : decode cX6_init 12 = .ok (.putfield 10, 3) := by decide +kernel
theorem dX6_init_15 : decode cX6_init 15 = .ok (.aload_n 0, 1) := by decide +kernel
theorem dX6_init_16 : decode cX6_init 16 = .ok (.new 7, 3) := by decide +kernel
theorem dX6_init_19 : decode cX6_init 19 = .ok (.dup, 1) := by decide +kernel
theorem dX6_init_20 : decode cX6_init 20 = .ok (.invokespecial 9, 3) := by decide +kernel
theorem dX6_init_23 : decode cX6_init 23 = .ok (.putfield 16, 3) := by decide +kernel
theorem dX6_init_26 : decode cX6_init 26 = .ok (.aload_n 0, 1) := by decide +kernel
theorem dX6_init_27 : decode cX6_init 27 = .ok (.new 19, 3) := by decide +kernel
theorem dX6_init_30 : decode cX6_init 30 = .ok (.dup, 1) := by decide +kernel
theorem dX6_init_31 : decode cX6_init 31 = .ok (.aload_n 0, 1) := by decide +kernel
theorem dX6_init_32 : decode cX6_init 32 = .ok (.getfield 10, 3) := by decide +kernel
theorem dX6_init_35 : decode cX6_init 35 = .ok (.invokespecial 21, 3) := by decide +kernel
theorem dX6_init_38 : decode cX6_init 38 = .ok (.putfield 24, 3) := by decide +kernel
theorem dX6_init_41 : decode cX6_init 41 = .ok (.aload_n 0, 1) := by decide +kernel
theorem dX6_init_42 : decode cX6_init 42 = .ok (.new 28, 3) := by decide +kernel
theorem dX6_init_45 : decode cX6_init 45 = .ok (.dup, 1) := by decide +kernel
theorem dX6_init_46 : decode cX6_init 46 = .ok (.invokespecial 30, 3) := by decide +kernel
theorem dX6_init_49 : decode cX6_init 49 = .ok (.putfield 31, 3) := by decide +kernel
theorem dX6_init_52 : decode cX6_init 52 = .ok (.aload_n 0, 1) := by decide +kernel
theorem dX6_init_53 : decode cX6_init 53 = .ok (.new 35, 3) := by decide +kernel
theorem dX6_init_56 : decode cX6_init 56 = .ok (.dup, 1) := by decide +kernel
theorem dX6_init_57 : decode cX6_init 57 = .ok (.aload_n 0, 1) := by decide +kernel
theorem dX6_init_58 : decode cX6_init 58 = .ok (.getfield 31, 3) := by decide +kernel
theorem dX6_init_61 : decode cX6_init 61 = .ok (.aload_n 0, 1) := by decide +kernel
theorem dX6_init_62 : decode cX6_init 62 = .ok (.getfield 10, 3) := by decide +kernel
theorem dX6_init_65 : decode cX6_init 65 = .ok (.invokespecial 37, 3) := by decide +kernel
theorem dX6_init_68 : decode cX6_init 68 = .ok (.putfield 40, 3) := by decide +kernel
theorem dX6_init_71 : decode cX6_init 71 = .ok (.aload_n 0, 1) := by decide +kernel
theorem dX6_init_72 : decode cX6_init 72 = .ok (.iconst 4, 1) := by decide +kernel
theorem dX6_init_73 : decode cX6_init 73 = .ok (.anewarray 44, 3) := by decide +kernel
theorem dX6_init_76 : decode cX6_init 76 = .ok (.putfield 46, 3) := by decide +kernel
theorem dX6_init_79 : decode cX6_init 79 = .ok (.iconst 0, 1) := by decide +kernel
theorem dX6_init_80 : decode cX6_init 80 = .ok (.istore_n 1, 1) := by decide +kernel
theorem dX6_init_81 : decode cX6_init 81 = .ok (.iload_n 1, 1) := by decide +kernel
theorem dX6_init_82 : decode cX6_init 82 = .ok (.iconst 4, 1) := by decide +kernel
theorem dX6_init_83 : decode cX6_init 83 = .ok (.if_icmp .ge 22, 3) := by decide +kernel
theorem dX6_init_86 : decode cX6_init 86 = .ok (.aload_n 0, 1) := by decide +kernel
theorem dX6_init_87 : decode cX6_init 87 = .ok (.getfield 46, 3) := by decide +kernel
theorem dX6_init_90 : decode cX6_init 90 = .ok (.iload_n 1, 1) := by decide +kernel
theorem dX6_init_91 : decode cX6_init 91 = .ok (.new 44, 3) := by decide +kernel
theorem dX6_init_94 : decode cX6_init 94 = .ok (.dup, 1) := by decide +kernel
theorem dX6_init_95 : decode cX6_init 95 = .ok (.invokespecial 50, 3) := by decide +kernel
theorem dX6_init_98 : decode cX6_init 98 = .ok (.aastore, 1) := by decide +kernel
theorem dX6_init_99 : decode cX6_init 99 = .ok (.iinc 1 1, 3) := by decide +kernel
theorem dX6_init_102 : decode cX6_init 102 = .ok (.goto (-21), 3) := by decide +kernel
theorem dX6_init_105 : decode cX6_init 105 = .ok (.aload_n 0, 1) := by decide +kernel
theorem dX6_init_106 : decode cX6_init 106 = .ok (.bipush 7, 2) := by decide +kernel
theorem dX6_init_108 : decode cX6_init 108 = .ok (.newarray .int, 2) := by decide +kernel
theorem dX6_init_110 : decode cX6_init 110 = .ok (.putfield 51, 3) := by decide +kernel
theorem dX6_init_113 : decode cX6_init 113 = .ok (.aload_n 0, 1) := by decide +kernel
theorem dX6_init_114 : decode cX6_init 114 = .ok (.iconst 0, 1) := by decide +kernel
theorem dX6_init_115 : decode cX6_init 115 = .ok (.putfield 55, 3) := by decide +kernel
theorem dX6_init_118 : decode cX6_init 118 = .ok (.return_, 1) := by decide +kernel
theorem dX6_print_0 : decode cX6_print 0 = .ok (.iload_n 1, 1) := by decide +kernel
theorem dX6_print_1 : decode cX6_print 1 = .ok (.invokestatic 59, 3) := by decide +kernel
theorem dX6_print_4 : decode cX6_print 4 = .ok (.ifCond .ne 10, 3) := by decide +kernel
theorem dX6_print_7 : decode cX6_print 7 = .ok (.aload_n 0, 1) := by decide +kernel
theorem dX6_print_8 : decode cX6_print 8 = .ok (.ldc 63, 2) := by decide +kernel
theorem dX6_print_10 : decode cX6_print 10 = .ok (.invokevirtual 64, 3) := by decide +kernel
theorem dX6_print_13 : decode cX6_print 13 = .ok (.ireturn, 1) := by decide +kernel
theorem dX6_print_14 : decode cX6_print 14 = .ok (.aload_n 0, 1) := by decide +kernel
theorem dX6_print_15 : decode cX6_print 15 = .ok (.getfield 10, 3) := by decide +kernel
theorem dX6_print_18 : decode cX6_print 18 = .ok (.invokevirtual 68, 3) := by decide +kernel
theorem dX6_print_21 : decode cX6_print 21 = .ok (.ifCond .eq 10, 3) := by decide +kernel
theorem dX6_print_24 : decode cX6_print 24 = .ok (.aload_n 0, 1) := by decide +kernel
theorem dX6_print_25 : decode cX6_print 25 = .ok (.ldc 72, 2) := by decide +kernel
theorem dX6_print_27 : decode cX6_print 27 = .ok (.invokevirtual 64, 3) := by decide +kernel
theorem dX6_print_30 : decode cX6_print 30 = .ok (.ireturn, 1) := by decide +kernel
theorem dX6_print_31 : decode cX6_print 31 = .ok (.aload_n 0, 1) := by decide +kernel
theorem dX6_print_32 : decode cX6_print 32 = .ok (.getfield 10, 3) := by decide +kernel
theorem dX6_print_35 : decode cX6_print 35 = .ok (.iload_n 1, 1) := by decide +kernel
theorem dX6_print_36 : decode cX6_print 36 = .ok (.lload_n 2, 1) := by decide +kernel
theorem dX6_print_37 : decode cX6_print 37 = .ok (.invokevirtual 73, 3) := by decide +kernel
theorem dX6_print_40 : decode cX6_print 40 = .ok (.ireturn, 1) := by decide +kernel
theorem dX6_of_0 : decode cX6_of 0 = .ok (.aload_n 0, 1) := by decide +kernel
theorem dX6_of_1 : decode cX6_of 1 = .ok (.getfield 10, 3) := by decide +kernel
theorem dX6_of_4 : decode cX6_of 4 = .ok (.iload_n 1, 1) := by decide +kernel
theorem dX6_of_5 : decode cX6_of 5 = .ok (.invokevirtual 77, 3) := by decide +kernel
theorem dX6_of_8 : decode cX6_of 8 = .ok (.ifCond .ne 10, 3) := by decide +kernel
theorem dX6_of_11 : decode cX6_of 11 = .ok (.aload_n 0, 1) := by decide +kernel
theorem dX6_of_12 : decode cX6_of 12 = .ok (.ldc 63, 2) := by decide +kernel
theorem dX6_of_14 : decode cX6_of 14 = .ok (.invokevirtual 64, 3) := by decide +kernel
theorem dX6_of_17 : decode cX6_of 17 = .ok (.ireturn, 1) := by decide +kernel
theorem dX6_of_18 : decode cX6_of 18 = .ok (.aload_n 0, 1) := by decide +kernel
theorem dX6_of_19 : decode cX6_of 19 = .ok (.getfield 10, 3) := by decide +kernel
theorem dX6_of_22 : decode cX6_of 22 = .ok (.getfield 80, 3) := by decide +kernel
theorem dX6_of_25 : decode cX6_of 25 = .ok (.iload_n 1, 1) := by decide +kernel
theorem dX6_of_26 : decode cX6_of 26 = .ok (.aaload, 1) := by decide +kernel
theorem dX6_of_27 : decode cX6_of 27 = .ok (.astore_n 3, 1) := by decide +kernel
theorem dX6_of_28 : decode cX6_of 28 = .ok (.iload_n 2, 1) := by decide +kernel
theorem dX6_of_29 : decode cX6_of 29 = .ok (.tableswitch 80 0 5 #[39, 44, 49, 54, 67, 72], 39) := by decide +kernel
theorem dX6_of_68 : decode cX6_of 68 = .ok (.aload_n 3, 1) := by decide +kernel
theorem dX6_of_69 : decode cX6_of 69 = .ok (.getfield 84, 3) := by decide +kernel
theorem dX6_of_72 : decode cX6_of 72 = .ok (.ireturn, 1) := by decide +kernel
theorem dX6_of_73 : decode cX6_of 73 = .ok (.aload_n 3, 1) := by decide +kernel
theorem dX6_of_74 : decode cX6_of 74 = .ok (.getfield 90, 3) := by decide +kernel
theorem dX6_of_77 : decode cX6_of 77 = .ok (.ireturn, 1) := by decide +kernel
theorem dX6_of_78 : decode cX6_of 78 = .ok (.aload_n 3, 1) := by decide +kernel
theorem dX6_of_79 : decode cX6_of 79 = .ok (.getfield 93, 3) := by decide +kernel
theorem dX6_of_82 : decode cX6_of 82 = .ok (.ireturn, 1) := by decide +kernel
theorem dX6_of_83 : decode cX6_of 83 = .ok (.aload_n 3, 1) := by decide +kernel
theorem dX6_of_84 : decode cX6_of 84 = .ok (.getfield 96, 3) := by decide +kernel
theorem dX6_of_87 : decode cX6_of 87 = .ok (.ifCond .eq 7, 3) := by decide +kernel
theorem dX6_of_90 : decode cX6_of 90 = .ok (.iconst 1, 1) := by decide +kernel
theorem dX6_of_91 : decode cX6_of 91 = .ok (.goto 4, 3) := by decide +kernel
theorem dX6_of_94 : decode cX6_of 94 = .ok (.iconst 0, 1) := by decide +kernel
theorem dX6_of_95 : decode cX6_of 95 = .ok (.ireturn, 1) := by decide +kernel
theorem dX6_of_96 : decode cX6_of 96 = .ok (.aload_n 3, 1) := by decide +kernel
theorem dX6_of_97 : decode cX6_of 97 = .ok (.invokevirtual 99, 3) := by decide +kernel
theorem dX6_of_100 : decode cX6_of 100 = .ok (.ireturn, 1) := by decide +kernel
theorem dX6_of_101 : decode cX6_of 101 = .ok (.aload_n 3, 1) := by decide +kernel
theorem dX6_of_102 : decode cX6_of 102 = .ok (.invokevirtual 103, 3) := by decide +kernel
theorem dX6_of_105 : decode cX6_of 105 = .ok (.invokestatic 107, 3) := by decide +kernel
theorem dX6_of_108 : decode cX6_of 108 = .ok (.ireturn, 1) := by decide +kernel
theorem dX6_of_109 : decode cX6_of 109 = .ok (.aload_n 0, 1) := by decide +kernel
theorem dX6_of_110 : decode cX6_of 110 = .ok (.ldc 63, 2) := by decide +kernel
theorem dX6_of_112 : decode cX6_of 112 = .ok (.invokevirtual 64, 3) := by decide +kernel
theorem dX6_of_115 : decode cX6_of 115 = .ok (.ireturn, 1) := by decide +kernel
theorem dX6_marks_0 : decode cX6_marks 0 = .ok (.aload_n 0, 1) := by decide +kernel
theorem dX6_marks_1 : decode cX6_marks 1 = .ok (.getfield 10, 3) := by decide +kernel
theorem dX6_marks_4 : decode cX6_marks 4 = .ok (.iload_n 1, 1) := by decide +kernel
theorem dX6_marks_5 : decode cX6_marks 5 = .ok (.invokevirtual 77, 3) := by decide +kernel
theorem dX6_marks_8 : decode cX6_marks 8 = .ok (.ifCond .ne 11, 3) := by decide +kernel
theorem dX6_marks_11 : decode cX6_marks 11 = .ok (.aload_n 0, 1) := by decide +kernel
theorem dX6_marks_12 : decode cX6_marks 12 = .ok (.ldc 63, 2) := by decide +kernel
theorem dX6_marks_14 : decode cX6_marks 14 = .ok (.invokevirtual 64, 3) := by decide +kernel
theorem dX6_marks_17 : decode cX6_marks 17 = .ok (.i2l, 1) := by decide +kernel
theorem dX6_marks_18 : decode cX6_marks 18 = .ok (.lreturn, 1) := by decide +kernel
theorem dX6_marks_19 : decode cX6_marks 19 = .ok (.aload_n 0, 1) := by decide +kernel
theorem dX6_marks_20 : decode cX6_marks 20 = .ok (.getfield 10, 3) := by decide +kernel
theorem dX6_marks_23 : decode cX6_marks 23 = .ok (.getfield 80, 3) := by decide +kernel
theorem dX6_marks_26 : decode cX6_marks 26 = .ok (.iload_n 1, 1) := by decide +kernel
theorem dX6_marks_27 : decode cX6_marks 27 = .ok (.aaload, 1) := by decide +kernel
theorem dX6_marks_28 : decode cX6_marks 28 = .ok (.astore_n 3, 1) := by decide +kernel
theorem dX6_marks_29 : decode cX6_marks 29 = .ok (.iload_n 2, 1) := by decide +kernel
theorem dX6_marks_30 : decode cX6_marks 30 = .ok (.tableswitch 41 0 2 #[26, 31, 36], 26) := by decide +kernel
theorem dX6_marks_56 : decode cX6_marks 56 = .ok (.aload_n 3, 1) := by decide +kernel
theorem dX6_marks_57 : decode cX6_marks 57 = .ok (.getfield 113, 3) := by decide +kernel
theorem dX6_marks_60 : decode cX6_marks 60 = .ok (.lreturn, 1) := by decide +kernel
theorem dX6_marks_61 : decode cX6_marks 61 = .ok (.aload_n 3, 1) := by decide +kernel
theorem dX6_marks_62 : decode cX6_marks 62 = .ok (.invokevirtual 103, 3) := by decide +kernel
theorem dX6_marks_65 : decode cX6_marks 65 = .ok (.lreturn, 1) := by decide +kernel
theorem dX6_marks_66 : decode cX6_marks 66 = .ok (.aload_n 3, 1) := by decide +kernel
theorem dX6_marks_67 : decode cX6_marks 67 = .ok (.invokevirtual 117, 3) := by decide +kernel
theorem dX6_marks_70 : decode cX6_marks 70 = .ok (.lreturn, 1) := by decide +kernel
theorem dX6_marks_71 : decode cX6_marks 71 = .ok (.aload_n 0, 1) := by decide +kernel
theorem dX6_marks_72 : decode cX6_marks 72 = .ok (.ldc 63, 2) := by decide +kernel
theorem dX6_marks_74 : decode cX6_marks 74 = .ok (.invokevirtual 64, 3) := by decide +kernel
theorem dX6_marks_77 : decode cX6_marks 77 = .ok (.i2l, 1) := by decide +kernel
theorem dX6_marks_78 : decode cX6_marks 78 = .ok (.lreturn, 1) := by decide +kernel
theorem dX6_set_0 : decode cX6_set 0 = .ok (.aload_n 0, 1) := by decide +kernel
theorem dX6_set_1 : decode cX6_set 1 = .ok (.getfield 10, 3) := by decide +kernel
theorem dX6_set_4 : decode cX6_set 4 = .ok (.iload_n 1, 1) := by decide +kernel
theorem dX6_set_5 : decode cX6_set 5 = .ok (.invokevirtual 77, 3) := by decide +kernel
theorem dX6_set_8 : decode cX6_set 8 = .ok (.ifCond .ne 10, 3) := by decide +kernel
theorem dX6_set_11 : decode cX6_set 11 = .ok (.aload_n 0, 1) := by decide +kernel
theorem dX6_set_12 : decode cX6_set 12 = .ok (.ldc 63, 2) := by decide +kernel
theorem dX6_set_14 : decode cX6_set 14 = .ok (.invokevirtual 64, 3) := by decide +kernel
theorem dX6_set_17 : decode cX6_set 17 = .ok (.ireturn, 1) := by decide +kernel
theorem dX6_set_18 : decode cX6_set 18 = .ok (.aload_n 0, 1) := by decide +kernel
theorem dX6_set_19 : decode cX6_set 19 = .ok (.getfield 10, 3) := by decide +kernel
theorem dX6_set_22 : decode cX6_set 22 = .ok (.getfield 80, 3) := by decide +kernel
theorem dX6_set_25 : decode cX6_set 25 = .ok (.iload_n 1, 1) := by decide +kernel
theorem dX6_set_26 : decode cX6_set 26 = .ok (.aaload, 1) := by decide +kernel
theorem dX6_set_27 : decode cX6_set 27 = .ok (.astore 4, 2) := by decide +kernel
theorem dX6_set_29 : decode cX6_set 29 = .ok (.iload_n 2, 1) := by decide +kernel
theorem dX6_set_30 : decode cX6_set 30 = .ok (.iconst 1, 1) := by decide +kernel
theorem dX6_set_31 : decode cX6_set 31 = .ok (.if_icmp .ne 26, 3) := by decide +kernel
theorem dX6_set_34 : decode cX6_set 34 = .ok (.iload_n 3, 1) := by decide +kernel
theorem dX6_set_35 : decode cX6_set 35 = .ok (.invokestatic 120, 3) := by decide +kernel
theorem dX6_set_38 : decode cX6_set 38 = .ok (.ifCond .eq 19, 3) := by decide +kernel
theorem dX6_set_41 : decode cX6_set 41 = .ok (.aload 4, 2) := by decide +kernel
theorem dX6_set_43 : decode cX6_set 43 = .ok (.getfield 90, 3) := by decide +kernel
theorem dX6_set_46 : decode cX6_set 46 = .ok (.istore 5, 2) := by decide +kernel
theorem dX6_set_48 : decode cX6_set 48 = .ok (.aload 4, 2) := by decide +kernel
theorem dX6_set_50 : decode cX6_set 50 = .ok (.iload_n 3, 1) := by decide +kernel
theorem dX6_set_51 : decode cX6_set 51 = .ok (.putfield 90, 3) := by decide +kernel
theorem dX6_set_54 : decode cX6_set 54 = .ok (.iload 5, 2) := by decide +kernel
theorem dX6_set_56 : decode cX6_set 56 = .ok (.ireturn, 1) := by decide +kernel
theorem dX6_set_57 : decode cX6_set 57 = .ok (.iload_n 2, 1) := by decide +kernel
theorem dX6_set_58 : decode cX6_set 58 = .ok (.iconst 2, 1) := by decide +kernel
theorem dX6_set_59 : decode cX6_set 59 = .ok (.if_icmp .ne 26, 3) := by decide +kernel
theorem dX6_set_62 : decode cX6_set 62 = .ok (.iload_n 3, 1) := by decide +kernel
theorem dX6_set_63 : decode cX6_set 63 = .ok (.invokestatic 123, 3) := by decide +kernel
theorem dX6_set_66 : decode cX6_set 66 = .ok (.ifCond .eq 19, 3) := by decide +kernel
theorem dX6_set_69 : decode cX6_set 69 = .ok (.aload 4, 2) := by decide +kernel
theorem dX6_set_71 : decode cX6_set 71 = .ok (.getfield 93, 3) := by decide +kernel
theorem dX6_set_74 : decode cX6_set 74 = .ok (.istore 5, 2) := by decide +kernel
theorem dX6_set_76 : decode cX6_set 76 = .ok (.aload 4, 2) := by decide +kernel
theorem dX6_set_78 : decode cX6_set 78 = .ok (.iload_n 3, 1) := by decide +kernel
theorem dX6_set_79 : decode cX6_set 79 = .ok (.putfield 93, 3) := by decide +kernel
theorem dX6_set_82 : decode cX6_set 82 = .ok (.iload 5, 2) := by decide +kernel
theorem dX6_set_84 : decode cX6_set 84 = .ok (.ireturn, 1) := by decide +kernel
theorem dX6_set_85 : decode cX6_set 85 = .ok (.aload_n 0, 1) := by decide +kernel
theorem dX6_set_86 : decode cX6_set 86 = .ok (.ldc 63, 2) := by decide +kernel
theorem dX6_set_88 : decode cX6_set 88 = .ok (.invokevirtual 64, 3) := by decide +kernel
theorem dX6_set_91 : decode cX6_set 91 = .ok (.ireturn, 1) := by decide +kernel
theorem dX6_scratch_0 : decode cX6_scratch 0 = .ok (.aload_n 0, 1) := by decide +kernel
theorem dX6_scratch_1 : decode cX6_scratch 1 = .ok (.getfield 10, 3) := by decide +kernel
theorem dX6_scratch_4 : decode cX6_scratch 4 = .ok (.iload_n 1, 1) := by decide +kernel
theorem dX6_scratch_5 : decode cX6_scratch 5 = .ok (.invokevirtual 77, 3) := by decide +kernel
theorem dX6_scratch_8 : decode cX6_scratch 8 = .ok (.ifCond .eq 10, 3) := by decide +kernel
theorem dX6_scratch_11 : decode cX6_scratch 11 = .ok (.iload_n 2, 1) := by decide +kernel
theorem dX6_scratch_12 : decode cX6_scratch 12 = .ok (.invokestatic 126, 3) := by decide +kernel
theorem dX6_scratch_15 : decode cX6_scratch 15 = .ok (.ifCond .ne 10, 3) := by decide +kernel
theorem dX6_scratch_18 : decode cX6_scratch 18 = .ok (.aload_n 0, 1) := by decide +kernel
theorem dX6_scratch_19 : decode cX6_scratch 19 = .ok (.ldc 63, 2) := by decide +kernel
theorem dX6_scratch_21 : decode cX6_scratch 21 = .ok (.invokevirtual 64, 3) := by decide +kernel
theorem dX6_scratch_24 : decode cX6_scratch 24 = .ok (.ireturn, 1) := by decide +kernel
theorem dX6_scratch_25 : decode cX6_scratch 25 = .ok (.aload_n 0, 1) := by decide +kernel
theorem dX6_scratch_26 : decode cX6_scratch 26 = .ok (.getfield 10, 3) := by decide +kernel
theorem dX6_scratch_29 : decode cX6_scratch 29 = .ok (.getfield 80, 3) := by decide +kernel
theorem dX6_scratch_32 : decode cX6_scratch 32 = .ok (.iload_n 1, 1) := by decide +kernel
theorem dX6_scratch_33 : decode cX6_scratch 33 = .ok (.aaload, 1) := by decide +kernel
theorem dX6_scratch_34 : decode cX6_scratch 34 = .ok (.astore 4, 2) := by decide +kernel
theorem dX6_scratch_36 : decode cX6_scratch 36 = .ok (.aload 4, 2) := by decide +kernel
theorem dX6_scratch_38 : decode cX6_scratch 38 = .ok (.getfield 113, 3) := by decide +kernel
theorem dX6_scratch_41 : decode cX6_scratch 41 = .ok (.lstore 5, 2) := by decide +kernel
theorem dX6_scratch_43 : decode cX6_scratch 43 = .ok (.lconst 1, 1) := by decide +kernel
theorem dX6_scratch_44 : decode cX6_scratch 44 = .ok (.iload_n 2, 1) := by decide +kernel
theorem dX6_scratch_45 : decode cX6_scratch 45 = .ok (.lshl, 1) := by decide +kernel
theorem dX6_scratch_46 : decode cX6_scratch 46 = .ok (.lstore 7, 2) := by decide +kernel
theorem dX6_scratch_48 : decode cX6_scratch 48 = .ok (.aload 4, 2) := by decide +kernel
theorem dX6_scratch_50 : decode cX6_scratch 50 = .ok (.iload_n 3, 1) := by decide +kernel
theorem dX6_scratch_51 : decode cX6_scratch 51 = .ok (.ifCond .eq 11, 3) := by decide +kernel
theorem dX6_scratch_54 : decode cX6_scratch 54 = .ok (.lload 5, 2) := by decide +kernel
theorem dX6_scratch_56 : decode cX6_scratch 56 = .ok (.lload 7, 2) := by decide +kernel
theorem dX6_scratch_58 : decode cX6_scratch 58 = .ok (.lor, 1) := by decide +kernel
theorem dX6_scratch_59 : decode cX6_scratch 59 = .ok (.goto 12, 3) := by decide +kernel
theorem dX6_scratch_62 : decode cX6_scratch 62 = .ok (.lload 5, 2) := by decide +kernel
theorem dX6_scratch_64 : decode cX6_scratch 64 = .ok (.lload 7, 2) := by decide +kernel
theorem dX6_scratch_66 : decode cX6_scratch 66 = .ok (.ldc2_w 129, 3) := by decide +kernel
theorem dX6_scratch_69 : decode cX6_scratch 69 = .ok (.lxor, 1) := by decide +kernel
theorem dX6_scratch_70 : decode cX6_scratch 70 = .ok (.land, 1) := by decide +kernel
theorem dX6_scratch_71 : decode cX6_scratch 71 = .ok (.putfield 113, 3) := by decide +kernel
theorem dX6_scratch_74 : decode cX6_scratch 74 = .ok (.aload 4, 2) := by decide +kernel
theorem dX6_scratch_76 : decode cX6_scratch 76 = .ok (.getfield 113, 3) := by decide +kernel
theorem dX6_scratch_79 : decode cX6_scratch 79 = .ok (.lload 5, 2) := by decide +kernel
theorem dX6_scratch_81 : decode cX6_scratch 81 = .ok (.lcmp, 1) := by decide +kernel
theorem dX6_scratch_82 : decode cX6_scratch 82 = .ok (.ifCond .eq 7, 3) := by decide +kernel
theorem dX6_scratch_85 : decode cX6_scratch 85 = .ok (.iconst 1, 1) := by decide +kernel
theorem dX6_scratch_86 : decode cX6_scratch 86 = .ok (.goto 4, 3) := by decide +kernel
theorem dX6_scratch_89 : decode cX6_scratch 89 = .ok (.iconst 0, 1) := by decide +kernel
theorem dX6_scratch_90 : decode cX6_scratch 90 = .ok (.ireturn, 1) := by decide +kernel
theorem dX6_look_0 : decode cX6_look 0 = .ok (.aload_n 0, 1) := by decide +kernel
theorem dX6_look_1 : decode cX6_look 1 = .ok (.getfield 10, 3) := by decide +kernel
theorem dX6_look_4 : decode cX6_look 4 = .ok (.iload_n 1, 1) := by decide +kernel
theorem dX6_look_5 : decode cX6_look 5 = .ok (.invokevirtual 77, 3) := by decide +kernel
theorem dX6_look_8 : decode cX6_look 8 = .ok (.ifCond .ne 10, 3) := by decide +kernel
theorem dX6_look_11 : decode cX6_look 11 = .ok (.aload_n 0, 1) := by decide +kernel
theorem dX6_look_12 : decode cX6_look 12 = .ok (.ldc 63, 2) := by decide +kernel
theorem dX6_look_14 : decode cX6_look 14 = .ok (.invokevirtual 64, 3) := by decide +kernel
theorem dX6_look_17 : decode cX6_look 17 = .ok (.ireturn, 1) := by decide +kernel
theorem dX6_look_18 : decode cX6_look 18 = .ok (.aload_n 0, 1) := by decide +kernel
theorem dX6_look_19 : decode cX6_look 19 = .ok (.getfield 10, 3) := by decide +kernel
theorem dX6_look_22 : decode cX6_look 22 = .ok (.getfield 80, 3) := by decide +kernel
theorem dX6_look_25 : decode cX6_look 25 = .ok (.iload_n 1, 1) := by decide +kernel
theorem dX6_look_26 : decode cX6_look 26 = .ok (.aaload, 1) := by decide +kernel
theorem dX6_look_27 : decode cX6_look 27 = .ok (.astore_n 2, 1) := by decide +kernel
theorem dX6_look_28 : decode cX6_look 28 = .ok (.aload_n 2, 1) := by decide +kernel
theorem dX6_look_29 : decode cX6_look 29 = .ok (.getfield 96, 3) := by decide +kernel
theorem dX6_look_32 : decode cX6_look 32 = .ok (.ifCond .eq 7, 3) := by decide +kernel
theorem dX6_look_35 : decode cX6_look 35 = .ok (.iconst 0, 1) := by decide +kernel
theorem dX6_look_36 : decode cX6_look 36 = .ok (.goto 4, 3) := by decide +kernel
theorem dX6_look_39 : decode cX6_look 39 = .ok (.iconst 1, 1) := by decide +kernel
theorem dX6_look_40 : decode cX6_look 40 = .ok (.istore_n 3, 1) := by decide +kernel
theorem dX6_look_41 : decode cX6_look 41 = .ok (.aload_n 2, 1) := by decide +kernel
theorem dX6_look_42 : decode cX6_look 42 = .ok (.iconst 1, 1) := by decide +kernel
theorem dX6_look_43 : decode cX6_look 43 = .ok (.putfield 96, 3) := by decide +kernel
theorem dX6_look_46 : decode cX6_look 46 = .ok (.iload_n 3, 1) := by decide +kernel
theorem dX6_look_47 : decode cX6_look 47 = .ok (.ireturn, 1) := by decide +kernel
theorem dX6_turn_0 : decode cX6_turn 0 = .ok (.aload_n 0, 1) := by decide +kernel
theorem dX6_turn_1 : decode cX6_turn 1 = .ok (.getfield 10, 3) := by decide +kernel
theorem dX6_turn_4 : decode cX6_turn 4 = .ok (.iload_n 1, 1) := by decide +kernel
theorem dX6_turn_5 : decode cX6_turn 5 = .ok (.invokevirtual 77, 3) := by decide +kernel
theorem dX6_turn_8 : decode cX6_turn 8 = .ok (.ifCond .eq 10, 3) := by decide +kernel
theorem dX6_turn_11 : decode cX6_turn 11 = .ok (.iload_n 2, 1) := by decide +kernel
theorem dX6_turn_12 : decode cX6_turn 12 = .ok (.invokestatic 59, 3) := by decide +kernel
theorem dX6_turn_15 : decode cX6_turn 15 = .ok (.ifCond .ne 10, 3) := by decide +kernel
theorem dX6_turn_18 : decode cX6_turn 18 = .ok (.aload_n 0, 1) := by decide +kernel
theorem dX6_turn_19 : decode cX6_turn 19 = .ok (.ldc 63, 2) := by decide +kernel
theorem dX6_turn_21 : decode cX6_turn 21 = .ok (.invokevirtual 64, 3) := by decide +kernel
theorem dX6_turn_24 : decode cX6_turn 24 = .ok (.ireturn, 1) := by decide +kernel
theorem dX6_turn_25 : decode cX6_turn 25 = .ok (.aload_n 0, 1) := by decide +kernel
theorem dX6_turn_26 : decode cX6_turn 26 = .ok (.getfield 10, 3) := by decide +kernel
theorem dX6_turn_29 : decode cX6_turn 29 = .ok (.getfield 80, 3) := by decide +kernel
theorem dX6_turn_32 : decode cX6_turn 32 = .ok (.iload_n 1, 1) := by decide +kernel
theorem dX6_turn_33 : decode cX6_turn 33 = .ok (.aaload, 1) := by decide +kernel
theorem dX6_turn_34 : decode cX6_turn 34 = .ok (.astore_n 3, 1) := by decide +kernel
theorem dX6_turn_35 : decode cX6_turn 35 = .ok (.aload_n 3, 1) := by decide +kernel
theorem dX6_turn_36 : decode cX6_turn 36 = .ok (.getfield 84, 3) := by decide +kernel
theorem dX6_turn_39 : decode cX6_turn 39 = .ok (.istore 4, 2) := by decide +kernel
theorem dX6_turn_41 : decode cX6_turn 41 = .ok (.aload_n 3, 1) := by decide +kernel
theorem dX6_turn_42 : decode cX6_turn 42 = .ok (.iload_n 2, 1) := by decide +kernel
theorem dX6_turn_43 : decode cX6_turn 43 = .ok (.putfield 84, 3) := by decide +kernel
theorem dX6_turn_46 : decode cX6_turn 46 = .ok (.iload 4, 2) := by decide +kernel
theorem dX6_turn_48 : decode cX6_turn 48 = .ok (.ireturn, 1) := by decide +kernel
theorem dX6_as_0 : decode cX6_as 0 = .ok (.aload_n 0, 1) := by decide +kernel
theorem dX6_as_1 : decode cX6_as 1 = .ok (.getfield 10, 3) := by decide +kernel
theorem dX6_as_4 : decode cX6_as 4 = .ok (.iload_n 1, 1) := by decide +kernel
theorem dX6_as_5 : decode cX6_as 5 = .ok (.invokevirtual 77, 3) := by decide +kernel
theorem dX6_as_8 : decode cX6_as 8 = .ok (.ifCond .eq 10, 3) := by decide +kernel
theorem dX6_as_11 : decode cX6_as 11 = .ok (.iload_n 2, 1) := by decide +kernel
theorem dX6_as_12 : decode cX6_as 12 = .ok (.invokestatic 59, 3) := by decide +kernel
theorem dX6_as_15 : decode cX6_as 15 = .ok (.ifCond .ne 10, 3) := by decide +kernel
theorem dX6_as_18 : decode cX6_as 18 = .ok (.aload_n 0, 1) := by decide +kernel
theorem dX6_as_19 : decode cX6_as 19 = .ok (.ldc 63, 2) := by decide +kernel
theorem dX6_as_21 : decode cX6_as 21 = .ok (.invokevirtual 64, 3) := by decide +kernel
theorem dX6_as_24 : decode cX6_as 24 = .ok (.ireturn, 1) := by decide +kernel
theorem dX6_as_25 : decode cX6_as 25 = .ok (.aload_n 0, 1) := by decide +kernel
theorem dX6_as_26 : decode cX6_as 26 = .ok (.getfield 10, 3) := by decide +kernel
theorem dX6_as_29 : decode cX6_as 29 = .ok (.getfield 80, 3) := by decide +kernel
theorem dX6_as_32 : decode cX6_as 32 = .ok (.iload_n 1, 1) := by decide +kernel
theorem dX6_as_33 : decode cX6_as 33 = .ok (.aaload, 1) := by decide +kernel
theorem dX6_as_34 : decode cX6_as 34 = .ok (.astore_n 3, 1) := by decide +kernel
theorem dX6_as_35 : decode cX6_as 35 = .ok (.aload_n 3, 1) := by decide +kernel
theorem dX6_as_36 : decode cX6_as 36 = .ok (.getfield 84, 3) := by decide +kernel
theorem dX6_as_39 : decode cX6_as 39 = .ok (.iload_n 2, 1) := by decide +kernel
theorem dX6_as_40 : decode cX6_as 40 = .ok (.invokestatic 131, 3) := by decide +kernel
theorem dX6_as_43 : decode cX6_as 43 = .ok (.ifCond .eq 10, 3) := by decide +kernel
theorem dX6_as_46 : decode cX6_as 46 = .ok (.aload_n 3, 1) := by decide +kernel
theorem dX6_as_47 : decode cX6_as 47 = .ok (.getfield 93, 3) := by decide +kernel
theorem dX6_as_50 : decode cX6_as 50 = .ok (.goto 9, 3) := by decide +kernel
theorem dX6_as_53 : decode cX6_as 53 = .ok (.aload_n 0, 1) := by decide +kernel
theorem dX6_as_54 : decode cX6_as 54 = .ok (.ldc 135, 2) := by decide +kernel
theorem dX6_as_56 : decode cX6_as 56 = .ok (.invokevirtual 64, 3) := by decide +kernel
theorem dX6_as_59 : decode cX6_as 59 = .ok (.ireturn, 1) := by decide +kernel
theorem dX6_slack_0 : decode cX6_slack 0 = .ok (.iload_n 1, 1) := by decide +kernel
theorem dX6_slack_1 : decode cX6_slack 1 = .ok (.invokestatic 136, 3) := by decide +kernel
theorem dX6_slack_4 : decode cX6_slack 4 = .ok (.ifCond .ne 10, 3) := by decide +kernel
theorem dX6_slack_7 : decode cX6_slack 7 = .ok (.aload_n 0, 1) := by decide +kernel
theorem dX6_slack_8 : decode cX6_slack 8 = .ok (.ldc 63, 2) := by decide +kernel
theorem dX6_slack_10 : decode cX6_slack 10 = .ok (.invokevirtual 64, 3) := by decide +kernel
theorem dX6_slack_13 : decode cX6_slack 13 = .ok (.ireturn, 1) := by decide +kernel
theorem dX6_slack_14 : decode cX6_slack 14 = .ok (.aload_n 0, 1) := by decide +kernel
theorem dX6_slack_15 : decode cX6_slack 15 = .ok (.getfield 10, 3) := by decide +kernel
theorem dX6_slack_18 : decode cX6_slack 18 = .ok (.getfield 139, 3) := by decide +kernel
theorem dX6_slack_21 : decode cX6_slack 21 = .ok (.istore_n 2, 1) := by decide +kernel
theorem dX6_slack_22 : decode cX6_slack 22 = .ok (.aload_n 0, 1) := by decide +kernel
theorem dX6_slack_23 : decode cX6_slack 23 = .ok (.getfield 10, 3) := by decide +kernel
theorem dX6_slack_26 : decode cX6_slack 26 = .ok (.iload_n 1, 1) := by decide +kernel
theorem dX6_slack_27 : decode cX6_slack 27 = .ok (.putfield 139, 3) := by decide +kernel
theorem dX6_slack_30 : decode cX6_slack 30 = .ok (.iload_n 2, 1) := by decide +kernel
theorem dX6_slack_31 : decode cX6_slack 31 = .ok (.ireturn, 1) := by decide +kernel
theorem dX6_ahead_0 : decode cX6_ahead 0 = .ok (.aload_n 0, 1) := by decide +kernel
theorem dX6_ahead_1 : decode cX6_ahead 1 = .ok (.iload_n 1, 1) := by decide +kernel
theorem dX6_ahead_2 : decode cX6_ahead 2 = .ok (.iload_n 2, 1) := by decide +kernel
theorem dX6_ahead_3 : decode cX6_ahead 3 = .ok (.invokevirtual 142, 3) := by decide +kernel
theorem dX6_ahead_6 : decode cX6_ahead 6 = .ok (.ifCond .ne 10, 3) := by decide +kernel
theorem dX6_ahead_9 : decode cX6_ahead 9 = .ok (.aload_n 0, 1) := by decide +kernel
theorem dX6_ahead_10 : decode cX6_ahead 10 = .ok (.ldc 63, 2) := by decide +kernel
theorem dX6_ahead_12 : decode cX6_ahead 12 = .ok (.invokevirtual 64, 3) := by decide +kernel
theorem dX6_ahead_15 : decode cX6_ahead 15 = .ok (.ireturn, 1) := by decide +kernel
theorem dX6_ahead_16 : decode cX6_ahead 16 = .ok (.aload_n 0, 1) := by decide +kernel
theorem dX6_ahead_17 : decode cX6_ahead 17 = .ok (.getfield 10, 3) := by decide +kernel
theorem dX6_ahead_20 : decode cX6_ahead 20 = .ok (.iload_n 1, 1) := by decide +kernel
theorem dX6_ahead_21 : decode cX6_ahead 21 = .ok (.iload_n 2, 1) := by decide +kernel
theorem dX6_ahead_22 : decode cX6_ahead 22 = .ok (.invokevirtual 145, 3) := by decide +kernel
theorem dX6_ahead_25 : decode cX6_ahead 25 = .ok (.ifCond .eq 7, 3) := by decide +kernel
theorem dX6_ahead_28 : decode cX6_ahead 28 = .ok (.iconst 1, 1) := by decide +kernel
theorem dX6_ahead_29 : decode cX6_ahead 29 = .ok (.goto 4, 3) := by decide +kernel
theorem dX6_ahead_32 : decode cX6_ahead 32 = .ok (.iconst 0, 1) := by decide +kernel
theorem dX6_ahead_33 : decode cX6_ahead 33 = .ok (.ireturn, 1) := by decide +kernel
theorem dX6_order_0 : decode cX6_order 0 = .ok (.aload_n 0, 1) := by decide +kernel
theorem dX6_order_1 : decode cX6_order 1 = .ok (.iload_n 1, 1) := by decide +kernel
theorem dX6_order_2 : decode cX6_order 2 = .ok (.iload_n 2, 1) := by decide +kernel
theorem dX6_order_3 : decode cX6_order 3 = .ok (.invokevirtual 142, 3) := by decide +kernel
theorem dX6_order_6 : decode cX6_order 6 = .ok (.ifCond .ne 10, 3) := by decide +kernel
theorem dX6_order_9 : decode cX6_order 9 = .ok (.aload_n 0, 1) := by decide +kernel
theorem dX6_order_10 : decode cX6_order 10 = .ok (.ldc 63, 2) := by decide +kernel
theorem dX6_order_12 : decode cX6_order 12 = .ok (.invokevirtual 64, 3) := by decide +kernel
theorem dX6_order_15 : decode cX6_order 15 = .ok (.ireturn, 1) := by decide +kernel
theorem dX6_order_16 : decode cX6_order 16 = .ok (.aload_n 0, 1) := by decide +kernel
theorem dX6_order_17 : decode cX6_order 17 = .ok (.getfield 10, 3) := by decide +kernel
theorem dX6_order_20 : decode cX6_order 20 = .ok (.iload_n 1, 1) := by decide +kernel
theorem dX6_order_21 : decode cX6_order 21 = .ok (.iload_n 2, 1) := by decide +kernel
theorem dX6_order_22 : decode cX6_order 22 = .ok (.invokevirtual 145, 3) := by decide +kernel
theorem dX6_order_25 : decode cX6_order 25 = .ok (.ifCond .eq 7, 3) := by decide +kernel
theorem dX6_order_28 : decode cX6_order 28 = .ok (.iconst 1, 1) := by decide +kernel
theorem dX6_order_29 : decode cX6_order 29 = .ok (.goto 4, 3) := by decide +kernel
theorem dX6_order_32 : decode cX6_order 32 = .ok (.iconst 0, 1) := by decide +kernel
theorem dX6_order_33 : decode cX6_order 33 = .ok (.istore_n 3, 1) := by decide +kernel
theorem dX6_order_34 : decode cX6_order 34 = .ok (.aload_n 0, 1) := by decide +kernel
theorem dX6_order_35 : decode cX6_order 35 = .ok (.getfield 10, 3) := by decide +kernel
theorem dX6_order_38 : decode cX6_order 38 = .ok (.iload_n 2, 1) := by decide +kernel
theorem dX6_order_39 : decode cX6_order 39 = .ok (.iload_n 1, 1) := by decide +kernel
theorem dX6_order_40 : decode cX6_order 40 = .ok (.invokevirtual 145, 3) := by decide +kernel
theorem dX6_order_43 : decode cX6_order 43 = .ok (.ifCond .eq 7, 3) := by decide +kernel
theorem dX6_order_46 : decode cX6_order 46 = .ok (.iconst 2, 1) := by decide +kernel
theorem dX6_order_47 : decode cX6_order 47 = .ok (.goto 4, 3) := by decide +kernel
theorem dX6_order_50 : decode cX6_order 50 = .ok (.iconst 0, 1) := by decide +kernel
theorem dX6_order_51 : decode cX6_order 51 = .ok (.istore 4, 2) := by decide +kernel
theorem dX6_order_53 : decode cX6_order 53 = .ok (.iload_n 3, 1) := by decide +kernel
theorem dX6_order_54 : decode cX6_order 54 = .ok (.iload 4, 2) := by decide +kernel
theorem dX6_order_56 : decode cX6_order 56 = .ok (.iadd, 1) := by decide +kernel
theorem dX6_order_57 : decode cX6_order 57 = .ok (.ireturn, 1) := by decide +kernel
theorem dX6_alike_0 : decode cX6_alike 0 = .ok (.aload_n 0, 1) := by decide +kernel
theorem dX6_alike_1 : decode cX6_alike 1 = .ok (.iload_n 1, 1) := by decide +kernel
theorem dX6_alike_2 : decode cX6_alike 2 = .ok (.iload_n 2, 1) := by decide +kernel
theorem dX6_alike_3 : decode cX6_alike 3 = .ok (.invokevirtual 142, 3) := by decide +kernel
theorem dX6_alike_6 : decode cX6_alike 6 = .ok (.ifCond .ne 10, 3) := by decide +kernel
theorem dX6_alike_9 : decode cX6_alike 9 = .ok (.aload_n 0, 1) := by decide +kernel
theorem dX6_alike_10 : decode cX6_alike 10 = .ok (.ldc 63, 2) := by decide +kernel
theorem dX6_alike_12 : decode cX6_alike 12 = .ok (.invokevirtual 64, 3) := by decide +kernel
theorem dX6_alike_15 : decode cX6_alike 15 = .ok (.ireturn, 1) := by decide +kernel
theorem dX6_alike_16 : decode cX6_alike 16 = .ok (.aload_n 0, 1) := by decide +kernel
theorem dX6_alike_17 : decode cX6_alike 17 = .ok (.getfield 10, 3) := by decide +kernel
theorem dX6_alike_20 : decode cX6_alike 20 = .ok (.getfield 80, 3) := by decide +kernel
theorem dX6_alike_23 : decode cX6_alike 23 = .ok (.iload_n 1, 1) := by decide +kernel
theorem dX6_alike_24 : decode cX6_alike 24 = .ok (.aaload, 1) := by decide +kernel
theorem dX6_alike_25 : decode cX6_alike 25 = .ok (.astore_n 3, 1) := by decide +kernel
theorem dX6_alike_26 : decode cX6_alike 26 = .ok (.aload_n 0, 1) := by decide +kernel
theorem dX6_alike_27 : decode cX6_alike 27 = .ok (.getfield 10, 3) := by decide +kernel
theorem dX6_alike_30 : decode cX6_alike 30 = .ok (.getfield 80, 3) := by decide +kernel
theorem dX6_alike_33 : decode cX6_alike 33 = .ok (.iload_n 2, 1) := by decide +kernel
theorem dX6_alike_34 : decode cX6_alike 34 = .ok (.aaload, 1) := by decide +kernel
theorem dX6_alike_35 : decode cX6_alike 35 = .ok (.astore 4, 2) := by decide +kernel
theorem dX6_alike_37 : decode cX6_alike 37 = .ok (.aload_n 3, 1) := by decide +kernel
theorem dX6_alike_38 : decode cX6_alike 38 = .ok (.invokevirtual 103, 3) := by decide +kernel
theorem dX6_alike_41 : decode cX6_alike 41 = .ok (.aload 4, 2) := by decide +kernel
theorem dX6_alike_43 : decode cX6_alike 43 = .ok (.invokevirtual 103, 3) := by decide +kernel
theorem dX6_alike_46 : decode cX6_alike 46 = .ok (.land, 1) := by decide +kernel
theorem dX6_alike_47 : decode cX6_alike 47 = .ok (.aload_n 3, 1) := by decide +kernel
theorem dX6_alike_48 : decode cX6_alike 48 = .ok (.invokevirtual 148, 3) := by decide +kernel
theorem dX6_alike_51 : decode cX6_alike 51 = .ok (.aload 4, 2) := by decide +kernel
theorem dX6_alike_53 : decode cX6_alike 53 = .ok (.invokevirtual 148, 3) := by decide +kernel
theorem dX6_alike_56 : decode cX6_alike 56 = .ok (.land, 1) := by decide +kernel
theorem dX6_alike_57 : decode cX6_alike 57 = .ok (.lor, 1) := by decide +kernel
theorem dX6_alike_58 : decode cX6_alike 58 = .ok (.invokestatic 107, 3) := by decide +kernel
theorem dX6_alike_61 : decode cX6_alike 61 = .ok (.ireturn, 1) := by decide +kernel
theorem dX6_slackFor_0 : decode cX6_slackFor 0 = .ok (.aload_n 0, 1) := by decide +kernel
theorem dX6_slackFor_1 : decode cX6_slackFor 1 = .ok (.iload_n 1, 1) := by decide +kernel
theorem dX6_slackFor_2 : decode cX6_slackFor 2 = .ok (.iload_n 2, 1) := by decide +kernel
theorem dX6_slackFor_3 : decode cX6_slackFor 3 = .ok (.invokevirtual 142, 3) := by decide +kernel
theorem dX6_slackFor_6 : decode cX6_slackFor 6 = .ok (.ifCond .ne 10, 3) := by decide +kernel
theorem dX6_slackFor_9 : decode cX6_slackFor 9 = .ok (.aload_n 0, 1) := by decide +kernel
theorem dX6_slackFor_10 : decode cX6_slackFor 10 = .ok (.ldc 63, 2) := by decide +kernel
theorem dX6_slackFor_12 : decode cX6_slackFor 12 = .ok (.invokevirtual 64, 3) := by decide +kernel
theorem dX6_slackFor_15 : decode cX6_slackFor 15 = .ok (.ireturn, 1) := by decide +kernel
theorem dX6_slackFor_16 : decode cX6_slackFor 16 = .ok (.aload_n 0, 1) := by decide +kernel
theorem dX6_slackFor_17 : decode cX6_slackFor 17 = .ok (.getfield 10, 3) := by decide +kernel
theorem dX6_slackFor_20 : decode cX6_slackFor 20 = .ok (.iload_n 1, 1) := by decide +kernel
theorem dX6_slackFor_21 : decode cX6_slackFor 21 = .ok (.iload_n 2, 1) := by decide +kernel
theorem dX6_slackFor_22 : decode cX6_slackFor 22 = .ok (.invokevirtual 151, 3) := by decide +kernel
theorem dX6_slackFor_25 : decode cX6_slackFor 25 = .ok (.ifCond .ne 22, 3) := by decide +kernel
theorem dX6_slackFor_28 : decode cX6_slackFor 28 = .ok (.aload_n 0, 1) := by decide +kernel
theorem dX6_slackFor_29 : decode cX6_slackFor 29 = .ok (.getfield 10, 3) := by decide +kernel
theorem dX6_slackFor_32 : decode cX6_slackFor 32 = .ok (.iload_n 2, 1) := by decide +kernel
theorem dX6_slackFor_33 : decode cX6_slackFor 33 = .ok (.iload_n 1, 1) := by decide +kernel
theorem dX6_slackFor_34 : decode cX6_slackFor 34 = .ok (.invokevirtual 151, 3) := by decide +kernel
theorem dX6_slackFor_37 : decode cX6_slackFor 37 = .ok (.ifCond .ne 10, 3) := by decide +kernel
theorem dX6_slackFor_40 : decode cX6_slackFor 40 = .ok (.aload_n 0, 1) := by decide +kernel
theorem dX6_slackFor_41 : decode cX6_slackFor 41 = .ok (.ldc 154, 2) := by decide +kernel
theorem dX6_slackFor_43 : decode cX6_slackFor 43 = .ok (.invokevirtual 64, 3) := by decide +kernel
theorem dX6_slackFor_46 : decode cX6_slackFor 46 = .ok (.ireturn, 1) := by decide +kernel
theorem dX6_slackFor_47 : decode cX6_slackFor 47 = .ok (.aload_n 0, 1) := by decide +kernel
theorem dX6_slackFor_48 : decode cX6_slackFor 48 = .ok (.getfield 10, 3) := by decide +kernel
theorem dX6_slackFor_51 : decode cX6_slackFor 51 = .ok (.iload_n 1, 1) := by decide +kernel
theorem dX6_slackFor_52 : decode cX6_slackFor 52 = .ok (.iload_n 2, 1) := by decide +kernel
theorem dX6_slackFor_53 : decode cX6_slackFor 53 = .ok (.invokevirtual 155, 3) := by decide +kernel
theorem dX6_slackFor_56 : decode cX6_slackFor 56 = .ok (.istore_n 3, 1) := by decide +kernel
theorem dX6_slackFor_57 : decode cX6_slackFor 57 = .ok (.iload_n 3, 1) := by decide +kernel
theorem dX6_slackFor_58 : decode cX6_slackFor 58 = .ok (.invokestatic 136, 3) := by decide +kernel
theorem dX6_slackFor_61 : decode cX6_slackFor 61 = .ok (.ifCond .eq 7, 3) := by decide +kernel
theorem dX6_slackFor_64 : decode cX6_slackFor 64 = .ok (.iload_n 3, 1) := by decide +kernel
theorem dX6_slackFor_65 : decode cX6_slackFor 65 = .ok (.goto 9, 3) := by decide +kernel
theorem dX6_slackFor_68 : decode cX6_slackFor 68 = .ok (.aload_n 0, 1) := by decide +kernel
theorem dX6_slackFor_69 : decode cX6_slackFor 69 = .ok (.ldc 154, 2) := by decide +kernel
theorem dX6_slackFor_71 : decode cX6_slackFor 71 = .ok (.invokevirtual 64, 3) := by decide +kernel
theorem dX6_slackFor_74 : decode cX6_slackFor 74 = .ok (.ireturn, 1) := by decide +kernel
theorem dX6_came_0 : decode cX6_came 0 = .ok (.aload_n 0, 1) := by decide +kernel
theorem dX6_came_1 : decode cX6_came 1 = .ok (.iload_n 1, 1) := by decide +kernel
theorem dX6_came_2 : decode cX6_came 2 = .ok (.iload_n 2, 1) := by decide +kernel
theorem dX6_came_3 : decode cX6_came 3 = .ok (.invokevirtual 142, 3) := by decide +kernel
theorem dX6_came_6 : decode cX6_came 6 = .ok (.ifCond .ne 10, 3) := by decide +kernel
theorem dX6_came_9 : decode cX6_came 9 = .ok (.aload_n 0, 1) := by decide +kernel
theorem dX6_came_10 : decode cX6_came 10 = .ok (.ldc 63, 2) := by decide +kernel
theorem dX6_came_12 : decode cX6_came 12 = .ok (.invokevirtual 64, 3) := by decide +kernel
theorem dX6_came_15 : decode cX6_came 15 = .ok (.ireturn, 1) := by decide +kernel
theorem dX6_came_16 : decode cX6_came 16 = .ok (.aload_n 0, 1) := by decide +kernel
theorem dX6_came_17 : decode cX6_came 17 = .ok (.getfield 10, 3) := by decide +kernel
theorem dX6_came_20 : decode cX6_came 20 = .ok (.iload_n 1, 1) := by decide +kernel
theorem dX6_came_21 : decode cX6_came 21 = .ok (.iload_n 2, 1) := by decide +kernel
theorem dX6_came_22 : decode cX6_came 22 = .ok (.invokevirtual 145, 3) := by decide +kernel
theorem dX6_came_25 : decode cX6_came 25 = .ok (.ifCond .ne 10, 3) := by decide +kernel
theorem dX6_came_28 : decode cX6_came 28 = .ok (.aload_n 0, 1) := by decide +kernel
theorem dX6_came_29 : decode cX6_came 29 = .ok (.ldc 159, 2) := by decide +kernel
theorem dX6_came_31 : decode cX6_came 31 = .ok (.invokevirtual 64, 3) := by decide +kernel
theorem dX6_came_34 : decode cX6_came 34 = .ok (.ireturn, 1) := by decide +kernel
theorem dX6_came_35 : decode cX6_came 35 = .ok (.aload_n 0, 1) := by decide +kernel
theorem dX6_came_36 : decode cX6_came 36 = .ok (.getfield 10, 3) := by decide +kernel
theorem dX6_came_39 : decode cX6_came 39 = .ok (.getfield 80, 3) := by decide +kernel
theorem dX6_came_42 : decode cX6_came 42 = .ok (.iload_n 2, 1) := by decide +kernel
theorem dX6_came_43 : decode cX6_came 43 = .ok (.aaload, 1) := by decide +kernel
theorem dX6_came_44 : decode cX6_came 44 = .ok (.invokevirtual 103, 3) := by decide +kernel
theorem dX6_came_47 : decode cX6_came 47 = .ok (.aload_n 0, 1) := by decide +kernel
theorem dX6_came_48 : decode cX6_came 48 = .ok (.getfield 10, 3) := by decide +kernel
theorem dX6_came_51 : decode cX6_came 51 = .ok (.getfield 80, 3) := by decide +kernel
theorem dX6_came_54 : decode cX6_came 54 = .ok (.iload_n 1, 1) := by decide +kernel
theorem dX6_came_55 : decode cX6_came 55 = .ok (.aaload, 1) := by decide +kernel
theorem dX6_came_56 : decode cX6_came 56 = .ok (.invokevirtual 148, 3) := by decide +kernel
theorem dX6_came_59 : decode cX6_came 59 = .ok (.land, 1) := by decide +kernel
theorem dX6_came_60 : decode cX6_came 60 = .ok (.invokestatic 107, 3) := by decide +kernel
theorem dX6_came_63 : decode cX6_came 63 = .ok (.ireturn, 1) := by decide +kernel
theorem dX6_ring_0 : decode cX6_ring 0 = .ok (.aload_n 0, 1) := by decide +kernel
theorem dX6_ring_1 : decode cX6_ring 1 = .ok (.getfield 10, 3) := by decide +kernel
theorem dX6_ring_4 : decode cX6_ring 4 = .ok (.iload_n 1, 1) := by decide +kernel
theorem dX6_ring_5 : decode cX6_ring 5 = .ok (.invokevirtual 160, 3) := by decide +kernel
theorem dX6_ring_8 : decode cX6_ring 8 = .ok (.ifCond .ne 10, 3) := by decide +kernel
theorem dX6_ring_11 : decode cX6_ring 11 = .ok (.aload_n 0, 1) := by decide +kernel
theorem dX6_ring_12 : decode cX6_ring 12 = .ok (.ldc 63, 2) := by decide +kernel
theorem dX6_ring_14 : decode cX6_ring 14 = .ok (.invokevirtual 64, 3) := by decide +kernel
theorem dX6_ring_17 : decode cX6_ring 17 = .ok (.ireturn, 1) := by decide +kernel
theorem dX6_ring_18 : decode cX6_ring 18 = .ok (.aload_n 0, 1) := by decide +kernel
theorem dX6_ring_19 : decode cX6_ring 19 = .ok (.getfield 24, 3) := by decide +kernel
theorem dX6_ring_22 : decode cX6_ring 22 = .ok (.invokevirtual 163, 3) := by decide +kernel
theorem dX6_ring_25 : decode cX6_ring 25 = .ok (.aload_n 0, 1) := by decide +kernel
theorem dX6_ring_26 : decode cX6_ring 26 = .ok (.getfield 24, 3) := by decide +kernel
theorem dX6_ring_29 : decode cX6_ring 29 = .ok (.iload_n 1, 1) := by decide +kernel
theorem dX6_ring_30 : decode cX6_ring 30 = .ok (.invokevirtual 166, 3) := by decide +kernel
theorem dX6_ring_33 : decode cX6_ring 33 = .ok (.ifCond .eq 7, 3) := by decide +kernel
theorem dX6_ring_36 : decode cX6_ring 36 = .ok (.iconst 1, 1) := by decide +kernel
theorem dX6_ring_37 : decode cX6_ring 37 = .ok (.goto 4, 3) := by decide +kernel
theorem dX6_ring_40 : decode cX6_ring 40 = .ok (.iconst 0, 1) := by decide +kernel
theorem dX6_ring_41 : decode cX6_ring 41 = .ok (.ireturn, 1) := by decide +kernel
theorem dX6_most_0 : decode cX6_most 0 = .ok (.aload_n 0, 1) := by decide +kernel
theorem dX6_most_1 : decode cX6_most 1 = .ok (.getfield 10, 3) := by decide +kernel
theorem dX6_most_4 : decode cX6_most 4 = .ok (.iload_n 1, 1) := by decide +kernel
theorem dX6_most_5 : decode cX6_most 5 = .ok (.invokevirtual 160, 3) := by decide +kernel
theorem dX6_most_8 : decode cX6_most 8 = .ok (.ifCond .ne 10, 3) := by decide +kernel
theorem dX6_most_11 : decode cX6_most 11 = .ok (.aload_n 0, 1) := by decide +kernel
theorem dX6_most_12 : decode cX6_most 12 = .ok (.ldc 63, 2) := by decide +kernel
theorem dX6_most_14 : decode cX6_most 14 = .ok (.invokevirtual 64, 3) := by decide +kernel
theorem dX6_most_17 : decode cX6_most 17 = .ok (.ireturn, 1) := by decide +kernel
theorem dX6_most_18 : decode cX6_most 18 = .ok (.aload_n 0, 1) := by decide +kernel
theorem dX6_most_19 : decode cX6_most 19 = .ok (.getfield 24, 3) := by decide +kernel
theorem dX6_most_22 : decode cX6_most 22 = .ok (.invokevirtual 163, 3) := by decide +kernel
theorem dX6_most_25 : decode cX6_most 25 = .ok (.aload_n 0, 1) := by decide +kernel
theorem dX6_most_26 : decode cX6_most 26 = .ok (.getfield 24, 3) := by decide +kernel
theorem dX6_most_29 : decode cX6_most 29 = .ok (.iload_n 1, 1) := by decide +kernel
theorem dX6_most_30 : decode cX6_most 30 = .ok (.invokevirtual 169, 3) := by decide +kernel
theorem dX6_most_33 : decode cX6_most 33 = .ok (.invokestatic 172, 3) := by decide +kernel
theorem dX6_most_36 : decode cX6_most 36 = .ok (.ireturn, 1) := by decide +kernel
theorem dX6_best_0 : decode cX6_best 0 = .ok (.aload_n 0, 1) := by decide +kernel
theorem dX6_best_1 : decode cX6_best 1 = .ok (.getfield 10, 3) := by decide +kernel
theorem dX6_best_4 : decode cX6_best 4 = .ok (.iload_n 1, 1) := by decide +kernel
theorem dX6_best_5 : decode cX6_best 5 = .ok (.invokevirtual 160, 3) := by decide +kernel
theorem dX6_best_8 : decode cX6_best 8 = .ok (.ifCond .ne 10, 3) := by decide +kernel
theorem dX6_best_11 : decode cX6_best 11 = .ok (.aload_n 0, 1) := by decide +kernel
theorem dX6_best_12 : decode cX6_best 12 = .ok (.ldc 63, 2) := by decide +kernel
theorem dX6_best_14 : decode cX6_best 14 = .ok (.invokevirtual 64, 3) := by decide +kernel
theorem dX6_best_17 : decode cX6_best 17 = .ok (.ireturn, 1) := by decide +kernel
theorem dX6_best_18 : decode cX6_best 18 = .ok (.aload_n 0, 1) := by decide +kernel
theorem dX6_best_19 : decode cX6_best 19 = .ok (.getfield 24, 3) := by decide +kernel
theorem dX6_best_22 : decode cX6_best 22 = .ok (.invokevirtual 163, 3) := by decide +kernel
theorem dX6_best_25 : decode cX6_best 25 = .ok (.aload_n 0, 1) := by decide +kernel
theorem dX6_best_26 : decode cX6_best 26 = .ok (.getfield 24, 3) := by decide +kernel
theorem dX6_best_29 : decode cX6_best 29 = .ok (.iload_n 1, 1) := by decide +kernel
theorem dX6_best_30 : decode cX6_best 30 = .ok (.invokevirtual 169, 3) := by decide +kernel
theorem dX6_best_33 : decode cX6_best 33 = .ok (.ireturn, 1) := by decide +kernel
theorem dX6_fewest_0 : decode cX6_fewest 0 = .ok (.aload_n 0, 1) := by decide +kernel
theorem dX6_fewest_1 : decode cX6_fewest 1 = .ok (.getfield 10, 3) := by decide +kernel
theorem dX6_fewest_4 : decode cX6_fewest 4 = .ok (.iload_n 1, 1) := by decide +kernel
theorem dX6_fewest_5 : decode cX6_fewest 5 = .ok (.invokevirtual 160, 3) := by decide +kernel
theorem dX6_fewest_8 : decode cX6_fewest 8 = .ok (.ifCond .ne 10, 3) := by decide +kernel
theorem dX6_fewest_11 : decode cX6_fewest 11 = .ok (.aload_n 0, 1) := by decide +kernel
theorem dX6_fewest_12 : decode cX6_fewest 12 = .ok (.ldc 63, 2) := by decide +kernel
theorem dX6_fewest_14 : decode cX6_fewest 14 = .ok (.invokevirtual 64, 3) := by decide +kernel
theorem dX6_fewest_17 : decode cX6_fewest 17 = .ok (.ireturn, 1) := by decide +kernel
theorem dX6_fewest_18 : decode cX6_fewest 18 = .ok (.aload_n 0, 1) := by decide +kernel
theorem dX6_fewest_19 : decode cX6_fewest 19 = .ok (.getfield 24, 3) := by decide +kernel
theorem dX6_fewest_22 : decode cX6_fewest 22 = .ok (.invokevirtual 163, 3) := by decide +kernel
theorem dX6_fewest_25 : decode cX6_fewest 25 = .ok (.aload_n 0, 1) := by decide +kernel
theorem dX6_fewest_26 : decode cX6_fewest 26 = .ok (.getfield 24, 3) := by decide +kernel
theorem dX6_fewest_29 : decode cX6_fewest 29 = .ok (.iload_n 1, 1) := by decide +kernel
theorem dX6_fewest_30 : decode cX6_fewest 30 = .ok (.invokevirtual 176, 3) := by decide +kernel
theorem dX6_fewest_33 : decode cX6_fewest 33 = .ok (.ireturn, 1) := by decide +kernel
theorem dX6_alone_0 : decode cX6_alone 0 = .ok (.aload_n 0, 1) := by decide +kernel
theorem dX6_alone_1 : decode cX6_alone 1 = .ok (.getfield 10, 3) := by decide +kernel
theorem dX6_alone_4 : decode cX6_alone 4 = .ok (.iload_n 1, 1) := by decide +kernel
theorem dX6_alone_5 : decode cX6_alone 5 = .ok (.invokevirtual 160, 3) := by decide +kernel
theorem dX6_alone_8 : decode cX6_alone 8 = .ok (.ifCond .ne 10, 3) := by decide +kernel
theorem dX6_alone_11 : decode cX6_alone 11 = .ok (.aload_n 0, 1) := by decide +kernel
theorem dX6_alone_12 : decode cX6_alone 12 = .ok (.ldc 63, 2) := by decide +kernel
theorem dX6_alone_14 : decode cX6_alone 14 = .ok (.invokevirtual 64, 3) := by decide +kernel
theorem dX6_alone_17 : decode cX6_alone 17 = .ok (.ireturn, 1) := by decide +kernel
theorem dX6_alone_18 : decode cX6_alone 18 = .ok (.aload_n 0, 1) := by decide +kernel
theorem dX6_alone_19 : decode cX6_alone 19 = .ok (.getfield 24, 3) := by decide +kernel
theorem dX6_alone_22 : decode cX6_alone 22 = .ok (.invokevirtual 163, 3) := by decide +kernel
theorem dX6_alone_25 : decode cX6_alone 25 = .ok (.aload_n 0, 1) := by decide +kernel
theorem dX6_alone_26 : decode cX6_alone 26 = .ok (.getfield 24, 3) := by decide +kernel
theorem dX6_alone_29 : decode cX6_alone 29 = .ok (.iload_n 1, 1) := by decide +kernel
theorem dX6_alone_30 : decode cX6_alone 30 = .ok (.invokevirtual 179, 3) := by decide +kernel
theorem dX6_alone_33 : decode cX6_alone 33 = .ok (.ireturn, 1) := by decide +kernel
theorem dX6_orders_0 : decode cX6_orders 0 = .ok (.aload_n 0, 1) := by decide +kernel
theorem dX6_orders_1 : decode cX6_orders 1 = .ok (.getfield 10, 3) := by decide +kernel
theorem dX6_orders_4 : decode cX6_orders 4 = .ok (.iload_n 1, 1) := by decide +kernel
theorem dX6_orders_5 : decode cX6_orders 5 = .ok (.invokevirtual 160, 3) := by decide +kernel
theorem dX6_orders_8 : decode cX6_orders 8 = .ok (.ifCond .ne 10, 3) := by decide +kernel
theorem dX6_orders_11 : decode cX6_orders 11 = .ok (.aload_n 0, 1) := by decide +kernel
theorem dX6_orders_12 : decode cX6_orders 12 = .ok (.ldc 63, 2) := by decide +kernel
theorem dX6_orders_14 : decode cX6_orders 14 = .ok (.invokevirtual 64, 3) := by decide +kernel
theorem dX6_orders_17 : decode cX6_orders 17 = .ok (.ireturn, 1) := by decide +kernel
theorem dX6_orders_18 : decode cX6_orders 18 = .ok (.iload_n 1, 1) := by decide +kernel
theorem dX6_orders_19 : decode cX6_orders 19 = .ok (.invokestatic 172, 3) := by decide +kernel
theorem dX6_orders_22 : decode cX6_orders 22 = .ok (.bipush 8, 2) := by decide +kernel
theorem dX6_orders_24 : decode cX6_orders 24 = .ok (.if_icmp .le 10, 3) := by decide +kernel
theorem dX6_orders_27 : decode cX6_orders 27 = .ok (.aload_n 0, 1) := by decide +kernel
theorem dX6_orders_28 : decode cX6_orders 28 = .ok (.ldc 182, 2) := by decide +kernel
theorem dX6_orders_30 : decode cX6_orders 30 = .ok (.invokevirtual 64, 3) := by decide +kernel
theorem dX6_orders_33 : decode cX6_orders 33 = .ok (.ireturn, 1) := by decide +kernel
theorem dX6_orders_34 : decode cX6_orders 34 = .ok (.aload_n 0, 1) := by decide +kernel
theorem dX6_orders_35 : decode cX6_orders 35 = .ok (.getfield 24, 3) := by decide +kernel
theorem dX6_orders_38 : decode cX6_orders 38 = .ok (.invokevirtual 163, 3) := by decide +kernel
theorem dX6_orders_41 : decode cX6_orders 41 = .ok (.aload_n 0, 1) := by decide +kernel
theorem dX6_orders_42 : decode cX6_orders 42 = .ok (.getfield 24, 3) := by decide +kernel
theorem dX6_orders_45 : decode cX6_orders 45 = .ok (.iload_n 1, 1) := by decide +kernel
theorem dX6_orders_46 : decode cX6_orders 46 = .ok (.invokevirtual 183, 3) := by decide +kernel
theorem dX6_orders_49 : decode cX6_orders 49 = .ok (.ireturn, 1) := by decide +kernel
theorem dX6_ith_0 : decode cX6_ith 0 = .ok (.aload_n 0, 1) := by decide +kernel
theorem dX6_ith_1 : decode cX6_ith 1 = .ok (.getfield 10, 3) := by decide +kernel
theorem dX6_ith_4 : decode cX6_ith 4 = .ok (.iload_n 1, 1) := by decide +kernel
theorem dX6_ith_5 : decode cX6_ith 5 = .ok (.invokevirtual 160, 3) := by decide +kernel
theorem dX6_ith_8 : decode cX6_ith 8 = .ok (.ifCond .eq 13, 3) := by decide +kernel
theorem dX6_ith_11 : decode cX6_ith 11 = .ok (.iload_n 2, 1) := by decide +kernel
theorem dX6_ith_12 : decode cX6_ith 12 = .ok (.ifCond .lt 9, 3) := by decide +kernel
theorem dX6_ith_15 : decode cX6_ith 15 = .ok (.iload_n 2, 1) := by decide +kernel
theorem dX6_ith_16 : decode cX6_ith 16 = .ok (.bipush 8, 2) := by decide +kernel
theorem dX6_ith_18 : decode cX6_ith 18 = .ok (.if_icmp .lt 10, 3) := by decide +kernel
theorem dX6_ith_21 : decode cX6_ith 21 = .ok (.aload_n 0, 1) := by decide +kernel
theorem dX6_ith_22 : decode cX6_ith 22 = .ok (.ldc 63, 2) := by decide +kernel
theorem dX6_ith_24 : decode cX6_ith 24 = .ok (.invokevirtual 64, 3) := by decide +kernel
theorem dX6_ith_27 : decode cX6_ith 27 = .ok (.ireturn, 1) := by decide +kernel
theorem dX6_ith_28 : decode cX6_ith 28 = .ok (.iload_n 1, 1) := by decide +kernel
theorem dX6_ith_29 : decode cX6_ith 29 = .ok (.invokestatic 172, 3) := by decide +kernel
theorem dX6_ith_32 : decode cX6_ith 32 = .ok (.bipush 8, 2) := by decide +kernel
theorem dX6_ith_34 : decode cX6_ith 34 = .ok (.if_icmp .le 10, 3) := by decide +kernel
theorem dX6_ith_37 : decode cX6_ith 37 = .ok (.aload_n 0, 1) := by decide +kernel
theorem dX6_ith_38 : decode cX6_ith 38 = .ok (.ldc 182, 2) := by decide +kernel
theorem dX6_ith_40 : decode cX6_ith 40 = .ok (.invokevirtual 64, 3) := by decide +kernel
theorem dX6_ith_43 : decode cX6_ith 43 = .ok (.ireturn, 1) := by decide +kernel
theorem dX6_ith_44 : decode cX6_ith 44 = .ok (.aload_n 0, 1) := by decide +kernel
theorem dX6_ith_45 : decode cX6_ith 45 = .ok (.getfield 24, 3) := by decide +kernel
theorem dX6_ith_48 : decode cX6_ith 48 = .ok (.invokevirtual 163, 3) := by decide +kernel
theorem dX6_ith_51 : decode cX6_ith 51 = .ok (.aload_n 0, 1) := by decide +kernel
theorem dX6_ith_52 : decode cX6_ith 52 = .ok (.ldc 154, 2) := by decide +kernel
theorem dX6_ith_54 : decode cX6_ith 54 = .ok (.aload_n 0, 1) := by decide +kernel
theorem dX6_ith_55 : decode cX6_ith 55 = .ok (.getfield 24, 3) := by decide +kernel
theorem dX6_ith_58 : decode cX6_ith 58 = .ok (.iload_n 1, 1) := by decide +kernel
theorem dX6_ith_59 : decode cX6_ith 59 = .ok (.iload_n 2, 1) := by decide +kernel
theorem dX6_ith_60 : decode cX6_ith 60 = .ok (.invokevirtual 186, 3) := by decide +kernel
theorem dX6_ith_63 : decode cX6_ith 63 = .ok (.invokevirtual 189, 3) := by decide +kernel
theorem dX6_ith_66 : decode cX6_ith 66 = .ok (.ireturn, 1) := by decide +kernel
theorem dX6_falseDate_0 : decode cX6_falseDate 0 = .ok (.aload_n 0, 1) := by decide +kernel
theorem dX6_falseDate_1 : decode cX6_falseDate 1 = .ok (.getfield 10, 3) := by decide +kernel
theorem dX6_falseDate_4 : decode cX6_falseDate 4 = .ok (.iload_n 1, 1) := by decide +kernel
theorem dX6_falseDate_5 : decode cX6_falseDate 5 = .ok (.invokevirtual 160, 3) := by decide +kernel
theorem dX6_falseDate_8 : decode cX6_falseDate 8 = .ok (.ifCond .ne 10, 3) := by decide +kernel
theorem dX6_falseDate_11 : decode cX6_falseDate 11 = .ok (.aload_n 0, 1) := by decide +kernel
theorem dX6_falseDate_12 : decode cX6_falseDate 12 = .ok (.ldc 63, 2) := by decide +kernel
theorem dX6_falseDate_14 : decode cX6_falseDate 14 = .ok (.invokevirtual 64, 3) := by decide +kernel
theorem dX6_falseDate_17 : decode cX6_falseDate 17 = .ok (.ireturn, 1) := by decide +kernel
theorem dX6_falseDate_18 : decode cX6_falseDate 18 = .ok (.aload_n 0, 1) := by decide +kernel
theorem dX6_falseDate_19 : decode cX6_falseDate 19 = .ok (.getfield 24, 3) := by decide +kernel
theorem dX6_falseDate_22 : decode cX6_falseDate 22 = .ok (.invokevirtual 163, 3) := by decide +kernel
theorem dX6_falseDate_25 : decode cX6_falseDate 25 = .ok (.aload_n 0, 1) := by decide +kernel
theorem dX6_falseDate_26 : decode cX6_falseDate 26 = .ok (.getfield 24, 3) := by decide +kernel
theorem dX6_falseDate_29 : decode cX6_falseDate 29 = .ok (.iload_n 1, 1) := by decide +kernel
theorem dX6_falseDate_30 : decode cX6_falseDate 30 = .ok (.invokevirtual 166, 3) := by decide +kernel
theorem dX6_falseDate_33 : decode cX6_falseDate 33 = .ok (.ifCond .eq 10, 3) := by decide +kernel
theorem dX6_falseDate_36 : decode cX6_falseDate 36 = .ok (.aload_n 0, 1) := by decide +kernel
theorem dX6_falseDate_37 : decode cX6_falseDate 37 = .ok (.ldc 159, 2) := by decide +kernel
theorem dX6_falseDate_39 : decode cX6_falseDate 39 = .ok (.invokevirtual 64, 3) := by decide +kernel
theorem dX6_falseDate_42 : decode cX6_falseDate 42 = .ok (.ireturn, 1) := by decide +kernel
theorem dX6_falseDate_43 : decode cX6_falseDate 43 = .ok (.aload_n 0, 1) := by decide +kernel
theorem dX6_falseDate_44 : decode cX6_falseDate 44 = .ok (.ldc 154, 2) := by decide +kernel
theorem dX6_falseDate_46 : decode cX6_falseDate 46 = .ok (.aload_n 0, 1) := by decide +kernel
theorem dX6_falseDate_47 : decode cX6_falseDate 47 = .ok (.getfield 24, 3) := by decide +kernel
theorem dX6_falseDate_50 : decode cX6_falseDate 50 = .ok (.iload_n 1, 1) := by decide +kernel
theorem dX6_falseDate_51 : decode cX6_falseDate 51 = .ok (.invokevirtual 192, 3) := by decide +kernel
theorem dX6_falseDate_54 : decode cX6_falseDate 54 = .ok (.invokevirtual 189, 3) := by decide +kernel
theorem dX6_falseDate_57 : decode cX6_falseDate 57 = .ok (.ireturn, 1) := by decide +kernel
theorem dX6_had_0 : decode cX6_had 0 = .ok (.aload_n 0, 1) := by decide +kernel
theorem dX6_had_1 : decode cX6_had 1 = .ok (.getfield 10, 3) := by decide +kernel
theorem dX6_had_4 : decode cX6_had 4 = .ok (.iload_n 1, 1) := by decide +kernel
theorem dX6_had_5 : decode cX6_had 5 = .ok (.invokevirtual 160, 3) := by decide +kernel
theorem dX6_had_8 : decode cX6_had 8 = .ok (.ifCond .eq 10, 3) := by decide +kernel
theorem dX6_had_11 : decode cX6_had 11 = .ok (.iload_n 2, 1) := by decide +kernel
theorem dX6_had_12 : decode cX6_had 12 = .ok (.invokestatic 123, 3) := by decide +kernel
theorem dX6_had_15 : decode cX6_had 15 = .ok (.ifCond .ne 11, 3) := by decide +kernel
theorem dX6_had_18 : decode cX6_had 18 = .ok (.aload_n 0, 1) := by decide +kernel
theorem dX6_had_19 : decode cX6_had 19 = .ok (.ldc 63, 2) := by decide +kernel
theorem dX6_had_21 : decode cX6_had 21 = .ok (.invokevirtual 64, 3) := by decide +kernel
theorem dX6_had_24 : decode cX6_had 24 = .ok (.i2l, 1) := by decide +kernel
theorem dX6_had_25 : decode cX6_had 25 = .ok (.lreturn, 1) := by decide +kernel
theorem dX6_had_26 : decode cX6_had 26 = .ok (.aload_n 0, 1) := by decide +kernel
theorem dX6_had_27 : decode cX6_had 27 = .ok (.getfield 24, 3) := by decide +kernel
theorem dX6_had_30 : decode cX6_had 30 = .ok (.iload_n 1, 1) := by decide +kernel
theorem dX6_had_31 : decode cX6_had 31 = .ok (.iload_n 2, 1) := by decide +kernel
theorem dX6_had_32 : decode cX6_had 32 = .ok (.invokevirtual 195, 3) := by decide +kernel
theorem dX6_had_35 : decode cX6_had 35 = .ok (.lreturn, 1) := by decide +kernel
theorem dX6_hadNot_0 : decode cX6_hadNot 0 = .ok (.aload_n 0, 1) := by decide +kernel
theorem dX6_hadNot_1 : decode cX6_hadNot 1 = .ok (.getfield 10, 3) := by decide +kernel
theorem dX6_hadNot_4 : decode cX6_hadNot 4 = .ok (.iload_n 1, 1) := by decide +kernel
theorem dX6_hadNot_5 : decode cX6_hadNot 5 = .ok (.invokevirtual 160, 3) := by decide +kernel
theorem dX6_hadNot_8 : decode cX6_hadNot 8 = .ok (.ifCond .eq 10, 3) := by decide +kernel
theorem dX6_hadNot_11 : decode cX6_hadNot 11 = .ok (.iload_n 2, 1) := by decide +kernel
theorem dX6_hadNot_12 : decode cX6_hadNot 12 = .ok (.invokestatic 123, 3) := by decide +kernel
theorem dX6_hadNot_15 : decode cX6_hadNot 15 = .ok (.ifCond .ne 11, 3) := by decide +kernel
theorem dX6_hadNot_18 : decode cX6_hadNot 18 = .ok (.aload_n 0, 1) := by decide +kernel
theorem dX6_hadNot_19 : decode cX6_hadNot 19 = .ok (.ldc 63, 2) := by decide +kernel
theorem dX6_hadNot_21 : decode cX6_hadNot 21 = .ok (.invokevirtual 64, 3) := by decide +kernel
theorem dX6_hadNot_24 : decode cX6_hadNot 24 = .ok (.i2l, 1) := by decide +kernel
theorem dX6_hadNot_25 : decode cX6_hadNot 25 = .ok (.lreturn, 1) := by decide +kernel
theorem dX6_hadNot_26 : decode cX6_hadNot 26 = .ok (.aload_n 0, 1) := by decide +kernel
theorem dX6_hadNot_27 : decode cX6_hadNot 27 = .ok (.getfield 24, 3) := by decide +kernel
theorem dX6_hadNot_30 : decode cX6_hadNot 30 = .ok (.iload_n 1, 1) := by decide +kernel
theorem dX6_hadNot_31 : decode cX6_hadNot 31 = .ok (.iload_n 2, 1) := by decide +kernel
theorem dX6_hadNot_32 : decode cX6_hadNot 32 = .ok (.invokevirtual 199, 3) := by decide +kernel
theorem dX6_hadNot_35 : decode cX6_hadNot 35 = .ok (.lreturn, 1) := by decide +kernel
theorem dX6_castOf_0 : decode cX6_castOf 0 = .ok (.aload_n 0, 1) := by decide +kernel
theorem dX6_castOf_1 : decode cX6_castOf 1 = .ok (.getfield 10, 3) := by decide +kernel
theorem dX6_castOf_4 : decode cX6_castOf 4 = .ok (.iload_n 1, 1) := by decide +kernel
theorem dX6_castOf_5 : decode cX6_castOf 5 = .ok (.invokevirtual 77, 3) := by decide +kernel
theorem dX6_castOf_8 : decode cX6_castOf 8 = .ok (.ifCond .ne 10, 3) := by decide +kernel
theorem dX6_castOf_11 : decode cX6_castOf 11 = .ok (.aload_n 0, 1) := by decide +kernel
theorem dX6_castOf_12 : decode cX6_castOf 12 = .ok (.ldc 63, 2) := by decide +kernel
theorem dX6_castOf_14 : decode cX6_castOf 14 = .ok (.invokevirtual 64, 3) := by decide +kernel
theorem dX6_castOf_17 : decode cX6_castOf 17 = .ok (.ireturn, 1) := by decide +kernel
theorem dX6_castOf_18 : decode cX6_castOf 18 = .ok (.aload_n 0, 1) := by decide +kernel
theorem dX6_castOf_19 : decode cX6_castOf 19 = .ok (.getfield 10, 3) := by decide +kernel
theorem dX6_castOf_22 : decode cX6_castOf 22 = .ok (.getfield 80, 3) := by decide +kernel
theorem dX6_castOf_25 : decode cX6_castOf 25 = .ok (.iload_n 1, 1) := by decide +kernel
theorem dX6_castOf_26 : decode cX6_castOf 26 = .ok (.aaload, 1) := by decide +kernel
theorem dX6_castOf_27 : decode cX6_castOf 27 = .ok (.getfield 84, 3) := by decide +kernel
theorem dX6_castOf_30 : decode cX6_castOf 30 = .ok (.iconst 2, 1) := by decide +kernel
theorem dX6_castOf_31 : decode cX6_castOf 31 = .ok (.invokestatic 131, 3) := by decide +kernel
theorem dX6_castOf_34 : decode cX6_castOf 34 = .ok (.ifCond .ne 10, 3) := by decide +kernel
theorem dX6_castOf_37 : decode cX6_castOf 37 = .ok (.aload_n 0, 1) := by decide +kernel
theorem dX6_castOf_38 : decode cX6_castOf 38 = .ok (.ldc 159, 2) := by decide +kernel
theorem dX6_castOf_40 : decode cX6_castOf 40 = .ok (.invokevirtual 64, 3) := by decide +kernel
theorem dX6_castOf_43 : decode cX6_castOf 43 = .ok (.ireturn, 1) := by decide +kernel
theorem dX6_castOf_44 : decode cX6_castOf 44 = .ok (.aload_n 0, 1) := by decide +kernel
theorem dX6_castOf_45 : decode cX6_castOf 45 = .ok (.ldc 154, 2) := by decide +kernel
theorem dX6_castOf_47 : decode cX6_castOf 47 = .ok (.aload_n 0, 1) := by decide +kernel
theorem dX6_castOf_48 : decode cX6_castOf 48 = .ok (.getfield 10, 3) := by decide +kernel
theorem dX6_castOf_51 : decode cX6_castOf 51 = .ok (.iload_n 1, 1) := by decide +kernel
theorem dX6_castOf_52 : decode cX6_castOf 52 = .ok (.invokevirtual 202, 3) := by decide +kernel
theorem dX6_castOf_55 : decode cX6_castOf 55 = .ok (.invokevirtual 189, 3) := by decide +kernel
theorem dX6_castOf_58 : decode cX6_castOf 58 = .ok (.ireturn, 1) := by decide +kernel
theorem dX6_deep_0 : decode cX6_deep 0 = .ok (.aload_n 0, 1) := by decide +kernel
theorem dX6_deep_1 : decode cX6_deep 1 = .ok (.getfield 10, 3) := by decide +kernel
theorem dX6_deep_4 : decode cX6_deep 4 = .ok (.iload_n 1, 1) := by decide +kernel
theorem dX6_deep_5 : decode cX6_deep 5 = .ok (.invokevirtual 77, 3) := by decide +kernel
theorem dX6_deep_8 : decode cX6_deep 8 = .ok (.ifCond .ne 10, 3) := by decide +kernel
theorem dX6_deep_11 : decode cX6_deep 11 = .ok (.aload_n 0, 1) := by decide +kernel
theorem dX6_deep_12 : decode cX6_deep 12 = .ok (.ldc 63, 2) := by decide +kernel
theorem dX6_deep_14 : decode cX6_deep 14 = .ok (.invokevirtual 64, 3) := by decide +kernel
theorem dX6_deep_17 : decode cX6_deep 17 = .ok (.ireturn, 1) := by decide +kernel
theorem dX6_deep_18 : decode cX6_deep 18 = .ok (.iconst 0, 1) := by decide +kernel
theorem dX6_deep_19 : decode cX6_deep 19 = .ok (.istore_n 2, 1) := by decide +kernel
theorem dX6_deep_20 : decode cX6_deep 20 = .ok (.aload_n 0, 1) := by decide +kernel
theorem dX6_deep_21 : decode cX6_deep 21 = .ok (.getfield 10, 3) := by decide +kernel
theorem dX6_deep_24 : decode cX6_deep 24 = .ok (.iload_n 1, 1) := by decide +kernel
theorem dX6_deep_25 : decode cX6_deep 25 = .ok (.invokevirtual 202, 3) := by decide +kernel
theorem dX6_deep_28 : decode cX6_deep 28 = .ok (.istore_n 3, 1) := by decide +kernel
theorem dX6_deep_29 : decode cX6_deep 29 = .ok (.iload_n 3, 1) := by decide +kernel
theorem dX6_deep_30 : decode cX6_deep 30 = .ok (.iconst (-1), 1) := by decide +kernel
theorem dX6_deep_31 : decode cX6_deep 31 = .ok (.if_icmp .eq 24, 3) := by decide +kernel
theorem dX6_deep_34 : decode cX6_deep 34 = .ok (.iload_n 2, 1) := by decide +kernel
theorem dX6_deep_35 : decode cX6_deep 35 = .ok (.bipush 12, 2) := by decide +kernel
theorem dX6_deep_37 : decode cX6_deep 37 = .ok (.if_icmp .ge 18, 3) := by decide +kernel
theorem dX6_deep_40 : decode cX6_deep 40 = .ok (.iinc 2 1, 3) := by decide +kernel
theorem dX6_deep_43 : decode cX6_deep 43 = .ok (.aload_n 0, 1) := by decide +kernel
theorem dX6_deep_44 : decode cX6_deep 44 = .ok (.getfield 10, 3) := by decide +kernel
theorem dX6_deep_47 : decode cX6_deep 47 = .ok (.iload_n 3, 1) := by decide +kernel
theorem dX6_deep_48 : decode cX6_deep 48 = .ok (.invokevirtual 202, 3) := by decide +kernel
theorem dX6_deep_51 : decode cX6_deep 51 = .ok (.istore_n 3, 1) := by decide +kernel
theorem dX6_deep_52 : decode cX6_deep 52 = .ok (.goto (-23), 3) := by decide +kernel
theorem dX6_deep_55 : decode cX6_deep 55 = .ok (.iload_n 2, 1) := by decide +kernel
theorem dX6_deep_56 : decode cX6_deep 56 = .ok (.ireturn, 1) := by decide +kernel
theorem dX6_tell_0 : decode cX6_tell 0 = .ok (.aload_n 0, 1) := by decide +kernel
theorem dX6_tell_1 : decode cX6_tell 1 = .ok (.getfield 24, 3) := by decide +kernel
theorem dX6_tell_4 : decode cX6_tell 4 = .ok (.invokevirtual 163, 3) := by decide +kernel
theorem dX6_tell_7 : decode cX6_tell 7 = .ok (.aload_n 0, 1) := by decide +kernel
theorem dX6_tell_8 : decode cX6_tell 8 = .ok (.ldc 154, 2) := by decide +kernel
theorem dX6_tell_10 : decode cX6_tell 10 = .ok (.aload_n 0, 1) := by decide +kernel
theorem dX6_tell_11 : decode cX6_tell 11 = .ok (.getfield 24, 3) := by decide +kernel
theorem dX6_tell_14 : decode cX6_tell 14 = .ok (.invokevirtual 205, 3) := by decide +kernel
theorem dX6_tell_17 : decode cX6_tell 17 = .ok (.invokevirtual 189, 3) := by decide +kernel
theorem dX6_tell_20 : decode cX6_tell 20 = .ok (.ireturn, 1) := by decide +kernel
theorem dX6_kind_0 : decode cX6_kind 0 = .ok (.aload_n 0, 1) := by decide +kernel
theorem dX6_kind_1 : decode cX6_kind 1 = .ok (.getfield 10, 3) := by decide +kernel
theorem dX6_kind_4 : decode cX6_kind 4 = .ok (.iload_n 1, 1) := by decide +kernel
theorem dX6_kind_5 : decode cX6_kind 5 = .ok (.invokevirtual 77, 3) := by decide +kernel
theorem dX6_kind_8 : decode cX6_kind 8 = .ok (.ifCond .ne 10, 3) := by decide +kernel
theorem dX6_kind_11 : decode cX6_kind 11 = .ok (.aload_n 0, 1) := by decide +kernel
theorem dX6_kind_12 : decode cX6_kind 12 = .ok (.ldc 63, 2) := by decide +kernel
theorem dX6_kind_14 : decode cX6_kind 14 = .ok (.invokevirtual 64, 3) := by decide +kernel
theorem dX6_kind_17 : decode cX6_kind 17 = .ok (.ireturn, 1) := by decide +kernel
theorem dX6_kind_18 : decode cX6_kind 18 = .ok (.aload_n 0, 1) := by decide +kernel
theorem dX6_kind_19 : decode cX6_kind 19 = .ok (.getfield 24, 3) := by decide +kernel
theorem dX6_kind_22 : decode cX6_kind 22 = .ok (.invokevirtual 163, 3) := by decide +kernel
theorem dX6_kind_25 : decode cX6_kind 25 = .ok (.aload_n 0, 1) := by decide +kernel
theorem dX6_kind_26 : decode cX6_kind 26 = .ok (.getfield 24, 3) := by decide +kernel
theorem dX6_kind_29 : decode cX6_kind 29 = .ok (.iload_n 1, 1) := by decide +kernel
theorem dX6_kind_30 : decode cX6_kind 30 = .ok (.invokevirtual 208, 3) := by decide +kernel
theorem dX6_kind_33 : decode cX6_kind 33 = .ok (.ireturn, 1) := by decide +kernel
theorem dX6_pairs_0 : decode cX6_pairs 0 = .ok (.aload_n 0, 1) := by decide +kernel
theorem dX6_pairs_1 : decode cX6_pairs 1 = .ok (.getfield 24, 3) := by decide +kernel
theorem dX6_pairs_4 : decode cX6_pairs 4 = .ok (.invokevirtual 163, 3) := by decide +kernel
theorem dX6_pairs_7 : decode cX6_pairs 7 = .ok (.aload_n 0, 1) := by decide +kernel
theorem dX6_pairs_8 : decode cX6_pairs 8 = .ok (.getfield 24, 3) := by decide +kernel
theorem dX6_pairs_11 : decode cX6_pairs 11 = .ok (.invokevirtual 211, 3) := by decide +kernel
theorem dX6_pairs_14 : decode cX6_pairs 14 = .ok (.ireturn, 1) := by decide +kernel
theorem dX6_feed_0 : decode cX6_feed 0 = .ok (.iload_n 2, 1) := by decide +kernel
theorem dX6_feed_1 : decode cX6_feed 1 = .ok (.iconst 1, 1) := by decide +kernel
theorem dX6_feed_2 : decode cX6_feed 2 = .ok (.if_icmp .lt 8, 3) := by decide +kernel
theorem dX6_feed_5 : decode cX6_feed 5 = .ok (.iload_n 2, 1) := by decide +kernel
theorem dX6_feed_6 : decode cX6_feed 6 = .ok (.iconst 4, 1) := by decide +kernel
theorem dX6_feed_7 : decode cX6_feed 7 = .ok (.if_icmp .le 10, 3) := by decide +kernel
theorem dX6_feed_10 : decode cX6_feed 10 = .ok (.aload_n 0, 1) := by decide +kernel
theorem dX6_feed_11 : decode cX6_feed 11 = .ok (.ldc 63, 2) := by decide +kernel
theorem dX6_feed_13 : decode cX6_feed 13 = .ok (.invokevirtual 64, 3) := by decide +kernel
theorem dX6_feed_16 : decode cX6_feed 16 = .ok (.ireturn, 1) := by decide +kernel
theorem dX6_feed_17 : decode cX6_feed 17 = .ok (.aload_n 0, 1) := by decide +kernel
theorem dX6_feed_18 : decode cX6_feed 18 = .ok (.getfield 31, 3) := by decide +kernel
theorem dX6_feed_21 : decode cX6_feed 21 = .ok (.getfield 214, 3) := by decide +kernel
theorem dX6_feed_24 : decode cX6_feed 24 = .ok (.iload_n 2, 1) := by decide +kernel
theorem dX6_feed_25 : decode cX6_feed 25 = .ok (.iadd, 1) := by decide +kernel
theorem dX6_feed_26 : decode cX6_feed 26 = .ok (.bipush 120, 2) := by decide +kernel
theorem dX6_feed_28 : decode cX6_feed 28 = .ok (.if_icmp .le 10, 3) := by decide +kernel
theorem dX6_feed_31 : decode cX6_feed 31 = .ok (.aload_n 0, 1) := by decide +kernel
theorem dX6_feed_32 : decode cX6_feed 32 = .ok (.ldc 72, 2) := by decide +kernel
theorem dX6_feed_34 : decode cX6_feed 34 = .ok (.invokevirtual 64, 3) := by decide +kernel
theorem dX6_feed_37 : decode cX6_feed 37 = .ok (.ireturn, 1) := by decide +kernel
theorem dX6_feed_38 : decode cX6_feed 38 = .ok (.iload_n 2, 1) := by decide +kernel
theorem dX6_feed_39 : decode cX6_feed 39 = .ok (.iconst 1, 1) := by decide +kernel
theorem dX6_feed_40 : decode cX6_feed 40 = .ok (.isub, 1) := by decide +kernel
theorem dX6_feed_41 : decode cX6_feed 41 = .ok (.istore_n 3, 1) := by decide +kernel
theorem dX6_feed_42 : decode cX6_feed 42 = .ok (.iload_n 3, 1) := by decide +kernel
theorem dX6_feed_43 : decode cX6_feed 43 = .ok (.ifCond .lt 26, 3) := by decide +kernel
theorem dX6_feed_46 : decode cX6_feed 46 = .ok (.aload_n 0, 1) := by decide +kernel
theorem dX6_feed_47 : decode cX6_feed 47 = .ok (.getfield 31, 3) := by decide +kernel
theorem dX6_feed_50 : decode cX6_feed 50 = .ok (.iload_n 1, 1) := by decide +kernel
theorem dX6_feed_51 : decode cX6_feed 51 = .ok (.bipush 8, 2) := by decide +kernel
theorem dX6_feed_53 : decode cX6_feed 53 = .ok (.iload_n 3, 1) := by decide +kernel
theorem dX6_feed_54 : decode cX6_feed 54 = .ok (.imul, 1) := by decide +kernel
theorem dX6_feed_55 : decode cX6_feed 55 = .ok (.iushr, 1) := by decide +kernel
theorem dX6_feed_56 : decode cX6_feed 56 = .ok (.sipush 255, 3) := by decide +kernel
theorem dX6_feed_59 : decode cX6_feed 59 = .ok (.iand, 1) := by decide +kernel
theorem dX6_feed_60 : decode cX6_feed 60 = .ok (.invokevirtual 217, 3) := by decide +kernel
theorem dX6_feed_63 : decode cX6_feed 63 = .ok (.iinc 3 (-1), 3) := by decide +kernel
theorem dX6_feed_66 : decode cX6_feed 66 = .ok (.goto (-24), 3) := by decide +kernel
theorem dX6_feed_69 : decode cX6_feed 69 = .ok (.aload_n 0, 1) := by decide +kernel
theorem dX6_feed_70 : decode cX6_feed 70 = .ok (.getfield 31, 3) := by decide +kernel
theorem dX6_feed_73 : decode cX6_feed 73 = .ok (.getfield 214, 3) := by decide +kernel
theorem dX6_feed_76 : decode cX6_feed 76 = .ok (.ireturn, 1) := by decide +kernel
theorem dX6_wipe_0 : decode cX6_wipe 0 = .ok (.aload_n 0, 1) := by decide +kernel
theorem dX6_wipe_1 : decode cX6_wipe 1 = .ok (.getfield 31, 3) := by decide +kernel
theorem dX6_wipe_4 : decode cX6_wipe 4 = .ok (.getfield 214, 3) := by decide +kernel
theorem dX6_wipe_7 : decode cX6_wipe 7 = .ok (.istore_n 1, 1) := by decide +kernel
theorem dX6_wipe_8 : decode cX6_wipe 8 = .ok (.aload_n 0, 1) := by decide +kernel
theorem dX6_wipe_9 : decode cX6_wipe 9 = .ok (.getfield 31, 3) := by decide +kernel
theorem dX6_wipe_12 : decode cX6_wipe 12 = .ok (.iconst 0, 1) := by decide +kernel
theorem dX6_wipe_13 : decode cX6_wipe 13 = .ok (.putfield 214, 3) := by decide +kernel
theorem dX6_wipe_16 : decode cX6_wipe 16 = .ok (.iload_n 1, 1) := by decide +kernel
theorem dX6_wipe_17 : decode cX6_wipe 17 = .ok (.ireturn, 1) := by decide +kernel
theorem dX6_text_0 : decode cX6_text 0 = .ok (.aload_n 0, 1) := by decide +kernel
theorem dX6_text_1 : decode cX6_text 1 = .ok (.getfield 40, 3) := by decide +kernel
theorem dX6_text_4 : decode cX6_text 4 = .ok (.invokevirtual 221, 3) := by decide +kernel
theorem dX6_text_7 : decode cX6_text 7 = .ok (.istore_n 1, 1) := by decide +kernel
theorem dX6_text_8 : decode cX6_text 8 = .ok (.aload_n 0, 1) := by decide +kernel
theorem dX6_text_9 : decode cX6_text 9 = .ok (.getfield 31, 3) := by decide +kernel
theorem dX6_text_12 : decode cX6_text 12 = .ok (.iconst 0, 1) := by decide +kernel
theorem dX6_text_13 : decode cX6_text 13 = .ok (.putfield 214, 3) := by decide +kernel
theorem dX6_text_16 : decode cX6_text 16 = .ok (.iload_n 1, 1) := by decide +kernel
theorem dX6_text_17 : decode cX6_text 17 = .ok (.ireturn, 1) := by decide +kernel
theorem dX6_sheet_0 : decode cX6_sheet 0 = .ok (.iload_n 1, 1) := by decide +kernel
theorem dX6_sheet_1 : decode cX6_sheet 1 = .ok (.invokestatic 224, 3) := by decide +kernel
theorem dX6_sheet_4 : decode cX6_sheet 4 = .ok (.ifCond .eq 10, 3) := by decide +kernel
theorem dX6_sheet_7 : decode cX6_sheet 7 = .ok (.iload_n 2, 1) := by decide +kernel
theorem dX6_sheet_8 : decode cX6_sheet 8 = .ok (.invokestatic 227, 3) := by decide +kernel
theorem dX6_sheet_11 : decode cX6_sheet 11 = .ok (.ifCond .ne 10, 3) := by decide +kernel
theorem dX6_sheet_14 : decode cX6_sheet 14 = .ok (.aload_n 0, 1) := by decide +kernel
theorem dX6_sheet_15 : decode cX6_sheet 15 = .ok (.ldc 63, 2) := by decide +kernel
theorem dX6_sheet_17 : decode cX6_sheet 17 = .ok (.invokevirtual 64, 3) := by decide +kernel
theorem dX6_sheet_20 : decode cX6_sheet 20 = .ok (.ireturn, 1) := by decide +kernel
theorem dX6_sheet_21 : decode cX6_sheet 21 = .ok (.iload_n 3, 1) := by decide +kernel
theorem dX6_sheet_22 : decode cX6_sheet 22 = .ok (.ifCond .ge 10, 3) := by decide +kernel
theorem dX6_sheet_25 : decode cX6_sheet 25 = .ok (.aload_n 0, 1) := by decide +kernel
theorem dX6_sheet_26 : decode cX6_sheet 26 = .ok (.ldc 182, 2) := by decide +kernel
theorem dX6_sheet_28 : decode cX6_sheet 28 = .ok (.invokevirtual 64, 3) := by decide +kernel
theorem dX6_sheet_31 : decode cX6_sheet 31 = .ok (.ireturn, 1) := by decide +kernel
theorem dX6_sheet_32 : decode cX6_sheet 32 = .ok (.iload_n 3, 1) := by decide +kernel
theorem dX6_sheet_33 : decode cX6_sheet 33 = .ok (.bipush 40, 2) := by decide +kernel
theorem dX6_sheet_35 : decode cX6_sheet 35 = .ok (.if_icmp .le 10, 3) := by decide +kernel
theorem dX6_sheet_38 : decode cX6_sheet 38 = .ok (.aload_n 0, 1) := by decide +kernel
theorem dX6_sheet_39 : decode cX6_sheet 39 = .ok (.ldc 63, 2) := by decide +kernel
theorem dX6_sheet_41 : decode cX6_sheet 41 = .ok (.invokevirtual 64, 3) := by decide +kernel
theorem dX6_sheet_44 : decode cX6_sheet 44 = .ok (.ireturn, 1) := by decide +kernel
theorem dX6_sheet_45 : decode cX6_sheet 45 = .ok (.iload_n 2, 1) := by decide +kernel
theorem dX6_sheet_46 : decode cX6_sheet 46 = .ok (.ifCond .ne 7, 3) := by decide +kernel
theorem dX6_sheet_49 : decode cX6_sheet 49 = .ok (.iconst 0, 1) := by decide +kernel
theorem dX6_sheet_50 : decode cX6_sheet 50 = .ok (.goto 4, 3) := by decide +kernel
theorem dX6_sheet_53 : decode cX6_sheet 53 = .ok (.iload_n 3, 1) := by decide +kernel
theorem dX6_sheet_54 : decode cX6_sheet 54 = .ok (.istore 4, 2) := by decide +kernel
theorem dX6_sheet_56 : decode cX6_sheet 56 = .ok (.aload_n 0, 1) := by decide +kernel
theorem dX6_sheet_57 : decode cX6_sheet 57 = .ok (.getfield 46, 3) := by decide +kernel
theorem dX6_sheet_60 : decode cX6_sheet 60 = .ok (.iload_n 1, 1) := by decide +kernel
theorem dX6_sheet_61 : decode cX6_sheet 61 = .ok (.aaload, 1) := by decide +kernel
theorem dX6_sheet_62 : decode cX6_sheet 62 = .ok (.iload_n 2, 1) := by decide +kernel
theorem dX6_sheet_63 : decode cX6_sheet 63 = .ok (.iload 4, 2) := by decide +kernel
theorem dX6_sheet_65 : decode cX6_sheet 65 = .ok (.invokevirtual 230, 3) := by decide +kernel
theorem dX6_sheet_68 : decode cX6_sheet 68 = .ok (.iload 4, 2) := by decide +kernel
theorem dX6_sheet_70 : decode cX6_sheet 70 = .ok (.ireturn, 1) := by decide +kernel
theorem dX6_write_0 : decode cX6_write 0 = .ok (.iload_n 1, 1) := by decide +kernel
theorem dX6_write_1 : decode cX6_write 1 = .ok (.invokestatic 224, 3) := by decide +kernel
theorem dX6_write_4 : decode cX6_write 4 = .ok (.ifCond .ne 11, 3) := by decide +kernel
theorem dX6_write_7 : decode cX6_write 7 = .ok (.aload_n 0, 1) := by decide +kernel
theorem dX6_write_8 : decode cX6_write 8 = .ok (.ldc 63, 2) := by decide +kernel
theorem dX6_write_10 : decode cX6_write 10 = .ok (.invokevirtual 64, 3) := by decide +kernel
theorem dX6_write_13 : decode cX6_write 13 = .ok (.i2l, 1) := by decide +kernel
theorem dX6_write_14 : decode cX6_write 14 = .ok (.lreturn, 1) := by decide +kernel
theorem dX6_write_15 : decode cX6_write 15 = .ok (.aload_n 0, 1) := by decide +kernel
theorem dX6_write_16 : decode cX6_write 16 = .ok (.getfield 46, 3) := by decide +kernel
theorem dX6_write_19 : decode cX6_write 19 = .ok (.iload_n 1, 1) := by decide +kernel
theorem dX6_write_20 : decode cX6_write 20 = .ok (.aaload, 1) := by decide +kernel
theorem dX6_write_21 : decode cX6_write 21 = .ok (.astore 5, 2) := by decide +kernel
theorem dX6_write_23 : decode cX6_write 23 = .ok (.aload 5, 2) := by decide +kernel
theorem dX6_write_25 : decode cX6_write 25 = .ok (.invokevirtual 234, 3) := by decide +kernel
theorem dX6_write_28 : decode cX6_write 28 = .ok (.ifCond .eq 11, 3) := by decide +kernel
theorem dX6_write_31 : decode cX6_write 31 = .ok (.aload_n 0, 1) := by decide +kernel
theorem dX6_write_32 : decode cX6_write 32 = .ok (.ldc 237, 2) := by decide +kernel
theorem dX6_write_34 : decode cX6_write 34 = .ok (.invokevirtual 64, 3) := by decide +kernel
theorem dX6_write_37 : decode cX6_write 37 = .ok (.i2l, 1) := by decide +kernel
theorem dX6_write_38 : decode cX6_write 38 = .ok (.lreturn, 1) := by decide +kernel
theorem dX6_write_39 : decode cX6_write 39 = .ok (.iload_n 2, 1) := by decide +kernel
theorem dX6_write_40 : decode cX6_write 40 = .ok (.ifCond .lt 12, 3) := by decide +kernel
theorem dX6_write_43 : decode cX6_write 43 = .ok (.iload_n 2, 1) := by decide +kernel
theorem dX6_write_44 : decode cX6_write 44 = .ok (.aload 5, 2) := by decide +kernel
theorem dX6_write_46 : decode cX6_write 46 = .ok (.getfield 238, 3) := by decide +kernel
theorem dX6_write_49 : decode cX6_write 49 = .ok (.if_icmp .lt 11, 3) := by decide +kernel
theorem dX6_write_52 : decode cX6_write 52 = .ok (.aload_n 0, 1) := by decide +kernel
theorem dX6_write_53 : decode cX6_write 53 = .ok (.ldc 63, 2) := by decide +kernel
theorem dX6_write_55 : decode cX6_write 55 = .ok (.invokevirtual 64, 3) := by decide +kernel
theorem dX6_write_58 : decode cX6_write 58 = .ok (.i2l, 1) := by decide +kernel
theorem dX6_write_59 : decode cX6_write 59 = .ok (.lreturn, 1) := by decide +kernel
theorem dX6_write_60 : decode cX6_write 60 = .ok (.aload 5, 2) := by decide +kernel
theorem dX6_write_62 : decode cX6_write 62 = .ok (.getfield 239, 3) := by decide +kernel
theorem dX6_write_65 : decode cX6_write 65 = .ok (.iload_n 2, 1) := by decide +kernel
theorem dX6_write_66 : decode cX6_write 66 = .ok (.laload, 1) := by decide +kernel
theorem dX6_write_67 : decode cX6_write 67 = .ok (.lstore 6, 2) := by decide +kernel
theorem dX6_write_69 : decode cX6_write 69 = .ok (.aload 5, 2) := by decide +kernel
theorem dX6_write_71 : decode cX6_write 71 = .ok (.iload_n 2, 1) := by decide +kernel
theorem dX6_write_72 : decode cX6_write 72 = .ok (.lload_n 3, 1) := by decide +kernel
theorem dX6_write_73 : decode cX6_write 73 = .ok (.invokevirtual 243, 3) := by decide +kernel
theorem dX6_write_76 : decode cX6_write 76 = .ok (.lload 6, 2) := by decide +kernel
theorem dX6_write_78 : decode cX6_write 78 = .ok (.lreturn, 1) := by decide +kernel
theorem dX6_copy_0 : decode cX6_copy 0 = .ok (.iload_n 1, 1) := by decide +kernel
theorem dX6_copy_1 : decode cX6_copy 1 = .ok (.invokestatic 224, 3) := by decide +kernel
theorem dX6_copy_4 : decode cX6_copy 4 = .ok (.ifCond .eq 10, 3) := by decide +kernel
theorem dX6_copy_7 : decode cX6_copy 7 = .ok (.iload_n 3, 1) := by decide +kernel
theorem dX6_copy_8 : decode cX6_copy 8 = .ok (.invokestatic 224, 3) := by decide +kernel
theorem dX6_copy_11 : decode cX6_copy 11 = .ok (.ifCond .ne 10, 3) := by decide +kernel
theorem dX6_copy_14 : decode cX6_copy 14 = .ok (.aload_n 0, 1) := by decide +kernel
theorem dX6_copy_15 : decode cX6_copy 15 = .ok (.ldc 63, 2) := by decide +kernel
theorem dX6_copy_17 : decode cX6_copy 17 = .ok (.invokevirtual 64, 3) := by decide +kernel
theorem dX6_copy_20 : decode cX6_copy 20 = .ok (.ireturn, 1) := by decide +kernel
theorem dX6_copy_21 : decode cX6_copy 21 = .ok (.aload_n 0, 1) := by decide +kernel
theorem dX6_copy_22 : decode cX6_copy 22 = .ok (.getfield 46, 3) := by decide +kernel
theorem dX6_copy_25 : decode cX6_copy 25 = .ok (.iload_n 1, 1) := by decide +kernel
theorem dX6_copy_26 : decode cX6_copy 26 = .ok (.aaload, 1) := by decide +kernel
theorem dX6_copy_27 : decode cX6_copy 27 = .ok (.astore 6, 2) := by decide +kernel
theorem dX6_copy_29 : decode cX6_copy 29 = .ok (.aload_n 0, 1) := by decide +kernel
theorem dX6_copy_30 : decode cX6_copy 30 = .ok (.getfield 46, 3) := by decide +kernel
theorem dX6_copy_33 : decode cX6_copy 33 = .ok (.iload_n 3, 1) := by decide +kernel
theorem dX6_copy_34 : decode cX6_copy 34 = .ok (.aaload, 1) := by decide +kernel
theorem dX6_copy_35 : decode cX6_copy 35 = .ok (.astore 7, 2) := by decide +kernel
theorem dX6_copy_37 : decode cX6_copy 37 = .ok (.aload 6, 2) := by decide +kernel
theorem dX6_copy_39 : decode cX6_copy 39 = .ok (.invokevirtual 234, 3) := by decide +kernel
theorem dX6_copy_42 : decode cX6_copy 42 = .ok (.ifCond .ne 11, 3) := by decide +kernel
theorem dX6_copy_45 : decode cX6_copy 45 = .ok (.aload 7, 2) := by decide +kernel
theorem dX6_copy_47 : decode cX6_copy 47 = .ok (.invokevirtual 234, 3) := by decide +kernel
theorem dX6_copy_50 : decode cX6_copy 50 = .ok (.ifCond .eq 10, 3) := by decide +kernel
theorem dX6_copy_53 : decode cX6_copy 53 = .ok (.aload_n 0, 1) := by decide +kernel
theorem dX6_copy_54 : decode cX6_copy 54 = .ok (.ldc 237, 2) := by decide +kernel
theorem dX6_copy_56 : decode cX6_copy 56 = .ok (.invokevirtual 64, 3) := by decide +kernel
theorem dX6_copy_59 : decode cX6_copy 59 = .ok (.ireturn, 1) := by decide +kernel
theorem dX6_copy_60 : decode cX6_copy 60 = .ok (.aload 6, 2) := by decide +kernel
theorem dX6_copy_62 : decode cX6_copy 62 = .ok (.getfield 247, 3) := by decide +kernel
theorem dX6_copy_65 : decode cX6_copy 65 = .ok (.aload 7, 2) := by decide +kernel
theorem dX6_copy_67 : decode cX6_copy 67 = .ok (.getfield 247, 3) := by decide +kernel
theorem dX6_copy_70 : decode cX6_copy 70 = .ok (.if_icmp .eq 10, 3) := by decide +kernel
theorem dX6_copy_73 : decode cX6_copy 73 = .ok (.aload_n 0, 1) := by decide +kernel
theorem dX6_copy_74 : decode cX6_copy 74 = .ok (.ldc 135, 2) := by decide +kernel
theorem dX6_copy_76 : decode cX6_copy 76 = .ok (.invokevirtual 64, 3) := by decide +kernel
theorem dX6_copy_79 : decode cX6_copy 79 = .ok (.ireturn, 1) := by decide +kernel
theorem dX6_copy_80 : decode cX6_copy 80 = .ok (.aload 6, 2) := by decide +kernel
theorem dX6_copy_82 : decode cX6_copy 82 = .ok (.iload_n 2, 1) := by decide +kernel
theorem dX6_copy_83 : decode cX6_copy 83 = .ok (.iload 5, 2) := by decide +kernel
theorem dX6_copy_85 : decode cX6_copy 85 = .ok (.invokevirtual 250, 3) := by decide +kernel
theorem dX6_copy_88 : decode cX6_copy 88 = .ok (.ifCond .eq 15, 3) := by decide +kernel
theorem dX6_copy_91 : decode cX6_copy 91 = .ok (.aload 7, 2) := by decide +kernel
theorem dX6_copy_93 : decode cX6_copy 93 = .ok (.iload 4, 2) := by decide +kernel
theorem dX6_copy_95 : decode cX6_copy 95 = .ok (.iload 5, 2) := by decide +kernel
theorem dX6_copy_97 : decode cX6_copy 97 = .ok (.invokevirtual 250, 3) := by decide +kernel
theorem dX6_copy_100 : decode cX6_copy 100 = .ok (.ifCond .ne 10, 3) := by decide +kernel
theorem dX6_copy_103 : decode cX6_copy 103 = .ok (.aload_n 0, 1) := by decide +kernel
theorem dX6_copy_104 : decode cX6_copy 104 = .ok (.ldc 63, 2) := by decide +kernel
theorem dX6_copy_106 : decode cX6_copy 106 = .ok (.invokevirtual 64, 3) := by decide +kernel
theorem dX6_copy_109 : decode cX6_copy 109 = .ok (.ireturn, 1) := by decide +kernel
theorem dX6_copy_110 : decode cX6_copy 110 = .ok (.aload 6, 2) := by decide +kernel
theorem dX6_copy_112 : decode cX6_copy 112 = .ok (.getfield 239, 3) := by decide +kernel
theorem dX6_copy_115 : decode cX6_copy 115 = .ok (.iload_n 2, 1) := by decide +kernel
theorem dX6_copy_116 : decode cX6_copy 116 = .ok (.aload 7, 2) := by decide +kernel
theorem dX6_copy_118 : decode cX6_copy 118 = .ok (.getfield 239, 3) := by decide +kernel
theorem dX6_copy_121 : decode cX6_copy 121 = .ok (.iload 4, 2) := by decide +kernel
theorem dX6_copy_123 : decode cX6_copy 123 = .ok (.iload 5, 2) := by decide +kernel
theorem dX6_copy_125 : decode cX6_copy 125 = .ok (.invokestatic 253, 3) := by decide +kernel
theorem dX6_copy_128 : decode cX6_copy 128 = .ok (.iload 5, 2) := by decide +kernel
theorem dX6_copy_130 : decode cX6_copy 130 = .ok (.ireturn, 1) := by decide +kernel
theorem dX6_dates_0 : decode cX6_dates 0 = .ok (.iload_n 1, 1) := by decide +kernel
theorem dX6_dates_1 : decode cX6_dates 1 = .ok (.invokestatic 224, 3) := by decide +kernel
theorem dX6_dates_4 : decode cX6_dates 4 = .ok (.ifCond .ne 10, 3) := by decide +kernel
theorem dX6_dates_7 : decode cX6_dates 7 = .ok (.aload_n 0, 1) := by decide +kernel
theorem dX6_dates_8 : decode cX6_dates 8 = .ok (.ldc 63, 2) := by decide +kernel
theorem dX6_dates_10 : decode cX6_dates 10 = .ok (.invokevirtual 64, 3) := by decide +kernel
theorem dX6_dates_13 : decode cX6_dates 13 = .ok (.ireturn, 1) := by decide +kernel
theorem dX6_dates_14 : decode cX6_dates 14 = .ok (.aload_n 0, 1) := by decide +kernel
theorem dX6_dates_15 : decode cX6_dates 15 = .ok (.getfield 46, 3) := by decide +kernel
theorem dX6_dates_18 : decode cX6_dates 18 = .ok (.iload_n 1, 1) := by decide +kernel
theorem dX6_dates_19 : decode cX6_dates 19 = .ok (.aaload, 1) := by decide +kernel
theorem dX6_dates_20 : decode cX6_dates 20 = .ok (.astore_n 2, 1) := by decide +kernel
theorem dX6_dates_21 : decode cX6_dates 21 = .ok (.aload_n 2, 1) := by decide +kernel
theorem dX6_dates_22 : decode cX6_dates 22 = .ok (.invokevirtual 234, 3) := by decide +kernel
theorem dX6_dates_25 : decode cX6_dates 25 = .ok (.ifCond .eq 10, 3) := by decide +kernel
theorem dX6_dates_28 : decode cX6_dates 28 = .ok (.aload_n 0, 1) := by decide +kernel
theorem dX6_dates_29 : decode cX6_dates 29 = .ok (.ldc 237, 2) := by decide +kernel
theorem dX6_dates_31 : decode cX6_dates 31 = .ok (.invokevirtual 64, 3) := by decide +kernel
theorem dX6_dates_34 : decode cX6_dates 34 = .ok (.ireturn, 1) := by decide +kernel
theorem dX6_dates_35 : decode cX6_dates 35 = .ok (.iconst 0, 1) := by decide +kernel
theorem dX6_dates_36 : decode cX6_dates 36 = .ok (.istore_n 3, 1) := by decide +kernel
theorem dX6_dates_37 : decode cX6_dates 37 = .ok (.iconst 0, 1) := by decide +kernel
theorem dX6_dates_38 : decode cX6_dates 38 = .ok (.istore 4, 2) := by decide +kernel
theorem dX6_dates_40 : decode cX6_dates 40 = .ok (.iload 4, 2) := by decide +kernel
theorem dX6_dates_42 : decode cX6_dates 42 = .ok (.aload_n 2, 1) := by decide +kernel
theorem dX6_dates_43 : decode cX6_dates 43 = .ok (.getfield 238, 3) := by decide +kernel
theorem dX6_dates_46 : decode cX6_dates 46 = .ok (.if_icmp .ge 65, 3) := by decide +kernel
theorem dX6_dates_49 : decode cX6_dates 49 = .ok (.iload 4, 2) := by decide +kernel
theorem dX6_dates_51 : decode cX6_dates 51 = .ok (.aload_n 0, 1) := by decide +kernel
theorem dX6_dates_52 : decode cX6_dates 52 = .ok (.getfield 10, 3) := by decide +kernel
theorem dX6_dates_55 : decode cX6_dates 55 = .ok (.getfield 259, 3) := by decide +kernel
theorem dX6_dates_58 : decode cX6_dates 58 = .ok (.if_icmp .ge 53, 3) := by decide +kernel
theorem dX6_dates_61 : decode cX6_dates 61 = .ok (.aload_n 2, 1) := by decide +kernel
theorem dX6_dates_62 : decode cX6_dates 62 = .ok (.getfield 239, 3) := by decide +kernel
theorem dX6_dates_65 : decode cX6_dates 65 = .ok (.iload 4, 2) := by decide +kernel
theorem dX6_dates_67 : decode cX6_dates 67 = .ok (.laload, 1) := by decide +kernel
theorem dX6_dates_68 : decode cX6_dates 68 = .ok (.lstore 5, 2) := by decide +kernel
theorem dX6_dates_70 : decode cX6_dates 70 = .ok (.lload 5, 2) := by decide +kernel
theorem dX6_dates_72 : decode cX6_dates 72 = .ok (.lconst 0, 1) := by decide +kernel
theorem dX6_dates_73 : decode cX6_dates 73 = .ok (.lcmp, 1) := by decide +kernel
theorem dX6_dates_74 : decode cX6_dates 74 = .ok (.ifCond .lt 31, 3) := by decide +kernel
theorem dX6_dates_77 : decode cX6_dates 77 = .ok (.lload 5, 2) := by decide +kernel
theorem dX6_dates_79 : decode cX6_dates 79 = .ok (.ldc2_w 260, 3) := by decide +kernel
theorem dX6_dates_82 : decode cX6_dates 82 = .ok (.lcmp, 1) := by decide +kernel
theorem dX6_dates_83 : decode cX6_dates 83 = .ok (.ifCond .gt 22, 3) := by decide +kernel
theorem dX6_dates_86 : decode cX6_dates 86 = .ok (.aload_n 0, 1) := by decide +kernel
theorem dX6_dates_87 : decode cX6_dates 87 = .ok (.getfield 10, 3) := by decide +kernel
theorem dX6_dates_90 : decode cX6_dates 90 = .ok (.getfield 80, 3) := by decide +kernel
theorem dX6_dates_93 : decode cX6_dates 93 = .ok (.iload 4, 2) := by decide +kernel
theorem dX6_dates_95 : decode cX6_dates 95 = .ok (.aaload, 1) := by decide +kernel
theorem dX6_dates_96 : decode cX6_dates 96 = .ok (.lload 5, 2) := by decide +kernel
theorem dX6_dates_98 : decode cX6_dates 98 = .ok (.l2i, 1) := by decide +kernel
theorem dX6_dates_99 : decode cX6_dates 99 = .ok (.putfield 93, 3) := by decide +kernel
theorem dX6_dates_102 : decode cX6_dates 102 = .ok (.iinc 3 1, 3) := by decide +kernel
theorem dX6_dates_105 : decode cX6_dates 105 = .ok (.iinc 4 1, 3) := by decide +kernel
theorem dX6_dates_108 : decode cX6_dates 108 = .ok (.goto (-68), 3) := by decide +kernel
theorem dX6_dates_111 : decode cX6_dates 111 = .ok (.iload_n 3, 1) := by decide +kernel
theorem dX6_dates_112 : decode cX6_dates 112 = .ok (.ireturn, 1) := by decide +kernel
theorem dX6_show_0 : decode cX6_show 0 = .ok (.iload_n 1, 1) := by decide +kernel
theorem dX6_show_1 : decode cX6_show 1 = .ok (.invokestatic 224, 3) := by decide +kernel
theorem dX6_show_4 : decode cX6_show 4 = .ok (.ifCond .ne 10, 3) := by decide +kernel
theorem dX6_show_7 : decode cX6_show 7 = .ok (.aload_n 0, 1) := by decide +kernel
theorem dX6_show_8 : decode cX6_show 8 = .ok (.ldc 63, 2) := by decide +kernel
theorem dX6_show_10 : decode cX6_show 10 = .ok (.invokevirtual 64, 3) := by decide +kernel
theorem dX6_show_13 : decode cX6_show 13 = .ok (.ireturn, 1) := by decide +kernel
theorem dX6_show_14 : decode cX6_show 14 = .ok (.aload_n 0, 1) := by decide +kernel
theorem dX6_show_15 : decode cX6_show 15 = .ok (.getfield 46, 3) := by decide +kernel
theorem dX6_show_18 : decode cX6_show 18 = .ok (.iload_n 1, 1) := by decide +kernel
theorem dX6_show_19 : decode cX6_show 19 = .ok (.aaload, 1) := by decide +kernel
theorem dX6_show_20 : decode cX6_show 20 = .ok (.astore_n 2, 1) := by decide +kernel
theorem dX6_show_21 : decode cX6_show 21 = .ok (.aload_n 2, 1) := by decide +kernel
theorem dX6_show_22 : decode cX6_show 22 = .ok (.invokevirtual 234, 3) := by decide +kernel
theorem dX6_show_25 : decode cX6_show 25 = .ok (.ifCond .eq 10, 3) := by decide +kernel
theorem dX6_show_28 : decode cX6_show 28 = .ok (.aload_n 0, 1) := by decide +kernel
theorem dX6_show_29 : decode cX6_show 29 = .ok (.ldc 237, 2) := by decide +kernel
theorem dX6_show_31 : decode cX6_show 31 = .ok (.invokevirtual 64, 3) := by decide +kernel
theorem dX6_show_34 : decode cX6_show 34 = .ok (.ireturn, 1) := by decide +kernel
theorem dX6_show_35 : decode cX6_show 35 = .ok (.aload_n 2, 1) := by decide +kernel
theorem dX6_show_36 : decode cX6_show 36 = .ok (.getfield 238, 3) := by decide +kernel
theorem dX6_show_39 : decode cX6_show 39 = .ok (.aload_n 0, 1) := by decide +kernel
theorem dX6_show_40 : decode cX6_show 40 = .ok (.getfield 10, 3) := by decide +kernel
theorem dX6_show_43 : decode cX6_show 43 = .ok (.getfield 259, 3) := by decide +kernel
theorem dX6_show_46 : decode cX6_show 46 = .ok (.invokestatic 262, 3) := by decide +kernel
theorem dX6_show_49 : decode cX6_show 49 = .ok (.istore_n 3, 1) := by decide +kernel
theorem dX6_show_50 : decode cX6_show 50 = .ok (.iconst 0, 1) := by decide +kernel
theorem dX6_show_51 : decode cX6_show 51 = .ok (.istore 4, 2) := by decide +kernel
theorem dX6_show_53 : decode cX6_show 53 = .ok (.iload 4, 2) := by decide +kernel
theorem dX6_show_55 : decode cX6_show 55 = .ok (.iload_n 3, 1) := by decide +kernel
theorem dX6_show_56 : decode cX6_show 56 = .ok (.if_icmp .ge 28, 3) := by decide +kernel
theorem dX6_show_59 : decode cX6_show 59 = .ok (.aload_n 2, 1) := by decide +kernel
theorem dX6_show_60 : decode cX6_show 60 = .ok (.iload 4, 2) := by decide +kernel
theorem dX6_show_62 : decode cX6_show 62 = .ok (.aload_n 0, 1) := by decide +kernel
theorem dX6_show_63 : decode cX6_show 63 = .ok (.getfield 10, 3) := by decide +kernel
theorem dX6_show_66 : decode cX6_show 66 = .ok (.getfield 80, 3) := by decide +kernel
theorem dX6_show_69 : decode cX6_show 69 = .ok (.iload 4, 2) := by decide +kernel
theorem dX6_show_71 : decode cX6_show 71 = .ok (.aaload, 1) := by decide +kernel
theorem dX6_show_72 : decode cX6_show 72 = .ok (.invokevirtual 103, 3) := by decide +kernel
theorem dX6_show_75 : decode cX6_show 75 = .ok (.invokevirtual 243, 3) := by decide +kernel
theorem dX6_show_78 : decode cX6_show 78 = .ok (.iinc 4 1, 3) := by decide +kernel
theorem dX6_show_81 : decode cX6_show 81 = .ok (.goto (-28), 3) := by decide +kernel
theorem dX6_show_84 : decode cX6_show 84 = .ok (.iload_n 3, 1) := by decide +kernel
theorem dX6_show_85 : decode cX6_show 85 = .ok (.ireturn, 1) := by decide +kernel
theorem dX6_read_0 : decode cX6_read 0 = .ok (.iload_n 1, 1) := by decide +kernel
theorem dX6_read_1 : decode cX6_read 1 = .ok (.invokestatic 224, 3) := by decide +kernel
theorem dX6_read_4 : decode cX6_read 4 = .ok (.ifCond .ne 10, 3) := by decide +kernel
theorem dX6_read_7 : decode cX6_read 7 = .ok (.aload_n 0, 1) := by decide +kernel
theorem dX6_read_8 : decode cX6_read 8 = .ok (.ldc 63, 2) := by decide +kernel
theorem dX6_read_10 : decode cX6_read 10 = .ok (.invokevirtual 64, 3) := by decide +kernel
theorem dX6_read_13 : decode cX6_read 13 = .ok (.ireturn, 1) := by decide +kernel
theorem dX6_read_14 : decode cX6_read 14 = .ok (.aload_n 0, 1) := by decide +kernel
theorem dX6_read_15 : decode cX6_read 15 = .ok (.getfield 46, 3) := by decide +kernel
theorem dX6_read_18 : decode cX6_read 18 = .ok (.iload_n 1, 1) := by decide +kernel
theorem dX6_read_19 : decode cX6_read 19 = .ok (.aaload, 1) := by decide +kernel
theorem dX6_read_20 : decode cX6_read 20 = .ok (.astore_n 2, 1) := by decide +kernel
theorem dX6_read_21 : decode cX6_read 21 = .ok (.aload_n 2, 1) := by decide +kernel
theorem dX6_read_22 : decode cX6_read 22 = .ok (.invokevirtual 234, 3) := by decide +kernel
theorem dX6_read_25 : decode cX6_read 25 = .ok (.ifCond .eq 10, 3) := by decide +kernel
theorem dX6_read_28 : decode cX6_read 28 = .ok (.aload_n 0, 1) := by decide +kernel
theorem dX6_read_29 : decode cX6_read 29 = .ok (.ldc 237, 2) := by decide +kernel
theorem dX6_read_31 : decode cX6_read 31 = .ok (.invokevirtual 64, 3) := by decide +kernel
theorem dX6_read_34 : decode cX6_read 34 = .ok (.ireturn, 1) := by decide +kernel
theorem dX6_read_35 : decode cX6_read 35 = .ok (.iconst 0, 1) := by decide +kernel
theorem dX6_read_36 : decode cX6_read 36 = .ok (.istore_n 3, 1) := by decide +kernel
theorem dX6_read_37 : decode cX6_read 37 = .ok (.iconst 0, 1) := by decide +kernel
theorem dX6_read_38 : decode cX6_read 38 = .ok (.istore 4, 2) := by decide +kernel
theorem dX6_read_40 : decode cX6_read 40 = .ok (.iload 4, 2) := by decide +kernel
theorem dX6_read_42 : decode cX6_read 42 = .ok (.aload_n 2, 1) := by decide +kernel
theorem dX6_read_43 : decode cX6_read 43 = .ok (.getfield 238, 3) := by decide +kernel
theorem dX6_read_46 : decode cX6_read 46 = .ok (.if_icmp .ge 83, 3) := by decide +kernel
theorem dX6_read_49 : decode cX6_read 49 = .ok (.aload_n 2, 1) := by decide +kernel
theorem dX6_read_50 : decode cX6_read 50 = .ok (.getfield 239, 3) := by decide +kernel
theorem dX6_read_53 : decode cX6_read 53 = .ok (.iload 4, 2) := by decide +kernel
theorem dX6_read_55 : decode cX6_read 55 = .ok (.laload, 1) := by decide +kernel
theorem dX6_read_56 : decode cX6_read 56 = .ok (.lstore 5, 2) := by decide +kernel
theorem dX6_read_58 : decode cX6_read 58 = .ok (.lload 5, 2) := by decide +kernel
theorem dX6_read_60 : decode cX6_read 60 = .ok (.lconst 0, 1) := by decide +kernel
theorem dX6_read_61 : decode cX6_read 61 = .ok (.lcmp, 1) := by decide +kernel
theorem dX6_read_62 : decode cX6_read 62 = .ok (.ifCond .lt 17, 3) := by decide +kernel
theorem dX6_read_65 : decode cX6_read 65 = .ok (.lload 5, 2) := by decide +kernel
theorem dX6_read_67 : decode cX6_read 67 = .ok (.aload_n 0, 1) := by decide +kernel
theorem dX6_read_68 : decode cX6_read 68 = .ok (.getfield 10, 3) := by decide +kernel
theorem dX6_read_71 : decode cX6_read 71 = .ok (.getfield 259, 3) := by decide +kernel
theorem dX6_read_74 : decode cX6_read 74 = .ok (.i2l, 1) := by decide +kernel
theorem dX6_read_75 : decode cX6_read 75 = .ok (.lcmp, 1) := by decide +kernel
theorem dX6_read_76 : decode cX6_read 76 = .ok (.ifCond .lt 8, 3) := by decide +kernel
theorem dX6_read_79 : decode cX6_read 79 = .ok (.iconst 1, 1) := by decide +kernel
theorem dX6_read_80 : decode cX6_read 80 = .ok (.iload 4, 2) := by decide +kernel
theorem dX6_read_82 : decode cX6_read 82 = .ok (.iadd, 1) := by decide +kernel
theorem dX6_read_83 : decode cX6_read 83 = .ok (.ireturn, 1) := by decide +kernel
theorem dX6_read_84 : decode cX6_read 84 = .ok (.lload 5, 2) := by decide +kernel
theorem dX6_read_86 : decode cX6_read 86 = .ok (.l2i, 1) := by decide +kernel
theorem dX6_read_87 : decode cX6_read 87 = .ok (.istore 7, 2) := by decide +kernel
theorem dX6_read_89 : decode cX6_read 89 = .ok (.iload_n 3, 1) := by decide +kernel
theorem dX6_read_90 : decode cX6_read 90 = .ok (.iconst 1, 1) := by decide +kernel
theorem dX6_read_91 : decode cX6_read 91 = .ok (.iload 7, 2) := by decide +kernel
theorem dX6_read_93 : decode cX6_read 93 = .ok (.ishl, 1) := by decide +kernel
theorem dX6_read_94 : decode cX6_read 94 = .ok (.iand, 1) := by decide +kernel
theorem dX6_read_95 : decode cX6_read 95 = .ok (.ifCond .ne 16, 3) := by decide +kernel
theorem dX6_read_98 : decode cX6_read 98 = .ok (.aload_n 0, 1) := by decide +kernel
theorem dX6_read_99 : decode cX6_read 99 = .ok (.getfield 10, 3) := by decide +kernel
theorem dX6_read_102 : decode cX6_read 102 = .ok (.iload_n 3, 1) := by decide +kernel
theorem dX6_read_103 : decode cX6_read 103 = .ok (.iload 7, 2) := by decide +kernel
theorem dX6_read_105 : decode cX6_read 105 = .ok (.invokevirtual 267, 3) := by decide +kernel
theorem dX6_read_108 : decode cX6_read 108 = .ok (.ifCond .ne 8, 3) := by decide +kernel
theorem dX6_read_111 : decode cX6_read 111 = .ok (.iconst 1, 1) := by decide +kernel
theorem dX6_read_112 : decode cX6_read 112 = .ok (.iload 4, 2) := by decide +kernel
theorem dX6_read_114 : decode cX6_read 114 = .ok (.iadd, 1) := by decide +kernel
theorem dX6_read_115 : decode cX6_read 115 = .ok (.ireturn, 1) := by decide +kernel
theorem dX6_read_116 : decode cX6_read 116 = .ok (.iload_n 3, 1) := by decide +kernel
theorem dX6_read_117 : decode cX6_read 117 = .ok (.iconst 1, 1) := by decide +kernel
theorem dX6_read_118 : decode cX6_read 118 = .ok (.iload 7, 2) := by decide +kernel
theorem dX6_read_120 : decode cX6_read 120 = .ok (.ishl, 1) := by decide +kernel
theorem dX6_read_121 : decode cX6_read 121 = .ok (.ior, 1) := by decide +kernel
theorem dX6_read_122 : decode cX6_read 122 = .ok (.istore_n 3, 1) := by decide +kernel
theorem dX6_read_123 : decode cX6_read 123 = .ok (.iinc 4 1, 3) := by decide +kernel
theorem dX6_read_126 : decode cX6_read 126 = .ok (.goto (-86), 3) := by decide +kernel
theorem dX6_read_129 : decode cX6_read 129 = .ok (.iconst 0, 1) := by decide +kernel
theorem dX6_read_130 : decode cX6_read 130 = .ok (.ireturn, 1) := by decide +kernel
theorem dX6_image_0 : decode cX6_image 0 = .ok (.aload_n 0, 1) := by decide +kernel
theorem dX6_image_1 : decode cX6_image 1 = .ok (.getfield 16, 3) := by decide +kernel
theorem dX6_image_4 : decode cX6_image 4 = .ok (.aload_n 0, 1) := by decide +kernel
theorem dX6_image_5 : decode cX6_image 5 = .ok (.getfield 10, 3) := by decide +kernel
theorem dX6_image_8 : decode cX6_image 8 = .ok (.invokevirtual 270, 3) := by decide +kernel
theorem dX6_image_11 : decode cX6_image 11 = .ok (.aload_n 0, 1) := by decide +kernel
theorem dX6_image_12 : decode cX6_image 12 = .ok (.iconst 1, 1) := by decide +kernel
theorem dX6_image_13 : decode cX6_image 13 = .ok (.putfield 55, 3) := by decide +kernel
theorem dX6_image_16 : decode cX6_image 16 = .ok (.iconst 1, 1) := by decide +kernel
theorem dX6_image_17 : decode cX6_image 17 = .ok (.ireturn, 1) := by decide +kernel
theorem dX6_undo_0 : decode cX6_undo 0 = .ok (.aload_n 0, 1) := by decide +kernel
theorem dX6_undo_1 : decode cX6_undo 1 = .ok (.getfield 55, 3) := by decide +kernel
theorem dX6_undo_4 : decode cX6_undo 4 = .ok (.ifCond .ne 10, 3) := by decide +kernel
theorem dX6_undo_7 : decode cX6_undo 7 = .ok (.aload_n 0, 1) := by decide +kernel
theorem dX6_undo_8 : decode cX6_undo 8 = .ok (.ldc 154, 2) := by decide +kernel
theorem dX6_undo_10 : decode cX6_undo 10 = .ok (.invokevirtual 64, 3) := by decide +kernel
theorem dX6_undo_13 : decode cX6_undo 13 = .ok (.ireturn, 1) := by decide +kernel
theorem dX6_undo_14 : decode cX6_undo 14 = .ok (.aload_n 0, 1) := by decide +kernel
theorem dX6_undo_15 : decode cX6_undo 15 = .ok (.getfield 10, 3) := by decide +kernel
theorem dX6_undo_18 : decode cX6_undo 18 = .ok (.aload_n 0, 1) := by decide +kernel
theorem dX6_undo_19 : decode cX6_undo 19 = .ok (.getfield 16, 3) := by decide +kernel
theorem dX6_undo_22 : decode cX6_undo 22 = .ok (.invokevirtual 270, 3) := by decide +kernel
theorem dX6_undo_25 : decode cX6_undo 25 = .ok (.aload_n 0, 1) := by decide +kernel
theorem dX6_undo_26 : decode cX6_undo 26 = .ok (.getfield 10, 3) := by decide +kernel
theorem dX6_undo_29 : decode cX6_undo 29 = .ok (.getfield 259, 3) := by decide +kernel
theorem dX6_undo_32 : decode cX6_undo 32 = .ok (.ireturn, 1) := by decide +kernel
theorem dX6_tear_0 : decode cX6_tear 0 = .ok (.aload_n 0, 1) := by decide +kernel
theorem dX6_tear_1 : decode cX6_tear 1 = .ok (.getfield 55, 3) := by decide +kernel
theorem dX6_tear_4 : decode cX6_tear 4 = .ok (.ifCond .eq 7, 3) := by decide +kernel
theorem dX6_tear_7 : decode cX6_tear 7 = .ok (.iconst 1, 1) := by decide +kernel
theorem dX6_tear_8 : decode cX6_tear 8 = .ok (.goto 4, 3) := by decide +kernel
theorem dX6_tear_11 : decode cX6_tear 11 = .ok (.iconst 0, 1) := by decide +kernel
theorem dX6_tear_12 : decode cX6_tear 12 = .ok (.istore_n 1, 1) := by decide +kernel
theorem dX6_tear_13 : decode cX6_tear 13 = .ok (.aload_n 0, 1) := by decide +kernel
theorem dX6_tear_14 : decode cX6_tear 14 = .ok (.iconst 0, 1) := by decide +kernel
theorem dX6_tear_15 : decode cX6_tear 15 = .ok (.putfield 55, 3) := by decide +kernel
theorem dX6_tear_18 : decode cX6_tear 18 = .ok (.iload_n 1, 1) := by decide +kernel
theorem dX6_tear_19 : decode cX6_tear 19 = .ok (.ireturn, 1) := by decide +kernel
theorem dX6_count_0 : decode cX6_count 0 = .ok (.iload_n 1, 1) := by decide +kernel
theorem dX6_count_1 : decode cX6_count 1 = .ok (.tableswitch 75 0 4 #[35, 43, 51, 59, 67], 35) := by decide +kernel
theorem dX6_count_36 : decode cX6_count 36 = .ok (.aload_n 0, 1) := by decide +kernel
theorem dX6_count_37 : decode cX6_count 37 = .ok (.getfield 10, 3) := by decide +kernel
theorem dX6_count_40 : decode cX6_count 40 = .ok (.getfield 259, 3) := by decide +kernel
theorem dX6_count_43 : decode cX6_count 43 = .ok (.ireturn, 1) := by decide +kernel
theorem dX6_count_44 : decode cX6_count 44 = .ok (.aload_n 0, 1) := by decide +kernel
theorem dX6_count_45 : decode cX6_count 45 = .ok (.getfield 10, 3) := by decide +kernel
theorem dX6_count_48 : decode cX6_count 48 = .ok (.invokevirtual 273, 3) := by decide +kernel
theorem dX6_count_51 : decode cX6_count 51 = .ok (.ireturn, 1) := by decide +kernel
theorem dX6_count_52 : decode cX6_count 52 = .ok (.aload_n 0, 1) := by decide +kernel
theorem dX6_count_53 : decode cX6_count 53 = .ok (.getfield 31, 3) := by decide +kernel
theorem dX6_count_56 : decode cX6_count 56 = .ok (.getfield 214, 3) := by decide +kernel
theorem dX6_count_59 : decode cX6_count 59 = .ok (.ireturn, 1) := by decide +kernel
theorem dX6_count_60 : decode cX6_count 60 = .ok (.aload_n 0, 1) := by decide +kernel
theorem dX6_count_61 : decode cX6_count 61 = .ok (.getfield 10, 3) := by decide +kernel
theorem dX6_count_64 : decode cX6_count 64 = .ok (.getfield 139, 3) := by decide +kernel
theorem dX6_count_67 : decode cX6_count 67 = .ok (.ireturn, 1) := by decide +kernel
theorem dX6_count_68 : decode cX6_count 68 = .ok (.aload_n 0, 1) := by decide +kernel
theorem dX6_count_69 : decode cX6_count 69 = .ok (.getfield 10, 3) := by decide +kernel
theorem dX6_count_72 : decode cX6_count 72 = .ok (.invokevirtual 276, 3) := by decide +kernel
theorem dX6_count_75 : decode cX6_count 75 = .ok (.ireturn, 1) := by decide +kernel
theorem dX6_count_76 : decode cX6_count 76 = .ok (.aload_n 0, 1) := by decide +kernel
theorem dX6_count_77 : decode cX6_count 77 = .ok (.ldc 63, 2) := by decide +kernel
theorem dX6_count_79 : decode cX6_count 79 = .ok (.invokevirtual 64, 3) := by decide +kernel
theorem dX6_count_82 : decode cX6_count 82 = .ok (.ireturn, 1) := by decide +kernel
theorem dX6_status_0 : decode cX6_status 0 = .ok (.iload_n 1, 1) := by decide +kernel
theorem dX6_status_1 : decode cX6_status 1 = .ok (.iconst (-1), 1) := by decide +kernel
theorem dX6_status_2 : decode cX6_status 2 = .ok (.if_icmp .lt 9, 3) := by decide +kernel
theorem dX6_status_5 : decode cX6_status 5 = .ok (.iload_n 1, 1) := by decide +kernel
theorem dX6_status_6 : decode cX6_status 6 = .ok (.bipush 7, 2) := by decide +kernel
theorem dX6_status_8 : decode cX6_status 8 = .ok (.if_icmp .lt 10, 3) := by decide +kernel
theorem dX6_status_11 : decode cX6_status 11 = .ok (.aload_n 0, 1) := by decide +kernel
theorem dX6_status_12 : decode cX6_status 12 = .ok (.ldc 63, 2) := by decide +kernel
theorem dX6_status_14 : decode cX6_status 14 = .ok (.invokevirtual 64, 3) := by decide +kernel
theorem dX6_status_17 : decode cX6_status 17 = .ok (.ireturn, 1) := by decide +kernel
theorem dX6_status_18 : decode cX6_status 18 = .ok (.iload_n 1, 1) := by decide +kernel
theorem dX6_status_19 : decode cX6_status 19 = .ok (.ifCond .lt 10, 3) := by decide +kernel
theorem dX6_status_22 : decode cX6_status 22 = .ok (.aload_n 0, 1) := by decide +kernel
theorem dX6_status_23 : decode cX6_status 23 = .ok (.getfield 51, 3) := by decide +kernel
theorem dX6_status_26 : decode cX6_status 26 = .ok (.iload_n 1, 1) := by decide +kernel
theorem dX6_status_27 : decode cX6_status 27 = .ok (.iaload, 1) := by decide +kernel
theorem dX6_status_28 : decode cX6_status 28 = .ok (.ireturn, 1) := by decide +kernel
theorem dX6_status_29 : decode cX6_status 29 = .ok (.iconst 0, 1) := by decide +kernel
theorem dX6_status_30 : decode cX6_status 30 = .ok (.istore_n 2, 1) := by decide +kernel
theorem dX6_status_31 : decode cX6_status 31 = .ok (.iconst 0, 1) := by decide +kernel
theorem dX6_status_32 : decode cX6_status 32 = .ok (.istore_n 3, 1) := by decide +kernel
theorem dX6_status_33 : decode cX6_status 33 = .ok (.iload_n 3, 1) := by decide +kernel
theorem dX6_status_34 : decode cX6_status 34 = .ok (.bipush 7, 2) := by decide +kernel
theorem dX6_status_36 : decode cX6_status 36 = .ok (.if_icmp .ge 18, 3) := by decide +kernel
theorem dX6_status_39 : decode cX6_status 39 = .ok (.iload_n 2, 1) := by decide +kernel
theorem dX6_status_40 : decode cX6_status 40 = .ok (.aload_n 0, 1) := by decide +kernel
theorem dX6_status_41 : decode cX6_status 41 = .ok (.getfield 51, 3) := by decide +kernel
theorem dX6_status_44 : decode cX6_status 44 = .ok (.iload_n 3, 1) := by decide +kernel
theorem dX6_status_45 : decode cX6_status 45 = .ok (.iaload, 1) := by decide +kernel
theorem dX6_status_46 : decode cX6_status 46 = .ok (.iadd, 1) := by decide +kernel
theorem dX6_status_47 : decode cX6_status 47 = .ok (.istore_n 2, 1) := by decide +kernel
theorem dX6_status_48 : decode cX6_status 48 = .ok (.iinc 3 1, 3) := by decide +kernel
theorem dX6_status_51 : decode cX6_status 51 = .ok (.goto (-18), 3) := by decide +kernel
theorem dX6_status_54 : decode cX6_status 54 = .ok (.iload_n 2, 1) := by decide +kernel
theorem dX6_status_55 : decode cX6_status 55 = .ok (.ireturn, 1) := by decide +kernel
theorem dX6_found_0 : decode cX6_found 0 = .ok (.ldc 63, 2) := by decide +kernel
theorem dX6_found_2 : decode cX6_found 2 = .ok (.iload_n 1, 1) := by decide +kernel
theorem dX6_found_3 : decode cX6_found 3 = .ok (.isub, 1) := by decide +kernel
theorem dX6_found_4 : decode cX6_found 4 = .ok (.istore_n 2, 1) := by decide +kernel
theorem dX6_found_5 : decode cX6_found 5 = .ok (.iload_n 2, 1) := by decide +kernel
theorem dX6_found_6 : decode cX6_found 6 = .ok (.ifCond .lt 19, 3) := by decide +kernel
theorem dX6_found_9 : decode cX6_found 9 = .ok (.iload_n 2, 1) := by decide +kernel
theorem dX6_found_10 : decode cX6_found 10 = .ok (.bipush 7, 2) := by decide +kernel
theorem dX6_found_12 : decode cX6_found 12 = .ok (.if_icmp .ge 13, 3) := by decide +kernel
theorem dX6_found_15 : decode cX6_found 15 = .ok (.aload_n 0, 1) := by decide +kernel
theorem dX6_found_16 : decode cX6_found 16 = .ok (.getfield 51, 3) := by decide +kernel
theorem dX6_found_19 : decode cX6_found 19 = .ok (.iload_n 2, 1) := by decide +kernel
theorem dX6_found_20 : decode cX6_found 20 = .ok (.dup2, 1) := by decide +kernel
theorem dX6_found_21 : decode cX6_found 21 = .ok (.iaload, 1) := by decide +kernel
theorem dX6_found_22 : decode cX6_found 22 = .ok (.iconst 1, 1) := by decide +kernel
theorem dX6_found_23 : decode cX6_found 23 = .ok (.iadd, 1) := by decide +kernel
theorem dX6_found_24 : decode cX6_found 24 = .ok (.iastore, 1) := by decide +kernel
theorem dX6_found_25 : decode cX6_found 25 = .ok (.iload_n 1, 1) := by decide +kernel
theorem dX6_found_26 : decode cX6_found 26 = .ok (.ireturn, 1) := by decide +kernel
theorem dX6_printOr_0 : decode cX6_printOr 0 = .ok (.iload_n 2, 1) := by decide +kernel
theorem dX6_printOr_1 : decode cX6_printOr 1 = .ok (.iconst (-1), 1) := by decide +kernel
theorem dX6_printOr_2 : decode cX6_printOr 2 = .ok (.if_icmp .ne 11, 3) := by decide +kernel
theorem dX6_printOr_5 : decode cX6_printOr 5 = .ok (.aload_n 0, 1) := by decide +kernel
theorem dX6_printOr_6 : decode cX6_printOr 6 = .ok (.iload_n 1, 1) := by decide +kernel
theorem dX6_printOr_7 : decode cX6_printOr 7 = .ok (.invokevirtual 64, 3) := by decide +kernel
theorem dX6_printOr_10 : decode cX6_printOr 10 = .ok (.goto 4, 3) := by decide +kernel
theorem dX6_printOr_13 : decode cX6_printOr 13 = .ok (.iload_n 2, 1) := by decide +kernel
theorem dX6_printOr_14 : decode cX6_printOr 14 = .ok (.ireturn, 1) := by decide +kernel
theorem dX6_areTwo_0 : decode cX6_areTwo 0 = .ok (.aload_n 0, 1) := by decide +kernel
theorem dX6_areTwo_1 : decode cX6_areTwo 1 = .ok (.getfield 10, 3) := by decide +kernel
theorem dX6_areTwo_4 : decode cX6_areTwo 4 = .ok (.iload_n 1, 1) := by decide +kernel
theorem dX6_areTwo_5 : decode cX6_areTwo 5 = .ok (.invokevirtual 77, 3) := by decide +kernel
theorem dX6_areTwo_8 : decode cX6_areTwo 8 = .ok (.ifCond .eq 23, 3) := by decide +kernel
theorem dX6_areTwo_11 : decode cX6_areTwo 11 = .ok (.aload_n 0, 1) := by decide +kernel
theorem dX6_areTwo_12 : decode cX6_areTwo 12 = .ok (.getfield 10, 3) := by decide +kernel
theorem dX6_areTwo_15 : decode cX6_areTwo 15 = .ok (.iload_n 2, 1) := by decide +kernel
theorem dX6_areTwo_16 : decode cX6_areTwo 16 = .ok (.invokevirtual 77, 3) := by decide +kernel
theorem dX6_areTwo_19 : decode cX6_areTwo 19 = .ok (.ifCond .eq 12, 3) := by decide +kernel
theorem dX6_areTwo_22 : decode cX6_areTwo 22 = .ok (.iload_n 1, 1) := by decide +kernel
theorem dX6_areTwo_23 : decode cX6_areTwo 23 = .ok (.iload_n 2, 1) := by decide +kernel
theorem dX6_areTwo_24 : decode cX6_areTwo 24 = .ok (.if_icmp .eq 7, 3) := by decide +kernel
theorem dX6_areTwo_27 : decode cX6_areTwo 27 = .ok (.iconst 1, 1) := by decide +kernel
theorem dX6_areTwo_28 : decode cX6_areTwo 28 = .ok (.goto 4, 3) := by decide +kernel
theorem dX6_areTwo_31 : decode cX6_areTwo 31 = .ok (.iconst 0, 1) := by decide +kernel
theorem dX6_areTwo_32 : decode cX6_areTwo 32 = .ok (.ireturn, 1) := by decide +kernel
theorem dX6_isKind_0 : decode cX6_isKind 0 = .ok (.iload_n 0, 1) := by decide +kernel
theorem dX6_isKind_1 : decode cX6_isKind 1 = .ok (.ifCond .lt 13, 3) := by decide +kernel
theorem dX6_isKind_4 : decode cX6_isKind 4 = .ok (.iload_n 0, 1) := by decide +kernel
theorem dX6_isKind_5 : decode cX6_isKind 5 = .ok (.bipush 6, 2) := by decide +kernel
theorem dX6_isKind_7 : decode cX6_isKind 7 = .ok (.if_icmp .ge 7, 3) := by decide +kernel
theorem dX6_isKind_10 : decode cX6_isKind 10 = .ok (.iconst 1, 1) := by decide +kernel
theorem dX6_isKind_11 : decode cX6_isKind 11 = .ok (.goto 4, 3) := by decide +kernel
theorem dX6_isKind_14 : decode cX6_isKind 14 = .ok (.iconst 0, 1) := by decide +kernel
theorem dX6_isKind_15 : decode cX6_isKind 15 = .ok (.ireturn, 1) := by decide +kernel
theorem dX6_isPlace_0 : decode cX6_isPlace 0 = .ok (.iload_n 0, 1) := by decide +kernel
theorem dX6_isPlace_1 : decode cX6_isPlace 1 = .ok (.ifCond .lt 13, 3) := by decide +kernel
theorem dX6_isPlace_4 : decode cX6_isPlace 4 = .ok (.iload_n 0, 1) := by decide +kernel
theorem dX6_isPlace_5 : decode cX6_isPlace 5 = .ok (.bipush 40, 2) := by decide +kernel
theorem dX6_isPlace_7 : decode cX6_isPlace 7 = .ok (.if_icmp .ge 7, 3) := by decide +kernel
theorem dX6_isPlace_10 : decode cX6_isPlace 10 = .ok (.iconst 1, 1) := by decide +kernel
theorem dX6_isPlace_11 : decode cX6_isPlace 11 = .ok (.goto 4, 3) := by decide +kernel
theorem dX6_isPlace_14 : decode cX6_isPlace 14 = .ok (.iconst 0, 1) := by decide +kernel
theorem dX6_isPlace_15 : decode cX6_isPlace 15 = .ok (.ireturn, 1) := by decide +kernel
theorem dX6_isWidth_0 : decode cX6_isWidth 0 = .ok (.iload_n 0, 1) := by decide +kernel
theorem dX6_isWidth_1 : decode cX6_isWidth 1 = .ok (.iconst 1, 1) := by decide +kernel
theorem dX6_isWidth_2 : decode cX6_isWidth 2 = .ok (.if_icmp .lt 14, 3) := by decide +kernel
theorem dX6_isWidth_5 : decode cX6_isWidth 5 = .ok (.iload_n 0, 1) := by decide +kernel
theorem dX6_isWidth_6 : decode cX6_isWidth 6 = .ok (.sipush 9999, 3) := by decide +kernel
theorem dX6_isWidth_9 : decode cX6_isWidth 9 = .ok (.if_icmp .gt 7, 3) := by decide +kernel
theorem dX6_isWidth_12 : decode cX6_isWidth 12 = .ok (.iconst 1, 1) := by decide +kernel
theorem dX6_isWidth_13 : decode cX6_isWidth 13 = .ok (.goto 4, 3) := by decide +kernel
theorem dX6_isWidth_16 : decode cX6_isWidth 16 = .ok (.iconst 0, 1) := by decide +kernel
theorem dX6_isWidth_17 : decode cX6_isWidth 17 = .ok (.ireturn, 1) := by decide +kernel
theorem dX6_isYear_0 : decode cX6_isYear 0 = .ok (.iload_n 0, 1) := by decide +kernel
theorem dX6_isYear_1 : decode cX6_isYear 1 = .ok (.ifCond .lt 14, 3) := by decide +kernel
theorem dX6_isYear_4 : decode cX6_isYear 4 = .ok (.iload_n 0, 1) := by decide +kernel
theorem dX6_isYear_5 : decode cX6_isYear 5 = .ok (.sipush 2000, 3) := by decide +kernel
theorem dX6_isYear_8 : decode cX6_isYear 8 = .ok (.if_icmp .gt 7, 3) := by decide +kernel
theorem dX6_isYear_11 : decode cX6_isYear 11 = .ok (.iconst 1, 1) := by decide +kernel
theorem dX6_isYear_12 : decode cX6_isYear 12 = .ok (.goto 4, 3) := by decide +kernel
theorem dX6_isYear_15 : decode cX6_isYear 15 = .ok (.iconst 0, 1) := by decide +kernel
theorem dX6_isYear_16 : decode cX6_isYear 16 = .ok (.ireturn, 1) := by decide +kernel
theorem dX6_isSlack_0 : decode cX6_isSlack 0 = .ok (.iload_n 0, 1) := by decide +kernel
theorem dX6_isSlack_1 : decode cX6_isSlack 1 = .ok (.ifCond .lt 14, 3) := by decide +kernel
theorem dX6_isSlack_4 : decode cX6_isSlack 4 = .ok (.iload_n 0, 1) := by decide +kernel
theorem dX6_isSlack_5 : decode cX6_isSlack 5 = .ok (.sipush 999, 3) := by decide +kernel
theorem dX6_isSlack_8 : decode cX6_isSlack 8 = .ok (.if_icmp .gt 7, 3) := by decide +kernel
theorem dX6_isSlack_11 : decode cX6_isSlack 11 = .ok (.iconst 1, 1) := by decide +kernel
theorem dX6_isSlack_12 : decode cX6_isSlack 12 = .ok (.goto 4, 3) := by decide +kernel
theorem dX6_isSlack_15 : decode cX6_isSlack 15 = .ok (.iconst 0, 1) := by decide +kernel
theorem dX6_isSlack_16 : decode cX6_isSlack 16 = .ok (.ireturn, 1) := by decide +kernel
theorem dX6_isSheet_0 : decode cX6_isSheet 0 = .ok (.iload_n 0, 1) := by decide +kernel
theorem dX6_isSheet_1 : decode cX6_isSheet 1 = .ok (.ifCond .lt 12, 3) := by decide +kernel
theorem dX6_isSheet_4 : decode cX6_isSheet 4 = .ok (.iload_n 0, 1) := by decide +kernel
theorem dX6_isSheet_5 : decode cX6_isSheet 5 = .ok (.iconst 4, 1) := by decide +kernel
theorem dX6_isSheet_6 : decode cX6_isSheet 6 = .ok (.if_icmp .ge 7, 3) := by decide +kernel
theorem dX6_isSheet_9 : decode cX6_isSheet 9 = .ok (.iconst 1, 1) := by decide +kernel
theorem dX6_isSheet_10 : decode cX6_isSheet 10 = .ok (.goto 4, 3) := by decide +kernel
theorem dX6_isSheet_13 : decode cX6_isSheet 13 = .ok (.iconst 0, 1) := by decide +kernel
theorem dX6_isSheet_14 : decode cX6_isSheet 14 = .ok (.ireturn, 1) := by decide +kernel
theorem dX6_isBits_0 : decode cX6_isBits 0 = .ok (.iload_n 0, 1) := by decide +kernel
theorem dX6_isBits_1 : decode cX6_isBits 1 = .ok (.ifCond .eq 21, 3) := by decide +kernel
theorem dX6_isBits_4 : decode cX6_isBits 4 = .ok (.iload_n 0, 1) := by decide +kernel
theorem dX6_isBits_5 : decode cX6_isBits 5 = .ok (.bipush 8, 2) := by decide +kernel
theorem dX6_isBits_7 : decode cX6_isBits 7 = .ok (.if_icmp .eq 15, 3) := by decide +kernel
theorem dX6_isBits_10 : decode cX6_isBits 10 = .ok (.iload_n 0, 1) := by decide +kernel
theorem dX6_isBits_11 : decode cX6_isBits 11 = .ok (.bipush 16, 2) := by decide +kernel
theorem dX6_isBits_13 : decode cX6_isBits 13 = .ok (.if_icmp .eq 9, 3) := by decide +kernel
theorem dX6_isBits_16 : decode cX6_isBits 16 = .ok (.iload_n 0, 1) := by decide +kernel
theorem dX6_isBits_17 : decode cX6_isBits 17 = .ok (.bipush 64, 2) := by decide +kernel
theorem dX6_isBits_19 : decode cX6_isBits 19 = .ok (.if_icmp .ne 7, 3) := by decide +kernel
theorem dX6_isBits_22 : decode cX6_isBits 22 = .ok (.iconst 1, 1) := by decide +kernel
theorem dX6_isBits_23 : decode cX6_isBits 23 = .ok (.goto 4, 3) := by decide +kernel
theorem dX6_isBits_26 : decode cX6_isBits 26 = .ok (.iconst 0, 1) := by decide +kernel
theorem dX6_isBits_27 : decode cX6_isBits 27 = .ok (.ireturn, 1) := by decide +kernel
theorem dX6_isUnder_0 : decode cX6_isUnder 0 = .ok (.iload_n 0, 1) := by decide +kernel
theorem dX6_isUnder_1 : decode cX6_isUnder 1 = .ok (.istore_n 2, 1) := by decide +kernel
theorem dX6_isUnder_2 : decode cX6_isUnder 2 = .ok (.iconst 0, 1) := by decide +kernel
theorem dX6_isUnder_3 : decode cX6_isUnder 3 = .ok (.istore_n 3, 1) := by decide +kernel
theorem dX6_isUnder_4 : decode cX6_isUnder 4 = .ok (.iload_n 3, 1) := by decide +kernel
theorem dX6_isUnder_5 : decode cX6_isUnder 5 = .ok (.bipush 6, 2) := by decide +kernel
theorem dX6_isUnder_7 : decode cX6_isUnder 7 = .ok (.if_icmp .ge 29, 3) := by decide +kernel
theorem dX6_isUnder_10 : decode cX6_isUnder 10 = .ok (.iload_n 2, 1) := by decide +kernel
theorem dX6_isUnder_11 : decode cX6_isUnder 11 = .ok (.invokestatic 59, 3) := by decide +kernel
theorem dX6_isUnder_14 : decode cX6_isUnder 14 = .ok (.ifCond .eq 22, 3) := by decide +kernel
theorem dX6_isUnder_17 : decode cX6_isUnder 17 = .ok (.iload_n 2, 1) := by decide +kernel
theorem dX6_isUnder_18 : decode cX6_isUnder 18 = .ok (.iload_n 1, 1) := by decide +kernel
theorem dX6_isUnder_19 : decode cX6_isUnder 19 = .ok (.if_icmp .ne 5, 3) := by decide +kernel
theorem dX6_isUnder_22 : decode cX6_isUnder 22 = .ok (.iconst 1, 1) := by decide +kernel
theorem dX6_isUnder_23 : decode cX6_isUnder 23 = .ok (.ireturn, 1) := by decide +kernel
theorem dX6_isUnder_24 : decode cX6_isUnder 24 = .ok (.getstatic 279, 3) := by decide +kernel
theorem dX6_isUnder_27 : decode cX6_isUnder 27 = .ok (.iload_n 2, 1) := by decide +kernel
theorem dX6_isUnder_28 : decode cX6_isUnder 28 = .ok (.iaload, 1) := by decide +kernel
theorem dX6_isUnder_29 : decode cX6_isUnder 29 = .ok (.istore_n 2, 1) := by decide +kernel
theorem dX6_isUnder_30 : decode cX6_isUnder 30 = .ok (.iinc 3 1, 3) := by decide +kernel
theorem dX6_isUnder_33 : decode cX6_isUnder 33 = .ok (.goto (-29), 3) := by decide +kernel
theorem dX6_isUnder_36 : decode cX6_isUnder 36 = .ok (.iconst 0, 1) := by decide +kernel
theorem dX6_isUnder_37 : decode cX6_isUnder 37 = .ok (.ireturn, 1) := by decide +kernel
theorem dJ6_bitCount_0f7a4_0 : decode cJ6_bitCount_0f7a4 0 = .ok (.iload_n 0, 1) := by decide +kernel
theorem dJ6_bitCount_0f7a4_1 : decode cJ6_bitCount_0f7a4 1 = .ok (.iload_n 0, 1) := by decide +kernel
theorem dJ6_bitCount_0f7a4_2 : decode cJ6_bitCount_0f7a4 2 = .ok (.iconst 1, 1) := by decide +kernel
theorem dJ6_bitCount_0f7a4_3 : decode cJ6_bitCount_0f7a4 3 = .ok (.iushr, 1) := by decide +kernel
theorem dJ6_bitCount_0f7a4_4 : decode cJ6_bitCount_0f7a4 4 = .ok (.ldc_w 265, 3) := by decide +kernel
theorem dJ6_bitCount_0f7a4_7 : decode cJ6_bitCount_0f7a4 7 = .ok (.iand, 1) := by decide +kernel
theorem dJ6_bitCount_0f7a4_8 : decode cJ6_bitCount_0f7a4 8 = .ok (.isub, 1) := by decide +kernel
theorem dJ6_bitCount_0f7a4_9 : decode cJ6_bitCount_0f7a4 9 = .ok (.istore_n 0, 1) := by decide +kernel
theorem dJ6_bitCount_0f7a4_10 : decode cJ6_bitCount_0f7a4 10 = .ok (.iload_n 0, 1) := by decide +kernel
theorem dJ6_bitCount_0f7a4_11 : decode cJ6_bitCount_0f7a4 11 = .ok (.ldc_w 266, 3) := by decide +kernel
theorem dJ6_bitCount_0f7a4_14 : decode cJ6_bitCount_0f7a4 14 = .ok (.iand, 1) := by decide +kernel
theorem dJ6_bitCount_0f7a4_15 : decode cJ6_bitCount_0f7a4 15 = .ok (.iload_n 0, 1) := by decide +kernel
theorem dJ6_bitCount_0f7a4_16 : decode cJ6_bitCount_0f7a4 16 = .ok (.iconst 2, 1) := by decide +kernel
theorem dJ6_bitCount_0f7a4_17 : decode cJ6_bitCount_0f7a4 17 = .ok (.iushr, 1) := by decide +kernel
theorem dJ6_bitCount_0f7a4_18 : decode cJ6_bitCount_0f7a4 18 = .ok (.ldc_w 266, 3) := by decide +kernel
theorem dJ6_bitCount_0f7a4_21 : decode cJ6_bitCount_0f7a4 21 = .ok (.iand, 1) := by decide +kernel
theorem dJ6_bitCount_0f7a4_22 : decode cJ6_bitCount_0f7a4 22 = .ok (.iadd, 1) := by decide +kernel
theorem dJ6_bitCount_0f7a4_23 : decode cJ6_bitCount_0f7a4 23 = .ok (.istore_n 0, 1) := by decide +kernel
theorem dJ6_bitCount_0f7a4_24 : decode cJ6_bitCount_0f7a4 24 = .ok (.iload_n 0, 1) := by decide +kernel
theorem dJ6_bitCount_0f7a4_25 : decode cJ6_bitCount_0f7a4 25 = .ok (.iload_n 0, 1) := by decide +kernel
theorem dJ6_bitCount_0f7a4_26 : decode cJ6_bitCount_0f7a4 26 = .ok (.iconst 4, 1) := by decide +kernel
theorem dJ6_bitCount_0f7a4_27 : decode cJ6_bitCount_0f7a4 27 = .ok (.iushr, 1) := by decide +kernel
theorem dJ6_bitCount_0f7a4_28 : decode cJ6_bitCount_0f7a4 28 = .ok (.iadd, 1) := by decide +kernel
theorem dJ6_bitCount_0f7a4_29 : decode cJ6_bitCount_0f7a4 29 = .ok (.ldc_w 267, 3) := by decide +kernel
theorem dJ6_bitCount_0f7a4_32 : decode cJ6_bitCount_0f7a4 32 = .ok (.iand, 1) := by decide +kernel
theorem dJ6_bitCount_0f7a4_33 : decode cJ6_bitCount_0f7a4 33 = .ok (.istore_n 0, 1) := by decide +kernel
theorem dJ6_bitCount_0f7a4_34 : decode cJ6_bitCount_0f7a4 34 = .ok (.iload_n 0, 1) := by decide +kernel
theorem dJ6_bitCount_0f7a4_35 : decode cJ6_bitCount_0f7a4 35 = .ok (.iload_n 0, 1) := by decide +kernel
theorem dJ6_bitCount_0f7a4_36 : decode cJ6_bitCount_0f7a4 36 = .ok (.bipush 8, 2) := by decide +kernel
theorem dJ6_bitCount_0f7a4_38 : decode cJ6_bitCount_0f7a4 38 = .ok (.iushr, 1) := by decide +kernel
theorem dJ6_bitCount_0f7a4_39 : decode cJ6_bitCount_0f7a4 39 = .ok (.iadd, 1) := by decide +kernel
theorem dJ6_bitCount_0f7a4_40 : decode cJ6_bitCount_0f7a4 40 = .ok (.istore_n 0, 1) := by decide +kernel
theorem dJ6_bitCount_0f7a4_41 : decode cJ6_bitCount_0f7a4 41 = .ok (.iload_n 0, 1) := by decide +kernel
theorem dJ6_bitCount_0f7a4_42 : decode cJ6_bitCount_0f7a4 42 = .ok (.iload_n 0, 1) := by decide +kernel
theorem dJ6_bitCount_0f7a4_43 : decode cJ6_bitCount_0f7a4 43 = .ok (.bipush 16, 2) := by decide +kernel
theorem dJ6_bitCount_0f7a4_45 : decode cJ6_bitCount_0f7a4 45 = .ok (.iushr, 1) := by decide +kernel
theorem dJ6_bitCount_0f7a4_46 : decode cJ6_bitCount_0f7a4 46 = .ok (.iadd, 1) := by decide +kernel
theorem dJ6_bitCount_0f7a4_47 : decode cJ6_bitCount_0f7a4 47 = .ok (.istore_n 0, 1) := by decide +kernel
theorem dJ6_bitCount_0f7a4_48 : decode cJ6_bitCount_0f7a4 48 = .ok (.iload_n 0, 1) := by decide +kernel
theorem dJ6_bitCount_0f7a4_49 : decode cJ6_bitCount_0f7a4 49 = .ok (.bipush 63, 2) := by decide +kernel
theorem dJ6_bitCount_0f7a4_51 : decode cJ6_bitCount_0f7a4 51 = .ok (.iand, 1) := by decide +kernel
theorem dJ6_bitCount_0f7a4_52 : decode cJ6_bitCount_0f7a4 52 = .ok (.ireturn, 1) := by decide +kernel
theorem dJ13_bitCount_95d88_0 : decode cJ13_bitCount_95d88 0 = .ok (.lload_n 0, 1) := by decide +kernel
theorem dJ13_bitCount_95d88_1 : decode cJ13_bitCount_95d88 1 = .ok (.lload_n 0, 1) := by decide +kernel
theorem dJ13_bitCount_95d88_2 : decode cJ13_bitCount_95d88 2 = .ok (.iconst 1, 1) := by decide +kernel
theorem dJ13_bitCount_95d88_3 : decode cJ13_bitCount_95d88 3 = .ok (.lushr, 1) := by decide +kernel
theorem dJ13_bitCount_95d88_4 : decode cJ13_bitCount_95d88 4 = .ok (.ldc2_w 314, 3) := by decide +kernel
theorem dJ13_bitCount_95d88_7 : decode cJ13_bitCount_95d88 7 = .ok (.land, 1) := by decide +kernel
theorem dJ13_bitCount_95d88_8 : decode cJ13_bitCount_95d88 8 = .ok (.lsub, 1) := by decide +kernel
theorem dJ13_bitCount_95d88_9 : decode cJ13_bitCount_95d88 9 = .ok (.lstore_n 0, 1) := by decide +kernel
theorem dJ13_bitCount_95d88_10 : decode cJ13_bitCount_95d88 10 = .ok (.lload_n 0, 1) := by decide +kernel
theorem dJ13_bitCount_95d88_11 : decode cJ13_bitCount_95d88 11 = .ok (.ldc2_w 316, 3) := by decide +kernel
theorem dJ13_bitCount_95d88_14 : decode cJ13_bitCount_95d88 14 = .ok (.land, 1) := by decide +kernel
theorem dJ13_bitCount_95d88_15 : decode cJ13_bitCount_95d88 15 = .ok (.lload_n 0, 1) := by decide +kernel
theorem dJ13_bitCount_95d88_16 : decode cJ13_bitCount_95d88 16 = .ok (.iconst 2, 1) := by decide +kernel
theorem dJ13_bitCount_95d88_17 : decode cJ13_bitCount_95d88 17 = .ok (.lushr, 1) := by decide +kernel
theorem dJ13_bitCount_95d88_18 : decode cJ13_bitCount_95d88 18 = .ok (.ldc2_w 316, 3) := by decide +kernel
theorem dJ13_bitCount_95d88_21 : decode cJ13_bitCount_95d88 21 = .ok (.land, 1) := by decide +kernel
theorem dJ13_bitCount_95d88_22 : decode cJ13_bitCount_95d88 22 = .ok (.ladd, 1) := by decide +kernel
theorem dJ13_bitCount_95d88_23 : decode cJ13_bitCount_95d88 23 = .ok (.lstore_n 0, 1) := by decide +kernel
theorem dJ13_bitCount_95d88_24 : decode cJ13_bitCount_95d88 24 = .ok (.lload_n 0, 1) := by decide +kernel
theorem dJ13_bitCount_95d88_25 : decode cJ13_bitCount_95d88 25 = .ok (.lload_n 0, 1) := by decide +kernel
theorem dJ13_bitCount_95d88_26 : decode cJ13_bitCount_95d88 26 = .ok (.iconst 4, 1) := by decide +kernel
theorem dJ13_bitCount_95d88_27 : decode cJ13_bitCount_95d88 27 = .ok (.lushr, 1) := by decide +kernel
theorem dJ13_bitCount_95d88_28 : decode cJ13_bitCount_95d88 28 = .ok (.ladd, 1) := by decide +kernel
theorem dJ13_bitCount_95d88_29 : decode cJ13_bitCount_95d88 29 = .ok (.ldc2_w 318, 3) := by decide +kernel
theorem dJ13_bitCount_95d88_32 : decode cJ13_bitCount_95d88 32 = .ok (.land, 1) := by decide +kernel
theorem dJ13_bitCount_95d88_33 : decode cJ13_bitCount_95d88 33 = .ok (.lstore_n 0, 1) := by decide +kernel
theorem dJ13_bitCount_95d88_34 : decode cJ13_bitCount_95d88 34 = .ok (.lload_n 0, 1) := by decide +kernel
theorem dJ13_bitCount_95d88_35 : decode cJ13_bitCount_95d88 35 = .ok (.lload_n 0, 1) := by decide +kernel
theorem dJ13_bitCount_95d88_36 : decode cJ13_bitCount_95d88 36 = .ok (.bipush 8, 2) := by decide +kernel
theorem dJ13_bitCount_95d88_38 : decode cJ13_bitCount_95d88 38 = .ok (.lushr, 1) := by decide +kernel
theorem dJ13_bitCount_95d88_39 : decode cJ13_bitCount_95d88 39 = .ok (.ladd, 1) := by decide +kernel
theorem dJ13_bitCount_95d88_40 : decode cJ13_bitCount_95d88 40 = .ok (.lstore_n 0, 1) := by decide +kernel
theorem dJ13_bitCount_95d88_41 : decode cJ13_bitCount_95d88 41 = .ok (.lload_n 0, 1) := by decide +kernel
theorem dJ13_bitCount_95d88_42 : decode cJ13_bitCount_95d88 42 = .ok (.lload_n 0, 1) := by decide +kernel
theorem dJ13_bitCount_95d88_43 : decode cJ13_bitCount_95d88 43 = .ok (.bipush 16, 2) := by decide +kernel
theorem dJ13_bitCount_95d88_45 : decode cJ13_bitCount_95d88 45 = .ok (.lushr, 1) := by decide +kernel
theorem dJ13_bitCount_95d88_46 : decode cJ13_bitCount_95d88 46 = .ok (.ladd, 1) := by decide +kernel
theorem dJ13_bitCount_95d88_47 : decode cJ13_bitCount_95d88 47 = .ok (.lstore_n 0, 1) := by decide +kernel
theorem dJ13_bitCount_95d88_48 : decode cJ13_bitCount_95d88 48 = .ok (.lload_n 0, 1) := by decide +kernel
theorem dJ13_bitCount_95d88_49 : decode cJ13_bitCount_95d88 49 = .ok (.lload_n 0, 1) := by decide +kernel
theorem dJ13_bitCount_95d88_50 : decode cJ13_bitCount_95d88 50 = .ok (.bipush 32, 2) := by decide +kernel
theorem dJ13_bitCount_95d88_52 : decode cJ13_bitCount_95d88 52 = .ok (.lushr, 1) := by decide +kernel
theorem dJ13_bitCount_95d88_53 : decode cJ13_bitCount_95d88 53 = .ok (.ladd, 1) := by decide +kernel
theorem dJ13_bitCount_95d88_54 : decode cJ13_bitCount_95d88 54 = .ok (.lstore_n 0, 1) := by decide +kernel
theorem dJ13_bitCount_95d88_55 : decode cJ13_bitCount_95d88 55 = .ok (.lload_n 0, 1) := by decide +kernel
theorem dJ13_bitCount_95d88_56 : decode cJ13_bitCount_95d88 56 = .ok (.l2i, 1) := by decide +kernel
theorem dJ13_bitCount_95d88_57 : decode cJ13_bitCount_95d88 57 = .ok (.bipush 127, 2) := by decide +kernel
theorem dJ13_bitCount_95d88_59 : decode cJ13_bitCount_95d88 59 = .ok (.iand, 1) := by decide +kernel
theorem dJ13_bitCount_95d88_60 : decode cJ13_bitCount_95d88 60 = .ok (.ireturn, 1) := by decide +kernel
theorem dJ9_abs_0f7a4_0 : decode cJ9_abs_0f7a4 0 = .ok (.iload_n 0, 1) := by decide +kernel
theorem dJ9_abs_0f7a4_1 : decode cJ9_abs_0f7a4 1 = .ok (.ifCond .ge 8, 3) := by decide +kernel
theorem dJ9_abs_0f7a4_4 : decode cJ9_abs_0f7a4 4 = .ok (.iload_n 0, 1) := by decide +kernel
theorem dJ9_abs_0f7a4_5 : decode cJ9_abs_0f7a4 5 = .ok (.ineg, 1) := by decide +kernel
theorem dJ9_abs_0f7a4_6 : decode cJ9_abs_0f7a4 6 = .ok (.goto 4, 3) := by decide +kernel
theorem dJ9_abs_0f7a4_9 : decode cJ9_abs_0f7a4 9 = .ok (.iload_n 0, 1) := by decide +kernel
theorem dJ9_abs_0f7a4_10 : decode cJ9_abs_0f7a4 10 = .ok (.ireturn, 1) := by decide +kernel
theorem dJ9_min_7cf53_0 : decode cJ9_min_7cf53 0 = .ok (.iload_n 0, 1) := by decide +kernel
theorem dJ9_min_7cf53_1 : decode cJ9_min_7cf53 1 = .ok (.iload_n 1, 1) := by decide +kernel
theorem dJ9_min_7cf53_2 : decode cJ9_min_7cf53 2 = .ok (.if_icmp .gt 7, 3) := by decide +kernel
theorem dJ9_min_7cf53_5 : decode cJ9_min_7cf53 5 = .ok (.iload_n 0, 1) := by decide +kernel
theorem dJ9_min_7cf53_6 : decode cJ9_min_7cf53 6 = .ok (.goto 4, 3) := by decide +kernel
theorem dJ9_min_7cf53_9 : decode cJ9_min_7cf53 9 = .ok (.iload_n 1, 1) := by decide +kernel
theorem dJ9_min_7cf53_10 : decode cJ9_min_7cf53 10 = .ok (.ireturn, 1) := by decide +kernel
theorem dJ0_length_8abf5_0 : decode cJ0_length_8abf5 0 = .ok (.aload_n 0, 1) := by decide +kernel
theorem dJ0_length_8abf5_1 : decode cJ0_length_8abf5 1 = .ok (.getfield 9, 3) := by decide +kernel
theorem dJ0_length_8abf5_4 : decode cJ0_length_8abf5 4 = .ok (.arraylength, 1) := by decide +kernel
theorem dJ0_length_8abf5_5 : decode cJ0_length_8abf5 5 = .ok (.aload_n 0, 1) := by decide +kernel
theorem dJ0_length_8abf5_6 : decode cJ0_length_8abf5 6 = .ok (.invokevirtual 335, 3) := by decide +kernel
theorem dJ0_length_8abf5_9 : decode cJ0_length_8abf5 9 = .ok (.ishr, 1) := by decide +kernel
theorem dJ0_length_8abf5_10 : decode cJ0_length_8abf5 10 = .ok (.ireturn, 1) := by decide +kernel
theorem dJ0_charAt_5068e_0 : decode cJ0_charAt_5068e 0 = .ok (.aload_n 0, 1) := by decide +kernel
theorem dJ0_charAt_5068e_1 : decode cJ0_charAt_5068e 1 = .ok (.invokevirtual 492, 3) := by decide +kernel
theorem dJ0_charAt_5068e_4 : decode cJ0_charAt_5068e 4 = .ok (.ifCond .eq 12, 3) := by decide +kernel
theorem dJ0_charAt_5068e_7 : decode cJ0_charAt_5068e 7 = .ok (.aload_n 0, 1) := by decide +kernel
theorem dJ0_charAt_5068e_8 : decode cJ0_charAt_5068e 8 = .ok (.getfield 9, 3) := by decide +kernel
theorem dJ0_charAt_5068e_11 : decode cJ0_charAt_5068e 11 = .ok (.iload_n 1, 1) := by decide +kernel
theorem dJ0_charAt_5068e_12 : decode cJ0_charAt_5068e 12 = .ok (.invokestatic 495, 3) := by decide +kernel
theorem dJ0_charAt_5068e_15 : decode cJ0_charAt_5068e 15 = .ok (.ireturn, 1) := by decide +kernel
theorem dJ0_charAt_5068e_16 : decode cJ0_charAt_5068e 16 = .ok (.aload_n 0, 1) := by decide +kernel
theorem dJ0_charAt_5068e_17 : decode cJ0_charAt_5068e 17 = .ok (.getfield 9, 3) := by decide +kernel
theorem dJ0_charAt_5068e_20 : decode cJ0_charAt_5068e 20 = .ok (.iload_n 1, 1) := by decide +kernel
theorem dJ0_charAt_5068e_21 : decode cJ0_charAt_5068e 21 = .ok (.invokestatic 498, 3) := by decide +kernel
theorem dJ0_charAt_5068e_24 : decode cJ0_charAt_5068e 24 = .ok (.ireturn, 1) := by decide +kernel
theorem dJ0_coder_7d493_0 : decode cJ0_coder_7d493 0 = .ok (.getstatic 38, 3) := by decide +kernel
theorem dJ0_coder_7d493_3 : decode cJ0_coder_7d493 3 = .ok (.ifCond .eq 10, 3) := by decide +kernel
theorem dJ0_coder_7d493_6 : decode cJ0_coder_7d493 6 = .ok (.aload_n 0, 1) := by decide +kernel
theorem dJ0_coder_7d493_7 : decode cJ0_coder_7d493 7 = .ok (.getfield 15, 3) := by decide +kernel
theorem dJ0_coder_7d493_10 : decode cJ0_coder_7d493 10 = .ok (.goto 4, 3) := by decide +kernel
theorem dJ0_coder_7d493_13 : decode cJ0_coder_7d493 13 = .ok (.iconst 1, 1) := by decide +kernel
theorem dJ0_coder_7d493_14 : decode cJ0_coder_7d493 14 = .ok (.ireturn, 1) := by decide +kernel
theorem dJ0_isLatin1_aae02_0 : decode cJ0_isLatin1_aae02 0 = .ok (.getstatic 38, 3) := by decide +kernel
theorem dJ0_isLatin1_aae02_3 : decode cJ0_isLatin1_aae02 3 = .ok (.ifCond .eq 14, 3) := by decide +kernel
theorem dJ0_isLatin1_aae02_6 : decode cJ0_isLatin1_aae02 6 = .ok (.aload_n 0, 1) := by decide +kernel
theorem dJ0_isLatin1_aae02_7 : decode cJ0_isLatin1_aae02 7 = .ok (.getfield 15, 3) := by decide +kernel
theorem dJ0_isLatin1_aae02_10 : decode cJ0_isLatin1_aae02 10 = .ok (.ifCond .ne 7, 3) := by decide +kernel
theorem dJ0_isLatin1_aae02_13 : decode cJ0_isLatin1_aae02 13 = .ok (.iconst 1, 1) := by decide +kernel
theorem dJ0_isLatin1_aae02_14 : decode cJ0_isLatin1_aae02 14 = .ok (.goto 4, 3) := by decide +kernel
theorem dJ0_isLatin1_aae02_17 : decode cJ0_isLatin1_aae02 17 = .ok (.iconst 0, 1) := by decide +kernel
theorem dJ0_isLatin1_aae02_18 : decode cJ0_isLatin1_aae02 18 = .ok (.ireturn, 1) := by decide +kernel
theorem dJ0_checkIndex_df160_0 : decode cJ0_checkIndex_df160 0 = .ok (.iload_n 0, 1) := by decide +kernel
theorem dJ0_checkIndex_df160_1 : decode cJ0_checkIndex_df160 1 = .ok (.iload_n 1, 1) := by decide +kernel
theorem dJ0_checkIndex_df160_2 : decode cJ0_checkIndex_df160 2 = .ok (.getstatic 1053, 3) := by decide +kernel
theorem dJ0_checkIndex_df160_5 : decode cJ0_checkIndex_df160 5 = .ok (.invokestatic 1059, 3) := by decide +kernel
theorem dJ0_checkIndex_df160_8 : decode cJ0_checkIndex_df160 8 = .ok (.pop, 1) := by decide +kernel
theorem dJ0_checkIndex_df160_9 : decode cJ0_checkIndex_df160 9 = .ok (.return_, 1) := by decide +kernel
theorem dJ1_charAt_3b067_0 : decode cJ1_charAt_3b067 0 = .ok (.iload_n 1, 1) := by decide +kernel
theorem dJ1_charAt_3b067_1 : decode cJ1_charAt_3b067 1 = .ok (.aload_n 0, 1) := by decide +kernel
theorem dJ1_charAt_3b067_2 : decode cJ1_charAt_3b067 2 = .ok (.arraylength, 1) := by decide +kernel
theorem dJ1_charAt_3b067_3 : decode cJ1_charAt_3b067 3 = .ok (.invokestatic 9, 3) := by decide +kernel
theorem dJ1_charAt_3b067_6 : decode cJ1_charAt_3b067 6 = .ok (.aload_n 0, 1) := by decide +kernel
theorem dJ1_charAt_3b067_7 : decode cJ1_charAt_3b067 7 = .ok (.iload_n 1, 1) := by decide +kernel
theorem dJ1_charAt_3b067_8 : decode cJ1_charAt_3b067 8 = .ok (.baload, 1) := by decide +kernel
theorem dJ1_charAt_3b067_9 : decode cJ1_charAt_3b067 9 = .ok (.sipush 255, 3) := by decide +kernel
theorem dJ1_charAt_3b067_12 : decode cJ1_charAt_3b067 12 = .ok (.iand, 1) := by decide +kernel
theorem dJ1_charAt_3b067_13 : decode cJ1_charAt_3b067 13 = .ok (.i2c, 1) := by decide +kernel
theorem dJ1_charAt_3b067_14 : decode cJ1_charAt_3b067 14 = .ok (.ireturn, 1) := by decide +kernel
theorem dJ2_getChar_3b067_0 : decode cJ2_getChar_3b067 0 = .ok (.getstatic 44, 3) := by decide +kernel
theorem dJ2_getChar_3b067_3 : decode cJ2_getChar_3b067 3 = .ok (.ifCond .ne 25, 3) := by decide +kernel
theorem dJ2_getChar_3b067_6 : decode cJ2_getChar_3b067 6 = .ok (.iload_n 1, 1) := by decide +kernel
theorem dJ2_getChar_3b067_7 : decode cJ2_getChar_3b067 7 = .ok (.ifCond .lt 11, 3) := by decide +kernel
theorem dJ2_getChar_3b067_10 : decode cJ2_getChar_3b067 10 = .ok (.iload_n 1, 1) := by decide +kernel
theorem dJ2_getChar_3b067_11 : decode cJ2_getChar_3b067 11 = .ok (.aload_n 0, 1) := by decide +kernel
theorem dJ2_getChar_3b067_12 : decode cJ2_getChar_3b067 12 = .ok (.invokestatic 48, 3) := by decide +kernel
theorem dJ2_getChar_3b067_15 : decode cJ2_getChar_3b067 15 = .ok (.if_icmp .lt 13, 3) := by decide +kernel
theorem dJ2_getChar_3b067_18 : decode cJ2_getChar_3b067 18 = .ok (.new 52, 3) := by decide +kernel
theorem dJ2_getChar_3b067_21 : decode cJ2_getChar_3b067 21 = .ok (.dup, 1) := by decide +kernel
theorem dJ2_getChar_3b067_22 : decode cJ2_getChar_3b067 22 = .ok (.ldc 54, 2) := by decide +kernel
theorem dJ2_getChar_3b067_24 : decode cJ2_getChar_3b067 24 = .ok (.invokespecial 56, 3) := by decide +kernel
theorem dJ2_getChar_3b067_27 : decode cJ2_getChar_3b067 27 = .ok (.athrow, 1) := by decide +kernel
theorem dJ2_getChar_3b067_28 : decode cJ2_getChar_3b067 28 = .ok (.iload_n 1, 1) := by decide +kernel
theorem dJ2_getChar_3b067_29 : decode cJ2_getChar_3b067 29 = .ok (.iconst 1, 1) := by decide +kernel
theorem dJ2_getChar_3b067_30 : decode cJ2_getChar_3b067 30 = .ok (.ishl, 1) := by decide +kernel
theorem dJ2_getChar_3b067_31 : decode cJ2_getChar_3b067 31 = .ok (.istore_n 1, 1) := by decide +kernel
theorem dJ2_getChar_3b067_32 : decode cJ2_getChar_3b067 32 = .ok (.aload_n 0, 1) := by decide +kernel
theorem dJ2_getChar_3b067_33 : decode cJ2_getChar_3b067 33 = .ok (.iload_n 1, 1) := by decide +kernel
theorem dJ2_getChar_3b067_34 : decode cJ2_getChar_3b067 34 = .ok (.iinc 1 1, 3) := by decide +kernel
theorem dJ2_getChar_3b067_37 : decode cJ2_getChar_3b067 37 = .ok (.baload, 1) := by decide +kernel
theorem dJ2_getChar_3b067_38 : decode cJ2_getChar_3b067 38 = .ok (.sipush 255, 3) := by decide +kernel
theorem dJ2_getChar_3b067_41 : decode cJ2_getChar_3b067 41 = .ok (.iand, 1) := by decide +kernel
theorem dJ2_getChar_3b067_42 : decode cJ2_getChar_3b067 42 = .ok (.getstatic 59, 3) := by decide +kernel
theorem dJ2_getChar_3b067_45 : decode cJ2_getChar_3b067 45 = .ok (.ishl, 1) := by decide +kernel
theorem dJ2_getChar_3b067_46 : decode cJ2_getChar_3b067 46 = .ok (.aload_n 0, 1) := by decide +kernel
theorem dJ2_getChar_3b067_47 : decode cJ2_getChar_3b067 47 = .ok (.iload_n 1, 1) := by decide +kernel
theorem dJ2_getChar_3b067_48 : decode cJ2_getChar_3b067 48 = .ok (.baload, 1) := by decide +kernel
theorem dJ2_getChar_3b067_49 : decode cJ2_getChar_3b067 49 = .ok (.sipush 255, 3) := by decide +kernel
theorem dJ2_getChar_3b067_52 : decode cJ2_getChar_3b067 52 = .ok (.iand, 1) := by decide +kernel
theorem dJ2_getChar_3b067_53 : decode cJ2_getChar_3b067 53 = .ok (.getstatic 63, 3) := by decide +kernel
theorem dJ2_getChar_3b067_56 : decode cJ2_getChar_3b067 56 = .ok (.ishl, 1) := by decide +kernel
theorem dJ2_getChar_3b067_57 : decode cJ2_getChar_3b067 57 = .ok (.ior, 1) := by decide +kernel
theorem dJ2_getChar_3b067_58 : decode cJ2_getChar_3b067 58 = .ok (.i2c, 1) := by decide +kernel
theorem dJ2_getChar_3b067_59 : decode cJ2_getChar_3b067 59 = .ok (.ireturn, 1) := by decide +kernel
theorem dJ2_length_9d52b_0 : decode cJ2_length_9d52b 0 = .ok (.aload_n 0, 1) := by decide +kernel
theorem dJ2_length_9d52b_1 : decode cJ2_length_9d52b 1 = .ok (.arraylength, 1) := by decide +kernel
theorem dJ2_length_9d52b_2 : decode cJ2_length_9d52b 2 = .ok (.iconst 1, 1) := by decide +kernel
theorem dJ2_length_9d52b_3 : decode cJ2_length_9d52b 3 = .ok (.ishr, 1) := by decide +kernel
theorem dJ2_length_9d52b_4 : decode cJ2_length_9d52b 4 = .ok (.ireturn, 1) := by decide +kernel
theorem dJ2_charAt_3b067_0 : decode cJ2_charAt_3b067 0 = .ok (.iload_n 1, 1) := by decide +kernel
theorem dJ2_charAt_3b067_1 : decode cJ2_charAt_3b067 1 = .ok (.aload_n 0, 1) := by decide +kernel
theorem dJ2_charAt_3b067_2 : decode cJ2_charAt_3b067 2 = .ok (.invokestatic 67, 3) := by decide +kernel
theorem dJ2_charAt_3b067_5 : decode cJ2_charAt_3b067 5 = .ok (.aload_n 0, 1) := by decide +kernel
theorem dJ2_charAt_3b067_6 : decode cJ2_charAt_3b067 6 = .ok (.iload_n 1, 1) := by decide +kernel
theorem dJ2_charAt_3b067_7 : decode cJ2_charAt_3b067 7 = .ok (.invokestatic 71, 3) := by decide +kernel
theorem dJ2_charAt_3b067_10 : decode cJ2_charAt_3b067 10 = .ok (.ireturn, 1) := by decide +kernel
theorem dJ2_checkIndex_2214a_0 : decode cJ2_checkIndex_2214a 0 = .ok (.iload_n 0, 1) := by decide +kernel
theorem dJ2_checkIndex_2214a_1 : decode cJ2_checkIndex_2214a 1 = .ok (.aload_n 1, 1) := by decide +kernel
theorem dJ2_checkIndex_2214a_2 : decode cJ2_checkIndex_2214a 2 = .ok (.invokestatic 48, 3) := by decide +kernel
theorem dJ2_checkIndex_2214a_5 : decode cJ2_checkIndex_2214a 5 = .ok (.invokestatic 414, 3) := by decide +kernel
theorem dJ2_checkIndex_2214a_8 : decode cJ2_checkIndex_2214a 8 = .ok (.return_, 1) := by decide +kernel
theorem dJ3_checkIndex_8e157_0 : decode cJ3_checkIndex_8e157 0 = .ok (.iload_n 0, 1) := by decide +kernel
theorem dJ3_checkIndex_8e157_1 : decode cJ3_checkIndex_8e157 1 = .ok (.ifCond .lt 8, 3) := by decide +kernel
theorem dJ3_checkIndex_8e157_4 : decode cJ3_checkIndex_8e157 4 = .ok (.iload_n 0, 1) := by decide +kernel
theorem dJ3_checkIndex_8e157_5 : decode cJ3_checkIndex_8e157 5 = .ok (.iload_n 1, 1) := by decide +kernel
theorem dJ3_checkIndex_8e157_6 : decode cJ3_checkIndex_8e157 6 = .ok (.if_icmp .lt 10, 3) := by decide +kernel
theorem dJ3_checkIndex_8e157_9 : decode cJ3_checkIndex_8e157 9 = .ok (.aload_n 2, 1) := by decide +kernel
theorem dJ3_checkIndex_8e157_10 : decode cJ3_checkIndex_8e157 10 = .ok (.iload_n 0, 1) := by decide +kernel
theorem dJ3_checkIndex_8e157_11 : decode cJ3_checkIndex_8e157 11 = .ok (.iload_n 1, 1) := by decide +kernel
theorem dJ3_checkIndex_8e157_12 : decode cJ3_checkIndex_8e157 12 = .ok (.invokestatic 95, 3) := by decide +kernel
theorem dJ3_checkIndex_8e157_15 : decode cJ3_checkIndex_8e157 15 = .ok (.athrow, 1) := by decide +kernel
theorem dJ3_checkIndex_8e157_16 : decode cJ3_checkIndex_8e157 16 = .ok (.iload_n 0, 1) := by decide +kernel
theorem dJ3_checkIndex_8e157_17 : decode cJ3_checkIndex_8e157 17 = .ok (.ireturn, 1) := by decide +kernel
