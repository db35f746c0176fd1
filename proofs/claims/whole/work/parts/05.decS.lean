theorem d_Shapes_init_0 : decode b_Shapes_init 0 = .ok (.aload_n 0, 1) := by decide +kernel
theorem d_Shapes_init_1 : decode b_Shapes_init 1 = .ok (.invokespecial 3, 3) := by decide +kernel
theorem d_Shapes_init_4 : decode b_Shapes_init 4 = .ok (.aload_n 0, 1) := by decide +kernel
theorem d_Shapes_init_5 : decode b_Shapes_init 5 = .ok (.aload_n 1, 1) := by decide +kernel
theorem d_Shapes_init_6 : decode b_Shapes_init 6 = .ok (.putfield 9, 3) := by decide +kernel
theorem d_Shapes_init_9 : decode b_Shapes_init 9 = .ok (.return_, 1) := by decide +kernel
theorem d_Shapes_isDigit_0 : decode b_Shapes_isDigit 0 = .ok (.iload_n 0, 1) := by decide +kernel
theorem d_Shapes_isDigit_1 : decode b_Shapes_isDigit 1 = .ok (.bipush 48, 2) := by decide +kernel
theorem d_Shapes_isDigit_3 : decode b_Shapes_isDigit 3 = .ok (.if_icmp .lt 23, 3) := by decide +kernel
theorem d_Shapes_isDigit_6 : decode b_Shapes_isDigit 6 = .ok (.iload_n 0, 1) := by decide +kernel
theorem d_Shapes_isDigit_7 : decode b_Shapes_isDigit 7 = .ok (.bipush 57, 2) := by decide +kernel
theorem d_Shapes_isDigit_9 : decode b_Shapes_isDigit 9 = .ok (.if_icmp .gt 17, 3) := by decide +kernel
theorem d_Shapes_isDigit_12 : decode b_Shapes_isDigit 12 = .ok (.iload_n 0, 1) := by decide +kernel
theorem d_Shapes_isDigit_13 : decode b_Shapes_isDigit 13 = .ok (.bipush 48, 2) := by decide +kernel
theorem d_Shapes_isDigit_15 : decode b_Shapes_isDigit 15 = .ok (.isub, 1) := by decide +kernel
theorem d_Shapes_isDigit_16 : decode b_Shapes_isDigit 16 = .ok (.iload_n 1, 1) := by decide +kernel
theorem d_Shapes_isDigit_17 : decode b_Shapes_isDigit 17 = .ok (.if_icmp .ge 7, 3) := by decide +kernel
theorem d_Shapes_isDigit_20 : decode b_Shapes_isDigit 20 = .ok (.iconst 1, 1) := by decide +kernel
theorem d_Shapes_isDigit_21 : decode b_Shapes_isDigit 21 = .ok (.goto 4, 3) := by decide +kernel
theorem d_Shapes_isDigit_24 : decode b_Shapes_isDigit 24 = .ok (.iconst 0, 1) := by decide +kernel
theorem d_Shapes_isDigit_25 : decode b_Shapes_isDigit 25 = .ok (.ireturn, 1) := by decide +kernel
theorem d_Shapes_isDigit_26 : decode b_Shapes_isDigit 26 = .ok (.iload_n 1, 1) := by decide +kernel
theorem d_Shapes_isDigit_27 : decode b_Shapes_isDigit 27 = .ok (.bipush 16, 2) := by decide +kernel
theorem d_Shapes_isDigit_29 : decode b_Shapes_isDigit 29 = .ok (.if_icmp .ne 31, 3) := by decide +kernel
theorem d_Shapes_isDigit_32 : decode b_Shapes_isDigit 32 = .ok (.iload_n 0, 1) := by decide +kernel
theorem d_Shapes_isDigit_33 : decode b_Shapes_isDigit 33 = .ok (.bipush 97, 2) := by decide +kernel
theorem d_Shapes_isDigit_35 : decode b_Shapes_isDigit 35 = .ok (.if_icmp .lt 9, 3) := by decide +kernel
theorem d_Shapes_isDigit_38 : decode b_Shapes_isDigit 38 = .ok (.iload_n 0, 1) := by decide +kernel
theorem d_Shapes_isDigit_39 : decode b_Shapes_isDigit 39 = .ok (.bipush 102, 2) := by decide +kernel
theorem d_Shapes_isDigit_41 : decode b_Shapes_isDigit 41 = .ok (.if_icmp .le 15, 3) := by decide +kernel
theorem d_Shapes_isDigit_44 : decode b_Shapes_isDigit 44 = .ok (.iload_n 0, 1) := by decide +kernel
theorem d_Shapes_isDigit_45 : decode b_Shapes_isDigit 45 = .ok (.bipush 65, 2) := by decide +kernel
theorem d_Shapes_isDigit_47 : decode b_Shapes_isDigit 47 = .ok (.if_icmp .lt 13, 3) := by decide +kernel
theorem d_Shapes_isDigit_50 : decode b_Shapes_isDigit 50 = .ok (.iload_n 0, 1) := by decide +kernel
theorem d_Shapes_isDigit_51 : decode b_Shapes_isDigit 51 = .ok (.bipush 70, 2) := by decide +kernel
theorem d_Shapes_isDigit_53 : decode b_Shapes_isDigit 53 = .ok (.if_icmp .gt 7, 3) := by decide +kernel
theorem d_Shapes_isDigit_56 : decode b_Shapes_isDigit 56 = .ok (.iconst 1, 1) := by decide +kernel
theorem d_Shapes_isDigit_57 : decode b_Shapes_isDigit 57 = .ok (.goto 4, 3) := by decide +kernel
theorem d_Shapes_isDigit_60 : decode b_Shapes_isDigit 60 = .ok (.iconst 0, 1) := by decide +kernel
theorem d_Shapes_isDigit_61 : decode b_Shapes_isDigit 61 = .ok (.ireturn, 1) := by decide +kernel
theorem d_Shapes_beginsName_0 : decode b_Shapes_beginsName 0 = .ok (.iload_n 0, 1) := by decide +kernel
theorem d_Shapes_beginsName_1 : decode b_Shapes_beginsName 1 = .ok (.bipush 97, 2) := by decide +kernel
theorem d_Shapes_beginsName_3 : decode b_Shapes_beginsName 3 = .ok (.if_icmp .lt 9, 3) := by decide +kernel
theorem d_Shapes_beginsName_6 : decode b_Shapes_beginsName 6 = .ok (.iload_n 0, 1) := by decide +kernel
theorem d_Shapes_beginsName_7 : decode b_Shapes_beginsName 7 = .ok (.bipush 122, 2) := by decide +kernel
theorem d_Shapes_beginsName_9 : decode b_Shapes_beginsName 9 = .ok (.if_icmp .le 21, 3) := by decide +kernel
theorem d_Shapes_beginsName_12 : decode b_Shapes_beginsName 12 = .ok (.iload_n 0, 1) := by decide +kernel
theorem d_Shapes_beginsName_13 : decode b_Shapes_beginsName 13 = .ok (.bipush 65, 2) := by decide +kernel
theorem d_Shapes_beginsName_15 : decode b_Shapes_beginsName 15 = .ok (.if_icmp .lt 9, 3) := by decide +kernel
theorem d_Shapes_beginsName_18 : decode b_Shapes_beginsName 18 = .ok (.iload_n 0, 1) := by decide +kernel
theorem d_Shapes_beginsName_19 : decode b_Shapes_beginsName 19 = .ok (.bipush 90, 2) := by decide +kernel
theorem d_Shapes_beginsName_21 : decode b_Shapes_beginsName 21 = .ok (.if_icmp .le 9, 3) := by decide +kernel
theorem d_Shapes_beginsName_24 : decode b_Shapes_beginsName 24 = .ok (.iload_n 0, 1) := by decide +kernel
theorem d_Shapes_beginsName_25 : decode b_Shapes_beginsName 25 = .ok (.bipush 95, 2) := by decide +kernel
theorem d_Shapes_beginsName_27 : decode b_Shapes_beginsName 27 = .ok (.if_icmp .ne 7, 3) := by decide +kernel
theorem d_Shapes_beginsName_30 : decode b_Shapes_beginsName 30 = .ok (.iconst 1, 1) := by decide +kernel
theorem d_Shapes_beginsName_31 : decode b_Shapes_beginsName 31 = .ok (.goto 4, 3) := by decide +kernel
theorem d_Shapes_beginsName_34 : decode b_Shapes_beginsName 34 = .ok (.iconst 0, 1) := by decide +kernel
theorem d_Shapes_beginsName_35 : decode b_Shapes_beginsName 35 = .ok (.ireturn, 1) := by decide +kernel
theorem d_Shapes_continuesName_0 : decode b_Shapes_continuesName 0 = .ok (.iload_n 0, 1) := by decide +kernel
theorem d_Shapes_continuesName_1 : decode b_Shapes_continuesName 1 = .ok (.invokestatic 15, 3) := by decide +kernel
theorem d_Shapes_continuesName_4 : decode b_Shapes_continuesName 4 = .ok (.ifCond .ne 12, 3) := by decide +kernel
theorem d_Shapes_continuesName_7 : decode b_Shapes_continuesName 7 = .ok (.iload_n 0, 1) := by decide +kernel
theorem d_Shapes_continuesName_8 : decode b_Shapes_continuesName 8 = .ok (.bipush 10, 2) := by decide +kernel
theorem d_Shapes_continuesName_10 : decode b_Shapes_continuesName 10 = .ok (.invokestatic 19, 3) := by decide +kernel
theorem d_Shapes_continuesName_13 : decode b_Shapes_continuesName 13 = .ok (.ifCond .eq 7, 3) := by decide +kernel
theorem d_Shapes_continuesName_16 : decode b_Shapes_continuesName 16 = .ok (.iconst 1, 1) := by decide +kernel
theorem d_Shapes_continuesName_17 : decode b_Shapes_continuesName 17 = .ok (.goto 4, 3) := by decide +kernel
theorem d_Shapes_continuesName_20 : decode b_Shapes_continuesName 20 = .ok (.iconst 0, 1) := by decide +kernel
theorem d_Shapes_continuesName_21 : decode b_Shapes_continuesName 21 = .ok (.ireturn, 1) := by decide +kernel
theorem d_Shapes_nameEnd_0 : decode b_Shapes_nameEnd 0 = .ok (.iload_n 1, 1) := by decide +kernel
theorem d_Shapes_nameEnd_1 : decode b_Shapes_nameEnd 1 = .ok (.istore_n 2, 1) := by decide +kernel
theorem d_Shapes_nameEnd_2 : decode b_Shapes_nameEnd 2 = .ok (.iload_n 2, 1) := by decide +kernel
theorem d_Shapes_nameEnd_3 : decode b_Shapes_nameEnd 3 = .ok (.aload_n 0, 1) := by decide +kernel
theorem d_Shapes_nameEnd_4 : decode b_Shapes_nameEnd 4 = .ok (.getfield 9, 3) := by decide +kernel
theorem d_Shapes_nameEnd_7 : decode b_Shapes_nameEnd 7 = .ok (.invokevirtual 23, 3) := by decide +kernel
theorem d_Shapes_nameEnd_10 : decode b_Shapes_nameEnd 10 = .ok (.if_icmp .ge 23, 3) := by decide +kernel
theorem d_Shapes_nameEnd_13 : decode b_Shapes_nameEnd 13 = .ok (.aload_n 0, 1) := by decide +kernel
theorem d_Shapes_nameEnd_14 : decode b_Shapes_nameEnd 14 = .ok (.getfield 9, 3) := by decide +kernel
theorem d_Shapes_nameEnd_17 : decode b_Shapes_nameEnd 17 = .ok (.iload_n 2, 1) := by decide +kernel
theorem d_Shapes_nameEnd_18 : decode b_Shapes_nameEnd 18 = .ok (.invokevirtual 29, 3) := by decide +kernel
theorem d_Shapes_nameEnd_21 : decode b_Shapes_nameEnd 21 = .ok (.invokestatic 33, 3) := by decide +kernel
theorem d_Shapes_nameEnd_24 : decode b_Shapes_nameEnd 24 = .ok (.ifCond .eq 9, 3) := by decide +kernel
theorem d_Shapes_nameEnd_27 : decode b_Shapes_nameEnd 27 = .ok (.iinc 2 1, 3) := by decide +kernel
theorem d_Shapes_nameEnd_30 : decode b_Shapes_nameEnd 30 = .ok (.goto (-28), 3) := by decide +kernel
theorem d_Shapes_nameEnd_33 : decode b_Shapes_nameEnd 33 = .ok (.iload_n 2, 1) := by decide +kernel
theorem d_Shapes_nameEnd_34 : decode b_Shapes_nameEnd 34 = .ok (.ireturn, 1) := by decide +kernel
theorem d_Shapes_nameKind_0 : decode b_Shapes_nameKind 0 = .ok (.iconst 0, 1) := by decide +kernel
theorem d_Shapes_nameKind_1 : decode b_Shapes_nameKind 1 = .ok (.istore_n 3, 1) := by decide +kernel
theorem d_Shapes_nameKind_2 : decode b_Shapes_nameKind 2 = .ok (.iload_n 3, 1) := by decide +kernel
theorem d_Shapes_nameKind_3 : decode b_Shapes_nameKind 3 = .ok (.getstatic 36, 3) := by decide +kernel
theorem d_Shapes_nameKind_6 : decode b_Shapes_nameKind 6 = .ok (.arraylength, 1) := by decide +kernel
theorem d_Shapes_nameKind_7 : decode b_Shapes_nameKind 7 = .ok (.if_icmp .ge 31, 3) := by decide +kernel
theorem d_Shapes_nameKind_10 : decode b_Shapes_nameKind 10 = .ok (.aload_n 0, 1) := by decide +kernel
theorem d_Shapes_nameKind_11 : decode b_Shapes_nameKind 11 = .ok (.getstatic 36, 3) := by decide +kernel
theorem d_Shapes_nameKind_14 : decode b_Shapes_nameKind 14 = .ok (.iload_n 3, 1) := by decide +kernel
theorem d_Shapes_nameKind_15 : decode b_Shapes_nameKind 15 = .ok (.aaload, 1) := by decide +kernel
theorem d_Shapes_nameKind_16 : decode b_Shapes_nameKind 16 = .ok (.getfield 42, 3) := by decide +kernel
theorem d_Shapes_nameKind_19 : decode b_Shapes_nameKind 19 = .ok (.iload_n 1, 1) := by decide +kernel
theorem d_Shapes_nameKind_20 : decode b_Shapes_nameKind 20 = .ok (.iload_n 2, 1) := by decide +kernel
theorem d_Shapes_nameKind_21 : decode b_Shapes_nameKind 21 = .ok (.invokevirtual 46, 3) := by decide +kernel
theorem d_Shapes_nameKind_24 : decode b_Shapes_nameKind 24 = .ok (.ifCond .eq 8, 3) := by decide +kernel
theorem d_Shapes_nameKind_27 : decode b_Shapes_nameKind 27 = .ok (.bipush 8, 2) := by decide +kernel
theorem d_Shapes_nameKind_29 : decode b_Shapes_nameKind 29 = .ok (.iload_n 3, 1) := by decide +kernel
theorem d_Shapes_nameKind_30 : decode b_Shapes_nameKind 30 = .ok (.iadd, 1) := by decide +kernel
theorem d_Shapes_nameKind_31 : decode b_Shapes_nameKind 31 = .ok (.ireturn, 1) := by decide +kernel
theorem d_Shapes_nameKind_32 : decode b_Shapes_nameKind 32 = .ok (.iinc 3 1, 3) := by decide +kernel
theorem d_Shapes_nameKind_35 : decode b_Shapes_nameKind 35 = .ok (.goto (-33), 3) := by decide +kernel
theorem d_Shapes_nameKind_38 : decode b_Shapes_nameKind 38 = .ok (.iconst 4, 1) := by decide +kernel
theorem d_Shapes_nameKind_39 : decode b_Shapes_nameKind 39 = .ok (.ireturn, 1) := by decide +kernel
theorem d_Shapes_isSpelled_0 : decode b_Shapes_isSpelled 0 = .ok (.aload_n 1, 1) := by decide +kernel
theorem d_Shapes_isSpelled_1 : decode b_Shapes_isSpelled 1 = .ok (.invokevirtual 50, 3) := by decide +kernel
theorem d_Shapes_isSpelled_4 : decode b_Shapes_isSpelled 4 = .ok (.iload_n 3, 1) := by decide +kernel
theorem d_Shapes_isSpelled_5 : decode b_Shapes_isSpelled 5 = .ok (.iload_n 2, 1) := by decide +kernel
theorem d_Shapes_isSpelled_6 : decode b_Shapes_isSpelled 6 = .ok (.isub, 1) := by decide +kernel
theorem d_Shapes_isSpelled_7 : decode b_Shapes_isSpelled 7 = .ok (.if_icmp .eq 5, 3) := by decide +kernel
theorem d_Shapes_isSpelled_10 : decode b_Shapes_isSpelled 10 = .ok (.iconst 0, 1) := by decide +kernel
theorem d_Shapes_isSpelled_11 : decode b_Shapes_isSpelled 11 = .ok (.ireturn, 1) := by decide +kernel
theorem d_Shapes_isSpelled_12 : decode b_Shapes_isSpelled 12 = .ok (.iconst 0, 1) := by decide +kernel
theorem d_Shapes_isSpelled_13 : decode b_Shapes_isSpelled 13 = .ok (.istore 4, 2) := by decide +kernel
theorem d_Shapes_isSpelled_15 : decode b_Shapes_isSpelled 15 = .ok (.iload 4, 2) := by decide +kernel
theorem d_Shapes_isSpelled_17 : decode b_Shapes_isSpelled 17 = .ok (.aload_n 1, 1) := by decide +kernel
theorem d_Shapes_isSpelled_18 : decode b_Shapes_isSpelled 18 = .ok (.invokevirtual 50, 3) := by decide +kernel
theorem d_Shapes_isSpelled_21 : decode b_Shapes_isSpelled 21 = .ok (.if_icmp .ge 31, 3) := by decide +kernel
theorem d_Shapes_isSpelled_24 : decode b_Shapes_isSpelled 24 = .ok (.aload_n 1, 1) := by decide +kernel
theorem d_Shapes_isSpelled_25 : decode b_Shapes_isSpelled 25 = .ok (.iload 4, 2) := by decide +kernel
theorem d_Shapes_isSpelled_27 : decode b_Shapes_isSpelled 27 = .ok (.invokevirtual 55, 3) := by decide +kernel
theorem d_Shapes_isSpelled_30 : decode b_Shapes_isSpelled 30 = .ok (.aload_n 0, 1) := by decide +kernel
theorem d_Shapes_isSpelled_31 : decode b_Shapes_isSpelled 31 = .ok (.getfield 9, 3) := by decide +kernel
theorem d_Shapes_isSpelled_34 : decode b_Shapes_isSpelled 34 = .ok (.iload_n 2, 1) := by decide +kernel
theorem d_Shapes_isSpelled_35 : decode b_Shapes_isSpelled 35 = .ok (.iload 4, 2) := by decide +kernel
theorem d_Shapes_isSpelled_37 : decode b_Shapes_isSpelled 37 = .ok (.iadd, 1) := by decide +kernel
theorem d_Shapes_isSpelled_38 : decode b_Shapes_isSpelled 38 = .ok (.invokevirtual 29, 3) := by decide +kernel
theorem d_Shapes_isSpelled_41 : decode b_Shapes_isSpelled 41 = .ok (.if_icmp .eq 5, 3) := by decide +kernel
theorem d_Shapes_isSpelled_44 : decode b_Shapes_isSpelled 44 = .ok (.iconst 0, 1) := by decide +kernel
theorem d_Shapes_isSpelled_45 : decode b_Shapes_isSpelled 45 = .ok (.ireturn, 1) := by decide +kernel
theorem d_Shapes_isSpelled_46 : decode b_Shapes_isSpelled 46 = .ok (.iinc 4 1, 3) := by decide +kernel
theorem d_Shapes_isSpelled_49 : decode b_Shapes_isSpelled 49 = .ok (.goto (-34), 3) := by decide +kernel
theorem d_Shapes_isSpelled_52 : decode b_Shapes_isSpelled 52 = .ok (.iconst 1, 1) := by decide +kernel
theorem d_Shapes_isSpelled_53 : decode b_Shapes_isSpelled 53 = .ok (.ireturn, 1) := by decide +kernel
theorem d_Shapes_beginsNumber_0 : decode b_Shapes_beginsNumber 0 = .ok (.aload_n 0, 1) := by decide +kernel
theorem d_Shapes_beginsNumber_1 : decode b_Shapes_beginsNumber 1 = .ok (.getfield 9, 3) := by decide +kernel
theorem d_Shapes_beginsNumber_4 : decode b_Shapes_beginsNumber 4 = .ok (.iload_n 1, 1) := by decide +kernel
theorem d_Shapes_beginsNumber_5 : decode b_Shapes_beginsNumber 5 = .ok (.invokevirtual 29, 3) := by decide +kernel
theorem d_Shapes_beginsNumber_8 : decode b_Shapes_beginsNumber 8 = .ok (.istore_n 2, 1) := by decide +kernel
theorem d_Shapes_beginsNumber_9 : decode b_Shapes_beginsNumber 9 = .ok (.iload_n 2, 1) := by decide +kernel
theorem d_Shapes_beginsNumber_10 : decode b_Shapes_beginsNumber 10 = .ok (.bipush 10, 2) := by decide +kernel
theorem d_Shapes_beginsNumber_12 : decode b_Shapes_beginsNumber 12 = .ok (.invokestatic 19, 3) := by decide +kernel
theorem d_Shapes_beginsNumber_15 : decode b_Shapes_beginsNumber 15 = .ok (.ifCond .ne 27, 3) := by decide +kernel
theorem d_Shapes_beginsNumber_18 : decode b_Shapes_beginsNumber 18 = .ok (.iload_n 2, 1) := by decide +kernel
theorem d_Shapes_beginsNumber_19 : decode b_Shapes_beginsNumber 19 = .ok (.bipush 46, 2) := by decide +kernel
theorem d_Shapes_beginsNumber_21 : decode b_Shapes_beginsNumber 21 = .ok (.if_icmp .ne 25, 3) := by decide +kernel
theorem d_Shapes_beginsNumber_24 : decode b_Shapes_beginsNumber 24 = .ok (.aload_n 0, 1) := by decide +kernel
theorem d_Shapes_beginsNumber_25 : decode b_Shapes_beginsNumber 25 = .ok (.getfield 9, 3) := by decide +kernel
theorem d_Shapes_beginsNumber_28 : decode b_Shapes_beginsNumber 28 = .ok (.iload_n 1, 1) := by decide +kernel
theorem d_Shapes_beginsNumber_29 : decode b_Shapes_beginsNumber 29 = .ok (.iconst 1, 1) := by decide +kernel
theorem d_Shapes_beginsNumber_30 : decode b_Shapes_beginsNumber 30 = .ok (.iadd, 1) := by decide +kernel
theorem d_Shapes_beginsNumber_31 : decode b_Shapes_beginsNumber 31 = .ok (.invokevirtual 29, 3) := by decide +kernel
theorem d_Shapes_beginsNumber_34 : decode b_Shapes_beginsNumber 34 = .ok (.bipush 10, 2) := by decide +kernel
theorem d_Shapes_beginsNumber_36 : decode b_Shapes_beginsNumber 36 = .ok (.invokestatic 19, 3) := by decide +kernel
theorem d_Shapes_beginsNumber_39 : decode b_Shapes_beginsNumber 39 = .ok (.ifCond .eq 7, 3) := by decide +kernel
theorem d_Shapes_beginsNumber_42 : decode b_Shapes_beginsNumber 42 = .ok (.iconst 1, 1) := by decide +kernel
theorem d_Shapes_beginsNumber_43 : decode b_Shapes_beginsNumber 43 = .ok (.goto 4, 3) := by decide +kernel
theorem d_Shapes_beginsNumber_46 : decode b_Shapes_beginsNumber 46 = .ok (.iconst 0, 1) := by decide +kernel
theorem d_Shapes_beginsNumber_47 : decode b_Shapes_beginsNumber 47 = .ok (.ireturn, 1) := by decide +kernel
theorem d_Shapes_numberEnd_0 : decode b_Shapes_numberEnd 0 = .ok (.aload_n 0, 1) := by decide +kernel
theorem d_Shapes_numberEnd_1 : decode b_Shapes_numberEnd 1 = .ok (.iload_n 1, 1) := by decide +kernel
theorem d_Shapes_numberEnd_2 : decode b_Shapes_numberEnd 2 = .ok (.invokevirtual 59, 3) := by decide +kernel
theorem d_Shapes_numberEnd_5 : decode b_Shapes_numberEnd 5 = .ok (.istore_n 2, 1) := by decide +kernel
theorem d_Shapes_numberEnd_6 : decode b_Shapes_numberEnd 6 = .ok (.iload_n 2, 1) := by decide +kernel
theorem d_Shapes_numberEnd_7 : decode b_Shapes_numberEnd 7 = .ok (.bipush 10, 2) := by decide +kernel
theorem d_Shapes_numberEnd_9 : decode b_Shapes_numberEnd 9 = .ok (.if_icmp .ne 13, 3) := by decide +kernel
theorem d_Shapes_numberEnd_12 : decode b_Shapes_numberEnd 12 = .ok (.aload_n 0, 1) := by decide +kernel
theorem d_Shapes_numberEnd_13 : decode b_Shapes_numberEnd 13 = .ok (.iload_n 1, 1) := by decide +kernel
theorem d_Shapes_numberEnd_14 : decode b_Shapes_numberEnd 14 = .ok (.bipush 10, 2) := by decide +kernel
theorem d_Shapes_numberEnd_16 : decode b_Shapes_numberEnd 16 = .ok (.invokevirtual 62, 3) := by decide +kernel
theorem d_Shapes_numberEnd_19 : decode b_Shapes_numberEnd 19 = .ok (.goto 9, 3) := by decide +kernel
theorem d_Shapes_numberEnd_22 : decode b_Shapes_numberEnd 22 = .ok (.aload_n 0, 1) := by decide +kernel
theorem d_Shapes_numberEnd_23 : decode b_Shapes_numberEnd 23 = .ok (.iload_n 1, 1) := by decide +kernel
theorem d_Shapes_numberEnd_24 : decode b_Shapes_numberEnd 24 = .ok (.iload_n 2, 1) := by decide +kernel
theorem d_Shapes_numberEnd_25 : decode b_Shapes_numberEnd 25 = .ok (.invokevirtual 66, 3) := by decide +kernel
theorem d_Shapes_numberEnd_28 : decode b_Shapes_numberEnd 28 = .ok (.istore_n 3, 1) := by decide +kernel
theorem d_Shapes_numberEnd_29 : decode b_Shapes_numberEnd 29 = .ok (.iload_n 2, 1) := by decide +kernel
theorem d_Shapes_numberEnd_30 : decode b_Shapes_numberEnd 30 = .ok (.bipush 10, 2) := by decide +kernel
theorem d_Shapes_numberEnd_32 : decode b_Shapes_numberEnd 32 = .ok (.if_icmp .ne 30, 3) := by decide +kernel
theorem d_Shapes_numberEnd_35 : decode b_Shapes_numberEnd 35 = .ok (.iload_n 3, 1) := by decide +kernel
theorem d_Shapes_numberEnd_36 : decode b_Shapes_numberEnd 36 = .ok (.istore 4, 2) := by decide +kernel
theorem d_Shapes_numberEnd_38 : decode b_Shapes_numberEnd 38 = .ok (.aload_n 0, 1) := by decide +kernel
theorem d_Shapes_numberEnd_39 : decode b_Shapes_numberEnd 39 = .ok (.iload 4, 2) := by decide +kernel
theorem d_Shapes_numberEnd_41 : decode b_Shapes_numberEnd 41 = .ok (.invokevirtual 69, 3) := by decide +kernel
theorem d_Shapes_numberEnd_44 : decode b_Shapes_numberEnd 44 = .ok (.istore_n 3, 1) := by decide +kernel
theorem d_Shapes_numberEnd_45 : decode b_Shapes_numberEnd 45 = .ok (.iload_n 3, 1) := by decide +kernel
theorem d_Shapes_numberEnd_46 : decode b_Shapes_numberEnd 46 = .ok (.iload 4, 2) := by decide +kernel
theorem d_Shapes_numberEnd_48 : decode b_Shapes_numberEnd 48 = .ok (.if_icmp .ne 14, 3) := by decide +kernel
theorem d_Shapes_numberEnd_51 : decode b_Shapes_numberEnd 51 = .ok (.aload_n 0, 1) := by decide +kernel
theorem d_Shapes_numberEnd_52 : decode b_Shapes_numberEnd 52 = .ok (.iload_n 1, 1) := by decide +kernel
theorem d_Shapes_numberEnd_53 : decode b_Shapes_numberEnd 53 = .ok (.iload_n 3, 1) := by decide +kernel
theorem d_Shapes_numberEnd_54 : decode b_Shapes_numberEnd 54 = .ok (.invokevirtual 72, 3) := by decide +kernel
theorem d_Shapes_numberEnd_57 : decode b_Shapes_numberEnd 57 = .ok (.ifCond .eq 5, 3) := by decide +kernel
theorem d_Shapes_numberEnd_60 : decode b_Shapes_numberEnd 60 = .ok (.iconst (-1), 1) := by decide +kernel
theorem d_Shapes_numberEnd_61 : decode b_Shapes_numberEnd 61 = .ok (.ireturn, 1) := by decide +kernel
theorem d_Shapes_numberEnd_62 : decode b_Shapes_numberEnd 62 = .ok (.aload_n 0, 1) := by decide +kernel
theorem d_Shapes_numberEnd_63 : decode b_Shapes_numberEnd 63 = .ok (.getfield 9, 3) := by decide +kernel
theorem d_Shapes_numberEnd_66 : decode b_Shapes_numberEnd 66 = .ok (.iload_n 3, 1) := by decide +kernel
theorem d_Shapes_numberEnd_67 : decode b_Shapes_numberEnd 67 = .ok (.invokevirtual 29, 3) := by decide +kernel
theorem d_Shapes_numberEnd_70 : decode b_Shapes_numberEnd 70 = .ok (.invokestatic 33, 3) := by decide +kernel
theorem d_Shapes_numberEnd_73 : decode b_Shapes_numberEnd 73 = .ok (.ifCond .eq 7, 3) := by decide +kernel
theorem d_Shapes_numberEnd_76 : decode b_Shapes_numberEnd 76 = .ok (.iconst (-1), 1) := by decide +kernel
theorem d_Shapes_numberEnd_77 : decode b_Shapes_numberEnd 77 = .ok (.goto 4, 3) := by decide +kernel
theorem d_Shapes_numberEnd_80 : decode b_Shapes_numberEnd 80 = .ok (.iload_n 3, 1) := by decide +kernel
theorem d_Shapes_numberEnd_81 : decode b_Shapes_numberEnd 81 = .ok (.ireturn, 1) := by decide +kernel
theorem d_Shapes_numberKind_0 : decode b_Shapes_numberKind 0 = .ok (.aload_n 0, 1) := by decide +kernel
theorem d_Shapes_numberKind_1 : decode b_Shapes_numberKind 1 = .ok (.iload_n 1, 1) := by decide +kernel
theorem d_Shapes_numberKind_2 : decode b_Shapes_numberKind 2 = .ok (.invokevirtual 59, 3) := by decide +kernel
theorem d_Shapes_numberKind_5 : decode b_Shapes_numberKind 5 = .ok (.bipush 10, 2) := by decide +kernel
theorem d_Shapes_numberKind_7 : decode b_Shapes_numberKind 7 = .ok (.if_icmp .ne 14, 3) := by decide +kernel
theorem d_Shapes_numberKind_10 : decode b_Shapes_numberKind 10 = .ok (.aload_n 0, 1) := by decide +kernel
theorem d_Shapes_numberKind_11 : decode b_Shapes_numberKind 11 = .ok (.iload_n 1, 1) := by decide +kernel
theorem d_Shapes_numberKind_12 : decode b_Shapes_numberKind 12 = .ok (.bipush 10, 2) := by decide +kernel
theorem d_Shapes_numberKind_14 : decode b_Shapes_numberKind 14 = .ok (.invokevirtual 62, 3) := by decide +kernel
theorem d_Shapes_numberKind_17 : decode b_Shapes_numberKind 17 = .ok (.iload_n 2, 1) := by decide +kernel
theorem d_Shapes_numberKind_18 : decode b_Shapes_numberKind 18 = .ok (.if_icmp .ne 7, 3) := by decide +kernel
theorem d_Shapes_numberKind_21 : decode b_Shapes_numberKind 21 = .ok (.iconst 1, 1) := by decide +kernel
theorem d_Shapes_numberKind_22 : decode b_Shapes_numberKind 22 = .ok (.goto 4, 3) := by decide +kernel
theorem d_Shapes_numberKind_25 : decode b_Shapes_numberKind 25 = .ok (.iconst 0, 1) := by decide +kernel
theorem d_Shapes_numberKind_26 : decode b_Shapes_numberKind 26 = .ok (.istore_n 3, 1) := by decide +kernel
theorem d_Shapes_numberKind_27 : decode b_Shapes_numberKind 27 = .ok (.iload_n 3, 1) := by decide +kernel
theorem d_Shapes_numberKind_28 : decode b_Shapes_numberKind 28 = .ok (.ifCond .eq 7, 3) := by decide +kernel
theorem d_Shapes_numberKind_31 : decode b_Shapes_numberKind 31 = .ok (.iconst 5, 1) := by decide +kernel
theorem d_Shapes_numberKind_32 : decode b_Shapes_numberKind 32 = .ok (.goto 5, 3) := by decide +kernel
theorem d_Shapes_numberKind_35 : decode b_Shapes_numberKind 35 = .ok (.bipush 6, 2) := by decide +kernel
theorem d_Shapes_numberKind_37 : decode b_Shapes_numberKind 37 = .ok (.ireturn, 1) := by decide +kernel
theorem d_Shapes_baseAt_0 : decode b_Shapes_baseAt 0 = .ok (.aload_n 0, 1) := by decide +kernel
theorem d_Shapes_baseAt_1 : decode b_Shapes_baseAt 1 = .ok (.getfield 9, 3) := by decide +kernel
theorem d_Shapes_baseAt_4 : decode b_Shapes_baseAt 4 = .ok (.iload_n 1, 1) := by decide +kernel
theorem d_Shapes_baseAt_5 : decode b_Shapes_baseAt 5 = .ok (.invokevirtual 29, 3) := by decide +kernel
theorem d_Shapes_baseAt_8 : decode b_Shapes_baseAt 8 = .ok (.bipush 48, 2) := by decide +kernel
theorem d_Shapes_baseAt_10 : decode b_Shapes_baseAt 10 = .ok (.if_icmp .eq 6, 3) := by decide +kernel
theorem d_Shapes_baseAt_13 : decode b_Shapes_baseAt 13 = .ok (.bipush 10, 2) := by decide +kernel
theorem d_Shapes_baseAt_15 : decode b_Shapes_baseAt 15 = .ok (.ireturn, 1) := by decide +kernel
theorem d_Shapes_baseAt_16 : decode b_Shapes_baseAt 16 = .ok (.aload_n 0, 1) := by decide +kernel
theorem d_Shapes_baseAt_17 : decode b_Shapes_baseAt 17 = .ok (.getfield 9, 3) := by decide +kernel
theorem d_Shapes_baseAt_20 : decode b_Shapes_baseAt 20 = .ok (.iload_n 1, 1) := by decide +kernel
theorem d_Shapes_baseAt_21 : decode b_Shapes_baseAt 21 = .ok (.iconst 1, 1) := by decide +kernel
theorem d_Shapes_baseAt_22 : decode b_Shapes_baseAt 22 = .ok (.iadd, 1) := by decide +kernel
theorem d_Shapes_baseAt_23 : decode b_Shapes_baseAt 23 = .ok (.invokevirtual 29, 3) := by decide +kernel
theorem d_Shapes_baseAt_26 : decode b_Shapes_baseAt 26 = .ok (.lookupswitch 66 #[(66, 64), (79, 61), (88, 58), (98, 64), (111, 61), (120, 58)], 58) := by decide +kernel
theorem d_Shapes_baseAt_84 : decode b_Shapes_baseAt 84 = .ok (.bipush 16, 2) := by decide +kernel
theorem d_Shapes_baseAt_86 : decode b_Shapes_baseAt 86 = .ok (.ireturn, 1) := by decide +kernel
theorem d_Shapes_baseAt_87 : decode b_Shapes_baseAt 87 = .ok (.bipush 8, 2) := by decide +kernel
theorem d_Shapes_baseAt_89 : decode b_Shapes_baseAt 89 = .ok (.ireturn, 1) := by decide +kernel
theorem d_Shapes_baseAt_90 : decode b_Shapes_baseAt 90 = .ok (.iconst 2, 1) := by decide +kernel
theorem d_Shapes_baseAt_91 : decode b_Shapes_baseAt 91 = .ok (.ireturn, 1) := by decide +kernel
theorem d_Shapes_baseAt_92 : decode b_Shapes_baseAt 92 = .ok (.bipush 10, 2) := by decide +kernel
theorem d_Shapes_baseAt_94 : decode b_Shapes_baseAt 94 = .ok (.ireturn, 1) := by decide +kernel
theorem d_Shapes_basedEnd_0 : decode b_Shapes_basedEnd 0 = .ok (.aload_n 0, 1) := by decide +kernel
theorem d_Shapes_basedEnd_1 : decode b_Shapes_basedEnd 1 = .ok (.getfield 9, 3) := by decide +kernel
theorem d_Shapes_basedEnd_4 : decode b_Shapes_basedEnd 4 = .ok (.iload_n 1, 1) := by decide +kernel
theorem d_Shapes_basedEnd_5 : decode b_Shapes_basedEnd 5 = .ok (.iconst 2, 1) := by decide +kernel
theorem d_Shapes_basedEnd_6 : decode b_Shapes_basedEnd 6 = .ok (.iadd, 1) := by decide +kernel
theorem d_Shapes_basedEnd_7 : decode b_Shapes_basedEnd 7 = .ok (.invokevirtual 29, 3) := by decide +kernel
theorem d_Shapes_basedEnd_10 : decode b_Shapes_basedEnd 10 = .ok (.bipush 95, 2) := by decide +kernel
theorem d_Shapes_basedEnd_12 : decode b_Shapes_basedEnd 12 = .ok (.if_icmp .ne 9, 3) := by decide +kernel
theorem d_Shapes_basedEnd_15 : decode b_Shapes_basedEnd 15 = .ok (.iload_n 1, 1) := by decide +kernel
theorem d_Shapes_basedEnd_16 : decode b_Shapes_basedEnd 16 = .ok (.iconst 3, 1) := by decide +kernel
theorem d_Shapes_basedEnd_17 : decode b_Shapes_basedEnd 17 = .ok (.iadd, 1) := by decide +kernel
theorem d_Shapes_basedEnd_18 : decode b_Shapes_basedEnd 18 = .ok (.goto 6, 3) := by decide +kernel
theorem d_Shapes_basedEnd_21 : decode b_Shapes_basedEnd 21 = .ok (.iload_n 1, 1) := by decide +kernel
theorem d_Shapes_basedEnd_22 : decode b_Shapes_basedEnd 22 = .ok (.iconst 2, 1) := by decide +kernel
theorem d_Shapes_basedEnd_23 : decode b_Shapes_basedEnd 23 = .ok (.iadd, 1) := by decide +kernel
theorem d_Shapes_basedEnd_24 : decode b_Shapes_basedEnd 24 = .ok (.istore_n 3, 1) := by decide +kernel
theorem d_Shapes_basedEnd_25 : decode b_Shapes_basedEnd 25 = .ok (.aload_n 0, 1) := by decide +kernel
theorem d_Shapes_basedEnd_26 : decode b_Shapes_basedEnd 26 = .ok (.iload_n 3, 1) := by decide +kernel
theorem d_Shapes_basedEnd_27 : decode b_Shapes_basedEnd 27 = .ok (.iload_n 2, 1) := by decide +kernel
theorem d_Shapes_basedEnd_28 : decode b_Shapes_basedEnd 28 = .ok (.invokevirtual 62, 3) := by decide +kernel
theorem d_Shapes_basedEnd_31 : decode b_Shapes_basedEnd 31 = .ok (.istore 4, 2) := by decide +kernel
theorem d_Shapes_basedEnd_33 : decode b_Shapes_basedEnd 33 = .ok (.iload 4, 2) := by decide +kernel
theorem d_Shapes_basedEnd_35 : decode b_Shapes_basedEnd 35 = .ok (.iload_n 3, 1) := by decide +kernel
theorem d_Shapes_basedEnd_36 : decode b_Shapes_basedEnd 36 = .ok (.if_icmp .ne 7, 3) := by decide +kernel
theorem d_Shapes_basedEnd_39 : decode b_Shapes_basedEnd 39 = .ok (.iconst (-1), 1) := by decide +kernel
theorem d_Shapes_basedEnd_40 : decode b_Shapes_basedEnd 40 = .ok (.goto 5, 3) := by decide +kernel
theorem d_Shapes_basedEnd_43 : decode b_Shapes_basedEnd 43 = .ok (.iload 4, 2) := by decide +kernel
theorem d_Shapes_basedEnd_45 : decode b_Shapes_basedEnd 45 = .ok (.ireturn, 1) := by decide +kernel
theorem d_Shapes_realEnd_0 : decode b_Shapes_realEnd 0 = .ok (.aload_n 0, 1) := by decide +kernel
theorem d_Shapes_realEnd_1 : decode b_Shapes_realEnd 1 = .ok (.getfield 9, 3) := by decide +kernel
theorem d_Shapes_realEnd_4 : decode b_Shapes_realEnd 4 = .ok (.iload_n 1, 1) := by decide +kernel
theorem d_Shapes_realEnd_5 : decode b_Shapes_realEnd 5 = .ok (.invokevirtual 29, 3) := by decide +kernel
theorem d_Shapes_realEnd_8 : decode b_Shapes_realEnd 8 = .ok (.bipush 46, 2) := by decide +kernel
theorem d_Shapes_realEnd_10 : decode b_Shapes_realEnd 10 = .ok (.if_icmp .ne 15, 3) := by decide +kernel
theorem d_Shapes_realEnd_13 : decode b_Shapes_realEnd 13 = .ok (.aload_n 0, 1) := by decide +kernel
theorem d_Shapes_realEnd_14 : decode b_Shapes_realEnd 14 = .ok (.iload_n 1, 1) := by decide +kernel
theorem d_Shapes_realEnd_15 : decode b_Shapes_realEnd 15 = .ok (.iconst 1, 1) := by decide +kernel
theorem d_Shapes_realEnd_16 : decode b_Shapes_realEnd 16 = .ok (.iadd, 1) := by decide +kernel
theorem d_Shapes_realEnd_17 : decode b_Shapes_realEnd 17 = .ok (.bipush 10, 2) := by decide +kernel
theorem d_Shapes_realEnd_19 : decode b_Shapes_realEnd 19 = .ok (.invokevirtual 62, 3) := by decide +kernel
theorem d_Shapes_realEnd_22 : decode b_Shapes_realEnd 22 = .ok (.goto 4, 3) := by decide +kernel
theorem d_Shapes_realEnd_25 : decode b_Shapes_realEnd 25 = .ok (.iload_n 1, 1) := by decide +kernel
theorem d_Shapes_realEnd_26 : decode b_Shapes_realEnd 26 = .ok (.istore_n 2, 1) := by decide +kernel
theorem d_Shapes_realEnd_27 : decode b_Shapes_realEnd 27 = .ok (.aload_n 0, 1) := by decide +kernel
theorem d_Shapes_realEnd_28 : decode b_Shapes_realEnd 28 = .ok (.getfield 9, 3) := by decide +kernel
theorem d_Shapes_realEnd_31 : decode b_Shapes_realEnd 31 = .ok (.iload_n 2, 1) := by decide +kernel
theorem d_Shapes_realEnd_32 : decode b_Shapes_realEnd 32 = .ok (.invokevirtual 29, 3) := by decide +kernel
theorem d_Shapes_realEnd_35 : decode b_Shapes_realEnd 35 = .ok (.istore_n 3, 1) := by decide +kernel
theorem d_Shapes_realEnd_36 : decode b_Shapes_realEnd 36 = .ok (.iload_n 3, 1) := by decide +kernel
theorem d_Shapes_realEnd_37 : decode b_Shapes_realEnd 37 = .ok (.bipush 101, 2) := by decide +kernel
theorem d_Shapes_realEnd_39 : decode b_Shapes_realEnd 39 = .ok (.if_icmp .eq 11, 3) := by decide +kernel
theorem d_Shapes_realEnd_42 : decode b_Shapes_realEnd 42 = .ok (.iload_n 3, 1) := by decide +kernel
theorem d_Shapes_realEnd_43 : decode b_Shapes_realEnd 43 = .ok (.bipush 69, 2) := by decide +kernel
theorem d_Shapes_realEnd_45 : decode b_Shapes_realEnd 45 = .ok (.if_icmp .eq 5, 3) := by decide +kernel
theorem d_Shapes_realEnd_48 : decode b_Shapes_realEnd 48 = .ok (.iload_n 2, 1) := by decide +kernel
theorem d_Shapes_realEnd_49 : decode b_Shapes_realEnd 49 = .ok (.ireturn, 1) := by decide +kernel
theorem d_Shapes_realEnd_50 : decode b_Shapes_realEnd 50 = .ok (.aload_n 0, 1) := by decide +kernel
theorem d_Shapes_realEnd_51 : decode b_Shapes_realEnd 51 = .ok (.getfield 9, 3) := by decide +kernel
theorem d_Shapes_realEnd_54 : decode b_Shapes_realEnd 54 = .ok (.iload_n 2, 1) := by decide +kernel
theorem d_Shapes_realEnd_55 : decode b_Shapes_realEnd 55 = .ok (.iconst 1, 1) := by decide +kernel
theorem d_Shapes_realEnd_56 : decode b_Shapes_realEnd 56 = .ok (.iadd, 1) := by decide +kernel
theorem d_Shapes_realEnd_57 : decode b_Shapes_realEnd 57 = .ok (.invokevirtual 29, 3) := by decide +kernel
theorem d_Shapes_realEnd_60 : decode b_Shapes_realEnd 60 = .ok (.istore 4, 2) := by decide +kernel
theorem d_Shapes_realEnd_62 : decode b_Shapes_realEnd 62 = .ok (.iload 4, 2) := by decide +kernel
theorem d_Shapes_realEnd_64 : decode b_Shapes_realEnd 64 = .ok (.bipush 43, 2) := by decide +kernel
theorem d_Shapes_realEnd_66 : decode b_Shapes_realEnd 66 = .ok (.if_icmp .eq 10, 3) := by decide +kernel
theorem d_Shapes_realEnd_69 : decode b_Shapes_realEnd 69 = .ok (.iload 4, 2) := by decide +kernel
theorem d_Shapes_realEnd_71 : decode b_Shapes_realEnd 71 = .ok (.bipush 45, 2) := by decide +kernel
theorem d_Shapes_realEnd_73 : decode b_Shapes_realEnd 73 = .ok (.if_icmp .ne 9, 3) := by decide +kernel
theorem d_Shapes_realEnd_76 : decode b_Shapes_realEnd 76 = .ok (.iload_n 2, 1) := by decide +kernel
theorem d_Shapes_realEnd_77 : decode b_Shapes_realEnd 77 = .ok (.iconst 2, 1) := by decide +kernel
theorem d_Shapes_realEnd_78 : decode b_Shapes_realEnd 78 = .ok (.iadd, 1) := by decide +kernel
theorem d_Shapes_realEnd_79 : decode b_Shapes_realEnd 79 = .ok (.goto 6, 3) := by decide +kernel
theorem d_Shapes_realEnd_82 : decode b_Shapes_realEnd 82 = .ok (.iload_n 2, 1) := by decide +kernel
theorem d_Shapes_realEnd_83 : decode b_Shapes_realEnd 83 = .ok (.iconst 1, 1) := by decide +kernel
theorem d_Shapes_realEnd_84 : decode b_Shapes_realEnd 84 = .ok (.iadd, 1) := by decide +kernel
theorem d_Shapes_realEnd_85 : decode b_Shapes_realEnd 85 = .ok (.istore 5, 2) := by decide +kernel
theorem d_Shapes_realEnd_87 : decode b_Shapes_realEnd 87 = .ok (.aload_n 0, 1) := by decide +kernel
theorem d_Shapes_realEnd_88 : decode b_Shapes_realEnd 88 = .ok (.iload 5, 2) := by decide +kernel
theorem d_Shapes_realEnd_90 : decode b_Shapes_realEnd 90 = .ok (.bipush 10, 2) := by decide +kernel
theorem d_Shapes_realEnd_92 : decode b_Shapes_realEnd 92 = .ok (.invokevirtual 62, 3) := by decide +kernel
theorem d_Shapes_realEnd_95 : decode b_Shapes_realEnd 95 = .ok (.istore 6, 2) := by decide +kernel
theorem d_Shapes_realEnd_97 : decode b_Shapes_realEnd 97 = .ok (.iload 6, 2) := by decide +kernel
theorem d_Shapes_realEnd_99 : decode b_Shapes_realEnd 99 = .ok (.iload 5, 2) := by decide +kernel
theorem d_Shapes_realEnd_101 : decode b_Shapes_realEnd 101 = .ok (.if_icmp .ne 7, 3) := by decide +kernel
theorem d_Shapes_realEnd_104 : decode b_Shapes_realEnd 104 = .ok (.iload_n 2, 1) := by decide +kernel
theorem d_Shapes_realEnd_105 : decode b_Shapes_realEnd 105 = .ok (.goto 5, 3) := by decide +kernel
theorem d_Shapes_realEnd_108 : decode b_Shapes_realEnd 108 = .ok (.iload 6, 2) := by decide +kernel
theorem d_Shapes_realEnd_110 : decode b_Shapes_realEnd 110 = .ok (.ireturn, 1) := by decide +kernel
theorem d_Shapes_digitsEnd_0 : decode b_Shapes_digitsEnd 0 = .ok (.iload_n 1, 1) := by decide +kernel
theorem d_Shapes_digitsEnd_1 : decode b_Shapes_digitsEnd 1 = .ok (.istore_n 3, 1) := by decide +kernel
theorem d_Shapes_digitsEnd_2 : decode b_Shapes_digitsEnd 2 = .ok (.iload_n 3, 1) := by decide +kernel
theorem d_Shapes_digitsEnd_3 : decode b_Shapes_digitsEnd 3 = .ok (.aload_n 0, 1) := by decide +kernel
theorem d_Shapes_digitsEnd_4 : decode b_Shapes_digitsEnd 4 = .ok (.getfield 9, 3) := by decide +kernel
theorem d_Shapes_digitsEnd_7 : decode b_Shapes_digitsEnd 7 = .ok (.invokevirtual 23, 3) := by decide +kernel
theorem d_Shapes_digitsEnd_10 : decode b_Shapes_digitsEnd 10 = .ok (.if_icmp .ge 72, 3) := by decide +kernel
theorem d_Shapes_digitsEnd_13 : decode b_Shapes_digitsEnd 13 = .ok (.aload_n 0, 1) := by decide +kernel
theorem d_Shapes_digitsEnd_14 : decode b_Shapes_digitsEnd 14 = .ok (.getfield 9, 3) := by decide +kernel
theorem d_Shapes_digitsEnd_17 : decode b_Shapes_digitsEnd 17 = .ok (.iload_n 3, 1) := by decide +kernel
theorem d_Shapes_digitsEnd_18 : decode b_Shapes_digitsEnd 18 = .ok (.invokevirtual 29, 3) := by decide +kernel
theorem d_Shapes_digitsEnd_21 : decode b_Shapes_digitsEnd 21 = .ok (.istore 4, 2) := by decide +kernel
theorem d_Shapes_digitsEnd_23 : decode b_Shapes_digitsEnd 23 = .ok (.iload 4, 2) := by decide +kernel
theorem d_Shapes_digitsEnd_25 : decode b_Shapes_digitsEnd 25 = .ok (.bipush 95, 2) := by decide +kernel
theorem d_Shapes_digitsEnd_27 : decode b_Shapes_digitsEnd 27 = .ok (.if_icmp .ne 29, 3) := by decide +kernel
theorem d_Shapes_digitsEnd_30 : decode b_Shapes_digitsEnd 30 = .ok (.iload_n 3, 1) := by decide +kernel
theorem d_Shapes_digitsEnd_31 : decode b_Shapes_digitsEnd 31 = .ok (.iload_n 1, 1) := by decide +kernel
theorem d_Shapes_digitsEnd_32 : decode b_Shapes_digitsEnd 32 = .ok (.if_icmp .le 24, 3) := by decide +kernel
theorem d_Shapes_digitsEnd_35 : decode b_Shapes_digitsEnd 35 = .ok (.aload_n 0, 1) := by decide +kernel
theorem d_Shapes_digitsEnd_36 : decode b_Shapes_digitsEnd 36 = .ok (.getfield 9, 3) := by decide +kernel
theorem d_Shapes_digitsEnd_39 : decode b_Shapes_digitsEnd 39 = .ok (.iload_n 3, 1) := by decide +kernel
theorem d_Shapes_digitsEnd_40 : decode b_Shapes_digitsEnd 40 = .ok (.iconst 1, 1) := by decide +kernel
theorem d_Shapes_digitsEnd_41 : decode b_Shapes_digitsEnd 41 = .ok (.iadd, 1) := by decide +kernel
theorem d_Shapes_digitsEnd_42 : decode b_Shapes_digitsEnd 42 = .ok (.invokevirtual 29, 3) := by decide +kernel
theorem d_Shapes_digitsEnd_45 : decode b_Shapes_digitsEnd 45 = .ok (.iload_n 2, 1) := by decide +kernel
theorem d_Shapes_digitsEnd_46 : decode b_Shapes_digitsEnd 46 = .ok (.invokestatic 19, 3) := by decide +kernel
theorem d_Shapes_digitsEnd_49 : decode b_Shapes_digitsEnd 49 = .ok (.ifCond .eq 7, 3) := by decide +kernel
theorem d_Shapes_digitsEnd_52 : decode b_Shapes_digitsEnd 52 = .ok (.iconst 1, 1) := by decide +kernel
theorem d_Shapes_digitsEnd_53 : decode b_Shapes_digitsEnd 53 = .ok (.goto 4, 3) := by decide +kernel
theorem d_Shapes_digitsEnd_56 : decode b_Shapes_digitsEnd 56 = .ok (.iconst 0, 1) := by decide +kernel
theorem d_Shapes_digitsEnd_57 : decode b_Shapes_digitsEnd 57 = .ok (.istore 5, 2) := by decide +kernel
theorem d_Shapes_digitsEnd_59 : decode b_Shapes_digitsEnd 59 = .ok (.iload 5, 2) := by decide +kernel
theorem d_Shapes_digitsEnd_61 : decode b_Shapes_digitsEnd 61 = .ok (.ifCond .ne 15, 3) := by decide +kernel
theorem d_Shapes_digitsEnd_64 : decode b_Shapes_digitsEnd 64 = .ok (.iload 4, 2) := by decide +kernel
theorem d_Shapes_digitsEnd_66 : decode b_Shapes_digitsEnd 66 = .ok (.iload_n 2, 1) := by decide +kernel
theorem d_Shapes_digitsEnd_67 : decode b_Shapes_digitsEnd 67 = .ok (.invokestatic 19, 3) := by decide +kernel
theorem d_Shapes_digitsEnd_70 : decode b_Shapes_digitsEnd 70 = .ok (.ifCond .ne 6, 3) := by decide +kernel
theorem d_Shapes_digitsEnd_73 : decode b_Shapes_digitsEnd 73 = .ok (.goto 9, 3) := by decide +kernel
theorem d_Shapes_digitsEnd_76 : decode b_Shapes_digitsEnd 76 = .ok (.iinc 3 1, 3) := by decide +kernel
theorem d_Shapes_digitsEnd_79 : decode b_Shapes_digitsEnd 79 = .ok (.goto (-77), 3) := by decide +kernel
theorem d_Shapes_digitsEnd_82 : decode b_Shapes_digitsEnd 82 = .ok (.iload_n 3, 1) := by decide +kernel
theorem d_Shapes_digitsEnd_83 : decode b_Shapes_digitsEnd 83 = .ok (.ireturn, 1) := by decide +kernel
theorem d_Shapes_hasIdleZero_0 : decode b_Shapes_hasIdleZero 0 = .ok (.aload_n 0, 1) := by decide +kernel
theorem d_Shapes_hasIdleZero_1 : decode b_Shapes_hasIdleZero 1 = .ok (.getfield 9, 3) := by decide +kernel
theorem d_Shapes_hasIdleZero_4 : decode b_Shapes_hasIdleZero 4 = .ok (.iload_n 1, 1) := by decide +kernel
theorem d_Shapes_hasIdleZero_5 : decode b_Shapes_hasIdleZero 5 = .ok (.invokevirtual 29, 3) := by decide +kernel
theorem d_Shapes_hasIdleZero_8 : decode b_Shapes_hasIdleZero 8 = .ok (.bipush 48, 2) := by decide +kernel
theorem d_Shapes_hasIdleZero_10 : decode b_Shapes_hasIdleZero 10 = .ok (.if_icmp .eq 5, 3) := by decide +kernel
theorem d_Shapes_hasIdleZero_13 : decode b_Shapes_hasIdleZero 13 = .ok (.iconst 0, 1) := by decide +kernel
theorem d_Shapes_hasIdleZero_14 : decode b_Shapes_hasIdleZero 14 = .ok (.ireturn, 1) := by decide +kernel
theorem d_Shapes_hasIdleZero_15 : decode b_Shapes_hasIdleZero 15 = .ok (.iload_n 1, 1) := by decide +kernel
theorem d_Shapes_hasIdleZero_16 : decode b_Shapes_hasIdleZero 16 = .ok (.istore_n 3, 1) := by decide +kernel
theorem d_Shapes_hasIdleZero_17 : decode b_Shapes_hasIdleZero 17 = .ok (.iload_n 3, 1) := by decide +kernel
theorem d_Shapes_hasIdleZero_18 : decode b_Shapes_hasIdleZero 18 = .ok (.iload_n 2, 1) := by decide +kernel
theorem d_Shapes_hasIdleZero_19 : decode b_Shapes_hasIdleZero 19 = .ok (.if_icmp .ge 35, 3) := by decide +kernel
theorem d_Shapes_hasIdleZero_22 : decode b_Shapes_hasIdleZero 22 = .ok (.aload_n 0, 1) := by decide +kernel
theorem d_Shapes_hasIdleZero_23 : decode b_Shapes_hasIdleZero 23 = .ok (.getfield 9, 3) := by decide +kernel
theorem d_Shapes_hasIdleZero_26 : decode b_Shapes_hasIdleZero 26 = .ok (.iload_n 3, 1) := by decide +kernel
theorem d_Shapes_hasIdleZero_27 : decode b_Shapes_hasIdleZero 27 = .ok (.invokevirtual 29, 3) := by decide +kernel
theorem d_Shapes_hasIdleZero_30 : decode b_Shapes_hasIdleZero 30 = .ok (.istore 4, 2) := by decide +kernel
theorem d_Shapes_hasIdleZero_32 : decode b_Shapes_hasIdleZero 32 = .ok (.iload 4, 2) := by decide +kernel
theorem d_Shapes_hasIdleZero_34 : decode b_Shapes_hasIdleZero 34 = .ok (.bipush 48, 2) := by decide +kernel
theorem d_Shapes_hasIdleZero_36 : decode b_Shapes_hasIdleZero 36 = .ok (.if_icmp .eq 12, 3) := by decide +kernel
theorem d_Shapes_hasIdleZero_39 : decode b_Shapes_hasIdleZero 39 = .ok (.iload 4, 2) := by decide +kernel
theorem d_Shapes_hasIdleZero_41 : decode b_Shapes_hasIdleZero 41 = .ok (.bipush 95, 2) := by decide +kernel
theorem d_Shapes_hasIdleZero_43 : decode b_Shapes_hasIdleZero 43 = .ok (.if_icmp .eq 5, 3) := by decide +kernel
theorem d_Shapes_hasIdleZero_46 : decode b_Shapes_hasIdleZero 46 = .ok (.iconst 1, 1) := by decide +kernel
theorem d_Shapes_hasIdleZero_47 : decode b_Shapes_hasIdleZero 47 = .ok (.ireturn, 1) := by decide +kernel
theorem d_Shapes_hasIdleZero_48 : decode b_Shapes_hasIdleZero 48 = .ok (.iinc 3 1, 3) := by decide +kernel
theorem d_Shapes_hasIdleZero_51 : decode b_Shapes_hasIdleZero 51 = .ok (.goto (-34), 3) := by decide +kernel
theorem d_Shapes_hasIdleZero_54 : decode b_Shapes_hasIdleZero 54 = .ok (.iconst 0, 1) := by decide +kernel
theorem d_Shapes_hasIdleZero_55 : decode b_Shapes_hasIdleZero 55 = .ok (.ireturn, 1) := by decide +kernel
theorem d_Shapes_quoteOfStringAt_0 : decode b_Shapes_quoteOfStringAt 0 = .ok (.iload_n 1, 1) := by decide +kernel
theorem d_Shapes_quoteOfStringAt_1 : decode b_Shapes_quoteOfStringAt 1 = .ok (.aload_n 0, 1) := by decide +kernel
theorem d_Shapes_quoteOfStringAt_2 : decode b_Shapes_quoteOfStringAt 2 = .ok (.getfield 9, 3) := by decide +kernel
theorem d_Shapes_quoteOfStringAt_5 : decode b_Shapes_quoteOfStringAt 5 = .ok (.iload_n 1, 1) := by decide +kernel
theorem d_Shapes_quoteOfStringAt_6 : decode b_Shapes_quoteOfStringAt 6 = .ok (.invokevirtual 29, 3) := by decide +kernel
theorem d_Shapes_quoteOfStringAt_9 : decode b_Shapes_quoteOfStringAt 9 = .ok (.aload_n 0, 1) := by decide +kernel
theorem d_Shapes_quoteOfStringAt_10 : decode b_Shapes_quoteOfStringAt 10 = .ok (.getfield 9, 3) := by decide +kernel
theorem d_Shapes_quoteOfStringAt_13 : decode b_Shapes_quoteOfStringAt 13 = .ok (.iload_n 1, 1) := by decide +kernel
theorem d_Shapes_quoteOfStringAt_14 : decode b_Shapes_quoteOfStringAt 14 = .ok (.iconst 1, 1) := by decide +kernel
theorem d_Shapes_quoteOfStringAt_15 : decode b_Shapes_quoteOfStringAt 15 = .ok (.iadd, 1) := by decide +kernel
theorem d_Shapes_quoteOfStringAt_16 : decode b_Shapes_quoteOfStringAt 16 = .ok (.invokevirtual 29, 3) := by decide +kernel
theorem d_Shapes_quoteOfStringAt_19 : decode b_Shapes_quoteOfStringAt 19 = .ok (.invokestatic 75, 3) := by decide +kernel
theorem d_Shapes_quoteOfStringAt_22 : decode b_Shapes_quoteOfStringAt 22 = .ok (.iadd, 1) := by decide +kernel
theorem d_Shapes_quoteOfStringAt_23 : decode b_Shapes_quoteOfStringAt 23 = .ok (.istore_n 2, 1) := by decide +kernel
theorem d_Shapes_quoteOfStringAt_24 : decode b_Shapes_quoteOfStringAt 24 = .ok (.aload_n 0, 1) := by decide +kernel
theorem d_Shapes_quoteOfStringAt_25 : decode b_Shapes_quoteOfStringAt 25 = .ok (.getfield 9, 3) := by decide +kernel
theorem d_Shapes_quoteOfStringAt_28 : decode b_Shapes_quoteOfStringAt 28 = .ok (.iload_n 2, 1) := by decide +kernel
theorem d_Shapes_quoteOfStringAt_29 : decode b_Shapes_quoteOfStringAt 29 = .ok (.invokevirtual 29, 3) := by decide +kernel
theorem d_Shapes_quoteOfStringAt_32 : decode b_Shapes_quoteOfStringAt 32 = .ok (.istore_n 3, 1) := by decide +kernel
theorem d_Shapes_quoteOfStringAt_33 : decode b_Shapes_quoteOfStringAt 33 = .ok (.iload_n 3, 1) := by decide +kernel
theorem d_Shapes_quoteOfStringAt_34 : decode b_Shapes_quoteOfStringAt 34 = .ok (.bipush 39, 2) := by decide +kernel
theorem d_Shapes_quoteOfStringAt_36 : decode b_Shapes_quoteOfStringAt 36 = .ok (.if_icmp .eq 9, 3) := by decide +kernel
theorem d_Shapes_quoteOfStringAt_39 : decode b_Shapes_quoteOfStringAt 39 = .ok (.iload_n 3, 1) := by decide +kernel
theorem d_Shapes_quoteOfStringAt_40 : decode b_Shapes_quoteOfStringAt 40 = .ok (.bipush 34, 2) := by decide +kernel
theorem d_Shapes_quoteOfStringAt_42 : decode b_Shapes_quoteOfStringAt 42 = .ok (.if_icmp .ne 7, 3) := by decide +kernel
theorem d_Shapes_quoteOfStringAt_45 : decode b_Shapes_quoteOfStringAt 45 = .ok (.iload_n 2, 1) := by decide +kernel
theorem d_Shapes_quoteOfStringAt_46 : decode b_Shapes_quoteOfStringAt 46 = .ok (.goto 4, 3) := by decide +kernel
theorem d_Shapes_quoteOfStringAt_49 : decode b_Shapes_quoteOfStringAt 49 = .ok (.iconst (-1), 1) := by decide +kernel
theorem d_Shapes_quoteOfStringAt_50 : decode b_Shapes_quoteOfStringAt 50 = .ok (.ireturn, 1) := by decide +kernel
theorem d_Shapes_prefixLength_0 : decode b_Shapes_prefixLength 0 = .ok (.iload_n 0, 1) := by decide +kernel
theorem d_Shapes_prefixLength_1 : decode b_Shapes_prefixLength 1 = .ok (.bipush 114, 2) := by decide +kernel
theorem d_Shapes_prefixLength_3 : decode b_Shapes_prefixLength 3 = .ok (.if_icmp .ne 15, 3) := by decide +kernel
theorem d_Shapes_prefixLength_6 : decode b_Shapes_prefixLength 6 = .ok (.iload_n 1, 1) := by decide +kernel
theorem d_Shapes_prefixLength_7 : decode b_Shapes_prefixLength 7 = .ok (.bipush 102, 2) := by decide +kernel
theorem d_Shapes_prefixLength_9 : decode b_Shapes_prefixLength 9 = .ok (.if_icmp .ne 7, 3) := by decide +kernel
theorem d_Shapes_prefixLength_12 : decode b_Shapes_prefixLength 12 = .ok (.iconst 2, 1) := by decide +kernel
theorem d_Shapes_prefixLength_13 : decode b_Shapes_prefixLength 13 = .ok (.goto 4, 3) := by decide +kernel
theorem d_Shapes_prefixLength_16 : decode b_Shapes_prefixLength 16 = .ok (.iconst 1, 1) := by decide +kernel
theorem d_Shapes_prefixLength_17 : decode b_Shapes_prefixLength 17 = .ok (.ireturn, 1) := by decide +kernel
theorem d_Shapes_prefixLength_18 : decode b_Shapes_prefixLength 18 = .ok (.iload_n 0, 1) := by decide +kernel
theorem d_Shapes_prefixLength_19 : decode b_Shapes_prefixLength 19 = .ok (.bipush 102, 2) := by decide +kernel
theorem d_Shapes_prefixLength_21 : decode b_Shapes_prefixLength 21 = .ok (.if_icmp .ne 15, 3) := by decide +kernel
theorem d_Shapes_prefixLength_24 : decode b_Shapes_prefixLength 24 = .ok (.iload_n 1, 1) := by decide +kernel
theorem d_Shapes_prefixLength_25 : decode b_Shapes_prefixLength 25 = .ok (.bipush 114, 2) := by decide +kernel
theorem d_Shapes_prefixLength_27 : decode b_Shapes_prefixLength 27 = .ok (.if_icmp .ne 7, 3) := by decide +kernel
theorem d_Shapes_prefixLength_30 : decode b_Shapes_prefixLength 30 = .ok (.iconst 2, 1) := by decide +kernel
theorem d_Shapes_prefixLength_31 : decode b_Shapes_prefixLength 31 = .ok (.goto 4, 3) := by decide +kernel
theorem d_Shapes_prefixLength_34 : decode b_Shapes_prefixLength 34 = .ok (.iconst 1, 1) := by decide +kernel
theorem d_Shapes_prefixLength_35 : decode b_Shapes_prefixLength 35 = .ok (.ireturn, 1) := by decide +kernel
theorem d_Shapes_prefixLength_36 : decode b_Shapes_prefixLength 36 = .ok (.iconst 0, 1) := by decide +kernel
theorem d_Shapes_prefixLength_37 : decode b_Shapes_prefixLength 37 = .ok (.ireturn, 1) := by decide +kernel
theorem d_Shapes_stringEnd_0 : decode b_Shapes_stringEnd 0 = .ok (.aload_n 0, 1) := by decide +kernel
theorem d_Shapes_stringEnd_1 : decode b_Shapes_stringEnd 1 = .ok (.getfield 9, 3) := by decide +kernel
theorem d_Shapes_stringEnd_4 : decode b_Shapes_stringEnd 4 = .ok (.iload_n 1, 1) := by decide +kernel
theorem d_Shapes_stringEnd_5 : decode b_Shapes_stringEnd 5 = .ok (.invokevirtual 29, 3) := by decide +kernel
theorem d_Shapes_stringEnd_8 : decode b_Shapes_stringEnd 8 = .ok (.istore_n 2, 1) := by decide +kernel
theorem d_Shapes_stringEnd_9 : decode b_Shapes_stringEnd 9 = .ok (.aload_n 0, 1) := by decide +kernel
theorem d_Shapes_stringEnd_10 : decode b_Shapes_stringEnd 10 = .ok (.iload_n 2, 1) := by decide +kernel
theorem d_Shapes_stringEnd_11 : decode b_Shapes_stringEnd 11 = .ok (.iload_n 1, 1) := by decide +kernel
theorem d_Shapes_stringEnd_12 : decode b_Shapes_stringEnd 12 = .ok (.invokevirtual 78, 3) := by decide +kernel
theorem d_Shapes_stringEnd_15 : decode b_Shapes_stringEnd 15 = .ok (.ifCond .eq 7, 3) := by decide +kernel
theorem d_Shapes_stringEnd_18 : decode b_Shapes_stringEnd 18 = .ok (.iconst 3, 1) := by decide +kernel
theorem d_Shapes_stringEnd_19 : decode b_Shapes_stringEnd 19 = .ok (.goto 4, 3) := by decide +kernel
theorem d_Shapes_stringEnd_22 : decode b_Shapes_stringEnd 22 = .ok (.iconst 1, 1) := by decide +kernel
theorem d_Shapes_stringEnd_23 : decode b_Shapes_stringEnd 23 = .ok (.istore_n 3, 1) := by decide +kernel
theorem d_Shapes_stringEnd_24 : decode b_Shapes_stringEnd 24 = .ok (.iload_n 1, 1) := by decide +kernel
theorem d_Shapes_stringEnd_25 : decode b_Shapes_stringEnd 25 = .ok (.iload_n 3, 1) := by decide +kernel
theorem d_Shapes_stringEnd_26 : decode b_Shapes_stringEnd 26 = .ok (.iadd, 1) := by decide +kernel
theorem d_Shapes_stringEnd_27 : decode b_Shapes_stringEnd 27 = .ok (.istore 4, 2) := by decide +kernel
theorem d_Shapes_stringEnd_29 : decode b_Shapes_stringEnd 29 = .ok (.iload 4, 2) := by decide +kernel
theorem d_Shapes_stringEnd_31 : decode b_Shapes_stringEnd 31 = .ok (.aload_n 0, 1) := by decide +kernel
theorem d_Shapes_stringEnd_32 : decode b_Shapes_stringEnd 32 = .ok (.getfield 9, 3) := by decide +kernel
theorem d_Shapes_stringEnd_35 : decode b_Shapes_stringEnd 35 = .ok (.invokevirtual 23, 3) := by decide +kernel
theorem d_Shapes_stringEnd_38 : decode b_Shapes_stringEnd 38 = .ok (.if_icmp .ge 73, 3) := by decide +kernel
theorem d_Shapes_stringEnd_41 : decode b_Shapes_stringEnd 41 = .ok (.aload_n 0, 1) := by decide +kernel
theorem d_Shapes_stringEnd_42 : decode b_Shapes_stringEnd 42 = .ok (.getfield 9, 3) := by decide +kernel
theorem d_Shapes_stringEnd_45 : decode b_Shapes_stringEnd 45 = .ok (.iload 4, 2) := by decide +kernel
theorem d_Shapes_stringEnd_47 : decode b_Shapes_stringEnd 47 = .ok (.invokevirtual 29, 3) := by decide +kernel
theorem d_Shapes_stringEnd_50 : decode b_Shapes_stringEnd 50 = .ok (.istore 5, 2) := by decide +kernel
theorem d_Shapes_stringEnd_52 : decode b_Shapes_stringEnd 52 = .ok (.iload 5, 2) := by decide +kernel
theorem d_Shapes_stringEnd_54 : decode b_Shapes_stringEnd 54 = .ok (.bipush 92, 2) := by decide +kernel
theorem d_Shapes_stringEnd_56 : decode b_Shapes_stringEnd 56 = .ok (.if_icmp .ne 9, 3) := by decide +kernel
theorem d_Shapes_stringEnd_59 : decode b_Shapes_stringEnd 59 = .ok (.iinc 4 1, 3) := by decide +kernel
theorem d_Shapes_stringEnd_62 : decode b_Shapes_stringEnd 62 = .ok (.goto 43, 3) := by decide +kernel
theorem d_Shapes_stringEnd_65 : decode b_Shapes_stringEnd 65 = .ok (.iload 5, 2) := by decide +kernel
theorem d_Shapes_stringEnd_67 : decode b_Shapes_stringEnd 67 = .ok (.iload_n 2, 1) := by decide +kernel
theorem d_Shapes_stringEnd_68 : decode b_Shapes_stringEnd 68 = .ok (.if_icmp .ne 23, 3) := by decide +kernel
theorem d_Shapes_stringEnd_71 : decode b_Shapes_stringEnd 71 = .ok (.iload_n 3, 1) := by decide +kernel
theorem d_Shapes_stringEnd_72 : decode b_Shapes_stringEnd 72 = .ok (.iconst 1, 1) := by decide +kernel
theorem d_Shapes_stringEnd_73 : decode b_Shapes_stringEnd 73 = .ok (.if_icmp .eq 13, 3) := by decide +kernel
theorem d_Shapes_stringEnd_76 : decode b_Shapes_stringEnd 76 = .ok (.aload_n 0, 1) := by decide +kernel
theorem d_Shapes_stringEnd_77 : decode b_Shapes_stringEnd 77 = .ok (.iload_n 2, 1) := by decide +kernel
theorem d_Shapes_stringEnd_78 : decode b_Shapes_stringEnd 78 = .ok (.iload 4, 2) := by decide +kernel
theorem d_Shapes_stringEnd_80 : decode b_Shapes_stringEnd 80 = .ok (.invokevirtual 78, 3) := by decide +kernel
theorem d_Shapes_stringEnd_83 : decode b_Shapes_stringEnd 83 = .ok (.ifCond .eq 8, 3) := by decide +kernel
theorem d_Shapes_stringEnd_86 : decode b_Shapes_stringEnd 86 = .ok (.iload 4, 2) := by decide +kernel
theorem d_Shapes_stringEnd_88 : decode b_Shapes_stringEnd 88 = .ok (.iload_n 3, 1) := by decide +kernel
theorem d_Shapes_stringEnd_89 : decode b_Shapes_stringEnd 89 = .ok (.iadd, 1) := by decide +kernel
theorem d_Shapes_stringEnd_90 : decode b_Shapes_stringEnd 90 = .ok (.ireturn, 1) := by decide +kernel
theorem d_Shapes_stringEnd_91 : decode b_Shapes_stringEnd 91 = .ok (.iload 5, 2) := by decide +kernel
theorem d_Shapes_stringEnd_93 : decode b_Shapes_stringEnd 93 = .ok (.bipush 10, 2) := by decide +kernel
theorem d_Shapes_stringEnd_95 : decode b_Shapes_stringEnd 95 = .ok (.if_icmp .ne 10, 3) := by decide +kernel
theorem d_Shapes_stringEnd_98 : decode b_Shapes_stringEnd 98 = .ok (.iload_n 3, 1) := by decide +kernel
theorem d_Shapes_stringEnd_99 : decode b_Shapes_stringEnd 99 = .ok (.iconst 1, 1) := by decide +kernel
theorem d_Shapes_stringEnd_100 : decode b_Shapes_stringEnd 100 = .ok (.if_icmp .ne 5, 3) := by decide +kernel
theorem d_Shapes_stringEnd_103 : decode b_Shapes_stringEnd 103 = .ok (.iconst (-1), 1) := by decide +kernel
theorem d_Shapes_stringEnd_104 : decode b_Shapes_stringEnd 104 = .ok (.ireturn, 1) := by decide +kernel
theorem d_Shapes_stringEnd_105 : decode b_Shapes_stringEnd 105 = .ok (.iinc 4 1, 3) := by decide +kernel
theorem d_Shapes_stringEnd_108 : decode b_Shapes_stringEnd 108 = .ok (.goto (-79), 3) := by decide +kernel
theorem d_Shapes_stringEnd_111 : decode b_Shapes_stringEnd 111 = .ok (.iconst (-1), 1) := by decide +kernel
theorem d_Shapes_stringEnd_112 : decode b_Shapes_stringEnd 112 = .ok (.ireturn, 1) := by decide +kernel
theorem d_Shapes_standsThrice_0 : decode b_Shapes_standsThrice 0 = .ok (.aload_n 0, 1) := by decide +kernel
theorem d_Shapes_standsThrice_1 : decode b_Shapes_standsThrice 1 = .ok (.getfield 9, 3) := by decide +kernel
theorem d_Shapes_standsThrice_4 : decode b_Shapes_standsThrice 4 = .ok (.iload_n 2, 1) := by decide +kernel
theorem d_Shapes_standsThrice_5 : decode b_Shapes_standsThrice 5 = .ok (.invokevirtual 29, 3) := by decide +kernel
theorem d_Shapes_standsThrice_8 : decode b_Shapes_standsThrice 8 = .ok (.iload_n 1, 1) := by decide +kernel
theorem d_Shapes_standsThrice_9 : decode b_Shapes_standsThrice 9 = .ok (.if_icmp .ne 35, 3) := by decide +kernel
theorem d_Shapes_standsThrice_12 : decode b_Shapes_standsThrice 12 = .ok (.aload_n 0, 1) := by decide +kernel
theorem d_Shapes_standsThrice_13 : decode b_Shapes_standsThrice 13 = .ok (.getfield 9, 3) := by decide +kernel
theorem d_Shapes_standsThrice_16 : decode b_Shapes_standsThrice 16 = .ok (.iload_n 2, 1) := by decide +kernel
theorem d_Shapes_standsThrice_17 : decode b_Shapes_standsThrice 17 = .ok (.iconst 1, 1) := by decide +kernel
theorem d_Shapes_standsThrice_18 : decode b_Shapes_standsThrice 18 = .ok (.iadd, 1) := by decide +kernel
theorem d_Shapes_standsThrice_19 : decode b_Shapes_standsThrice 19 = .ok (.invokevirtual 29, 3) := by decide +kernel
theorem d_Shapes_standsThrice_22 : decode b_Shapes_standsThrice 22 = .ok (.iload_n 1, 1) := by decide +kernel
theorem d_Shapes_standsThrice_23 : decode b_Shapes_standsThrice 23 = .ok (.if_icmp .ne 21, 3) := by decide +kernel
theorem d_Shapes_standsThrice_26 : decode b_Shapes_standsThrice 26 = .ok (.aload_n 0, 1) := by decide +kernel
theorem d_Shapes_standsThrice_27 : decode b_Shapes_standsThrice 27 = .ok (.getfield 9, 3) := by decide +kernel
theorem d_Shapes_standsThrice_30 : decode b_Shapes_standsThrice 30 = .ok (.iload_n 2, 1) := by decide +kernel
theorem d_Shapes_standsThrice_31 : decode b_Shapes_standsThrice 31 = .ok (.iconst 2, 1) := by decide +kernel
theorem d_Shapes_standsThrice_32 : decode b_Shapes_standsThrice 32 = .ok (.iadd, 1) := by decide +kernel
theorem d_Shapes_standsThrice_33 : decode b_Shapes_standsThrice 33 = .ok (.invokevirtual 29, 3) := by decide +kernel
theorem d_Shapes_standsThrice_36 : decode b_Shapes_standsThrice 36 = .ok (.iload_n 1, 1) := by decide +kernel
theorem d_Shapes_standsThrice_37 : decode b_Shapes_standsThrice 37 = .ok (.if_icmp .ne 7, 3) := by decide +kernel
theorem d_Shapes_standsThrice_40 : decode b_Shapes_standsThrice 40 = .ok (.iconst 1, 1) := by decide +kernel
theorem d_Shapes_standsThrice_41 : decode b_Shapes_standsThrice 41 = .ok (.goto 4, 3) := by decide +kernel
theorem d_Shapes_standsThrice_44 : decode b_Shapes_standsThrice 44 = .ok (.iconst 0, 1) := by decide +kernel
theorem d_Shapes_standsThrice_45 : decode b_Shapes_standsThrice 45 = .ok (.ireturn, 1) := by decide +kernel
theorem d_Shapes_signKind_0 : decode b_Shapes_signKind 0 = .ok (.iconst 0, 1) := by decide +kernel
theorem d_Shapes_signKind_1 : decode b_Shapes_signKind 1 = .ok (.istore_n 2, 1) := by decide +kernel
theorem d_Shapes_signKind_2 : decode b_Shapes_signKind 2 = .ok (.iload_n 2, 1) := by decide +kernel
theorem d_Shapes_signKind_3 : decode b_Shapes_signKind 3 = .ok (.iconst 3, 1) := by decide +kernel
theorem d_Shapes_signKind_4 : decode b_Shapes_signKind 4 = .ok (.iadd, 1) := by decide +kernel
theorem d_Shapes_signKind_5 : decode b_Shapes_signKind 5 = .ok (.ldc 81, 2) := by decide +kernel
theorem d_Shapes_signKind_7 : decode b_Shapes_signKind 7 = .ok (.invokevirtual 50, 3) := by decide +kernel
theorem d_Shapes_signKind_10 : decode b_Shapes_signKind 10 = .ok (.if_icmp .gt 25, 3) := by decide +kernel
theorem d_Shapes_signKind_13 : decode b_Shapes_signKind 13 = .ok (.aload_n 0, 1) := by decide +kernel
theorem d_Shapes_signKind_14 : decode b_Shapes_signKind 14 = .ok (.iload_n 2, 1) := by decide +kernel
theorem d_Shapes_signKind_15 : decode b_Shapes_signKind 15 = .ok (.iload_n 1, 1) := by decide +kernel
theorem d_Shapes_signKind_16 : decode b_Shapes_signKind 16 = .ok (.invokevirtual 83, 3) := by decide +kernel
theorem d_Shapes_signKind_19 : decode b_Shapes_signKind 19 = .ok (.ifCond .eq 10, 3) := by decide +kernel
theorem d_Shapes_signKind_22 : decode b_Shapes_signKind 22 = .ok (.bipush 43, 2) := by decide +kernel
theorem d_Shapes_signKind_24 : decode b_Shapes_signKind 24 = .ok (.iload_n 2, 1) := by decide +kernel
theorem d_Shapes_signKind_25 : decode b_Shapes_signKind 25 = .ok (.iconst 3, 1) := by decide +kernel
theorem d_Shapes_signKind_26 : decode b_Shapes_signKind 26 = .ok (.idiv, 1) := by decide +kernel
theorem d_Shapes_signKind_27 : decode b_Shapes_signKind 27 = .ok (.iadd, 1) := by decide +kernel
theorem d_Shapes_signKind_28 : decode b_Shapes_signKind 28 = .ok (.ireturn, 1) := by decide +kernel
theorem d_Shapes_signKind_29 : decode b_Shapes_signKind 29 = .ok (.iinc 2 3, 3) := by decide +kernel
theorem d_Shapes_signKind_32 : decode b_Shapes_signKind 32 = .ok (.goto (-30), 3) := by decide +kernel
theorem d_Shapes_signKind_35 : decode b_Shapes_signKind 35 = .ok (.iconst (-1), 1) := by decide +kernel
theorem d_Shapes_signKind_36 : decode b_Shapes_signKind 36 = .ok (.ireturn, 1) := by decide +kernel
theorem d_Shapes_signEnd_0 : decode b_Shapes_signEnd 0 = .ok (.iload_n 2, 1) := by decide +kernel
theorem d_Shapes_signEnd_1 : decode b_Shapes_signEnd 1 = .ok (.iconst (-1), 1) := by decide +kernel
theorem d_Shapes_signEnd_2 : decode b_Shapes_signEnd 2 = .ok (.if_icmp .ne 7, 3) := by decide +kernel
theorem d_Shapes_signEnd_5 : decode b_Shapes_signEnd 5 = .ok (.iconst (-1), 1) := by decide +kernel
theorem d_Shapes_signEnd_6 : decode b_Shapes_signEnd 6 = .ok (.goto 14, 3) := by decide +kernel
theorem d_Shapes_signEnd_9 : decode b_Shapes_signEnd 9 = .ok (.iload_n 1, 1) := by decide +kernel
theorem d_Shapes_signEnd_10 : decode b_Shapes_signEnd 10 = .ok (.iload_n 2, 1) := by decide +kernel
theorem d_Shapes_signEnd_11 : decode b_Shapes_signEnd 11 = .ok (.bipush 43, 2) := by decide +kernel
theorem d_Shapes_signEnd_13 : decode b_Shapes_signEnd 13 = .ok (.isub, 1) := by decide +kernel
theorem d_Shapes_signEnd_14 : decode b_Shapes_signEnd 14 = .ok (.iconst 3, 1) := by decide +kernel
theorem d_Shapes_signEnd_15 : decode b_Shapes_signEnd 15 = .ok (.imul, 1) := by decide +kernel
theorem d_Shapes_signEnd_16 : decode b_Shapes_signEnd 16 = .ok (.invokestatic 86, 3) := by decide +kernel
theorem d_Shapes_signEnd_19 : decode b_Shapes_signEnd 19 = .ok (.iadd, 1) := by decide +kernel
theorem d_Shapes_signEnd_20 : decode b_Shapes_signEnd 20 = .ok (.ireturn, 1) := by decide +kernel
theorem d_Shapes_signLength_0 : decode b_Shapes_signLength 0 = .ok (.iconst 0, 1) := by decide +kernel
theorem d_Shapes_signLength_1 : decode b_Shapes_signLength 1 = .ok (.istore_n 1, 1) := by decide +kernel
theorem d_Shapes_signLength_2 : decode b_Shapes_signLength 2 = .ok (.iload_n 1, 1) := by decide +kernel
theorem d_Shapes_signLength_3 : decode b_Shapes_signLength 3 = .ok (.iconst 3, 1) := by decide +kernel
theorem d_Shapes_signLength_4 : decode b_Shapes_signLength 4 = .ok (.if_icmp .ge 37, 3) := by decide +kernel
theorem d_Shapes_signLength_7 : decode b_Shapes_signLength 7 = .ok (.iload_n 0, 1) := by decide +kernel
theorem d_Shapes_signLength_8 : decode b_Shapes_signLength 8 = .ok (.ifCond .lt 33, 3) := by decide +kernel
theorem d_Shapes_signLength_11 : decode b_Shapes_signLength 11 = .ok (.iload_n 0, 1) := by decide +kernel
theorem d_Shapes_signLength_12 : decode b_Shapes_signLength 12 = .ok (.iload_n 1, 1) := by decide +kernel
theorem d_Shapes_signLength_13 : decode b_Shapes_signLength 13 = .ok (.iadd, 1) := by decide +kernel
theorem d_Shapes_signLength_14 : decode b_Shapes_signLength 14 = .ok (.ldc 81, 2) := by decide +kernel
theorem d_Shapes_signLength_16 : decode b_Shapes_signLength 16 = .ok (.invokevirtual 50, 3) := by decide +kernel
theorem d_Shapes_signLength_19 : decode b_Shapes_signLength 19 = .ok (.if_icmp .ge 22, 3) := by decide +kernel
theorem d_Shapes_signLength_22 : decode b_Shapes_signLength 22 = .ok (.ldc 81, 2) := by decide +kernel
theorem d_Shapes_signLength_24 : decode b_Shapes_signLength 24 = .ok (.iload_n 0, 1) := by decide +kernel
theorem d_Shapes_signLength_25 : decode b_Shapes_signLength 25 = .ok (.iload_n 1, 1) := by decide +kernel
theorem d_Shapes_signLength_26 : decode b_Shapes_signLength 26 = .ok (.iadd, 1) := by decide +kernel
theorem d_Shapes_signLength_27 : decode b_Shapes_signLength 27 = .ok (.invokevirtual 55, 3) := by decide +kernel
theorem d_Shapes_signLength_30 : decode b_Shapes_signLength 30 = .ok (.bipush 32, 2) := by decide +kernel
theorem d_Shapes_signLength_32 : decode b_Shapes_signLength 32 = .ok (.if_icmp .eq 9, 3) := by decide +kernel
theorem d_Shapes_signLength_35 : decode b_Shapes_signLength 35 = .ok (.iinc 1 1, 3) := by decide +kernel
theorem d_Shapes_signLength_38 : decode b_Shapes_signLength 38 = .ok (.goto (-36), 3) := by decide +kernel
theorem d_Shapes_signLength_41 : decode b_Shapes_signLength 41 = .ok (.iload_n 1, 1) := by decide +kernel
theorem d_Shapes_signLength_42 : decode b_Shapes_signLength 42 = .ok (.ireturn, 1) := by decide +kernel
theorem d_Shapes_isSign_0 : decode b_Shapes_isSign 0 = .ok (.iload_n 1, 1) := by decide +kernel
theorem d_Shapes_isSign_1 : decode b_Shapes_isSign 1 = .ok (.invokestatic 86, 3) := by decide +kernel
theorem d_Shapes_isSign_4 : decode b_Shapes_isSign 4 = .ok (.istore_n 3, 1) := by decide +kernel
theorem d_Shapes_isSign_5 : decode b_Shapes_isSign 5 = .ok (.iconst 0, 1) := by decide +kernel
theorem d_Shapes_isSign_6 : decode b_Shapes_isSign 6 = .ok (.istore 4, 2) := by decide +kernel
theorem d_Shapes_isSign_8 : decode b_Shapes_isSign 8 = .ok (.iload 4, 2) := by decide +kernel
theorem d_Shapes_isSign_10 : decode b_Shapes_isSign 10 = .ok (.iload_n 3, 1) := by decide +kernel
theorem d_Shapes_isSign_11 : decode b_Shapes_isSign 11 = .ok (.if_icmp .ge 34, 3) := by decide +kernel
theorem d_Shapes_isSign_14 : decode b_Shapes_isSign 14 = .ok (.ldc 81, 2) := by decide +kernel
theorem d_Shapes_isSign_16 : decode b_Shapes_isSign 16 = .ok (.iload_n 1, 1) := by decide +kernel
theorem d_Shapes_isSign_17 : decode b_Shapes_isSign 17 = .ok (.iload 4, 2) := by decide +kernel
theorem d_Shapes_isSign_19 : decode b_Shapes_isSign 19 = .ok (.iadd, 1) := by decide +kernel
theorem d_Shapes_isSign_20 : decode b_Shapes_isSign 20 = .ok (.invokevirtual 55, 3) := by decide +kernel
theorem d_Shapes_isSign_23 : decode b_Shapes_isSign 23 = .ok (.aload_n 0, 1) := by decide +kernel
theorem d_Shapes_isSign_24 : decode b_Shapes_isSign 24 = .ok (.getfield 9, 3) := by decide +kernel
theorem d_Shapes_isSign_27 : decode b_Shapes_isSign 27 = .ok (.iload_n 2, 1) := by decide +kernel
theorem d_Shapes_isSign_28 : decode b_Shapes_isSign 28 = .ok (.iload 4, 2) := by decide +kernel
theorem d_Shapes_isSign_30 : decode b_Shapes_isSign 30 = .ok (.iadd, 1) := by decide +kernel
theorem d_Shapes_isSign_31 : decode b_Shapes_isSign 31 = .ok (.invokevirtual 29, 3) := by decide +kernel
theorem d_Shapes_isSign_34 : decode b_Shapes_isSign 34 = .ok (.if_icmp .eq 5, 3) := by decide +kernel
theorem d_Shapes_isSign_37 : decode b_Shapes_isSign 37 = .ok (.iconst 0, 1) := by decide +kernel
theorem d_Shapes_isSign_38 : decode b_Shapes_isSign 38 = .ok (.ireturn, 1) := by decide +kernel
theorem d_Shapes_isSign_39 : decode b_Shapes_isSign 39 = .ok (.iinc 4 1, 3) := by decide +kernel
theorem d_Shapes_isSign_42 : decode b_Shapes_isSign 42 = .ok (.goto (-34), 3) := by decide +kernel
theorem d_Shapes_isSign_45 : decode b_Shapes_isSign 45 = .ok (.iconst 1, 1) := by decide +kernel
theorem d_Shapes_isSign_46 : decode b_Shapes_isSign 46 = .ok (.ireturn, 1) := by decide +kernel
