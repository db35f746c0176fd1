theorem d_Desk_init_0 : decode b_Desk_init 0 = .ok (.aload_n 0, 1) := by decide +kernel
theorem d_Desk_init_1 : decode b_Desk_init 1 = .ok (.invokespecial 1, 3) := by decide +kernel
theorem d_Desk_init_4 : decode b_Desk_init 4 = .ok (.aload_n 0, 1) := by decide +kernel
theorem d_Desk_init_5 : decode b_Desk_init 5 = .ok (.new 7, 3) := by decide +kernel
theorem d_Desk_init_8 : decode b_Desk_init 8 = .ok (.dup, 1) := by decide +kernel
theorem d_Desk_init_9 : decode b_Desk_init 9 = .ok (.invokespecial 9, 3) := by decide +kernel
theorem d_Desk_init_12 : decode b_Desk_init 12 = .ok (.putfield 10, 3) := by decide +kernel
theorem d_Desk_init_15 : decode b_Desk_init 15 = .ok (.aload_n 0, 1) := by decide +kernel
theorem d_Desk_init_16 : decode b_Desk_init 16 = .ok (.new 16, 3) := by decide +kernel
theorem d_Desk_init_19 : decode b_Desk_init 19 = .ok (.dup, 1) := by decide +kernel
theorem d_Desk_init_20 : decode b_Desk_init 20 = .ok (.invokespecial 18, 3) := by decide +kernel
theorem d_Desk_init_23 : decode b_Desk_init 23 = .ok (.putfield 19, 3) := by decide +kernel
theorem d_Desk_init_26 : decode b_Desk_init 26 = .ok (.aload_n 0, 1) := by decide +kernel
theorem d_Desk_init_27 : decode b_Desk_init 27 = .ok (.new 23, 3) := by decide +kernel
theorem d_Desk_init_30 : decode b_Desk_init 30 = .ok (.dup, 1) := by decide +kernel
theorem d_Desk_init_31 : decode b_Desk_init 31 = .ok (.aload_n 0, 1) := by decide +kernel
theorem d_Desk_init_32 : decode b_Desk_init 32 = .ok (.getfield 10, 3) := by decide +kernel
theorem d_Desk_init_35 : decode b_Desk_init 35 = .ok (.aload_n 0, 1) := by decide +kernel
theorem d_Desk_init_36 : decode b_Desk_init 36 = .ok (.getfield 19, 3) := by decide +kernel
theorem d_Desk_init_39 : decode b_Desk_init 39 = .ok (.invokespecial 25, 3) := by decide +kernel
theorem d_Desk_init_42 : decode b_Desk_init 42 = .ok (.putfield 28, 3) := by decide +kernel
theorem d_Desk_init_45 : decode b_Desk_init 45 = .ok (.aload_n 0, 1) := by decide +kernel
theorem d_Desk_init_46 : decode b_Desk_init 46 = .ok (.iconst (-1), 1) := by decide +kernel
theorem d_Desk_init_47 : decode b_Desk_init 47 = .ok (.putfield 32, 3) := by decide +kernel
theorem d_Desk_init_50 : decode b_Desk_init 50 = .ok (.return_, 1) := by decide +kernel
theorem d_Desk_feed_0 : decode b_Desk_feed 0 = .ok (.aload_n 0, 1) := by decide +kernel
theorem d_Desk_feed_1 : decode b_Desk_feed 1 = .ok (.getfield 10, 3) := by decide +kernel
theorem d_Desk_feed_4 : decode b_Desk_feed 4 = .ok (.invokevirtual 36, 3) := by decide +kernel
theorem d_Desk_feed_7 : decode b_Desk_feed 7 = .ok (.ifCond .ne 13, 3) := by decide +kernel
theorem d_Desk_feed_10 : decode b_Desk_feed 10 = .ok (.new 40, 3) := by decide +kernel
theorem d_Desk_feed_13 : decode b_Desk_feed 13 = .ok (.dup, 1) := by decide +kernel
theorem d_Desk_feed_14 : decode b_Desk_feed 14 = .ok (.ldc 42, 2) := by decide +kernel
theorem d_Desk_feed_16 : decode b_Desk_feed 16 = .ok (.invokespecial 44, 3) := by decide +kernel
theorem d_Desk_feed_19 : decode b_Desk_feed 19 = .ok (.athrow, 1) := by decide +kernel
theorem d_Desk_feed_20 : decode b_Desk_feed 20 = .ok (.aload_n 0, 1) := by decide +kernel
theorem d_Desk_feed_21 : decode b_Desk_feed 21 = .ok (.getfield 10, 3) := by decide +kernel
theorem d_Desk_feed_24 : decode b_Desk_feed 24 = .ok (.iload_n 1, 1) := by decide +kernel
theorem d_Desk_feed_25 : decode b_Desk_feed 25 = .ok (.invokevirtual 47, 3) := by decide +kernel
theorem d_Desk_feed_28 : decode b_Desk_feed 28 = .ok (.aload_n 0, 1) := by decide +kernel
theorem d_Desk_feed_29 : decode b_Desk_feed 29 = .ok (.getfield 10, 3) := by decide +kernel
theorem d_Desk_feed_32 : decode b_Desk_feed 32 = .ok (.iload_n 2, 1) := by decide +kernel
theorem d_Desk_feed_33 : decode b_Desk_feed 33 = .ok (.invokevirtual 47, 3) := by decide +kernel
theorem d_Desk_feed_36 : decode b_Desk_feed 36 = .ok (.aload_n 0, 1) := by decide +kernel
theorem d_Desk_feed_37 : decode b_Desk_feed 37 = .ok (.getfield 10, 3) := by decide +kernel
theorem d_Desk_feed_40 : decode b_Desk_feed 40 = .ok (.iload_n 3, 1) := by decide +kernel
theorem d_Desk_feed_41 : decode b_Desk_feed 41 = .ok (.invokevirtual 47, 3) := by decide +kernel
theorem d_Desk_feed_44 : decode b_Desk_feed 44 = .ok (.aload_n 0, 1) := by decide +kernel
theorem d_Desk_feed_45 : decode b_Desk_feed 45 = .ok (.getfield 10, 3) := by decide +kernel
theorem d_Desk_feed_48 : decode b_Desk_feed 48 = .ok (.iload 4, 2) := by decide +kernel
theorem d_Desk_feed_50 : decode b_Desk_feed 50 = .ok (.invokevirtual 47, 3) := by decide +kernel
theorem d_Desk_feed_53 : decode b_Desk_feed 53 = .ok (.aload_n 0, 1) := by decide +kernel
theorem d_Desk_feed_54 : decode b_Desk_feed 54 = .ok (.getfield 10, 3) := by decide +kernel
theorem d_Desk_feed_57 : decode b_Desk_feed 57 = .ok (.iload 5, 2) := by decide +kernel
theorem d_Desk_feed_59 : decode b_Desk_feed 59 = .ok (.invokevirtual 47, 3) := by decide +kernel
theorem d_Desk_feed_62 : decode b_Desk_feed 62 = .ok (.aload_n 0, 1) := by decide +kernel
theorem d_Desk_feed_63 : decode b_Desk_feed 63 = .ok (.getfield 10, 3) := by decide +kernel
theorem d_Desk_feed_66 : decode b_Desk_feed 66 = .ok (.invokevirtual 51, 3) := by decide +kernel
theorem d_Desk_feed_69 : decode b_Desk_feed 69 = .ok (.ireturn, 1) := by decide +kernel
theorem d_Desk_scan_0 : decode b_Desk_scan 0 = .ok (.iload_n 1, 1) := by decide +kernel
theorem d_Desk_scan_1 : decode b_Desk_scan 1 = .ok (.ifCond .lt 21, 3) := by decide +kernel
theorem d_Desk_scan_4 : decode b_Desk_scan 4 = .ok (.iload_n 1, 1) := by decide +kernel
theorem d_Desk_scan_5 : decode b_Desk_scan 5 = .ok (.sipush 4096, 3) := by decide +kernel
theorem d_Desk_scan_8 : decode b_Desk_scan 8 = .ok (.if_icmp .gt 14, 3) := by decide +kernel
theorem d_Desk_scan_11 : decode b_Desk_scan 11 = .ok (.iload_n 1, 1) := by decide +kernel
theorem d_Desk_scan_12 : decode b_Desk_scan 12 = .ok (.aload_n 0, 1) := by decide +kernel
theorem d_Desk_scan_13 : decode b_Desk_scan 13 = .ok (.getfield 10, 3) := by decide +kernel
theorem d_Desk_scan_16 : decode b_Desk_scan 16 = .ok (.invokevirtual 51, 3) := by decide +kernel
theorem d_Desk_scan_19 : decode b_Desk_scan 19 = .ok (.if_icmp .le 13, 3) := by decide +kernel
theorem d_Desk_scan_22 : decode b_Desk_scan 22 = .ok (.new 40, 3) := by decide +kernel
theorem d_Desk_scan_25 : decode b_Desk_scan 25 = .ok (.dup, 1) := by decide +kernel
theorem d_Desk_scan_26 : decode b_Desk_scan 26 = .ok (.ldc 55, 2) := by decide +kernel
theorem d_Desk_scan_28 : decode b_Desk_scan 28 = .ok (.invokespecial 44, 3) := by decide +kernel
theorem d_Desk_scan_31 : decode b_Desk_scan 31 = .ok (.athrow, 1) := by decide +kernel
theorem d_Desk_scan_32 : decode b_Desk_scan 32 = .ok (.aload_n 0, 1) := by decide +kernel
theorem d_Desk_scan_33 : decode b_Desk_scan 33 = .ok (.getfield 19, 3) := by decide +kernel
theorem d_Desk_scan_36 : decode b_Desk_scan 36 = .ok (.invokevirtual 57, 3) := by decide +kernel
theorem d_Desk_scan_39 : decode b_Desk_scan 39 = .ok (.aload_n 0, 1) := by decide +kernel
theorem d_Desk_scan_40 : decode b_Desk_scan 40 = .ok (.getfield 10, 3) := by decide +kernel
theorem d_Desk_scan_43 : decode b_Desk_scan 43 = .ok (.iload_n 1, 1) := by decide +kernel
theorem d_Desk_scan_44 : decode b_Desk_scan 44 = .ok (.invokevirtual 60, 3) := by decide +kernel
theorem d_Desk_scan_47 : decode b_Desk_scan 47 = .ok (.aload_n 0, 1) := by decide +kernel
theorem d_Desk_scan_48 : decode b_Desk_scan 48 = .ok (.aload_n 0, 1) := by decide +kernel
theorem d_Desk_scan_49 : decode b_Desk_scan 49 = .ok (.getfield 28, 3) := by decide +kernel
theorem d_Desk_scan_52 : decode b_Desk_scan 52 = .ok (.invokevirtual 63, 3) := by decide +kernel
theorem d_Desk_scan_55 : decode b_Desk_scan 55 = .ok (.putfield 32, 3) := by decide +kernel
theorem d_Desk_scan_58 : decode b_Desk_scan 58 = .ok (.aload_n 0, 1) := by decide +kernel
theorem d_Desk_scan_59 : decode b_Desk_scan 59 = .ok (.getfield 10, 3) := by decide +kernel
theorem d_Desk_scan_62 : decode b_Desk_scan 62 = .ok (.invokevirtual 66, 3) := by decide +kernel
theorem d_Desk_scan_65 : decode b_Desk_scan 65 = .ok (.aload_n 0, 1) := by decide +kernel
theorem d_Desk_scan_66 : decode b_Desk_scan 66 = .ok (.getfield 32, 3) := by decide +kernel
theorem d_Desk_scan_69 : decode b_Desk_scan 69 = .ok (.iconst (-1), 1) := by decide +kernel
theorem d_Desk_scan_70 : decode b_Desk_scan 70 = .ok (.if_icmp .eq 20, 3) := by decide +kernel
theorem d_Desk_scan_73 : decode b_Desk_scan 73 = .ok (.aload_n 0, 1) := by decide +kernel
theorem d_Desk_scan_74 : decode b_Desk_scan 74 = .ok (.getfield 19, 3) := by decide +kernel
theorem d_Desk_scan_77 : decode b_Desk_scan 77 = .ok (.invokevirtual 57, 3) := by decide +kernel
theorem d_Desk_scan_80 : decode b_Desk_scan 80 = .ok (.new 67, 3) := by decide +kernel
theorem d_Desk_scan_83 : decode b_Desk_scan 83 = .ok (.dup, 1) := by decide +kernel
theorem d_Desk_scan_84 : decode b_Desk_scan 84 = .ok (.ldc 69, 2) := by decide +kernel
theorem d_Desk_scan_86 : decode b_Desk_scan 86 = .ok (.invokespecial 71, 3) := by decide +kernel
theorem d_Desk_scan_89 : decode b_Desk_scan 89 = .ok (.athrow, 1) := by decide +kernel
theorem d_Desk_scan_90 : decode b_Desk_scan 90 = .ok (.aload_n 0, 1) := by decide +kernel
theorem d_Desk_scan_91 : decode b_Desk_scan 91 = .ok (.getfield 19, 3) := by decide +kernel
theorem d_Desk_scan_94 : decode b_Desk_scan 94 = .ok (.invokevirtual 72, 3) := by decide +kernel
theorem d_Desk_scan_97 : decode b_Desk_scan 97 = .ok (.ireturn, 1) := by decide +kernel
theorem d_Desk_wrong_0 : decode b_Desk_wrong 0 = .ok (.aload_n 0, 1) := by decide +kernel
theorem d_Desk_wrong_1 : decode b_Desk_wrong 1 = .ok (.getfield 32, 3) := by decide +kernel
theorem d_Desk_wrong_4 : decode b_Desk_wrong 4 = .ok (.ireturn, 1) := by decide +kernel
theorem d_Desk_token_0 : decode b_Desk_token 0 = .ok (.iload_n 2, 1) := by decide +kernel
theorem d_Desk_token_1 : decode b_Desk_token 1 = .ok (.ifCond .lt 8, 3) := by decide +kernel
theorem d_Desk_token_4 : decode b_Desk_token 4 = .ok (.iload_n 2, 1) := by decide +kernel
theorem d_Desk_token_5 : decode b_Desk_token 5 = .ok (.iconst 4, 1) := by decide +kernel
theorem d_Desk_token_6 : decode b_Desk_token 6 = .ok (.if_icmp .lt 13, 3) := by decide +kernel
theorem d_Desk_token_9 : decode b_Desk_token 9 = .ok (.new 67, 3) := by decide +kernel
theorem d_Desk_token_12 : decode b_Desk_token 12 = .ok (.dup, 1) := by decide +kernel
theorem d_Desk_token_13 : decode b_Desk_token 13 = .ok (.ldc 75, 2) := by decide +kernel
theorem d_Desk_token_15 : decode b_Desk_token 15 = .ok (.invokespecial 71, 3) := by decide +kernel
theorem d_Desk_token_18 : decode b_Desk_token 18 = .ok (.athrow, 1) := by decide +kernel
theorem d_Desk_token_19 : decode b_Desk_token 19 = .ok (.iload_n 1, 1) := by decide +kernel
theorem d_Desk_token_20 : decode b_Desk_token 20 = .ok (.ifCond .lt 14, 3) := by decide +kernel
theorem d_Desk_token_23 : decode b_Desk_token 23 = .ok (.iload_n 1, 1) := by decide +kernel
theorem d_Desk_token_24 : decode b_Desk_token 24 = .ok (.aload_n 0, 1) := by decide +kernel
theorem d_Desk_token_25 : decode b_Desk_token 25 = .ok (.getfield 19, 3) := by decide +kernel
theorem d_Desk_token_28 : decode b_Desk_token 28 = .ok (.invokevirtual 72, 3) := by decide +kernel
theorem d_Desk_token_31 : decode b_Desk_token 31 = .ok (.if_icmp .lt 13, 3) := by decide +kernel
theorem d_Desk_token_34 : decode b_Desk_token 34 = .ok (.new 40, 3) := by decide +kernel
theorem d_Desk_token_37 : decode b_Desk_token 37 = .ok (.dup, 1) := by decide +kernel
theorem d_Desk_token_38 : decode b_Desk_token 38 = .ok (.ldc 77, 2) := by decide +kernel
theorem d_Desk_token_40 : decode b_Desk_token 40 = .ok (.invokespecial 44, 3) := by decide +kernel
theorem d_Desk_token_43 : decode b_Desk_token 43 = .ok (.athrow, 1) := by decide +kernel
theorem d_Desk_token_44 : decode b_Desk_token 44 = .ok (.aload_n 0, 1) := by decide +kernel
theorem d_Desk_token_45 : decode b_Desk_token 45 = .ok (.getfield 19, 3) := by decide +kernel
theorem d_Desk_token_48 : decode b_Desk_token 48 = .ok (.iload_n 1, 1) := by decide +kernel
theorem d_Desk_token_49 : decode b_Desk_token 49 = .ok (.iload_n 2, 1) := by decide +kernel
theorem d_Desk_token_50 : decode b_Desk_token 50 = .ok (.invokevirtual 79, 3) := by decide +kernel
theorem d_Desk_token_53 : decode b_Desk_token 53 = .ok (.ireturn, 1) := by decide +kernel
theorem d_Desk_many_0 : decode b_Desk_many 0 = .ok (.aload_n 0, 1) := by decide +kernel
theorem d_Desk_many_1 : decode b_Desk_many 1 = .ok (.getfield 19, 3) := by decide +kernel
theorem d_Desk_many_4 : decode b_Desk_many 4 = .ok (.invokevirtual 72, 3) := by decide +kernel
theorem d_Desk_many_7 : decode b_Desk_many 7 = .ok (.ireturn, 1) := by decide +kernel
theorem d_Text_init_0 : decode b_Text_init 0 = .ok (.aload_n 0, 1) := by decide +kernel
theorem d_Text_init_1 : decode b_Text_init 1 = .ok (.invokespecial 3, 3) := by decide +kernel
theorem d_Text_init_4 : decode b_Text_init 4 = .ok (.aload_n 0, 1) := by decide +kernel
theorem d_Text_init_5 : decode b_Text_init 5 = .ok (.sipush 1025, 3) := by decide +kernel
theorem d_Text_init_8 : decode b_Text_init 8 = .ok (.newarray .int, 2) := by decide +kernel
theorem d_Text_init_10 : decode b_Text_init 10 = .ok (.putfield 11, 3) := by decide +kernel
theorem d_Text_init_13 : decode b_Text_init 13 = .ok (.return_, 1) := by decide +kernel
theorem d_Text_hasRoom_0 : decode b_Text_hasRoom 0 = .ok (.aload_n 0, 1) := by decide +kernel
theorem d_Text_hasRoom_1 : decode b_Text_hasRoom 1 = .ok (.getfield 15, 3) := by decide +kernel
theorem d_Text_hasRoom_4 : decode b_Text_hasRoom 4 = .ok (.iconst 5, 1) := by decide +kernel
theorem d_Text_hasRoom_5 : decode b_Text_hasRoom 5 = .ok (.iadd, 1) := by decide +kernel
theorem d_Text_hasRoom_6 : decode b_Text_hasRoom 6 = .ok (.sipush 1025, 3) := by decide +kernel
theorem d_Text_hasRoom_9 : decode b_Text_hasRoom 9 = .ok (.if_icmp .gt 7, 3) := by decide +kernel
theorem d_Text_hasRoom_12 : decode b_Text_hasRoom 12 = .ok (.iconst 1, 1) := by decide +kernel
theorem d_Text_hasRoom_13 : decode b_Text_hasRoom 13 = .ok (.goto 4, 3) := by decide +kernel
theorem d_Text_hasRoom_16 : decode b_Text_hasRoom 16 = .ok (.iconst 0, 1) := by decide +kernel
theorem d_Text_hasRoom_17 : decode b_Text_hasRoom 17 = .ok (.ireturn, 1) := by decide +kernel
theorem d_Text_addWord_0 : decode b_Text_addWord 0 = .ok (.aload_n 0, 1) := by decide +kernel
theorem d_Text_addWord_1 : decode b_Text_addWord 1 = .ok (.getfield 15, 3) := by decide +kernel
theorem d_Text_addWord_4 : decode b_Text_addWord 4 = .ok (.sipush 1025, 3) := by decide +kernel
theorem d_Text_addWord_7 : decode b_Text_addWord 7 = .ok (.if_icmp .ge 23, 3) := by decide +kernel
theorem d_Text_addWord_10 : decode b_Text_addWord 10 = .ok (.aload_n 0, 1) := by decide +kernel
theorem d_Text_addWord_11 : decode b_Text_addWord 11 = .ok (.getfield 11, 3) := by decide +kernel
theorem d_Text_addWord_14 : decode b_Text_addWord 14 = .ok (.aload_n 0, 1) := by decide +kernel
theorem d_Text_addWord_15 : decode b_Text_addWord 15 = .ok (.getfield 15, 3) := by decide +kernel
theorem d_Text_addWord_18 : decode b_Text_addWord 18 = .ok (.iload_n 1, 1) := by decide +kernel
theorem d_Text_addWord_19 : decode b_Text_addWord 19 = .ok (.iastore, 1) := by decide +kernel
theorem d_Text_addWord_20 : decode b_Text_addWord 20 = .ok (.aload_n 0, 1) := by decide +kernel
theorem d_Text_addWord_21 : decode b_Text_addWord 21 = .ok (.dup, 1) := by decide +kernel
theorem d_Text_addWord_22 : decode b_Text_addWord 22 = .ok (.getfield 15, 3) := by decide +kernel
theorem d_Text_addWord_25 : decode b_Text_addWord 25 = .ok (.iconst 1, 1) := by decide +kernel
theorem d_Text_addWord_26 : decode b_Text_addWord 26 = .ok (.iadd, 1) := by decide +kernel
theorem d_Text_addWord_27 : decode b_Text_addWord 27 = .ok (.putfield 15, 3) := by decide +kernel
theorem d_Text_addWord_30 : decode b_Text_addWord 30 = .ok (.return_, 1) := by decide +kernel
theorem d_Text_fedOctets_0 : decode b_Text_fedOctets 0 = .ok (.aload_n 0, 1) := by decide +kernel
theorem d_Text_fedOctets_1 : decode b_Text_fedOctets 1 = .ok (.getfield 15, 3) := by decide +kernel
theorem d_Text_fedOctets_4 : decode b_Text_fedOctets 4 = .ok (.iconst 4, 1) := by decide +kernel
theorem d_Text_fedOctets_5 : decode b_Text_fedOctets 5 = .ok (.imul, 1) := by decide +kernel
theorem d_Text_fedOctets_6 : decode b_Text_fedOctets 6 = .ok (.ireturn, 1) := by decide +kernel
theorem d_Text_cutTo_0 : decode b_Text_cutTo 0 = .ok (.aload_n 0, 1) := by decide +kernel
theorem d_Text_cutTo_1 : decode b_Text_cutTo 1 = .ok (.iload_n 1, 1) := by decide +kernel
theorem d_Text_cutTo_2 : decode b_Text_cutTo 2 = .ok (.putfield 19, 3) := by decide +kernel
theorem d_Text_cutTo_5 : decode b_Text_cutTo 5 = .ok (.return_, 1) := by decide +kernel
theorem d_Text_clear_0 : decode b_Text_clear 0 = .ok (.aload_n 0, 1) := by decide +kernel
theorem d_Text_clear_1 : decode b_Text_clear 1 = .ok (.iconst 0, 1) := by decide +kernel
theorem d_Text_clear_2 : decode b_Text_clear 2 = .ok (.putfield 15, 3) := by decide +kernel
theorem d_Text_clear_5 : decode b_Text_clear 5 = .ok (.aload_n 0, 1) := by decide +kernel
theorem d_Text_clear_6 : decode b_Text_clear 6 = .ok (.iconst 0, 1) := by decide +kernel
theorem d_Text_clear_7 : decode b_Text_clear 7 = .ok (.putfield 19, 3) := by decide +kernel
theorem d_Text_clear_10 : decode b_Text_clear 10 = .ok (.return_, 1) := by decide +kernel
theorem d_Text_size_0 : decode b_Text_size 0 = .ok (.aload_n 0, 1) := by decide +kernel
theorem d_Text_size_1 : decode b_Text_size 1 = .ok (.getfield 19, 3) := by decide +kernel
theorem d_Text_size_4 : decode b_Text_size 4 = .ok (.ireturn, 1) := by decide +kernel
theorem d_Text_letterAt_0 : decode b_Text_letterAt 0 = .ok (.iload_n 1, 1) := by decide +kernel
theorem d_Text_letterAt_1 : decode b_Text_letterAt 1 = .ok (.ifCond .lt 18, 3) := by decide +kernel
theorem d_Text_letterAt_4 : decode b_Text_letterAt 4 = .ok (.iload_n 1, 1) := by decide +kernel
theorem d_Text_letterAt_5 : decode b_Text_letterAt 5 = .ok (.aload_n 0, 1) := by decide +kernel
theorem d_Text_letterAt_6 : decode b_Text_letterAt 6 = .ok (.getfield 19, 3) := by decide +kernel
theorem d_Text_letterAt_9 : decode b_Text_letterAt 9 = .ok (.if_icmp .ge 10, 3) := by decide +kernel
theorem d_Text_letterAt_12 : decode b_Text_letterAt 12 = .ok (.iload_n 1, 1) := by decide +kernel
theorem d_Text_letterAt_13 : decode b_Text_letterAt 13 = .ok (.sipush 4096, 3) := by decide +kernel
theorem d_Text_letterAt_16 : decode b_Text_letterAt 16 = .ok (.if_icmp .lt 5, 3) := by decide +kernel
theorem d_Text_letterAt_19 : decode b_Text_letterAt 19 = .ok (.iconst (-1), 1) := by decide +kernel
theorem d_Text_letterAt_20 : decode b_Text_letterAt 20 = .ok (.ireturn, 1) := by decide +kernel
theorem d_Text_letterAt_21 : decode b_Text_letterAt 21 = .ok (.aload_n 0, 1) := by decide +kernel
theorem d_Text_letterAt_22 : decode b_Text_letterAt 22 = .ok (.getfield 11, 3) := by decide +kernel
theorem d_Text_letterAt_25 : decode b_Text_letterAt 25 = .ok (.iload_n 1, 1) := by decide +kernel
theorem d_Text_letterAt_26 : decode b_Text_letterAt 26 = .ok (.iconst 2, 1) := by decide +kernel
theorem d_Text_letterAt_27 : decode b_Text_letterAt 27 = .ok (.ishr, 1) := by decide +kernel
theorem d_Text_letterAt_28 : decode b_Text_letterAt 28 = .ok (.iaload, 1) := by decide +kernel
theorem d_Text_letterAt_29 : decode b_Text_letterAt 29 = .ok (.bipush 24, 2) := by decide +kernel
theorem d_Text_letterAt_31 : decode b_Text_letterAt 31 = .ok (.bipush 8, 2) := by decide +kernel
theorem d_Text_letterAt_33 : decode b_Text_letterAt 33 = .ok (.iload_n 1, 1) := by decide +kernel
theorem d_Text_letterAt_34 : decode b_Text_letterAt 34 = .ok (.iconst 3, 1) := by decide +kernel
theorem d_Text_letterAt_35 : decode b_Text_letterAt 35 = .ok (.iand, 1) := by decide +kernel
theorem d_Text_letterAt_36 : decode b_Text_letterAt 36 = .ok (.imul, 1) := by decide +kernel
theorem d_Text_letterAt_37 : decode b_Text_letterAt 37 = .ok (.isub, 1) := by decide +kernel
theorem d_Text_letterAt_38 : decode b_Text_letterAt 38 = .ok (.iushr, 1) := by decide +kernel
theorem d_Text_letterAt_39 : decode b_Text_letterAt 39 = .ok (.sipush 255, 3) := by decide +kernel
theorem d_Text_letterAt_42 : decode b_Text_letterAt 42 = .ok (.iand, 1) := by decide +kernel
theorem d_Text_letterAt_43 : decode b_Text_letterAt 43 = .ok (.ireturn, 1) := by decide +kernel
theorem d_Text_firstBadOctet_0 : decode b_Text_firstBadOctet 0 = .ok (.iconst 0, 1) := by decide +kernel
theorem d_Text_firstBadOctet_1 : decode b_Text_firstBadOctet 1 = .ok (.istore_n 1, 1) := by decide +kernel
theorem d_Text_firstBadOctet_2 : decode b_Text_firstBadOctet 2 = .ok (.iload_n 1, 1) := by decide +kernel
theorem d_Text_firstBadOctet_3 : decode b_Text_firstBadOctet 3 = .ok (.aload_n 0, 1) := by decide +kernel
theorem d_Text_firstBadOctet_4 : decode b_Text_firstBadOctet 4 = .ok (.getfield 19, 3) := by decide +kernel
theorem d_Text_firstBadOctet_7 : decode b_Text_firstBadOctet 7 = .ok (.if_icmp .ge 35, 3) := by decide +kernel
theorem d_Text_firstBadOctet_10 : decode b_Text_firstBadOctet 10 = .ok (.aload_n 0, 1) := by decide +kernel
theorem d_Text_firstBadOctet_11 : decode b_Text_firstBadOctet 11 = .ok (.iload_n 1, 1) := by decide +kernel
theorem d_Text_firstBadOctet_12 : decode b_Text_firstBadOctet 12 = .ok (.invokevirtual 22, 3) := by decide +kernel
theorem d_Text_firstBadOctet_15 : decode b_Text_firstBadOctet 15 = .ok (.istore_n 2, 1) := by decide +kernel
theorem d_Text_firstBadOctet_16 : decode b_Text_firstBadOctet 16 = .ok (.iload_n 2, 1) := by decide +kernel
theorem d_Text_firstBadOctet_17 : decode b_Text_firstBadOctet 17 = .ok (.bipush 10, 2) := by decide +kernel
theorem d_Text_firstBadOctet_19 : decode b_Text_firstBadOctet 19 = .ok (.if_icmp .eq 17, 3) := by decide +kernel
theorem d_Text_firstBadOctet_22 : decode b_Text_firstBadOctet 22 = .ok (.iload_n 2, 1) := by decide +kernel
theorem d_Text_firstBadOctet_23 : decode b_Text_firstBadOctet 23 = .ok (.bipush 32, 2) := by decide +kernel
theorem d_Text_firstBadOctet_25 : decode b_Text_firstBadOctet 25 = .ok (.if_icmp .lt 9, 3) := by decide +kernel
theorem d_Text_firstBadOctet_28 : decode b_Text_firstBadOctet 28 = .ok (.iload_n 2, 1) := by decide +kernel
theorem d_Text_firstBadOctet_29 : decode b_Text_firstBadOctet 29 = .ok (.bipush 126, 2) := by decide +kernel
theorem d_Text_firstBadOctet_31 : decode b_Text_firstBadOctet 31 = .ok (.if_icmp .le 5, 3) := by decide +kernel
theorem d_Text_firstBadOctet_34 : decode b_Text_firstBadOctet 34 = .ok (.iload_n 1, 1) := by decide +kernel
theorem d_Text_firstBadOctet_35 : decode b_Text_firstBadOctet 35 = .ok (.ireturn, 1) := by decide +kernel
theorem d_Text_firstBadOctet_36 : decode b_Text_firstBadOctet 36 = .ok (.iinc 1 1, 3) := by decide +kernel
theorem d_Text_firstBadOctet_39 : decode b_Text_firstBadOctet 39 = .ok (.goto (-37), 3) := by decide +kernel
theorem d_Text_firstBadOctet_42 : decode b_Text_firstBadOctet 42 = .ok (.iconst (-1), 1) := by decide +kernel
theorem d_Text_firstBadOctet_43 : decode b_Text_firstBadOctet 43 = .ok (.ireturn, 1) := by decide +kernel
theorem d_Text_lineFeedFrom_0 : decode b_Text_lineFeedFrom 0 = .ok (.iload_n 1, 1) := by decide +kernel
theorem d_Text_lineFeedFrom_1 : decode b_Text_lineFeedFrom 1 = .ok (.istore_n 2, 1) := by decide +kernel
theorem d_Text_lineFeedFrom_2 : decode b_Text_lineFeedFrom 2 = .ok (.iload_n 2, 1) := by decide +kernel
theorem d_Text_lineFeedFrom_3 : decode b_Text_lineFeedFrom 3 = .ok (.aload_n 0, 1) := by decide +kernel
theorem d_Text_lineFeedFrom_4 : decode b_Text_lineFeedFrom 4 = .ok (.getfield 19, 3) := by decide +kernel
theorem d_Text_lineFeedFrom_7 : decode b_Text_lineFeedFrom 7 = .ok (.if_icmp .ge 21, 3) := by decide +kernel
theorem d_Text_lineFeedFrom_10 : decode b_Text_lineFeedFrom 10 = .ok (.aload_n 0, 1) := by decide +kernel
theorem d_Text_lineFeedFrom_11 : decode b_Text_lineFeedFrom 11 = .ok (.iload_n 2, 1) := by decide +kernel
theorem d_Text_lineFeedFrom_12 : decode b_Text_lineFeedFrom 12 = .ok (.invokevirtual 22, 3) := by decide +kernel
theorem d_Text_lineFeedFrom_15 : decode b_Text_lineFeedFrom 15 = .ok (.bipush 10, 2) := by decide +kernel
theorem d_Text_lineFeedFrom_17 : decode b_Text_lineFeedFrom 17 = .ok (.if_icmp .ne 5, 3) := by decide +kernel
theorem d_Text_lineFeedFrom_20 : decode b_Text_lineFeedFrom 20 = .ok (.iload_n 2, 1) := by decide +kernel
theorem d_Text_lineFeedFrom_21 : decode b_Text_lineFeedFrom 21 = .ok (.ireturn, 1) := by decide +kernel
theorem d_Text_lineFeedFrom_22 : decode b_Text_lineFeedFrom 22 = .ok (.iinc 2 1, 3) := by decide +kernel
theorem d_Text_lineFeedFrom_25 : decode b_Text_lineFeedFrom 25 = .ok (.goto (-23), 3) := by decide +kernel
theorem d_Text_lineFeedFrom_28 : decode b_Text_lineFeedFrom 28 = .ok (.aload_n 0, 1) := by decide +kernel
theorem d_Text_lineFeedFrom_29 : decode b_Text_lineFeedFrom 29 = .ok (.getfield 19, 3) := by decide +kernel
theorem d_Text_lineFeedFrom_32 : decode b_Text_lineFeedFrom 32 = .ok (.ireturn, 1) := by decide +kernel
theorem d_Text_lineFeedsIn_0 : decode b_Text_lineFeedsIn 0 = .ok (.iconst 0, 1) := by decide +kernel
theorem d_Text_lineFeedsIn_1 : decode b_Text_lineFeedsIn 1 = .ok (.istore_n 3, 1) := by decide +kernel
theorem d_Text_lineFeedsIn_2 : decode b_Text_lineFeedsIn 2 = .ok (.iload_n 1, 1) := by decide +kernel
theorem d_Text_lineFeedsIn_3 : decode b_Text_lineFeedsIn 3 = .ok (.istore 4, 2) := by decide +kernel
theorem d_Text_lineFeedsIn_5 : decode b_Text_lineFeedsIn 5 = .ok (.iload 4, 2) := by decide +kernel
theorem d_Text_lineFeedsIn_7 : decode b_Text_lineFeedsIn 7 = .ok (.iload_n 2, 1) := by decide +kernel
theorem d_Text_lineFeedsIn_8 : decode b_Text_lineFeedsIn 8 = .ok (.if_icmp .ge 23, 3) := by decide +kernel
theorem d_Text_lineFeedsIn_11 : decode b_Text_lineFeedsIn 11 = .ok (.aload_n 0, 1) := by decide +kernel
theorem d_Text_lineFeedsIn_12 : decode b_Text_lineFeedsIn 12 = .ok (.iload 4, 2) := by decide +kernel
theorem d_Text_lineFeedsIn_14 : decode b_Text_lineFeedsIn 14 = .ok (.invokevirtual 22, 3) := by decide +kernel
theorem d_Text_lineFeedsIn_17 : decode b_Text_lineFeedsIn 17 = .ok (.bipush 10, 2) := by decide +kernel
theorem d_Text_lineFeedsIn_19 : decode b_Text_lineFeedsIn 19 = .ok (.if_icmp .ne 6, 3) := by decide +kernel
theorem d_Text_lineFeedsIn_22 : decode b_Text_lineFeedsIn 22 = .ok (.iinc 3 1, 3) := by decide +kernel
theorem d_Text_lineFeedsIn_25 : decode b_Text_lineFeedsIn 25 = .ok (.iinc 4 1, 3) := by decide +kernel
theorem d_Text_lineFeedsIn_28 : decode b_Text_lineFeedsIn 28 = .ok (.goto (-23), 3) := by decide +kernel
theorem d_Text_lineFeedsIn_31 : decode b_Text_lineFeedsIn 31 = .ok (.iload_n 3, 1) := by decide +kernel
theorem d_Text_lineFeedsIn_32 : decode b_Text_lineFeedsIn 32 = .ok (.ireturn, 1) := by decide +kernel
theorem d_Text_blanksFrom_0 : decode b_Text_blanksFrom 0 = .ok (.iload_n 1, 1) := by decide +kernel
theorem d_Text_blanksFrom_1 : decode b_Text_blanksFrom 1 = .ok (.istore_n 2, 1) := by decide +kernel
theorem d_Text_blanksFrom_2 : decode b_Text_blanksFrom 2 = .ok (.iload_n 2, 1) := by decide +kernel
theorem d_Text_blanksFrom_3 : decode b_Text_blanksFrom 3 = .ok (.aload_n 0, 1) := by decide +kernel
theorem d_Text_blanksFrom_4 : decode b_Text_blanksFrom 4 = .ok (.getfield 19, 3) := by decide +kernel
theorem d_Text_blanksFrom_7 : decode b_Text_blanksFrom 7 = .ok (.if_icmp .ge 23, 3) := by decide +kernel
theorem d_Text_blanksFrom_10 : decode b_Text_blanksFrom 10 = .ok (.aload_n 0, 1) := by decide +kernel
theorem d_Text_blanksFrom_11 : decode b_Text_blanksFrom 11 = .ok (.iload_n 2, 1) := by decide +kernel
theorem d_Text_blanksFrom_12 : decode b_Text_blanksFrom 12 = .ok (.invokevirtual 22, 3) := by decide +kernel
theorem d_Text_blanksFrom_15 : decode b_Text_blanksFrom 15 = .ok (.bipush 32, 2) := by decide +kernel
theorem d_Text_blanksFrom_17 : decode b_Text_blanksFrom 17 = .ok (.if_icmp .eq 7, 3) := by decide +kernel
theorem d_Text_blanksFrom_20 : decode b_Text_blanksFrom 20 = .ok (.iload_n 2, 1) := by decide +kernel
theorem d_Text_blanksFrom_21 : decode b_Text_blanksFrom 21 = .ok (.iload_n 1, 1) := by decide +kernel
theorem d_Text_blanksFrom_22 : decode b_Text_blanksFrom 22 = .ok (.isub, 1) := by decide +kernel
theorem d_Text_blanksFrom_23 : decode b_Text_blanksFrom 23 = .ok (.ireturn, 1) := by decide +kernel
theorem d_Text_blanksFrom_24 : decode b_Text_blanksFrom 24 = .ok (.iinc 2 1, 3) := by decide +kernel
theorem d_Text_blanksFrom_27 : decode b_Text_blanksFrom 27 = .ok (.goto (-25), 3) := by decide +kernel
theorem d_Text_blanksFrom_30 : decode b_Text_blanksFrom 30 = .ok (.aload_n 0, 1) := by decide +kernel
theorem d_Text_blanksFrom_31 : decode b_Text_blanksFrom 31 = .ok (.getfield 19, 3) := by decide +kernel
theorem d_Text_blanksFrom_34 : decode b_Text_blanksFrom 34 = .ok (.iload_n 1, 1) := by decide +kernel
theorem d_Text_blanksFrom_35 : decode b_Text_blanksFrom 35 = .ok (.isub, 1) := by decide +kernel
theorem d_Text_blanksFrom_36 : decode b_Text_blanksFrom 36 = .ok (.ireturn, 1) := by decide +kernel
theorem d_Text_joinsLinesAt_0 : decode b_Text_joinsLinesAt 0 = .ok (.aload_n 0, 1) := by decide +kernel
theorem d_Text_joinsLinesAt_1 : decode b_Text_joinsLinesAt 1 = .ok (.iload_n 1, 1) := by decide +kernel
theorem d_Text_joinsLinesAt_2 : decode b_Text_joinsLinesAt 2 = .ok (.invokevirtual 22, 3) := by decide +kernel
theorem d_Text_joinsLinesAt_5 : decode b_Text_joinsLinesAt 5 = .ok (.bipush 92, 2) := by decide +kernel
theorem d_Text_joinsLinesAt_7 : decode b_Text_joinsLinesAt 7 = .ok (.if_icmp .ne 19, 3) := by decide +kernel
theorem d_Text_joinsLinesAt_10 : decode b_Text_joinsLinesAt 10 = .ok (.aload_n 0, 1) := by decide +kernel
theorem d_Text_joinsLinesAt_11 : decode b_Text_joinsLinesAt 11 = .ok (.iload_n 1, 1) := by decide +kernel
theorem d_Text_joinsLinesAt_12 : decode b_Text_joinsLinesAt 12 = .ok (.iconst 1, 1) := by decide +kernel
theorem d_Text_joinsLinesAt_13 : decode b_Text_joinsLinesAt 13 = .ok (.iadd, 1) := by decide +kernel
theorem d_Text_joinsLinesAt_14 : decode b_Text_joinsLinesAt 14 = .ok (.invokevirtual 22, 3) := by decide +kernel
theorem d_Text_joinsLinesAt_17 : decode b_Text_joinsLinesAt 17 = .ok (.bipush 10, 2) := by decide +kernel
theorem d_Text_joinsLinesAt_19 : decode b_Text_joinsLinesAt 19 = .ok (.if_icmp .ne 7, 3) := by decide +kernel
theorem d_Text_joinsLinesAt_22 : decode b_Text_joinsLinesAt 22 = .ok (.iconst 1, 1) := by decide +kernel
theorem d_Text_joinsLinesAt_23 : decode b_Text_joinsLinesAt 23 = .ok (.goto 4, 3) := by decide +kernel
theorem d_Text_joinsLinesAt_26 : decode b_Text_joinsLinesAt 26 = .ok (.iconst 0, 1) := by decide +kernel
theorem d_Text_joinsLinesAt_27 : decode b_Text_joinsLinesAt 27 = .ok (.ireturn, 1) := by decide +kernel
theorem d_Tokens_init_0 : decode b_Tokens_init 0 = .ok (.aload_n 0, 1) := by decide +kernel
theorem d_Tokens_init_1 : decode b_Tokens_init 1 = .ok (.invokespecial 3, 3) := by decide +kernel
theorem d_Tokens_init_4 : decode b_Tokens_init 4 = .ok (.aload_n 0, 1) := by decide +kernel
theorem d_Tokens_init_5 : decode b_Tokens_init 5 = .ok (.sipush 5463, 3) := by decide +kernel
theorem d_Tokens_init_8 : decode b_Tokens_init 8 = .ok (.newarray .long, 2) := by decide +kernel
theorem d_Tokens_init_10 : decode b_Tokens_init 10 = .ok (.putfield 11, 3) := by decide +kernel
theorem d_Tokens_init_13 : decode b_Tokens_init 13 = .ok (.return_, 1) := by decide +kernel
theorem d_Tokens_clear_0 : decode b_Tokens_clear 0 = .ok (.aload_n 0, 1) := by decide +kernel
theorem d_Tokens_clear_1 : decode b_Tokens_clear 1 = .ok (.iconst 0, 1) := by decide +kernel
theorem d_Tokens_clear_2 : decode b_Tokens_clear 2 = .ok (.putfield 15, 3) := by decide +kernel
theorem d_Tokens_clear_5 : decode b_Tokens_clear 5 = .ok (.return_, 1) := by decide +kernel
theorem d_Tokens_size_0 : decode b_Tokens_size 0 = .ok (.aload_n 0, 1) := by decide +kernel
theorem d_Tokens_size_1 : decode b_Tokens_size 1 = .ok (.getfield 15, 3) := by decide +kernel
theorem d_Tokens_size_4 : decode b_Tokens_size 4 = .ok (.ireturn, 1) := by decide +kernel
theorem d_Tokens_add_0 : decode b_Tokens_add 0 = .ok (.aload_n 0, 1) := by decide +kernel
theorem d_Tokens_add_1 : decode b_Tokens_add 1 = .ok (.getfield 15, 3) := by decide +kernel
theorem d_Tokens_add_4 : decode b_Tokens_add 4 = .ok (.sipush 5463, 3) := by decide +kernel
theorem d_Tokens_add_7 : decode b_Tokens_add 7 = .ok (.if_icmp .ge 47, 3) := by decide +kernel
theorem d_Tokens_add_10 : decode b_Tokens_add 10 = .ok (.iload_n 2, 1) := by decide +kernel
theorem d_Tokens_add_11 : decode b_Tokens_add 11 = .ok (.i2l, 1) := by decide +kernel
theorem d_Tokens_add_12 : decode b_Tokens_add 12 = .ok (.bipush 16, 2) := by decide +kernel
theorem d_Tokens_add_14 : decode b_Tokens_add 14 = .ok (.lshl, 1) := by decide +kernel
theorem d_Tokens_add_15 : decode b_Tokens_add 15 = .ok (.iload_n 3, 1) := by decide +kernel
theorem d_Tokens_add_16 : decode b_Tokens_add 16 = .ok (.i2l, 1) := by decide +kernel
theorem d_Tokens_add_17 : decode b_Tokens_add 17 = .ok (.bipush 32, 2) := by decide +kernel
theorem d_Tokens_add_19 : decode b_Tokens_add 19 = .ok (.lshl, 1) := by decide +kernel
theorem d_Tokens_add_20 : decode b_Tokens_add 20 = .ok (.lor, 1) := by decide +kernel
theorem d_Tokens_add_21 : decode b_Tokens_add 21 = .ok (.lstore 5, 2) := by decide +kernel
theorem d_Tokens_add_23 : decode b_Tokens_add 23 = .ok (.aload_n 0, 1) := by decide +kernel
theorem d_Tokens_add_24 : decode b_Tokens_add 24 = .ok (.getfield 11, 3) := by decide +kernel
theorem d_Tokens_add_27 : decode b_Tokens_add 27 = .ok (.aload_n 0, 1) := by decide +kernel
theorem d_Tokens_add_28 : decode b_Tokens_add 28 = .ok (.getfield 15, 3) := by decide +kernel
theorem d_Tokens_add_31 : decode b_Tokens_add 31 = .ok (.iload_n 1, 1) := by decide +kernel
theorem d_Tokens_add_32 : decode b_Tokens_add 32 = .ok (.i2l, 1) := by decide +kernel
theorem d_Tokens_add_33 : decode b_Tokens_add 33 = .ok (.lload 5, 2) := by decide +kernel
theorem d_Tokens_add_35 : decode b_Tokens_add 35 = .ok (.lor, 1) := by decide +kernel
theorem d_Tokens_add_36 : decode b_Tokens_add 36 = .ok (.iload 4, 2) := by decide +kernel
theorem d_Tokens_add_38 : decode b_Tokens_add 38 = .ok (.i2l, 1) := by decide +kernel
theorem d_Tokens_add_39 : decode b_Tokens_add 39 = .ok (.bipush 48, 2) := by decide +kernel
theorem d_Tokens_add_41 : decode b_Tokens_add 41 = .ok (.lshl, 1) := by decide +kernel
theorem d_Tokens_add_42 : decode b_Tokens_add 42 = .ok (.lor, 1) := by decide +kernel
theorem d_Tokens_add_43 : decode b_Tokens_add 43 = .ok (.lastore, 1) := by decide +kernel
theorem d_Tokens_add_44 : decode b_Tokens_add 44 = .ok (.aload_n 0, 1) := by decide +kernel
theorem d_Tokens_add_45 : decode b_Tokens_add 45 = .ok (.dup, 1) := by decide +kernel
theorem d_Tokens_add_46 : decode b_Tokens_add 46 = .ok (.getfield 15, 3) := by decide +kernel
theorem d_Tokens_add_49 : decode b_Tokens_add 49 = .ok (.iconst 1, 1) := by decide +kernel
theorem d_Tokens_add_50 : decode b_Tokens_add 50 = .ok (.iadd, 1) := by decide +kernel
theorem d_Tokens_add_51 : decode b_Tokens_add 51 = .ok (.putfield 15, 3) := by decide +kernel
theorem d_Tokens_add_54 : decode b_Tokens_add 54 = .ok (.return_, 1) := by decide +kernel
theorem d_Tokens_part_0 : decode b_Tokens_part 0 = .ok (.iload_n 1, 1) := by decide +kernel
theorem d_Tokens_part_1 : decode b_Tokens_part 1 = .ok (.ifCond .lt 11, 3) := by decide +kernel
theorem d_Tokens_part_4 : decode b_Tokens_part 4 = .ok (.iload_n 1, 1) := by decide +kernel
theorem d_Tokens_part_5 : decode b_Tokens_part 5 = .ok (.aload_n 0, 1) := by decide +kernel
theorem d_Tokens_part_6 : decode b_Tokens_part 6 = .ok (.getfield 15, 3) := by decide +kernel
theorem d_Tokens_part_9 : decode b_Tokens_part 9 = .ok (.if_icmp .lt 5, 3) := by decide +kernel
theorem d_Tokens_part_12 : decode b_Tokens_part 12 = .ok (.iconst (-1), 1) := by decide +kernel
theorem d_Tokens_part_13 : decode b_Tokens_part 13 = .ok (.ireturn, 1) := by decide +kernel
theorem d_Tokens_part_14 : decode b_Tokens_part 14 = .ok (.aload_n 0, 1) := by decide +kernel
theorem d_Tokens_part_15 : decode b_Tokens_part 15 = .ok (.getfield 11, 3) := by decide +kernel
theorem d_Tokens_part_18 : decode b_Tokens_part 18 = .ok (.iload_n 1, 1) := by decide +kernel
theorem d_Tokens_part_19 : decode b_Tokens_part 19 = .ok (.laload, 1) := by decide +kernel
theorem d_Tokens_part_20 : decode b_Tokens_part 20 = .ok (.iload_n 2, 1) := by decide +kernel
theorem d_Tokens_part_21 : decode b_Tokens_part 21 = .ok (.bipush 16, 2) := by decide +kernel
theorem d_Tokens_part_23 : decode b_Tokens_part 23 = .ok (.imul, 1) := by decide +kernel
theorem d_Tokens_part_24 : decode b_Tokens_part 24 = .ok (.lushr, 1) := by decide +kernel
theorem d_Tokens_part_25 : decode b_Tokens_part 25 = .ok (.l2i, 1) := by decide +kernel
theorem d_Tokens_part_26 : decode b_Tokens_part 26 = .ok (.ldc 19, 2) := by decide +kernel
theorem d_Tokens_part_28 : decode b_Tokens_part 28 = .ok (.iand, 1) := by decide +kernel
theorem d_Tokens_part_29 : decode b_Tokens_part 29 = .ok (.ireturn, 1) := by decide +kernel
theorem d_Reader_init_0 : decode b_Reader_init 0 = .ok (.aload_n 0, 1) := by decide +kernel
theorem d_Reader_init_1 : decode b_Reader_init 1 = .ok (.invokespecial 3, 3) := by decide +kernel
theorem d_Reader_init_4 : decode b_Reader_init 4 = .ok (.aload_n 0, 1) := by decide +kernel
theorem d_Reader_init_5 : decode b_Reader_init 5 = .ok (.bipush 100, 2) := by decide +kernel
theorem d_Reader_init_7 : decode b_Reader_init 7 = .ok (.newarray .int, 2) := by decide +kernel
theorem d_Reader_init_9 : decode b_Reader_init 9 = .ok (.putfield 11, 3) := by decide +kernel
theorem d_Reader_init_12 : decode b_Reader_init 12 = .ok (.aload_n 0, 1) := by decide +kernel
theorem d_Reader_init_13 : decode b_Reader_init 13 = .ok (.aload_n 1, 1) := by decide +kernel
theorem d_Reader_init_14 : decode b_Reader_init 14 = .ok (.putfield 15, 3) := by decide +kernel
theorem d_Reader_init_17 : decode b_Reader_init 17 = .ok (.aload_n 0, 1) := by decide +kernel
theorem d_Reader_init_18 : decode b_Reader_init 18 = .ok (.aload_n 2, 1) := by decide +kernel
theorem d_Reader_init_19 : decode b_Reader_init 19 = .ok (.putfield 19, 3) := by decide +kernel
theorem d_Reader_init_22 : decode b_Reader_init 22 = .ok (.aload_n 0, 1) := by decide +kernel
theorem d_Reader_init_23 : decode b_Reader_init 23 = .ok (.new 23, 3) := by decide +kernel
theorem d_Reader_init_26 : decode b_Reader_init 26 = .ok (.dup, 1) := by decide +kernel
theorem d_Reader_init_27 : decode b_Reader_init 27 = .ok (.aload_n 1, 1) := by decide +kernel
theorem d_Reader_init_28 : decode b_Reader_init 28 = .ok (.invokespecial 25, 3) := by decide +kernel
theorem d_Reader_init_31 : decode b_Reader_init 31 = .ok (.putfield 28, 3) := by decide +kernel
theorem d_Reader_init_34 : decode b_Reader_init 34 = .ok (.return_, 1) := by decide +kernel
theorem d_Reader_readText_0 : decode b_Reader_readText 0 = .ok (.aload_n 0, 1) := by decide +kernel
theorem d_Reader_readText_1 : decode b_Reader_readText 1 = .ok (.getfield 15, 3) := by decide +kernel
theorem d_Reader_readText_4 : decode b_Reader_readText 4 = .ok (.invokevirtual 32, 3) := by decide +kernel
theorem d_Reader_readText_7 : decode b_Reader_readText 7 = .ok (.istore_n 1, 1) := by decide +kernel
theorem d_Reader_readText_8 : decode b_Reader_readText 8 = .ok (.iload_n 1, 1) := by decide +kernel
theorem d_Reader_readText_9 : decode b_Reader_readText 9 = .ok (.iconst (-1), 1) := by decide +kernel
theorem d_Reader_readText_10 : decode b_Reader_readText 10 = .ok (.if_icmp .eq 5, 3) := by decide +kernel
theorem d_Reader_readText_13 : decode b_Reader_readText 13 = .ok (.iload_n 1, 1) := by decide +kernel
theorem d_Reader_readText_14 : decode b_Reader_readText 14 = .ok (.ireturn, 1) := by decide +kernel
theorem d_Reader_readText_15 : decode b_Reader_readText 15 = .ok (.aload_n 0, 1) := by decide +kernel
theorem d_Reader_readText_16 : decode b_Reader_readText 16 = .ok (.invokevirtual 38, 3) := by decide +kernel
theorem d_Reader_readText_19 : decode b_Reader_readText 19 = .ok (.iconst 0, 1) := by decide +kernel
theorem d_Reader_readText_20 : decode b_Reader_readText 20 = .ok (.istore_n 2, 1) := by decide +kernel
theorem d_Reader_readText_21 : decode b_Reader_readText 21 = .ok (.iload_n 2, 1) := by decide +kernel
theorem d_Reader_readText_22 : decode b_Reader_readText 22 = .ok (.aload_n 0, 1) := by decide +kernel
theorem d_Reader_readText_23 : decode b_Reader_readText 23 = .ok (.getfield 15, 3) := by decide +kernel
theorem d_Reader_readText_26 : decode b_Reader_readText 26 = .ok (.invokevirtual 41, 3) := by decide +kernel
theorem d_Reader_readText_29 : decode b_Reader_readText 29 = .ok (.if_icmp .ge 140, 3) := by decide +kernel
theorem d_Reader_readText_32 : decode b_Reader_readText 32 = .ok (.aload_n 0, 1) := by decide +kernel
theorem d_Reader_readText_33 : decode b_Reader_readText 33 = .ok (.getfield 44, 3) := by decide +kernel
theorem d_Reader_readText_36 : decode b_Reader_readText 36 = .ok (.aload_n 0, 1) := by decide +kernel
theorem d_Reader_readText_37 : decode b_Reader_readText 37 = .ok (.getfield 15, 3) := by decide +kernel
theorem d_Reader_readText_40 : decode b_Reader_readText 40 = .ok (.invokevirtual 41, 3) := by decide +kernel
theorem d_Reader_readText_43 : decode b_Reader_readText 43 = .ok (.if_icmp .ge 126, 3) := by decide +kernel
theorem d_Reader_readText_46 : decode b_Reader_readText 46 = .ok (.aload_n 0, 1) := by decide +kernel
theorem d_Reader_readText_47 : decode b_Reader_readText 47 = .ok (.getfield 15, 3) := by decide +kernel
theorem d_Reader_readText_50 : decode b_Reader_readText 50 = .ok (.aload_n 0, 1) := by decide +kernel
theorem d_Reader_readText_51 : decode b_Reader_readText 51 = .ok (.getfield 44, 3) := by decide +kernel
theorem d_Reader_readText_54 : decode b_Reader_readText 54 = .ok (.invokevirtual 48, 3) := by decide +kernel
theorem d_Reader_readText_57 : decode b_Reader_readText 57 = .ok (.istore_n 3, 1) := by decide +kernel
theorem d_Reader_readText_58 : decode b_Reader_readText 58 = .ok (.iload_n 3, 1) := by decide +kernel
theorem d_Reader_readText_59 : decode b_Reader_readText 59 = .ok (.bipush 32, 2) := by decide +kernel
theorem d_Reader_readText_61 : decode b_Reader_readText 61 = .ok (.if_icmp .ne 16, 3) := by decide +kernel
theorem d_Reader_readText_64 : decode b_Reader_readText 64 = .ok (.aload_n 0, 1) := by decide +kernel
theorem d_Reader_readText_65 : decode b_Reader_readText 65 = .ok (.dup, 1) := by decide +kernel
theorem d_Reader_readText_66 : decode b_Reader_readText 66 = .ok (.getfield 44, 3) := by decide +kernel
theorem d_Reader_readText_69 : decode b_Reader_readText 69 = .ok (.iconst 1, 1) := by decide +kernel
theorem d_Reader_readText_70 : decode b_Reader_readText 70 = .ok (.iadd, 1) := by decide +kernel
theorem d_Reader_readText_71 : decode b_Reader_readText 71 = .ok (.putfield 44, 3) := by decide +kernel
theorem d_Reader_readText_74 : decode b_Reader_readText 74 = .ok (.goto 89, 3) := by decide +kernel
theorem d_Reader_readText_77 : decode b_Reader_readText 77 = .ok (.iload_n 3, 1) := by decide +kernel
theorem d_Reader_readText_78 : decode b_Reader_readText 78 = .ok (.bipush 35, 2) := by decide +kernel
theorem d_Reader_readText_80 : decode b_Reader_readText 80 = .ok (.if_icmp .ne 21, 3) := by decide +kernel
theorem d_Reader_readText_83 : decode b_Reader_readText 83 = .ok (.aload_n 0, 1) := by decide +kernel
theorem d_Reader_readText_84 : decode b_Reader_readText 84 = .ok (.aload_n 0, 1) := by decide +kernel
theorem d_Reader_readText_85 : decode b_Reader_readText 85 = .ok (.getfield 15, 3) := by decide +kernel
theorem d_Reader_readText_88 : decode b_Reader_readText 88 = .ok (.aload_n 0, 1) := by decide +kernel
theorem d_Reader_readText_89 : decode b_Reader_readText 89 = .ok (.getfield 44, 3) := by decide +kernel
theorem d_Reader_readText_92 : decode b_Reader_readText 92 = .ok (.invokevirtual 52, 3) := by decide +kernel
theorem d_Reader_readText_95 : decode b_Reader_readText 95 = .ok (.putfield 44, 3) := by decide +kernel
theorem d_Reader_readText_98 : decode b_Reader_readText 98 = .ok (.goto 65, 3) := by decide +kernel
theorem d_Reader_readText_101 : decode b_Reader_readText 101 = .ok (.iload_n 3, 1) := by decide +kernel
theorem d_Reader_readText_102 : decode b_Reader_readText 102 = .ok (.bipush 10, 2) := by decide +kernel
theorem d_Reader_readText_104 : decode b_Reader_readText 104 = .ok (.if_icmp .ne 10, 3) := by decide +kernel
theorem d_Reader_readText_107 : decode b_Reader_readText 107 = .ok (.aload_n 0, 1) := by decide +kernel
theorem d_Reader_readText_108 : decode b_Reader_readText 108 = .ok (.invokevirtual 55, 3) := by decide +kernel
theorem d_Reader_readText_111 : decode b_Reader_readText 111 = .ok (.goto 52, 3) := by decide +kernel
theorem d_Reader_readText_114 : decode b_Reader_readText 114 = .ok (.aload_n 0, 1) := by decide +kernel
theorem d_Reader_readText_115 : decode b_Reader_readText 115 = .ok (.getfield 15, 3) := by decide +kernel
theorem d_Reader_readText_118 : decode b_Reader_readText 118 = .ok (.aload_n 0, 1) := by decide +kernel
theorem d_Reader_readText_119 : decode b_Reader_readText 119 = .ok (.getfield 44, 3) := by decide +kernel
theorem d_Reader_readText_122 : decode b_Reader_readText 122 = .ok (.invokevirtual 58, 3) := by decide +kernel
theorem d_Reader_readText_125 : decode b_Reader_readText 125 = .ok (.ifCond .eq 26, 3) := by decide +kernel
theorem d_Reader_readText_128 : decode b_Reader_readText 128 = .ok (.aload_n 0, 1) := by decide +kernel
theorem d_Reader_readText_129 : decode b_Reader_readText 129 = .ok (.dup, 1) := by decide +kernel
theorem d_Reader_readText_130 : decode b_Reader_readText 130 = .ok (.getfield 44, 3) := by decide +kernel
theorem d_Reader_readText_133 : decode b_Reader_readText 133 = .ok (.iconst 2, 1) := by decide +kernel
theorem d_Reader_readText_134 : decode b_Reader_readText 134 = .ok (.iadd, 1) := by decide +kernel
theorem d_Reader_readText_135 : decode b_Reader_readText 135 = .ok (.putfield 44, 3) := by decide +kernel
theorem d_Reader_readText_138 : decode b_Reader_readText 138 = .ok (.aload_n 0, 1) := by decide +kernel
theorem d_Reader_readText_139 : decode b_Reader_readText 139 = .ok (.dup, 1) := by decide +kernel
theorem d_Reader_readText_140 : decode b_Reader_readText 140 = .ok (.getfield 62, 3) := by decide +kernel
theorem d_Reader_readText_143 : decode b_Reader_readText 143 = .ok (.iconst 1, 1) := by decide +kernel
theorem d_Reader_readText_144 : decode b_Reader_readText 144 = .ok (.iadd, 1) := by decide +kernel
theorem d_Reader_readText_145 : decode b_Reader_readText 145 = .ok (.putfield 62, 3) := by decide +kernel
theorem d_Reader_readText_148 : decode b_Reader_readText 148 = .ok (.goto 15, 3) := by decide +kernel
theorem d_Reader_readText_151 : decode b_Reader_readText 151 = .ok (.aload_n 0, 1) := by decide +kernel
theorem d_Reader_readText_152 : decode b_Reader_readText 152 = .ok (.invokevirtual 65, 3) := by decide +kernel
theorem d_Reader_readText_155 : decode b_Reader_readText 155 = .ok (.ifCond .ne 8, 3) := by decide +kernel
theorem d_Reader_readText_158 : decode b_Reader_readText 158 = .ok (.aload_n 0, 1) := by decide +kernel
theorem d_Reader_readText_159 : decode b_Reader_readText 159 = .ok (.getfield 44, 3) := by decide +kernel
theorem d_Reader_readText_162 : decode b_Reader_readText 162 = .ok (.ireturn, 1) := by decide +kernel
theorem d_Reader_readText_163 : decode b_Reader_readText 163 = .ok (.iinc 2 1, 3) := by decide +kernel
theorem d_Reader_readText_166 : decode b_Reader_readText 166 = .ok (.goto (-145), 3) := by decide +kernel
theorem d_Reader_readText_169 : decode b_Reader_readText 169 = .ok (.aload_n 0, 1) := by decide +kernel
theorem d_Reader_readText_170 : decode b_Reader_readText 170 = .ok (.invokevirtual 69, 3) := by decide +kernel
theorem d_Reader_readText_173 : decode b_Reader_readText 173 = .ok (.iconst (-1), 1) := by decide +kernel
theorem d_Reader_readText_174 : decode b_Reader_readText 174 = .ok (.ireturn, 1) := by decide +kernel
theorem d_Reader_begin_0 : decode b_Reader_begin 0 = .ok (.aload_n 0, 1) := by decide +kernel
theorem d_Reader_begin_1 : decode b_Reader_begin 1 = .ok (.iconst 0, 1) := by decide +kernel
theorem d_Reader_begin_2 : decode b_Reader_begin 2 = .ok (.putfield 72, 3) := by decide +kernel
theorem d_Reader_begin_5 : decode b_Reader_begin 5 = .ok (.aload_n 0, 1) := by decide +kernel
theorem d_Reader_begin_6 : decode b_Reader_begin 6 = .ok (.getfield 11, 3) := by decide +kernel
theorem d_Reader_begin_9 : decode b_Reader_begin 9 = .ok (.iconst 0, 1) := by decide +kernel
theorem d_Reader_begin_10 : decode b_Reader_begin 10 = .ok (.iconst 0, 1) := by decide +kernel
theorem d_Reader_begin_11 : decode b_Reader_begin 11 = .ok (.iastore, 1) := by decide +kernel
theorem d_Reader_begin_12 : decode b_Reader_begin 12 = .ok (.aload_n 0, 1) := by decide +kernel
theorem d_Reader_begin_13 : decode b_Reader_begin 13 = .ok (.iconst 1, 1) := by decide +kernel
theorem d_Reader_begin_14 : decode b_Reader_begin 14 = .ok (.putfield 62, 3) := by decide +kernel
theorem d_Reader_begin_17 : decode b_Reader_begin 17 = .ok (.aload_n 0, 1) := by decide +kernel
theorem d_Reader_begin_18 : decode b_Reader_begin 18 = .ok (.iconst 0, 1) := by decide +kernel
theorem d_Reader_begin_19 : decode b_Reader_begin 19 = .ok (.invokevirtual 75, 3) := by decide +kernel
theorem d_Reader_begin_22 : decode b_Reader_begin 22 = .ok (.return_, 1) := by decide +kernel
theorem d_Reader_beginLine_0 : decode b_Reader_beginLine 0 = .ok (.aload_n 0, 1) := by decide +kernel
theorem d_Reader_beginLine_1 : decode b_Reader_beginLine 1 = .ok (.iload_n 1, 1) := by decide +kernel
theorem d_Reader_beginLine_2 : decode b_Reader_beginLine 2 = .ok (.putfield 44, 3) := by decide +kernel
theorem d_Reader_beginLine_5 : decode b_Reader_beginLine 5 = .ok (.aload_n 0, 1) := by decide +kernel
theorem d_Reader_beginLine_6 : decode b_Reader_beginLine 6 = .ok (.iconst 0, 1) := by decide +kernel
theorem d_Reader_beginLine_7 : decode b_Reader_beginLine 7 = .ok (.putfield 79, 3) := by decide +kernel
theorem d_Reader_beginLine_10 : decode b_Reader_beginLine 10 = .ok (.aload_n 0, 1) := by decide +kernel
theorem d_Reader_beginLine_11 : decode b_Reader_beginLine 11 = .ok (.aload_n 0, 1) := by decide +kernel
theorem d_Reader_beginLine_12 : decode b_Reader_beginLine 12 = .ok (.getfield 15, 3) := by decide +kernel
theorem d_Reader_beginLine_15 : decode b_Reader_beginLine 15 = .ok (.iload_n 1, 1) := by decide +kernel
theorem d_Reader_beginLine_16 : decode b_Reader_beginLine 16 = .ok (.invokevirtual 82, 3) := by decide +kernel
theorem d_Reader_beginLine_19 : decode b_Reader_beginLine 19 = .ok (.putfield 85, 3) := by decide +kernel
theorem d_Reader_beginLine_22 : decode b_Reader_beginLine 22 = .ok (.aload_n 0, 1) := by decide +kernel
theorem d_Reader_beginLine_23 : decode b_Reader_beginLine 23 = .ok (.iconst 0, 1) := by decide +kernel
theorem d_Reader_beginLine_24 : decode b_Reader_beginLine 24 = .ok (.putfield 88, 3) := by decide +kernel
theorem d_Reader_beginLine_27 : decode b_Reader_beginLine 27 = .ok (.return_, 1) := by decide +kernel
theorem d_Reader_passLineFeed_0 : decode b_Reader_passLineFeed 0 = .ok (.aload_n 0, 1) := by decide +kernel
theorem d_Reader_passLineFeed_1 : decode b_Reader_passLineFeed 1 = .ok (.getfield 79, 3) := by decide +kernel
theorem d_Reader_passLineFeed_4 : decode b_Reader_passLineFeed 4 = .ok (.ifCond .le 16, 3) := by decide +kernel
theorem d_Reader_passLineFeed_7 : decode b_Reader_passLineFeed 7 = .ok (.aload_n 0, 1) := by decide +kernel
theorem d_Reader_passLineFeed_8 : decode b_Reader_passLineFeed 8 = .ok (.dup, 1) := by decide +kernel
theorem d_Reader_passLineFeed_9 : decode b_Reader_passLineFeed 9 = .ok (.getfield 44, 3) := by decide +kernel
theorem d_Reader_passLineFeed_12 : decode b_Reader_passLineFeed 12 = .ok (.iconst 1, 1) := by decide +kernel
theorem d_Reader_passLineFeed_13 : decode b_Reader_passLineFeed 13 = .ok (.iadd, 1) := by decide +kernel
theorem d_Reader_passLineFeed_14 : decode b_Reader_passLineFeed 14 = .ok (.putfield 44, 3) := by decide +kernel
theorem d_Reader_passLineFeed_17 : decode b_Reader_passLineFeed 17 = .ok (.goto 17, 3) := by decide +kernel
theorem d_Reader_passLineFeed_20 : decode b_Reader_passLineFeed 20 = .ok (.aload_n 0, 1) := by decide +kernel
theorem d_Reader_passLineFeed_21 : decode b_Reader_passLineFeed 21 = .ok (.invokevirtual 92, 3) := by decide +kernel
theorem d_Reader_passLineFeed_24 : decode b_Reader_passLineFeed 24 = .ok (.aload_n 0, 1) := by decide +kernel
theorem d_Reader_passLineFeed_25 : decode b_Reader_passLineFeed 25 = .ok (.aload_n 0, 1) := by decide +kernel
theorem d_Reader_passLineFeed_26 : decode b_Reader_passLineFeed 26 = .ok (.getfield 44, 3) := by decide +kernel
theorem d_Reader_passLineFeed_29 : decode b_Reader_passLineFeed 29 = .ok (.iconst 1, 1) := by decide +kernel
theorem d_Reader_passLineFeed_30 : decode b_Reader_passLineFeed 30 = .ok (.iadd, 1) := by decide +kernel
theorem d_Reader_passLineFeed_31 : decode b_Reader_passLineFeed 31 = .ok (.invokevirtual 75, 3) := by decide +kernel
theorem d_Reader_passLineFeed_34 : decode b_Reader_passLineFeed 34 = .ok (.aload_n 0, 1) := by decide +kernel
theorem d_Reader_passLineFeed_35 : decode b_Reader_passLineFeed 35 = .ok (.dup, 1) := by decide +kernel
theorem d_Reader_passLineFeed_36 : decode b_Reader_passLineFeed 36 = .ok (.getfield 62, 3) := by decide +kernel
theorem d_Reader_passLineFeed_39 : decode b_Reader_passLineFeed 39 = .ok (.iconst 1, 1) := by decide +kernel
theorem d_Reader_passLineFeed_40 : decode b_Reader_passLineFeed 40 = .ok (.iadd, 1) := by decide +kernel
theorem d_Reader_passLineFeed_41 : decode b_Reader_passLineFeed 41 = .ok (.putfield 62, 3) := by decide +kernel
theorem d_Reader_passLineFeed_44 : decode b_Reader_passLineFeed 44 = .ok (.return_, 1) := by decide +kernel
theorem d_Reader_endLine_0 : decode b_Reader_endLine 0 = .ok (.aload_n 0, 1) := by decide +kernel
theorem d_Reader_endLine_1 : decode b_Reader_endLine 1 = .ok (.getfield 88, 3) := by decide +kernel
theorem d_Reader_endLine_4 : decode b_Reader_endLine 4 = .ok (.ifCond .eq 23, 3) := by decide +kernel
theorem d_Reader_endLine_7 : decode b_Reader_endLine 7 = .ok (.aload_n 0, 1) := by decide +kernel
theorem d_Reader_endLine_8 : decode b_Reader_endLine 8 = .ok (.getfield 19, 3) := by decide +kernel
theorem d_Reader_endLine_11 : decode b_Reader_endLine 11 = .ok (.iconst 1, 1) := by decide +kernel
theorem d_Reader_endLine_12 : decode b_Reader_endLine 12 = .ok (.aload_n 0, 1) := by decide +kernel
theorem d_Reader_endLine_13 : decode b_Reader_endLine 13 = .ok (.getfield 44, 3) := by decide +kernel
theorem d_Reader_endLine_16 : decode b_Reader_endLine 16 = .ok (.aload_n 0, 1) := by decide +kernel
theorem d_Reader_endLine_17 : decode b_Reader_endLine 17 = .ok (.getfield 44, 3) := by decide +kernel
theorem d_Reader_endLine_20 : decode b_Reader_endLine 20 = .ok (.aload_n 0, 1) := by decide +kernel
theorem d_Reader_endLine_21 : decode b_Reader_endLine 21 = .ok (.getfield 62, 3) := by decide +kernel
theorem d_Reader_endLine_24 : decode b_Reader_endLine 24 = .ok (.invokevirtual 95, 3) := by decide +kernel
theorem d_Reader_endLine_27 : decode b_Reader_endLine 27 = .ok (.return_, 1) := by decide +kernel
theorem d_Reader_end_0 : decode b_Reader_end 0 = .ok (.aload_n 0, 1) := by decide +kernel
theorem d_Reader_end_1 : decode b_Reader_end 1 = .ok (.invokevirtual 92, 3) := by decide +kernel
theorem d_Reader_end_4 : decode b_Reader_end 4 = .ok (.aload_n 0, 1) := by decide +kernel
theorem d_Reader_end_5 : decode b_Reader_end 5 = .ok (.iconst 0, 1) := by decide +kernel
theorem d_Reader_end_6 : decode b_Reader_end 6 = .ok (.invokevirtual 101, 3) := by decide +kernel
theorem d_Reader_end_9 : decode b_Reader_end 9 = .ok (.aload_n 0, 1) := by decide +kernel
theorem d_Reader_end_10 : decode b_Reader_end 10 = .ok (.getfield 19, 3) := by decide +kernel
theorem d_Reader_end_13 : decode b_Reader_end 13 = .ok (.iconst 0, 1) := by decide +kernel
theorem d_Reader_end_14 : decode b_Reader_end 14 = .ok (.aload_n 0, 1) := by decide +kernel
theorem d_Reader_end_15 : decode b_Reader_end 15 = .ok (.getfield 44, 3) := by decide +kernel
theorem d_Reader_end_18 : decode b_Reader_end 18 = .ok (.aload_n 0, 1) := by decide +kernel
theorem d_Reader_end_19 : decode b_Reader_end 19 = .ok (.getfield 44, 3) := by decide +kernel
theorem d_Reader_end_22 : decode b_Reader_end 22 = .ok (.aload_n 0, 1) := by decide +kernel
theorem d_Reader_end_23 : decode b_Reader_end 23 = .ok (.getfield 62, 3) := by decide +kernel
theorem d_Reader_end_26 : decode b_Reader_end 26 = .ok (.invokevirtual 95, 3) := by decide +kernel
theorem d_Reader_end_29 : decode b_Reader_end 29 = .ok (.return_, 1) := by decide +kernel
theorem d_Reader_passToken_0 : decode b_Reader_passToken 0 = .ok (.aload_n 0, 1) := by decide +kernel
theorem d_Reader_passToken_1 : decode b_Reader_passToken 1 = .ok (.getfield 88, 3) := by decide +kernel
theorem d_Reader_passToken_4 : decode b_Reader_passToken 4 = .ok (.ifCond .ne 12, 3) := by decide +kernel
theorem d_Reader_passToken_7 : decode b_Reader_passToken 7 = .ok (.aload_n 0, 1) := by decide +kernel
theorem d_Reader_passToken_8 : decode b_Reader_passToken 8 = .ok (.invokevirtual 104, 3) := by decide +kernel
theorem d_Reader_passToken_11 : decode b_Reader_passToken 11 = .ok (.ifCond .ne 5, 3) := by decide +kernel
theorem d_Reader_passToken_14 : decode b_Reader_passToken 14 = .ok (.iconst 0, 1) := by decide +kernel
theorem d_Reader_passToken_15 : decode b_Reader_passToken 15 = .ok (.ireturn, 1) := by decide +kernel
theorem d_Reader_passToken_16 : decode b_Reader_passToken 16 = .ok (.aload_n 0, 1) := by decide +kernel
theorem d_Reader_passToken_17 : decode b_Reader_passToken 17 = .ok (.iconst 1, 1) := by decide +kernel
theorem d_Reader_passToken_18 : decode b_Reader_passToken 18 = .ok (.putfield 88, 3) := by decide +kernel
theorem d_Reader_passToken_21 : decode b_Reader_passToken 21 = .ok (.aload_n 0, 1) := by decide +kernel
theorem d_Reader_passToken_22 : decode b_Reader_passToken 22 = .ok (.getfield 28, 3) := by decide +kernel
theorem d_Reader_passToken_25 : decode b_Reader_passToken 25 = .ok (.aload_n 0, 1) := by decide +kernel
theorem d_Reader_passToken_26 : decode b_Reader_passToken 26 = .ok (.getfield 44, 3) := by decide +kernel
theorem d_Reader_passToken_29 : decode b_Reader_passToken 29 = .ok (.invokevirtual 107, 3) := by decide +kernel
theorem d_Reader_passToken_32 : decode b_Reader_passToken 32 = .ok (.istore_n 1, 1) := by decide +kernel
theorem d_Reader_passToken_33 : decode b_Reader_passToken 33 = .ok (.iload_n 1, 1) := by decide +kernel
theorem d_Reader_passToken_34 : decode b_Reader_passToken 34 = .ok (.iconst (-1), 1) := by decide +kernel
theorem d_Reader_passToken_35 : decode b_Reader_passToken 35 = .ok (.if_icmp .eq 18, 3) := by decide +kernel
theorem d_Reader_passToken_38 : decode b_Reader_passToken 38 = .ok (.aload_n 0, 1) := by decide +kernel
theorem d_Reader_passToken_39 : decode b_Reader_passToken 39 = .ok (.bipush 7, 2) := by decide +kernel
theorem d_Reader_passToken_41 : decode b_Reader_passToken 41 = .ok (.aload_n 0, 1) := by decide +kernel
theorem d_Reader_passToken_42 : decode b_Reader_passToken 42 = .ok (.getfield 28, 3) := by decide +kernel
theorem d_Reader_passToken_45 : decode b_Reader_passToken 45 = .ok (.iload_n 1, 1) := by decide +kernel
theorem d_Reader_passToken_46 : decode b_Reader_passToken 46 = .ok (.invokevirtual 110, 3) := by decide +kernel
theorem d_Reader_passToken_49 : decode b_Reader_passToken 49 = .ok (.invokevirtual 113, 3) := by decide +kernel
theorem d_Reader_passToken_52 : decode b_Reader_passToken 52 = .ok (.ireturn, 1) := by decide +kernel
theorem d_Reader_passToken_53 : decode b_Reader_passToken 53 = .ok (.aload_n 0, 1) := by decide +kernel
theorem d_Reader_passToken_54 : decode b_Reader_passToken 54 = .ok (.getfield 15, 3) := by decide +kernel
theorem d_Reader_passToken_57 : decode b_Reader_passToken 57 = .ok (.aload_n 0, 1) := by decide +kernel
theorem d_Reader_passToken_58 : decode b_Reader_passToken 58 = .ok (.getfield 44, 3) := by decide +kernel
theorem d_Reader_passToken_61 : decode b_Reader_passToken 61 = .ok (.invokevirtual 48, 3) := by decide +kernel
theorem d_Reader_passToken_64 : decode b_Reader_passToken 64 = .ok (.invokestatic 117, 3) := by decide +kernel
theorem d_Reader_passToken_67 : decode b_Reader_passToken 67 = .ok (.ifCond .eq 33, 3) := by decide +kernel
theorem d_Reader_passToken_70 : decode b_Reader_passToken 70 = .ok (.aload_n 0, 1) := by decide +kernel
theorem d_Reader_passToken_71 : decode b_Reader_passToken 71 = .ok (.getfield 28, 3) := by decide +kernel
theorem d_Reader_passToken_74 : decode b_Reader_passToken 74 = .ok (.aload_n 0, 1) := by decide +kernel
theorem d_Reader_passToken_75 : decode b_Reader_passToken 75 = .ok (.getfield 44, 3) := by decide +kernel
theorem d_Reader_passToken_78 : decode b_Reader_passToken 78 = .ok (.invokevirtual 120, 3) := by decide +kernel
theorem d_Reader_passToken_81 : decode b_Reader_passToken 81 = .ok (.istore_n 2, 1) := by decide +kernel
theorem d_Reader_passToken_82 : decode b_Reader_passToken 82 = .ok (.aload_n 0, 1) := by decide +kernel
theorem d_Reader_passToken_83 : decode b_Reader_passToken 83 = .ok (.aload_n 0, 1) := by decide +kernel
theorem d_Reader_passToken_84 : decode b_Reader_passToken 84 = .ok (.getfield 28, 3) := by decide +kernel
theorem d_Reader_passToken_87 : decode b_Reader_passToken 87 = .ok (.aload_n 0, 1) := by decide +kernel
theorem d_Reader_passToken_88 : decode b_Reader_passToken 88 = .ok (.getfield 44, 3) := by decide +kernel
theorem d_Reader_passToken_91 : decode b_Reader_passToken 91 = .ok (.iload_n 2, 1) := by decide +kernel
theorem d_Reader_passToken_92 : decode b_Reader_passToken 92 = .ok (.invokevirtual 123, 3) := by decide +kernel
theorem d_Reader_passToken_95 : decode b_Reader_passToken 95 = .ok (.iload_n 2, 1) := by decide +kernel
theorem d_Reader_passToken_96 : decode b_Reader_passToken 96 = .ok (.invokevirtual 113, 3) := by decide +kernel
theorem d_Reader_passToken_99 : decode b_Reader_passToken 99 = .ok (.ireturn, 1) := by decide +kernel
theorem d_Reader_passToken_100 : decode b_Reader_passToken 100 = .ok (.aload_n 0, 1) := by decide +kernel
theorem d_Reader_passToken_101 : decode b_Reader_passToken 101 = .ok (.getfield 28, 3) := by decide +kernel
theorem d_Reader_passToken_104 : decode b_Reader_passToken 104 = .ok (.aload_n 0, 1) := by decide +kernel
theorem d_Reader_passToken_105 : decode b_Reader_passToken 105 = .ok (.getfield 44, 3) := by decide +kernel
theorem d_Reader_passToken_108 : decode b_Reader_passToken 108 = .ok (.invokevirtual 127, 3) := by decide +kernel
theorem d_Reader_passToken_111 : decode b_Reader_passToken 111 = .ok (.ifCond .eq 33, 3) := by decide +kernel
theorem d_Reader_passToken_114 : decode b_Reader_passToken 114 = .ok (.aload_n 0, 1) := by decide +kernel
theorem d_Reader_passToken_115 : decode b_Reader_passToken 115 = .ok (.getfield 28, 3) := by decide +kernel
theorem d_Reader_passToken_118 : decode b_Reader_passToken 118 = .ok (.aload_n 0, 1) := by decide +kernel
theorem d_Reader_passToken_119 : decode b_Reader_passToken 119 = .ok (.getfield 44, 3) := by decide +kernel
theorem d_Reader_passToken_122 : decode b_Reader_passToken 122 = .ok (.invokevirtual 130, 3) := by decide +kernel
theorem d_Reader_passToken_125 : decode b_Reader_passToken 125 = .ok (.istore_n 2, 1) := by decide +kernel
theorem d_Reader_passToken_126 : decode b_Reader_passToken 126 = .ok (.aload_n 0, 1) := by decide +kernel
theorem d_Reader_passToken_127 : decode b_Reader_passToken 127 = .ok (.aload_n 0, 1) := by decide +kernel
theorem d_Reader_passToken_128 : decode b_Reader_passToken 128 = .ok (.getfield 28, 3) := by decide +kernel
theorem d_Reader_passToken_131 : decode b_Reader_passToken 131 = .ok (.aload_n 0, 1) := by decide +kernel
theorem d_Reader_passToken_132 : decode b_Reader_passToken 132 = .ok (.getfield 44, 3) := by decide +kernel
theorem d_Reader_passToken_135 : decode b_Reader_passToken 135 = .ok (.iload_n 2, 1) := by decide +kernel
theorem d_Reader_passToken_136 : decode b_Reader_passToken 136 = .ok (.invokevirtual 133, 3) := by decide +kernel
theorem d_Reader_passToken_139 : decode b_Reader_passToken 139 = .ok (.iload_n 2, 1) := by decide +kernel
theorem d_Reader_passToken_140 : decode b_Reader_passToken 140 = .ok (.invokevirtual 113, 3) := by decide +kernel
theorem d_Reader_passToken_143 : decode b_Reader_passToken 143 = .ok (.ireturn, 1) := by decide +kernel
theorem d_Reader_passToken_144 : decode b_Reader_passToken 144 = .ok (.aload_n 0, 1) := by decide +kernel
theorem d_Reader_passToken_145 : decode b_Reader_passToken 145 = .ok (.getfield 28, 3) := by decide +kernel
theorem d_Reader_passToken_148 : decode b_Reader_passToken 148 = .ok (.aload_n 0, 1) := by decide +kernel
theorem d_Reader_passToken_149 : decode b_Reader_passToken 149 = .ok (.getfield 44, 3) := by decide +kernel
theorem d_Reader_passToken_152 : decode b_Reader_passToken 152 = .ok (.invokevirtual 136, 3) := by decide +kernel
theorem d_Reader_passToken_155 : decode b_Reader_passToken 155 = .ok (.istore_n 2, 1) := by decide +kernel
theorem d_Reader_passToken_156 : decode b_Reader_passToken 156 = .ok (.aload_n 0, 1) := by decide +kernel
theorem d_Reader_passToken_157 : decode b_Reader_passToken 157 = .ok (.iload_n 2, 1) := by decide +kernel
theorem d_Reader_passToken_158 : decode b_Reader_passToken 158 = .ok (.aload_n 0, 1) := by decide +kernel
theorem d_Reader_passToken_159 : decode b_Reader_passToken 159 = .ok (.getfield 28, 3) := by decide +kernel
theorem d_Reader_passToken_162 : decode b_Reader_passToken 162 = .ok (.aload_n 0, 1) := by decide +kernel
theorem d_Reader_passToken_163 : decode b_Reader_passToken 163 = .ok (.getfield 44, 3) := by decide +kernel
theorem d_Reader_passToken_166 : decode b_Reader_passToken 166 = .ok (.iload_n 2, 1) := by decide +kernel
theorem d_Reader_passToken_167 : decode b_Reader_passToken 167 = .ok (.invokevirtual 139, 3) := by decide +kernel
theorem d_Reader_passToken_170 : decode b_Reader_passToken 170 = .ok (.invokevirtual 113, 3) := by decide +kernel
theorem d_Reader_passToken_173 : decode b_Reader_passToken 173 = .ok (.ireturn, 1) := by decide +kernel
theorem d_Reader_settleLevel_0 : decode b_Reader_settleLevel 0 = .ok (.aload_n 0, 1) := by decide +kernel
theorem d_Reader_settleLevel_1 : decode b_Reader_settleLevel 1 = .ok (.getfield 85, 3) := by decide +kernel
theorem d_Reader_settleLevel_4 : decode b_Reader_settleLevel 4 = .ok (.aload_n 0, 1) := by decide +kernel
theorem d_Reader_settleLevel_5 : decode b_Reader_settleLevel 5 = .ok (.getfield 11, 3) := by decide +kernel
theorem d_Reader_settleLevel_8 : decode b_Reader_settleLevel 8 = .ok (.aload_n 0, 1) := by decide +kernel
theorem d_Reader_settleLevel_9 : decode b_Reader_settleLevel 9 = .ok (.getfield 72, 3) := by decide +kernel
theorem d_Reader_settleLevel_12 : decode b_Reader_settleLevel 12 = .ok (.iaload, 1) := by decide +kernel
theorem d_Reader_settleLevel_13 : decode b_Reader_settleLevel 13 = .ok (.if_icmp .le 8, 3) := by decide +kernel
theorem d_Reader_settleLevel_16 : decode b_Reader_settleLevel 16 = .ok (.aload_n 0, 1) := by decide +kernel
theorem d_Reader_settleLevel_17 : decode b_Reader_settleLevel 17 = .ok (.invokevirtual 142, 3) := by decide +kernel
theorem d_Reader_settleLevel_20 : decode b_Reader_settleLevel 20 = .ok (.ireturn, 1) := by decide +kernel
theorem d_Reader_settleLevel_21 : decode b_Reader_settleLevel 21 = .ok (.aload_n 0, 1) := by decide +kernel
theorem d_Reader_settleLevel_22 : decode b_Reader_settleLevel 22 = .ok (.aload_n 0, 1) := by decide +kernel
theorem d_Reader_settleLevel_23 : decode b_Reader_settleLevel 23 = .ok (.getfield 85, 3) := by decide +kernel
theorem d_Reader_settleLevel_26 : decode b_Reader_settleLevel 26 = .ok (.invokevirtual 101, 3) := by decide +kernel
theorem d_Reader_settleLevel_29 : decode b_Reader_settleLevel 29 = .ok (.aload_n 0, 1) := by decide +kernel
theorem d_Reader_settleLevel_30 : decode b_Reader_settleLevel 30 = .ok (.getfield 11, 3) := by decide +kernel
theorem d_Reader_settleLevel_33 : decode b_Reader_settleLevel 33 = .ok (.aload_n 0, 1) := by decide +kernel
theorem d_Reader_settleLevel_34 : decode b_Reader_settleLevel 34 = .ok (.getfield 72, 3) := by decide +kernel
theorem d_Reader_settleLevel_37 : decode b_Reader_settleLevel 37 = .ok (.iaload, 1) := by decide +kernel
theorem d_Reader_settleLevel_38 : decode b_Reader_settleLevel 38 = .ok (.aload_n 0, 1) := by decide +kernel
theorem d_Reader_settleLevel_39 : decode b_Reader_settleLevel 39 = .ok (.getfield 85, 3) := by decide +kernel
theorem d_Reader_settleLevel_42 : decode b_Reader_settleLevel 42 = .ok (.if_icmp .ne 7, 3) := by decide +kernel
theorem d_Reader_settleLevel_45 : decode b_Reader_settleLevel 45 = .ok (.iconst 1, 1) := by decide +kernel
theorem d_Reader_settleLevel_46 : decode b_Reader_settleLevel 46 = .ok (.goto 4, 3) := by decide +kernel
theorem d_Reader_settleLevel_49 : decode b_Reader_settleLevel 49 = .ok (.iconst 0, 1) := by decide +kernel
theorem d_Reader_settleLevel_50 : decode b_Reader_settleLevel 50 = .ok (.ireturn, 1) := by decide +kernel
theorem d_Reader_goIn_0 : decode b_Reader_goIn 0 = .ok (.aload_n 0, 1) := by decide +kernel
theorem d_Reader_goIn_1 : decode b_Reader_goIn 1 = .ok (.getfield 19, 3) := by decide +kernel
theorem d_Reader_goIn_4 : decode b_Reader_goIn 4 = .ok (.invokevirtual 145, 3) := by decide +kernel
theorem d_Reader_goIn_7 : decode b_Reader_goIn 7 = .ok (.ifCond .ne 7, 3) := by decide +kernel
theorem d_Reader_goIn_10 : decode b_Reader_goIn 10 = .ok (.iconst 1, 1) := by decide +kernel
theorem d_Reader_goIn_11 : decode b_Reader_goIn 11 = .ok (.goto 4, 3) := by decide +kernel
theorem d_Reader_goIn_14 : decode b_Reader_goIn 14 = .ok (.iconst 0, 1) := by decide +kernel
theorem d_Reader_goIn_15 : decode b_Reader_goIn 15 = .ok (.istore_n 1, 1) := by decide +kernel
theorem d_Reader_goIn_16 : decode b_Reader_goIn 16 = .ok (.iload_n 1, 1) := by decide +kernel
theorem d_Reader_goIn_17 : decode b_Reader_goIn 17 = .ok (.ifCond .ne 14, 3) := by decide +kernel
theorem d_Reader_goIn_20 : decode b_Reader_goIn 20 = .ok (.aload_n 0, 1) := by decide +kernel
theorem d_Reader_goIn_21 : decode b_Reader_goIn 21 = .ok (.getfield 72, 3) := by decide +kernel
theorem d_Reader_goIn_24 : decode b_Reader_goIn 24 = .ok (.iconst 1, 1) := by decide +kernel
theorem d_Reader_goIn_25 : decode b_Reader_goIn 25 = .ok (.iadd, 1) := by decide +kernel
theorem d_Reader_goIn_26 : decode b_Reader_goIn 26 = .ok (.bipush 100, 2) := by decide +kernel
theorem d_Reader_goIn_28 : decode b_Reader_goIn 28 = .ok (.if_icmp .lt 5, 3) := by decide +kernel
theorem d_Reader_goIn_31 : decode b_Reader_goIn 31 = .ok (.iconst 0, 1) := by decide +kernel
theorem d_Reader_goIn_32 : decode b_Reader_goIn 32 = .ok (.ireturn, 1) := by decide +kernel
theorem d_Reader_goIn_33 : decode b_Reader_goIn 33 = .ok (.aload_n 0, 1) := by decide +kernel
theorem d_Reader_goIn_34 : decode b_Reader_goIn 34 = .ok (.dup, 1) := by decide +kernel
theorem d_Reader_goIn_35 : decode b_Reader_goIn 35 = .ok (.getfield 72, 3) := by decide +kernel
theorem d_Reader_goIn_38 : decode b_Reader_goIn 38 = .ok (.iconst 1, 1) := by decide +kernel
theorem d_Reader_goIn_39 : decode b_Reader_goIn 39 = .ok (.iadd, 1) := by decide +kernel
theorem d_Reader_goIn_40 : decode b_Reader_goIn 40 = .ok (.putfield 72, 3) := by decide +kernel
theorem d_Reader_goIn_43 : decode b_Reader_goIn 43 = .ok (.aload_n 0, 1) := by decide +kernel
theorem d_Reader_goIn_44 : decode b_Reader_goIn 44 = .ok (.getfield 11, 3) := by decide +kernel
theorem d_Reader_goIn_47 : decode b_Reader_goIn 47 = .ok (.aload_n 0, 1) := by decide +kernel
theorem d_Reader_goIn_48 : decode b_Reader_goIn 48 = .ok (.getfield 72, 3) := by decide +kernel
theorem d_Reader_goIn_51 : decode b_Reader_goIn 51 = .ok (.aload_n 0, 1) := by decide +kernel
theorem d_Reader_goIn_52 : decode b_Reader_goIn 52 = .ok (.getfield 85, 3) := by decide +kernel
theorem d_Reader_goIn_55 : decode b_Reader_goIn 55 = .ok (.iastore, 1) := by decide +kernel
theorem d_Reader_goIn_56 : decode b_Reader_goIn 56 = .ok (.aload_n 0, 1) := by decide +kernel
theorem d_Reader_goIn_57 : decode b_Reader_goIn 57 = .ok (.getfield 19, 3) := by decide +kernel
theorem d_Reader_goIn_60 : decode b_Reader_goIn 60 = .ok (.iconst 2, 1) := by decide +kernel
theorem d_Reader_goIn_61 : decode b_Reader_goIn 61 = .ok (.aload_n 0, 1) := by decide +kernel
theorem d_Reader_goIn_62 : decode b_Reader_goIn 62 = .ok (.getfield 44, 3) := by decide +kernel
theorem d_Reader_goIn_65 : decode b_Reader_goIn 65 = .ok (.aload_n 0, 1) := by decide +kernel
theorem d_Reader_goIn_66 : decode b_Reader_goIn 66 = .ok (.getfield 44, 3) := by decide +kernel
theorem d_Reader_goIn_69 : decode b_Reader_goIn 69 = .ok (.aload_n 0, 1) := by decide +kernel
theorem d_Reader_goIn_70 : decode b_Reader_goIn 70 = .ok (.getfield 62, 3) := by decide +kernel
theorem d_Reader_goIn_73 : decode b_Reader_goIn 73 = .ok (.invokevirtual 95, 3) := by decide +kernel
theorem d_Reader_goIn_76 : decode b_Reader_goIn 76 = .ok (.iconst 1, 1) := by decide +kernel
theorem d_Reader_goIn_77 : decode b_Reader_goIn 77 = .ok (.ireturn, 1) := by decide +kernel
theorem d_Reader_comeOutTo_0 : decode b_Reader_comeOutTo 0 = .ok (.aload_n 0, 1) := by decide +kernel
theorem d_Reader_comeOutTo_1 : decode b_Reader_comeOutTo 1 = .ok (.getfield 72, 3) := by decide +kernel
theorem d_Reader_comeOutTo_4 : decode b_Reader_comeOutTo 4 = .ok (.ifCond .le 49, 3) := by decide +kernel
theorem d_Reader_comeOutTo_7 : decode b_Reader_comeOutTo 7 = .ok (.aload_n 0, 1) := by decide +kernel
theorem d_Reader_comeOutTo_8 : decode b_Reader_comeOutTo 8 = .ok (.getfield 11, 3) := by decide +kernel
theorem d_Reader_comeOutTo_11 : decode b_Reader_comeOutTo 11 = .ok (.aload_n 0, 1) := by decide +kernel
theorem d_Reader_comeOutTo_12 : decode b_Reader_comeOutTo 12 = .ok (.getfield 72, 3) := by decide +kernel
theorem d_Reader_comeOutTo_15 : decode b_Reader_comeOutTo 15 = .ok (.iaload, 1) := by decide +kernel
theorem d_Reader_comeOutTo_16 : decode b_Reader_comeOutTo 16 = .ok (.iload_n 1, 1) := by decide +kernel
theorem d_Reader_comeOutTo_17 : decode b_Reader_comeOutTo 17 = .ok (.if_icmp .le 36, 3) := by decide +kernel
theorem d_Reader_comeOutTo_20 : decode b_Reader_comeOutTo 20 = .ok (.aload_n 0, 1) := by decide +kernel
theorem d_Reader_comeOutTo_21 : decode b_Reader_comeOutTo 21 = .ok (.dup, 1) := by decide +kernel
theorem d_Reader_comeOutTo_22 : decode b_Reader_comeOutTo 22 = .ok (.getfield 72, 3) := by decide +kernel
theorem d_Reader_comeOutTo_25 : decode b_Reader_comeOutTo 25 = .ok (.iconst 1, 1) := by decide +kernel
theorem d_Reader_comeOutTo_26 : decode b_Reader_comeOutTo 26 = .ok (.isub, 1) := by decide +kernel
theorem d_Reader_comeOutTo_27 : decode b_Reader_comeOutTo 27 = .ok (.putfield 72, 3) := by decide +kernel
theorem d_Reader_comeOutTo_30 : decode b_Reader_comeOutTo 30 = .ok (.aload_n 0, 1) := by decide +kernel
theorem d_Reader_comeOutTo_31 : decode b_Reader_comeOutTo 31 = .ok (.getfield 19, 3) := by decide +kernel
theorem d_Reader_comeOutTo_34 : decode b_Reader_comeOutTo 34 = .ok (.iconst 3, 1) := by decide +kernel
theorem d_Reader_comeOutTo_35 : decode b_Reader_comeOutTo 35 = .ok (.aload_n 0, 1) := by decide +kernel
theorem d_Reader_comeOutTo_36 : decode b_Reader_comeOutTo 36 = .ok (.getfield 44, 3) := by decide +kernel
theorem d_Reader_comeOutTo_39 : decode b_Reader_comeOutTo 39 = .ok (.aload_n 0, 1) := by decide +kernel
theorem d_Reader_comeOutTo_40 : decode b_Reader_comeOutTo 40 = .ok (.getfield 44, 3) := by decide +kernel
theorem d_Reader_comeOutTo_43 : decode b_Reader_comeOutTo 43 = .ok (.aload_n 0, 1) := by decide +kernel
theorem d_Reader_comeOutTo_44 : decode b_Reader_comeOutTo 44 = .ok (.getfield 62, 3) := by decide +kernel
theorem d_Reader_comeOutTo_47 : decode b_Reader_comeOutTo 47 = .ok (.invokevirtual 95, 3) := by decide +kernel
theorem d_Reader_comeOutTo_50 : decode b_Reader_comeOutTo 50 = .ok (.goto (-50), 3) := by decide +kernel
theorem d_Reader_comeOutTo_53 : decode b_Reader_comeOutTo 53 = .ok (.return_, 1) := by decide +kernel
theorem d_Reader_take_0 : decode b_Reader_take 0 = .ok (.iload_n 2, 1) := by decide +kernel
theorem d_Reader_take_1 : decode b_Reader_take 1 = .ok (.iconst (-1), 1) := by decide +kernel
theorem d_Reader_take_2 : decode b_Reader_take 2 = .ok (.if_icmp .ne 5, 3) := by decide +kernel
theorem d_Reader_take_5 : decode b_Reader_take 5 = .ok (.iconst 0, 1) := by decide +kernel
theorem d_Reader_take_6 : decode b_Reader_take 6 = .ok (.ireturn, 1) := by decide +kernel
theorem d_Reader_take_7 : decode b_Reader_take 7 = .ok (.aload_n 0, 1) := by decide +kernel
theorem d_Reader_take_8 : decode b_Reader_take 8 = .ok (.getfield 19, 3) := by decide +kernel
theorem d_Reader_take_11 : decode b_Reader_take 11 = .ok (.iload_n 1, 1) := by decide +kernel
theorem d_Reader_take_12 : decode b_Reader_take 12 = .ok (.aload_n 0, 1) := by decide +kernel
theorem d_Reader_take_13 : decode b_Reader_take 13 = .ok (.getfield 44, 3) := by decide +kernel
theorem d_Reader_take_16 : decode b_Reader_take 16 = .ok (.iload_n 2, 1) := by decide +kernel
theorem d_Reader_take_17 : decode b_Reader_take 17 = .ok (.aload_n 0, 1) := by decide +kernel
theorem d_Reader_take_18 : decode b_Reader_take 18 = .ok (.getfield 62, 3) := by decide +kernel
theorem d_Reader_take_21 : decode b_Reader_take 21 = .ok (.invokevirtual 95, 3) := by decide +kernel
theorem d_Reader_take_24 : decode b_Reader_take 24 = .ok (.aload_n 0, 1) := by decide +kernel
theorem d_Reader_take_25 : decode b_Reader_take 25 = .ok (.dup, 1) := by decide +kernel
theorem d_Reader_take_26 : decode b_Reader_take 26 = .ok (.getfield 62, 3) := by decide +kernel
theorem d_Reader_take_29 : decode b_Reader_take 29 = .ok (.aload_n 0, 1) := by decide +kernel
theorem d_Reader_take_30 : decode b_Reader_take 30 = .ok (.getfield 15, 3) := by decide +kernel
theorem d_Reader_take_33 : decode b_Reader_take 33 = .ok (.aload_n 0, 1) := by decide +kernel
theorem d_Reader_take_34 : decode b_Reader_take 34 = .ok (.getfield 44, 3) := by decide +kernel
theorem d_Reader_take_37 : decode b_Reader_take 37 = .ok (.iload_n 2, 1) := by decide +kernel
theorem d_Reader_take_38 : decode b_Reader_take 38 = .ok (.invokevirtual 146, 3) := by decide +kernel
theorem d_Reader_take_41 : decode b_Reader_take 41 = .ok (.iadd, 1) := by decide +kernel
theorem d_Reader_take_42 : decode b_Reader_take 42 = .ok (.putfield 62, 3) := by decide +kernel
theorem d_Reader_take_45 : decode b_Reader_take 45 = .ok (.aload_n 0, 1) := by decide +kernel
theorem d_Reader_take_46 : decode b_Reader_take 46 = .ok (.aload_n 0, 1) := by decide +kernel
theorem d_Reader_take_47 : decode b_Reader_take 47 = .ok (.getfield 15, 3) := by decide +kernel
theorem d_Reader_take_50 : decode b_Reader_take 50 = .ok (.aload_n 0, 1) := by decide +kernel
theorem d_Reader_take_51 : decode b_Reader_take 51 = .ok (.getfield 44, 3) := by decide +kernel
theorem d_Reader_take_54 : decode b_Reader_take 54 = .ok (.invokevirtual 48, 3) := by decide +kernel
theorem d_Reader_take_57 : decode b_Reader_take 57 = .ok (.invokevirtual 149, 3) := by decide +kernel
theorem d_Reader_take_60 : decode b_Reader_take 60 = .ok (.aload_n 0, 1) := by decide +kernel
theorem d_Reader_take_61 : decode b_Reader_take 61 = .ok (.iload_n 2, 1) := by decide +kernel
theorem d_Reader_take_62 : decode b_Reader_take 62 = .ok (.putfield 44, 3) := by decide +kernel
theorem d_Reader_take_65 : decode b_Reader_take 65 = .ok (.iconst 1, 1) := by decide +kernel
theorem d_Reader_take_66 : decode b_Reader_take 66 = .ok (.ireturn, 1) := by decide +kernel
theorem d_Reader_countOpen_0 : decode b_Reader_countOpen 0 = .ok (.iload_n 1, 1) := by decide +kernel
theorem d_Reader_countOpen_1 : decode b_Reader_countOpen 1 = .ok (.bipush 40, 2) := by decide +kernel
theorem d_Reader_countOpen_3 : decode b_Reader_countOpen 3 = .ok (.if_icmp .eq 15, 3) := by decide +kernel
theorem d_Reader_countOpen_6 : decode b_Reader_countOpen 6 = .ok (.iload_n 1, 1) := by decide +kernel
theorem d_Reader_countOpen_7 : decode b_Reader_countOpen 7 = .ok (.bipush 91, 2) := by decide +kernel
theorem d_Reader_countOpen_9 : decode b_Reader_countOpen 9 = .ok (.if_icmp .eq 9, 3) := by decide +kernel
theorem d_Reader_countOpen_12 : decode b_Reader_countOpen 12 = .ok (.iload_n 1, 1) := by decide +kernel
theorem d_Reader_countOpen_13 : decode b_Reader_countOpen 13 = .ok (.bipush 123, 2) := by decide +kernel
theorem d_Reader_countOpen_15 : decode b_Reader_countOpen 15 = .ok (.if_icmp .ne 16, 3) := by decide +kernel
theorem d_Reader_countOpen_18 : decode b_Reader_countOpen 18 = .ok (.aload_n 0, 1) := by decide +kernel
theorem d_Reader_countOpen_19 : decode b_Reader_countOpen 19 = .ok (.dup, 1) := by decide +kernel
theorem d_Reader_countOpen_20 : decode b_Reader_countOpen 20 = .ok (.getfield 79, 3) := by decide +kernel
theorem d_Reader_countOpen_23 : decode b_Reader_countOpen 23 = .ok (.iconst 1, 1) := by decide +kernel
theorem d_Reader_countOpen_24 : decode b_Reader_countOpen 24 = .ok (.iadd, 1) := by decide +kernel
theorem d_Reader_countOpen_25 : decode b_Reader_countOpen 25 = .ok (.putfield 79, 3) := by decide +kernel
theorem d_Reader_countOpen_28 : decode b_Reader_countOpen 28 = .ok (.goto 38, 3) := by decide +kernel
theorem d_Reader_countOpen_31 : decode b_Reader_countOpen 31 = .ok (.aload_n 0, 1) := by decide +kernel
theorem d_Reader_countOpen_32 : decode b_Reader_countOpen 32 = .ok (.getfield 79, 3) := by decide +kernel
theorem d_Reader_countOpen_35 : decode b_Reader_countOpen 35 = .ok (.ifCond .le 31, 3) := by decide +kernel
theorem d_Reader_countOpen_38 : decode b_Reader_countOpen 38 = .ok (.iload_n 1, 1) := by decide +kernel
theorem d_Reader_countOpen_39 : decode b_Reader_countOpen 39 = .ok (.bipush 41, 2) := by decide +kernel
theorem d_Reader_countOpen_41 : decode b_Reader_countOpen 41 = .ok (.if_icmp .eq 15, 3) := by decide +kernel
theorem d_Reader_countOpen_44 : decode b_Reader_countOpen 44 = .ok (.iload_n 1, 1) := by decide +kernel
theorem d_Reader_countOpen_45 : decode b_Reader_countOpen 45 = .ok (.bipush 93, 2) := by decide +kernel
theorem d_Reader_countOpen_47 : decode b_Reader_countOpen 47 = .ok (.if_icmp .eq 9, 3) := by decide +kernel
theorem d_Reader_countOpen_50 : decode b_Reader_countOpen 50 = .ok (.iload_n 1, 1) := by decide +kernel
theorem d_Reader_countOpen_51 : decode b_Reader_countOpen 51 = .ok (.bipush 125, 2) := by decide +kernel
theorem d_Reader_countOpen_53 : decode b_Reader_countOpen 53 = .ok (.if_icmp .ne 13, 3) := by decide +kernel
theorem d_Reader_countOpen_56 : decode b_Reader_countOpen 56 = .ok (.aload_n 0, 1) := by decide +kernel
theorem d_Reader_countOpen_57 : decode b_Reader_countOpen 57 = .ok (.dup, 1) := by decide +kernel
theorem d_Reader_countOpen_58 : decode b_Reader_countOpen 58 = .ok (.getfield 79, 3) := by decide +kernel
theorem d_Reader_countOpen_61 : decode b_Reader_countOpen 61 = .ok (.iconst 1, 1) := by decide +kernel
theorem d_Reader_countOpen_62 : decode b_Reader_countOpen 62 = .ok (.isub, 1) := by decide +kernel
theorem d_Reader_countOpen_63 : decode b_Reader_countOpen 63 = .ok (.putfield 79, 3) := by decide +kernel
theorem d_Reader_countOpen_66 : decode b_Reader_countOpen 66 = .ok (.return_, 1) := by decide +kernel
theorem d_Str_length_0 : decode b_Str_length 0 = .ok (.aload_n 0, 1) := by decide +kernel
theorem d_Str_length_1 : decode b_Str_length 1 = .ok (.getfield 9, 3) := by decide +kernel
theorem d_Str_length_4 : decode b_Str_length 4 = .ok (.arraylength, 1) := by decide +kernel
theorem d_Str_length_5 : decode b_Str_length 5 = .ok (.aload_n 0, 1) := by decide +kernel
theorem d_Str_length_6 : decode b_Str_length 6 = .ok (.invokevirtual 335, 3) := by decide +kernel
theorem d_Str_length_9 : decode b_Str_length 9 = .ok (.ishr, 1) := by decide +kernel
theorem d_Str_length_10 : decode b_Str_length 10 = .ok (.ireturn, 1) := by decide +kernel
theorem d_Str_coder_0 : decode b_Str_coder 0 = .ok (.getstatic 38, 3) := by decide +kernel
theorem d_Str_coder_3 : decode b_Str_coder 3 = .ok (.ifCond .eq 10, 3) := by decide +kernel
theorem d_Str_coder_6 : decode b_Str_coder 6 = .ok (.aload_n 0, 1) := by decide +kernel
theorem d_Str_coder_7 : decode b_Str_coder 7 = .ok (.getfield 15, 3) := by decide +kernel
theorem d_Str_coder_10 : decode b_Str_coder 10 = .ok (.goto 4, 3) := by decide +kernel
theorem d_Str_coder_13 : decode b_Str_coder 13 = .ok (.iconst 1, 1) := by decide +kernel
theorem d_Str_coder_14 : decode b_Str_coder 14 = .ok (.ireturn, 1) := by decide +kernel
theorem d_Str_charAt_0 : decode b_Str_charAt 0 = .ok (.aload_n 0, 1) := by decide +kernel
theorem d_Str_charAt_1 : decode b_Str_charAt 1 = .ok (.invokevirtual 492, 3) := by decide +kernel
theorem d_Str_charAt_4 : decode b_Str_charAt 4 = .ok (.ifCond .eq 12, 3) := by decide +kernel
theorem d_Str_charAt_7 : decode b_Str_charAt 7 = .ok (.aload_n 0, 1) := by decide +kernel
theorem d_Str_charAt_8 : decode b_Str_charAt 8 = .ok (.getfield 9, 3) := by decide +kernel
theorem d_Str_charAt_11 : decode b_Str_charAt 11 = .ok (.iload_n 1, 1) := by decide +kernel
theorem d_Str_charAt_12 : decode b_Str_charAt 12 = .ok (.invokestatic 495, 3) := by decide +kernel
theorem d_Str_charAt_15 : decode b_Str_charAt 15 = .ok (.ireturn, 1) := by decide +kernel
theorem d_Str_isLatin1_0 : decode b_Str_isLatin1 0 = .ok (.getstatic 38, 3) := by decide +kernel
theorem d_Str_isLatin1_3 : decode b_Str_isLatin1 3 = .ok (.ifCond .eq 14, 3) := by decide +kernel
theorem d_Str_isLatin1_6 : decode b_Str_isLatin1 6 = .ok (.aload_n 0, 1) := by decide +kernel
theorem d_Str_isLatin1_7 : decode b_Str_isLatin1 7 = .ok (.getfield 15, 3) := by decide +kernel
theorem d_Str_isLatin1_10 : decode b_Str_isLatin1 10 = .ok (.ifCond .ne 7, 3) := by decide +kernel
theorem d_Str_isLatin1_13 : decode b_Str_isLatin1 13 = .ok (.iconst 1, 1) := by decide +kernel
theorem d_Str_isLatin1_14 : decode b_Str_isLatin1 14 = .ok (.goto 4, 3) := by decide +kernel
theorem d_Str_isLatin1_17 : decode b_Str_isLatin1 17 = .ok (.iconst 0, 1) := by decide +kernel
theorem d_Str_isLatin1_18 : decode b_Str_isLatin1 18 = .ok (.ireturn, 1) := by decide +kernel
theorem d_Str_checkIndex_0 : decode b_Str_checkIndex 0 = .ok (.iload_n 0, 1) := by decide +kernel
theorem d_Str_checkIndex_1 : decode b_Str_checkIndex 1 = .ok (.iload_n 1, 1) := by decide +kernel
theorem d_Str_checkIndex_2 : decode b_Str_checkIndex 2 = .ok (.getstatic 1053, 3) := by decide +kernel
theorem d_Str_checkIndex_5 : decode b_Str_checkIndex 5 = .ok (.invokestatic 1059, 3) := by decide +kernel
theorem d_Str_checkIndex_8 : decode b_Str_checkIndex 8 = .ok (.pop, 1) := by decide +kernel
theorem d_Str_checkIndex_9 : decode b_Str_checkIndex 9 = .ok (.return_, 1) := by decide +kernel
theorem d_Lat_charAt_0 : decode b_Lat_charAt 0 = .ok (.iload_n 1, 1) := by decide +kernel
theorem d_Lat_charAt_1 : decode b_Lat_charAt 1 = .ok (.aload_n 0, 1) := by decide +kernel
theorem d_Lat_charAt_2 : decode b_Lat_charAt 2 = .ok (.arraylength, 1) := by decide +kernel
theorem d_Lat_charAt_3 : decode b_Lat_charAt 3 = .ok (.invokestatic 9, 3) := by decide +kernel
theorem d_Lat_charAt_6 : decode b_Lat_charAt 6 = .ok (.aload_n 0, 1) := by decide +kernel
theorem d_Lat_charAt_7 : decode b_Lat_charAt 7 = .ok (.iload_n 1, 1) := by decide +kernel
theorem d_Lat_charAt_8 : decode b_Lat_charAt 8 = .ok (.baload, 1) := by decide +kernel
theorem d_Lat_charAt_9 : decode b_Lat_charAt 9 = .ok (.sipush 255, 3) := by decide +kernel
theorem d_Lat_charAt_12 : decode b_Lat_charAt 12 = .ok (.iand, 1) := by decide +kernel
theorem d_Lat_charAt_13 : decode b_Lat_charAt 13 = .ok (.i2c, 1) := by decide +kernel
theorem d_Lat_charAt_14 : decode b_Lat_charAt 14 = .ok (.ireturn, 1) := by decide +kernel
theorem d_Pre_checkIndex_0 : decode b_Pre_checkIndex 0 = .ok (.iload_n 0, 1) := by decide +kernel
theorem d_Pre_checkIndex_1 : decode b_Pre_checkIndex 1 = .ok (.ifCond .lt 8, 3) := by decide +kernel
theorem d_Pre_checkIndex_4 : decode b_Pre_checkIndex 4 = .ok (.iload_n 0, 1) := by decide +kernel
theorem d_Pre_checkIndex_5 : decode b_Pre_checkIndex 5 = .ok (.iload_n 1, 1) := by decide +kernel
theorem d_Pre_checkIndex_6 : decode b_Pre_checkIndex 6 = .ok (.if_icmp .lt 10, 3) := by decide +kernel
theorem d_Pre_checkIndex_16 : decode b_Pre_checkIndex 16 = .ok (.iload_n 0, 1) := by decide +kernel
theorem d_Pre_checkIndex_17 : decode b_Pre_checkIndex 17 = .ok (.ireturn, 1) := by decide +kernel
