theorem d_Mod_thrown_0 : decode b_Mod_thrown 0 = .ok (.aload_n 0, 1) := by decide +kernel
theorem d_Mod_thrown_1 : decode b_Mod_thrown 1 = .ok (.getfield 198, 3) := by decide +kernel
theorem d_Mod_thrown_4 : decode b_Mod_thrown 4 = .ok (.ireturn, 1) := by decide +kernel
theorem d_Mod_feed_0 : decode b_Mod_feed 0 = .ok (.aload_n 0, 1) := by decide +kernel
theorem d_Mod_feed_1 : decode b_Mod_feed 1 = .ok (.iconst 0, 1) := by decide +kernel
theorem d_Mod_feed_2 : decode b_Mod_feed 2 = .ok (.putfield 198, 3) := by decide +kernel
theorem d_Mod_feed_5 : decode b_Mod_feed 5 = .ok (.aload_n 0, 1) := by decide +kernel
theorem d_Mod_feed_6 : decode b_Mod_feed 6 = .ok (.getfield 201, 3) := by decide +kernel
theorem d_Mod_feed_9 : decode b_Mod_feed 9 = .ok (.bipush 20, 2) := by decide +kernel
theorem d_Mod_feed_11 : decode b_Mod_feed 11 = .ok (.iadd, 1) := by decide +kernel
theorem d_Mod_feed_12 : decode b_Mod_feed 12 = .ok (.sipush 4100, 3) := by decide +kernel
theorem d_Mod_feed_15 : decode b_Mod_feed 15 = .ok (.if_icmp .le 10, 3) := by decide +kernel
theorem d_Mod_feed_18 : decode b_Mod_feed 18 = .ok (.aload_n 0, 1) := by decide +kernel
theorem d_Mod_feed_19 : decode b_Mod_feed 19 = .ok (.iconst 1, 1) := by decide +kernel
theorem d_Mod_feed_20 : decode b_Mod_feed 20 = .ok (.putfield 198, 3) := by decide +kernel
theorem d_Mod_feed_23 : decode b_Mod_feed 23 = .ok (.iconst 0, 1) := by decide +kernel
theorem d_Mod_feed_24 : decode b_Mod_feed 24 = .ok (.ireturn, 1) := by decide +kernel
theorem d_Mod_feed_25 : decode b_Mod_feed 25 = .ok (.iconst 0, 1) := by decide +kernel
theorem d_Mod_feed_26 : decode b_Mod_feed 26 = .ok (.istore 6, 2) := by decide +kernel
theorem d_Mod_feed_28 : decode b_Mod_feed 28 = .ok (.iload 6, 2) := by decide +kernel
theorem d_Mod_feed_30 : decode b_Mod_feed 30 = .ok (.bipush 20, 2) := by decide +kernel
theorem d_Mod_feed_32 : decode b_Mod_feed 32 = .ok (.if_icmp .ge 90, 3) := by decide +kernel
theorem d_Mod_feed_35 : decode b_Mod_feed 35 = .ok (.iload 6, 2) := by decide +kernel
theorem d_Mod_feed_37 : decode b_Mod_feed 37 = .ok (.iconst 4, 1) := by decide +kernel
theorem d_Mod_feed_38 : decode b_Mod_feed 38 = .ok (.if_icmp .ge 7, 3) := by decide +kernel
theorem d_Mod_feed_41 : decode b_Mod_feed 41 = .ok (.iload_n 1, 1) := by decide +kernel
theorem d_Mod_feed_42 : decode b_Mod_feed 42 = .ok (.goto 39, 3) := by decide +kernel
theorem d_Mod_feed_45 : decode b_Mod_feed 45 = .ok (.iload 6, 2) := by decide +kernel
theorem d_Mod_feed_47 : decode b_Mod_feed 47 = .ok (.bipush 8, 2) := by decide +kernel
theorem d_Mod_feed_49 : decode b_Mod_feed 49 = .ok (.if_icmp .ge 7, 3) := by decide +kernel
theorem d_Mod_feed_52 : decode b_Mod_feed 52 = .ok (.iload_n 2, 1) := by decide +kernel
theorem d_Mod_feed_53 : decode b_Mod_feed 53 = .ok (.goto 28, 3) := by decide +kernel
theorem d_Mod_feed_56 : decode b_Mod_feed 56 = .ok (.iload 6, 2) := by decide +kernel
theorem d_Mod_feed_58 : decode b_Mod_feed 58 = .ok (.bipush 12, 2) := by decide +kernel
theorem d_Mod_feed_60 : decode b_Mod_feed 60 = .ok (.if_icmp .ge 7, 3) := by decide +kernel
theorem d_Mod_feed_63 : decode b_Mod_feed 63 = .ok (.iload_n 3, 1) := by decide +kernel
theorem d_Mod_feed_64 : decode b_Mod_feed 64 = .ok (.goto 17, 3) := by decide +kernel
theorem d_Mod_feed_67 : decode b_Mod_feed 67 = .ok (.iload 6, 2) := by decide +kernel
theorem d_Mod_feed_69 : decode b_Mod_feed 69 = .ok (.bipush 16, 2) := by decide +kernel
theorem d_Mod_feed_71 : decode b_Mod_feed 71 = .ok (.if_icmp .ge 8, 3) := by decide +kernel
theorem d_Mod_feed_74 : decode b_Mod_feed 74 = .ok (.iload 4, 2) := by decide +kernel
theorem d_Mod_feed_76 : decode b_Mod_feed 76 = .ok (.goto 5, 3) := by decide +kernel
theorem d_Mod_feed_79 : decode b_Mod_feed 79 = .ok (.iload 5, 2) := by decide +kernel
theorem d_Mod_feed_81 : decode b_Mod_feed 81 = .ok (.istore 7, 2) := by decide +kernel
theorem d_Mod_feed_83 : decode b_Mod_feed 83 = .ok (.aload_n 0, 1) := by decide +kernel
theorem d_Mod_feed_84 : decode b_Mod_feed 84 = .ok (.getfield 180, 3) := by decide +kernel
theorem d_Mod_feed_87 : decode b_Mod_feed 87 = .ok (.aload_n 0, 1) := by decide +kernel
theorem d_Mod_feed_88 : decode b_Mod_feed 88 = .ok (.dup, 1) := by decide +kernel
theorem d_Mod_feed_89 : decode b_Mod_feed 89 = .ok (.getfield 201, 3) := by decide +kernel
theorem d_Mod_feed_92 : decode b_Mod_feed 92 = .ok (.dup_x1, 1) := by decide +kernel
theorem d_Mod_feed_93 : decode b_Mod_feed 93 = .ok (.iconst 1, 1) := by decide +kernel
theorem d_Mod_feed_94 : decode b_Mod_feed 94 = .ok (.iadd, 1) := by decide +kernel
theorem d_Mod_feed_95 : decode b_Mod_feed 95 = .ok (.putfield 201, 3) := by decide +kernel
theorem d_Mod_feed_98 : decode b_Mod_feed 98 = .ok (.iload 7, 2) := by decide +kernel
theorem d_Mod_feed_100 : decode b_Mod_feed 100 = .ok (.bipush 24, 2) := by decide +kernel
theorem d_Mod_feed_102 : decode b_Mod_feed 102 = .ok (.bipush 8, 2) := by decide +kernel
theorem d_Mod_feed_104 : decode b_Mod_feed 104 = .ok (.iload 6, 2) := by decide +kernel
theorem d_Mod_feed_106 : decode b_Mod_feed 106 = .ok (.iconst 3, 1) := by decide +kernel
theorem d_Mod_feed_107 : decode b_Mod_feed 107 = .ok (.iand, 1) := by decide +kernel
theorem d_Mod_feed_108 : decode b_Mod_feed 108 = .ok (.imul, 1) := by decide +kernel
theorem d_Mod_feed_109 : decode b_Mod_feed 109 = .ok (.isub, 1) := by decide +kernel
theorem d_Mod_feed_110 : decode b_Mod_feed 110 = .ok (.iushr, 1) := by decide +kernel
theorem d_Mod_feed_111 : decode b_Mod_feed 111 = .ok (.sipush 255, 3) := by decide +kernel
theorem d_Mod_feed_114 : decode b_Mod_feed 114 = .ok (.iand, 1) := by decide +kernel
theorem d_Mod_feed_115 : decode b_Mod_feed 115 = .ok (.iastore, 1) := by decide +kernel
theorem d_Mod_feed_116 : decode b_Mod_feed 116 = .ok (.iinc 6 1, 3) := by decide +kernel
theorem d_Mod_feed_119 : decode b_Mod_feed 119 = .ok (.goto (-91), 3) := by decide +kernel
theorem d_Mod_feed_122 : decode b_Mod_feed 122 = .ok (.aload_n 0, 1) := by decide +kernel
theorem d_Mod_feed_123 : decode b_Mod_feed 123 = .ok (.getfield 201, 3) := by decide +kernel
theorem d_Mod_feed_126 : decode b_Mod_feed 126 = .ok (.ireturn, 1) := by decide +kernel
theorem d_Mod_bad_0 : decode b_Mod_bad 0 = .ok (.aload_n 0, 1) := by decide +kernel
theorem d_Mod_bad_1 : decode b_Mod_bad 1 = .ok (.getfield 176, 3) := by decide +kernel
theorem d_Mod_bad_4 : decode b_Mod_bad 4 = .ok (.ifCond .ge 8, 3) := by decide +kernel
theorem d_Mod_bad_7 : decode b_Mod_bad 7 = .ok (.aload_n 0, 1) := by decide +kernel
theorem d_Mod_bad_8 : decode b_Mod_bad 8 = .ok (.iload_n 1, 1) := by decide +kernel
theorem d_Mod_bad_9 : decode b_Mod_bad 9 = .ok (.putfield 176, 3) := by decide +kernel
theorem d_Mod_bad_12 : decode b_Mod_bad 12 = .ok (.iconst 0, 1) := by decide +kernel
theorem d_Mod_bad_13 : decode b_Mod_bad 13 = .ok (.ireturn, 1) := by decide +kernel
theorem d_Mod_add_0 : decode b_Mod_add 0 = .ok (.aload_n 0, 1) := by decide +kernel
theorem d_Mod_add_1 : decode b_Mod_add 1 = .ok (.getfield 187, 3) := by decide +kernel
theorem d_Mod_add_4 : decode b_Mod_add 4 = .ok (.aload_n 0, 1) := by decide +kernel
theorem d_Mod_add_5 : decode b_Mod_add 5 = .ok (.getfield 204, 3) := by decide +kernel
theorem d_Mod_add_8 : decode b_Mod_add 8 = .ok (.iload_n 1, 1) := by decide +kernel
theorem d_Mod_add_9 : decode b_Mod_add 9 = .ok (.iastore, 1) := by decide +kernel
theorem d_Mod_add_10 : decode b_Mod_add 10 = .ok (.aload_n 0, 1) := by decide +kernel
theorem d_Mod_add_11 : decode b_Mod_add 11 = .ok (.getfield 190, 3) := by decide +kernel
theorem d_Mod_add_14 : decode b_Mod_add 14 = .ok (.aload_n 0, 1) := by decide +kernel
theorem d_Mod_add_15 : decode b_Mod_add 15 = .ok (.getfield 204, 3) := by decide +kernel
theorem d_Mod_add_18 : decode b_Mod_add 18 = .ok (.iload_n 2, 1) := by decide +kernel
theorem d_Mod_add_19 : decode b_Mod_add 19 = .ok (.iastore, 1) := by decide +kernel
theorem d_Mod_add_20 : decode b_Mod_add 20 = .ok (.aload_n 0, 1) := by decide +kernel
theorem d_Mod_add_21 : decode b_Mod_add 21 = .ok (.getfield 192, 3) := by decide +kernel
theorem d_Mod_add_24 : decode b_Mod_add 24 = .ok (.aload_n 0, 1) := by decide +kernel
theorem d_Mod_add_25 : decode b_Mod_add 25 = .ok (.dup, 1) := by decide +kernel
theorem d_Mod_add_26 : decode b_Mod_add 26 = .ok (.getfield 204, 3) := by decide +kernel
theorem d_Mod_add_29 : decode b_Mod_add 29 = .ok (.dup_x1, 1) := by decide +kernel
theorem d_Mod_add_30 : decode b_Mod_add 30 = .ok (.iconst 1, 1) := by decide +kernel
theorem d_Mod_add_31 : decode b_Mod_add 31 = .ok (.iadd, 1) := by decide +kernel
theorem d_Mod_add_32 : decode b_Mod_add 32 = .ok (.putfield 204, 3) := by decide +kernel
theorem d_Mod_add_35 : decode b_Mod_add 35 = .ok (.iload_n 3, 1) := by decide +kernel
theorem d_Mod_add_36 : decode b_Mod_add 36 = .ok (.iastore, 1) := by decide +kernel
theorem d_Mod_add_37 : decode b_Mod_add 37 = .ok (.iconst 1, 1) := by decide +kernel
theorem d_Mod_add_38 : decode b_Mod_add 38 = .ok (.ireturn, 1) := by decide +kernel
theorem d_Mod_scan_0 : decode b_Mod_scan 0 = .ok (.aload_n 0, 1) := by decide +kernel
theorem d_Mod_scan_1 : decode b_Mod_scan 1 = .ok (.iconst 0, 1) := by decide +kernel
theorem d_Mod_scan_2 : decode b_Mod_scan 2 = .ok (.putfield 198, 3) := by decide +kernel
theorem d_Mod_scan_5 : decode b_Mod_scan 5 = .ok (.iload_n 1, 1) := by decide +kernel
theorem d_Mod_scan_6 : decode b_Mod_scan 6 = .ok (.ifCond .lt 18, 3) := by decide +kernel
theorem d_Mod_scan_9 : decode b_Mod_scan 9 = .ok (.iload_n 1, 1) := by decide +kernel
theorem d_Mod_scan_10 : decode b_Mod_scan 10 = .ok (.sipush 4096, 3) := by decide +kernel
theorem d_Mod_scan_13 : decode b_Mod_scan 13 = .ok (.if_icmp .gt 11, 3) := by decide +kernel
theorem d_Mod_scan_16 : decode b_Mod_scan 16 = .ok (.iload_n 1, 1) := by decide +kernel
theorem d_Mod_scan_17 : decode b_Mod_scan 17 = .ok (.aload_n 0, 1) := by decide +kernel
theorem d_Mod_scan_18 : decode b_Mod_scan 18 = .ok (.getfield 201, 3) := by decide +kernel
theorem d_Mod_scan_21 : decode b_Mod_scan 21 = .ok (.if_icmp .le 10, 3) := by decide +kernel
theorem d_Mod_scan_24 : decode b_Mod_scan 24 = .ok (.aload_n 0, 1) := by decide +kernel
theorem d_Mod_scan_25 : decode b_Mod_scan 25 = .ok (.iconst 1, 1) := by decide +kernel
theorem d_Mod_scan_26 : decode b_Mod_scan 26 = .ok (.putfield 198, 3) := by decide +kernel
theorem d_Mod_scan_29 : decode b_Mod_scan 29 = .ok (.iconst 0, 1) := by decide +kernel
theorem d_Mod_scan_30 : decode b_Mod_scan 30 = .ok (.ireturn, 1) := by decide +kernel
theorem d_Mod_scan_31 : decode b_Mod_scan 31 = .ok (.aload_n 0, 1) := by decide +kernel
theorem d_Mod_scan_32 : decode b_Mod_scan 32 = .ok (.iconst 0, 1) := by decide +kernel
theorem d_Mod_scan_33 : decode b_Mod_scan 33 = .ok (.putfield 201, 3) := by decide +kernel
theorem d_Mod_scan_36 : decode b_Mod_scan 36 = .ok (.aload_n 0, 1) := by decide +kernel
theorem d_Mod_scan_37 : decode b_Mod_scan 37 = .ok (.iconst 0, 1) := by decide +kernel
theorem d_Mod_scan_38 : decode b_Mod_scan 38 = .ok (.putfield 204, 3) := by decide +kernel
theorem d_Mod_scan_41 : decode b_Mod_scan 41 = .ok (.aload_n 0, 1) := by decide +kernel
theorem d_Mod_scan_42 : decode b_Mod_scan 42 = .ok (.iconst (-1), 1) := by decide +kernel
theorem d_Mod_scan_43 : decode b_Mod_scan 43 = .ok (.putfield 176, 3) := by decide +kernel
theorem d_Mod_scan_46 : decode b_Mod_scan 46 = .ok (.aload_n 0, 1) := by decide +kernel
theorem d_Mod_scan_47 : decode b_Mod_scan 47 = .ok (.iload_n 1, 1) := by decide +kernel
theorem d_Mod_scan_48 : decode b_Mod_scan 48 = .ok (.putfield 207, 3) := by decide +kernel
theorem d_Mod_scan_51 : decode b_Mod_scan 51 = .ok (.iconst 0, 1) := by decide +kernel
theorem d_Mod_scan_52 : decode b_Mod_scan 52 = .ok (.istore_n 2, 1) := by decide +kernel
theorem d_Mod_scan_53 : decode b_Mod_scan 53 = .ok (.iload_n 2, 1) := by decide +kernel
theorem d_Mod_scan_54 : decode b_Mod_scan 54 = .ok (.iload_n 1, 1) := by decide +kernel
theorem d_Mod_scan_55 : decode b_Mod_scan 55 = .ok (.if_icmp .ge 60, 3) := by decide +kernel
theorem d_Mod_scan_58 : decode b_Mod_scan 58 = .ok (.aload_n 0, 1) := by decide +kernel
theorem d_Mod_scan_59 : decode b_Mod_scan 59 = .ok (.getfield 184, 3) := by decide +kernel
theorem d_Mod_scan_62 : decode b_Mod_scan 62 = .ok (.iload_n 2, 1) := by decide +kernel
theorem d_Mod_scan_63 : decode b_Mod_scan 63 = .ok (.aload_n 0, 1) := by decide +kernel
theorem d_Mod_scan_64 : decode b_Mod_scan 64 = .ok (.getfield 180, 3) := by decide +kernel
theorem d_Mod_scan_67 : decode b_Mod_scan 67 = .ok (.iload_n 2, 1) := by decide +kernel
theorem d_Mod_scan_68 : decode b_Mod_scan 68 = .ok (.iaload, 1) := by decide +kernel
theorem d_Mod_scan_69 : decode b_Mod_scan 69 = .ok (.iastore, 1) := by decide +kernel
theorem d_Mod_scan_70 : decode b_Mod_scan 70 = .ok (.aload_n 0, 1) := by decide +kernel
theorem d_Mod_scan_71 : decode b_Mod_scan 71 = .ok (.getfield 184, 3) := by decide +kernel
theorem d_Mod_scan_74 : decode b_Mod_scan 74 = .ok (.iload_n 2, 1) := by decide +kernel
theorem d_Mod_scan_75 : decode b_Mod_scan 75 = .ok (.iaload, 1) := by decide +kernel
theorem d_Mod_scan_76 : decode b_Mod_scan 76 = .ok (.bipush 10, 2) := by decide +kernel
theorem d_Mod_scan_78 : decode b_Mod_scan 78 = .ok (.if_icmp .eq 31, 3) := by decide +kernel
theorem d_Mod_scan_81 : decode b_Mod_scan 81 = .ok (.aload_n 0, 1) := by decide +kernel
theorem d_Mod_scan_82 : decode b_Mod_scan 82 = .ok (.getfield 184, 3) := by decide +kernel
theorem d_Mod_scan_85 : decode b_Mod_scan 85 = .ok (.iload_n 2, 1) := by decide +kernel
theorem d_Mod_scan_86 : decode b_Mod_scan 86 = .ok (.iaload, 1) := by decide +kernel
theorem d_Mod_scan_87 : decode b_Mod_scan 87 = .ok (.bipush 32, 2) := by decide +kernel
theorem d_Mod_scan_89 : decode b_Mod_scan 89 = .ok (.if_icmp .lt 14, 3) := by decide +kernel
theorem d_Mod_scan_92 : decode b_Mod_scan 92 = .ok (.aload_n 0, 1) := by decide +kernel
theorem d_Mod_scan_93 : decode b_Mod_scan 93 = .ok (.getfield 184, 3) := by decide +kernel
theorem d_Mod_scan_96 : decode b_Mod_scan 96 = .ok (.iload_n 2, 1) := by decide +kernel
theorem d_Mod_scan_97 : decode b_Mod_scan 97 = .ok (.iaload, 1) := by decide +kernel
theorem d_Mod_scan_98 : decode b_Mod_scan 98 = .ok (.bipush 126, 2) := by decide +kernel
theorem d_Mod_scan_100 : decode b_Mod_scan 100 = .ok (.if_icmp .le 9, 3) := by decide +kernel
theorem d_Mod_scan_103 : decode b_Mod_scan 103 = .ok (.aload_n 0, 1) := by decide +kernel
theorem d_Mod_scan_104 : decode b_Mod_scan 104 = .ok (.iload_n 2, 1) := by decide +kernel
theorem d_Mod_scan_105 : decode b_Mod_scan 105 = .ok (.invokevirtual 210, 3) := by decide +kernel
theorem d_Mod_scan_108 : decode b_Mod_scan 108 = .ok (.pop, 1) := by decide +kernel
theorem d_Mod_scan_109 : decode b_Mod_scan 109 = .ok (.iinc 2 1, 3) := by decide +kernel
theorem d_Mod_scan_112 : decode b_Mod_scan 112 = .ok (.goto (-59), 3) := by decide +kernel
theorem d_Mod_scan_115 : decode b_Mod_scan 115 = .ok (.aload_n 0, 1) := by decide +kernel
theorem d_Mod_scan_116 : decode b_Mod_scan 116 = .ok (.iconst 0, 1) := by decide +kernel
theorem d_Mod_scan_117 : decode b_Mod_scan 117 = .ok (.putfield 214, 3) := by decide +kernel
theorem d_Mod_scan_120 : decode b_Mod_scan 120 = .ok (.aload_n 0, 1) := by decide +kernel
theorem d_Mod_scan_121 : decode b_Mod_scan 121 = .ok (.iconst 0, 1) := by decide +kernel
theorem d_Mod_scan_122 : decode b_Mod_scan 122 = .ok (.putfield 217, 3) := by decide +kernel
theorem d_Mod_scan_125 : decode b_Mod_scan 125 = .ok (.aload_n 0, 1) := by decide +kernel
theorem d_Mod_scan_126 : decode b_Mod_scan 126 = .ok (.getfield 195, 3) := by decide +kernel
theorem d_Mod_scan_129 : decode b_Mod_scan 129 = .ok (.iconst 0, 1) := by decide +kernel
theorem d_Mod_scan_130 : decode b_Mod_scan 130 = .ok (.iconst 0, 1) := by decide +kernel
theorem d_Mod_scan_131 : decode b_Mod_scan 131 = .ok (.iastore, 1) := by decide +kernel
theorem d_Mod_scan_132 : decode b_Mod_scan 132 = .ok (.aload_n 0, 1) := by decide +kernel
theorem d_Mod_scan_133 : decode b_Mod_scan 133 = .ok (.getfield 176, 3) := by decide +kernel
theorem d_Mod_scan_136 : decode b_Mod_scan 136 = .ok (.ifCond .ge 7, 3) := by decide +kernel
theorem d_Mod_scan_139 : decode b_Mod_scan 139 = .ok (.iconst 1, 1) := by decide +kernel
theorem d_Mod_scan_140 : decode b_Mod_scan 140 = .ok (.goto 4, 3) := by decide +kernel
theorem d_Mod_scan_143 : decode b_Mod_scan 143 = .ok (.iconst 0, 1) := by decide +kernel
theorem d_Mod_scan_144 : decode b_Mod_scan 144 = .ok (.istore_n 2, 1) := by decide +kernel
theorem d_Mod_scan_145 : decode b_Mod_scan 145 = .ok (.iload_n 2, 1) := by decide +kernel
theorem d_Mod_scan_146 : decode b_Mod_scan 146 = .ok (.ifCond .eq 19, 3) := by decide +kernel
theorem d_Mod_scan_149 : decode b_Mod_scan 149 = .ok (.aload_n 0, 1) := by decide +kernel
theorem d_Mod_scan_150 : decode b_Mod_scan 150 = .ok (.getfield 214, 3) := by decide +kernel
theorem d_Mod_scan_153 : decode b_Mod_scan 153 = .ok (.iload_n 1, 1) := by decide +kernel
theorem d_Mod_scan_154 : decode b_Mod_scan 154 = .ok (.if_icmp .ge 11, 3) := by decide +kernel
theorem d_Mod_scan_157 : decode b_Mod_scan 157 = .ok (.aload_n 0, 1) := by decide +kernel
theorem d_Mod_scan_158 : decode b_Mod_scan 158 = .ok (.invokevirtual 220, 3) := by decide +kernel
theorem d_Mod_scan_161 : decode b_Mod_scan 161 = .ok (.istore_n 2, 1) := by decide +kernel
theorem d_Mod_scan_162 : decode b_Mod_scan 162 = .ok (.goto (-17), 3) := by decide +kernel
theorem d_Mod_scan_165 : decode b_Mod_scan 165 = .ok (.iload_n 2, 1) := by decide +kernel
theorem d_Mod_scan_166 : decode b_Mod_scan 166 = .ok (.ifCond .eq 40, 3) := by decide +kernel
theorem d_Mod_scan_169 : decode b_Mod_scan 169 = .ok (.iconst 0, 1) := by decide +kernel
theorem d_Mod_scan_170 : decode b_Mod_scan 170 = .ok (.istore_n 3, 1) := by decide +kernel
theorem d_Mod_scan_171 : decode b_Mod_scan 171 = .ok (.iload_n 3, 1) := by decide +kernel
theorem d_Mod_scan_172 : decode b_Mod_scan 172 = .ok (.aload_n 0, 1) := by decide +kernel
theorem d_Mod_scan_173 : decode b_Mod_scan 173 = .ok (.getfield 217, 3) := by decide +kernel
theorem d_Mod_scan_176 : decode b_Mod_scan 176 = .ok (.if_icmp .ge 17, 3) := by decide +kernel
theorem d_Mod_scan_179 : decode b_Mod_scan 179 = .ok (.aload_n 0, 1) := by decide +kernel
theorem d_Mod_scan_180 : decode b_Mod_scan 180 = .ok (.iconst 3, 1) := by decide +kernel
theorem d_Mod_scan_181 : decode b_Mod_scan 181 = .ok (.iload_n 1, 1) := by decide +kernel
theorem d_Mod_scan_182 : decode b_Mod_scan 182 = .ok (.iload_n 1, 1) := by decide +kernel
theorem d_Mod_scan_183 : decode b_Mod_scan 183 = .ok (.invokevirtual 224, 3) := by decide +kernel
theorem d_Mod_scan_186 : decode b_Mod_scan 186 = .ok (.pop, 1) := by decide +kernel
theorem d_Mod_scan_187 : decode b_Mod_scan 187 = .ok (.iinc 3 1, 3) := by decide +kernel
theorem d_Mod_scan_190 : decode b_Mod_scan 190 = .ok (.goto (-19), 3) := by decide +kernel
theorem d_Mod_scan_193 : decode b_Mod_scan 193 = .ok (.aload_n 0, 1) := by decide +kernel
theorem d_Mod_scan_194 : decode b_Mod_scan 194 = .ok (.iconst 0, 1) := by decide +kernel
theorem d_Mod_scan_195 : decode b_Mod_scan 195 = .ok (.iload_n 1, 1) := by decide +kernel
theorem d_Mod_scan_196 : decode b_Mod_scan 196 = .ok (.iload_n 1, 1) := by decide +kernel
theorem d_Mod_scan_197 : decode b_Mod_scan 197 = .ok (.invokevirtual 224, 3) := by decide +kernel
theorem d_Mod_scan_200 : decode b_Mod_scan 200 = .ok (.pop, 1) := by decide +kernel
theorem d_Mod_scan_201 : decode b_Mod_scan 201 = .ok (.aload_n 0, 1) := by decide +kernel
theorem d_Mod_scan_202 : decode b_Mod_scan 202 = .ok (.getfield 204, 3) := by decide +kernel
theorem d_Mod_scan_205 : decode b_Mod_scan 205 = .ok (.ireturn, 1) := by decide +kernel
theorem d_Mod_scan_206 : decode b_Mod_scan 206 = .ok (.aload_n 0, 1) := by decide +kernel
theorem d_Mod_scan_207 : decode b_Mod_scan 207 = .ok (.iconst 0, 1) := by decide +kernel
theorem d_Mod_scan_208 : decode b_Mod_scan 208 = .ok (.putfield 204, 3) := by decide +kernel
theorem d_Mod_scan_211 : decode b_Mod_scan 211 = .ok (.aload_n 0, 1) := by decide +kernel
theorem d_Mod_scan_212 : decode b_Mod_scan 212 = .ok (.iconst 2, 1) := by decide +kernel
theorem d_Mod_scan_213 : decode b_Mod_scan 213 = .ok (.putfield 198, 3) := by decide +kernel
theorem d_Mod_scan_216 : decode b_Mod_scan 216 = .ok (.iconst 0, 1) := by decide +kernel
theorem d_Mod_scan_217 : decode b_Mod_scan 217 = .ok (.ireturn, 1) := by decide +kernel
theorem d_Mod_c_0 : decode b_Mod_c 0 = .ok (.iload_n 1, 1) := by decide +kernel
theorem d_Mod_c_1 : decode b_Mod_c 1 = .ok (.aload_n 0, 1) := by decide +kernel
theorem d_Mod_c_2 : decode b_Mod_c 2 = .ok (.getfield 207, 3) := by decide +kernel
theorem d_Mod_c_5 : decode b_Mod_c 5 = .ok (.if_icmp .ge 12, 3) := by decide +kernel
theorem d_Mod_c_8 : decode b_Mod_c 8 = .ok (.aload_n 0, 1) := by decide +kernel
theorem d_Mod_c_9 : decode b_Mod_c 9 = .ok (.getfield 184, 3) := by decide +kernel
theorem d_Mod_c_12 : decode b_Mod_c 12 = .ok (.iload_n 1, 1) := by decide +kernel
theorem d_Mod_c_13 : decode b_Mod_c 13 = .ok (.iaload, 1) := by decide +kernel
theorem d_Mod_c_14 : decode b_Mod_c 14 = .ok (.goto 4, 3) := by decide +kernel
theorem d_Mod_c_17 : decode b_Mod_c 17 = .ok (.iconst (-1), 1) := by decide +kernel
theorem d_Mod_c_18 : decode b_Mod_c 18 = .ok (.ireturn, 1) := by decide +kernel
theorem d_Mod_line_0 : decode b_Mod_line 0 = .ok (.iconst 0, 1) := by decide +kernel
theorem d_Mod_line_1 : decode b_Mod_line 1 = .ok (.istore_n 1, 1) := by decide +kernel
theorem d_Mod_line_2 : decode b_Mod_line 2 = .ok (.aload_n 0, 1) := by decide +kernel
theorem d_Mod_line_3 : decode b_Mod_line 3 = .ok (.aload_n 0, 1) := by decide +kernel
theorem d_Mod_line_4 : decode b_Mod_line 4 = .ok (.getfield 214, 3) := by decide +kernel
theorem d_Mod_line_7 : decode b_Mod_line 7 = .ok (.invokevirtual 228, 3) := by decide +kernel
theorem d_Mod_line_10 : decode b_Mod_line 10 = .ok (.bipush 32, 2) := by decide +kernel
theorem d_Mod_line_12 : decode b_Mod_line 12 = .ok (.if_icmp .ne 19, 3) := by decide +kernel
theorem d_Mod_line_15 : decode b_Mod_line 15 = .ok (.aload_n 0, 1) := by decide +kernel
theorem d_Mod_line_16 : decode b_Mod_line 16 = .ok (.dup, 1) := by decide +kernel
theorem d_Mod_line_17 : decode b_Mod_line 17 = .ok (.getfield 214, 3) := by decide +kernel
theorem d_Mod_line_20 : decode b_Mod_line 20 = .ok (.iconst 1, 1) := by decide +kernel
theorem d_Mod_line_21 : decode b_Mod_line 21 = .ok (.iadd, 1) := by decide +kernel
theorem d_Mod_line_22 : decode b_Mod_line 22 = .ok (.putfield 214, 3) := by decide +kernel
theorem d_Mod_line_25 : decode b_Mod_line 25 = .ok (.iinc 1 1, 3) := by decide +kernel
theorem d_Mod_line_28 : decode b_Mod_line 28 = .ok (.goto (-26), 3) := by decide +kernel
theorem d_Mod_line_31 : decode b_Mod_line 31 = .ok (.aload_n 0, 1) := by decide +kernel
theorem d_Mod_line_32 : decode b_Mod_line 32 = .ok (.invokevirtual 232, 3) := by decide +kernel
theorem d_Mod_line_35 : decode b_Mod_line 35 = .ok (.aload_n 0, 1) := by decide +kernel
theorem d_Mod_line_36 : decode b_Mod_line 36 = .ok (.aload_n 0, 1) := by decide +kernel
theorem d_Mod_line_37 : decode b_Mod_line 37 = .ok (.getfield 214, 3) := by decide +kernel
theorem d_Mod_line_40 : decode b_Mod_line 40 = .ok (.invokevirtual 228, 3) := by decide +kernel
theorem d_Mod_line_43 : decode b_Mod_line 43 = .ok (.bipush 35, 2) := by decide +kernel
theorem d_Mod_line_45 : decode b_Mod_line 45 = .ok (.if_icmp .ne 7, 3) := by decide +kernel
theorem d_Mod_line_48 : decode b_Mod_line 48 = .ok (.aload_n 0, 1) := by decide +kernel
theorem d_Mod_line_49 : decode b_Mod_line 49 = .ok (.invokevirtual 235, 3) := by decide +kernel
theorem d_Mod_line_52 : decode b_Mod_line 52 = .ok (.aload_n 0, 1) := by decide +kernel
theorem d_Mod_line_53 : decode b_Mod_line 53 = .ok (.getfield 214, 3) := by decide +kernel
theorem d_Mod_line_56 : decode b_Mod_line 56 = .ok (.aload_n 0, 1) := by decide +kernel
theorem d_Mod_line_57 : decode b_Mod_line 57 = .ok (.getfield 207, 3) := by decide +kernel
theorem d_Mod_line_60 : decode b_Mod_line 60 = .ok (.if_icmp .lt 5, 3) := by decide +kernel
theorem d_Mod_line_63 : decode b_Mod_line 63 = .ok (.iconst 1, 1) := by decide +kernel
theorem d_Mod_line_64 : decode b_Mod_line 64 = .ok (.ireturn, 1) := by decide +kernel
theorem d_Mod_line_65 : decode b_Mod_line 65 = .ok (.aload_n 0, 1) := by decide +kernel
theorem d_Mod_line_66 : decode b_Mod_line 66 = .ok (.aload_n 0, 1) := by decide +kernel
theorem d_Mod_line_67 : decode b_Mod_line 67 = .ok (.getfield 214, 3) := by decide +kernel
theorem d_Mod_line_70 : decode b_Mod_line 70 = .ok (.invokevirtual 228, 3) := by decide +kernel
theorem d_Mod_line_73 : decode b_Mod_line 73 = .ok (.bipush 10, 2) := by decide +kernel
theorem d_Mod_line_75 : decode b_Mod_line 75 = .ok (.if_icmp .ne 15, 3) := by decide +kernel
theorem d_Mod_line_78 : decode b_Mod_line 78 = .ok (.aload_n 0, 1) := by decide +kernel
theorem d_Mod_line_79 : decode b_Mod_line 79 = .ok (.dup, 1) := by decide +kernel
theorem d_Mod_line_80 : decode b_Mod_line 80 = .ok (.getfield 214, 3) := by decide +kernel
theorem d_Mod_line_83 : decode b_Mod_line 83 = .ok (.iconst 1, 1) := by decide +kernel
theorem d_Mod_line_84 : decode b_Mod_line 84 = .ok (.iadd, 1) := by decide +kernel
theorem d_Mod_line_85 : decode b_Mod_line 85 = .ok (.putfield 214, 3) := by decide +kernel
theorem d_Mod_line_88 : decode b_Mod_line 88 = .ok (.iconst 1, 1) := by decide +kernel
theorem d_Mod_line_89 : decode b_Mod_line 89 = .ok (.ireturn, 1) := by decide +kernel
theorem d_Mod_line_90 : decode b_Mod_line 90 = .ok (.iload_n 1, 1) := by decide +kernel
theorem d_Mod_line_91 : decode b_Mod_line 91 = .ok (.aload_n 0, 1) := by decide +kernel
theorem d_Mod_line_92 : decode b_Mod_line 92 = .ok (.getfield 195, 3) := by decide +kernel
theorem d_Mod_line_95 : decode b_Mod_line 95 = .ok (.aload_n 0, 1) := by decide +kernel
theorem d_Mod_line_96 : decode b_Mod_line 96 = .ok (.getfield 217, 3) := by decide +kernel
theorem d_Mod_line_99 : decode b_Mod_line 99 = .ok (.iaload, 1) := by decide +kernel
theorem d_Mod_line_100 : decode b_Mod_line 100 = .ok (.if_icmp .le 50, 3) := by decide +kernel
theorem d_Mod_line_103 : decode b_Mod_line 103 = .ok (.aload_n 0, 1) := by decide +kernel
theorem d_Mod_line_104 : decode b_Mod_line 104 = .ok (.getfield 204, 3) := by decide +kernel
theorem d_Mod_line_107 : decode b_Mod_line 107 = .ok (.ifCond .ne 12, 3) := by decide +kernel
theorem d_Mod_line_110 : decode b_Mod_line 110 = .ok (.aload_n 0, 1) := by decide +kernel
theorem d_Mod_line_111 : decode b_Mod_line 111 = .ok (.aload_n 0, 1) := by decide +kernel
theorem d_Mod_line_112 : decode b_Mod_line 112 = .ok (.getfield 214, 3) := by decide +kernel
theorem d_Mod_line_115 : decode b_Mod_line 115 = .ok (.invokevirtual 210, 3) := by decide +kernel
theorem d_Mod_line_118 : decode b_Mod_line 118 = .ok (.ireturn, 1) := by decide +kernel
theorem d_Mod_line_119 : decode b_Mod_line 119 = .ok (.aload_n 0, 1) := by decide +kernel
theorem d_Mod_line_120 : decode b_Mod_line 120 = .ok (.getfield 195, 3) := by decide +kernel
theorem d_Mod_line_123 : decode b_Mod_line 123 = .ok (.aload_n 0, 1) := by decide +kernel
theorem d_Mod_line_124 : decode b_Mod_line 124 = .ok (.dup, 1) := by decide +kernel
theorem d_Mod_line_125 : decode b_Mod_line 125 = .ok (.getfield 217, 3) := by decide +kernel
theorem d_Mod_line_128 : decode b_Mod_line 128 = .ok (.iconst 1, 1) := by decide +kernel
theorem d_Mod_line_129 : decode b_Mod_line 129 = .ok (.iadd, 1) := by decide +kernel
theorem d_Mod_line_130 : decode b_Mod_line 130 = .ok (.dup_x1, 1) := by decide +kernel
theorem d_Mod_line_131 : decode b_Mod_line 131 = .ok (.putfield 217, 3) := by decide +kernel
theorem d_Mod_line_134 : decode b_Mod_line 134 = .ok (.iload_n 1, 1) := by decide +kernel
theorem d_Mod_line_135 : decode b_Mod_line 135 = .ok (.iastore, 1) := by decide +kernel
theorem d_Mod_line_136 : decode b_Mod_line 136 = .ok (.aload_n 0, 1) := by decide +kernel
theorem d_Mod_line_137 : decode b_Mod_line 137 = .ok (.iconst 2, 1) := by decide +kernel
theorem d_Mod_line_138 : decode b_Mod_line 138 = .ok (.aload_n 0, 1) := by decide +kernel
theorem d_Mod_line_139 : decode b_Mod_line 139 = .ok (.getfield 214, 3) := by decide +kernel
theorem d_Mod_line_142 : decode b_Mod_line 142 = .ok (.aload_n 0, 1) := by decide +kernel
theorem d_Mod_line_143 : decode b_Mod_line 143 = .ok (.getfield 214, 3) := by decide +kernel
theorem d_Mod_line_146 : decode b_Mod_line 146 = .ok (.invokevirtual 224, 3) := by decide +kernel
theorem d_Mod_line_149 : decode b_Mod_line 149 = .ok (.pop, 1) := by decide +kernel
theorem d_Mod_line_150 : decode b_Mod_line 150 = .ok (.iload_n 1, 1) := by decide +kernel
theorem d_Mod_line_151 : decode b_Mod_line 151 = .ok (.aload_n 0, 1) := by decide +kernel
theorem d_Mod_line_152 : decode b_Mod_line 152 = .ok (.getfield 195, 3) := by decide +kernel
theorem d_Mod_line_155 : decode b_Mod_line 155 = .ok (.aload_n 0, 1) := by decide +kernel
theorem d_Mod_line_156 : decode b_Mod_line 156 = .ok (.getfield 217, 3) := by decide +kernel
theorem d_Mod_line_159 : decode b_Mod_line 159 = .ok (.iaload, 1) := by decide +kernel
theorem d_Mod_line_160 : decode b_Mod_line 160 = .ok (.if_icmp .ge 30, 3) := by decide +kernel
theorem d_Mod_line_163 : decode b_Mod_line 163 = .ok (.aload_n 0, 1) := by decide +kernel
theorem d_Mod_line_164 : decode b_Mod_line 164 = .ok (.dup, 1) := by decide +kernel
theorem d_Mod_line_165 : decode b_Mod_line 165 = .ok (.getfield 217, 3) := by decide +kernel
theorem d_Mod_line_168 : decode b_Mod_line 168 = .ok (.iconst 1, 1) := by decide +kernel
theorem d_Mod_line_169 : decode b_Mod_line 169 = .ok (.isub, 1) := by decide +kernel
theorem d_Mod_line_170 : decode b_Mod_line 170 = .ok (.putfield 217, 3) := by decide +kernel
theorem d_Mod_line_173 : decode b_Mod_line 173 = .ok (.aload_n 0, 1) := by decide +kernel
theorem d_Mod_line_174 : decode b_Mod_line 174 = .ok (.iconst 3, 1) := by decide +kernel
theorem d_Mod_line_175 : decode b_Mod_line 175 = .ok (.aload_n 0, 1) := by decide +kernel
theorem d_Mod_line_176 : decode b_Mod_line 176 = .ok (.getfield 214, 3) := by decide +kernel
theorem d_Mod_line_179 : decode b_Mod_line 179 = .ok (.aload_n 0, 1) := by decide +kernel
theorem d_Mod_line_180 : decode b_Mod_line 180 = .ok (.getfield 214, 3) := by decide +kernel
theorem d_Mod_line_183 : decode b_Mod_line 183 = .ok (.invokevirtual 224, 3) := by decide +kernel
theorem d_Mod_line_186 : decode b_Mod_line 186 = .ok (.pop, 1) := by decide +kernel
theorem d_Mod_line_187 : decode b_Mod_line 187 = .ok (.goto (-37), 3) := by decide +kernel
theorem d_Mod_line_190 : decode b_Mod_line 190 = .ok (.iload_n 1, 1) := by decide +kernel
theorem d_Mod_line_191 : decode b_Mod_line 191 = .ok (.aload_n 0, 1) := by decide +kernel
theorem d_Mod_line_192 : decode b_Mod_line 192 = .ok (.getfield 195, 3) := by decide +kernel
theorem d_Mod_line_195 : decode b_Mod_line 195 = .ok (.aload_n 0, 1) := by decide +kernel
theorem d_Mod_line_196 : decode b_Mod_line 196 = .ok (.getfield 217, 3) := by decide +kernel
theorem d_Mod_line_199 : decode b_Mod_line 199 = .ok (.iaload, 1) := by decide +kernel
theorem d_Mod_line_200 : decode b_Mod_line 200 = .ok (.if_icmp .eq 12, 3) := by decide +kernel
theorem d_Mod_line_203 : decode b_Mod_line 203 = .ok (.aload_n 0, 1) := by decide +kernel
theorem d_Mod_line_204 : decode b_Mod_line 204 = .ok (.aload_n 0, 1) := by decide +kernel
theorem d_Mod_line_205 : decode b_Mod_line 205 = .ok (.getfield 214, 3) := by decide +kernel
theorem d_Mod_line_208 : decode b_Mod_line 208 = .ok (.invokevirtual 210, 3) := by decide +kernel
theorem d_Mod_line_211 : decode b_Mod_line 211 = .ok (.ireturn, 1) := by decide +kernel
theorem d_Mod_line_212 : decode b_Mod_line 212 = .ok (.aload_n 0, 1) := by decide +kernel
theorem d_Mod_line_213 : decode b_Mod_line 213 = .ok (.iconst 0, 1) := by decide +kernel
theorem d_Mod_line_214 : decode b_Mod_line 214 = .ok (.putfield 238, 3) := by decide +kernel
theorem d_Mod_line_217 : decode b_Mod_line 217 = .ok (.aload_n 0, 1) := by decide +kernel
theorem d_Mod_line_218 : decode b_Mod_line 218 = .ok (.invokevirtual 241, 3) := by decide +kernel
theorem d_Mod_line_221 : decode b_Mod_line 221 = .ok (.aload_n 0, 1) := by decide +kernel
theorem d_Mod_line_222 : decode b_Mod_line 222 = .ok (.getfield 214, 3) := by decide +kernel
theorem d_Mod_line_225 : decode b_Mod_line 225 = .ok (.aload_n 0, 1) := by decide +kernel
theorem d_Mod_line_226 : decode b_Mod_line 226 = .ok (.getfield 207, 3) := by decide +kernel
theorem d_Mod_line_229 : decode b_Mod_line 229 = .ok (.if_icmp .ge 16, 3) := by decide +kernel
theorem d_Mod_line_232 : decode b_Mod_line 232 = .ok (.aload_n 0, 1) := by decide +kernel
theorem d_Mod_line_233 : decode b_Mod_line 233 = .ok (.aload_n 0, 1) := by decide +kernel
theorem d_Mod_line_234 : decode b_Mod_line 234 = .ok (.getfield 214, 3) := by decide +kernel
theorem d_Mod_line_237 : decode b_Mod_line 237 = .ok (.invokevirtual 228, 3) := by decide +kernel
theorem d_Mod_line_240 : decode b_Mod_line 240 = .ok (.bipush 10, 2) := by decide +kernel
theorem d_Mod_line_242 : decode b_Mod_line 242 = .ok (.if_icmp .ne 29, 3) := by decide +kernel
theorem d_Mod_line_245 : decode b_Mod_line 245 = .ok (.aload_n 0, 1) := by decide +kernel
theorem d_Mod_line_246 : decode b_Mod_line 246 = .ok (.iconst 1, 1) := by decide +kernel
theorem d_Mod_line_247 : decode b_Mod_line 247 = .ok (.aload_n 0, 1) := by decide +kernel
theorem d_Mod_line_248 : decode b_Mod_line 248 = .ok (.getfield 214, 3) := by decide +kernel
theorem d_Mod_line_251 : decode b_Mod_line 251 = .ok (.aload_n 0, 1) := by decide +kernel
theorem d_Mod_line_252 : decode b_Mod_line 252 = .ok (.getfield 214, 3) := by decide +kernel
theorem d_Mod_line_255 : decode b_Mod_line 255 = .ok (.invokevirtual 224, 3) := by decide +kernel
theorem d_Mod_line_258 : decode b_Mod_line 258 = .ok (.pop, 1) := by decide +kernel
theorem d_Mod_line_259 : decode b_Mod_line 259 = .ok (.aload_n 0, 1) := by decide +kernel
theorem d_Mod_line_260 : decode b_Mod_line 260 = .ok (.dup, 1) := by decide +kernel
theorem d_Mod_line_261 : decode b_Mod_line 261 = .ok (.getfield 214, 3) := by decide +kernel
theorem d_Mod_line_264 : decode b_Mod_line 264 = .ok (.iconst 1, 1) := by decide +kernel
theorem d_Mod_line_265 : decode b_Mod_line 265 = .ok (.iadd, 1) := by decide +kernel
theorem d_Mod_line_266 : decode b_Mod_line 266 = .ok (.putfield 214, 3) := by decide +kernel
theorem d_Mod_line_269 : decode b_Mod_line 269 = .ok (.iconst 1, 1) := by decide +kernel
theorem d_Mod_line_270 : decode b_Mod_line 270 = .ok (.ireturn, 1) := by decide +kernel
theorem d_Mod_line_271 : decode b_Mod_line 271 = .ok (.aload_n 0, 1) := by decide +kernel
theorem d_Mod_line_272 : decode b_Mod_line 272 = .ok (.invokevirtual 244, 3) := by decide +kernel
theorem d_Mod_line_275 : decode b_Mod_line 275 = .ok (.ifCond .ne (-58), 3) := by decide +kernel
theorem d_Mod_line_278 : decode b_Mod_line 278 = .ok (.iconst 0, 1) := by decide +kernel
theorem d_Mod_line_279 : decode b_Mod_line 279 = .ok (.ireturn, 1) := by decide +kernel
theorem d_Mod_joined_0 : decode b_Mod_joined 0 = .ok (.aload_n 0, 1) := by decide +kernel
theorem d_Mod_joined_1 : decode b_Mod_joined 1 = .ok (.aload_n 0, 1) := by decide +kernel
theorem d_Mod_joined_2 : decode b_Mod_joined 2 = .ok (.getfield 214, 3) := by decide +kernel
theorem d_Mod_joined_5 : decode b_Mod_joined 5 = .ok (.invokevirtual 228, 3) := by decide +kernel
theorem d_Mod_joined_8 : decode b_Mod_joined 8 = .ok (.bipush 32, 2) := by decide +kernel
theorem d_Mod_joined_10 : decode b_Mod_joined 10 = .ok (.if_icmp .eq 31, 3) := by decide +kernel
theorem d_Mod_joined_13 : decode b_Mod_joined 13 = .ok (.aload_n 0, 1) := by decide +kernel
theorem d_Mod_joined_14 : decode b_Mod_joined 14 = .ok (.aload_n 0, 1) := by decide +kernel
theorem d_Mod_joined_15 : decode b_Mod_joined 15 = .ok (.getfield 214, 3) := by decide +kernel
theorem d_Mod_joined_18 : decode b_Mod_joined 18 = .ok (.invokevirtual 228, 3) := by decide +kernel
theorem d_Mod_joined_21 : decode b_Mod_joined 21 = .ok (.bipush 92, 2) := by decide +kernel
theorem d_Mod_joined_23 : decode b_Mod_joined 23 = .ok (.if_icmp .ne 48, 3) := by decide +kernel
theorem d_Mod_joined_26 : decode b_Mod_joined 26 = .ok (.aload_n 0, 1) := by decide +kernel
theorem d_Mod_joined_27 : decode b_Mod_joined 27 = .ok (.aload_n 0, 1) := by decide +kernel
theorem d_Mod_joined_28 : decode b_Mod_joined 28 = .ok (.getfield 214, 3) := by decide +kernel
theorem d_Mod_joined_31 : decode b_Mod_joined 31 = .ok (.iconst 1, 1) := by decide +kernel
theorem d_Mod_joined_32 : decode b_Mod_joined 32 = .ok (.iadd, 1) := by decide +kernel
theorem d_Mod_joined_33 : decode b_Mod_joined 33 = .ok (.invokevirtual 228, 3) := by decide +kernel
theorem d_Mod_joined_36 : decode b_Mod_joined 36 = .ok (.bipush 10, 2) := by decide +kernel
theorem d_Mod_joined_38 : decode b_Mod_joined 38 = .ok (.if_icmp .ne 33, 3) := by decide +kernel
theorem d_Mod_joined_41 : decode b_Mod_joined 41 = .ok (.aload_n 0, 1) := by decide +kernel
theorem d_Mod_joined_42 : decode b_Mod_joined 42 = .ok (.dup, 1) := by decide +kernel
theorem d_Mod_joined_43 : decode b_Mod_joined 43 = .ok (.getfield 214, 3) := by decide +kernel
theorem d_Mod_joined_46 : decode b_Mod_joined 46 = .ok (.aload_n 0, 1) := by decide +kernel
theorem d_Mod_joined_47 : decode b_Mod_joined 47 = .ok (.aload_n 0, 1) := by decide +kernel
theorem d_Mod_joined_48 : decode b_Mod_joined 48 = .ok (.getfield 214, 3) := by decide +kernel
theorem d_Mod_joined_51 : decode b_Mod_joined 51 = .ok (.invokevirtual 228, 3) := by decide +kernel
theorem d_Mod_joined_54 : decode b_Mod_joined 54 = .ok (.bipush 32, 2) := by decide +kernel
theorem d_Mod_joined_56 : decode b_Mod_joined 56 = .ok (.if_icmp .ne 7, 3) := by decide +kernel
theorem d_Mod_joined_59 : decode b_Mod_joined 59 = .ok (.iconst 1, 1) := by decide +kernel
theorem d_Mod_joined_60 : decode b_Mod_joined 60 = .ok (.goto 4, 3) := by decide +kernel
theorem d_Mod_joined_63 : decode b_Mod_joined 63 = .ok (.iconst 2, 1) := by decide +kernel
theorem d_Mod_joined_64 : decode b_Mod_joined 64 = .ok (.iadd, 1) := by decide +kernel
theorem d_Mod_joined_65 : decode b_Mod_joined 65 = .ok (.putfield 214, 3) := by decide +kernel
theorem d_Mod_joined_68 : decode b_Mod_joined 68 = .ok (.goto (-68), 3) := by decide +kernel
theorem d_Mod_joined_71 : decode b_Mod_joined 71 = .ok (.return_, 1) := by decide +kernel
theorem d_Mod_comment_0 : decode b_Mod_comment 0 = .ok (.aload_n 0, 1) := by decide +kernel
theorem d_Mod_comment_1 : decode b_Mod_comment 1 = .ok (.getfield 214, 3) := by decide +kernel
theorem d_Mod_comment_4 : decode b_Mod_comment 4 = .ok (.aload_n 0, 1) := by decide +kernel
theorem d_Mod_comment_5 : decode b_Mod_comment 5 = .ok (.getfield 207, 3) := by decide +kernel
theorem d_Mod_comment_8 : decode b_Mod_comment 8 = .ok (.if_icmp .ge 29, 3) := by decide +kernel
theorem d_Mod_comment_11 : decode b_Mod_comment 11 = .ok (.aload_n 0, 1) := by decide +kernel
theorem d_Mod_comment_12 : decode b_Mod_comment 12 = .ok (.aload_n 0, 1) := by decide +kernel
theorem d_Mod_comment_13 : decode b_Mod_comment 13 = .ok (.getfield 214, 3) := by decide +kernel
theorem d_Mod_comment_16 : decode b_Mod_comment 16 = .ok (.invokevirtual 228, 3) := by decide +kernel
theorem d_Mod_comment_19 : decode b_Mod_comment 19 = .ok (.bipush 10, 2) := by decide +kernel
theorem d_Mod_comment_21 : decode b_Mod_comment 21 = .ok (.if_icmp .eq 16, 3) := by decide +kernel
theorem d_Mod_comment_24 : decode b_Mod_comment 24 = .ok (.aload_n 0, 1) := by decide +kernel
theorem d_Mod_comment_25 : decode b_Mod_comment 25 = .ok (.dup, 1) := by decide +kernel
theorem d_Mod_comment_26 : decode b_Mod_comment 26 = .ok (.getfield 214, 3) := by decide +kernel
theorem d_Mod_comment_29 : decode b_Mod_comment 29 = .ok (.iconst 1, 1) := by decide +kernel
theorem d_Mod_comment_30 : decode b_Mod_comment 30 = .ok (.iadd, 1) := by decide +kernel
theorem d_Mod_comment_31 : decode b_Mod_comment 31 = .ok (.putfield 214, 3) := by decide +kernel
theorem d_Mod_comment_34 : decode b_Mod_comment 34 = .ok (.goto (-34), 3) := by decide +kernel
theorem d_Mod_comment_37 : decode b_Mod_comment 37 = .ok (.return_, 1) := by decide +kernel
theorem d_Mod_between_0 : decode b_Mod_between 0 = .ok (.aload_n 0, 1) := by decide +kernel
theorem d_Mod_between_1 : decode b_Mod_between 1 = .ok (.getfield 214, 3) := by decide +kernel
theorem d_Mod_between_4 : decode b_Mod_between 4 = .ok (.istore_n 1, 1) := by decide +kernel
theorem d_Mod_between_5 : decode b_Mod_between 5 = .ok (.aload_n 0, 1) := by decide +kernel
theorem d_Mod_between_6 : decode b_Mod_between 6 = .ok (.invokevirtual 232, 3) := by decide +kernel
theorem d_Mod_between_9 : decode b_Mod_between 9 = .ok (.aload_n 0, 1) := by decide +kernel
theorem d_Mod_between_10 : decode b_Mod_between 10 = .ok (.aload_n 0, 1) := by decide +kernel
theorem d_Mod_between_11 : decode b_Mod_between 11 = .ok (.getfield 214, 3) := by decide +kernel
theorem d_Mod_between_14 : decode b_Mod_between 14 = .ok (.invokevirtual 228, 3) := by decide +kernel
theorem d_Mod_between_17 : decode b_Mod_between 17 = .ok (.bipush 35, 2) := by decide +kernel
theorem d_Mod_between_19 : decode b_Mod_between 19 = .ok (.if_icmp .ne 7, 3) := by decide +kernel
theorem d_Mod_between_22 : decode b_Mod_between 22 = .ok (.aload_n 0, 1) := by decide +kernel
theorem d_Mod_between_23 : decode b_Mod_between 23 = .ok (.invokevirtual 235, 3) := by decide +kernel
theorem d_Mod_between_26 : decode b_Mod_between 26 = .ok (.aload_n 0, 1) := by decide +kernel
theorem d_Mod_between_27 : decode b_Mod_between 27 = .ok (.aload_n 0, 1) := by decide +kernel
theorem d_Mod_between_28 : decode b_Mod_between 28 = .ok (.getfield 214, 3) := by decide +kernel
theorem d_Mod_between_31 : decode b_Mod_between 31 = .ok (.invokevirtual 228, 3) := by decide +kernel
theorem d_Mod_between_34 : decode b_Mod_between 34 = .ok (.bipush 10, 2) := by decide +kernel
theorem d_Mod_between_36 : decode b_Mod_between 36 = .ok (.if_icmp .ne 20, 3) := by decide +kernel
theorem d_Mod_between_39 : decode b_Mod_between 39 = .ok (.aload_n 0, 1) := by decide +kernel
theorem d_Mod_between_40 : decode b_Mod_between 40 = .ok (.getfield 238, 3) := by decide +kernel
theorem d_Mod_between_43 : decode b_Mod_between 43 = .ok (.ifCond .le 13, 3) := by decide +kernel
theorem d_Mod_between_46 : decode b_Mod_between 46 = .ok (.aload_n 0, 1) := by decide +kernel
theorem d_Mod_between_47 : decode b_Mod_between 47 = .ok (.dup, 1) := by decide +kernel
theorem d_Mod_between_48 : decode b_Mod_between 48 = .ok (.getfield 214, 3) := by decide +kernel
theorem d_Mod_between_51 : decode b_Mod_between 51 = .ok (.iconst 1, 1) := by decide +kernel
theorem d_Mod_between_52 : decode b_Mod_between 52 = .ok (.iadd, 1) := by decide +kernel
theorem d_Mod_between_53 : decode b_Mod_between 53 = .ok (.putfield 214, 3) := by decide +kernel
theorem d_Mod_between_56 : decode b_Mod_between 56 = .ok (.aload_n 0, 1) := by decide +kernel
theorem d_Mod_between_57 : decode b_Mod_between 57 = .ok (.getfield 214, 3) := by decide +kernel
theorem d_Mod_between_60 : decode b_Mod_between 60 = .ok (.iload_n 1, 1) := by decide +kernel
theorem d_Mod_between_61 : decode b_Mod_between 61 = .ok (.if_icmp .ne 4, 3) := by decide +kernel
theorem d_Mod_between_64 : decode b_Mod_between 64 = .ok (.return_, 1) := by decide +kernel
theorem d_Mod_between_65 : decode b_Mod_between 65 = .ok (.goto (-65), 3) := by decide +kernel
theorem d_Mod_isDigit_0 : decode b_Mod_isDigit 0 = .ok (.iload_n 0, 1) := by decide +kernel
theorem d_Mod_isDigit_1 : decode b_Mod_isDigit 1 = .ok (.bipush 48, 2) := by decide +kernel
theorem d_Mod_isDigit_3 : decode b_Mod_isDigit 3 = .ok (.if_icmp .lt 13, 3) := by decide +kernel
theorem d_Mod_isDigit_6 : decode b_Mod_isDigit 6 = .ok (.iload_n 0, 1) := by decide +kernel
theorem d_Mod_isDigit_7 : decode b_Mod_isDigit 7 = .ok (.bipush 57, 2) := by decide +kernel
theorem d_Mod_isDigit_9 : decode b_Mod_isDigit 9 = .ok (.if_icmp .gt 7, 3) := by decide +kernel
theorem d_Mod_isDigit_12 : decode b_Mod_isDigit 12 = .ok (.iconst 1, 1) := by decide +kernel
theorem d_Mod_isDigit_13 : decode b_Mod_isDigit 13 = .ok (.goto 4, 3) := by decide +kernel
theorem d_Mod_isDigit_16 : decode b_Mod_isDigit 16 = .ok (.iconst 0, 1) := by decide +kernel
theorem d_Mod_isDigit_17 : decode b_Mod_isDigit 17 = .ok (.ireturn, 1) := by decide +kernel
theorem d_Mod_isLetter_0 : decode b_Mod_isLetter 0 = .ok (.iload_n 0, 1) := by decide +kernel
theorem d_Mod_isLetter_1 : decode b_Mod_isLetter 1 = .ok (.bipush 97, 2) := by decide +kernel
theorem d_Mod_isLetter_3 : decode b_Mod_isLetter 3 = .ok (.if_icmp .lt 9, 3) := by decide +kernel
theorem d_Mod_isLetter_6 : decode b_Mod_isLetter 6 = .ok (.iload_n 0, 1) := by decide +kernel
theorem d_Mod_isLetter_7 : decode b_Mod_isLetter 7 = .ok (.bipush 122, 2) := by decide +kernel
theorem d_Mod_isLetter_9 : decode b_Mod_isLetter 9 = .ok (.if_icmp .le 21, 3) := by decide +kernel
theorem d_Mod_isLetter_12 : decode b_Mod_isLetter 12 = .ok (.iload_n 0, 1) := by decide +kernel
theorem d_Mod_isLetter_13 : decode b_Mod_isLetter 13 = .ok (.bipush 65, 2) := by decide +kernel
theorem d_Mod_isLetter_15 : decode b_Mod_isLetter 15 = .ok (.if_icmp .lt 9, 3) := by decide +kernel
theorem d_Mod_isLetter_18 : decode b_Mod_isLetter 18 = .ok (.iload_n 0, 1) := by decide +kernel
theorem d_Mod_isLetter_19 : decode b_Mod_isLetter 19 = .ok (.bipush 90, 2) := by decide +kernel
theorem d_Mod_isLetter_21 : decode b_Mod_isLetter 21 = .ok (.if_icmp .le 9, 3) := by decide +kernel
theorem d_Mod_isLetter_24 : decode b_Mod_isLetter 24 = .ok (.iload_n 0, 1) := by decide +kernel
theorem d_Mod_isLetter_25 : decode b_Mod_isLetter 25 = .ok (.bipush 95, 2) := by decide +kernel
theorem d_Mod_isLetter_27 : decode b_Mod_isLetter 27 = .ok (.if_icmp .ne 7, 3) := by decide +kernel
theorem d_Mod_isLetter_30 : decode b_Mod_isLetter 30 = .ok (.iconst 1, 1) := by decide +kernel
theorem d_Mod_isLetter_31 : decode b_Mod_isLetter 31 = .ok (.goto 4, 3) := by decide +kernel
theorem d_Mod_isLetter_34 : decode b_Mod_isLetter 34 = .ok (.iconst 0, 1) := by decide +kernel
theorem d_Mod_isLetter_35 : decode b_Mod_isLetter 35 = .ok (.ireturn, 1) := by decide +kernel
theorem d_Mod_value_0 : decode b_Mod_value 0 = .ok (.iload_n 0, 1) := by decide +kernel
theorem d_Mod_value_1 : decode b_Mod_value 1 = .ok (.invokestatic 247, 3) := by decide +kernel
theorem d_Mod_value_4 : decode b_Mod_value 4 = .ok (.ifCond .eq 10, 3) := by decide +kernel
theorem d_Mod_value_7 : decode b_Mod_value 7 = .ok (.iload_n 0, 1) := by decide +kernel
theorem d_Mod_value_8 : decode b_Mod_value 8 = .ok (.bipush 48, 2) := by decide +kernel
theorem d_Mod_value_10 : decode b_Mod_value 10 = .ok (.isub, 1) := by decide +kernel
theorem d_Mod_value_11 : decode b_Mod_value 11 = .ok (.goto 49, 3) := by decide +kernel
theorem d_Mod_value_14 : decode b_Mod_value 14 = .ok (.iload_n 0, 1) := by decide +kernel
theorem d_Mod_value_15 : decode b_Mod_value 15 = .ok (.bipush 97, 2) := by decide +kernel
theorem d_Mod_value_17 : decode b_Mod_value 17 = .ok (.if_icmp .lt 19, 3) := by decide +kernel
theorem d_Mod_value_20 : decode b_Mod_value 20 = .ok (.iload_n 0, 1) := by decide +kernel
theorem d_Mod_value_21 : decode b_Mod_value 21 = .ok (.bipush 102, 2) := by decide +kernel
theorem d_Mod_value_23 : decode b_Mod_value 23 = .ok (.if_icmp .gt 13, 3) := by decide +kernel
theorem d_Mod_value_26 : decode b_Mod_value 26 = .ok (.iload_n 0, 1) := by decide +kernel
theorem d_Mod_value_27 : decode b_Mod_value 27 = .ok (.bipush 97, 2) := by decide +kernel
theorem d_Mod_value_29 : decode b_Mod_value 29 = .ok (.isub, 1) := by decide +kernel
theorem d_Mod_value_30 : decode b_Mod_value 30 = .ok (.bipush 10, 2) := by decide +kernel
theorem d_Mod_value_32 : decode b_Mod_value 32 = .ok (.iadd, 1) := by decide +kernel
theorem d_Mod_value_33 : decode b_Mod_value 33 = .ok (.goto 27, 3) := by decide +kernel
theorem d_Mod_value_36 : decode b_Mod_value 36 = .ok (.iload_n 0, 1) := by decide +kernel
theorem d_Mod_value_37 : decode b_Mod_value 37 = .ok (.bipush 65, 2) := by decide +kernel
theorem d_Mod_value_39 : decode b_Mod_value 39 = .ok (.if_icmp .lt 19, 3) := by decide +kernel
theorem d_Mod_value_42 : decode b_Mod_value 42 = .ok (.iload_n 0, 1) := by decide +kernel
theorem d_Mod_value_43 : decode b_Mod_value 43 = .ok (.bipush 70, 2) := by decide +kernel
theorem d_Mod_value_45 : decode b_Mod_value 45 = .ok (.if_icmp .gt 13, 3) := by decide +kernel
theorem d_Mod_value_48 : decode b_Mod_value 48 = .ok (.iload_n 0, 1) := by decide +kernel
theorem d_Mod_value_49 : decode b_Mod_value 49 = .ok (.bipush 65, 2) := by decide +kernel
theorem d_Mod_value_51 : decode b_Mod_value 51 = .ok (.isub, 1) := by decide +kernel
theorem d_Mod_value_52 : decode b_Mod_value 52 = .ok (.bipush 10, 2) := by decide +kernel
theorem d_Mod_value_54 : decode b_Mod_value 54 = .ok (.iadd, 1) := by decide +kernel
theorem d_Mod_value_55 : decode b_Mod_value 55 = .ok (.goto 5, 3) := by decide +kernel
theorem d_Mod_value_58 : decode b_Mod_value 58 = .ok (.bipush 99, 2) := by decide +kernel
theorem d_Mod_value_60 : decode b_Mod_value 60 = .ok (.ireturn, 1) := by decide +kernel
theorem d_Mod_token_0 : decode b_Mod_token 0 = .ok (.aload_n 0, 1) := by decide +kernel
theorem d_Mod_token_1 : decode b_Mod_token 1 = .ok (.aload_n 0, 1) := by decide +kernel
theorem d_Mod_token_2 : decode b_Mod_token 2 = .ok (.getfield 214, 3) := by decide +kernel
theorem d_Mod_token_5 : decode b_Mod_token 5 = .ok (.invokevirtual 228, 3) := by decide +kernel
theorem d_Mod_token_8 : decode b_Mod_token 8 = .ok (.istore_n 1, 1) := by decide +kernel
theorem d_Mod_token_9 : decode b_Mod_token 9 = .ok (.aload_n 0, 1) := by decide +kernel
theorem d_Mod_token_10 : decode b_Mod_token 10 = .ok (.getfield 214, 3) := by decide +kernel
theorem d_Mod_token_13 : decode b_Mod_token 13 = .ok (.istore_n 2, 1) := by decide +kernel
theorem d_Mod_token_14 : decode b_Mod_token 14 = .ok (.aload_n 0, 1) := by decide +kernel
theorem d_Mod_token_15 : decode b_Mod_token 15 = .ok (.getfield 214, 3) := by decide +kernel
theorem d_Mod_token_18 : decode b_Mod_token 18 = .ok (.istore_n 3, 1) := by decide +kernel
theorem d_Mod_token_19 : decode b_Mod_token 19 = .ok (.iload_n 1, 1) := by decide +kernel
theorem d_Mod_token_20 : decode b_Mod_token 20 = .ok (.invokestatic 247, 3) := by decide +kernel
theorem d_Mod_token_23 : decode b_Mod_token 23 = .ok (.ifCond .ne 25, 3) := by decide +kernel
theorem d_Mod_token_26 : decode b_Mod_token 26 = .ok (.iload_n 1, 1) := by decide +kernel
theorem d_Mod_token_27 : decode b_Mod_token 27 = .ok (.bipush 46, 2) := by decide +kernel
theorem d_Mod_token_29 : decode b_Mod_token 29 = .ok (.if_icmp .ne 24, 3) := by decide +kernel
theorem d_Mod_token_32 : decode b_Mod_token 32 = .ok (.aload_n 0, 1) := by decide +kernel
theorem d_Mod_token_33 : decode b_Mod_token 33 = .ok (.aload_n 0, 1) := by decide +kernel
theorem d_Mod_token_34 : decode b_Mod_token 34 = .ok (.getfield 214, 3) := by decide +kernel
theorem d_Mod_token_37 : decode b_Mod_token 37 = .ok (.iconst 1, 1) := by decide +kernel
theorem d_Mod_token_38 : decode b_Mod_token 38 = .ok (.iadd, 1) := by decide +kernel
theorem d_Mod_token_39 : decode b_Mod_token 39 = .ok (.invokevirtual 228, 3) := by decide +kernel
theorem d_Mod_token_42 : decode b_Mod_token 42 = .ok (.invokestatic 247, 3) := by decide +kernel
theorem d_Mod_token_45 : decode b_Mod_token 45 = .ok (.ifCond .eq 8, 3) := by decide +kernel
theorem d_Mod_token_48 : decode b_Mod_token 48 = .ok (.aload_n 0, 1) := by decide +kernel
theorem d_Mod_token_49 : decode b_Mod_token 49 = .ok (.invokevirtual 250, 3) := by decide +kernel
theorem d_Mod_token_52 : decode b_Mod_token 52 = .ok (.ireturn, 1) := by decide +kernel
theorem d_Mod_token_53 : decode b_Mod_token 53 = .ok (.iload_n 1, 1) := by decide +kernel
theorem d_Mod_token_54 : decode b_Mod_token 54 = .ok (.bipush 114, 2) := by decide +kernel
theorem d_Mod_token_56 : decode b_Mod_token 56 = .ok (.if_icmp .ne 15, 3) := by decide +kernel
theorem d_Mod_token_59 : decode b_Mod_token 59 = .ok (.aload_n 0, 1) := by decide +kernel
theorem d_Mod_token_60 : decode b_Mod_token 60 = .ok (.iload_n 3, 1) := by decide +kernel
theorem d_Mod_token_61 : decode b_Mod_token 61 = .ok (.iconst 1, 1) := by decide +kernel
theorem d_Mod_token_62 : decode b_Mod_token 62 = .ok (.iadd, 1) := by decide +kernel
theorem d_Mod_token_63 : decode b_Mod_token 63 = .ok (.invokevirtual 228, 3) := by decide +kernel
theorem d_Mod_token_66 : decode b_Mod_token 66 = .ok (.bipush 102, 2) := by decide +kernel
theorem d_Mod_token_68 : decode b_Mod_token 68 = .ok (.if_icmp .eq 21, 3) := by decide +kernel
theorem d_Mod_token_71 : decode b_Mod_token 71 = .ok (.iload_n 1, 1) := by decide +kernel
theorem d_Mod_token_72 : decode b_Mod_token 72 = .ok (.bipush 102, 2) := by decide +kernel
theorem d_Mod_token_74 : decode b_Mod_token 74 = .ok (.if_icmp .ne 21, 3) := by decide +kernel
theorem d_Mod_token_77 : decode b_Mod_token 77 = .ok (.aload_n 0, 1) := by decide +kernel
theorem d_Mod_token_78 : decode b_Mod_token 78 = .ok (.iload_n 3, 1) := by decide +kernel
theorem d_Mod_token_79 : decode b_Mod_token 79 = .ok (.iconst 1, 1) := by decide +kernel
theorem d_Mod_token_80 : decode b_Mod_token 80 = .ok (.iadd, 1) := by decide +kernel
theorem d_Mod_token_81 : decode b_Mod_token 81 = .ok (.invokevirtual 228, 3) := by decide +kernel
theorem d_Mod_token_84 : decode b_Mod_token 84 = .ok (.bipush 114, 2) := by decide +kernel
theorem d_Mod_token_86 : decode b_Mod_token 86 = .ok (.if_icmp .ne 9, 3) := by decide +kernel
theorem d_Mod_token_89 : decode b_Mod_token 89 = .ok (.iinc 3 2, 3) := by decide +kernel
theorem d_Mod_token_92 : decode b_Mod_token 92 = .ok (.goto 18, 3) := by decide +kernel
theorem d_Mod_token_95 : decode b_Mod_token 95 = .ok (.iload_n 1, 1) := by decide +kernel
theorem d_Mod_token_96 : decode b_Mod_token 96 = .ok (.bipush 114, 2) := by decide +kernel
theorem d_Mod_token_98 : decode b_Mod_token 98 = .ok (.if_icmp .eq 9, 3) := by decide +kernel
theorem d_Mod_token_101 : decode b_Mod_token 101 = .ok (.iload_n 1, 1) := by decide +kernel
theorem d_Mod_token_102 : decode b_Mod_token 102 = .ok (.bipush 102, 2) := by decide +kernel
theorem d_Mod_token_104 : decode b_Mod_token 104 = .ok (.if_icmp .ne 6, 3) := by decide +kernel
theorem d_Mod_token_107 : decode b_Mod_token 107 = .ok (.iinc 3 1, 3) := by decide +kernel
theorem d_Mod_token_110 : decode b_Mod_token 110 = .ok (.aload_n 0, 1) := by decide +kernel
theorem d_Mod_token_111 : decode b_Mod_token 111 = .ok (.iload_n 3, 1) := by decide +kernel
theorem d_Mod_token_112 : decode b_Mod_token 112 = .ok (.invokevirtual 228, 3) := by decide +kernel
theorem d_Mod_token_115 : decode b_Mod_token 115 = .ok (.bipush 39, 2) := by decide +kernel
theorem d_Mod_token_117 : decode b_Mod_token 117 = .ok (.if_icmp .eq 13, 3) := by decide +kernel
theorem d_Mod_token_120 : decode b_Mod_token 120 = .ok (.aload_n 0, 1) := by decide +kernel
theorem d_Mod_token_121 : decode b_Mod_token 121 = .ok (.iload_n 3, 1) := by decide +kernel
theorem d_Mod_token_122 : decode b_Mod_token 122 = .ok (.invokevirtual 228, 3) := by decide +kernel
theorem d_Mod_token_125 : decode b_Mod_token 125 = .ok (.bipush 34, 2) := by decide +kernel
theorem d_Mod_token_127 : decode b_Mod_token 127 = .ok (.if_icmp .ne 9, 3) := by decide +kernel
theorem d_Mod_token_130 : decode b_Mod_token 130 = .ok (.aload_n 0, 1) := by decide +kernel
theorem d_Mod_token_131 : decode b_Mod_token 131 = .ok (.iload_n 3, 1) := by decide +kernel
theorem d_Mod_token_132 : decode b_Mod_token 132 = .ok (.invokevirtual 253, 3) := by decide +kernel
theorem d_Mod_token_135 : decode b_Mod_token 135 = .ok (.ireturn, 1) := by decide +kernel
theorem d_Mod_token_136 : decode b_Mod_token 136 = .ok (.iload_n 1, 1) := by decide +kernel
theorem d_Mod_token_137 : decode b_Mod_token 137 = .ok (.invokestatic 256, 3) := by decide +kernel
theorem d_Mod_token_140 : decode b_Mod_token 140 = .ok (.ifCond .eq 116, 3) := by decide +kernel
theorem d_Mod_token_143 : decode b_Mod_token 143 = .ok (.aload_n 0, 1) := by decide +kernel
theorem d_Mod_token_144 : decode b_Mod_token 144 = .ok (.aload_n 0, 1) := by decide +kernel
theorem d_Mod_token_145 : decode b_Mod_token 145 = .ok (.getfield 214, 3) := by decide +kernel
theorem d_Mod_token_148 : decode b_Mod_token 148 = .ok (.invokevirtual 228, 3) := by decide +kernel
theorem d_Mod_token_151 : decode b_Mod_token 151 = .ok (.invokestatic 256, 3) := by decide +kernel
theorem d_Mod_token_154 : decode b_Mod_token 154 = .ok (.ifCond .ne 17, 3) := by decide +kernel
theorem d_Mod_token_157 : decode b_Mod_token 157 = .ok (.aload_n 0, 1) := by decide +kernel
theorem d_Mod_token_158 : decode b_Mod_token 158 = .ok (.aload_n 0, 1) := by decide +kernel
theorem d_Mod_token_159 : decode b_Mod_token 159 = .ok (.getfield 214, 3) := by decide +kernel
theorem d_Mod_token_162 : decode b_Mod_token 162 = .ok (.invokevirtual 228, 3) := by decide +kernel
theorem d_Mod_token_165 : decode b_Mod_token 165 = .ok (.invokestatic 247, 3) := by decide +kernel
theorem d_Mod_token_168 : decode b_Mod_token 168 = .ok (.ifCond .eq 16, 3) := by decide +kernel
theorem d_Mod_token_171 : decode b_Mod_token 171 = .ok (.aload_n 0, 1) := by decide +kernel
theorem d_Mod_token_172 : decode b_Mod_token 172 = .ok (.dup, 1) := by decide +kernel
theorem d_Mod_token_173 : decode b_Mod_token 173 = .ok (.getfield 214, 3) := by decide +kernel
theorem d_Mod_token_176 : decode b_Mod_token 176 = .ok (.iconst 1, 1) := by decide +kernel
theorem d_Mod_token_177 : decode b_Mod_token 177 = .ok (.iadd, 1) := by decide +kernel
theorem d_Mod_token_178 : decode b_Mod_token 178 = .ok (.putfield 214, 3) := by decide +kernel
theorem d_Mod_token_181 : decode b_Mod_token 181 = .ok (.goto (-38), 3) := by decide +kernel
theorem d_Mod_token_184 : decode b_Mod_token 184 = .ok (.iconst 4, 1) := by decide +kernel
theorem d_Mod_token_185 : decode b_Mod_token 185 = .ok (.istore 4, 2) := by decide +kernel
theorem d_Mod_token_187 : decode b_Mod_token 187 = .ok (.iconst 0, 1) := by decide +kernel
theorem d_Mod_token_188 : decode b_Mod_token 188 = .ok (.istore 5, 2) := by decide +kernel
theorem d_Mod_token_190 : decode b_Mod_token 190 = .ok (.iload 5, 2) := by decide +kernel
theorem d_Mod_token_192 : decode b_Mod_token 192 = .ok (.bipush 35, 2) := by decide +kernel
theorem d_Mod_token_194 : decode b_Mod_token 194 = .ok (.if_icmp .ge 50, 3) := by decide +kernel
theorem d_Mod_token_197 : decode b_Mod_token 197 = .ok (.aload_n 0, 1) := by decide +kernel
theorem d_Mod_token_198 : decode b_Mod_token 198 = .ok (.getfield 214, 3) := by decide +kernel
theorem d_Mod_token_201 : decode b_Mod_token 201 = .ok (.iload_n 2, 1) := by decide +kernel
theorem d_Mod_token_202 : decode b_Mod_token 202 = .ok (.isub, 1) := by decide +kernel
theorem d_Mod_token_203 : decode b_Mod_token 203 = .ok (.aload_n 0, 1) := by decide +kernel
theorem d_Mod_token_204 : decode b_Mod_token 204 = .ok (.getfield 79, 3) := by decide +kernel
theorem d_Mod_token_207 : decode b_Mod_token 207 = .ok (.iload 5, 2) := by decide +kernel
theorem d_Mod_token_209 : decode b_Mod_token 209 = .ok (.aaload, 1) := by decide +kernel
theorem d_Mod_token_210 : decode b_Mod_token 210 = .ok (.invokevirtual 259, 3) := by decide +kernel
theorem d_Mod_token_213 : decode b_Mod_token 213 = .ok (.if_icmp .ne 25, 3) := by decide +kernel
theorem d_Mod_token_216 : decode b_Mod_token 216 = .ok (.aload_n 0, 1) := by decide +kernel
theorem d_Mod_token_217 : decode b_Mod_token 217 = .ok (.iload_n 2, 1) := by decide +kernel
theorem d_Mod_token_218 : decode b_Mod_token 218 = .ok (.aload_n 0, 1) := by decide +kernel
theorem d_Mod_token_219 : decode b_Mod_token 219 = .ok (.getfield 79, 3) := by decide +kernel
theorem d_Mod_token_222 : decode b_Mod_token 222 = .ok (.iload 5, 2) := by decide +kernel
theorem d_Mod_token_224 : decode b_Mod_token 224 = .ok (.aaload, 1) := by decide +kernel
theorem d_Mod_token_225 : decode b_Mod_token 225 = .ok (.invokevirtual 263, 3) := by decide +kernel
theorem d_Mod_token_228 : decode b_Mod_token 228 = .ok (.ifCond .eq 10, 3) := by decide +kernel
theorem d_Mod_token_231 : decode b_Mod_token 231 = .ok (.bipush 8, 2) := by decide +kernel
theorem d_Mod_token_233 : decode b_Mod_token 233 = .ok (.iload 5, 2) := by decide +kernel
theorem d_Mod_token_235 : decode b_Mod_token 235 = .ok (.iadd, 1) := by decide +kernel
theorem d_Mod_token_236 : decode b_Mod_token 236 = .ok (.istore 4, 2) := by decide +kernel
theorem d_Mod_token_238 : decode b_Mod_token 238 = .ok (.iinc 5 1, 3) := by decide +kernel
theorem d_Mod_token_241 : decode b_Mod_token 241 = .ok (.goto (-51), 3) := by decide +kernel
theorem d_Mod_token_244 : decode b_Mod_token 244 = .ok (.aload_n 0, 1) := by decide +kernel
theorem d_Mod_token_245 : decode b_Mod_token 245 = .ok (.iload 4, 2) := by decide +kernel
theorem d_Mod_token_247 : decode b_Mod_token 247 = .ok (.iload_n 2, 1) := by decide +kernel
theorem d_Mod_token_248 : decode b_Mod_token 248 = .ok (.aload_n 0, 1) := by decide +kernel
theorem d_Mod_token_249 : decode b_Mod_token 249 = .ok (.getfield 214, 3) := by decide +kernel
theorem d_Mod_token_252 : decode b_Mod_token 252 = .ok (.invokevirtual 224, 3) := by decide +kernel
theorem d_Mod_token_255 : decode b_Mod_token 255 = .ok (.ireturn, 1) := by decide +kernel
theorem d_Mod_token_256 : decode b_Mod_token 256 = .ok (.iconst (-1), 1) := by decide +kernel
theorem d_Mod_token_257 : decode b_Mod_token 257 = .ok (.istore 4, 2) := by decide +kernel
theorem d_Mod_token_259 : decode b_Mod_token 259 = .ok (.iconst 0, 1) := by decide +kernel
theorem d_Mod_token_260 : decode b_Mod_token 260 = .ok (.istore 5, 2) := by decide +kernel
theorem d_Mod_token_262 : decode b_Mod_token 262 = .ok (.iload 5, 2) := by decide +kernel
theorem d_Mod_token_264 : decode b_Mod_token 264 = .ok (.bipush 44, 2) := by decide +kernel
theorem d_Mod_token_266 : decode b_Mod_token 266 = .ok (.if_icmp .ge 56, 3) := by decide +kernel
theorem d_Mod_token_269 : decode b_Mod_token 269 = .ok (.aload_n 0, 1) := by decide +kernel
theorem d_Mod_token_270 : decode b_Mod_token 270 = .ok (.iload_n 2, 1) := by decide +kernel
theorem d_Mod_token_271 : decode b_Mod_token 271 = .ok (.aload_n 0, 1) := by decide +kernel
theorem d_Mod_token_272 : decode b_Mod_token 272 = .ok (.getfield 173, 3) := by decide +kernel
theorem d_Mod_token_275 : decode b_Mod_token 275 = .ok (.iload 5, 2) := by decide +kernel
theorem d_Mod_token_277 : decode b_Mod_token 277 = .ok (.aaload, 1) := by decide +kernel
theorem d_Mod_token_278 : decode b_Mod_token 278 = .ok (.invokevirtual 263, 3) := by decide +kernel
theorem d_Mod_token_281 : decode b_Mod_token 281 = .ok (.ifCond .eq 35, 3) := by decide +kernel
theorem d_Mod_token_284 : decode b_Mod_token 284 = .ok (.iload 4, 2) := by decide +kernel
theorem d_Mod_token_286 : decode b_Mod_token 286 = .ok (.ifCond .lt 26, 3) := by decide +kernel
theorem d_Mod_token_289 : decode b_Mod_token 289 = .ok (.aload_n 0, 1) := by decide +kernel
theorem d_Mod_token_290 : decode b_Mod_token 290 = .ok (.getfield 173, 3) := by decide +kernel
theorem d_Mod_token_293 : decode b_Mod_token 293 = .ok (.iload 5, 2) := by decide +kernel
theorem d_Mod_token_295 : decode b_Mod_token 295 = .ok (.aaload, 1) := by decide +kernel
theorem d_Mod_token_296 : decode b_Mod_token 296 = .ok (.invokevirtual 259, 3) := by decide +kernel
theorem d_Mod_token_299 : decode b_Mod_token 299 = .ok (.aload_n 0, 1) := by decide +kernel
theorem d_Mod_token_300 : decode b_Mod_token 300 = .ok (.getfield 173, 3) := by decide +kernel
theorem d_Mod_token_303 : decode b_Mod_token 303 = .ok (.iload 4, 2) := by decide +kernel
theorem d_Mod_token_305 : decode b_Mod_token 305 = .ok (.aaload, 1) := by decide +kernel
theorem d_Mod_token_306 : decode b_Mod_token 306 = .ok (.invokevirtual 259, 3) := by decide +kernel
theorem d_Mod_token_309 : decode b_Mod_token 309 = .ok (.if_icmp .le 7, 3) := by decide +kernel
theorem d_Mod_token_312 : decode b_Mod_token 312 = .ok (.iload 5, 2) := by decide +kernel
theorem d_Mod_token_314 : decode b_Mod_token 314 = .ok (.istore 4, 2) := by decide +kernel
theorem d_Mod_token_316 : decode b_Mod_token 316 = .ok (.iinc 5 1, 3) := by decide +kernel
theorem d_Mod_token_319 : decode b_Mod_token 319 = .ok (.goto (-57), 3) := by decide +kernel
theorem d_Mod_token_322 : decode b_Mod_token 322 = .ok (.iload 4, 2) := by decide +kernel
theorem d_Mod_token_324 : decode b_Mod_token 324 = .ok (.ifCond .ge 9, 3) := by decide +kernel
theorem d_Mod_token_327 : decode b_Mod_token 327 = .ok (.aload_n 0, 1) := by decide +kernel
theorem d_Mod_token_328 : decode b_Mod_token 328 = .ok (.iload_n 2, 1) := by decide +kernel
theorem d_Mod_token_329 : decode b_Mod_token 329 = .ok (.invokevirtual 210, 3) := by decide +kernel
theorem d_Mod_token_332 : decode b_Mod_token 332 = .ok (.ireturn, 1) := by decide +kernel
theorem d_Mod_token_333 : decode b_Mod_token 333 = .ok (.iload_n 1, 1) := by decide +kernel
theorem d_Mod_token_334 : decode b_Mod_token 334 = .ok (.bipush 40, 2) := by decide +kernel
theorem d_Mod_token_336 : decode b_Mod_token 336 = .ok (.if_icmp .eq 15, 3) := by decide +kernel
theorem d_Mod_token_339 : decode b_Mod_token 339 = .ok (.iload_n 1, 1) := by decide +kernel
theorem d_Mod_token_340 : decode b_Mod_token 340 = .ok (.bipush 91, 2) := by decide +kernel
theorem d_Mod_token_342 : decode b_Mod_token 342 = .ok (.if_icmp .eq 9, 3) := by decide +kernel
theorem d_Mod_token_345 : decode b_Mod_token 345 = .ok (.iload_n 1, 1) := by decide +kernel
theorem d_Mod_token_346 : decode b_Mod_token 346 = .ok (.bipush 123, 2) := by decide +kernel
theorem d_Mod_token_348 : decode b_Mod_token 348 = .ok (.if_icmp .ne 13, 3) := by decide +kernel
theorem d_Mod_token_351 : decode b_Mod_token 351 = .ok (.aload_n 0, 1) := by decide +kernel
theorem d_Mod_token_352 : decode b_Mod_token 352 = .ok (.dup, 1) := by decide +kernel
theorem d_Mod_token_353 : decode b_Mod_token 353 = .ok (.getfield 238, 3) := by decide +kernel
theorem d_Mod_token_356 : decode b_Mod_token 356 = .ok (.iconst 1, 1) := by decide +kernel
theorem d_Mod_token_357 : decode b_Mod_token 357 = .ok (.iadd, 1) := by decide +kernel
theorem d_Mod_token_358 : decode b_Mod_token 358 = .ok (.putfield 238, 3) := by decide +kernel
theorem d_Mod_token_361 : decode b_Mod_token 361 = .ok (.iload_n 1, 1) := by decide +kernel
theorem d_Mod_token_362 : decode b_Mod_token 362 = .ok (.bipush 41, 2) := by decide +kernel
theorem d_Mod_token_364 : decode b_Mod_token 364 = .ok (.if_icmp .eq 15, 3) := by decide +kernel
theorem d_Mod_token_367 : decode b_Mod_token 367 = .ok (.iload_n 1, 1) := by decide +kernel
theorem d_Mod_token_368 : decode b_Mod_token 368 = .ok (.bipush 93, 2) := by decide +kernel
theorem d_Mod_token_370 : decode b_Mod_token 370 = .ok (.if_icmp .eq 9, 3) := by decide +kernel
theorem d_Mod_token_373 : decode b_Mod_token 373 = .ok (.iload_n 1, 1) := by decide +kernel
theorem d_Mod_token_374 : decode b_Mod_token 374 = .ok (.bipush 125, 2) := by decide +kernel
theorem d_Mod_token_376 : decode b_Mod_token 376 = .ok (.if_icmp .ne 20, 3) := by decide +kernel
theorem d_Mod_token_379 : decode b_Mod_token 379 = .ok (.aload_n 0, 1) := by decide +kernel
theorem d_Mod_token_380 : decode b_Mod_token 380 = .ok (.getfield 238, 3) := by decide +kernel
theorem d_Mod_token_383 : decode b_Mod_token 383 = .ok (.ifCond .le 13, 3) := by decide +kernel
theorem d_Mod_token_386 : decode b_Mod_token 386 = .ok (.aload_n 0, 1) := by decide +kernel
theorem d_Mod_token_387 : decode b_Mod_token 387 = .ok (.dup, 1) := by decide +kernel
theorem d_Mod_token_388 : decode b_Mod_token 388 = .ok (.getfield 238, 3) := by decide +kernel
theorem d_Mod_token_391 : decode b_Mod_token 391 = .ok (.iconst 1, 1) := by decide +kernel
theorem d_Mod_token_392 : decode b_Mod_token 392 = .ok (.isub, 1) := by decide +kernel
theorem d_Mod_token_393 : decode b_Mod_token 393 = .ok (.putfield 238, 3) := by decide +kernel
theorem d_Mod_token_396 : decode b_Mod_token 396 = .ok (.aload_n 0, 1) := by decide +kernel
theorem d_Mod_token_397 : decode b_Mod_token 397 = .ok (.dup, 1) := by decide +kernel
theorem d_Mod_token_398 : decode b_Mod_token 398 = .ok (.getfield 214, 3) := by decide +kernel
theorem d_Mod_token_401 : decode b_Mod_token 401 = .ok (.aload_n 0, 1) := by decide +kernel
theorem d_Mod_token_402 : decode b_Mod_token 402 = .ok (.getfield 173, 3) := by decide +kernel
theorem d_Mod_token_405 : decode b_Mod_token 405 = .ok (.iload 4, 2) := by decide +kernel
theorem d_Mod_token_407 : decode b_Mod_token 407 = .ok (.aaload, 1) := by decide +kernel
theorem d_Mod_token_408 : decode b_Mod_token 408 = .ok (.invokevirtual 259, 3) := by decide +kernel
theorem d_Mod_token_411 : decode b_Mod_token 411 = .ok (.iadd, 1) := by decide +kernel
theorem d_Mod_token_412 : decode b_Mod_token 412 = .ok (.putfield 214, 3) := by decide +kernel
theorem d_Mod_token_415 : decode b_Mod_token 415 = .ok (.aload_n 0, 1) := by decide +kernel
theorem d_Mod_token_416 : decode b_Mod_token 416 = .ok (.bipush 43, 2) := by decide +kernel
theorem d_Mod_token_418 : decode b_Mod_token 418 = .ok (.iload 4, 2) := by decide +kernel
theorem d_Mod_token_420 : decode b_Mod_token 420 = .ok (.iadd, 1) := by decide +kernel
theorem d_Mod_token_421 : decode b_Mod_token 421 = .ok (.iload_n 2, 1) := by decide +kernel
theorem d_Mod_token_422 : decode b_Mod_token 422 = .ok (.aload_n 0, 1) := by decide +kernel
theorem d_Mod_token_423 : decode b_Mod_token 423 = .ok (.getfield 214, 3) := by decide +kernel
theorem d_Mod_token_426 : decode b_Mod_token 426 = .ok (.invokevirtual 224, 3) := by decide +kernel
theorem d_Mod_token_429 : decode b_Mod_token 429 = .ok (.ireturn, 1) := by decide +kernel
theorem d_Mod_stands_0 : decode b_Mod_stands 0 = .ok (.iconst 0, 1) := by decide +kernel
theorem d_Mod_stands_1 : decode b_Mod_stands 1 = .ok (.istore_n 3, 1) := by decide +kernel
theorem d_Mod_stands_2 : decode b_Mod_stands 2 = .ok (.iload_n 3, 1) := by decide +kernel
theorem d_Mod_stands_3 : decode b_Mod_stands 3 = .ok (.aload_n 2, 1) := by decide +kernel
theorem d_Mod_stands_4 : decode b_Mod_stands 4 = .ok (.invokevirtual 259, 3) := by decide +kernel
theorem d_Mod_stands_7 : decode b_Mod_stands 7 = .ok (.if_icmp .ge 26, 3) := by decide +kernel
theorem d_Mod_stands_10 : decode b_Mod_stands 10 = .ok (.aload_n 0, 1) := by decide +kernel
theorem d_Mod_stands_11 : decode b_Mod_stands 11 = .ok (.iload_n 1, 1) := by decide +kernel
theorem d_Mod_stands_12 : decode b_Mod_stands 12 = .ok (.iload_n 3, 1) := by decide +kernel
theorem d_Mod_stands_13 : decode b_Mod_stands 13 = .ok (.iadd, 1) := by decide +kernel
theorem d_Mod_stands_14 : decode b_Mod_stands 14 = .ok (.invokevirtual 228, 3) := by decide +kernel
theorem d_Mod_stands_17 : decode b_Mod_stands 17 = .ok (.aload_n 2, 1) := by decide +kernel
theorem d_Mod_stands_18 : decode b_Mod_stands 18 = .ok (.iload_n 3, 1) := by decide +kernel
theorem d_Mod_stands_19 : decode b_Mod_stands 19 = .ok (.invokevirtual 267, 3) := by decide +kernel
theorem d_Mod_stands_22 : decode b_Mod_stands 22 = .ok (.if_icmp .eq 5, 3) := by decide +kernel
theorem d_Mod_stands_25 : decode b_Mod_stands 25 = .ok (.iconst 0, 1) := by decide +kernel
theorem d_Mod_stands_26 : decode b_Mod_stands 26 = .ok (.ireturn, 1) := by decide +kernel
theorem d_Mod_stands_27 : decode b_Mod_stands 27 = .ok (.iinc 3 1, 3) := by decide +kernel
theorem d_Mod_stands_30 : decode b_Mod_stands 30 = .ok (.goto (-28), 3) := by decide +kernel
theorem d_Mod_stands_33 : decode b_Mod_stands 33 = .ok (.iconst 1, 1) := by decide +kernel
theorem d_Mod_stands_34 : decode b_Mod_stands 34 = .ok (.ireturn, 1) := by decide +kernel
theorem d_Mod_digits_0 : decode b_Mod_digits 0 = .ok (.iload_n 1, 1) := by decide +kernel
theorem d_Mod_digits_1 : decode b_Mod_digits 1 = .ok (.istore_n 3, 1) := by decide +kernel
theorem d_Mod_digits_2 : decode b_Mod_digits 2 = .ok (.aload_n 0, 1) := by decide +kernel
theorem d_Mod_digits_3 : decode b_Mod_digits 3 = .ok (.iload_n 3, 1) := by decide +kernel
theorem d_Mod_digits_4 : decode b_Mod_digits 4 = .ok (.invokevirtual 228, 3) := by decide +kernel
theorem d_Mod_digits_7 : decode b_Mod_digits 7 = .ok (.invokestatic 271, 3) := by decide +kernel
theorem d_Mod_digits_10 : decode b_Mod_digits 10 = .ok (.iload_n 2, 1) := by decide +kernel
theorem d_Mod_digits_11 : decode b_Mod_digits 11 = .ok (.if_icmp .lt 46, 3) := by decide +kernel
theorem d_Mod_digits_14 : decode b_Mod_digits 14 = .ok (.aload_n 0, 1) := by decide +kernel
theorem d_Mod_digits_15 : decode b_Mod_digits 15 = .ok (.iload_n 3, 1) := by decide +kernel
theorem d_Mod_digits_16 : decode b_Mod_digits 16 = .ok (.invokevirtual 228, 3) := by decide +kernel
theorem d_Mod_digits_19 : decode b_Mod_digits 19 = .ok (.bipush 95, 2) := by decide +kernel
theorem d_Mod_digits_21 : decode b_Mod_digits 21 = .ok (.if_icmp .ne 42, 3) := by decide +kernel
theorem d_Mod_digits_24 : decode b_Mod_digits 24 = .ok (.iload_n 3, 1) := by decide +kernel
theorem d_Mod_digits_25 : decode b_Mod_digits 25 = .ok (.iload_n 1, 1) := by decide +kernel
theorem d_Mod_digits_26 : decode b_Mod_digits 26 = .ok (.if_icmp .le 37, 3) := by decide +kernel
theorem d_Mod_digits_29 : decode b_Mod_digits 29 = .ok (.aload_n 0, 1) := by decide +kernel
theorem d_Mod_digits_30 : decode b_Mod_digits 30 = .ok (.iload_n 3, 1) := by decide +kernel
theorem d_Mod_digits_31 : decode b_Mod_digits 31 = .ok (.iconst 1, 1) := by decide +kernel
theorem d_Mod_digits_32 : decode b_Mod_digits 32 = .ok (.isub, 1) := by decide +kernel
theorem d_Mod_digits_33 : decode b_Mod_digits 33 = .ok (.invokevirtual 228, 3) := by decide +kernel
theorem d_Mod_digits_36 : decode b_Mod_digits 36 = .ok (.invokestatic 271, 3) := by decide +kernel
theorem d_Mod_digits_39 : decode b_Mod_digits 39 = .ok (.iload_n 2, 1) := by decide +kernel
theorem d_Mod_digits_40 : decode b_Mod_digits 40 = .ok (.if_icmp .ge 23, 3) := by decide +kernel
theorem d_Mod_digits_43 : decode b_Mod_digits 43 = .ok (.aload_n 0, 1) := by decide +kernel
theorem d_Mod_digits_44 : decode b_Mod_digits 44 = .ok (.iload_n 3, 1) := by decide +kernel
theorem d_Mod_digits_45 : decode b_Mod_digits 45 = .ok (.iconst 1, 1) := by decide +kernel
theorem d_Mod_digits_46 : decode b_Mod_digits 46 = .ok (.iadd, 1) := by decide +kernel
theorem d_Mod_digits_47 : decode b_Mod_digits 47 = .ok (.invokevirtual 228, 3) := by decide +kernel
theorem d_Mod_digits_50 : decode b_Mod_digits 50 = .ok (.invokestatic 271, 3) := by decide +kernel
theorem d_Mod_digits_53 : decode b_Mod_digits 53 = .ok (.iload_n 2, 1) := by decide +kernel
theorem d_Mod_digits_54 : decode b_Mod_digits 54 = .ok (.if_icmp .ge 9, 3) := by decide +kernel
theorem d_Mod_digits_57 : decode b_Mod_digits 57 = .ok (.iinc 3 1, 3) := by decide +kernel
theorem d_Mod_digits_60 : decode b_Mod_digits 60 = .ok (.goto (-58), 3) := by decide +kernel
theorem d_Mod_digits_63 : decode b_Mod_digits 63 = .ok (.iload_n 3, 1) := by decide +kernel
theorem d_Mod_digits_64 : decode b_Mod_digits 64 = .ok (.ireturn, 1) := by decide +kernel
theorem d_Mod_number_0 : decode b_Mod_number 0 = .ok (.aload_n 0, 1) := by decide +kernel
theorem d_Mod_number_1 : decode b_Mod_number 1 = .ok (.getfield 214, 3) := by decide +kernel
theorem d_Mod_number_4 : decode b_Mod_number 4 = .ok (.istore_n 1, 1) := by decide +kernel
theorem d_Mod_number_5 : decode b_Mod_number 5 = .ok (.aload_n 0, 1) := by decide +kernel
theorem d_Mod_number_6 : decode b_Mod_number 6 = .ok (.iload_n 1, 1) := by decide +kernel
theorem d_Mod_number_7 : decode b_Mod_number 7 = .ok (.iconst 1, 1) := by decide +kernel
theorem d_Mod_number_8 : decode b_Mod_number 8 = .ok (.iadd, 1) := by decide +kernel
theorem d_Mod_number_9 : decode b_Mod_number 9 = .ok (.invokevirtual 228, 3) := by decide +kernel
theorem d_Mod_number_12 : decode b_Mod_number 12 = .ok (.bipush 32, 2) := by decide +kernel
theorem d_Mod_number_14 : decode b_Mod_number 14 = .ok (.ior, 1) := by decide +kernel
theorem d_Mod_number_15 : decode b_Mod_number 15 = .ok (.istore_n 2, 1) := by decide +kernel
theorem d_Mod_number_16 : decode b_Mod_number 16 = .ok (.aload_n 0, 1) := by decide +kernel
theorem d_Mod_number_17 : decode b_Mod_number 17 = .ok (.iload_n 1, 1) := by decide +kernel
theorem d_Mod_number_18 : decode b_Mod_number 18 = .ok (.invokevirtual 228, 3) := by decide +kernel
theorem d_Mod_number_21 : decode b_Mod_number 21 = .ok (.bipush 48, 2) := by decide +kernel
theorem d_Mod_number_23 : decode b_Mod_number 23 = .ok (.if_icmp .eq 8, 3) := by decide +kernel
theorem d_Mod_number_26 : decode b_Mod_number 26 = .ok (.bipush 10, 2) := by decide +kernel
theorem d_Mod_number_28 : decode b_Mod_number 28 = .ok (.goto 37, 3) := by decide +kernel
theorem d_Mod_number_31 : decode b_Mod_number 31 = .ok (.iload_n 2, 1) := by decide +kernel
theorem d_Mod_number_32 : decode b_Mod_number 32 = .ok (.bipush 120, 2) := by decide +kernel
theorem d_Mod_number_34 : decode b_Mod_number 34 = .ok (.if_icmp .ne 8, 3) := by decide +kernel
theorem d_Mod_number_37 : decode b_Mod_number 37 = .ok (.bipush 16, 2) := by decide +kernel
theorem d_Mod_number_39 : decode b_Mod_number 39 = .ok (.goto 26, 3) := by decide +kernel
theorem d_Mod_number_42 : decode b_Mod_number 42 = .ok (.iload_n 2, 1) := by decide +kernel
theorem d_Mod_number_43 : decode b_Mod_number 43 = .ok (.bipush 111, 2) := by decide +kernel
theorem d_Mod_number_45 : decode b_Mod_number 45 = .ok (.if_icmp .ne 8, 3) := by decide +kernel
theorem d_Mod_number_48 : decode b_Mod_number 48 = .ok (.bipush 8, 2) := by decide +kernel
theorem d_Mod_number_50 : decode b_Mod_number 50 = .ok (.goto 15, 3) := by decide +kernel
theorem d_Mod_number_53 : decode b_Mod_number 53 = .ok (.iload_n 2, 1) := by decide +kernel
theorem d_Mod_number_54 : decode b_Mod_number 54 = .ok (.bipush 98, 2) := by decide +kernel
theorem d_Mod_number_56 : decode b_Mod_number 56 = .ok (.if_icmp .ne 7, 3) := by decide +kernel
theorem d_Mod_number_59 : decode b_Mod_number 59 = .ok (.iconst 2, 1) := by decide +kernel
theorem d_Mod_number_60 : decode b_Mod_number 60 = .ok (.goto 5, 3) := by decide +kernel
theorem d_Mod_number_63 : decode b_Mod_number 63 = .ok (.bipush 10, 2) := by decide +kernel
theorem d_Mod_number_65 : decode b_Mod_number 65 = .ok (.istore_n 3, 1) := by decide +kernel
theorem d_Mod_number_66 : decode b_Mod_number 66 = .ok (.iconst 5, 1) := by decide +kernel
theorem d_Mod_number_67 : decode b_Mod_number 67 = .ok (.istore 4, 2) := by decide +kernel
theorem d_Mod_number_69 : decode b_Mod_number 69 = .ok (.iload_n 3, 1) := by decide +kernel
theorem d_Mod_number_70 : decode b_Mod_number 70 = .ok (.bipush 10, 2) := by decide +kernel
theorem d_Mod_number_72 : decode b_Mod_number 72 = .ok (.if_icmp .eq 55, 3) := by decide +kernel
theorem d_Mod_number_75 : decode b_Mod_number 75 = .ok (.aload_n 0, 1) := by decide +kernel
theorem d_Mod_number_76 : decode b_Mod_number 76 = .ok (.iload_n 1, 1) := by decide +kernel
theorem d_Mod_number_77 : decode b_Mod_number 77 = .ok (.iconst 2, 1) := by decide +kernel
theorem d_Mod_number_78 : decode b_Mod_number 78 = .ok (.iadd, 1) := by decide +kernel
theorem d_Mod_number_79 : decode b_Mod_number 79 = .ok (.invokevirtual 228, 3) := by decide +kernel
theorem d_Mod_number_82 : decode b_Mod_number 82 = .ok (.bipush 95, 2) := by decide +kernel
theorem d_Mod_number_84 : decode b_Mod_number 84 = .ok (.if_icmp .ne 9, 3) := by decide +kernel
theorem d_Mod_number_87 : decode b_Mod_number 87 = .ok (.iload_n 1, 1) := by decide +kernel
theorem d_Mod_number_88 : decode b_Mod_number 88 = .ok (.iconst 3, 1) := by decide +kernel
theorem d_Mod_number_89 : decode b_Mod_number 89 = .ok (.iadd, 1) := by decide +kernel
theorem d_Mod_number_90 : decode b_Mod_number 90 = .ok (.goto 6, 3) := by decide +kernel
theorem d_Mod_number_93 : decode b_Mod_number 93 = .ok (.iload_n 1, 1) := by decide +kernel
theorem d_Mod_number_94 : decode b_Mod_number 94 = .ok (.iconst 2, 1) := by decide +kernel
theorem d_Mod_number_95 : decode b_Mod_number 95 = .ok (.iadd, 1) := by decide +kernel
theorem d_Mod_number_96 : decode b_Mod_number 96 = .ok (.istore 5, 2) := by decide +kernel
theorem d_Mod_number_98 : decode b_Mod_number 98 = .ok (.aload_n 0, 1) := by decide +kernel
theorem d_Mod_number_99 : decode b_Mod_number 99 = .ok (.iload 5, 2) := by decide +kernel
theorem d_Mod_number_101 : decode b_Mod_number 101 = .ok (.iload_n 3, 1) := by decide +kernel
theorem d_Mod_number_102 : decode b_Mod_number 102 = .ok (.invokevirtual 274, 3) := by decide +kernel
theorem d_Mod_number_105 : decode b_Mod_number 105 = .ok (.istore 6, 2) := by decide +kernel
theorem d_Mod_number_107 : decode b_Mod_number 107 = .ok (.iload 6, 2) := by decide +kernel
theorem d_Mod_number_109 : decode b_Mod_number 109 = .ok (.iload 5, 2) := by decide +kernel
theorem d_Mod_number_111 : decode b_Mod_number 111 = .ok (.if_icmp .ne 9, 3) := by decide +kernel
theorem d_Mod_number_114 : decode b_Mod_number 114 = .ok (.aload_n 0, 1) := by decide +kernel
theorem d_Mod_number_115 : decode b_Mod_number 115 = .ok (.iload_n 1, 1) := by decide +kernel
theorem d_Mod_number_116 : decode b_Mod_number 116 = .ok (.invokevirtual 210, 3) := by decide +kernel
theorem d_Mod_number_119 : decode b_Mod_number 119 = .ok (.ireturn, 1) := by decide +kernel
theorem d_Mod_number_120 : decode b_Mod_number 120 = .ok (.iload 6, 2) := by decide +kernel
theorem d_Mod_number_122 : decode b_Mod_number 122 = .ok (.istore 5, 2) := by decide +kernel
theorem d_Mod_number_124 : decode b_Mod_number 124 = .ok (.goto 196, 3) := by decide +kernel
theorem d_Mod_number_127 : decode b_Mod_number 127 = .ok (.aload_n 0, 1) := by decide +kernel
theorem d_Mod_number_128 : decode b_Mod_number 128 = .ok (.iload_n 1, 1) := by decide +kernel
theorem d_Mod_number_129 : decode b_Mod_number 129 = .ok (.bipush 10, 2) := by decide +kernel
theorem d_Mod_number_131 : decode b_Mod_number 131 = .ok (.invokevirtual 274, 3) := by decide +kernel
theorem d_Mod_number_134 : decode b_Mod_number 134 = .ok (.istore 5, 2) := by decide +kernel
theorem d_Mod_number_136 : decode b_Mod_number 136 = .ok (.aload_n 0, 1) := by decide +kernel
theorem d_Mod_number_137 : decode b_Mod_number 137 = .ok (.iload 5, 2) := by decide +kernel
theorem d_Mod_number_139 : decode b_Mod_number 139 = .ok (.invokevirtual 228, 3) := by decide +kernel
theorem d_Mod_number_142 : decode b_Mod_number 142 = .ok (.bipush 46, 2) := by decide +kernel
theorem d_Mod_number_144 : decode b_Mod_number 144 = .ok (.if_icmp .ne 19, 3) := by decide +kernel
theorem d_Mod_number_147 : decode b_Mod_number 147 = .ok (.bipush 6, 2) := by decide +kernel
theorem d_Mod_number_149 : decode b_Mod_number 149 = .ok (.istore 4, 2) := by decide +kernel
theorem d_Mod_number_151 : decode b_Mod_number 151 = .ok (.aload_n 0, 1) := by decide +kernel
theorem d_Mod_number_152 : decode b_Mod_number 152 = .ok (.iload 5, 2) := by decide +kernel
theorem d_Mod_number_154 : decode b_Mod_number 154 = .ok (.iconst 1, 1) := by decide +kernel
theorem d_Mod_number_155 : decode b_Mod_number 155 = .ok (.iadd, 1) := by decide +kernel
theorem d_Mod_number_156 : decode b_Mod_number 156 = .ok (.bipush 10, 2) := by decide +kernel
theorem d_Mod_number_158 : decode b_Mod_number 158 = .ok (.invokevirtual 274, 3) := by decide +kernel
theorem d_Mod_number_161 : decode b_Mod_number 161 = .ok (.istore 5, 2) := by decide +kernel
theorem d_Mod_number_163 : decode b_Mod_number 163 = .ok (.aload_n 0, 1) := by decide +kernel
theorem d_Mod_number_164 : decode b_Mod_number 164 = .ok (.iload 5, 2) := by decide +kernel
theorem d_Mod_number_166 : decode b_Mod_number 166 = .ok (.iconst 1, 1) := by decide +kernel
theorem d_Mod_number_167 : decode b_Mod_number 167 = .ok (.iadd, 1) := by decide +kernel
theorem d_Mod_number_168 : decode b_Mod_number 168 = .ok (.invokevirtual 228, 3) := by decide +kernel
theorem d_Mod_number_171 : decode b_Mod_number 171 = .ok (.bipush 43, 2) := by decide +kernel
theorem d_Mod_number_173 : decode b_Mod_number 173 = .ok (.if_icmp .eq 16, 3) := by decide +kernel
theorem d_Mod_number_176 : decode b_Mod_number 176 = .ok (.aload_n 0, 1) := by decide +kernel
theorem d_Mod_number_177 : decode b_Mod_number 177 = .ok (.iload 5, 2) := by decide +kernel
theorem d_Mod_number_179 : decode b_Mod_number 179 = .ok (.iconst 1, 1) := by decide +kernel
theorem d_Mod_number_180 : decode b_Mod_number 180 = .ok (.iadd, 1) := by decide +kernel
theorem d_Mod_number_181 : decode b_Mod_number 181 = .ok (.invokevirtual 228, 3) := by decide +kernel
theorem d_Mod_number_184 : decode b_Mod_number 184 = .ok (.bipush 45, 2) := by decide +kernel
theorem d_Mod_number_186 : decode b_Mod_number 186 = .ok (.if_icmp .ne 10, 3) := by decide +kernel
theorem d_Mod_number_189 : decode b_Mod_number 189 = .ok (.iload 5, 2) := by decide +kernel
theorem d_Mod_number_191 : decode b_Mod_number 191 = .ok (.iconst 2, 1) := by decide +kernel
theorem d_Mod_number_192 : decode b_Mod_number 192 = .ok (.iadd, 1) := by decide +kernel
theorem d_Mod_number_193 : decode b_Mod_number 193 = .ok (.goto 7, 3) := by decide +kernel
theorem d_Mod_number_196 : decode b_Mod_number 196 = .ok (.iload 5, 2) := by decide +kernel
theorem d_Mod_number_198 : decode b_Mod_number 198 = .ok (.iconst 1, 1) := by decide +kernel
theorem d_Mod_number_199 : decode b_Mod_number 199 = .ok (.iadd, 1) := by decide +kernel
theorem d_Mod_number_200 : decode b_Mod_number 200 = .ok (.istore 6, 2) := by decide +kernel
theorem d_Mod_number_202 : decode b_Mod_number 202 = .ok (.aload_n 0, 1) := by decide +kernel
theorem d_Mod_number_203 : decode b_Mod_number 203 = .ok (.iload 5, 2) := by decide +kernel
theorem d_Mod_number_205 : decode b_Mod_number 205 = .ok (.invokevirtual 228, 3) := by decide +kernel
theorem d_Mod_number_208 : decode b_Mod_number 208 = .ok (.bipush 32, 2) := by decide +kernel
theorem d_Mod_number_210 : decode b_Mod_number 210 = .ok (.ior, 1) := by decide +kernel
theorem d_Mod_number_211 : decode b_Mod_number 211 = .ok (.bipush 101, 2) := by decide +kernel
theorem d_Mod_number_213 : decode b_Mod_number 213 = .ok (.if_icmp .ne 29, 3) := by decide +kernel
theorem d_Mod_number_216 : decode b_Mod_number 216 = .ok (.aload_n 0, 1) := by decide +kernel
theorem d_Mod_number_217 : decode b_Mod_number 217 = .ok (.iload 6, 2) := by decide +kernel
theorem d_Mod_number_219 : decode b_Mod_number 219 = .ok (.invokevirtual 228, 3) := by decide +kernel
theorem d_Mod_number_222 : decode b_Mod_number 222 = .ok (.invokestatic 247, 3) := by decide +kernel
theorem d_Mod_number_225 : decode b_Mod_number 225 = .ok (.ifCond .eq 17, 3) := by decide +kernel
theorem d_Mod_number_228 : decode b_Mod_number 228 = .ok (.bipush 6, 2) := by decide +kernel
theorem d_Mod_number_230 : decode b_Mod_number 230 = .ok (.istore 4, 2) := by decide +kernel
theorem d_Mod_number_232 : decode b_Mod_number 232 = .ok (.aload_n 0, 1) := by decide +kernel
theorem d_Mod_number_233 : decode b_Mod_number 233 = .ok (.iload 6, 2) := by decide +kernel
theorem d_Mod_number_235 : decode b_Mod_number 235 = .ok (.bipush 10, 2) := by decide +kernel
theorem d_Mod_number_237 : decode b_Mod_number 237 = .ok (.invokevirtual 274, 3) := by decide +kernel
theorem d_Mod_number_240 : decode b_Mod_number 240 = .ok (.istore 5, 2) := by decide +kernel
theorem d_Mod_number_242 : decode b_Mod_number 242 = .ok (.iconst 1, 1) := by decide +kernel
theorem d_Mod_number_243 : decode b_Mod_number 243 = .ok (.istore 7, 2) := by decide +kernel
theorem d_Mod_number_245 : decode b_Mod_number 245 = .ok (.iload_n 1, 1) := by decide +kernel
theorem d_Mod_number_246 : decode b_Mod_number 246 = .ok (.istore 8, 2) := by decide +kernel
theorem d_Mod_number_248 : decode b_Mod_number 248 = .ok (.iload 8, 2) := by decide +kernel
theorem d_Mod_number_250 : decode b_Mod_number 250 = .ok (.iload 5, 2) := by decide +kernel
theorem d_Mod_number_252 : decode b_Mod_number 252 = .ok (.if_icmp .ge 41, 3) := by decide +kernel
theorem d_Mod_number_255 : decode b_Mod_number 255 = .ok (.iload 7, 2) := by decide +kernel
theorem d_Mod_number_257 : decode b_Mod_number 257 = .ok (.aload_n 0, 1) := by decide +kernel
theorem d_Mod_number_258 : decode b_Mod_number 258 = .ok (.iload 8, 2) := by decide +kernel
theorem d_Mod_number_260 : decode b_Mod_number 260 = .ok (.invokevirtual 228, 3) := by decide +kernel
theorem d_Mod_number_263 : decode b_Mod_number 263 = .ok (.bipush 48, 2) := by decide +kernel
theorem d_Mod_number_265 : decode b_Mod_number 265 = .ok (.if_icmp .eq 14, 3) := by decide +kernel
theorem d_Mod_number_268 : decode b_Mod_number 268 = .ok (.aload_n 0, 1) := by decide +kernel
theorem d_Mod_number_269 : decode b_Mod_number 269 = .ok (.iload 8, 2) := by decide +kernel
theorem d_Mod_number_271 : decode b_Mod_number 271 = .ok (.invokevirtual 228, 3) := by decide +kernel
theorem d_Mod_number_274 : decode b_Mod_number 274 = .ok (.bipush 95, 2) := by decide +kernel
theorem d_Mod_number_276 : decode b_Mod_number 276 = .ok (.if_icmp .ne 7, 3) := by decide +kernel
theorem d_Mod_number_279 : decode b_Mod_number 279 = .ok (.iconst 1, 1) := by decide +kernel
theorem d_Mod_number_280 : decode b_Mod_number 280 = .ok (.goto 4, 3) := by decide +kernel
theorem d_Mod_number_283 : decode b_Mod_number 283 = .ok (.iconst 0, 1) := by decide +kernel
theorem d_Mod_number_284 : decode b_Mod_number 284 = .ok (.iand, 1) := by decide +kernel
theorem d_Mod_number_285 : decode b_Mod_number 285 = .ok (.istore 7, 2) := by decide +kernel
theorem d_Mod_number_287 : decode b_Mod_number 287 = .ok (.iinc 8 1, 3) := by decide +kernel
theorem d_Mod_number_290 : decode b_Mod_number 290 = .ok (.goto (-42), 3) := by decide +kernel
theorem d_Mod_number_293 : decode b_Mod_number 293 = .ok (.iload 4, 2) := by decide +kernel
theorem d_Mod_number_295 : decode b_Mod_number 295 = .ok (.iconst 5, 1) := by decide +kernel
theorem d_Mod_number_296 : decode b_Mod_number 296 = .ok (.if_icmp .ne 24, 3) := by decide +kernel
theorem d_Mod_number_299 : decode b_Mod_number 299 = .ok (.aload_n 0, 1) := by decide +kernel
theorem d_Mod_number_300 : decode b_Mod_number 300 = .ok (.iload_n 1, 1) := by decide +kernel
theorem d_Mod_number_301 : decode b_Mod_number 301 = .ok (.invokevirtual 228, 3) := by decide +kernel
theorem d_Mod_number_304 : decode b_Mod_number 304 = .ok (.bipush 48, 2) := by decide +kernel
theorem d_Mod_number_306 : decode b_Mod_number 306 = .ok (.if_icmp .ne 14, 3) := by decide +kernel
theorem d_Mod_number_309 : decode b_Mod_number 309 = .ok (.iload 7, 2) := by decide +kernel
theorem d_Mod_number_311 : decode b_Mod_number 311 = .ok (.ifCond .ne 9, 3) := by decide +kernel
theorem d_Mod_number_314 : decode b_Mod_number 314 = .ok (.aload_n 0, 1) := by decide +kernel
theorem d_Mod_number_315 : decode b_Mod_number 315 = .ok (.iload_n 1, 1) := by decide +kernel
theorem d_Mod_number_316 : decode b_Mod_number 316 = .ok (.invokevirtual 210, 3) := by decide +kernel
theorem d_Mod_number_319 : decode b_Mod_number 319 = .ok (.ireturn, 1) := by decide +kernel
theorem d_Mod_number_320 : decode b_Mod_number 320 = .ok (.aload_n 0, 1) := by decide +kernel
theorem d_Mod_number_321 : decode b_Mod_number 321 = .ok (.iload 5, 2) := by decide +kernel
theorem d_Mod_number_323 : decode b_Mod_number 323 = .ok (.putfield 214, 3) := by decide +kernel
theorem d_Mod_number_326 : decode b_Mod_number 326 = .ok (.aload_n 0, 1) := by decide +kernel
theorem d_Mod_number_327 : decode b_Mod_number 327 = .ok (.iload 5, 2) := by decide +kernel
theorem d_Mod_number_329 : decode b_Mod_number 329 = .ok (.invokevirtual 228, 3) := by decide +kernel
theorem d_Mod_number_332 : decode b_Mod_number 332 = .ok (.invokestatic 256, 3) := by decide +kernel
theorem d_Mod_number_335 : decode b_Mod_number 335 = .ok (.ifCond .ne 15, 3) := by decide +kernel
theorem d_Mod_number_338 : decode b_Mod_number 338 = .ok (.aload_n 0, 1) := by decide +kernel
theorem d_Mod_number_339 : decode b_Mod_number 339 = .ok (.iload 5, 2) := by decide +kernel
theorem d_Mod_number_341 : decode b_Mod_number 341 = .ok (.invokevirtual 228, 3) := by decide +kernel
theorem d_Mod_number_344 : decode b_Mod_number 344 = .ok (.invokestatic 247, 3) := by decide +kernel
theorem d_Mod_number_347 : decode b_Mod_number 347 = .ok (.ifCond .eq 11, 3) := by decide +kernel
theorem d_Mod_number_350 : decode b_Mod_number 350 = .ok (.aload_n 0, 1) := by decide +kernel
theorem d_Mod_number_351 : decode b_Mod_number 351 = .ok (.iload_n 1, 1) := by decide +kernel
theorem d_Mod_number_352 : decode b_Mod_number 352 = .ok (.invokevirtual 210, 3) := by decide +kernel
theorem d_Mod_number_355 : decode b_Mod_number 355 = .ok (.goto 12, 3) := by decide +kernel
theorem d_Mod_number_358 : decode b_Mod_number 358 = .ok (.aload_n 0, 1) := by decide +kernel
theorem d_Mod_number_359 : decode b_Mod_number 359 = .ok (.iload 4, 2) := by decide +kernel
theorem d_Mod_number_361 : decode b_Mod_number 361 = .ok (.iload_n 1, 1) := by decide +kernel
theorem d_Mod_number_362 : decode b_Mod_number 362 = .ok (.iload 5, 2) := by decide +kernel
theorem d_Mod_number_364 : decode b_Mod_number 364 = .ok (.invokevirtual 224, 3) := by decide +kernel
theorem d_Mod_number_367 : decode b_Mod_number 367 = .ok (.ireturn, 1) := by decide +kernel
theorem d_Mod_string_0 : decode b_Mod_string 0 = .ok (.aload_n 0, 1) := by decide +kernel
theorem d_Mod_string_1 : decode b_Mod_string 1 = .ok (.getfield 214, 3) := by decide +kernel
theorem d_Mod_string_4 : decode b_Mod_string 4 = .ok (.istore_n 2, 1) := by decide +kernel
theorem d_Mod_string_5 : decode b_Mod_string 5 = .ok (.aload_n 0, 1) := by decide +kernel
theorem d_Mod_string_6 : decode b_Mod_string 6 = .ok (.iload_n 1, 1) := by decide +kernel
theorem d_Mod_string_7 : decode b_Mod_string 7 = .ok (.invokevirtual 228, 3) := by decide +kernel
theorem d_Mod_string_10 : decode b_Mod_string 10 = .ok (.istore_n 3, 1) := by decide +kernel
theorem d_Mod_string_11 : decode b_Mod_string 11 = .ok (.aload_n 0, 1) := by decide +kernel
theorem d_Mod_string_12 : decode b_Mod_string 12 = .ok (.iload_n 1, 1) := by decide +kernel
theorem d_Mod_string_13 : decode b_Mod_string 13 = .ok (.iconst 1, 1) := by decide +kernel
theorem d_Mod_string_14 : decode b_Mod_string 14 = .ok (.iadd, 1) := by decide +kernel
theorem d_Mod_string_15 : decode b_Mod_string 15 = .ok (.invokevirtual 228, 3) := by decide +kernel
theorem d_Mod_string_18 : decode b_Mod_string 18 = .ok (.iload_n 3, 1) := by decide +kernel
theorem d_Mod_string_19 : decode b_Mod_string 19 = .ok (.if_icmp .ne 18, 3) := by decide +kernel
theorem d_Mod_string_22 : decode b_Mod_string 22 = .ok (.aload_n 0, 1) := by decide +kernel
theorem d_Mod_string_23 : decode b_Mod_string 23 = .ok (.iload_n 1, 1) := by decide +kernel
theorem d_Mod_string_24 : decode b_Mod_string 24 = .ok (.iconst 2, 1) := by decide +kernel
theorem d_Mod_string_25 : decode b_Mod_string 25 = .ok (.iadd, 1) := by decide +kernel
theorem d_Mod_string_26 : decode b_Mod_string 26 = .ok (.invokevirtual 228, 3) := by decide +kernel
theorem d_Mod_string_29 : decode b_Mod_string 29 = .ok (.iload_n 3, 1) := by decide +kernel
theorem d_Mod_string_30 : decode b_Mod_string 30 = .ok (.if_icmp .ne 7, 3) := by decide +kernel
theorem d_Mod_string_33 : decode b_Mod_string 33 = .ok (.iconst 3, 1) := by decide +kernel
theorem d_Mod_string_34 : decode b_Mod_string 34 = .ok (.goto 4, 3) := by decide +kernel
theorem d_Mod_string_37 : decode b_Mod_string 37 = .ok (.iconst 1, 1) := by decide +kernel
theorem d_Mod_string_38 : decode b_Mod_string 38 = .ok (.istore 4, 2) := by decide +kernel
theorem d_Mod_string_40 : decode b_Mod_string 40 = .ok (.iload_n 1, 1) := by decide +kernel
theorem d_Mod_string_41 : decode b_Mod_string 41 = .ok (.iload 4, 2) := by decide +kernel
theorem d_Mod_string_43 : decode b_Mod_string 43 = .ok (.iadd, 1) := by decide +kernel
theorem d_Mod_string_44 : decode b_Mod_string 44 = .ok (.istore 5, 2) := by decide +kernel
theorem d_Mod_string_46 : decode b_Mod_string 46 = .ok (.iload 5, 2) := by decide +kernel
theorem d_Mod_string_48 : decode b_Mod_string 48 = .ok (.aload_n 0, 1) := by decide +kernel
theorem d_Mod_string_49 : decode b_Mod_string 49 = .ok (.getfield 207, 3) := by decide +kernel
theorem d_Mod_string_52 : decode b_Mod_string 52 = .ok (.if_icmp .ge 90, 3) := by decide +kernel
theorem d_Mod_string_55 : decode b_Mod_string 55 = .ok (.aload_n 0, 1) := by decide +kernel
theorem d_Mod_string_56 : decode b_Mod_string 56 = .ok (.iload 5, 2) := by decide +kernel
theorem d_Mod_string_58 : decode b_Mod_string 58 = .ok (.invokevirtual 228, 3) := by decide +kernel
theorem d_Mod_string_61 : decode b_Mod_string 61 = .ok (.iload_n 3, 1) := by decide +kernel
theorem d_Mod_string_62 : decode b_Mod_string 62 = .ok (.if_icmp .ne 33, 3) := by decide +kernel
theorem d_Mod_string_65 : decode b_Mod_string 65 = .ok (.iload 4, 2) := by decide +kernel
theorem d_Mod_string_67 : decode b_Mod_string 67 = .ok (.iconst 1, 1) := by decide +kernel
theorem d_Mod_string_68 : decode b_Mod_string 68 = .ok (.if_icmp .eq 74, 3) := by decide +kernel
theorem d_Mod_string_71 : decode b_Mod_string 71 = .ok (.aload_n 0, 1) := by decide +kernel
theorem d_Mod_string_72 : decode b_Mod_string 72 = .ok (.iload 5, 2) := by decide +kernel
theorem d_Mod_string_74 : decode b_Mod_string 74 = .ok (.iconst 1, 1) := by decide +kernel
theorem d_Mod_string_75 : decode b_Mod_string 75 = .ok (.iadd, 1) := by decide +kernel
theorem d_Mod_string_76 : decode b_Mod_string 76 = .ok (.invokevirtual 228, 3) := by decide +kernel
theorem d_Mod_string_79 : decode b_Mod_string 79 = .ok (.iload_n 3, 1) := by decide +kernel
theorem d_Mod_string_80 : decode b_Mod_string 80 = .ok (.if_icmp .ne 15, 3) := by decide +kernel
theorem d_Mod_string_83 : decode b_Mod_string 83 = .ok (.aload_n 0, 1) := by decide +kernel
theorem d_Mod_string_84 : decode b_Mod_string 84 = .ok (.iload 5, 2) := by decide +kernel
theorem d_Mod_string_86 : decode b_Mod_string 86 = .ok (.iconst 2, 1) := by decide +kernel
theorem d_Mod_string_87 : decode b_Mod_string 87 = .ok (.iadd, 1) := by decide +kernel
theorem d_Mod_string_88 : decode b_Mod_string 88 = .ok (.invokevirtual 228, 3) := by decide +kernel
theorem d_Mod_string_91 : decode b_Mod_string 91 = .ok (.iload_n 3, 1) := by decide +kernel
theorem d_Mod_string_92 : decode b_Mod_string 92 = .ok (.if_icmp .eq 50, 3) := by decide +kernel
theorem d_Mod_string_95 : decode b_Mod_string 95 = .ok (.iload 4, 2) := by decide +kernel
theorem d_Mod_string_97 : decode b_Mod_string 97 = .ok (.iconst 1, 1) := by decide +kernel
theorem d_Mod_string_98 : decode b_Mod_string 98 = .ok (.if_icmp .ne 20, 3) := by decide +kernel
theorem d_Mod_string_101 : decode b_Mod_string 101 = .ok (.aload_n 0, 1) := by decide +kernel
theorem d_Mod_string_102 : decode b_Mod_string 102 = .ok (.iload 5, 2) := by decide +kernel
theorem d_Mod_string_104 : decode b_Mod_string 104 = .ok (.invokevirtual 228, 3) := by decide +kernel
theorem d_Mod_string_107 : decode b_Mod_string 107 = .ok (.bipush 10, 2) := by decide +kernel
theorem d_Mod_string_109 : decode b_Mod_string 109 = .ok (.if_icmp .ne 9, 3) := by decide +kernel
theorem d_Mod_string_112 : decode b_Mod_string 112 = .ok (.aload_n 0, 1) := by decide +kernel
theorem d_Mod_string_113 : decode b_Mod_string 113 = .ok (.iload_n 2, 1) := by decide +kernel
theorem d_Mod_string_114 : decode b_Mod_string 114 = .ok (.invokevirtual 210, 3) := by decide +kernel
theorem d_Mod_string_117 : decode b_Mod_string 117 = .ok (.ireturn, 1) := by decide +kernel
theorem d_Mod_string_118 : decode b_Mod_string 118 = .ok (.iload 5, 2) := by decide +kernel
theorem d_Mod_string_120 : decode b_Mod_string 120 = .ok (.aload_n 0, 1) := by decide +kernel
theorem d_Mod_string_121 : decode b_Mod_string 121 = .ok (.iload 5, 2) := by decide +kernel
theorem d_Mod_string_123 : decode b_Mod_string 123 = .ok (.invokevirtual 228, 3) := by decide +kernel
theorem d_Mod_string_126 : decode b_Mod_string 126 = .ok (.bipush 92, 2) := by decide +kernel
theorem d_Mod_string_128 : decode b_Mod_string 128 = .ok (.if_icmp .ne 7, 3) := by decide +kernel
theorem d_Mod_string_131 : decode b_Mod_string 131 = .ok (.iconst 2, 1) := by decide +kernel
theorem d_Mod_string_132 : decode b_Mod_string 132 = .ok (.goto 4, 3) := by decide +kernel
theorem d_Mod_string_135 : decode b_Mod_string 135 = .ok (.iconst 1, 1) := by decide +kernel
theorem d_Mod_string_136 : decode b_Mod_string 136 = .ok (.iadd, 1) := by decide +kernel
theorem d_Mod_string_137 : decode b_Mod_string 137 = .ok (.istore 5, 2) := by decide +kernel
theorem d_Mod_string_139 : decode b_Mod_string 139 = .ok (.goto (-93), 3) := by decide +kernel
theorem d_Mod_string_142 : decode b_Mod_string 142 = .ok (.iload 5, 2) := by decide +kernel
theorem d_Mod_string_144 : decode b_Mod_string 144 = .ok (.aload_n 0, 1) := by decide +kernel
theorem d_Mod_string_145 : decode b_Mod_string 145 = .ok (.getfield 207, 3) := by decide +kernel
theorem d_Mod_string_148 : decode b_Mod_string 148 = .ok (.if_icmp .lt 9, 3) := by decide +kernel
theorem d_Mod_string_151 : decode b_Mod_string 151 = .ok (.aload_n 0, 1) := by decide +kernel
theorem d_Mod_string_152 : decode b_Mod_string 152 = .ok (.iload_n 2, 1) := by decide +kernel
theorem d_Mod_string_153 : decode b_Mod_string 153 = .ok (.invokevirtual 210, 3) := by decide +kernel
theorem d_Mod_string_156 : decode b_Mod_string 156 = .ok (.ireturn, 1) := by decide +kernel
theorem d_Mod_string_157 : decode b_Mod_string 157 = .ok (.aload_n 0, 1) := by decide +kernel
theorem d_Mod_string_158 : decode b_Mod_string 158 = .ok (.iload 5, 2) := by decide +kernel
theorem d_Mod_string_160 : decode b_Mod_string 160 = .ok (.iload 4, 2) := by decide +kernel
theorem d_Mod_string_162 : decode b_Mod_string 162 = .ok (.iadd, 1) := by decide +kernel
theorem d_Mod_string_163 : decode b_Mod_string 163 = .ok (.putfield 214, 3) := by decide +kernel
theorem d_Mod_string_166 : decode b_Mod_string 166 = .ok (.aload_n 0, 1) := by decide +kernel
theorem d_Mod_string_167 : decode b_Mod_string 167 = .ok (.bipush 7, 2) := by decide +kernel
theorem d_Mod_string_169 : decode b_Mod_string 169 = .ok (.iload_n 2, 1) := by decide +kernel
theorem d_Mod_string_170 : decode b_Mod_string 170 = .ok (.aload_n 0, 1) := by decide +kernel
theorem d_Mod_string_171 : decode b_Mod_string 171 = .ok (.getfield 214, 3) := by decide +kernel
theorem d_Mod_string_174 : decode b_Mod_string 174 = .ok (.invokevirtual 224, 3) := by decide +kernel
theorem d_Mod_string_177 : decode b_Mod_string 177 = .ok (.ireturn, 1) := by decide +kernel
theorem d_Mod_wrong_0 : decode b_Mod_wrong 0 = .ok (.aload_n 0, 1) := by decide +kernel
theorem d_Mod_wrong_1 : decode b_Mod_wrong 1 = .ok (.iconst 0, 1) := by decide +kernel
theorem d_Mod_wrong_2 : decode b_Mod_wrong 2 = .ok (.putfield 198, 3) := by decide +kernel
theorem d_Mod_wrong_5 : decode b_Mod_wrong 5 = .ok (.aload_n 0, 1) := by decide +kernel
theorem d_Mod_wrong_6 : decode b_Mod_wrong 6 = .ok (.getfield 176, 3) := by decide +kernel
theorem d_Mod_wrong_9 : decode b_Mod_wrong 9 = .ok (.ireturn, 1) := by decide +kernel
theorem d_Mod_tokenAt_0 : decode b_Mod_tokenAt 0 = .ok (.aload_n 0, 1) := by decide +kernel
theorem d_Mod_tokenAt_1 : decode b_Mod_tokenAt 1 = .ok (.iconst 0, 1) := by decide +kernel
theorem d_Mod_tokenAt_2 : decode b_Mod_tokenAt 2 = .ok (.putfield 198, 3) := by decide +kernel
theorem d_Mod_tokenAt_5 : decode b_Mod_tokenAt 5 = .ok (.iload_n 2, 1) := by decide +kernel
theorem d_Mod_tokenAt_6 : decode b_Mod_tokenAt 6 = .ok (.ifCond .lt 8, 3) := by decide +kernel
theorem d_Mod_tokenAt_9 : decode b_Mod_tokenAt 9 = .ok (.iload_n 2, 1) := by decide +kernel
theorem d_Mod_tokenAt_10 : decode b_Mod_tokenAt 10 = .ok (.iconst 3, 1) := by decide +kernel
theorem d_Mod_tokenAt_11 : decode b_Mod_tokenAt 11 = .ok (.if_icmp .le 10, 3) := by decide +kernel
theorem d_Mod_tokenAt_14 : decode b_Mod_tokenAt 14 = .ok (.aload_n 0, 1) := by decide +kernel
theorem d_Mod_tokenAt_15 : decode b_Mod_tokenAt 15 = .ok (.iconst 1, 1) := by decide +kernel
theorem d_Mod_tokenAt_16 : decode b_Mod_tokenAt 16 = .ok (.putfield 198, 3) := by decide +kernel
theorem d_Mod_tokenAt_19 : decode b_Mod_tokenAt 19 = .ok (.iconst 0, 1) := by decide +kernel
theorem d_Mod_tokenAt_20 : decode b_Mod_tokenAt 20 = .ok (.ireturn, 1) := by decide +kernel
theorem d_Mod_tokenAt_21 : decode b_Mod_tokenAt 21 = .ok (.iload_n 1, 1) := by decide +kernel
theorem d_Mod_tokenAt_22 : decode b_Mod_tokenAt 22 = .ok (.ifCond .lt 11, 3) := by decide +kernel
theorem d_Mod_tokenAt_25 : decode b_Mod_tokenAt 25 = .ok (.iload_n 1, 1) := by decide +kernel
theorem d_Mod_tokenAt_26 : decode b_Mod_tokenAt 26 = .ok (.aload_n 0, 1) := by decide +kernel
theorem d_Mod_tokenAt_27 : decode b_Mod_tokenAt 27 = .ok (.getfield 204, 3) := by decide +kernel
theorem d_Mod_tokenAt_30 : decode b_Mod_tokenAt 30 = .ok (.if_icmp .lt 10, 3) := by decide +kernel
theorem d_Mod_tokenAt_33 : decode b_Mod_tokenAt 33 = .ok (.aload_n 0, 1) := by decide +kernel
theorem d_Mod_tokenAt_34 : decode b_Mod_tokenAt 34 = .ok (.iconst 2, 1) := by decide +kernel
theorem d_Mod_tokenAt_35 : decode b_Mod_tokenAt 35 = .ok (.putfield 198, 3) := by decide +kernel
theorem d_Mod_tokenAt_38 : decode b_Mod_tokenAt 38 = .ok (.iconst 0, 1) := by decide +kernel
theorem d_Mod_tokenAt_39 : decode b_Mod_tokenAt 39 = .ok (.ireturn, 1) := by decide +kernel
theorem d_Mod_tokenAt_40 : decode b_Mod_tokenAt 40 = .ok (.iload_n 2, 1) := by decide +kernel
theorem d_Mod_tokenAt_41 : decode b_Mod_tokenAt 41 = .ok (.iconst 3, 1) := by decide +kernel
theorem d_Mod_tokenAt_42 : decode b_Mod_tokenAt 42 = .ok (.if_icmp .ge 37, 3) := by decide +kernel
theorem d_Mod_tokenAt_45 : decode b_Mod_tokenAt 45 = .ok (.iload_n 2, 1) := by decide +kernel
theorem d_Mod_tokenAt_46 : decode b_Mod_tokenAt 46 = .ok (.ifCond .ne 12, 3) := by decide +kernel
theorem d_Mod_tokenAt_49 : decode b_Mod_tokenAt 49 = .ok (.aload_n 0, 1) := by decide +kernel
theorem d_Mod_tokenAt_50 : decode b_Mod_tokenAt 50 = .ok (.getfield 187, 3) := by decide +kernel
theorem d_Mod_tokenAt_53 : decode b_Mod_tokenAt 53 = .ok (.iload_n 1, 1) := by decide +kernel
theorem d_Mod_tokenAt_54 : decode b_Mod_tokenAt 54 = .ok (.iaload, 1) := by decide +kernel
theorem d_Mod_tokenAt_55 : decode b_Mod_tokenAt 55 = .ok (.goto 23, 3) := by decide +kernel
theorem d_Mod_tokenAt_58 : decode b_Mod_tokenAt 58 = .ok (.iload_n 2, 1) := by decide +kernel
theorem d_Mod_tokenAt_59 : decode b_Mod_tokenAt 59 = .ok (.iconst 1, 1) := by decide +kernel
theorem d_Mod_tokenAt_60 : decode b_Mod_tokenAt 60 = .ok (.if_icmp .ne 12, 3) := by decide +kernel
theorem d_Mod_tokenAt_63 : decode b_Mod_tokenAt 63 = .ok (.aload_n 0, 1) := by decide +kernel
theorem d_Mod_tokenAt_64 : decode b_Mod_tokenAt 64 = .ok (.getfield 190, 3) := by decide +kernel
theorem d_Mod_tokenAt_67 : decode b_Mod_tokenAt 67 = .ok (.iload_n 1, 1) := by decide +kernel
theorem d_Mod_tokenAt_68 : decode b_Mod_tokenAt 68 = .ok (.iaload, 1) := by decide +kernel
theorem d_Mod_tokenAt_69 : decode b_Mod_tokenAt 69 = .ok (.goto 9, 3) := by decide +kernel
theorem d_Mod_tokenAt_72 : decode b_Mod_tokenAt 72 = .ok (.aload_n 0, 1) := by decide +kernel
theorem d_Mod_tokenAt_73 : decode b_Mod_tokenAt 73 = .ok (.getfield 192, 3) := by decide +kernel
theorem d_Mod_tokenAt_76 : decode b_Mod_tokenAt 76 = .ok (.iload_n 1, 1) := by decide +kernel
theorem d_Mod_tokenAt_77 : decode b_Mod_tokenAt 77 = .ok (.iaload, 1) := by decide +kernel
theorem d_Mod_tokenAt_78 : decode b_Mod_tokenAt 78 = .ok (.ireturn, 1) := by decide +kernel
theorem d_Mod_tokenAt_79 : decode b_Mod_tokenAt 79 = .ok (.iconst 1, 1) := by decide +kernel
theorem d_Mod_tokenAt_80 : decode b_Mod_tokenAt 80 = .ok (.istore_n 3, 1) := by decide +kernel
theorem d_Mod_tokenAt_81 : decode b_Mod_tokenAt 81 = .ok (.iconst 0, 1) := by decide +kernel
theorem d_Mod_tokenAt_82 : decode b_Mod_tokenAt 82 = .ok (.istore 4, 2) := by decide +kernel
theorem d_Mod_tokenAt_84 : decode b_Mod_tokenAt 84 = .ok (.iload 4, 2) := by decide +kernel
theorem d_Mod_tokenAt_86 : decode b_Mod_tokenAt 86 = .ok (.aload_n 0, 1) := by decide +kernel
theorem d_Mod_tokenAt_87 : decode b_Mod_tokenAt 87 = .ok (.getfield 190, 3) := by decide +kernel
theorem d_Mod_tokenAt_90 : decode b_Mod_tokenAt 90 = .ok (.iload_n 1, 1) := by decide +kernel
theorem d_Mod_tokenAt_91 : decode b_Mod_tokenAt 91 = .ok (.iaload, 1) := by decide +kernel
theorem d_Mod_tokenAt_92 : decode b_Mod_tokenAt 92 = .ok (.if_icmp .ge 33, 3) := by decide +kernel
theorem d_Mod_tokenAt_95 : decode b_Mod_tokenAt 95 = .ok (.iload 4, 2) := by decide +kernel
theorem d_Mod_tokenAt_97 : decode b_Mod_tokenAt 97 = .ok (.aload_n 0, 1) := by decide +kernel
theorem d_Mod_tokenAt_98 : decode b_Mod_tokenAt 98 = .ok (.getfield 207, 3) := by decide +kernel
theorem d_Mod_tokenAt_101 : decode b_Mod_tokenAt 101 = .ok (.if_icmp .ge 24, 3) := by decide +kernel
theorem d_Mod_tokenAt_104 : decode b_Mod_tokenAt 104 = .ok (.aload_n 0, 1) := by decide +kernel
theorem d_Mod_tokenAt_105 : decode b_Mod_tokenAt 105 = .ok (.getfield 184, 3) := by decide +kernel
theorem d_Mod_tokenAt_108 : decode b_Mod_tokenAt 108 = .ok (.iload 4, 2) := by decide +kernel
theorem d_Mod_tokenAt_110 : decode b_Mod_tokenAt 110 = .ok (.iaload, 1) := by decide +kernel
theorem d_Mod_tokenAt_111 : decode b_Mod_tokenAt 111 = .ok (.bipush 10, 2) := by decide +kernel
theorem d_Mod_tokenAt_113 : decode b_Mod_tokenAt 113 = .ok (.if_icmp .ne 6, 3) := by decide +kernel
theorem d_Mod_tokenAt_116 : decode b_Mod_tokenAt 116 = .ok (.iinc 3 1, 3) := by decide +kernel
theorem d_Mod_tokenAt_119 : decode b_Mod_tokenAt 119 = .ok (.iinc 4 1, 3) := by decide +kernel
theorem d_Mod_tokenAt_122 : decode b_Mod_tokenAt 122 = .ok (.goto (-38), 3) := by decide +kernel
theorem d_Mod_tokenAt_125 : decode b_Mod_tokenAt 125 = .ok (.iload_n 3, 1) := by decide +kernel
theorem d_Mod_tokenAt_126 : decode b_Mod_tokenAt 126 = .ok (.ireturn, 1) := by decide +kernel
theorem d_Mod_many_0 : decode b_Mod_many 0 = .ok (.aload_n 0, 1) := by decide +kernel
theorem d_Mod_many_1 : decode b_Mod_many 1 = .ok (.iconst 0, 1) := by decide +kernel
theorem d_Mod_many_2 : decode b_Mod_many 2 = .ok (.putfield 198, 3) := by decide +kernel
theorem d_Mod_many_5 : decode b_Mod_many 5 = .ok (.aload_n 0, 1) := by decide +kernel
theorem d_Mod_many_6 : decode b_Mod_many 6 = .ok (.getfield 204, 3) := by decide +kernel
theorem d_Mod_many_9 : decode b_Mod_many 9 = .ok (.ireturn, 1) := by decide +kernel
