theorem dX0_clear_0 : decode cX0_clear 0 = .ok (.aload_n 0, 1) := by decide +kernel
theorem dX0_clear_1 : decode cX0_clear 1 = .ok (.iconst 0, 1) := by decide +kernel
theorem dX0_clear_2 : decode cX0_clear 2 = .ok (.putfield 9, 3) := by decide +kernel
theorem dX0_clear_5 : decode cX0_clear 5 = .ok (.aload_n 0, 1) := by decide +kernel
theorem dX0_clear_6 : decode cX0_clear 6 = .ok (.iconst 0, 1) := by decide +kernel
theorem dX0_clear_7 : decode cX0_clear 7 = .ok (.putfield 15, 3) := by decide +kernel
theorem dX0_clear_10 : decode cX0_clear 10 = .ok (.aload_n 0, 1) := by decide +kernel
theorem dX0_clear_11 : decode cX0_clear 11 = .ok (.iconst 0, 1) := by decide +kernel
theorem dX0_clear_12 : decode cX0_clear 12 = .ok (.putfield 18, 3) := by decide +kernel
theorem dX0_clear_15 : decode cX0_clear 15 = .ok (.return_, 1) := by decide +kernel
theorem dX0_become_0 : decode cX0_become 0 = .ok (.aload_n 0, 1) := by decide +kernel
theorem dX0_become_1 : decode cX0_become 1 = .ok (.aload_n 1, 1) := by decide +kernel
theorem dX0_become_2 : decode cX0_become 2 = .ok (.getfield 9, 3) := by decide +kernel
theorem dX0_become_5 : decode cX0_become 5 = .ok (.putfield 9, 3) := by decide +kernel
theorem dX0_become_8 : decode cX0_become 8 = .ok (.aload_n 0, 1) := by decide +kernel
theorem dX0_become_9 : decode cX0_become 9 = .ok (.aload_n 1, 1) := by decide +kernel
theorem dX0_become_10 : decode cX0_become 10 = .ok (.getfield 15, 3) := by decide +kernel
theorem dX0_become_13 : decode cX0_become 13 = .ok (.putfield 15, 3) := by decide +kernel
theorem dX0_become_16 : decode cX0_become 16 = .ok (.aload_n 0, 1) := by decide +kernel
theorem dX0_become_17 : decode cX0_become 17 = .ok (.aload_n 1, 1) := by decide +kernel
theorem dX0_become_18 : decode cX0_become 18 = .ok (.getfield 18, 3) := by decide +kernel
theorem dX0_become_21 : decode cX0_become 21 = .ok (.putfield 18, 3) := by decide +kernel
theorem dX0_become_24 : decode cX0_become 24 = .ok (.aload_n 1, 1) := by decide +kernel
theorem dX0_become_25 : decode cX0_become 25 = .ok (.getfield 21, 3) := by decide +kernel
theorem dX0_become_28 : decode cX0_become 28 = .ok (.iconst 0, 1) := by decide +kernel
theorem dX0_become_29 : decode cX0_become 29 = .ok (.aload_n 0, 1) := by decide +kernel
theorem dX0_become_30 : decode cX0_become 30 = .ok (.getfield 21, 3) := by decide +kernel
theorem dX0_become_33 : decode cX0_become 33 = .ok (.iconst 0, 1) := by decide +kernel
theorem dX0_become_34 : decode cX0_become 34 = .ok (.iconst 4, 1) := by decide +kernel
theorem dX0_become_35 : decode cX0_become 35 = .ok (.invokestatic 52, 3) := by decide +kernel
theorem dX0_become_38 : decode cX0_become 38 = .ok (.aload_n 1, 1) := by decide +kernel
theorem dX0_become_39 : decode cX0_become 39 = .ok (.getfield 25, 3) := by decide +kernel
theorem dX0_become_42 : decode cX0_become 42 = .ok (.iconst 0, 1) := by decide +kernel
theorem dX0_become_43 : decode cX0_become 43 = .ok (.aload_n 0, 1) := by decide +kernel
theorem dX0_become_44 : decode cX0_become 44 = .ok (.getfield 25, 3) := by decide +kernel
theorem dX0_become_47 : decode cX0_become 47 = .ok (.iconst 0, 1) := by decide +kernel
theorem dX0_become_48 : decode cX0_become 48 = .ok (.iconst 4, 1) := by decide +kernel
theorem dX0_become_49 : decode cX0_become 49 = .ok (.invokestatic 52, 3) := by decide +kernel
theorem dX0_become_52 : decode cX0_become 52 = .ok (.aload_n 1, 1) := by decide +kernel
theorem dX0_become_53 : decode cX0_become 53 = .ok (.getfield 28, 3) := by decide +kernel
theorem dX0_become_56 : decode cX0_become 56 = .ok (.iconst 0, 1) := by decide +kernel
theorem dX0_become_57 : decode cX0_become 57 = .ok (.aload_n 0, 1) := by decide +kernel
theorem dX0_become_58 : decode cX0_become 58 = .ok (.getfield 28, 3) := by decide +kernel
theorem dX0_become_61 : decode cX0_become 61 = .ok (.iconst 0, 1) := by decide +kernel
theorem dX0_become_62 : decode cX0_become 62 = .ok (.iconst 4, 1) := by decide +kernel
theorem dX0_become_63 : decode cX0_become 63 = .ok (.invokestatic 52, 3) := by decide +kernel
theorem dX0_become_66 : decode cX0_become 66 = .ok (.aload_n 1, 1) := by decide +kernel
theorem dX0_become_67 : decode cX0_become 67 = .ok (.getfield 31, 3) := by decide +kernel
theorem dX0_become_70 : decode cX0_become 70 = .ok (.iconst 0, 1) := by decide +kernel
theorem dX0_become_71 : decode cX0_become 71 = .ok (.aload_n 0, 1) := by decide +kernel
theorem dX0_become_72 : decode cX0_become 72 = .ok (.getfield 31, 3) := by decide +kernel
theorem dX0_become_75 : decode cX0_become 75 = .ok (.iconst 0, 1) := by decide +kernel
theorem dX0_become_76 : decode cX0_become 76 = .ok (.iconst 4, 1) := by decide +kernel
theorem dX0_become_77 : decode cX0_become 77 = .ok (.invokestatic 52, 3) := by decide +kernel
theorem dX0_become_80 : decode cX0_become 80 = .ok (.aload_n 1, 1) := by decide +kernel
theorem dX0_become_81 : decode cX0_become 81 = .ok (.getfield 34, 3) := by decide +kernel
theorem dX0_become_84 : decode cX0_become 84 = .ok (.iconst 0, 1) := by decide +kernel
theorem dX0_become_85 : decode cX0_become 85 = .ok (.aload_n 0, 1) := by decide +kernel
theorem dX0_become_86 : decode cX0_become 86 = .ok (.getfield 34, 3) := by decide +kernel
theorem dX0_become_89 : decode cX0_become 89 = .ok (.iconst 0, 1) := by decide +kernel
theorem dX0_become_90 : decode cX0_become 90 = .ok (.bipush 32, 2) := by decide +kernel
theorem dX0_become_92 : decode cX0_become 92 = .ok (.invokestatic 52, 3) := by decide +kernel
theorem dX0_become_95 : decode cX0_become 95 = .ok (.aload_n 1, 1) := by decide +kernel
theorem dX0_become_96 : decode cX0_become 96 = .ok (.getfield 37, 3) := by decide +kernel
theorem dX0_become_99 : decode cX0_become 99 = .ok (.iconst 0, 1) := by decide +kernel
theorem dX0_become_100 : decode cX0_become 100 = .ok (.aload_n 0, 1) := by decide +kernel
theorem dX0_become_101 : decode cX0_become 101 = .ok (.getfield 37, 3) := by decide +kernel
theorem dX0_become_104 : decode cX0_become 104 = .ok (.iconst 0, 1) := by decide +kernel
theorem dX0_become_105 : decode cX0_become 105 = .ok (.iconst 4, 1) := by decide +kernel
theorem dX0_become_106 : decode cX0_become 106 = .ok (.invokestatic 52, 3) := by decide +kernel
theorem dX0_become_109 : decode cX0_become 109 = .ok (.aload_n 1, 1) := by decide +kernel
theorem dX0_become_110 : decode cX0_become 110 = .ok (.getfield 40, 3) := by decide +kernel
theorem dX0_become_113 : decode cX0_become 113 = .ok (.iconst 0, 1) := by decide +kernel
theorem dX0_become_114 : decode cX0_become 114 = .ok (.aload_n 0, 1) := by decide +kernel
theorem dX0_become_115 : decode cX0_become 115 = .ok (.getfield 40, 3) := by decide +kernel
theorem dX0_become_118 : decode cX0_become 118 = .ok (.iconst 0, 1) := by decide +kernel
theorem dX0_become_119 : decode cX0_become 119 = .ok (.iconst 4, 1) := by decide +kernel
theorem dX0_become_120 : decode cX0_become 120 = .ok (.invokestatic 52, 3) := by decide +kernel
theorem dX0_become_123 : decode cX0_become 123 = .ok (.aload_n 1, 1) := by decide +kernel
theorem dX0_become_124 : decode cX0_become 124 = .ok (.getfield 43, 3) := by decide +kernel
theorem dX0_become_127 : decode cX0_become 127 = .ok (.iconst 0, 1) := by decide +kernel
theorem dX0_become_128 : decode cX0_become 128 = .ok (.aload_n 0, 1) := by decide +kernel
theorem dX0_become_129 : decode cX0_become 129 = .ok (.getfield 43, 3) := by decide +kernel
theorem dX0_become_132 : decode cX0_become 132 = .ok (.iconst 0, 1) := by decide +kernel
theorem dX0_become_133 : decode cX0_become 133 = .ok (.iconst 4, 1) := by decide +kernel
theorem dX0_become_134 : decode cX0_become 134 = .ok (.invokestatic 52, 3) := by decide +kernel
theorem dX0_become_137 : decode cX0_become 137 = .ok (.aload_n 1, 1) := by decide +kernel
theorem dX0_become_138 : decode cX0_become 138 = .ok (.getfield 46, 3) := by decide +kernel
theorem dX0_become_141 : decode cX0_become 141 = .ok (.iconst 0, 1) := by decide +kernel
theorem dX0_become_142 : decode cX0_become 142 = .ok (.aload_n 0, 1) := by decide +kernel
theorem dX0_become_143 : decode cX0_become 143 = .ok (.getfield 46, 3) := by decide +kernel
theorem dX0_become_146 : decode cX0_become 146 = .ok (.iconst 0, 1) := by decide +kernel
theorem dX0_become_147 : decode cX0_become 147 = .ok (.iconst 4, 1) := by decide +kernel
theorem dX0_become_148 : decode cX0_become 148 = .ok (.invokestatic 52, 3) := by decide +kernel
theorem dX0_become_151 : decode cX0_become 151 = .ok (.aload_n 1, 1) := by decide +kernel
theorem dX0_become_152 : decode cX0_become 152 = .ok (.getfield 49, 3) := by decide +kernel
theorem dX0_become_155 : decode cX0_become 155 = .ok (.iconst 0, 1) := by decide +kernel
theorem dX0_become_156 : decode cX0_become 156 = .ok (.aload_n 0, 1) := by decide +kernel
theorem dX0_become_157 : decode cX0_become 157 = .ok (.getfield 49, 3) := by decide +kernel
theorem dX0_become_160 : decode cX0_become 160 = .ok (.iconst 0, 1) := by decide +kernel
theorem dX0_become_161 : decode cX0_become 161 = .ok (.bipush 6, 2) := by decide +kernel
theorem dX0_become_163 : decode cX0_become 163 = .ok (.invokestatic 52, 3) := by decide +kernel
theorem dX0_become_166 : decode cX0_become 166 = .ok (.return_, 1) := by decide +kernel
theorem dX0_hasTune_0 : decode cX0_hasTune 0 = .ok (.iload_n 1, 1) := by decide +kernel
theorem dX0_hasTune_1 : decode cX0_hasTune 1 = .ok (.iconst 0, 1) := by decide +kernel
theorem dX0_hasTune_2 : decode cX0_hasTune 2 = .ok (.aload_n 0, 1) := by decide +kernel
theorem dX0_hasTune_3 : decode cX0_hasTune 3 = .ok (.getfield 9, 3) := by decide +kernel
theorem dX0_hasTune_6 : decode cX0_hasTune 6 = .ok (.iconst 1, 1) := by decide +kernel
theorem dX0_hasTune_7 : decode cX0_hasTune 7 = .ok (.isub, 1) := by decide +kernel
theorem dX0_hasTune_8 : decode cX0_hasTune 8 = .ok (.invokestatic 58, 3) := by decide +kernel
theorem dX0_hasTune_11 : decode cX0_hasTune 11 = .ok (.ireturn, 1) := by decide +kernel
theorem dX0_hasNote_0 : decode cX0_hasNote 0 = .ok (.aload_n 0, 1) := by decide +kernel
theorem dX0_hasNote_1 : decode cX0_hasNote 1 = .ok (.iload_n 1, 1) := by decide +kernel
theorem dX0_hasNote_2 : decode cX0_hasNote 2 = .ok (.invokevirtual 62, 3) := by decide +kernel
theorem dX0_hasNote_5 : decode cX0_hasNote 5 = .ok (.ifCond .eq 23, 3) := by decide +kernel
theorem dX0_hasNote_8 : decode cX0_hasNote 8 = .ok (.iload_n 2, 1) := by decide +kernel
theorem dX0_hasNote_9 : decode cX0_hasNote 9 = .ok (.iconst 0, 1) := by decide +kernel
theorem dX0_hasNote_10 : decode cX0_hasNote 10 = .ok (.aload_n 0, 1) := by decide +kernel
theorem dX0_hasNote_11 : decode cX0_hasNote 11 = .ok (.getfield 25, 3) := by decide +kernel
theorem dX0_hasNote_14 : decode cX0_hasNote 14 = .ok (.iload_n 1, 1) := by decide +kernel
theorem dX0_hasNote_15 : decode cX0_hasNote 15 = .ok (.iaload, 1) := by decide +kernel
theorem dX0_hasNote_16 : decode cX0_hasNote 16 = .ok (.iconst 1, 1) := by decide +kernel
theorem dX0_hasNote_17 : decode cX0_hasNote 17 = .ok (.isub, 1) := by decide +kernel
theorem dX0_hasNote_18 : decode cX0_hasNote 18 = .ok (.invokestatic 58, 3) := by decide +kernel
theorem dX0_hasNote_21 : decode cX0_hasNote 21 = .ok (.ifCond .eq 7, 3) := by decide +kernel
theorem dX0_hasNote_24 : decode cX0_hasNote 24 = .ok (.iconst 1, 1) := by decide +kernel
theorem dX0_hasNote_25 : decode cX0_hasNote 25 = .ok (.goto 4, 3) := by decide +kernel
theorem dX0_hasNote_28 : decode cX0_hasNote 28 = .ok (.iconst 0, 1) := by decide +kernel
theorem dX0_hasNote_29 : decode cX0_hasNote 29 = .ok (.ireturn, 1) := by decide +kernel
theorem dX0_hasPlayer_0 : decode cX0_hasPlayer 0 = .ok (.iload_n 1, 1) := by decide +kernel
theorem dX0_hasPlayer_1 : decode cX0_hasPlayer 1 = .ok (.iconst 0, 1) := by decide +kernel
theorem dX0_hasPlayer_2 : decode cX0_hasPlayer 2 = .ok (.aload_n 0, 1) := by decide +kernel
theorem dX0_hasPlayer_3 : decode cX0_hasPlayer 3 = .ok (.getfield 15, 3) := by decide +kernel
theorem dX0_hasPlayer_6 : decode cX0_hasPlayer 6 = .ok (.iconst 1, 1) := by decide +kernel
theorem dX0_hasPlayer_7 : decode cX0_hasPlayer 7 = .ok (.isub, 1) := by decide +kernel
theorem dX0_hasPlayer_8 : decode cX0_hasPlayer 8 = .ok (.invokestatic 58, 3) := by decide +kernel
theorem dX0_hasPlayer_11 : decode cX0_hasPlayer 11 = .ok (.ireturn, 1) := by decide +kernel
theorem dX0_hasPrisoner_0 : decode cX0_hasPrisoner 0 = .ok (.iload_n 1, 1) := by decide +kernel
theorem dX0_hasPrisoner_1 : decode cX0_hasPrisoner 1 = .ok (.iconst 0, 1) := by decide +kernel
theorem dX0_hasPrisoner_2 : decode cX0_hasPrisoner 2 = .ok (.aload_n 0, 1) := by decide +kernel
theorem dX0_hasPrisoner_3 : decode cX0_hasPrisoner 3 = .ok (.getfield 18, 3) := by decide +kernel
theorem dX0_hasPrisoner_6 : decode cX0_hasPrisoner 6 = .ok (.iconst 1, 1) := by decide +kernel
theorem dX0_hasPrisoner_7 : decode cX0_hasPrisoner 7 = .ok (.isub, 1) := by decide +kernel
theorem dX0_hasPrisoner_8 : decode cX0_hasPrisoner 8 = .ok (.invokestatic 58, 3) := by decide +kernel
theorem dX0_hasPrisoner_11 : decode cX0_hasPrisoner 11 = .ok (.ireturn, 1) := by decide +kernel
theorem dX0_rowLength_0 : decode cX0_rowLength 0 = .ok (.iload_n 0, 1) := by decide +kernel
theorem dX0_rowLength_1 : decode cX0_rowLength 1 = .ok (.lookupswitch 39 #[(1, 27), (2, 35)], 27) := by decide +kernel
theorem dX0_rowLength_28 : decode cX0_rowLength 28 = .ok (.iload_n 1, 1) := by decide +kernel
theorem dX0_rowLength_29 : decode cX0_rowLength 29 = .ok (.iload_n 1, 1) := by decide +kernel
theorem dX0_rowLength_30 : decode cX0_rowLength 30 = .ok (.iconst 1, 1) := by decide +kernel
theorem dX0_rowLength_31 : decode cX0_rowLength 31 = .ok (.iadd, 1) := by decide +kernel
theorem dX0_rowLength_32 : decode cX0_rowLength 32 = .ok (.iconst 2, 1) := by decide +kernel
theorem dX0_rowLength_33 : decode cX0_rowLength 33 = .ok (.idiv, 1) := by decide +kernel
theorem dX0_rowLength_34 : decode cX0_rowLength 34 = .ok (.iadd, 1) := by decide +kernel
theorem dX0_rowLength_35 : decode cX0_rowLength 35 = .ok (.ireturn, 1) := by decide +kernel
theorem dX0_rowLength_36 : decode cX0_rowLength 36 = .ok (.iconst 2, 1) := by decide +kernel
theorem dX0_rowLength_37 : decode cX0_rowLength 37 = .ok (.iload_n 1, 1) := by decide +kernel
theorem dX0_rowLength_38 : decode cX0_rowLength 38 = .ok (.imul, 1) := by decide +kernel
theorem dX0_rowLength_39 : decode cX0_rowLength 39 = .ok (.ireturn, 1) := by decide +kernel
theorem dX0_rowLength_40 : decode cX0_rowLength 40 = .ok (.iload_n 1, 1) := by decide +kernel
theorem dX0_rowLength_41 : decode cX0_rowLength 41 = .ok (.ireturn, 1) := by decide +kernel
theorem dX0_lengthAs_0 : decode cX0_lengthAs 0 = .ok (.aload_n 0, 1) := by decide +kernel
theorem dX0_lengthAs_1 : decode cX0_lengthAs 1 = .ok (.getfield 28, 3) := by decide +kernel
theorem dX0_lengthAs_4 : decode cX0_lengthAs 4 = .ok (.iload_n 1, 1) := by decide +kernel
theorem dX0_lengthAs_5 : decode cX0_lengthAs 5 = .ok (.iaload, 1) := by decide +kernel
theorem dX0_lengthAs_6 : decode cX0_lengthAs 6 = .ok (.iload_n 2, 1) := by decide +kernel
theorem dX0_lengthAs_7 : decode cX0_lengthAs 7 = .ok (.aload_n 0, 1) := by decide +kernel
theorem dX0_lengthAs_8 : decode cX0_lengthAs 8 = .ok (.getfield 25, 3) := by decide +kernel
theorem dX0_lengthAs_11 : decode cX0_lengthAs 11 = .ok (.iload_n 1, 1) := by decide +kernel
theorem dX0_lengthAs_12 : decode cX0_lengthAs 12 = .ok (.iaload, 1) := by decide +kernel
theorem dX0_lengthAs_13 : decode cX0_lengthAs 13 = .ok (.invokestatic 66, 3) := by decide +kernel
theorem dX0_lengthAs_16 : decode cX0_lengthAs 16 = .ok (.imul, 1) := by decide +kernel
theorem dX0_lengthAs_17 : decode cX0_lengthAs 17 = .ok (.ireturn, 1) := by decide +kernel
theorem dX0_rowNote_0 : decode cX0_rowNote 0 = .ok (.aload_n 0, 1) := by decide +kernel
theorem dX0_rowNote_1 : decode cX0_rowNote 1 = .ok (.getfield 25, 3) := by decide +kernel
theorem dX0_rowNote_4 : decode cX0_rowNote 4 = .ok (.iload_n 1, 1) := by decide +kernel
theorem dX0_rowNote_5 : decode cX0_rowNote 5 = .ok (.iaload, 1) := by decide +kernel
theorem dX0_rowNote_6 : decode cX0_rowNote 6 = .ok (.istore 4, 2) := by decide +kernel
theorem dX0_rowNote_8 : decode cX0_rowNote 8 = .ok (.iload_n 2, 1) := by decide +kernel
theorem dX0_rowNote_9 : decode cX0_rowNote 9 = .ok (.iconst 2, 1) := by decide +kernel
theorem dX0_rowNote_10 : decode cX0_rowNote 10 = .ok (.if_icmp .ne 14, 3) := by decide +kernel
theorem dX0_rowNote_13 : decode cX0_rowNote 13 = .ok (.iconst 2, 1) := by decide +kernel
theorem dX0_rowNote_14 : decode cX0_rowNote 14 = .ok (.iload 4, 2) := by decide +kernel
theorem dX0_rowNote_16 : decode cX0_rowNote 16 = .ok (.imul, 1) := by decide +kernel
theorem dX0_rowNote_17 : decode cX0_rowNote 17 = .ok (.iconst 1, 1) := by decide +kernel
theorem dX0_rowNote_18 : decode cX0_rowNote 18 = .ok (.isub, 1) := by decide +kernel
theorem dX0_rowNote_19 : decode cX0_rowNote 19 = .ok (.iload_n 3, 1) := by decide +kernel
theorem dX0_rowNote_20 : decode cX0_rowNote 20 = .ok (.isub, 1) := by decide +kernel
theorem dX0_rowNote_21 : decode cX0_rowNote 21 = .ok (.goto 7, 3) := by decide +kernel
theorem dX0_rowNote_24 : decode cX0_rowNote 24 = .ok (.iload_n 3, 1) := by decide +kernel
theorem dX0_rowNote_25 : decode cX0_rowNote 25 = .ok (.iload 4, 2) := by decide +kernel
theorem dX0_rowNote_27 : decode cX0_rowNote 27 = .ok (.isub, 1) := by decide +kernel
theorem dX0_rowNote_28 : decode cX0_rowNote 28 = .ok (.istore 5, 2) := by decide +kernel
theorem dX0_rowNote_30 : decode cX0_rowNote 30 = .ok (.aload_n 0, 1) := by decide +kernel
theorem dX0_rowNote_31 : decode cX0_rowNote 31 = .ok (.getfield 34, 3) := by decide +kernel
theorem dX0_rowNote_34 : decode cX0_rowNote 34 = .ok (.iload_n 1, 1) := by decide +kernel
theorem dX0_rowNote_35 : decode cX0_rowNote 35 = .ok (.bipush 8, 2) := by decide +kernel
theorem dX0_rowNote_37 : decode cX0_rowNote 37 = .ok (.imul, 1) := by decide +kernel
theorem dX0_rowNote_38 : decode cX0_rowNote 38 = .ok (.iload_n 3, 1) := by decide +kernel
theorem dX0_rowNote_39 : decode cX0_rowNote 39 = .ok (.iload 4, 2) := by decide +kernel
theorem dX0_rowNote_41 : decode cX0_rowNote 41 = .ok (.if_icmp .ge 7, 3) := by decide +kernel
theorem dX0_rowNote_44 : decode cX0_rowNote 44 = .ok (.iload_n 3, 1) := by decide +kernel
theorem dX0_rowNote_45 : decode cX0_rowNote 45 = .ok (.goto 5, 3) := by decide +kernel
theorem dX0_rowNote_48 : decode cX0_rowNote 48 = .ok (.iload 5, 2) := by decide +kernel
theorem dX0_rowNote_50 : decode cX0_rowNote 50 = .ok (.iadd, 1) := by decide +kernel
theorem dX0_rowNote_51 : decode cX0_rowNote 51 = .ok (.iaload, 1) := by decide +kernel
theorem dX0_rowNote_52 : decode cX0_rowNote 52 = .ok (.istore 6, 2) := by decide +kernel
theorem dX0_rowNote_54 : decode cX0_rowNote 54 = .ok (.iload_n 2, 1) := by decide +kernel
theorem dX0_rowNote_55 : decode cX0_rowNote 55 = .ok (.iconst 3, 1) := by decide +kernel
theorem dX0_rowNote_56 : decode cX0_rowNote 56 = .ok (.if_icmp .ne 14, 3) := by decide +kernel
theorem dX0_rowNote_59 : decode cX0_rowNote 59 = .ok (.iload 6, 2) := by decide +kernel
theorem dX0_rowNote_61 : decode cX0_rowNote 61 = .ok (.iconst 1, 1) := by decide +kernel
theorem dX0_rowNote_62 : decode cX0_rowNote 62 = .ok (.isub, 1) := by decide +kernel
theorem dX0_rowNote_63 : decode cX0_rowNote 63 = .ok (.iconst 0, 1) := by decide +kernel
theorem dX0_rowNote_64 : decode cX0_rowNote 64 = .ok (.invokestatic 70, 3) := by decide +kernel
theorem dX0_rowNote_67 : decode cX0_rowNote 67 = .ok (.goto 5, 3) := by decide +kernel
theorem dX0_rowNote_70 : decode cX0_rowNote 70 = .ok (.iload 6, 2) := by decide +kernel
theorem dX0_rowNote_72 : decode cX0_rowNote 72 = .ok (.ireturn, 1) := by decide +kernel
theorem dX0_noteAs_0 : decode cX0_noteAs 0 = .ok (.iload_n 2, 1) := by decide +kernel
theorem dX0_noteAs_1 : decode cX0_noteAs 1 = .ok (.aload_n 0, 1) := by decide +kernel
theorem dX0_noteAs_2 : decode cX0_noteAs 2 = .ok (.getfield 25, 3) := by decide +kernel
theorem dX0_noteAs_5 : decode cX0_noteAs 5 = .ok (.iload_n 1, 1) := by decide +kernel
theorem dX0_noteAs_6 : decode cX0_noteAs 6 = .ok (.iaload, 1) := by decide +kernel
theorem dX0_noteAs_7 : decode cX0_noteAs 7 = .ok (.invokestatic 66, 3) := by decide +kernel
theorem dX0_noteAs_10 : decode cX0_noteAs 10 = .ok (.istore 4, 2) := by decide +kernel
theorem dX0_noteAs_12 : decode cX0_noteAs 12 = .ok (.iload_n 3, 1) := by decide +kernel
theorem dX0_noteAs_13 : decode cX0_noteAs 13 = .ok (.aload_n 0, 1) := by decide +kernel
theorem dX0_noteAs_14 : decode cX0_noteAs 14 = .ok (.getfield 31, 3) := by decide +kernel
theorem dX0_noteAs_17 : decode cX0_noteAs 17 = .ok (.iload_n 1, 1) := by decide +kernel
theorem dX0_noteAs_18 : decode cX0_noteAs 18 = .ok (.iaload, 1) := by decide +kernel
theorem dX0_noteAs_19 : decode cX0_noteAs 19 = .ok (.isub, 1) := by decide +kernel
theorem dX0_noteAs_20 : decode cX0_noteAs 20 = .ok (.istore 5, 2) := by decide +kernel
theorem dX0_noteAs_22 : decode cX0_noteAs 22 = .ok (.iload 4, 2) := by decide +kernel
theorem dX0_noteAs_24 : decode cX0_noteAs 24 = .ok (.iconst 1, 1) := by decide +kernel
theorem dX0_noteAs_25 : decode cX0_noteAs 25 = .ok (.if_icmp .lt 22, 3) := by decide +kernel
theorem dX0_noteAs_28 : decode cX0_noteAs 28 = .ok (.iload 5, 2) := by decide +kernel
theorem dX0_noteAs_30 : decode cX0_noteAs 30 = .ok (.ifCond .lt 17, 3) := by decide +kernel
theorem dX0_noteAs_33 : decode cX0_noteAs 33 = .ok (.iload 5, 2) := by decide +kernel
theorem dX0_noteAs_35 : decode cX0_noteAs 35 = .ok (.aload_n 0, 1) := by decide +kernel
theorem dX0_noteAs_36 : decode cX0_noteAs 36 = .ok (.getfield 28, 3) := by decide +kernel
theorem dX0_noteAs_39 : decode cX0_noteAs 39 = .ok (.iload_n 1, 1) := by decide +kernel
theorem dX0_noteAs_40 : decode cX0_noteAs 40 = .ok (.iaload, 1) := by decide +kernel
theorem dX0_noteAs_41 : decode cX0_noteAs 41 = .ok (.iload 4, 2) := by decide +kernel
theorem dX0_noteAs_43 : decode cX0_noteAs 43 = .ok (.imul, 1) := by decide +kernel
theorem dX0_noteAs_44 : decode cX0_noteAs 44 = .ok (.if_icmp .lt 6, 3) := by decide +kernel
theorem dX0_noteAs_47 : decode cX0_noteAs 47 = .ok (.bipush (-4), 2) := by decide +kernel
theorem dX0_noteAs_49 : decode cX0_noteAs 49 = .ok (.ireturn, 1) := by decide +kernel
theorem dX0_noteAs_50 : decode cX0_noteAs 50 = .ok (.aload_n 0, 1) := by decide +kernel
theorem dX0_noteAs_51 : decode cX0_noteAs 51 = .ok (.iload_n 1, 1) := by decide +kernel
theorem dX0_noteAs_52 : decode cX0_noteAs 52 = .ok (.iload_n 2, 1) := by decide +kernel
theorem dX0_noteAs_53 : decode cX0_noteAs 53 = .ok (.iload 5, 2) := by decide +kernel
theorem dX0_noteAs_55 : decode cX0_noteAs 55 = .ok (.iload 4, 2) := by decide +kernel
theorem dX0_noteAs_57 : decode cX0_noteAs 57 = .ok (.irem, 1) := by decide +kernel
theorem dX0_noteAs_58 : decode cX0_noteAs 58 = .ok (.invokevirtual 75, 3) := by decide +kernel
theorem dX0_noteAs_61 : decode cX0_noteAs 61 = .ok (.ireturn, 1) := by decide +kernel
theorem dX0_boundTo_0 : decode cX0_boundTo 0 = .ok (.iconst 0, 1) := by decide +kernel
theorem dX0_boundTo_1 : decode cX0_boundTo 1 = .ok (.istore_n 2, 1) := by decide +kernel
theorem dX0_boundTo_2 : decode cX0_boundTo 2 = .ok (.iconst 0, 1) := by decide +kernel
theorem dX0_boundTo_3 : decode cX0_boundTo 3 = .ok (.istore_n 3, 1) := by decide +kernel
theorem dX0_boundTo_4 : decode cX0_boundTo 4 = .ok (.iload_n 3, 1) := by decide +kernel
theorem dX0_boundTo_5 : decode cX0_boundTo 5 = .ok (.aload_n 0, 1) := by decide +kernel
theorem dX0_boundTo_6 : decode cX0_boundTo 6 = .ok (.getfield 18, 3) := by decide +kernel
theorem dX0_boundTo_9 : decode cX0_boundTo 9 = .ok (.if_icmp .ge 25, 3) := by decide +kernel
theorem dX0_boundTo_12 : decode cX0_boundTo 12 = .ok (.aload_n 0, 1) := by decide +kernel
theorem dX0_boundTo_13 : decode cX0_boundTo 13 = .ok (.getfield 49, 3) := by decide +kernel
theorem dX0_boundTo_16 : decode cX0_boundTo 16 = .ok (.iload_n 3, 1) := by decide +kernel
theorem dX0_boundTo_17 : decode cX0_boundTo 17 = .ok (.iaload, 1) := by decide +kernel
theorem dX0_boundTo_18 : decode cX0_boundTo 18 = .ok (.iload_n 1, 1) := by decide +kernel
theorem dX0_boundTo_19 : decode cX0_boundTo 19 = .ok (.if_icmp .ne 9, 3) := by decide +kernel
theorem dX0_boundTo_22 : decode cX0_boundTo 22 = .ok (.iload_n 2, 1) := by decide +kernel
theorem dX0_boundTo_23 : decode cX0_boundTo 23 = .ok (.iconst 1, 1) := by decide +kernel
theorem dX0_boundTo_24 : decode cX0_boundTo 24 = .ok (.iload_n 3, 1) := by decide +kernel
theorem dX0_boundTo_25 : decode cX0_boundTo 25 = .ok (.ishl, 1) := by decide +kernel
theorem dX0_boundTo_26 : decode cX0_boundTo 26 = .ok (.ior, 1) := by decide +kernel
theorem dX0_boundTo_27 : decode cX0_boundTo 27 = .ok (.istore_n 2, 1) := by decide +kernel
theorem dX0_boundTo_28 : decode cX0_boundTo 28 = .ok (.iinc 3 1, 3) := by decide +kernel
theorem dX0_boundTo_31 : decode cX0_boundTo 31 = .ok (.goto (-27), 3) := by decide +kernel
theorem dX0_boundTo_34 : decode cX0_boundTo 34 = .ok (.iload_n 2, 1) := by decide +kernel
theorem dX0_boundTo_35 : decode cX0_boundTo 35 = .ok (.ireturn, 1) := by decide +kernel
theorem dX0_allNotes_0 : decode cX0_allNotes 0 = .ok (.iconst 0, 1) := by decide +kernel
theorem dX0_allNotes_1 : decode cX0_allNotes 1 = .ok (.istore_n 1, 1) := by decide +kernel
theorem dX0_allNotes_2 : decode cX0_allNotes 2 = .ok (.iconst 0, 1) := by decide +kernel
theorem dX0_allNotes_3 : decode cX0_allNotes 3 = .ok (.istore_n 2, 1) := by decide +kernel
theorem dX0_allNotes_4 : decode cX0_allNotes 4 = .ok (.iload_n 2, 1) := by decide +kernel
theorem dX0_allNotes_5 : decode cX0_allNotes 5 = .ok (.aload_n 0, 1) := by decide +kernel
theorem dX0_allNotes_6 : decode cX0_allNotes 6 = .ok (.getfield 9, 3) := by decide +kernel
theorem dX0_allNotes_9 : decode cX0_allNotes 9 = .ok (.if_icmp .ge 18, 3) := by decide +kernel
theorem dX0_allNotes_12 : decode cX0_allNotes 12 = .ok (.iload_n 1, 1) := by decide +kernel
theorem dX0_allNotes_13 : decode cX0_allNotes 13 = .ok (.aload_n 0, 1) := by decide +kernel
theorem dX0_allNotes_14 : decode cX0_allNotes 14 = .ok (.getfield 25, 3) := by decide +kernel
theorem dX0_allNotes_17 : decode cX0_allNotes 17 = .ok (.iload_n 2, 1) := by decide +kernel
theorem dX0_allNotes_18 : decode cX0_allNotes 18 = .ok (.iaload, 1) := by decide +kernel
theorem dX0_allNotes_19 : decode cX0_allNotes 19 = .ok (.iadd, 1) := by decide +kernel
theorem dX0_allNotes_20 : decode cX0_allNotes 20 = .ok (.istore_n 1, 1) := by decide +kernel
theorem dX0_allNotes_21 : decode cX0_allNotes 21 = .ok (.iinc 2 1, 3) := by decide +kernel
theorem dX0_allNotes_24 : decode cX0_allNotes 24 = .ok (.goto (-20), 3) := by decide +kernel
theorem dX0_allNotes_27 : decode cX0_allNotes 27 = .ok (.iload_n 1, 1) := by decide +kernel
theorem dX0_allNotes_28 : decode cX0_allNotes 28 = .ok (.ireturn, 1) := by decide +kernel
theorem dX0_allLengths_0 : decode cX0_allLengths 0 = .ok (.iconst 0, 1) := by decide +kernel
theorem dX0_allLengths_1 : decode cX0_allLengths 1 = .ok (.istore_n 1, 1) := by decide +kernel
theorem dX0_allLengths_2 : decode cX0_allLengths 2 = .ok (.iconst 0, 1) := by decide +kernel
theorem dX0_allLengths_3 : decode cX0_allLengths 3 = .ok (.istore_n 2, 1) := by decide +kernel
theorem dX0_allLengths_4 : decode cX0_allLengths 4 = .ok (.iload_n 2, 1) := by decide +kernel
theorem dX0_allLengths_5 : decode cX0_allLengths 5 = .ok (.aload_n 0, 1) := by decide +kernel
theorem dX0_allLengths_6 : decode cX0_allLengths 6 = .ok (.getfield 9, 3) := by decide +kernel
theorem dX0_allLengths_9 : decode cX0_allLengths 9 = .ok (.if_icmp .ge 23, 3) := by decide +kernel
theorem dX0_allLengths_12 : decode cX0_allLengths 12 = .ok (.iload_n 1, 1) := by decide +kernel
theorem dX0_allLengths_13 : decode cX0_allLengths 13 = .ok (.aload_n 0, 1) := by decide +kernel
theorem dX0_allLengths_14 : decode cX0_allLengths 14 = .ok (.iload_n 2, 1) := by decide +kernel
theorem dX0_allLengths_15 : decode cX0_allLengths 15 = .ok (.aload_n 0, 1) := by decide +kernel
theorem dX0_allLengths_16 : decode cX0_allLengths 16 = .ok (.getfield 21, 3) := by decide +kernel
theorem dX0_allLengths_19 : decode cX0_allLengths 19 = .ok (.iload_n 2, 1) := by decide +kernel
theorem dX0_allLengths_20 : decode cX0_allLengths 20 = .ok (.iaload, 1) := by decide +kernel
theorem dX0_allLengths_21 : decode cX0_allLengths 21 = .ok (.invokevirtual 79, 3) := by decide +kernel
theorem dX0_allLengths_24 : decode cX0_allLengths 24 = .ok (.iadd, 1) := by decide +kernel
theorem dX0_allLengths_25 : decode cX0_allLengths 25 = .ok (.istore_n 1, 1) := by decide +kernel
theorem dX0_allLengths_26 : decode cX0_allLengths 26 = .ok (.iinc 2 1, 3) := by decide +kernel
theorem dX0_allLengths_29 : decode cX0_allLengths 29 = .ok (.goto (-25), 3) := by decide +kernel
theorem dX0_allLengths_32 : decode cX0_allLengths 32 = .ok (.iload_n 1, 1) := by decide +kernel
theorem dX0_allLengths_33 : decode cX0_allLengths 33 = .ok (.ireturn, 1) := by decide +kernel
theorem dX0_rebind_0 : decode cX0_rebind 0 = .ok (.aload_n 0, 1) := by decide +kernel
theorem dX0_rebind_1 : decode cX0_rebind 1 = .ok (.iload_n 1, 1) := by decide +kernel
theorem dX0_rebind_2 : decode cX0_rebind 2 = .ok (.invokevirtual 82, 3) := by decide +kernel
theorem dX0_rebind_5 : decode cX0_rebind 5 = .ok (.ifCond .eq 11, 3) := by decide +kernel
theorem dX0_rebind_8 : decode cX0_rebind 8 = .ok (.aload_n 0, 1) := by decide +kernel
theorem dX0_rebind_9 : decode cX0_rebind 9 = .ok (.iload_n 2, 1) := by decide +kernel
theorem dX0_rebind_10 : decode cX0_rebind 10 = .ok (.invokevirtual 62, 3) := by decide +kernel
theorem dX0_rebind_13 : decode cX0_rebind 13 = .ok (.ifCond .ne 5, 3) := by decide +kernel
theorem dX0_rebind_16 : decode cX0_rebind 16 = .ok (.iconst (-1), 1) := by decide +kernel
theorem dX0_rebind_17 : decode cX0_rebind 17 = .ok (.ireturn, 1) := by decide +kernel
theorem dX0_rebind_18 : decode cX0_rebind 18 = .ok (.aload_n 0, 1) := by decide +kernel
theorem dX0_rebind_19 : decode cX0_rebind 19 = .ok (.getfield 49, 3) := by decide +kernel
theorem dX0_rebind_22 : decode cX0_rebind 22 = .ok (.iload_n 1, 1) := by decide +kernel
theorem dX0_rebind_23 : decode cX0_rebind 23 = .ok (.iaload, 1) := by decide +kernel
theorem dX0_rebind_24 : decode cX0_rebind 24 = .ok (.iload_n 2, 1) := by decide +kernel
theorem dX0_rebind_25 : decode cX0_rebind 25 = .ok (.if_icmp .ne 8, 3) := by decide +kernel
theorem dX0_rebind_28 : decode cX0_rebind 28 = .ok (.bipush (-2), 2) := by decide +kernel
theorem dX0_rebind_30 : decode cX0_rebind 30 = .ok (.goto 12, 3) := by decide +kernel
theorem dX0_rebind_33 : decode cX0_rebind 33 = .ok (.aload_n 0, 1) := by decide +kernel
theorem dX0_rebind_34 : decode cX0_rebind 34 = .ok (.getfield 49, 3) := by decide +kernel
theorem dX0_rebind_37 : decode cX0_rebind 37 = .ok (.iload_n 1, 1) := by decide +kernel
theorem dX0_rebind_38 : decode cX0_rebind 38 = .ok (.iload_n 2, 1) := by decide +kernel
theorem dX0_rebind_39 : decode cX0_rebind 39 = .ok (.invokestatic 85, 3) := by decide +kernel
theorem dX0_rebind_42 : decode cX0_rebind 42 = .ok (.ireturn, 1) := by decide +kernel
theorem dX0_spoil_0 : decode cX0_spoil 0 = .ok (.aload_n 0, 1) := by decide +kernel
theorem dX0_spoil_1 : decode cX0_spoil 1 = .ok (.getfield 25, 3) := by decide +kernel
theorem dX0_spoil_4 : decode cX0_spoil 4 = .ok (.iload_n 1, 1) := by decide +kernel
theorem dX0_spoil_5 : decode cX0_spoil 5 = .ok (.iaload, 1) := by decide +kernel
theorem dX0_spoil_6 : decode cX0_spoil 6 = .ok (.istore_n 3, 1) := by decide +kernel
theorem dX0_spoil_7 : decode cX0_spoil 7 = .ok (.iload_n 3, 1) := by decide +kernel
theorem dX0_spoil_8 : decode cX0_spoil 8 = .ok (.ifCond .le 23, 3) := by decide +kernel
theorem dX0_spoil_11 : decode cX0_spoil 11 = .ok (.aload_n 0, 1) := by decide +kernel
theorem dX0_spoil_12 : decode cX0_spoil 12 = .ok (.getfield 34, 3) := by decide +kernel
theorem dX0_spoil_15 : decode cX0_spoil 15 = .ok (.iload_n 1, 1) := by decide +kernel
theorem dX0_spoil_16 : decode cX0_spoil 16 = .ok (.bipush 8, 2) := by decide +kernel
theorem dX0_spoil_18 : decode cX0_spoil 18 = .ok (.imul, 1) := by decide +kernel
theorem dX0_spoil_19 : decode cX0_spoil 19 = .ok (.iload_n 2, 1) := by decide +kernel
theorem dX0_spoil_20 : decode cX0_spoil 20 = .ok (.iload_n 3, 1) := by decide +kernel
theorem dX0_spoil_21 : decode cX0_spoil 21 = .ok (.irem, 1) := by decide +kernel
theorem dX0_spoil_22 : decode cX0_spoil 22 = .ok (.iadd, 1) := by decide +kernel
theorem dX0_spoil_23 : decode cX0_spoil 23 = .ok (.iload_n 2, 1) := by decide +kernel
theorem dX0_spoil_24 : decode cX0_spoil 24 = .ok (.bipush 10, 2) := by decide +kernel
theorem dX0_spoil_26 : decode cX0_spoil 26 = .ok (.idiv, 1) := by decide +kernel
theorem dX0_spoil_27 : decode cX0_spoil 27 = .ok (.bipush 10, 2) := by decide +kernel
theorem dX0_spoil_29 : decode cX0_spoil 29 = .ok (.irem, 1) := by decide +kernel
theorem dX0_spoil_30 : decode cX0_spoil 30 = .ok (.iastore, 1) := by decide +kernel
theorem dX0_spoil_31 : decode cX0_spoil 31 = .ok (.return_, 1) := by decide +kernel
theorem dX0_allTunesAreThere_0 : decode cX0_allTunesAreThere 0 = .ok (.iconst 0, 1) := by decide +kernel
theorem dX0_allTunesAreThere_1 : decode cX0_allTunesAreThere 1 = .ok (.istore_n 1, 1) := by decide +kernel
theorem dX0_allTunesAreThere_2 : decode cX0_allTunesAreThere 2 = .ok (.iload_n 1, 1) := by decide +kernel
theorem dX0_allTunesAreThere_3 : decode cX0_allTunesAreThere 3 = .ok (.aload_n 0, 1) := by decide +kernel
theorem dX0_allTunesAreThere_4 : decode cX0_allTunesAreThere 4 = .ok (.getfield 15, 3) := by decide +kernel
theorem dX0_allTunesAreThere_7 : decode cX0_allTunesAreThere 7 = .ok (.if_icmp .ge 24, 3) := by decide +kernel
theorem dX0_allTunesAreThere_10 : decode cX0_allTunesAreThere 10 = .ok (.aload_n 0, 1) := by decide +kernel
theorem dX0_allTunesAreThere_11 : decode cX0_allTunesAreThere 11 = .ok (.aload_n 0, 1) := by decide +kernel
theorem dX0_allTunesAreThere_12 : decode cX0_allTunesAreThere 12 = .ok (.getfield 46, 3) := by decide +kernel
theorem dX0_allTunesAreThere_15 : decode cX0_allTunesAreThere 15 = .ok (.iload_n 1, 1) := by decide +kernel
theorem dX0_allTunesAreThere_16 : decode cX0_allTunesAreThere 16 = .ok (.iaload, 1) := by decide +kernel
theorem dX0_allTunesAreThere_17 : decode cX0_allTunesAreThere 17 = .ok (.invokevirtual 62, 3) := by decide +kernel
theorem dX0_allTunesAreThere_20 : decode cX0_allTunesAreThere 20 = .ok (.ifCond .ne 5, 3) := by decide +kernel
theorem dX0_allTunesAreThere_23 : decode cX0_allTunesAreThere 23 = .ok (.iconst 0, 1) := by decide +kernel
theorem dX0_allTunesAreThere_24 : decode cX0_allTunesAreThere 24 = .ok (.ireturn, 1) := by decide +kernel
theorem dX0_allTunesAreThere_25 : decode cX0_allTunesAreThere 25 = .ok (.iinc 1 1, 3) := by decide +kernel
theorem dX0_allTunesAreThere_28 : decode cX0_allTunesAreThere 28 = .ok (.goto (-26), 3) := by decide +kernel
theorem dX0_allTunesAreThere_31 : decode cX0_allTunesAreThere 31 = .ok (.iconst 0, 1) := by decide +kernel
theorem dX0_allTunesAreThere_32 : decode cX0_allTunesAreThere 32 = .ok (.istore_n 1, 1) := by decide +kernel
theorem dX0_allTunesAreThere_33 : decode cX0_allTunesAreThere 33 = .ok (.iload_n 1, 1) := by decide +kernel
theorem dX0_allTunesAreThere_34 : decode cX0_allTunesAreThere 34 = .ok (.aload_n 0, 1) := by decide +kernel
theorem dX0_allTunesAreThere_35 : decode cX0_allTunesAreThere 35 = .ok (.getfield 18, 3) := by decide +kernel
theorem dX0_allTunesAreThere_38 : decode cX0_allTunesAreThere 38 = .ok (.if_icmp .ge 24, 3) := by decide +kernel
theorem dX0_allTunesAreThere_41 : decode cX0_allTunesAreThere 41 = .ok (.aload_n 0, 1) := by decide +kernel
theorem dX0_allTunesAreThere_42 : decode cX0_allTunesAreThere 42 = .ok (.aload_n 0, 1) := by decide +kernel
theorem dX0_allTunesAreThere_43 : decode cX0_allTunesAreThere 43 = .ok (.getfield 49, 3) := by decide +kernel
theorem dX0_allTunesAreThere_46 : decode cX0_allTunesAreThere 46 = .ok (.iload_n 1, 1) := by decide +kernel
theorem dX0_allTunesAreThere_47 : decode cX0_allTunesAreThere 47 = .ok (.iaload, 1) := by decide +kernel
theorem dX0_allTunesAreThere_48 : decode cX0_allTunesAreThere 48 = .ok (.invokevirtual 62, 3) := by decide +kernel
theorem dX0_allTunesAreThere_51 : decode cX0_allTunesAreThere 51 = .ok (.ifCond .ne 5, 3) := by decide +kernel
theorem dX0_allTunesAreThere_54 : decode cX0_allTunesAreThere 54 = .ok (.iconst 0, 1) := by decide +kernel
theorem dX0_allTunesAreThere_55 : decode cX0_allTunesAreThere 55 = .ok (.ireturn, 1) := by decide +kernel
theorem dX0_allTunesAreThere_56 : decode cX0_allTunesAreThere 56 = .ok (.iinc 1 1, 3) := by decide +kernel
theorem dX0_allTunesAreThere_59 : decode cX0_allTunesAreThere 59 = .ok (.goto (-26), 3) := by decide +kernel
theorem dX0_allTunesAreThere_62 : decode cX0_allTunesAreThere 62 = .ok (.iconst 1, 1) := by decide +kernel
theorem dX0_allTunesAreThere_63 : decode cX0_allTunesAreThere 63 = .ok (.ireturn, 1) := by decide +kernel
theorem dX1_run_0 : decode cX1_run 0 = .ok (.iconst 0, 1) := by decide +kernel
theorem dX1_run_1 : decode cX1_run 1 = .ok (.istore_n 3, 1) := by decide +kernel
theorem dX1_run_2 : decode cX1_run 2 = .ok (.iload_n 3, 1) := by decide +kernel
theorem dX1_run_3 : decode cX1_run 3 = .ok (.aload_n 1, 1) := by decide +kernel
theorem dX1_run_4 : decode cX1_run 4 = .ok (.getfield 43, 3) := by decide +kernel
theorem dX1_run_7 : decode cX1_run 7 = .ok (.if_icmp .ge 15, 3) := by decide +kernel
theorem dX1_run_10 : decode cX1_run 10 = .ok (.aload_n 0, 1) := by decide +kernel
theorem dX1_run_11 : decode cX1_run 11 = .ok (.aload_n 1, 1) := by decide +kernel
theorem dX1_run_12 : decode cX1_run 12 = .ok (.iload_n 3, 1) := by decide +kernel
theorem dX1_run_13 : decode cX1_run 13 = .ok (.invokevirtual 48, 3) := by decide +kernel
theorem dX1_run_16 : decode cX1_run 16 = .ok (.iinc 3 1, 3) := by decide +kernel
theorem dX1_run_19 : decode cX1_run 19 = .ok (.goto (-17), 3) := by decide +kernel
theorem dX1_run_22 : decode cX1_run 22 = .ok (.iconst 0, 1) := by decide +kernel
theorem dX1_run_23 : decode cX1_run 23 = .ok (.istore_n 3, 1) := by decide +kernel
theorem dX1_run_24 : decode cX1_run 24 = .ok (.iload_n 3, 1) := by decide +kernel
theorem dX1_run_25 : decode cX1_run 25 = .ok (.aload_n 1, 1) := by decide +kernel
theorem dX1_run_26 : decode cX1_run 26 = .ok (.getfield 52, 3) := by decide +kernel
theorem dX1_run_29 : decode cX1_run 29 = .ok (.if_icmp .ge 41, 3) := by decide +kernel
theorem dX1_run_32 : decode cX1_run 32 = .ok (.aload_n 0, 1) := by decide +kernel
theorem dX1_run_33 : decode cX1_run 33 = .ok (.getfield 21, 3) := by decide +kernel
theorem dX1_run_36 : decode cX1_run 36 = .ok (.iload_n 3, 1) := by decide +kernel
theorem dX1_run_37 : decode cX1_run 37 = .ok (.iconst 0, 1) := by decide +kernel
theorem dX1_run_38 : decode cX1_run 38 = .ok (.iastore, 1) := by decide +kernel
theorem dX1_run_39 : decode cX1_run 39 = .ok (.aload_n 0, 1) := by decide +kernel
theorem dX1_run_40 : decode cX1_run 40 = .ok (.getfield 24, 3) := by decide +kernel
theorem dX1_run_43 : decode cX1_run 43 = .ok (.iload_n 3, 1) := by decide +kernel
theorem dX1_run_44 : decode cX1_run 44 = .ok (.iload_n 2, 1) := by decide +kernel
theorem dX1_run_45 : decode cX1_run 45 = .ok (.iload_n 3, 1) := by decide +kernel
theorem dX1_run_46 : decode cX1_run 46 = .ok (.ishr, 1) := by decide +kernel
theorem dX1_run_47 : decode cX1_run 47 = .ok (.iconst 1, 1) := by decide +kernel
theorem dX1_run_48 : decode cX1_run 48 = .ok (.iand, 1) := by decide +kernel
theorem dX1_run_49 : decode cX1_run 49 = .ok (.iconst 1, 1) := by decide +kernel
theorem dX1_run_50 : decode cX1_run 50 = .ok (.if_icmp .ne 7, 3) := by decide +kernel
theorem dX1_run_53 : decode cX1_run 53 = .ok (.iconst 0, 1) := by decide +kernel
theorem dX1_run_54 : decode cX1_run 54 = .ok (.goto 9, 3) := by decide +kernel
theorem dX1_run_57 : decode cX1_run 57 = .ok (.aload_n 1, 1) := by decide +kernel
theorem dX1_run_58 : decode cX1_run 58 = .ok (.getfield 55, 3) := by decide +kernel
theorem dX1_run_61 : decode cX1_run 61 = .ok (.iload_n 3, 1) := by decide +kernel
theorem dX1_run_62 : decode cX1_run 62 = .ok (.iaload, 1) := by decide +kernel
theorem dX1_run_63 : decode cX1_run 63 = .ok (.iastore, 1) := by decide +kernel
theorem dX1_run_64 : decode cX1_run 64 = .ok (.iinc 3 1, 3) := by decide +kernel
theorem dX1_run_67 : decode cX1_run 67 = .ok (.goto (-43), 3) := by decide +kernel
theorem dX1_run_70 : decode cX1_run 70 = .ok (.aload_n 0, 1) := by decide +kernel
theorem dX1_run_71 : decode cX1_run 71 = .ok (.aload_n 1, 1) := by decide +kernel
theorem dX1_run_72 : decode cX1_run 72 = .ok (.getfield 43, 3) := by decide +kernel
theorem dX1_run_75 : decode cX1_run 75 = .ok (.putfield 39, 3) := by decide +kernel
theorem dX1_run_78 : decode cX1_run 78 = .ok (.iconst 0, 1) := by decide +kernel
theorem dX1_run_79 : decode cX1_run 79 = .ok (.istore_n 3, 1) := by decide +kernel
theorem dX1_run_80 : decode cX1_run 80 = .ok (.iload_n 3, 1) := by decide +kernel
theorem dX1_run_81 : decode cX1_run 81 = .ok (.sipush 160, 3) := by decide +kernel
theorem dX1_run_84 : decode cX1_run 84 = .ok (.if_icmp .ge 93, 3) := by decide +kernel
theorem dX1_run_87 : decode cX1_run 87 = .ok (.aload_n 0, 1) := by decide +kernel
theorem dX1_run_88 : decode cX1_run 88 = .ok (.getfield 39, 3) := by decide +kernel
theorem dX1_run_91 : decode cX1_run 91 = .ok (.ifCond .le 86, 3) := by decide +kernel
theorem dX1_run_94 : decode cX1_run 94 = .ok (.iconst 0, 1) := by decide +kernel
theorem dX1_run_95 : decode cX1_run 95 = .ok (.istore 4, 2) := by decide +kernel
theorem dX1_run_97 : decode cX1_run 97 = .ok (.iload 4, 2) := by decide +kernel
theorem dX1_run_99 : decode cX1_run 99 = .ok (.aload_n 1, 1) := by decide +kernel
theorem dX1_run_100 : decode cX1_run 100 = .ok (.getfield 43, 3) := by decide +kernel
theorem dX1_run_103 : decode cX1_run 103 = .ok (.if_icmp .ge 62, 3) := by decide +kernel
theorem dX1_run_106 : decode cX1_run 106 = .ok (.aload_n 0, 1) := by decide +kernel
theorem dX1_run_107 : decode cX1_run 107 = .ok (.getfield 9, 3) := by decide +kernel
theorem dX1_run_110 : decode cX1_run 110 = .ok (.iload 4, 2) := by decide +kernel
theorem dX1_run_112 : decode cX1_run 112 = .ok (.iaload, 1) := by decide +kernel
theorem dX1_run_113 : decode cX1_run 113 = .ok (.iconst (-1), 1) := by decide +kernel
theorem dX1_run_114 : decode cX1_run 114 = .ok (.if_icmp .ne 18, 3) := by decide +kernel
theorem dX1_run_117 : decode cX1_run 117 = .ok (.iload_n 3, 1) := by decide +kernel
theorem dX1_run_118 : decode cX1_run 118 = .ok (.aload_n 1, 1) := by decide +kernel
theorem dX1_run_119 : decode cX1_run 119 = .ok (.getfield 58, 3) := by decide +kernel
theorem dX1_run_122 : decode cX1_run 122 = .ok (.iload 4, 2) := by decide +kernel
theorem dX1_run_124 : decode cX1_run 124 = .ok (.iaload, 1) := by decide +kernel
theorem dX1_run_125 : decode cX1_run 125 = .ok (.if_icmp .lt 7, 3) := by decide +kernel
theorem dX1_run_128 : decode cX1_run 128 = .ok (.iconst 1, 1) := by decide +kernel
theorem dX1_run_129 : decode cX1_run 129 = .ok (.goto 4, 3) := by decide +kernel
theorem dX1_run_132 : decode cX1_run 132 = .ok (.iconst 0, 1) := by decide +kernel
theorem dX1_run_133 : decode cX1_run 133 = .ok (.istore 5, 2) := by decide +kernel
theorem dX1_run_135 : decode cX1_run 135 = .ok (.aload_n 0, 1) := by decide +kernel
theorem dX1_run_136 : decode cX1_run 136 = .ok (.getfield 27, 3) := by decide +kernel
theorem dX1_run_139 : decode cX1_run 139 = .ok (.iload 4, 2) := by decide +kernel
theorem dX1_run_141 : decode cX1_run 141 = .ok (.iload 5, 2) := by decide +kernel
theorem dX1_run_143 : decode cX1_run 143 = .ok (.ifCond .eq 14, 3) := by decide +kernel
theorem dX1_run_146 : decode cX1_run 146 = .ok (.aload_n 0, 1) := by decide +kernel
theorem dX1_run_147 : decode cX1_run 147 = .ok (.aload_n 1, 1) := by decide +kernel
theorem dX1_run_148 : decode cX1_run 148 = .ok (.iload 4, 2) := by decide +kernel
theorem dX1_run_150 : decode cX1_run 150 = .ok (.iload_n 3, 1) := by decide +kernel
theorem dX1_run_151 : decode cX1_run 151 = .ok (.invokevirtual 61, 3) := by decide +kernel
theorem dX1_run_154 : decode cX1_run 154 = .ok (.goto 4, 3) := by decide +kernel
theorem dX1_run_157 : decode cX1_run 157 = .ok (.iconst (-1), 1) := by decide +kernel
theorem dX1_run_158 : decode cX1_run 158 = .ok (.iastore, 1) := by decide +kernel
theorem dX1_run_159 : decode cX1_run 159 = .ok (.iinc 4 1, 3) := by decide +kernel
theorem dX1_run_162 : decode cX1_run 162 = .ok (.goto (-65), 3) := by decide +kernel
theorem dX1_run_165 : decode cX1_run 165 = .ok (.aload_n 0, 1) := by decide +kernel
theorem dX1_run_166 : decode cX1_run 166 = .ok (.aload_n 1, 1) := by decide +kernel
theorem dX1_run_167 : decode cX1_run 167 = .ok (.iload_n 3, 1) := by decide +kernel
theorem dX1_run_168 : decode cX1_run 168 = .ok (.invokevirtual 65, 3) := by decide +kernel
theorem dX1_run_171 : decode cX1_run 171 = .ok (.iinc 3 1, 3) := by decide +kernel
theorem dX1_run_174 : decode cX1_run 174 = .ok (.goto (-94), 3) := by decide +kernel
theorem dX1_run_177 : decode cX1_run 177 = .ok (.return_, 1) := by decide +kernel
theorem dX1_prepareTune_0 : decode cX1_prepareTune 0 = .ok (.aload_n 1, 1) := by decide +kernel
theorem dX1_prepareTune_1 : decode cX1_prepareTune 1 = .ok (.getfield 68, 3) := by decide +kernel
theorem dX1_prepareTune_4 : decode cX1_prepareTune 4 = .ok (.iload_n 2, 1) := by decide +kernel
theorem dX1_prepareTune_5 : decode cX1_prepareTune 5 = .ok (.iaload, 1) := by decide +kernel
theorem dX1_prepareTune_6 : decode cX1_prepareTune 6 = .ok (.istore_n 3, 1) := by decide +kernel
theorem dX1_prepareTune_7 : decode cX1_prepareTune 7 = .ok (.aload_n 0, 1) := by decide +kernel
theorem dX1_prepareTune_8 : decode cX1_prepareTune 8 = .ok (.getfield 9, 3) := by decide +kernel
theorem dX1_prepareTune_11 : decode cX1_prepareTune 11 = .ok (.iload_n 2, 1) := by decide +kernel
theorem dX1_prepareTune_12 : decode cX1_prepareTune 12 = .ok (.iconst (-1), 1) := by decide +kernel
theorem dX1_prepareTune_13 : decode cX1_prepareTune 13 = .ok (.iastore, 1) := by decide +kernel
theorem dX1_prepareTune_14 : decode cX1_prepareTune 14 = .ok (.aload_n 0, 1) := by decide +kernel
theorem dX1_prepareTune_15 : decode cX1_prepareTune 15 = .ok (.getfield 18, 3) := by decide +kernel
theorem dX1_prepareTune_18 : decode cX1_prepareTune 18 = .ok (.iload_n 2, 1) := by decide +kernel
theorem dX1_prepareTune_19 : decode cX1_prepareTune 19 = .ok (.iconst 0, 1) := by decide +kernel
theorem dX1_prepareTune_20 : decode cX1_prepareTune 20 = .ok (.iastore, 1) := by decide +kernel
theorem dX1_prepareTune_21 : decode cX1_prepareTune 21 = .ok (.aload_n 0, 1) := by decide +kernel
theorem dX1_prepareTune_22 : decode cX1_prepareTune 22 = .ok (.getfield 33, 3) := by decide +kernel
theorem dX1_prepareTune_25 : decode cX1_prepareTune 25 = .ok (.iload_n 2, 1) := by decide +kernel
theorem dX1_prepareTune_26 : decode cX1_prepareTune 26 = .ok (.aload_n 1, 1) := by decide +kernel
theorem dX1_prepareTune_27 : decode cX1_prepareTune 27 = .ok (.iload_n 2, 1) := by decide +kernel
theorem dX1_prepareTune_28 : decode cX1_prepareTune 28 = .ok (.iload_n 3, 1) := by decide +kernel
theorem dX1_prepareTune_29 : decode cX1_prepareTune 29 = .ok (.invokevirtual 71, 3) := by decide +kernel
theorem dX1_prepareTune_32 : decode cX1_prepareTune 32 = .ok (.iastore, 1) := by decide +kernel
theorem dX1_prepareTune_33 : decode cX1_prepareTune 33 = .ok (.aload_n 0, 1) := by decide +kernel
theorem dX1_prepareTune_34 : decode cX1_prepareTune 34 = .ok (.getfield 30, 3) := by decide +kernel
theorem dX1_prepareTune_37 : decode cX1_prepareTune 37 = .ok (.iload_n 2, 1) := by decide +kernel
theorem dX1_prepareTune_38 : decode cX1_prepareTune 38 = .ok (.iload_n 3, 1) := by decide +kernel
theorem dX1_prepareTune_39 : decode cX1_prepareTune 39 = .ok (.aload_n 1, 1) := by decide +kernel
theorem dX1_prepareTune_40 : decode cX1_prepareTune 40 = .ok (.getfield 75, 3) := by decide +kernel
theorem dX1_prepareTune_43 : decode cX1_prepareTune 43 = .ok (.iload_n 2, 1) := by decide +kernel
theorem dX1_prepareTune_44 : decode cX1_prepareTune 44 = .ok (.iaload, 1) := by decide +kernel
theorem dX1_prepareTune_45 : decode cX1_prepareTune 45 = .ok (.invokestatic 78, 3) := by decide +kernel
theorem dX1_prepareTune_48 : decode cX1_prepareTune 48 = .ok (.iastore, 1) := by decide +kernel
theorem dX1_prepareTune_49 : decode cX1_prepareTune 49 = .ok (.iconst 0, 1) := by decide +kernel
theorem dX1_prepareTune_50 : decode cX1_prepareTune 50 = .ok (.istore 4, 2) := by decide +kernel
theorem dX1_prepareTune_52 : decode cX1_prepareTune 52 = .ok (.iload 4, 2) := by decide +kernel
theorem dX1_prepareTune_54 : decode cX1_prepareTune 54 = .ok (.aload_n 0, 1) := by decide +kernel
theorem dX1_prepareTune_55 : decode cX1_prepareTune 55 = .ok (.getfield 30, 3) := by decide +kernel
theorem dX1_prepareTune_58 : decode cX1_prepareTune 58 = .ok (.iload_n 2, 1) := by decide +kernel
theorem dX1_prepareTune_59 : decode cX1_prepareTune 59 = .ok (.iaload, 1) := by decide +kernel
theorem dX1_prepareTune_60 : decode cX1_prepareTune 60 = .ok (.if_icmp .ge 29, 3) := by decide +kernel
theorem dX1_prepareTune_63 : decode cX1_prepareTune 63 = .ok (.aload_n 0, 1) := by decide +kernel
theorem dX1_prepareTune_64 : decode cX1_prepareTune 64 = .ok (.getfield 36, 3) := by decide +kernel
theorem dX1_prepareTune_67 : decode cX1_prepareTune 67 = .ok (.iload_n 2, 1) := by decide +kernel
theorem dX1_prepareTune_68 : decode cX1_prepareTune 68 = .ok (.bipush 16, 2) := by decide +kernel
theorem dX1_prepareTune_70 : decode cX1_prepareTune 70 = .ok (.imul, 1) := by decide +kernel
theorem dX1_prepareTune_71 : decode cX1_prepareTune 71 = .ok (.iload 4, 2) := by decide +kernel
theorem dX1_prepareTune_73 : decode cX1_prepareTune 73 = .ok (.iadd, 1) := by decide +kernel
theorem dX1_prepareTune_74 : decode cX1_prepareTune 74 = .ok (.aload_n 1, 1) := by decide +kernel
theorem dX1_prepareTune_75 : decode cX1_prepareTune 75 = .ok (.iload_n 2, 1) := by decide +kernel
theorem dX1_prepareTune_76 : decode cX1_prepareTune 76 = .ok (.iload_n 3, 1) := by decide +kernel
theorem dX1_prepareTune_77 : decode cX1_prepareTune 77 = .ok (.iload 4, 2) := by decide +kernel
theorem dX1_prepareTune_79 : decode cX1_prepareTune 79 = .ok (.invokevirtual 80, 3) := by decide +kernel
theorem dX1_prepareTune_82 : decode cX1_prepareTune 82 = .ok (.iastore, 1) := by decide +kernel
theorem dX1_prepareTune_83 : decode cX1_prepareTune 83 = .ok (.iinc 4 1, 3) := by decide +kernel
theorem dX1_prepareTune_86 : decode cX1_prepareTune 86 = .ok (.goto (-34), 3) := by decide +kernel
theorem dX1_prepareTune_89 : decode cX1_prepareTune 89 = .ok (.return_, 1) := by decide +kernel
theorem dX1_finish_0 : decode cX1_finish 0 = .ok (.aload_n 0, 1) := by decide +kernel
theorem dX1_finish_1 : decode cX1_finish 1 = .ok (.getfield 9, 3) := by decide +kernel
theorem dX1_finish_4 : decode cX1_finish 4 = .ok (.iload_n 1, 1) := by decide +kernel
theorem dX1_finish_5 : decode cX1_finish 5 = .ok (.iload_n 2, 1) := by decide +kernel
theorem dX1_finish_6 : decode cX1_finish 6 = .ok (.iastore, 1) := by decide +kernel
theorem dX1_finish_7 : decode cX1_finish 7 = .ok (.aload_n 0, 1) := by decide +kernel
theorem dX1_finish_8 : decode cX1_finish 8 = .ok (.getfield 15, 3) := by decide +kernel
theorem dX1_finish_11 : decode cX1_finish 11 = .ok (.iload_n 1, 1) := by decide +kernel
theorem dX1_finish_12 : decode cX1_finish 12 = .ok (.iload_n 3, 1) := by decide +kernel
theorem dX1_finish_13 : decode cX1_finish 13 = .ok (.iastore, 1) := by decide +kernel
theorem dX1_finish_14 : decode cX1_finish 14 = .ok (.aload_n 0, 1) := by decide +kernel
theorem dX1_finish_15 : decode cX1_finish 15 = .ok (.dup, 1) := by decide +kernel
theorem dX1_finish_16 : decode cX1_finish 16 = .ok (.getfield 39, 3) := by decide +kernel
theorem dX1_finish_19 : decode cX1_finish 19 = .ok (.iconst 1, 1) := by decide +kernel
theorem dX1_finish_20 : decode cX1_finish 20 = .ok (.isub, 1) := by decide +kernel
theorem dX1_finish_21 : decode cX1_finish 21 = .ok (.putfield 39, 3) := by decide +kernel
theorem dX1_finish_24 : decode cX1_finish 24 = .ok (.return_, 1) := by decide +kernel
theorem dX1_noteHeard_0 : decode cX1_noteHeard 0 = .ok (.aload_n 0, 1) := by decide +kernel
theorem dX1_noteHeard_1 : decode cX1_noteHeard 1 = .ok (.getfield 30, 3) := by decide +kernel
theorem dX1_noteHeard_4 : decode cX1_noteHeard 4 = .ok (.iload_n 2, 1) := by decide +kernel
theorem dX1_noteHeard_5 : decode cX1_noteHeard 5 = .ok (.iaload, 1) := by decide +kernel
theorem dX1_noteHeard_6 : decode cX1_noteHeard 6 = .ok (.iconst 1, 1) := by decide +kernel
theorem dX1_noteHeard_7 : decode cX1_noteHeard 7 = .ok (.if_icmp .lt 18, 3) := by decide +kernel
theorem dX1_noteHeard_10 : decode cX1_noteHeard 10 = .ok (.aload_n 0, 1) := by decide +kernel
theorem dX1_noteHeard_11 : decode cX1_noteHeard 11 = .ok (.getfield 18, 3) := by decide +kernel
theorem dX1_noteHeard_14 : decode cX1_noteHeard 14 = .ok (.iload_n 2, 1) := by decide +kernel
theorem dX1_noteHeard_15 : decode cX1_noteHeard 15 = .ok (.iaload, 1) := by decide +kernel
theorem dX1_noteHeard_16 : decode cX1_noteHeard 16 = .ok (.aload_n 0, 1) := by decide +kernel
theorem dX1_noteHeard_17 : decode cX1_noteHeard 17 = .ok (.getfield 33, 3) := by decide +kernel
theorem dX1_noteHeard_20 : decode cX1_noteHeard 20 = .ok (.iload_n 2, 1) := by decide +kernel
theorem dX1_noteHeard_21 : decode cX1_noteHeard 21 = .ok (.iaload, 1) := by decide +kernel
theorem dX1_noteHeard_22 : decode cX1_noteHeard 22 = .ok (.if_icmp .lt 12, 3) := by decide +kernel
theorem dX1_noteHeard_25 : decode cX1_noteHeard 25 = .ok (.aload_n 0, 1) := by decide +kernel
theorem dX1_noteHeard_26 : decode cX1_noteHeard 26 = .ok (.iload_n 2, 1) := by decide +kernel
theorem dX1_noteHeard_27 : decode cX1_noteHeard 27 = .ok (.iload_n 3, 1) := by decide +kernel
theorem dX1_noteHeard_28 : decode cX1_noteHeard 28 = .ok (.iconst 0, 1) := by decide +kernel
theorem dX1_noteHeard_29 : decode cX1_noteHeard 29 = .ok (.invokevirtual 84, 3) := by decide +kernel
theorem dX1_noteHeard_32 : decode cX1_noteHeard 32 = .ok (.iconst (-1), 1) := by decide +kernel
theorem dX1_noteHeard_33 : decode cX1_noteHeard 33 = .ok (.ireturn, 1) := by decide +kernel
theorem dX1_noteHeard_34 : decode cX1_noteHeard 34 = .ok (.aload_n 0, 1) := by decide +kernel
theorem dX1_noteHeard_35 : decode cX1_noteHeard 35 = .ok (.aload_n 1, 1) := by decide +kernel
theorem dX1_noteHeard_36 : decode cX1_noteHeard 36 = .ok (.iload_n 2, 1) := by decide +kernel
theorem dX1_noteHeard_37 : decode cX1_noteHeard 37 = .ok (.invokevirtual 88, 3) := by decide +kernel
theorem dX1_noteHeard_40 : decode cX1_noteHeard 40 = .ok (.istore 4, 2) := by decide +kernel
theorem dX1_noteHeard_42 : decode cX1_noteHeard 42 = .ok (.iload 4, 2) := by decide +kernel
theorem dX1_noteHeard_44 : decode cX1_noteHeard 44 = .ok (.ifCond .ge 12, 3) := by decide +kernel
theorem dX1_noteHeard_47 : decode cX1_noteHeard 47 = .ok (.aload_n 0, 1) := by decide +kernel
theorem dX1_noteHeard_48 : decode cX1_noteHeard 48 = .ok (.iload_n 2, 1) := by decide +kernel
theorem dX1_noteHeard_49 : decode cX1_noteHeard 49 = .ok (.iload_n 3, 1) := by decide +kernel
theorem dX1_noteHeard_50 : decode cX1_noteHeard 50 = .ok (.iconst 2, 1) := by decide +kernel
theorem dX1_noteHeard_51 : decode cX1_noteHeard 51 = .ok (.invokevirtual 84, 3) := by decide +kernel
theorem dX1_noteHeard_54 : decode cX1_noteHeard 54 = .ok (.iconst (-1), 1) := by decide +kernel
theorem dX1_noteHeard_55 : decode cX1_noteHeard 55 = .ok (.ireturn, 1) := by decide +kernel
theorem dX1_noteHeard_56 : decode cX1_noteHeard 56 = .ok (.aload_n 0, 1) := by decide +kernel
theorem dX1_noteHeard_57 : decode cX1_noteHeard 57 = .ok (.getfield 24, 3) := by decide +kernel
theorem dX1_noteHeard_60 : decode cX1_noteHeard 60 = .ok (.iload 4, 2) := by decide +kernel
theorem dX1_noteHeard_62 : decode cX1_noteHeard 62 = .ok (.dup2, 1) := by decide +kernel
theorem dX1_noteHeard_63 : decode cX1_noteHeard 63 = .ok (.iaload, 1) := by decide +kernel
theorem dX1_noteHeard_64 : decode cX1_noteHeard 64 = .ok (.iconst 1, 1) := by decide +kernel
theorem dX1_noteHeard_65 : decode cX1_noteHeard 65 = .ok (.isub, 1) := by decide +kernel
theorem dX1_noteHeard_66 : decode cX1_noteHeard 66 = .ok (.iastore, 1) := by decide +kernel
theorem dX1_noteHeard_67 : decode cX1_noteHeard 67 = .ok (.aload_n 0, 1) := by decide +kernel
theorem dX1_noteHeard_68 : decode cX1_noteHeard 68 = .ok (.getfield 21, 3) := by decide +kernel
theorem dX1_noteHeard_71 : decode cX1_noteHeard 71 = .ok (.iload 4, 2) := by decide +kernel
theorem dX1_noteHeard_73 : decode cX1_noteHeard 73 = .ok (.dup2, 1) := by decide +kernel
theorem dX1_noteHeard_74 : decode cX1_noteHeard 74 = .ok (.iaload, 1) := by decide +kernel
theorem dX1_noteHeard_75 : decode cX1_noteHeard 75 = .ok (.iconst 1, 1) := by decide +kernel
theorem dX1_noteHeard_76 : decode cX1_noteHeard 76 = .ok (.iadd, 1) := by decide +kernel
theorem dX1_noteHeard_77 : decode cX1_noteHeard 77 = .ok (.iastore, 1) := by decide +kernel
theorem dX1_noteHeard_78 : decode cX1_noteHeard 78 = .ok (.aload_n 0, 1) := by decide +kernel
theorem dX1_noteHeard_79 : decode cX1_noteHeard 79 = .ok (.getfield 36, 3) := by decide +kernel
theorem dX1_noteHeard_82 : decode cX1_noteHeard 82 = .ok (.iload_n 2, 1) := by decide +kernel
theorem dX1_noteHeard_83 : decode cX1_noteHeard 83 = .ok (.bipush 16, 2) := by decide +kernel
theorem dX1_noteHeard_85 : decode cX1_noteHeard 85 = .ok (.imul, 1) := by decide +kernel
theorem dX1_noteHeard_86 : decode cX1_noteHeard 86 = .ok (.aload_n 0, 1) := by decide +kernel
theorem dX1_noteHeard_87 : decode cX1_noteHeard 87 = .ok (.getfield 18, 3) := by decide +kernel
theorem dX1_noteHeard_90 : decode cX1_noteHeard 90 = .ok (.iload_n 2, 1) := by decide +kernel
theorem dX1_noteHeard_91 : decode cX1_noteHeard 91 = .ok (.iaload, 1) := by decide +kernel
theorem dX1_noteHeard_92 : decode cX1_noteHeard 92 = .ok (.aload_n 0, 1) := by decide +kernel
theorem dX1_noteHeard_93 : decode cX1_noteHeard 93 = .ok (.getfield 30, 3) := by decide +kernel
theorem dX1_noteHeard_96 : decode cX1_noteHeard 96 = .ok (.iload_n 2, 1) := by decide +kernel
theorem dX1_noteHeard_97 : decode cX1_noteHeard 97 = .ok (.iaload, 1) := by decide +kernel
theorem dX1_noteHeard_98 : decode cX1_noteHeard 98 = .ok (.irem, 1) := by decide +kernel
theorem dX1_noteHeard_99 : decode cX1_noteHeard 99 = .ok (.iadd, 1) := by decide +kernel
theorem dX1_noteHeard_100 : decode cX1_noteHeard 100 = .ok (.iaload, 1) := by decide +kernel
theorem dX1_noteHeard_101 : decode cX1_noteHeard 101 = .ok (.istore 5, 2) := by decide +kernel
theorem dX1_noteHeard_103 : decode cX1_noteHeard 103 = .ok (.iload 5, 2) := by decide +kernel
theorem dX1_noteHeard_105 : decode cX1_noteHeard 105 = .ok (.aload_n 1, 1) := by decide +kernel
theorem dX1_noteHeard_106 : decode cX1_noteHeard 106 = .ok (.getfield 92, 3) := by decide +kernel
theorem dX1_noteHeard_109 : decode cX1_noteHeard 109 = .ok (.iload 4, 2) := by decide +kernel
theorem dX1_noteHeard_111 : decode cX1_noteHeard 111 = .ok (.iaload, 1) := by decide +kernel
theorem dX1_noteHeard_112 : decode cX1_noteHeard 112 = .ok (.if_icmp .le 12, 3) := by decide +kernel
theorem dX1_noteHeard_115 : decode cX1_noteHeard 115 = .ok (.aload_n 0, 1) := by decide +kernel
theorem dX1_noteHeard_116 : decode cX1_noteHeard 116 = .ok (.iload_n 2, 1) := by decide +kernel
theorem dX1_noteHeard_117 : decode cX1_noteHeard 117 = .ok (.iload_n 3, 1) := by decide +kernel
theorem dX1_noteHeard_118 : decode cX1_noteHeard 118 = .ok (.iconst 1, 1) := by decide +kernel
theorem dX1_noteHeard_119 : decode cX1_noteHeard 119 = .ok (.invokevirtual 84, 3) := by decide +kernel
theorem dX1_noteHeard_122 : decode cX1_noteHeard 122 = .ok (.iconst (-1), 1) := by decide +kernel
theorem dX1_noteHeard_123 : decode cX1_noteHeard 123 = .ok (.ireturn, 1) := by decide +kernel
theorem dX1_noteHeard_124 : decode cX1_noteHeard 124 = .ok (.aload_n 0, 1) := by decide +kernel
theorem dX1_noteHeard_125 : decode cX1_noteHeard 125 = .ok (.getfield 18, 3) := by decide +kernel
theorem dX1_noteHeard_128 : decode cX1_noteHeard 128 = .ok (.iload_n 2, 1) := by decide +kernel
theorem dX1_noteHeard_129 : decode cX1_noteHeard 129 = .ok (.dup2, 1) := by decide +kernel
theorem dX1_noteHeard_130 : decode cX1_noteHeard 130 = .ok (.iaload, 1) := by decide +kernel
theorem dX1_noteHeard_131 : decode cX1_noteHeard 131 = .ok (.iconst 1, 1) := by decide +kernel
theorem dX1_noteHeard_132 : decode cX1_noteHeard 132 = .ok (.iadd, 1) := by decide +kernel
theorem dX1_noteHeard_133 : decode cX1_noteHeard 133 = .ok (.iastore, 1) := by decide +kernel
theorem dX1_noteHeard_134 : decode cX1_noteHeard 134 = .ok (.iload 5, 2) := by decide +kernel
theorem dX1_noteHeard_136 : decode cX1_noteHeard 136 = .ok (.ireturn, 1) := by decide +kernel
theorem dX1_playerOf_0 : decode cX1_playerOf 0 = .ok (.iconst 0, 1) := by decide +kernel
theorem dX1_playerOf_1 : decode cX1_playerOf 1 = .ok (.istore_n 3, 1) := by decide +kernel
theorem dX1_playerOf_2 : decode cX1_playerOf 2 = .ok (.iload_n 3, 1) := by decide +kernel
theorem dX1_playerOf_3 : decode cX1_playerOf 3 = .ok (.aload_n 1, 1) := by decide +kernel
theorem dX1_playerOf_4 : decode cX1_playerOf 4 = .ok (.getfield 52, 3) := by decide +kernel
theorem dX1_playerOf_7 : decode cX1_playerOf 7 = .ok (.if_icmp .ge 30, 3) := by decide +kernel
theorem dX1_playerOf_10 : decode cX1_playerOf 10 = .ok (.aload_n 1, 1) := by decide +kernel
theorem dX1_playerOf_11 : decode cX1_playerOf 11 = .ok (.getfield 95, 3) := by decide +kernel
theorem dX1_playerOf_14 : decode cX1_playerOf 14 = .ok (.iload_n 3, 1) := by decide +kernel
theorem dX1_playerOf_15 : decode cX1_playerOf 15 = .ok (.iaload, 1) := by decide +kernel
theorem dX1_playerOf_16 : decode cX1_playerOf 16 = .ok (.iload_n 2, 1) := by decide +kernel
theorem dX1_playerOf_17 : decode cX1_playerOf 17 = .ok (.if_icmp .ne 14, 3) := by decide +kernel
theorem dX1_playerOf_20 : decode cX1_playerOf 20 = .ok (.aload_n 0, 1) := by decide +kernel
theorem dX1_playerOf_21 : decode cX1_playerOf 21 = .ok (.getfield 24, 3) := by decide +kernel
theorem dX1_playerOf_24 : decode cX1_playerOf 24 = .ok (.iload_n 3, 1) := by decide +kernel
theorem dX1_playerOf_25 : decode cX1_playerOf 25 = .ok (.iaload, 1) := by decide +kernel
theorem dX1_playerOf_26 : decode cX1_playerOf 26 = .ok (.ifCond .le 5, 3) := by decide +kernel
theorem dX1_playerOf_29 : decode cX1_playerOf 29 = .ok (.iload_n 3, 1) := by decide +kernel
theorem dX1_playerOf_30 : decode cX1_playerOf 30 = .ok (.ireturn, 1) := by decide +kernel
theorem dX1_playerOf_31 : decode cX1_playerOf 31 = .ok (.iinc 3 1, 3) := by decide +kernel
theorem dX1_playerOf_34 : decode cX1_playerOf 34 = .ok (.goto (-32), 3) := by decide +kernel
theorem dX1_playerOf_37 : decode cX1_playerOf 37 = .ok (.iconst (-1), 1) := by decide +kernel
theorem dX1_playerOf_38 : decode cX1_playerOf 38 = .ok (.ireturn, 1) := by decide +kernel
theorem dX1_crossAll_0 : decode cX1_crossAll 0 = .ok (.iconst 0, 1) := by decide +kernel
theorem dX1_crossAll_1 : decode cX1_crossAll 1 = .ok (.istore_n 3, 1) := by decide +kernel
theorem dX1_crossAll_2 : decode cX1_crossAll 2 = .ok (.iload_n 3, 1) := by decide +kernel
theorem dX1_crossAll_3 : decode cX1_crossAll 3 = .ok (.aload_n 1, 1) := by decide +kernel
theorem dX1_crossAll_4 : decode cX1_crossAll 4 = .ok (.getfield 43, 3) := by decide +kernel
theorem dX1_crossAll_7 : decode cX1_crossAll 7 = .ok (.if_icmp .ge 64, 3) := by decide +kernel
theorem dX1_crossAll_10 : decode cX1_crossAll 10 = .ok (.iload_n 3, 1) := by decide +kernel
theorem dX1_crossAll_11 : decode cX1_crossAll 11 = .ok (.iconst 1, 1) := by decide +kernel
theorem dX1_crossAll_12 : decode cX1_crossAll 12 = .ok (.iadd, 1) := by decide +kernel
theorem dX1_crossAll_13 : decode cX1_crossAll 13 = .ok (.istore 4, 2) := by decide +kernel
theorem dX1_crossAll_15 : decode cX1_crossAll 15 = .ok (.iload 4, 2) := by decide +kernel
theorem dX1_crossAll_17 : decode cX1_crossAll 17 = .ok (.aload_n 1, 1) := by decide +kernel
theorem dX1_crossAll_18 : decode cX1_crossAll 18 = .ok (.getfield 43, 3) := by decide +kernel
theorem dX1_crossAll_21 : decode cX1_crossAll 21 = .ok (.if_icmp .ge 44, 3) := by decide +kernel
theorem dX1_crossAll_24 : decode cX1_crossAll 24 = .ok (.aload_n 0, 1) := by decide +kernel
theorem dX1_crossAll_25 : decode cX1_crossAll 25 = .ok (.getfield 27, 3) := by decide +kernel
theorem dX1_crossAll_28 : decode cX1_crossAll 28 = .ok (.iload_n 3, 1) := by decide +kernel
theorem dX1_crossAll_29 : decode cX1_crossAll 29 = .ok (.iaload, 1) := by decide +kernel
theorem dX1_crossAll_30 : decode cX1_crossAll 30 = .ok (.iconst (-1), 1) := by decide +kernel
theorem dX1_crossAll_31 : decode cX1_crossAll 31 = .ok (.if_icmp .eq 28, 3) := by decide +kernel
theorem dX1_crossAll_34 : decode cX1_crossAll 34 = .ok (.aload_n 0, 1) := by decide +kernel
theorem dX1_crossAll_35 : decode cX1_crossAll 35 = .ok (.getfield 27, 3) := by decide +kernel
theorem dX1_crossAll_38 : decode cX1_crossAll 38 = .ok (.iload_n 3, 1) := by decide +kernel
theorem dX1_crossAll_39 : decode cX1_crossAll 39 = .ok (.iaload, 1) := by decide +kernel
theorem dX1_crossAll_40 : decode cX1_crossAll 40 = .ok (.aload_n 0, 1) := by decide +kernel
theorem dX1_crossAll_41 : decode cX1_crossAll 41 = .ok (.getfield 27, 3) := by decide +kernel
theorem dX1_crossAll_44 : decode cX1_crossAll 44 = .ok (.iload 4, 2) := by decide +kernel
theorem dX1_crossAll_46 : decode cX1_crossAll 46 = .ok (.iaload, 1) := by decide +kernel
theorem dX1_crossAll_47 : decode cX1_crossAll 47 = .ok (.if_icmp .ne 12, 3) := by decide +kernel
theorem dX1_crossAll_50 : decode cX1_crossAll 50 = .ok (.aload_n 0, 1) := by decide +kernel
theorem dX1_crossAll_51 : decode cX1_crossAll 51 = .ok (.aload_n 1, 1) := by decide +kernel
theorem dX1_crossAll_52 : decode cX1_crossAll 52 = .ok (.iload_n 3, 1) := by decide +kernel
theorem dX1_crossAll_53 : decode cX1_crossAll 53 = .ok (.iload 4, 2) := by decide +kernel
theorem dX1_crossAll_55 : decode cX1_crossAll 55 = .ok (.iload_n 2, 1) := by decide +kernel
theorem dX1_crossAll_56 : decode cX1_crossAll 56 = .ok (.invokevirtual 98, 3) := by decide +kernel
theorem dX1_crossAll_59 : decode cX1_crossAll 59 = .ok (.iinc 4 1, 3) := by decide +kernel
theorem dX1_crossAll_62 : decode cX1_crossAll 62 = .ok (.goto (-47), 3) := by decide +kernel
theorem dX1_crossAll_65 : decode cX1_crossAll 65 = .ok (.iinc 3 1, 3) := by decide +kernel
theorem dX1_crossAll_68 : decode cX1_crossAll 68 = .ok (.goto (-66), 3) := by decide +kernel
theorem dX1_crossAll_71 : decode cX1_crossAll 71 = .ok (.return_, 1) := by decide +kernel
theorem dX1_crossThird_0 : decode cX1_crossThird 0 = .ok (.iconst 0, 1) := by decide +kernel
theorem dX1_crossThird_1 : decode cX1_crossThird 1 = .ok (.istore 5, 2) := by decide +kernel
theorem dX1_crossThird_3 : decode cX1_crossThird 3 = .ok (.iload 5, 2) := by decide +kernel
theorem dX1_crossThird_5 : decode cX1_crossThird 5 = .ok (.aload_n 1, 1) := by decide +kernel
theorem dX1_crossThird_6 : decode cX1_crossThird 6 = .ok (.getfield 43, 3) := by decide +kernel
theorem dX1_crossThird_9 : decode cX1_crossThird 9 = .ok (.if_icmp .ge 53, 3) := by decide +kernel
theorem dX1_crossThird_12 : decode cX1_crossThird 12 = .ok (.iload 5, 2) := by decide +kernel
theorem dX1_crossThird_14 : decode cX1_crossThird 14 = .ok (.iload_n 2, 1) := by decide +kernel
theorem dX1_crossThird_15 : decode cX1_crossThird 15 = .ok (.if_icmp .eq 41, 3) := by decide +kernel
theorem dX1_crossThird_18 : decode cX1_crossThird 18 = .ok (.iload 5, 2) := by decide +kernel
theorem dX1_crossThird_20 : decode cX1_crossThird 20 = .ok (.iload_n 3, 1) := by decide +kernel
theorem dX1_crossThird_21 : decode cX1_crossThird 21 = .ok (.if_icmp .eq 35, 3) := by decide +kernel
theorem dX1_crossThird_24 : decode cX1_crossThird 24 = .ok (.aload_n 0, 1) := by decide +kernel
theorem dX1_crossThird_25 : decode cX1_crossThird 25 = .ok (.getfield 27, 3) := by decide +kernel
theorem dX1_crossThird_28 : decode cX1_crossThird 28 = .ok (.iload 5, 2) := by decide +kernel
theorem dX1_crossThird_30 : decode cX1_crossThird 30 = .ok (.iaload, 1) := by decide +kernel
theorem dX1_crossThird_31 : decode cX1_crossThird 31 = .ok (.iconst (-1), 1) := by decide +kernel
theorem dX1_crossThird_32 : decode cX1_crossThird 32 = .ok (.if_icmp .eq 24, 3) := by decide +kernel
theorem dX1_crossThird_35 : decode cX1_crossThird 35 = .ok (.aload_n 0, 1) := by decide +kernel
theorem dX1_crossThird_36 : decode cX1_crossThird 36 = .ok (.getfield 9, 3) := by decide +kernel
theorem dX1_crossThird_39 : decode cX1_crossThird 39 = .ok (.iload 5, 2) := by decide +kernel
theorem dX1_crossThird_41 : decode cX1_crossThird 41 = .ok (.iaload, 1) := by decide +kernel
theorem dX1_crossThird_42 : decode cX1_crossThird 42 = .ok (.iconst (-1), 1) := by decide +kernel
theorem dX1_crossThird_43 : decode cX1_crossThird 43 = .ok (.if_icmp .ne 13, 3) := by decide +kernel
theorem dX1_crossThird_46 : decode cX1_crossThird 46 = .ok (.aload_n 0, 1) := by decide +kernel
theorem dX1_crossThird_47 : decode cX1_crossThird 47 = .ok (.iload 5, 2) := by decide +kernel
theorem dX1_crossThird_49 : decode cX1_crossThird 49 = .ok (.iload 4, 2) := by decide +kernel
theorem dX1_crossThird_51 : decode cX1_crossThird 51 = .ok (.iconst 3, 1) := by decide +kernel
theorem dX1_crossThird_52 : decode cX1_crossThird 52 = .ok (.invokevirtual 84, 3) := by decide +kernel
theorem dX1_crossThird_55 : decode cX1_crossThird 55 = .ok (.return_, 1) := by decide +kernel
theorem dX1_crossThird_56 : decode cX1_crossThird 56 = .ok (.iinc 5 1, 3) := by decide +kernel
theorem dX1_crossThird_59 : decode cX1_crossThird 59 = .ok (.goto (-56), 3) := by decide +kernel
theorem dX1_crossThird_62 : decode cX1_crossThird 62 = .ok (.return_, 1) := by decide +kernel
theorem dX1_outAt_0 : decode cX1_outAt 0 = .ok (.aload_n 0, 1) := by decide +kernel
theorem dX1_outAt_1 : decode cX1_outAt 1 = .ok (.getfield 9, 3) := by decide +kernel
theorem dX1_outAt_4 : decode cX1_outAt 4 = .ok (.aload_n 1, 1) := by decide +kernel
theorem dX1_outAt_5 : decode cX1_outAt 5 = .ok (.getfield 102, 3) := by decide +kernel
theorem dX1_outAt_8 : decode cX1_outAt 8 = .ok (.iload_n 2, 1) := by decide +kernel
theorem dX1_outAt_9 : decode cX1_outAt 9 = .ok (.iaload, 1) := by decide +kernel
theorem dX1_outAt_10 : decode cX1_outAt 10 = .ok (.iaload, 1) := by decide +kernel
theorem dX1_outAt_11 : decode cX1_outAt 11 = .ok (.ireturn, 1) := by decide +kernel
theorem dX1_getsAway_0 : decode cX1_getsAway 0 = .ok (.aload_n 0, 1) := by decide +kernel
theorem dX1_getsAway_1 : decode cX1_getsAway 1 = .ok (.getfield 15, 3) := by decide +kernel
theorem dX1_getsAway_4 : decode cX1_getsAway 4 = .ok (.aload_n 1, 1) := by decide +kernel
theorem dX1_getsAway_5 : decode cX1_getsAway 5 = .ok (.getfield 102, 3) := by decide +kernel
theorem dX1_getsAway_8 : decode cX1_getsAway 8 = .ok (.iload_n 2, 1) := by decide +kernel
theorem dX1_getsAway_9 : decode cX1_getsAway 9 = .ok (.iaload, 1) := by decide +kernel
theorem dX1_getsAway_10 : decode cX1_getsAway 10 = .ok (.iaload, 1) := by decide +kernel
theorem dX1_getsAway_11 : decode cX1_getsAway 11 = .ok (.ifCond .eq 7, 3) := by decide +kernel
theorem dX1_getsAway_14 : decode cX1_getsAway 14 = .ok (.iconst 1, 1) := by decide +kernel
theorem dX1_getsAway_15 : decode cX1_getsAway 15 = .ok (.goto 4, 3) := by decide +kernel
theorem dX1_getsAway_18 : decode cX1_getsAway 18 = .ok (.iconst 0, 1) := by decide +kernel
theorem dX1_getsAway_19 : decode cX1_getsAway 19 = .ok (.ireturn, 1) := by decide +kernel
theorem dX1_away_0 : decode cX1_away 0 = .ok (.iconst 0, 1) := by decide +kernel
theorem dX1_away_1 : decode cX1_away 1 = .ok (.istore_n 2, 1) := by decide +kernel
theorem dX1_away_2 : decode cX1_away 2 = .ok (.iconst 0, 1) := by decide +kernel
theorem dX1_away_3 : decode cX1_away 3 = .ok (.istore_n 3, 1) := by decide +kernel
theorem dX1_away_4 : decode cX1_away 4 = .ok (.iload_n 3, 1) := by decide +kernel
theorem dX1_away_5 : decode cX1_away 5 = .ok (.aload_n 1, 1) := by decide +kernel
theorem dX1_away_6 : decode cX1_away 6 = .ok (.getfield 105, 3) := by decide +kernel
theorem dX1_away_9 : decode cX1_away 9 = .ok (.if_icmp .ge 21, 3) := by decide +kernel
theorem dX1_away_12 : decode cX1_away 12 = .ok (.aload_n 0, 1) := by decide +kernel
theorem dX1_away_13 : decode cX1_away 13 = .ok (.aload_n 1, 1) := by decide +kernel
theorem dX1_away_14 : decode cX1_away 14 = .ok (.iload_n 3, 1) := by decide +kernel
theorem dX1_away_15 : decode cX1_away 15 = .ok (.invokevirtual 108, 3) := by decide +kernel
theorem dX1_away_18 : decode cX1_away 18 = .ok (.ifCond .eq 6, 3) := by decide +kernel
theorem dX1_away_21 : decode cX1_away 21 = .ok (.iinc 2 1, 3) := by decide +kernel
theorem dX1_away_24 : decode cX1_away 24 = .ok (.iinc 3 1, 3) := by decide +kernel
theorem dX1_away_27 : decode cX1_away 27 = .ok (.goto (-23), 3) := by decide +kernel
theorem dX1_away_30 : decode cX1_away 30 = .ok (.iload_n 2, 1) := by decide +kernel
theorem dX1_away_31 : decode cX1_away 31 = .ok (.ireturn, 1) := by decide +kernel
theorem dX1_allOut_0 : decode cX1_allOut 0 = .ok (.iconst 0, 1) := by decide +kernel
theorem dX1_allOut_1 : decode cX1_allOut 1 = .ok (.istore 4, 2) := by decide +kernel
theorem dX1_allOut_3 : decode cX1_allOut 3 = .ok (.iload 4, 2) := by decide +kernel
theorem dX1_allOut_5 : decode cX1_allOut 5 = .ok (.aload_n 1, 1) := by decide +kernel
theorem dX1_allOut_6 : decode cX1_allOut 6 = .ok (.getfield 105, 3) := by decide +kernel
theorem dX1_allOut_9 : decode cX1_allOut 9 = .ok (.if_icmp .ge 32, 3) := by decide +kernel
theorem dX1_allOut_12 : decode cX1_allOut 12 = .ok (.iload_n 2, 1) := by decide +kernel
theorem dX1_allOut_13 : decode cX1_allOut 13 = .ok (.iload 4, 2) := by decide +kernel
theorem dX1_allOut_15 : decode cX1_allOut 15 = .ok (.ishr, 1) := by decide +kernel
theorem dX1_allOut_16 : decode cX1_allOut 16 = .ok (.iconst 1, 1) := by decide +kernel
theorem dX1_allOut_17 : decode cX1_allOut 17 = .ok (.iand, 1) := by decide +kernel
theorem dX1_allOut_18 : decode cX1_allOut 18 = .ok (.iconst 1, 1) := by decide +kernel
theorem dX1_allOut_19 : decode cX1_allOut 19 = .ok (.if_icmp .ne 16, 3) := by decide +kernel
theorem dX1_allOut_22 : decode cX1_allOut 22 = .ok (.aload_n 0, 1) := by decide +kernel
theorem dX1_allOut_23 : decode cX1_allOut 23 = .ok (.aload_n 1, 1) := by decide +kernel
theorem dX1_allOut_24 : decode cX1_allOut 24 = .ok (.iload 4, 2) := by decide +kernel
theorem dX1_allOut_26 : decode cX1_allOut 26 = .ok (.invokevirtual 112, 3) := by decide +kernel
theorem dX1_allOut_29 : decode cX1_allOut 29 = .ok (.iload_n 3, 1) := by decide +kernel
theorem dX1_allOut_30 : decode cX1_allOut 30 = .ok (.if_icmp .le 5, 3) := by decide +kernel
theorem dX1_allOut_33 : decode cX1_allOut 33 = .ok (.iconst 0, 1) := by decide +kernel
theorem dX1_allOut_34 : decode cX1_allOut 34 = .ok (.ireturn, 1) := by decide +kernel
theorem dX1_allOut_35 : decode cX1_allOut 35 = .ok (.iinc 4 1, 3) := by decide +kernel
theorem dX1_allOut_38 : decode cX1_allOut 38 = .ok (.goto (-35), 3) := by decide +kernel
theorem dX1_allOut_41 : decode cX1_allOut 41 = .ok (.iconst 1, 1) := by decide +kernel
theorem dX1_allOut_42 : decode cX1_allOut 42 = .ok (.ireturn, 1) := by decide +kernel
theorem dX1_cost_0 : decode cX1_cost 0 = .ok (.iconst 0, 1) := by decide +kernel
theorem dX1_cost_1 : decode cX1_cost 1 = .ok (.istore_n 2, 1) := by decide +kernel
theorem dX1_cost_2 : decode cX1_cost 2 = .ok (.iconst 0, 1) := by decide +kernel
theorem dX1_cost_3 : decode cX1_cost 3 = .ok (.istore_n 3, 1) := by decide +kernel
theorem dX1_cost_4 : decode cX1_cost 4 = .ok (.iload_n 3, 1) := by decide +kernel
theorem dX1_cost_5 : decode cX1_cost 5 = .ok (.aload_n 1, 1) := by decide +kernel
theorem dX1_cost_6 : decode cX1_cost 6 = .ok (.getfield 52, 3) := by decide +kernel
theorem dX1_cost_9 : decode cX1_cost 9 = .ok (.if_icmp .ge 25, 3) := by decide +kernel
theorem dX1_cost_12 : decode cX1_cost 12 = .ok (.iload_n 2, 1) := by decide +kernel
theorem dX1_cost_13 : decode cX1_cost 13 = .ok (.aload_n 0, 1) := by decide +kernel
theorem dX1_cost_14 : decode cX1_cost 14 = .ok (.getfield 21, 3) := by decide +kernel
theorem dX1_cost_17 : decode cX1_cost 17 = .ok (.iload_n 3, 1) := by decide +kernel
theorem dX1_cost_18 : decode cX1_cost 18 = .ok (.iaload, 1) := by decide +kernel
theorem dX1_cost_19 : decode cX1_cost 19 = .ok (.aload_n 1, 1) := by decide +kernel
theorem dX1_cost_20 : decode cX1_cost 20 = .ok (.getfield 115, 3) := by decide +kernel
theorem dX1_cost_23 : decode cX1_cost 23 = .ok (.iload_n 3, 1) := by decide +kernel
theorem dX1_cost_24 : decode cX1_cost 24 = .ok (.iaload, 1) := by decide +kernel
theorem dX1_cost_25 : decode cX1_cost 25 = .ok (.imul, 1) := by decide +kernel
theorem dX1_cost_26 : decode cX1_cost 26 = .ok (.iadd, 1) := by decide +kernel
theorem dX1_cost_27 : decode cX1_cost 27 = .ok (.istore_n 2, 1) := by decide +kernel
theorem dX1_cost_28 : decode cX1_cost 28 = .ok (.iinc 3 1, 3) := by decide +kernel
theorem dX1_cost_31 : decode cX1_cost 31 = .ok (.goto (-27), 3) := by decide +kernel
theorem dX1_cost_34 : decode cX1_cost 34 = .ok (.iload_n 2, 1) := by decide +kernel
theorem dX1_cost_35 : decode cX1_cost 35 = .ok (.ireturn, 1) := by decide +kernel
theorem dX1_lastOver_0 : decode cX1_lastOver 0 = .ok (.iconst 0, 1) := by decide +kernel
theorem dX1_lastOver_1 : decode cX1_lastOver 1 = .ok (.istore_n 2, 1) := by decide +kernel
theorem dX1_lastOver_2 : decode cX1_lastOver 2 = .ok (.iconst 0, 1) := by decide +kernel
theorem dX1_lastOver_3 : decode cX1_lastOver 3 = .ok (.istore_n 3, 1) := by decide +kernel
theorem dX1_lastOver_4 : decode cX1_lastOver 4 = .ok (.iload_n 3, 1) := by decide +kernel
theorem dX1_lastOver_5 : decode cX1_lastOver 5 = .ok (.aload_n 1, 1) := by decide +kernel
theorem dX1_lastOver_6 : decode cX1_lastOver 6 = .ok (.getfield 43, 3) := by decide +kernel
theorem dX1_lastOver_9 : decode cX1_lastOver 9 = .ok (.if_icmp .ge 20, 3) := by decide +kernel
theorem dX1_lastOver_12 : decode cX1_lastOver 12 = .ok (.iload_n 2, 1) := by decide +kernel
theorem dX1_lastOver_13 : decode cX1_lastOver 13 = .ok (.aload_n 0, 1) := by decide +kernel
theorem dX1_lastOver_14 : decode cX1_lastOver 14 = .ok (.getfield 9, 3) := by decide +kernel
theorem dX1_lastOver_17 : decode cX1_lastOver 17 = .ok (.iload_n 3, 1) := by decide +kernel
theorem dX1_lastOver_18 : decode cX1_lastOver 18 = .ok (.iaload, 1) := by decide +kernel
theorem dX1_lastOver_19 : decode cX1_lastOver 19 = .ok (.invokestatic 118, 3) := by decide +kernel
theorem dX1_lastOver_22 : decode cX1_lastOver 22 = .ok (.istore_n 2, 1) := by decide +kernel
theorem dX1_lastOver_23 : decode cX1_lastOver 23 = .ok (.iinc 3 1, 3) := by decide +kernel
theorem dX1_lastOver_26 : decode cX1_lastOver 26 = .ok (.goto (-22), 3) := by decide +kernel
theorem dX1_lastOver_29 : decode cX1_lastOver 29 = .ok (.iload_n 2, 1) := by decide +kernel
theorem dX1_lastOver_30 : decode cX1_lastOver 30 = .ok (.ireturn, 1) := by decide +kernel
theorem dX1_crossedTunes_0 : decode cX1_crossedTunes 0 = .ok (.iconst 0, 1) := by decide +kernel
theorem dX1_crossedTunes_1 : decode cX1_crossedTunes 1 = .ok (.istore_n 2, 1) := by decide +kernel
theorem dX1_crossedTunes_2 : decode cX1_crossedTunes 2 = .ok (.iconst 0, 1) := by decide +kernel
theorem dX1_crossedTunes_3 : decode cX1_crossedTunes 3 = .ok (.istore_n 3, 1) := by decide +kernel
theorem dX1_crossedTunes_4 : decode cX1_crossedTunes 4 = .ok (.iload_n 3, 1) := by decide +kernel
theorem dX1_crossedTunes_5 : decode cX1_crossedTunes 5 = .ok (.aload_n 1, 1) := by decide +kernel
theorem dX1_crossedTunes_6 : decode cX1_crossedTunes 6 = .ok (.getfield 43, 3) := by decide +kernel
theorem dX1_crossedTunes_9 : decode cX1_crossedTunes 9 = .ok (.if_icmp .ge 22, 3) := by decide +kernel
theorem dX1_crossedTunes_12 : decode cX1_crossedTunes 12 = .ok (.aload_n 0, 1) := by decide +kernel
theorem dX1_crossedTunes_13 : decode cX1_crossedTunes 13 = .ok (.getfield 15, 3) := by decide +kernel
theorem dX1_crossedTunes_16 : decode cX1_crossedTunes 16 = .ok (.iload_n 3, 1) := by decide +kernel
theorem dX1_crossedTunes_17 : decode cX1_crossedTunes 17 = .ok (.iaload, 1) := by decide +kernel
theorem dX1_crossedTunes_18 : decode cX1_crossedTunes 18 = .ok (.iconst 3, 1) := by decide +kernel
theorem dX1_crossedTunes_19 : decode cX1_crossedTunes 19 = .ok (.if_icmp .ne 6, 3) := by decide +kernel
theorem dX1_crossedTunes_22 : decode cX1_crossedTunes 22 = .ok (.iinc 2 1, 3) := by decide +kernel
theorem dX1_crossedTunes_25 : decode cX1_crossedTunes 25 = .ok (.iinc 3 1, 3) := by decide +kernel
theorem dX1_crossedTunes_28 : decode cX1_crossedTunes 28 = .ok (.goto (-24), 3) := by decide +kernel
theorem dX1_crossedTunes_31 : decode cX1_crossedTunes 31 = .ok (.iload_n 2, 1) := by decide +kernel
theorem dX1_crossedTunes_32 : decode cX1_crossedTunes 32 = .ok (.ireturn, 1) := by decide +kernel
theorem dX2_renew_0 : decode cX2_renew 0 = .ok (.aload_n 0, 1) := by decide +kernel
theorem dX2_renew_1 : decode cX2_renew 1 = .ok (.iconst 1, 1) := by decide +kernel
theorem dX2_renew_2 : decode cX2_renew 2 = .ok (.putfield 9, 3) := by decide +kernel
theorem dX2_renew_5 : decode cX2_renew 5 = .ok (.aload_n 0, 1) := by decide +kernel
theorem dX2_renew_6 : decode cX2_renew 6 = .ok (.iload_n 1, 1) := by decide +kernel
theorem dX2_renew_7 : decode cX2_renew 7 = .ok (.putfield 15, 3) := by decide +kernel
theorem dX2_renew_10 : decode cX2_renew 10 = .ok (.aload_n 0, 1) := by decide +kernel
theorem dX2_renew_11 : decode cX2_renew 11 = .ok (.iload_n 2, 1) := by decide +kernel
theorem dX2_renew_12 : decode cX2_renew 12 = .ok (.putfield 19, 3) := by decide +kernel
theorem dX2_renew_15 : decode cX2_renew 15 = .ok (.iconst 0, 1) := by decide +kernel
theorem dX2_renew_16 : decode cX2_renew 16 = .ok (.istore_n 3, 1) := by decide +kernel
theorem dX2_renew_17 : decode cX2_renew 17 = .ok (.iload_n 3, 1) := by decide +kernel
theorem dX2_renew_18 : decode cX2_renew 18 = .ok (.bipush 40, 2) := by decide +kernel
theorem dX2_renew_20 : decode cX2_renew 20 = .ok (.if_icmp .ge 16, 3) := by decide +kernel
theorem dX2_renew_23 : decode cX2_renew 23 = .ok (.aload_n 0, 1) := by decide +kernel
theorem dX2_renew_24 : decode cX2_renew 24 = .ok (.getfield 22, 3) := by decide +kernel
theorem dX2_renew_27 : decode cX2_renew 27 = .ok (.iload_n 3, 1) := by decide +kernel
theorem dX2_renew_28 : decode cX2_renew 28 = .ok (.iconst 0, 1) := by decide +kernel
theorem dX2_renew_29 : decode cX2_renew 29 = .ok (.iastore, 1) := by decide +kernel
theorem dX2_renew_30 : decode cX2_renew 30 = .ok (.iinc 3 1, 3) := by decide +kernel
theorem dX2_renew_33 : decode cX2_renew 33 = .ok (.goto (-16), 3) := by decide +kernel
theorem dX2_renew_36 : decode cX2_renew 36 = .ok (.return_, 1) := by decide +kernel
theorem dX2_hasCell_0 : decode cX2_hasCell 0 = .ok (.lload_n 1, 1) := by decide +kernel
theorem dX2_hasCell_1 : decode cX2_hasCell 1 = .ok (.lconst 0, 1) := by decide +kernel
theorem dX2_hasCell_2 : decode cX2_hasCell 2 = .ok (.lcmp, 1) := by decide +kernel
theorem dX2_hasCell_3 : decode cX2_hasCell 3 = .ok (.ifCond .lt 17, 3) := by decide +kernel
theorem dX2_hasCell_6 : decode cX2_hasCell 6 = .ok (.lload_n 1, 1) := by decide +kernel
theorem dX2_hasCell_7 : decode cX2_hasCell 7 = .ok (.aload_n 0, 1) := by decide +kernel
theorem dX2_hasCell_8 : decode cX2_hasCell 8 = .ok (.getfield 19, 3) := by decide +kernel
theorem dX2_hasCell_11 : decode cX2_hasCell 11 = .ok (.i2l, 1) := by decide +kernel
theorem dX2_hasCell_12 : decode cX2_hasCell 12 = .ok (.lcmp, 1) := by decide +kernel
theorem dX2_hasCell_13 : decode cX2_hasCell 13 = .ok (.ifCond .ge 7, 3) := by decide +kernel
theorem dX2_hasCell_16 : decode cX2_hasCell 16 = .ok (.iconst 1, 1) := by decide +kernel
theorem dX2_hasCell_17 : decode cX2_hasCell 17 = .ok (.goto 4, 3) := by decide +kernel
theorem dX2_hasCell_20 : decode cX2_hasCell 20 = .ok (.iconst 0, 1) := by decide +kernel
theorem dX2_hasCell_21 : decode cX2_hasCell 21 = .ok (.ireturn, 1) := by decide +kernel
theorem dX2_faultAs_0 : decode cX2_faultAs 0 = .ok (.aload_n 0, 1) := by decide +kernel
theorem dX2_faultAs_1 : decode cX2_faultAs 1 = .ok (.getfield 9, 3) := by decide +kernel
theorem dX2_faultAs_4 : decode cX2_faultAs 4 = .ok (.ifCond .ne 5, 3) := by decide +kernel
theorem dX2_faultAs_7 : decode cX2_faultAs 7 = .ok (.iconst 1, 1) := by decide +kernel
theorem dX2_faultAs_8 : decode cX2_faultAs 8 = .ok (.ireturn, 1) := by decide +kernel
theorem dX2_faultAs_9 : decode cX2_faultAs 9 = .ok (.aload_n 0, 1) := by decide +kernel
theorem dX2_faultAs_10 : decode cX2_faultAs 10 = .ok (.getfield 15, 3) := by decide +kernel
theorem dX2_faultAs_13 : decode cX2_faultAs 13 = .ok (.iload_n 1, 1) := by decide +kernel
theorem dX2_faultAs_14 : decode cX2_faultAs 14 = .ok (.if_icmp .ne 7, 3) := by decide +kernel
theorem dX2_faultAs_17 : decode cX2_faultAs 17 = .ok (.iconst 0, 1) := by decide +kernel
theorem dX2_faultAs_18 : decode cX2_faultAs 18 = .ok (.goto 4, 3) := by decide +kernel
theorem dX2_faultAs_21 : decode cX2_faultAs 21 = .ok (.iconst 3, 1) := by decide +kernel
theorem dX2_faultAs_22 : decode cX2_faultAs 22 = .ok (.ireturn, 1) := by decide +kernel
theorem dX2_narrowed_0 : decode cX2_narrowed 0 = .ok (.iload_n 0, 1) := by decide +kernel
theorem dX2_narrowed_1 : decode cX2_narrowed 1 = .ok (.lookupswitch 33 #[(0, 27), (1, 30)], 27) := by decide +kernel
theorem dX2_narrowed_28 : decode cX2_narrowed 28 = .ok (.iload_n 1, 1) := by decide +kernel
theorem dX2_narrowed_29 : decode cX2_narrowed 29 = .ok (.i2b, 1) := by decide +kernel
theorem dX2_narrowed_30 : decode cX2_narrowed 30 = .ok (.ireturn, 1) := by decide +kernel
theorem dX2_narrowed_31 : decode cX2_narrowed 31 = .ok (.iload_n 1, 1) := by decide +kernel
theorem dX2_narrowed_32 : decode cX2_narrowed 32 = .ok (.i2s, 1) := by decide +kernel
theorem dX2_narrowed_33 : decode cX2_narrowed 33 = .ok (.ireturn, 1) := by decide +kernel
theorem dX2_narrowed_34 : decode cX2_narrowed 34 = .ok (.iload_n 1, 1) := by decide +kernel
theorem dX2_narrowed_35 : decode cX2_narrowed 35 = .ok (.ireturn, 1) := by decide +kernel
theorem dX3_append_0 : decode cX3_append 0 = .ok (.aload_n 0, 1) := by decide +kernel
theorem dX3_append_1 : decode cX3_append 1 = .ok (.getfield 15, 3) := by decide +kernel
theorem dX3_append_4 : decode cX3_append 4 = .ok (.sipush 160, 3) := by decide +kernel
theorem dX3_append_7 : decode cX3_append 7 = .ok (.if_icmp .lt 6, 3) := by decide +kernel
theorem dX3_append_10 : decode cX3_append 10 = .ok (.bipush (-3), 2) := by decide +kernel
theorem dX3_append_12 : decode cX3_append 12 = .ok (.ireturn, 1) := by decide +kernel
theorem dX3_append_13 : decode cX3_append 13 = .ok (.aload_n 0, 1) := by decide +kernel
theorem dX3_append_14 : decode cX3_append 14 = .ok (.getfield 11, 3) := by decide +kernel
theorem dX3_append_17 : decode cX3_append 17 = .ok (.aload_n 0, 1) := by decide +kernel
theorem dX3_append_18 : decode cX3_append 18 = .ok (.getfield 15, 3) := by decide +kernel
theorem dX3_append_21 : decode cX3_append 21 = .ok (.iload_n 1, 1) := by decide +kernel
theorem dX3_append_22 : decode cX3_append 22 = .ok (.iastore, 1) := by decide +kernel
theorem dX3_append_23 : decode cX3_append 23 = .ok (.aload_n 0, 1) := by decide +kernel
theorem dX3_append_24 : decode cX3_append 24 = .ok (.dup, 1) := by decide +kernel
theorem dX3_append_25 : decode cX3_append 25 = .ok (.getfield 15, 3) := by decide +kernel
theorem dX3_append_28 : decode cX3_append 28 = .ok (.iconst 1, 1) := by decide +kernel
theorem dX3_append_29 : decode cX3_append 29 = .ok (.iadd, 1) := by decide +kernel
theorem dX3_append_30 : decode cX3_append 30 = .ok (.putfield 15, 3) := by decide +kernel
theorem dX3_append_33 : decode cX3_append 33 = .ok (.aload_n 0, 1) := by decide +kernel
theorem dX3_append_34 : decode cX3_append 34 = .ok (.getfield 15, 3) := by decide +kernel
theorem dX3_append_37 : decode cX3_append 37 = .ok (.ireturn, 1) := by decide +kernel
theorem dX3_tellAll_0 : decode cX3_tellAll 0 = .ok (.aload_n 1, 1) := by decide +kernel
theorem dX3_tellAll_1 : decode cX3_tellAll 1 = .ok (.invokevirtual 34, 3) := by decide +kernel
theorem dX3_tellAll_4 : decode cX3_tellAll 4 = .ok (.aload_n 0, 1) := by decide +kernel
theorem dX3_tellAll_5 : decode cX3_tellAll 5 = .ok (.iconst 0, 1) := by decide +kernel
theorem dX3_tellAll_6 : decode cX3_tellAll 6 = .ok (.putfield 19, 3) := by decide +kernel
theorem dX3_tellAll_9 : decode cX3_tellAll 9 = .ok (.aload_n 0, 1) := by decide +kernel
theorem dX3_tellAll_10 : decode cX3_tellAll 10 = .ok (.iconst 0, 1) := by decide +kernel
theorem dX3_tellAll_11 : decode cX3_tellAll 11 = .ok (.putfield 31, 3) := by decide +kernel
theorem dX3_tellAll_14 : decode cX3_tellAll 14 = .ok (.iconst 0, 1) := by decide +kernel
theorem dX3_tellAll_15 : decode cX3_tellAll 15 = .ok (.istore_n 2, 1) := by decide +kernel
theorem dX3_tellAll_16 : decode cX3_tellAll 16 = .ok (.aload_n 0, 1) := by decide +kernel
theorem dX3_tellAll_17 : decode cX3_tellAll 17 = .ok (.invokevirtual 39, 3) := by decide +kernel
theorem dX3_tellAll_20 : decode cX3_tellAll 20 = .ok (.aload_n 0, 1) := by decide +kernel
theorem dX3_tellAll_21 : decode cX3_tellAll 21 = .ok (.getfield 19, 3) := by decide +kernel
theorem dX3_tellAll_24 : decode cX3_tellAll 24 = .ok (.ifCond .ne 32, 3) := by decide +kernel
theorem dX3_tellAll_27 : decode cX3_tellAll 27 = .ok (.aload_n 0, 1) := by decide +kernel
theorem dX3_tellAll_28 : decode cX3_tellAll 28 = .ok (.getfield 25, 3) := by decide +kernel
theorem dX3_tellAll_31 : decode cX3_tellAll 31 = .ok (.ifCond .eq 25, 3) := by decide +kernel
theorem dX3_tellAll_34 : decode cX3_tellAll 34 = .ok (.iload_n 2, 1) := by decide +kernel
theorem dX3_tellAll_35 : decode cX3_tellAll 35 = .ok (.sipush 160, 3) := by decide +kernel
theorem dX3_tellAll_38 : decode cX3_tellAll 38 = .ok (.if_icmp .ge 18, 3) := by decide +kernel
theorem dX3_tellAll_41 : decode cX3_tellAll 41 = .ok (.aload_n 0, 1) := by decide +kernel
theorem dX3_tellAll_42 : decode cX3_tellAll 42 = .ok (.aload_n 1, 1) := by decide +kernel
theorem dX3_tellAll_43 : decode cX3_tellAll 43 = .ok (.invokevirtual 42, 3) := by decide +kernel
theorem dX3_tellAll_46 : decode cX3_tellAll 46 = .ok (.aload_n 0, 1) := by decide +kernel
theorem dX3_tellAll_47 : decode cX3_tellAll 47 = .ok (.invokevirtual 39, 3) := by decide +kernel
theorem dX3_tellAll_50 : decode cX3_tellAll 50 = .ok (.iinc 2 1, 3) := by decide +kernel
theorem dX3_tellAll_53 : decode cX3_tellAll 53 = .ok (.goto (-33), 3) := by decide +kernel
theorem dX3_tellAll_56 : decode cX3_tellAll 56 = .ok (.aload_n 0, 1) := by decide +kernel
theorem dX3_tellAll_57 : decode cX3_tellAll 57 = .ok (.getfield 19, 3) := by decide +kernel
theorem dX3_tellAll_60 : decode cX3_tellAll 60 = .ok (.ifCond .ne 20, 3) := by decide +kernel
theorem dX3_tellAll_63 : decode cX3_tellAll 63 = .ok (.aload_n 1, 1) := by decide +kernel
theorem dX3_tellAll_64 : decode cX3_tellAll 64 = .ok (.invokevirtual 46, 3) := by decide +kernel
theorem dX3_tellAll_67 : decode cX3_tellAll 67 = .ok (.ifCond .ne 13, 3) := by decide +kernel
theorem dX3_tellAll_70 : decode cX3_tellAll 70 = .ok (.aload_n 0, 1) := by decide +kernel
theorem dX3_tellAll_71 : decode cX3_tellAll 71 = .ok (.bipush 6, 2) := by decide +kernel
theorem dX3_tellAll_73 : decode cX3_tellAll 73 = .ok (.aload_n 0, 1) := by decide +kernel
theorem dX3_tellAll_74 : decode cX3_tellAll 74 = .ok (.getfield 15, 3) := by decide +kernel
theorem dX3_tellAll_77 : decode cX3_tellAll 77 = .ok (.invokevirtual 50, 3) := by decide +kernel
theorem dX3_tellAll_80 : decode cX3_tellAll 80 = .ok (.aload_n 0, 1) := by decide +kernel
theorem dX3_tellAll_81 : decode cX3_tellAll 81 = .ok (.getfield 19, 3) := by decide +kernel
theorem dX3_tellAll_84 : decode cX3_tellAll 84 = .ok (.ifCond .ne 7, 3) := by decide +kernel
theorem dX3_tellAll_87 : decode cX3_tellAll 87 = .ok (.iload_n 2, 1) := by decide +kernel
theorem dX3_tellAll_88 : decode cX3_tellAll 88 = .ok (.goto 10, 3) := by decide +kernel
theorem dX3_tellAll_91 : decode cX3_tellAll 91 = .ok (.bipush (-10), 2) := by decide +kernel
theorem dX3_tellAll_93 : decode cX3_tellAll 93 = .ok (.aload_n 0, 1) := by decide +kernel
theorem dX3_tellAll_94 : decode cX3_tellAll 94 = .ok (.getfield 22, 3) := by decide +kernel
theorem dX3_tellAll_97 : decode cX3_tellAll 97 = .ok (.isub, 1) := by decide +kernel
theorem dX3_tellAll_98 : decode cX3_tellAll 98 = .ok (.ireturn, 1) := by decide +kernel
theorem dX3_tellLine_0 : decode cX3_tellLine 0 = .ok (.aload_n 0, 1) := by decide +kernel
theorem dX3_tellLine_1 : decode cX3_tellLine 1 = .ok (.getfield 25, 3) := by decide +kernel
theorem dX3_tellLine_4 : decode cX3_tellLine 4 = .ok (.iconst 4, 1) := by decide +kernel
theorem dX3_tellLine_5 : decode cX3_tellLine 5 = .ok (.if_icmp .ne 15, 3) := by decide +kernel
theorem dX3_tellLine_8 : decode cX3_tellLine 8 = .ok (.aload_n 0, 1) := by decide +kernel
theorem dX3_tellLine_9 : decode cX3_tellLine 9 = .ok (.iconst 1, 1) := by decide +kernel
theorem dX3_tellLine_10 : decode cX3_tellLine 10 = .ok (.aload_n 0, 1) := by decide +kernel
theorem dX3_tellLine_11 : decode cX3_tellLine 11 = .ok (.getfield 28, 3) := by decide +kernel
theorem dX3_tellLine_14 : decode cX3_tellLine 14 = .ok (.invokevirtual 50, 3) := by decide +kernel
theorem dX3_tellLine_17 : decode cX3_tellLine 17 = .ok (.goto 118, 3) := by decide +kernel
theorem dX3_tellLine_20 : decode cX3_tellLine 20 = .ok (.aload_n 0, 1) := by decide +kernel
theorem dX3_tellLine_21 : decode cX3_tellLine 21 = .ok (.ldc 54, 2) := by decide +kernel
theorem dX3_tellLine_23 : decode cX3_tellLine 23 = .ok (.invokevirtual 56, 3) := by decide +kernel
theorem dX3_tellLine_26 : decode cX3_tellLine 26 = .ok (.ifCond .eq 12, 3) := by decide +kernel
theorem dX3_tellLine_29 : decode cX3_tellLine 29 = .ok (.aload_n 0, 1) := by decide +kernel
theorem dX3_tellLine_30 : decode cX3_tellLine 30 = .ok (.aload_n 1, 1) := by decide +kernel
theorem dX3_tellLine_31 : decode cX3_tellLine 31 = .ok (.iconst 0, 1) := by decide +kernel
theorem dX3_tellLine_32 : decode cX3_tellLine 32 = .ok (.invokevirtual 60, 3) := by decide +kernel
theorem dX3_tellLine_35 : decode cX3_tellLine 35 = .ok (.goto 100, 3) := by decide +kernel
theorem dX3_tellLine_38 : decode cX3_tellLine 38 = .ok (.aload_n 0, 1) := by decide +kernel
theorem dX3_tellLine_39 : decode cX3_tellLine 39 = .ok (.ldc 64, 2) := by decide +kernel
theorem dX3_tellLine_41 : decode cX3_tellLine 41 = .ok (.invokevirtual 56, 3) := by decide +kernel
theorem dX3_tellLine_44 : decode cX3_tellLine 44 = .ok (.ifCond .eq 12, 3) := by decide +kernel
theorem dX3_tellLine_47 : decode cX3_tellLine 47 = .ok (.aload_n 0, 1) := by decide +kernel
theorem dX3_tellLine_48 : decode cX3_tellLine 48 = .ok (.aload_n 1, 1) := by decide +kernel
theorem dX3_tellLine_49 : decode cX3_tellLine 49 = .ok (.iconst 1, 1) := by decide +kernel
theorem dX3_tellLine_50 : decode cX3_tellLine 50 = .ok (.invokevirtual 60, 3) := by decide +kernel
theorem dX3_tellLine_53 : decode cX3_tellLine 53 = .ok (.goto 82, 3) := by decide +kernel
theorem dX3_tellLine_56 : decode cX3_tellLine 56 = .ok (.aload_n 0, 1) := by decide +kernel
theorem dX3_tellLine_57 : decode cX3_tellLine 57 = .ok (.ldc 66, 2) := by decide +kernel
theorem dX3_tellLine_59 : decode cX3_tellLine 59 = .ok (.invokevirtual 56, 3) := by decide +kernel
theorem dX3_tellLine_62 : decode cX3_tellLine 62 = .ok (.ifCond .eq 12, 3) := by decide +kernel
theorem dX3_tellLine_65 : decode cX3_tellLine 65 = .ok (.aload_n 0, 1) := by decide +kernel
theorem dX3_tellLine_66 : decode cX3_tellLine 66 = .ok (.aload_n 1, 1) := by decide +kernel
theorem dX3_tellLine_67 : decode cX3_tellLine 67 = .ok (.iconst 2, 1) := by decide +kernel
theorem dX3_tellLine_68 : decode cX3_tellLine 68 = .ok (.invokevirtual 60, 3) := by decide +kernel
theorem dX3_tellLine_71 : decode cX3_tellLine 71 = .ok (.goto 64, 3) := by decide +kernel
theorem dX3_tellLine_74 : decode cX3_tellLine 74 = .ok (.aload_n 0, 1) := by decide +kernel
theorem dX3_tellLine_75 : decode cX3_tellLine 75 = .ok (.ldc 68, 2) := by decide +kernel
theorem dX3_tellLine_77 : decode cX3_tellLine 77 = .ok (.invokevirtual 56, 3) := by decide +kernel
theorem dX3_tellLine_80 : decode cX3_tellLine 80 = .ok (.ifCond .eq 12, 3) := by decide +kernel
theorem dX3_tellLine_83 : decode cX3_tellLine 83 = .ok (.aload_n 0, 1) := by decide +kernel
theorem dX3_tellLine_84 : decode cX3_tellLine 84 = .ok (.aload_n 1, 1) := by decide +kernel
theorem dX3_tellLine_85 : decode cX3_tellLine 85 = .ok (.iconst 3, 1) := by decide +kernel
theorem dX3_tellLine_86 : decode cX3_tellLine 86 = .ok (.invokevirtual 60, 3) := by decide +kernel
theorem dX3_tellLine_89 : decode cX3_tellLine 89 = .ok (.goto 46, 3) := by decide +kernel
theorem dX3_tellLine_92 : decode cX3_tellLine 92 = .ok (.aload_n 0, 1) := by decide +kernel
theorem dX3_tellLine_93 : decode cX3_tellLine 93 = .ok (.ldc 70, 2) := by decide +kernel
theorem dX3_tellLine_95 : decode cX3_tellLine 95 = .ok (.invokevirtual 56, 3) := by decide +kernel
theorem dX3_tellLine_98 : decode cX3_tellLine 98 = .ok (.ifCond .eq 11, 3) := by decide +kernel
theorem dX3_tellLine_101 : decode cX3_tellLine 101 = .ok (.aload_n 0, 1) := by decide +kernel
theorem dX3_tellLine_102 : decode cX3_tellLine 102 = .ok (.aload_n 1, 1) := by decide +kernel
theorem dX3_tellLine_103 : decode cX3_tellLine 103 = .ok (.invokevirtual 72, 3) := by decide +kernel
theorem dX3_tellLine_106 : decode cX3_tellLine 106 = .ok (.goto 29, 3) := by decide +kernel
theorem dX3_tellLine_109 : decode cX3_tellLine 109 = .ok (.aload_n 0, 1) := by decide +kernel
theorem dX3_tellLine_110 : decode cX3_tellLine 110 = .ok (.ldc 75, 2) := by decide +kernel
theorem dX3_tellLine_112 : decode cX3_tellLine 112 = .ok (.invokevirtual 56, 3) := by decide +kernel
theorem dX3_tellLine_115 : decode cX3_tellLine 115 = .ok (.ifCond .eq 11, 3) := by decide +kernel
theorem dX3_tellLine_118 : decode cX3_tellLine 118 = .ok (.aload_n 0, 1) := by decide +kernel
theorem dX3_tellLine_119 : decode cX3_tellLine 119 = .ok (.aload_n 1, 1) := by decide +kernel
theorem dX3_tellLine_120 : decode cX3_tellLine 120 = .ok (.invokevirtual 77, 3) := by decide +kernel
theorem dX3_tellLine_123 : decode cX3_tellLine 123 = .ok (.goto 12, 3) := by decide +kernel
theorem dX3_tellLine_126 : decode cX3_tellLine 126 = .ok (.aload_n 0, 1) := by decide +kernel
theorem dX3_tellLine_127 : decode cX3_tellLine 127 = .ok (.iconst 2, 1) := by decide +kernel
theorem dX3_tellLine_128 : decode cX3_tellLine 128 = .ok (.aload_n 0, 1) := by decide +kernel
theorem dX3_tellLine_129 : decode cX3_tellLine 129 = .ok (.getfield 28, 3) := by decide +kernel
theorem dX3_tellLine_132 : decode cX3_tellLine 132 = .ok (.invokevirtual 50, 3) := by decide +kernel
theorem dX3_tellLine_135 : decode cX3_tellLine 135 = .ok (.return_, 1) := by decide +kernel
theorem dX3_tellTune_0 : decode cX3_tellTune 0 = .ok (.aload_n 1, 1) := by decide +kernel
theorem dX3_tellTune_1 : decode cX3_tellTune 1 = .ok (.getfield 80, 3) := by decide +kernel
theorem dX3_tellTune_4 : decode cX3_tellTune 4 = .ok (.istore_n 3, 1) := by decide +kernel
theorem dX3_tellTune_5 : decode cX3_tellTune 5 = .ok (.iload_n 3, 1) := by decide +kernel
theorem dX3_tellTune_6 : decode cX3_tellTune 6 = .ok (.iconst 4, 1) := by decide +kernel
theorem dX3_tellTune_7 : decode cX3_tellTune 7 = .ok (.if_icmp .lt 13, 3) := by decide +kernel
theorem dX3_tellTune_10 : decode cX3_tellTune 10 = .ok (.aload_n 0, 1) := by decide +kernel
theorem dX3_tellTune_11 : decode cX3_tellTune 11 = .ok (.iconst 5, 1) := by decide +kernel
theorem dX3_tellTune_12 : decode cX3_tellTune 12 = .ok (.aload_n 0, 1) := by decide +kernel
theorem dX3_tellTune_13 : decode cX3_tellTune 13 = .ok (.getfield 28, 3) := by decide +kernel
theorem dX3_tellTune_16 : decode cX3_tellTune 16 = .ok (.invokevirtual 50, 3) := by decide +kernel
theorem dX3_tellTune_19 : decode cX3_tellTune 19 = .ok (.return_, 1) := by decide +kernel
theorem dX3_tellTune_20 : decode cX3_tellTune 20 = .ok (.aload_n 1, 1) := by decide +kernel
theorem dX3_tellTune_21 : decode cX3_tellTune 21 = .ok (.dup, 1) := by decide +kernel
theorem dX3_tellTune_22 : decode cX3_tellTune 22 = .ok (.getfield 80, 3) := by decide +kernel
theorem dX3_tellTune_25 : decode cX3_tellTune 25 = .ok (.iconst 1, 1) := by decide +kernel
theorem dX3_tellTune_26 : decode cX3_tellTune 26 = .ok (.iadd, 1) := by decide +kernel
theorem dX3_tellTune_27 : decode cX3_tellTune 27 = .ok (.putfield 80, 3) := by decide +kernel
theorem dX3_tellTune_30 : decode cX3_tellTune 30 = .ok (.aload_n 1, 1) := by decide +kernel
theorem dX3_tellTune_31 : decode cX3_tellTune 31 = .ok (.getfield 83, 3) := by decide +kernel
theorem dX3_tellTune_34 : decode cX3_tellTune 34 = .ok (.iload_n 3, 1) := by decide +kernel
theorem dX3_tellTune_35 : decode cX3_tellTune 35 = .ok (.iload_n 2, 1) := by decide +kernel
theorem dX3_tellTune_36 : decode cX3_tellTune 36 = .ok (.iastore, 1) := by decide +kernel
theorem dX3_tellTune_37 : decode cX3_tellTune 37 = .ok (.aload_n 1, 1) := by decide +kernel
theorem dX3_tellTune_38 : decode cX3_tellTune 38 = .ok (.getfield 86, 3) := by decide +kernel
theorem dX3_tellTune_41 : decode cX3_tellTune 41 = .ok (.iload_n 3, 1) := by decide +kernel
theorem dX3_tellTune_42 : decode cX3_tellTune 42 = .ok (.aload_n 0, 1) := by decide +kernel
theorem dX3_tellTune_43 : decode cX3_tellTune 43 = .ok (.iconst 1, 1) := by decide +kernel
theorem dX3_tellTune_44 : decode cX3_tellTune 44 = .ok (.bipush 9, 2) := by decide +kernel
theorem dX3_tellTune_46 : decode cX3_tellTune 46 = .ok (.invokevirtual 89, 3) := by decide +kernel
theorem dX3_tellTune_49 : decode cX3_tellTune 49 = .ok (.iastore, 1) := by decide +kernel
theorem dX3_tellTune_50 : decode cX3_tellTune 50 = .ok (.aload_n 1, 1) := by decide +kernel
theorem dX3_tellTune_51 : decode cX3_tellTune 51 = .ok (.getfield 93, 3) := by decide +kernel
theorem dX3_tellTune_54 : decode cX3_tellTune 54 = .ok (.iload_n 3, 1) := by decide +kernel
theorem dX3_tellTune_55 : decode cX3_tellTune 55 = .ok (.aload_n 0, 1) := by decide +kernel
theorem dX3_tellTune_56 : decode cX3_tellTune 56 = .ok (.iconst 0, 1) := by decide +kernel
theorem dX3_tellTune_57 : decode cX3_tellTune 57 = .ok (.bipush 9, 2) := by decide +kernel
theorem dX3_tellTune_59 : decode cX3_tellTune 59 = .ok (.invokevirtual 89, 3) := by decide +kernel
theorem dX3_tellTune_62 : decode cX3_tellTune 62 = .ok (.iastore, 1) := by decide +kernel
theorem dX3_tellTune_63 : decode cX3_tellTune 63 = .ok (.aload_n 1, 1) := by decide +kernel
theorem dX3_tellTune_64 : decode cX3_tellTune 64 = .ok (.getfield 96, 3) := by decide +kernel
theorem dX3_tellTune_67 : decode cX3_tellTune 67 = .ok (.iload_n 3, 1) := by decide +kernel
theorem dX3_tellTune_68 : decode cX3_tellTune 68 = .ok (.bipush 8, 2) := by decide +kernel
theorem dX3_tellTune_70 : decode cX3_tellTune 70 = .ok (.imul, 1) := by decide +kernel
theorem dX3_tellTune_71 : decode cX3_tellTune 71 = .ok (.aload_n 0, 1) := by decide +kernel
theorem dX3_tellTune_72 : decode cX3_tellTune 72 = .ok (.iconst 0, 1) := by decide +kernel
theorem dX3_tellTune_73 : decode cX3_tellTune 73 = .ok (.bipush 9, 2) := by decide +kernel
theorem dX3_tellTune_75 : decode cX3_tellTune 75 = .ok (.invokevirtual 89, 3) := by decide +kernel
theorem dX3_tellTune_78 : decode cX3_tellTune 78 = .ok (.iastore, 1) := by decide +kernel
theorem dX3_tellTune_79 : decode cX3_tellTune 79 = .ok (.aload_n 1, 1) := by decide +kernel
theorem dX3_tellTune_80 : decode cX3_tellTune 80 = .ok (.getfield 99, 3) := by decide +kernel
theorem dX3_tellTune_83 : decode cX3_tellTune 83 = .ok (.iload_n 3, 1) := by decide +kernel
theorem dX3_tellTune_84 : decode cX3_tellTune 84 = .ok (.iconst 1, 1) := by decide +kernel
theorem dX3_tellTune_85 : decode cX3_tellTune 85 = .ok (.iastore, 1) := by decide +kernel
theorem dX3_tellTune_86 : decode cX3_tellTune 86 = .ok (.aload_n 0, 1) := by decide +kernel
theorem dX3_tellTune_87 : decode cX3_tellTune 87 = .ok (.invokevirtual 39, 3) := by decide +kernel
theorem dX3_tellTune_90 : decode cX3_tellTune 90 = .ok (.iconst 1, 1) := by decide +kernel
theorem dX3_tellTune_91 : decode cX3_tellTune 91 = .ok (.istore 4, 2) := by decide +kernel
theorem dX3_tellTune_93 : decode cX3_tellTune 93 = .ok (.iload 4, 2) := by decide +kernel
theorem dX3_tellTune_95 : decode cX3_tellTune 95 = .ok (.bipush 8, 2) := by decide +kernel
theorem dX3_tellTune_97 : decode cX3_tellTune 97 = .ok (.if_icmp .gt 80, 3) := by decide +kernel
theorem dX3_tellTune_100 : decode cX3_tellTune 100 = .ok (.aload_n 0, 1) := by decide +kernel
theorem dX3_tellTune_101 : decode cX3_tellTune 101 = .ok (.getfield 19, 3) := by decide +kernel
theorem dX3_tellTune_104 : decode cX3_tellTune 104 = .ok (.ifCond .ne 73, 3) := by decide +kernel
theorem dX3_tellTune_107 : decode cX3_tellTune 107 = .ok (.aload_n 0, 1) := by decide +kernel
theorem dX3_tellTune_108 : decode cX3_tellTune 108 = .ok (.getfield 25, 3) := by decide +kernel
theorem dX3_tellTune_111 : decode cX3_tellTune 111 = .ok (.iconst 2, 1) := by decide +kernel
theorem dX3_tellTune_112 : decode cX3_tellTune 112 = .ok (.if_icmp .ne 65, 3) := by decide +kernel
theorem dX3_tellTune_115 : decode cX3_tellTune 115 = .ok (.aload_n 0, 1) := by decide +kernel
theorem dX3_tellTune_116 : decode cX3_tellTune 116 = .ok (.iconst 0, 1) := by decide +kernel
theorem dX3_tellTune_117 : decode cX3_tellTune 117 = .ok (.bipush 9, 2) := by decide +kernel
theorem dX3_tellTune_119 : decode cX3_tellTune 119 = .ok (.invokevirtual 102, 3) := by decide +kernel
theorem dX3_tellTune_122 : decode cX3_tellTune 122 = .ok (.istore 5, 2) := by decide +kernel
theorem dX3_tellTune_124 : decode cX3_tellTune 124 = .ok (.iload 4, 2) := by decide +kernel
theorem dX3_tellTune_126 : decode cX3_tellTune 126 = .ok (.bipush 8, 2) := by decide +kernel
theorem dX3_tellTune_128 : decode cX3_tellTune 128 = .ok (.if_icmp .ne 15, 3) := by decide +kernel
theorem dX3_tellTune_131 : decode cX3_tellTune 131 = .ok (.aload_n 0, 1) := by decide +kernel
theorem dX3_tellTune_132 : decode cX3_tellTune 132 = .ok (.iconst 5, 1) := by decide +kernel
theorem dX3_tellTune_133 : decode cX3_tellTune 133 = .ok (.aload_n 0, 1) := by decide +kernel
theorem dX3_tellTune_134 : decode cX3_tellTune 134 = .ok (.getfield 28, 3) := by decide +kernel
theorem dX3_tellTune_137 : decode cX3_tellTune 137 = .ok (.invokevirtual 50, 3) := by decide +kernel
theorem dX3_tellTune_140 : decode cX3_tellTune 140 = .ok (.goto 31, 3) := by decide +kernel
theorem dX3_tellTune_143 : decode cX3_tellTune 143 = .ok (.aload_n 1, 1) := by decide +kernel
theorem dX3_tellTune_144 : decode cX3_tellTune 144 = .ok (.getfield 96, 3) := by decide +kernel
theorem dX3_tellTune_147 : decode cX3_tellTune 147 = .ok (.iload_n 3, 1) := by decide +kernel
theorem dX3_tellTune_148 : decode cX3_tellTune 148 = .ok (.bipush 8, 2) := by decide +kernel
theorem dX3_tellTune_150 : decode cX3_tellTune 150 = .ok (.imul, 1) := by decide +kernel
theorem dX3_tellTune_151 : decode cX3_tellTune 151 = .ok (.iload 4, 2) := by decide +kernel
theorem dX3_tellTune_153 : decode cX3_tellTune 153 = .ok (.iadd, 1) := by decide +kernel
theorem dX3_tellTune_154 : decode cX3_tellTune 154 = .ok (.iload 5, 2) := by decide +kernel
theorem dX3_tellTune_156 : decode cX3_tellTune 156 = .ok (.iastore, 1) := by decide +kernel
theorem dX3_tellTune_157 : decode cX3_tellTune 157 = .ok (.aload_n 1, 1) := by decide +kernel
theorem dX3_tellTune_158 : decode cX3_tellTune 158 = .ok (.getfield 99, 3) := by decide +kernel
theorem dX3_tellTune_161 : decode cX3_tellTune 161 = .ok (.iload_n 3, 1) := by decide +kernel
theorem dX3_tellTune_162 : decode cX3_tellTune 162 = .ok (.iload 4, 2) := by decide +kernel
theorem dX3_tellTune_164 : decode cX3_tellTune 164 = .ok (.iconst 1, 1) := by decide +kernel
theorem dX3_tellTune_165 : decode cX3_tellTune 165 = .ok (.iadd, 1) := by decide +kernel
theorem dX3_tellTune_166 : decode cX3_tellTune 166 = .ok (.iastore, 1) := by decide +kernel
theorem dX3_tellTune_167 : decode cX3_tellTune 167 = .ok (.aload_n 0, 1) := by decide +kernel
theorem dX3_tellTune_168 : decode cX3_tellTune 168 = .ok (.invokevirtual 39, 3) := by decide +kernel
theorem dX3_tellTune_171 : decode cX3_tellTune 171 = .ok (.iinc 4 1, 3) := by decide +kernel
theorem dX3_tellTune_174 : decode cX3_tellTune 174 = .ok (.goto (-81), 3) := by decide +kernel
theorem dX3_tellTune_177 : decode cX3_tellTune 177 = .ok (.aload_n 0, 1) := by decide +kernel
theorem dX3_tellTune_178 : decode cX3_tellTune 178 = .ok (.invokevirtual 105, 3) := by decide +kernel
theorem dX3_tellTune_181 : decode cX3_tellTune 181 = .ok (.return_, 1) := by decide +kernel
theorem dX3_tellPlayer_0 : decode cX3_tellPlayer 0 = .ok (.aload_n 1, 1) := by decide +kernel
theorem dX3_tellPlayer_1 : decode cX3_tellPlayer 1 = .ok (.getfield 108, 3) := by decide +kernel
theorem dX3_tellPlayer_4 : decode cX3_tellPlayer 4 = .ok (.istore_n 2, 1) := by decide +kernel
theorem dX3_tellPlayer_5 : decode cX3_tellPlayer 5 = .ok (.iload_n 2, 1) := by decide +kernel
theorem dX3_tellPlayer_6 : decode cX3_tellPlayer 6 = .ok (.iconst 4, 1) := by decide +kernel
theorem dX3_tellPlayer_7 : decode cX3_tellPlayer 7 = .ok (.if_icmp .lt 13, 3) := by decide +kernel
theorem dX3_tellPlayer_10 : decode cX3_tellPlayer 10 = .ok (.aload_n 0, 1) := by decide +kernel
theorem dX3_tellPlayer_11 : decode cX3_tellPlayer 11 = .ok (.iconst 5, 1) := by decide +kernel
theorem dX3_tellPlayer_12 : decode cX3_tellPlayer 12 = .ok (.aload_n 0, 1) := by decide +kernel
theorem dX3_tellPlayer_13 : decode cX3_tellPlayer 13 = .ok (.getfield 28, 3) := by decide +kernel
theorem dX3_tellPlayer_16 : decode cX3_tellPlayer 16 = .ok (.invokevirtual 50, 3) := by decide +kernel
theorem dX3_tellPlayer_19 : decode cX3_tellPlayer 19 = .ok (.return_, 1) := by decide +kernel
theorem dX3_tellPlayer_20 : decode cX3_tellPlayer 20 = .ok (.aload_n 1, 1) := by decide +kernel
theorem dX3_tellPlayer_21 : decode cX3_tellPlayer 21 = .ok (.dup, 1) := by decide +kernel
theorem dX3_tellPlayer_22 : decode cX3_tellPlayer 22 = .ok (.getfield 108, 3) := by decide +kernel
theorem dX3_tellPlayer_25 : decode cX3_tellPlayer 25 = .ok (.iconst 1, 1) := by decide +kernel
theorem dX3_tellPlayer_26 : decode cX3_tellPlayer 26 = .ok (.iadd, 1) := by decide +kernel
theorem dX3_tellPlayer_27 : decode cX3_tellPlayer 27 = .ok (.putfield 108, 3) := by decide +kernel
theorem dX3_tellPlayer_30 : decode cX3_tellPlayer 30 = .ok (.aload_n 1, 1) := by decide +kernel
theorem dX3_tellPlayer_31 : decode cX3_tellPlayer 31 = .ok (.getfield 111, 3) := by decide +kernel
theorem dX3_tellPlayer_34 : decode cX3_tellPlayer 34 = .ok (.iload_n 2, 1) := by decide +kernel
theorem dX3_tellPlayer_35 : decode cX3_tellPlayer 35 = .ok (.aload_n 0, 1) := by decide +kernel
theorem dX3_tellPlayer_36 : decode cX3_tellPlayer 36 = .ok (.iconst 0, 1) := by decide +kernel
theorem dX3_tellPlayer_37 : decode cX3_tellPlayer 37 = .ok (.bipush 9, 2) := by decide +kernel
theorem dX3_tellPlayer_39 : decode cX3_tellPlayer 39 = .ok (.invokevirtual 89, 3) := by decide +kernel
theorem dX3_tellPlayer_42 : decode cX3_tellPlayer 42 = .ok (.iastore, 1) := by decide +kernel
theorem dX3_tellPlayer_43 : decode cX3_tellPlayer 43 = .ok (.aload_n 1, 1) := by decide +kernel
theorem dX3_tellPlayer_44 : decode cX3_tellPlayer 44 = .ok (.getfield 114, 3) := by decide +kernel
theorem dX3_tellPlayer_47 : decode cX3_tellPlayer 47 = .ok (.iload_n 2, 1) := by decide +kernel
theorem dX3_tellPlayer_48 : decode cX3_tellPlayer 48 = .ok (.aload_n 0, 1) := by decide +kernel
theorem dX3_tellPlayer_49 : decode cX3_tellPlayer 49 = .ok (.iconst 1, 1) := by decide +kernel
theorem dX3_tellPlayer_50 : decode cX3_tellPlayer 50 = .ok (.bipush 99, 2) := by decide +kernel
theorem dX3_tellPlayer_52 : decode cX3_tellPlayer 52 = .ok (.invokevirtual 89, 3) := by decide +kernel
theorem dX3_tellPlayer_55 : decode cX3_tellPlayer 55 = .ok (.iastore, 1) := by decide +kernel
theorem dX3_tellPlayer_56 : decode cX3_tellPlayer 56 = .ok (.aload_n 1, 1) := by decide +kernel
theorem dX3_tellPlayer_57 : decode cX3_tellPlayer 57 = .ok (.getfield 117, 3) := by decide +kernel
theorem dX3_tellPlayer_60 : decode cX3_tellPlayer 60 = .ok (.iload_n 2, 1) := by decide +kernel
theorem dX3_tellPlayer_61 : decode cX3_tellPlayer 61 = .ok (.aload_n 0, 1) := by decide +kernel
theorem dX3_tellPlayer_62 : decode cX3_tellPlayer 62 = .ok (.iconst 0, 1) := by decide +kernel
theorem dX3_tellPlayer_63 : decode cX3_tellPlayer 63 = .ok (.bipush 9, 2) := by decide +kernel
theorem dX3_tellPlayer_65 : decode cX3_tellPlayer 65 = .ok (.invokevirtual 89, 3) := by decide +kernel
theorem dX3_tellPlayer_68 : decode cX3_tellPlayer 68 = .ok (.iastore, 1) := by decide +kernel
theorem dX3_tellPlayer_69 : decode cX3_tellPlayer 69 = .ok (.aload_n 1, 1) := by decide +kernel
theorem dX3_tellPlayer_70 : decode cX3_tellPlayer 70 = .ok (.getfield 120, 3) := by decide +kernel
theorem dX3_tellPlayer_73 : decode cX3_tellPlayer 73 = .ok (.iload_n 2, 1) := by decide +kernel
theorem dX3_tellPlayer_74 : decode cX3_tellPlayer 74 = .ok (.aload_n 0, 1) := by decide +kernel
theorem dX3_tellPlayer_75 : decode cX3_tellPlayer 75 = .ok (.iconst 0, 1) := by decide +kernel
theorem dX3_tellPlayer_76 : decode cX3_tellPlayer 76 = .ok (.iconst 3, 1) := by decide +kernel
theorem dX3_tellPlayer_77 : decode cX3_tellPlayer 77 = .ok (.invokevirtual 89, 3) := by decide +kernel
theorem dX3_tellPlayer_80 : decode cX3_tellPlayer 80 = .ok (.iastore, 1) := by decide +kernel
theorem dX3_tellPlayer_81 : decode cX3_tellPlayer 81 = .ok (.aload_n 0, 1) := by decide +kernel
theorem dX3_tellPlayer_82 : decode cX3_tellPlayer 82 = .ok (.invokevirtual 39, 3) := by decide +kernel
theorem dX3_tellPlayer_85 : decode cX3_tellPlayer 85 = .ok (.aload_n 0, 1) := by decide +kernel
theorem dX3_tellPlayer_86 : decode cX3_tellPlayer 86 = .ok (.invokevirtual 105, 3) := by decide +kernel
theorem dX3_tellPlayer_89 : decode cX3_tellPlayer 89 = .ok (.return_, 1) := by decide +kernel
theorem dX3_tellBound_0 : decode cX3_tellBound 0 = .ok (.aload_n 1, 1) := by decide +kernel
theorem dX3_tellBound_1 : decode cX3_tellBound 1 = .ok (.getfield 123, 3) := by decide +kernel
theorem dX3_tellBound_4 : decode cX3_tellBound 4 = .ok (.istore_n 2, 1) := by decide +kernel
theorem dX3_tellBound_5 : decode cX3_tellBound 5 = .ok (.iload_n 2, 1) := by decide +kernel
theorem dX3_tellBound_6 : decode cX3_tellBound 6 = .ok (.bipush 6, 2) := by decide +kernel
theorem dX3_tellBound_8 : decode cX3_tellBound 8 = .ok (.if_icmp .lt 13, 3) := by decide +kernel
theorem dX3_tellBound_11 : decode cX3_tellBound 11 = .ok (.aload_n 0, 1) := by decide +kernel
theorem dX3_tellBound_12 : decode cX3_tellBound 12 = .ok (.iconst 5, 1) := by decide +kernel
theorem dX3_tellBound_13 : decode cX3_tellBound 13 = .ok (.aload_n 0, 1) := by decide +kernel
theorem dX3_tellBound_14 : decode cX3_tellBound 14 = .ok (.getfield 28, 3) := by decide +kernel
theorem dX3_tellBound_17 : decode cX3_tellBound 17 = .ok (.invokevirtual 50, 3) := by decide +kernel
theorem dX3_tellBound_20 : decode cX3_tellBound 20 = .ok (.return_, 1) := by decide +kernel
theorem dX3_tellBound_21 : decode cX3_tellBound 21 = .ok (.aload_n 1, 1) := by decide +kernel
theorem dX3_tellBound_22 : decode cX3_tellBound 22 = .ok (.dup, 1) := by decide +kernel
theorem dX3_tellBound_23 : decode cX3_tellBound 23 = .ok (.getfield 123, 3) := by decide +kernel
theorem dX3_tellBound_26 : decode cX3_tellBound 26 = .ok (.iconst 1, 1) := by decide +kernel
theorem dX3_tellBound_27 : decode cX3_tellBound 27 = .ok (.iadd, 1) := by decide +kernel
theorem dX3_tellBound_28 : decode cX3_tellBound 28 = .ok (.putfield 123, 3) := by decide +kernel
theorem dX3_tellBound_31 : decode cX3_tellBound 31 = .ok (.aload_n 1, 1) := by decide +kernel
theorem dX3_tellBound_32 : decode cX3_tellBound 32 = .ok (.getfield 126, 3) := by decide +kernel
theorem dX3_tellBound_35 : decode cX3_tellBound 35 = .ok (.iload_n 2, 1) := by decide +kernel
theorem dX3_tellBound_36 : decode cX3_tellBound 36 = .ok (.aload_n 0, 1) := by decide +kernel
theorem dX3_tellBound_37 : decode cX3_tellBound 37 = .ok (.iconst 0, 1) := by decide +kernel
theorem dX3_tellBound_38 : decode cX3_tellBound 38 = .ok (.iconst 3, 1) := by decide +kernel
theorem dX3_tellBound_39 : decode cX3_tellBound 39 = .ok (.invokevirtual 89, 3) := by decide +kernel
theorem dX3_tellBound_42 : decode cX3_tellBound 42 = .ok (.iastore, 1) := by decide +kernel
theorem dX3_tellBound_43 : decode cX3_tellBound 43 = .ok (.aload_n 0, 1) := by decide +kernel
theorem dX3_tellBound_44 : decode cX3_tellBound 44 = .ok (.invokevirtual 39, 3) := by decide +kernel
theorem dX3_tellBound_47 : decode cX3_tellBound 47 = .ok (.aload_n 0, 1) := by decide +kernel
theorem dX3_tellBound_48 : decode cX3_tellBound 48 = .ok (.invokevirtual 105, 3) := by decide +kernel
theorem dX3_tellBound_51 : decode cX3_tellBound 51 = .ok (.return_, 1) := by decide +kernel
theorem dX3_nextNumber_0 : decode cX3_nextNumber 0 = .ok (.aload_n 0, 1) := by decide +kernel
theorem dX3_nextNumber_1 : decode cX3_nextNumber 1 = .ok (.invokevirtual 39, 3) := by decide +kernel
theorem dX3_nextNumber_4 : decode cX3_nextNumber 4 = .ok (.aload_n 0, 1) := by decide +kernel
theorem dX3_nextNumber_5 : decode cX3_nextNumber 5 = .ok (.iload_n 1, 1) := by decide +kernel
theorem dX3_nextNumber_6 : decode cX3_nextNumber 6 = .ok (.iload_n 2, 1) := by decide +kernel
theorem dX3_nextNumber_7 : decode cX3_nextNumber 7 = .ok (.invokevirtual 102, 3) := by decide +kernel
theorem dX3_nextNumber_10 : decode cX3_nextNumber 10 = .ok (.ireturn, 1) := by decide +kernel
theorem dX3_number_0 : decode cX3_number 0 = .ok (.aload_n 0, 1) := by decide +kernel
theorem dX3_number_1 : decode cX3_number 1 = .ok (.getfield 25, 3) := by decide +kernel
theorem dX3_number_4 : decode cX3_number 4 = .ok (.iconst 4, 1) := by decide +kernel
theorem dX3_number_5 : decode cX3_number 5 = .ok (.if_icmp .ne 14, 3) := by decide +kernel
theorem dX3_number_8 : decode cX3_number 8 = .ok (.aload_n 0, 1) := by decide +kernel
theorem dX3_number_9 : decode cX3_number 9 = .ok (.iconst 1, 1) := by decide +kernel
theorem dX3_number_10 : decode cX3_number 10 = .ok (.aload_n 0, 1) := by decide +kernel
theorem dX3_number_11 : decode cX3_number 11 = .ok (.getfield 28, 3) := by decide +kernel
theorem dX3_number_14 : decode cX3_number 14 = .ok (.invokevirtual 50, 3) := by decide +kernel
theorem dX3_number_17 : decode cX3_number 17 = .ok (.iload_n 1, 1) := by decide +kernel
theorem dX3_number_18 : decode cX3_number 18 = .ok (.ireturn, 1) := by decide +kernel
theorem dX3_number_19 : decode cX3_number 19 = .ok (.aload_n 0, 1) := by decide +kernel
theorem dX3_number_20 : decode cX3_number 20 = .ok (.getfield 25, 3) := by decide +kernel
theorem dX3_number_23 : decode cX3_number 23 = .ok (.iconst 2, 1) := by decide +kernel
theorem dX3_number_24 : decode cX3_number 24 = .ok (.if_icmp .eq 14, 3) := by decide +kernel
theorem dX3_number_27 : decode cX3_number 27 = .ok (.aload_n 0, 1) := by decide +kernel
theorem dX3_number_28 : decode cX3_number 28 = .ok (.iconst 2, 1) := by decide +kernel
theorem dX3_number_29 : decode cX3_number 29 = .ok (.aload_n 0, 1) := by decide +kernel
theorem dX3_number_30 : decode cX3_number 30 = .ok (.getfield 28, 3) := by decide +kernel
theorem dX3_number_33 : decode cX3_number 33 = .ok (.invokevirtual 50, 3) := by decide +kernel
theorem dX3_number_36 : decode cX3_number 36 = .ok (.iload_n 1, 1) := by decide +kernel
theorem dX3_number_37 : decode cX3_number 37 = .ok (.ireturn, 1) := by decide +kernel
theorem dX3_number_38 : decode cX3_number 38 = .ok (.iconst 0, 1) := by decide +kernel
theorem dX3_number_39 : decode cX3_number 39 = .ok (.istore_n 3, 1) := by decide +kernel
theorem dX3_number_40 : decode cX3_number 40 = .ok (.aload_n 0, 1) := by decide +kernel
theorem dX3_number_41 : decode cX3_number 41 = .ok (.getfield 28, 3) := by decide +kernel
theorem dX3_number_44 : decode cX3_number 44 = .ok (.istore 4, 2) := by decide +kernel
theorem dX3_number_46 : decode cX3_number 46 = .ok (.iload 4, 2) := by decide +kernel
theorem dX3_number_48 : decode cX3_number 48 = .ok (.aload_n 0, 1) := by decide +kernel
theorem dX3_number_49 : decode cX3_number 49 = .ok (.getfield 31, 3) := by decide +kernel
theorem dX3_number_52 : decode cX3_number 52 = .ok (.if_icmp .ge 25, 3) := by decide +kernel
theorem dX3_number_55 : decode cX3_number 55 = .ok (.iload_n 3, 1) := by decide +kernel
theorem dX3_number_56 : decode cX3_number 56 = .ok (.bipush 10, 2) := by decide +kernel
theorem dX3_number_58 : decode cX3_number 58 = .ok (.imul, 1) := by decide +kernel
theorem dX3_number_59 : decode cX3_number 59 = .ok (.aload_n 0, 1) := by decide +kernel
theorem dX3_number_60 : decode cX3_number 60 = .ok (.getfield 11, 3) := by decide +kernel
theorem dX3_number_63 : decode cX3_number 63 = .ok (.iload 4, 2) := by decide +kernel
theorem dX3_number_65 : decode cX3_number 65 = .ok (.iaload, 1) := by decide +kernel
theorem dX3_number_66 : decode cX3_number 66 = .ok (.iadd, 1) := by decide +kernel
theorem dX3_number_67 : decode cX3_number 67 = .ok (.bipush 48, 2) := by decide +kernel
theorem dX3_number_69 : decode cX3_number 69 = .ok (.isub, 1) := by decide +kernel
theorem dX3_number_70 : decode cX3_number 70 = .ok (.istore_n 3, 1) := by decide +kernel
theorem dX3_number_71 : decode cX3_number 71 = .ok (.iinc 4 1, 3) := by decide +kernel
theorem dX3_number_74 : decode cX3_number 74 = .ok (.goto (-28), 3) := by decide +kernel
theorem dX3_number_77 : decode cX3_number 77 = .ok (.iload_n 3, 1) := by decide +kernel
theorem dX3_number_78 : decode cX3_number 78 = .ok (.iload_n 1, 1) := by decide +kernel
theorem dX3_number_79 : decode cX3_number 79 = .ok (.iload_n 2, 1) := by decide +kernel
theorem dX3_number_80 : decode cX3_number 80 = .ok (.invokestatic 129, 3) := by decide +kernel
theorem dX3_number_83 : decode cX3_number 83 = .ok (.ifCond .ne 14, 3) := by decide +kernel
theorem dX3_number_86 : decode cX3_number 86 = .ok (.aload_n 0, 1) := by decide +kernel
theorem dX3_number_87 : decode cX3_number 87 = .ok (.iconst 3, 1) := by decide +kernel
theorem dX3_number_88 : decode cX3_number 88 = .ok (.aload_n 0, 1) := by decide +kernel
theorem dX3_number_89 : decode cX3_number 89 = .ok (.getfield 28, 3) := by decide +kernel
theorem dX3_number_92 : decode cX3_number 92 = .ok (.invokevirtual 50, 3) := by decide +kernel
theorem dX3_number_95 : decode cX3_number 95 = .ok (.iload_n 1, 1) := by decide +kernel
theorem dX3_number_96 : decode cX3_number 96 = .ok (.ireturn, 1) := by decide +kernel
theorem dX3_number_97 : decode cX3_number 97 = .ok (.iload_n 3, 1) := by decide +kernel
theorem dX3_number_98 : decode cX3_number 98 = .ok (.ireturn, 1) := by decide +kernel
theorem dX3_sign_0 : decode cX3_sign 0 = .ok (.aload_n 0, 1) := by decide +kernel
theorem dX3_sign_1 : decode cX3_sign 1 = .ok (.getfield 25, 3) := by decide +kernel
theorem dX3_sign_4 : decode cX3_sign 4 = .ok (.iconst 3, 1) := by decide +kernel
theorem dX3_sign_5 : decode cX3_sign 5 = .ok (.if_icmp .eq 24, 3) := by decide +kernel
theorem dX3_sign_8 : decode cX3_sign 8 = .ok (.aload_n 0, 1) := by decide +kernel
theorem dX3_sign_9 : decode cX3_sign 9 = .ok (.aload_n 0, 1) := by decide +kernel
theorem dX3_sign_10 : decode cX3_sign 10 = .ok (.getfield 25, 3) := by decide +kernel
theorem dX3_sign_13 : decode cX3_sign 13 = .ok (.iconst 4, 1) := by decide +kernel
theorem dX3_sign_14 : decode cX3_sign 14 = .ok (.if_icmp .ne 7, 3) := by decide +kernel
theorem dX3_sign_17 : decode cX3_sign 17 = .ok (.iconst 1, 1) := by decide +kernel
theorem dX3_sign_18 : decode cX3_sign 18 = .ok (.goto 4, 3) := by decide +kernel
theorem dX3_sign_21 : decode cX3_sign 21 = .ok (.iconst 2, 1) := by decide +kernel
theorem dX3_sign_22 : decode cX3_sign 22 = .ok (.aload_n 0, 1) := by decide +kernel
theorem dX3_sign_23 : decode cX3_sign 23 = .ok (.getfield 28, 3) := by decide +kernel
theorem dX3_sign_26 : decode cX3_sign 26 = .ok (.invokevirtual 50, 3) := by decide +kernel
theorem dX3_sign_29 : decode cX3_sign 29 = .ok (.return_, 1) := by decide +kernel
theorem dX3_fail_0 : decode cX3_fail 0 = .ok (.aload_n 0, 1) := by decide +kernel
theorem dX3_fail_1 : decode cX3_fail 1 = .ok (.getfield 19, 3) := by decide +kernel
theorem dX3_fail_4 : decode cX3_fail 4 = .ok (.ifCond .ne 13, 3) := by decide +kernel
theorem dX3_fail_7 : decode cX3_fail 7 = .ok (.aload_n 0, 1) := by decide +kernel
theorem dX3_fail_8 : decode cX3_fail 8 = .ok (.iload_n 1, 1) := by decide +kernel
theorem dX3_fail_9 : decode cX3_fail 9 = .ok (.putfield 19, 3) := by decide +kernel
theorem dX3_fail_12 : decode cX3_fail 12 = .ok (.aload_n 0, 1) := by decide +kernel
theorem dX3_fail_13 : decode cX3_fail 13 = .ok (.iload_n 2, 1) := by decide +kernel
theorem dX3_fail_14 : decode cX3_fail 14 = .ok (.putfield 22, 3) := by decide +kernel
theorem dX3_fail_17 : decode cX3_fail 17 = .ok (.return_, 1) := by decide +kernel
theorem dX3_advance_0 : decode cX3_advance 0 = .ok (.aload_n 0, 1) := by decide +kernel
theorem dX3_advance_1 : decode cX3_advance 1 = .ok (.getfield 31, 3) := by decide +kernel
theorem dX3_advance_4 : decode cX3_advance 4 = .ok (.aload_n 0, 1) := by decide +kernel
theorem dX3_advance_5 : decode cX3_advance 5 = .ok (.getfield 15, 3) := by decide +kernel
theorem dX3_advance_8 : decode cX3_advance 8 = .ok (.if_icmp .ge 30, 3) := by decide +kernel
theorem dX3_advance_11 : decode cX3_advance 11 = .ok (.aload_n 0, 1) := by decide +kernel
theorem dX3_advance_12 : decode cX3_advance 12 = .ok (.getfield 11, 3) := by decide +kernel
theorem dX3_advance_15 : decode cX3_advance 15 = .ok (.aload_n 0, 1) := by decide +kernel
theorem dX3_advance_16 : decode cX3_advance 16 = .ok (.getfield 31, 3) := by decide +kernel
theorem dX3_advance_19 : decode cX3_advance 19 = .ok (.iaload, 1) := by decide +kernel
theorem dX3_advance_20 : decode cX3_advance 20 = .ok (.bipush 32, 2) := by decide +kernel
theorem dX3_advance_22 : decode cX3_advance 22 = .ok (.if_icmp .ne 16, 3) := by decide +kernel
theorem dX3_advance_25 : decode cX3_advance 25 = .ok (.aload_n 0, 1) := by decide +kernel
theorem dX3_advance_26 : decode cX3_advance 26 = .ok (.dup, 1) := by decide +kernel
theorem dX3_advance_27 : decode cX3_advance 27 = .ok (.getfield 31, 3) := by decide +kernel
theorem dX3_advance_30 : decode cX3_advance 30 = .ok (.iconst 1, 1) := by decide +kernel
theorem dX3_advance_31 : decode cX3_advance 31 = .ok (.iadd, 1) := by decide +kernel
theorem dX3_advance_32 : decode cX3_advance 32 = .ok (.putfield 31, 3) := by decide +kernel
theorem dX3_advance_35 : decode cX3_advance 35 = .ok (.goto (-35), 3) := by decide +kernel
theorem dX3_advance_38 : decode cX3_advance 38 = .ok (.aload_n 0, 1) := by decide +kernel
theorem dX3_advance_39 : decode cX3_advance 39 = .ok (.aload_n 0, 1) := by decide +kernel
theorem dX3_advance_40 : decode cX3_advance 40 = .ok (.getfield 31, 3) := by decide +kernel
theorem dX3_advance_43 : decode cX3_advance 43 = .ok (.putfield 28, 3) := by decide +kernel
theorem dX3_advance_46 : decode cX3_advance 46 = .ok (.aload_n 0, 1) := by decide +kernel
theorem dX3_advance_47 : decode cX3_advance 47 = .ok (.getfield 31, 3) := by decide +kernel
theorem dX3_advance_50 : decode cX3_advance 50 = .ok (.aload_n 0, 1) := by decide +kernel
theorem dX3_advance_51 : decode cX3_advance 51 = .ok (.getfield 15, 3) := by decide +kernel
theorem dX3_advance_54 : decode cX3_advance 54 = .ok (.if_icmp .lt 11, 3) := by decide +kernel
theorem dX3_advance_57 : decode cX3_advance 57 = .ok (.aload_n 0, 1) := by decide +kernel
theorem dX3_advance_58 : decode cX3_advance 58 = .ok (.iconst 0, 1) := by decide +kernel
theorem dX3_advance_59 : decode cX3_advance 59 = .ok (.putfield 25, 3) := by decide +kernel
theorem dX3_advance_62 : decode cX3_advance 62 = .ok (.goto 123, 3) := by decide +kernel
theorem dX3_advance_65 : decode cX3_advance 65 = .ok (.aload_n 0, 1) := by decide +kernel
theorem dX3_advance_66 : decode cX3_advance 66 = .ok (.getfield 11, 3) := by decide +kernel
theorem dX3_advance_69 : decode cX3_advance 69 = .ok (.aload_n 0, 1) := by decide +kernel
theorem dX3_advance_70 : decode cX3_advance 70 = .ok (.getfield 31, 3) := by decide +kernel
theorem dX3_advance_73 : decode cX3_advance 73 = .ok (.iaload, 1) := by decide +kernel
theorem dX3_advance_74 : decode cX3_advance 74 = .ok (.bipush 97, 2) := by decide +kernel
theorem dX3_advance_76 : decode cX3_advance 76 = .ok (.bipush 122, 2) := by decide +kernel
theorem dX3_advance_78 : decode cX3_advance 78 = .ok (.invokestatic 129, 3) := by decide +kernel
theorem dX3_advance_81 : decode cX3_advance 81 = .ok (.ifCond .eq 19, 3) := by decide +kernel
theorem dX3_advance_84 : decode cX3_advance 84 = .ok (.aload_n 0, 1) := by decide +kernel
theorem dX3_advance_85 : decode cX3_advance 85 = .ok (.iconst 1, 1) := by decide +kernel
theorem dX3_advance_86 : decode cX3_advance 86 = .ok (.putfield 25, 3) := by decide +kernel
theorem dX3_advance_89 : decode cX3_advance 89 = .ok (.aload_n 0, 1) := by decide +kernel
theorem dX3_advance_90 : decode cX3_advance 90 = .ok (.bipush 97, 2) := by decide +kernel
theorem dX3_advance_92 : decode cX3_advance 92 = .ok (.bipush 122, 2) := by decide +kernel
theorem dX3_advance_94 : decode cX3_advance 94 = .ok (.invokevirtual 133, 3) := by decide +kernel
theorem dX3_advance_97 : decode cX3_advance 97 = .ok (.goto 88, 3) := by decide +kernel
theorem dX3_advance_100 : decode cX3_advance 100 = .ok (.aload_n 0, 1) := by decide +kernel
theorem dX3_advance_101 : decode cX3_advance 101 = .ok (.getfield 11, 3) := by decide +kernel
theorem dX3_advance_104 : decode cX3_advance 104 = .ok (.aload_n 0, 1) := by decide +kernel
theorem dX3_advance_105 : decode cX3_advance 105 = .ok (.getfield 31, 3) := by decide +kernel
theorem dX3_advance_108 : decode cX3_advance 108 = .ok (.iaload, 1) := by decide +kernel
theorem dX3_advance_109 : decode cX3_advance 109 = .ok (.bipush 48, 2) := by decide +kernel
theorem dX3_advance_111 : decode cX3_advance 111 = .ok (.bipush 57, 2) := by decide +kernel
theorem dX3_advance_113 : decode cX3_advance 113 = .ok (.invokestatic 129, 3) := by decide +kernel
theorem dX3_advance_116 : decode cX3_advance 116 = .ok (.ifCond .eq 36, 3) := by decide +kernel
theorem dX3_advance_119 : decode cX3_advance 119 = .ok (.aload_n 0, 1) := by decide +kernel
theorem dX3_advance_120 : decode cX3_advance 120 = .ok (.bipush 48, 2) := by decide +kernel
theorem dX3_advance_122 : decode cX3_advance 122 = .ok (.bipush 57, 2) := by decide +kernel
theorem dX3_advance_124 : decode cX3_advance 124 = .ok (.invokevirtual 133, 3) := by decide +kernel
theorem dX3_advance_127 : decode cX3_advance 127 = .ok (.aload_n 0, 1) := by decide +kernel
theorem dX3_advance_128 : decode cX3_advance 128 = .ok (.aload_n 0, 1) := by decide +kernel
theorem dX3_advance_129 : decode cX3_advance 129 = .ok (.getfield 31, 3) := by decide +kernel
theorem dX3_advance_132 : decode cX3_advance 132 = .ok (.aload_n 0, 1) := by decide +kernel
theorem dX3_advance_133 : decode cX3_advance 133 = .ok (.getfield 28, 3) := by decide +kernel
theorem dX3_advance_136 : decode cX3_advance 136 = .ok (.isub, 1) := by decide +kernel
theorem dX3_advance_137 : decode cX3_advance 137 = .ok (.iconst 2, 1) := by decide +kernel
theorem dX3_advance_138 : decode cX3_advance 138 = .ok (.if_icmp .gt 7, 3) := by decide +kernel
theorem dX3_advance_141 : decode cX3_advance 141 = .ok (.iconst 2, 1) := by decide +kernel
theorem dX3_advance_142 : decode cX3_advance 142 = .ok (.goto 4, 3) := by decide +kernel
theorem dX3_advance_145 : decode cX3_advance 145 = .ok (.iconst 4, 1) := by decide +kernel
theorem dX3_advance_146 : decode cX3_advance 146 = .ok (.putfield 25, 3) := by decide +kernel
theorem dX3_advance_149 : decode cX3_advance 149 = .ok (.goto 36, 3) := by decide +kernel
theorem dX3_advance_152 : decode cX3_advance 152 = .ok (.aload_n 0, 1) := by decide +kernel
theorem dX3_advance_153 : decode cX3_advance 153 = .ok (.aload_n 0, 1) := by decide +kernel
theorem dX3_advance_154 : decode cX3_advance 154 = .ok (.getfield 11, 3) := by decide +kernel
theorem dX3_advance_157 : decode cX3_advance 157 = .ok (.aload_n 0, 1) := by decide +kernel
theorem dX3_advance_158 : decode cX3_advance 158 = .ok (.getfield 31, 3) := by decide +kernel
theorem dX3_advance_161 : decode cX3_advance 161 = .ok (.iaload, 1) := by decide +kernel
theorem dX3_advance_162 : decode cX3_advance 162 = .ok (.bipush 59, 2) := by decide +kernel
theorem dX3_advance_164 : decode cX3_advance 164 = .ok (.if_icmp .ne 7, 3) := by decide +kernel
theorem dX3_advance_167 : decode cX3_advance 167 = .ok (.iconst 3, 1) := by decide +kernel
theorem dX3_advance_168 : decode cX3_advance 168 = .ok (.goto 4, 3) := by decide +kernel
theorem dX3_advance_171 : decode cX3_advance 171 = .ok (.iconst 4, 1) := by decide +kernel
theorem dX3_advance_172 : decode cX3_advance 172 = .ok (.putfield 25, 3) := by decide +kernel
theorem dX3_advance_175 : decode cX3_advance 175 = .ok (.aload_n 0, 1) := by decide +kernel
theorem dX3_advance_176 : decode cX3_advance 176 = .ok (.dup, 1) := by decide +kernel
theorem dX3_advance_177 : decode cX3_advance 177 = .ok (.getfield 31, 3) := by decide +kernel
theorem dX3_advance_180 : decode cX3_advance 180 = .ok (.iconst 1, 1) := by decide +kernel
theorem dX3_advance_181 : decode cX3_advance 181 = .ok (.iadd, 1) := by decide +kernel
theorem dX3_advance_182 : decode cX3_advance 182 = .ok (.putfield 31, 3) := by decide +kernel
theorem dX3_advance_185 : decode cX3_advance 185 = .ok (.return_, 1) := by decide +kernel
theorem dX3_pass_0 : decode cX3_pass 0 = .ok (.aload_n 0, 1) := by decide +kernel
theorem dX3_pass_1 : decode cX3_pass 1 = .ok (.getfield 31, 3) := by decide +kernel
theorem dX3_pass_4 : decode cX3_pass 4 = .ok (.aload_n 0, 1) := by decide +kernel
theorem dX3_pass_5 : decode cX3_pass 5 = .ok (.getfield 15, 3) := by decide +kernel
theorem dX3_pass_8 : decode cX3_pass 8 = .ok (.if_icmp .ge 33, 3) := by decide +kernel
theorem dX3_pass_11 : decode cX3_pass 11 = .ok (.aload_n 0, 1) := by decide +kernel
theorem dX3_pass_12 : decode cX3_pass 12 = .ok (.getfield 11, 3) := by decide +kernel
theorem dX3_pass_15 : decode cX3_pass 15 = .ok (.aload_n 0, 1) := by decide +kernel
theorem dX3_pass_16 : decode cX3_pass 16 = .ok (.getfield 31, 3) := by decide +kernel
theorem dX3_pass_19 : decode cX3_pass 19 = .ok (.iaload, 1) := by decide +kernel
theorem dX3_pass_20 : decode cX3_pass 20 = .ok (.iload_n 1, 1) := by decide +kernel
theorem dX3_pass_21 : decode cX3_pass 21 = .ok (.iload_n 2, 1) := by decide +kernel
theorem dX3_pass_22 : decode cX3_pass 22 = .ok (.invokestatic 129, 3) := by decide +kernel
theorem dX3_pass_25 : decode cX3_pass 25 = .ok (.ifCond .eq 16, 3) := by decide +kernel
theorem dX3_pass_28 : decode cX3_pass 28 = .ok (.aload_n 0, 1) := by decide +kernel
theorem dX3_pass_29 : decode cX3_pass 29 = .ok (.dup, 1) := by decide +kernel
theorem dX3_pass_30 : decode cX3_pass 30 = .ok (.getfield 31, 3) := by decide +kernel
theorem dX3_pass_33 : decode cX3_pass 33 = .ok (.iconst 1, 1) := by decide +kernel
theorem dX3_pass_34 : decode cX3_pass 34 = .ok (.iadd, 1) := by decide +kernel
theorem dX3_pass_35 : decode cX3_pass 35 = .ok (.putfield 31, 3) := by decide +kernel
theorem dX3_pass_38 : decode cX3_pass 38 = .ok (.goto (-38), 3) := by decide +kernel
theorem dX3_pass_41 : decode cX3_pass 41 = .ok (.return_, 1) := by decide +kernel
theorem dX3_isName_0 : decode cX3_isName 0 = .ok (.aload_n 0, 1) := by decide +kernel
theorem dX3_isName_1 : decode cX3_isName 1 = .ok (.getfield 25, 3) := by decide +kernel
theorem dX3_isName_4 : decode cX3_isName 4 = .ok (.iconst 1, 1) := by decide +kernel
theorem dX3_isName_5 : decode cX3_isName 5 = .ok (.if_icmp .ne 19, 3) := by decide +kernel
theorem dX3_isName_8 : decode cX3_isName 8 = .ok (.aload_n 0, 1) := by decide +kernel
theorem dX3_isName_9 : decode cX3_isName 9 = .ok (.getfield 31, 3) := by decide +kernel
theorem dX3_isName_12 : decode cX3_isName 12 = .ok (.aload_n 0, 1) := by decide +kernel
theorem dX3_isName_13 : decode cX3_isName 13 = .ok (.getfield 28, 3) := by decide +kernel
theorem dX3_isName_16 : decode cX3_isName 16 = .ok (.isub, 1) := by decide +kernel
theorem dX3_isName_17 : decode cX3_isName 17 = .ok (.aload_n 1, 1) := by decide +kernel
theorem dX3_isName_18 : decode cX3_isName 18 = .ok (.invokevirtual 136, 3) := by decide +kernel
theorem dX3_isName_21 : decode cX3_isName 21 = .ok (.if_icmp .eq 5, 3) := by decide +kernel
theorem dX3_isName_24 : decode cX3_isName 24 = .ok (.iconst 0, 1) := by decide +kernel
theorem dX3_isName_25 : decode cX3_isName 25 = .ok (.ireturn, 1) := by decide +kernel
theorem dX3_isName_26 : decode cX3_isName 26 = .ok (.iconst 0, 1) := by decide +kernel
theorem dX3_isName_27 : decode cX3_isName 27 = .ok (.istore_n 2, 1) := by decide +kernel
theorem dX3_isName_28 : decode cX3_isName 28 = .ok (.iload_n 2, 1) := by decide +kernel
theorem dX3_isName_29 : decode cX3_isName 29 = .ok (.aload_n 1, 1) := by decide +kernel
theorem dX3_isName_30 : decode cX3_isName 30 = .ok (.invokevirtual 136, 3) := by decide +kernel
theorem dX3_isName_33 : decode cX3_isName 33 = .ok (.if_icmp .ge 30, 3) := by decide +kernel
theorem dX3_isName_36 : decode cX3_isName 36 = .ok (.aload_n 0, 1) := by decide +kernel
theorem dX3_isName_37 : decode cX3_isName 37 = .ok (.getfield 11, 3) := by decide +kernel
theorem dX3_isName_40 : decode cX3_isName 40 = .ok (.aload_n 0, 1) := by decide +kernel
theorem dX3_isName_41 : decode cX3_isName 41 = .ok (.getfield 28, 3) := by decide +kernel
theorem dX3_isName_44 : decode cX3_isName 44 = .ok (.iload_n 2, 1) := by decide +kernel
theorem dX3_isName_45 : decode cX3_isName 45 = .ok (.iadd, 1) := by decide +kernel
theorem dX3_isName_46 : decode cX3_isName 46 = .ok (.iaload, 1) := by decide +kernel
theorem dX3_isName_47 : decode cX3_isName 47 = .ok (.aload_n 1, 1) := by decide +kernel
theorem dX3_isName_48 : decode cX3_isName 48 = .ok (.iload_n 2, 1) := by decide +kernel
theorem dX3_isName_49 : decode cX3_isName 49 = .ok (.invokevirtual 141, 3) := by decide +kernel
theorem dX3_isName_52 : decode cX3_isName 52 = .ok (.if_icmp .eq 5, 3) := by decide +kernel
theorem dX3_isName_55 : decode cX3_isName 55 = .ok (.iconst 0, 1) := by decide +kernel
theorem dX3_isName_56 : decode cX3_isName 56 = .ok (.ireturn, 1) := by decide +kernel
theorem dX3_isName_57 : decode cX3_isName 57 = .ok (.iinc 2 1, 3) := by decide +kernel
theorem dX3_isName_60 : decode cX3_isName 60 = .ok (.goto (-32), 3) := by decide +kernel
theorem dX3_isName_63 : decode cX3_isName 63 = .ok (.iconst 1, 1) := by decide +kernel
theorem dX3_isName_64 : decode cX3_isName 64 = .ok (.ireturn, 1) := by decide +kernel
theorem dX4_feed_0 : decode cX4_feed 0 = .ok (.iload_n 1, 1) := by decide +kernel
theorem dX4_feed_1 : decode cX4_feed 1 = .ok (.iconst 0, 1) := by decide +kernel
theorem dX4_feed_2 : decode cX4_feed 2 = .ok (.bipush 127, 2) := by decide +kernel
theorem dX4_feed_4 : decode cX4_feed 4 = .ok (.invokestatic 68, 3) := by decide +kernel
theorem dX4_feed_7 : decode cX4_feed 7 = .ok (.ifCond .ne 5, 3) := by decide +kernel
theorem dX4_feed_10 : decode cX4_feed 10 = .ok (.iconst (-1), 1) := by decide +kernel
theorem dX4_feed_11 : decode cX4_feed 11 = .ok (.ireturn, 1) := by decide +kernel
theorem dX4_feed_12 : decode cX4_feed 12 = .ok (.aload_n 0, 1) := by decide +kernel
theorem dX4_feed_13 : decode cX4_feed 13 = .ok (.getfield 33, 3) := by decide +kernel
theorem dX4_feed_16 : decode cX4_feed 16 = .ok (.iload_n 1, 1) := by decide +kernel
theorem dX4_feed_17 : decode cX4_feed 17 = .ok (.invokevirtual 72, 3) := by decide +kernel
theorem dX4_feed_20 : decode cX4_feed 20 = .ok (.ireturn, 1) := by decide +kernel
theorem dX4_end_0 : decode cX4_end 0 = .ok (.aload_n 0, 1) := by decide +kernel
theorem dX4_end_1 : decode cX4_end 1 = .ok (.getfield 33, 3) := by decide +kernel
theorem dX4_end_4 : decode cX4_end 4 = .ok (.getfield 76, 3) := by decide +kernel
theorem dX4_end_7 : decode cX4_end 7 = .ok (.istore_n 2, 1) := by decide +kernel
theorem dX4_end_8 : decode cX4_end 8 = .ok (.iload_n 1, 1) := by decide +kernel
theorem dX4_end_9 : decode cX4_end 9 = .ok (.iconst 0, 1) := by decide +kernel
theorem dX4_end_10 : decode cX4_end 10 = .ok (.iload_n 2, 1) := by decide +kernel
theorem dX4_end_11 : decode cX4_end 11 = .ok (.invokestatic 68, 3) := by decide +kernel
theorem dX4_end_14 : decode cX4_end 14 = .ok (.ifCond .ne 5, 3) := by decide +kernel
theorem dX4_end_17 : decode cX4_end 17 = .ok (.iconst (-1), 1) := by decide +kernel
theorem dX4_end_18 : decode cX4_end 18 = .ok (.ireturn, 1) := by decide +kernel
theorem dX4_end_19 : decode cX4_end 19 = .ok (.aload_n 0, 1) := by decide +kernel
theorem dX4_end_20 : decode cX4_end 20 = .ok (.getfield 33, 3) := by decide +kernel
theorem dX4_end_23 : decode cX4_end 23 = .ok (.iload_n 1, 1) := by decide +kernel
theorem dX4_end_24 : decode cX4_end 24 = .ok (.putfield 76, 3) := by decide +kernel
theorem dX4_end_27 : decode cX4_end 27 = .ok (.iload_n 2, 1) := by decide +kernel
theorem dX4_end_28 : decode cX4_end 28 = .ok (.ireturn, 1) := by decide +kernel
theorem dX4_text_0 : decode cX4_text 0 = .ok (.aload_n 0, 1) := by decide +kernel
theorem dX4_text_1 : decode cX4_text 1 = .ok (.getfield 33, 3) := by decide +kernel
theorem dX4_text_4 : decode cX4_text 4 = .ok (.aload_n 0, 1) := by decide +kernel
theorem dX4_text_5 : decode cX4_text 5 = .ok (.getfield 16, 3) := by decide +kernel
theorem dX4_text_8 : decode cX4_text 8 = .ok (.invokevirtual 79, 3) := by decide +kernel
theorem dX4_text_11 : decode cX4_text 11 = .ok (.istore_n 1, 1) := by decide +kernel
theorem dX4_text_12 : decode cX4_text 12 = .ok (.aload_n 0, 1) := by decide +kernel
theorem dX4_text_13 : decode cX4_text 13 = .ok (.getfield 33, 3) := by decide +kernel
theorem dX4_text_16 : decode cX4_text 16 = .ok (.iconst 0, 1) := by decide +kernel
theorem dX4_text_17 : decode cX4_text 17 = .ok (.putfield 76, 3) := by decide +kernel
theorem dX4_text_20 : decode cX4_text 20 = .ok (.iload_n 1, 1) := by decide +kernel
theorem dX4_text_21 : decode cX4_text 21 = .ok (.ifCond .lt 39, 3) := by decide +kernel
theorem dX4_text_24 : decode cX4_text 24 = .ok (.aload_n 0, 1) := by decide +kernel
theorem dX4_text_25 : decode cX4_text 25 = .ok (.getfield 10, 3) := by decide +kernel
theorem dX4_text_28 : decode cX4_text 28 = .ok (.aload_n 0, 1) := by decide +kernel
theorem dX4_text_29 : decode cX4_text 29 = .ok (.getfield 16, 3) := by decide +kernel
theorem dX4_text_32 : decode cX4_text 32 = .ok (.invokevirtual 83, 3) := by decide +kernel
theorem dX4_text_35 : decode cX4_text 35 = .ok (.aload_n 0, 1) := by decide +kernel
theorem dX4_text_36 : decode cX4_text 36 = .ok (.iconst 0, 1) := by decide +kernel
theorem dX4_text_37 : decode cX4_text 37 = .ok (.putfield 60, 3) := by decide +kernel
theorem dX4_text_40 : decode cX4_text 40 = .ok (.iconst 0, 1) := by decide +kernel
theorem dX4_text_41 : decode cX4_text 41 = .ok (.istore_n 2, 1) := by decide +kernel
theorem dX4_text_42 : decode cX4_text 42 = .ok (.iload_n 2, 1) := by decide +kernel
theorem dX4_text_43 : decode cX4_text 43 = .ok (.iconst 2, 1) := by decide +kernel
theorem dX4_text_44 : decode cX4_text 44 = .ok (.if_icmp .ge 16, 3) := by decide +kernel
theorem dX4_text_47 : decode cX4_text 47 = .ok (.aload_n 0, 1) := by decide +kernel
theorem dX4_text_48 : decode cX4_text 48 = .ok (.getfield 26, 3) := by decide +kernel
theorem dX4_text_51 : decode cX4_text 51 = .ok (.iload_n 2, 1) := by decide +kernel
theorem dX4_text_52 : decode cX4_text 52 = .ok (.iconst 0, 1) := by decide +kernel
theorem dX4_text_53 : decode cX4_text 53 = .ok (.bastore, 1) := by decide +kernel
theorem dX4_text_54 : decode cX4_text 54 = .ok (.iinc 2 1, 3) := by decide +kernel
theorem dX4_text_57 : decode cX4_text 57 = .ok (.goto (-15), 3) := by decide +kernel
theorem dX4_text_60 : decode cX4_text 60 = .ok (.iload_n 1, 1) := by decide +kernel
theorem dX4_text_61 : decode cX4_text 61 = .ok (.ireturn, 1) := by decide +kernel
theorem dX4_fault_0 : decode cX4_fault 0 = .ok (.aload_n 0, 1) := by decide +kernel
theorem dX4_fault_1 : decode cX4_fault 1 = .ok (.getfield 33, 3) := by decide +kernel
theorem dX4_fault_4 : decode cX4_fault 4 = .ok (.getfield 87, 3) := by decide +kernel
theorem dX4_fault_7 : decode cX4_fault 7 = .ok (.ireturn, 1) := by decide +kernel
theorem dX4_rule_0 : decode cX4_rule 0 = .ok (.iload_n 1, 1) := by decide +kernel
theorem dX4_rule_1 : decode cX4_rule 1 = .ok (.tableswitch 51 0 2 #[27, 35, 43], 27) := by decide +kernel
theorem dX4_rule_28 : decode cX4_rule 28 = .ok (.aload_n 0, 1) := by decide +kernel
theorem dX4_rule_29 : decode cX4_rule 29 = .ok (.getfield 10, 3) := by decide +kernel
theorem dX4_rule_32 : decode cX4_rule 32 = .ok (.getfield 90, 3) := by decide +kernel
theorem dX4_rule_35 : decode cX4_rule 35 = .ok (.ireturn, 1) := by decide +kernel
theorem dX4_rule_36 : decode cX4_rule 36 = .ok (.aload_n 0, 1) := by decide +kernel
theorem dX4_rule_37 : decode cX4_rule 37 = .ok (.getfield 10, 3) := by decide +kernel
theorem dX4_rule_40 : decode cX4_rule 40 = .ok (.getfield 93, 3) := by decide +kernel
theorem dX4_rule_43 : decode cX4_rule 43 = .ok (.ireturn, 1) := by decide +kernel
theorem dX4_rule_44 : decode cX4_rule 44 = .ok (.aload_n 0, 1) := by decide +kernel
theorem dX4_rule_45 : decode cX4_rule 45 = .ok (.getfield 10, 3) := by decide +kernel
theorem dX4_rule_48 : decode cX4_rule 48 = .ok (.getfield 96, 3) := by decide +kernel
theorem dX4_rule_51 : decode cX4_rule 51 = .ok (.ireturn, 1) := by decide +kernel
theorem dX4_rule_52 : decode cX4_rule 52 = .ok (.iconst (-1), 1) := by decide +kernel
theorem dX4_rule_53 : decode cX4_rule 53 = .ok (.ireturn, 1) := by decide +kernel
theorem dX4_tune_0 : decode cX4_tune 0 = .ok (.aload_n 0, 1) := by decide +kernel
theorem dX4_tune_1 : decode cX4_tune 1 = .ok (.getfield 10, 3) := by decide +kernel
theorem dX4_tune_4 : decode cX4_tune 4 = .ok (.iload_n 1, 1) := by decide +kernel
theorem dX4_tune_5 : decode cX4_tune 5 = .ok (.invokevirtual 99, 3) := by decide +kernel
theorem dX4_tune_8 : decode cX4_tune 8 = .ok (.ifCond .ne 5, 3) := by decide +kernel
theorem dX4_tune_11 : decode cX4_tune 11 = .ok (.iconst (-1), 1) := by decide +kernel
theorem dX4_tune_12 : decode cX4_tune 12 = .ok (.ireturn, 1) := by decide +kernel
theorem dX4_tune_13 : decode cX4_tune 13 = .ok (.iload_n 2, 1) := by decide +kernel
theorem dX4_tune_14 : decode cX4_tune 14 = .ok (.tableswitch 105 0 5 #[38, 48, 58, 68, 78, 96], 38) := by decide +kernel
theorem dX4_tune_52 : decode cX4_tune 52 = .ok (.aload_n 0, 1) := by decide +kernel
theorem dX4_tune_53 : decode cX4_tune 53 = .ok (.getfield 10, 3) := by decide +kernel
theorem dX4_tune_56 : decode cX4_tune 56 = .ok (.getfield 103, 3) := by decide +kernel
theorem dX4_tune_59 : decode cX4_tune 59 = .ok (.iload_n 1, 1) := by decide +kernel
theorem dX4_tune_60 : decode cX4_tune 60 = .ok (.iaload, 1) := by decide +kernel
theorem dX4_tune_61 : decode cX4_tune 61 = .ok (.ireturn, 1) := by decide +kernel
theorem dX4_tune_62 : decode cX4_tune 62 = .ok (.aload_n 0, 1) := by decide +kernel
theorem dX4_tune_63 : decode cX4_tune 63 = .ok (.getfield 10, 3) := by decide +kernel
theorem dX4_tune_66 : decode cX4_tune 66 = .ok (.getfield 106, 3) := by decide +kernel
theorem dX4_tune_69 : decode cX4_tune 69 = .ok (.iload_n 1, 1) := by decide +kernel
theorem dX4_tune_70 : decode cX4_tune 70 = .ok (.iaload, 1) := by decide +kernel
theorem dX4_tune_71 : decode cX4_tune 71 = .ok (.ireturn, 1) := by decide +kernel
theorem dX4_tune_72 : decode cX4_tune 72 = .ok (.aload_n 0, 1) := by decide +kernel
theorem dX4_tune_73 : decode cX4_tune 73 = .ok (.getfield 10, 3) := by decide +kernel
theorem dX4_tune_76 : decode cX4_tune 76 = .ok (.getfield 109, 3) := by decide +kernel
theorem dX4_tune_79 : decode cX4_tune 79 = .ok (.iload_n 1, 1) := by decide +kernel
theorem dX4_tune_80 : decode cX4_tune 80 = .ok (.iaload, 1) := by decide +kernel
theorem dX4_tune_81 : decode cX4_tune 81 = .ok (.ireturn, 1) := by decide +kernel
theorem dX4_tune_82 : decode cX4_tune 82 = .ok (.aload_n 0, 1) := by decide +kernel
theorem dX4_tune_83 : decode cX4_tune 83 = .ok (.getfield 10, 3) := by decide +kernel
theorem dX4_tune_86 : decode cX4_tune 86 = .ok (.getfield 112, 3) := by decide +kernel
theorem dX4_tune_89 : decode cX4_tune 89 = .ok (.iload_n 1, 1) := by decide +kernel
theorem dX4_tune_90 : decode cX4_tune 90 = .ok (.iaload, 1) := by decide +kernel
theorem dX4_tune_91 : decode cX4_tune 91 = .ok (.ireturn, 1) := by decide +kernel
theorem dX4_tune_92 : decode cX4_tune 92 = .ok (.aload_n 0, 1) := by decide +kernel
theorem dX4_tune_93 : decode cX4_tune 93 = .ok (.getfield 10, 3) := by decide +kernel
theorem dX4_tune_96 : decode cX4_tune 96 = .ok (.iload_n 1, 1) := by decide +kernel
theorem dX4_tune_97 : decode cX4_tune 97 = .ok (.aload_n 0, 1) := by decide +kernel
theorem dX4_tune_98 : decode cX4_tune 98 = .ok (.getfield 10, 3) := by decide +kernel
theorem dX4_tune_101 : decode cX4_tune 101 = .ok (.getfield 103, 3) := by decide +kernel
theorem dX4_tune_104 : decode cX4_tune 104 = .ok (.iload_n 1, 1) := by decide +kernel
theorem dX4_tune_105 : decode cX4_tune 105 = .ok (.iaload, 1) := by decide +kernel
theorem dX4_tune_106 : decode cX4_tune 106 = .ok (.invokevirtual 115, 3) := by decide +kernel
theorem dX4_tune_109 : decode cX4_tune 109 = .ok (.ireturn, 1) := by decide +kernel
theorem dX4_tune_110 : decode cX4_tune 110 = .ok (.aload_n 0, 1) := by decide +kernel
theorem dX4_tune_111 : decode cX4_tune 111 = .ok (.getfield 10, 3) := by decide +kernel
theorem dX4_tune_114 : decode cX4_tune 114 = .ok (.iload_n 1, 1) := by decide +kernel
theorem dX4_tune_115 : decode cX4_tune 115 = .ok (.invokevirtual 119, 3) := by decide +kernel
theorem dX4_tune_118 : decode cX4_tune 118 = .ok (.ireturn, 1) := by decide +kernel
theorem dX4_tune_119 : decode cX4_tune 119 = .ok (.iconst (-1), 1) := by decide +kernel
theorem dX4_tune_120 : decode cX4_tune 120 = .ok (.ireturn, 1) := by decide +kernel
theorem dX4_note_0 : decode cX4_note 0 = .ok (.aload_n 0, 1) := by decide +kernel
theorem dX4_note_1 : decode cX4_note 1 = .ok (.getfield 10, 3) := by decide +kernel
theorem dX4_note_4 : decode cX4_note 4 = .ok (.iload_n 1, 1) := by decide +kernel
theorem dX4_note_5 : decode cX4_note 5 = .ok (.iload_n 2, 1) := by decide +kernel
theorem dX4_note_6 : decode cX4_note 6 = .ok (.invokevirtual 122, 3) := by decide +kernel
theorem dX4_note_9 : decode cX4_note 9 = .ok (.ifCond .ne 5, 3) := by decide +kernel
theorem dX4_note_12 : decode cX4_note 12 = .ok (.iconst (-1), 1) := by decide +kernel
theorem dX4_note_13 : decode cX4_note 13 = .ok (.ireturn, 1) := by decide +kernel
theorem dX4_note_14 : decode cX4_note 14 = .ok (.aload_n 0, 1) := by decide +kernel
theorem dX4_note_15 : decode cX4_note 15 = .ok (.getfield 10, 3) := by decide +kernel
theorem dX4_note_18 : decode cX4_note 18 = .ok (.getfield 126, 3) := by decide +kernel
theorem dX4_note_21 : decode cX4_note 21 = .ok (.iload_n 1, 1) := by decide +kernel
theorem dX4_note_22 : decode cX4_note 22 = .ok (.bipush 8, 2) := by decide +kernel
theorem dX4_note_24 : decode cX4_note 24 = .ok (.imul, 1) := by decide +kernel
theorem dX4_note_25 : decode cX4_note 25 = .ok (.iload_n 2, 1) := by decide +kernel
theorem dX4_note_26 : decode cX4_note 26 = .ok (.iadd, 1) := by decide +kernel
theorem dX4_note_27 : decode cX4_note 27 = .ok (.iaload, 1) := by decide +kernel
theorem dX4_note_28 : decode cX4_note 28 = .ok (.ireturn, 1) := by decide +kernel
theorem dX4_has_0 : decode cX4_has 0 = .ok (.aload_n 0, 1) := by decide +kernel
theorem dX4_has_1 : decode cX4_has 1 = .ok (.getfield 10, 3) := by decide +kernel
theorem dX4_has_4 : decode cX4_has 4 = .ok (.iload_n 1, 1) := by decide +kernel
theorem dX4_has_5 : decode cX4_has 5 = .ok (.invokevirtual 99, 3) := by decide +kernel
theorem dX4_has_8 : decode cX4_has 8 = .ok (.ifCond .eq 14, 3) := by decide +kernel
theorem dX4_has_11 : decode cX4_has 11 = .ok (.iload_n 2, 1) := by decide +kernel
theorem dX4_has_12 : decode cX4_has 12 = .ok (.iconst 0, 1) := by decide +kernel
theorem dX4_has_13 : decode cX4_has 13 = .ok (.sipush 159, 3) := by decide +kernel
theorem dX4_has_16 : decode cX4_has 16 = .ok (.invokestatic 68, 3) := by decide +kernel
theorem dX4_has_19 : decode cX4_has 19 = .ok (.ifCond .ne 5, 3) := by decide +kernel
theorem dX4_has_22 : decode cX4_has 22 = .ok (.iconst (-1), 1) := by decide +kernel
theorem dX4_has_23 : decode cX4_has 23 = .ok (.ireturn, 1) := by decide +kernel
theorem dX4_has_24 : decode cX4_has 24 = .ok (.aload_n 0, 1) := by decide +kernel
theorem dX4_has_25 : decode cX4_has 25 = .ok (.getfield 10, 3) := by decide +kernel
theorem dX4_has_28 : decode cX4_has 28 = .ok (.iload_n 1, 1) := by decide +kernel
theorem dX4_has_29 : decode cX4_has 29 = .ok (.aload_n 0, 1) := by decide +kernel
theorem dX4_has_30 : decode cX4_has 30 = .ok (.getfield 10, 3) := by decide +kernel
theorem dX4_has_33 : decode cX4_has 33 = .ok (.getfield 103, 3) := by decide +kernel
theorem dX4_has_36 : decode cX4_has 36 = .ok (.iload_n 1, 1) := by decide +kernel
theorem dX4_has_37 : decode cX4_has 37 = .ok (.iaload, 1) := by decide +kernel
theorem dX4_has_38 : decode cX4_has 38 = .ok (.iload_n 2, 1) := by decide +kernel
theorem dX4_has_39 : decode cX4_has 39 = .ok (.invokevirtual 129, 3) := by decide +kernel
theorem dX4_has_42 : decode cX4_has 42 = .ok (.ireturn, 1) := by decide +kernel
theorem dX4_player_0 : decode cX4_player 0 = .ok (.aload_n 0, 1) := by decide +kernel
theorem dX4_player_1 : decode cX4_player 1 = .ok (.getfield 10, 3) := by decide +kernel
theorem dX4_player_4 : decode cX4_player 4 = .ok (.iload_n 1, 1) := by decide +kernel
theorem dX4_player_5 : decode cX4_player 5 = .ok (.invokevirtual 133, 3) := by decide +kernel
theorem dX4_player_8 : decode cX4_player 8 = .ok (.ifCond .ne 5, 3) := by decide +kernel
theorem dX4_player_11 : decode cX4_player 11 = .ok (.iconst (-1), 1) := by decide +kernel
theorem dX4_player_12 : decode cX4_player 12 = .ok (.ireturn, 1) := by decide +kernel
theorem dX4_player_13 : decode cX4_player 13 = .ok (.iload_n 2, 1) := by decide +kernel
theorem dX4_player_14 : decode cX4_player 14 = .ok (.tableswitch 70 0 3 #[30, 40, 50, 60], 30) := by decide +kernel
theorem dX4_player_44 : decode cX4_player 44 = .ok (.aload_n 0, 1) := by decide +kernel
theorem dX4_player_45 : decode cX4_player 45 = .ok (.getfield 10, 3) := by decide +kernel
theorem dX4_player_48 : decode cX4_player 48 = .ok (.getfield 136, 3) := by decide +kernel
theorem dX4_player_51 : decode cX4_player 51 = .ok (.iload_n 1, 1) := by decide +kernel
theorem dX4_player_52 : decode cX4_player 52 = .ok (.iaload, 1) := by decide +kernel
theorem dX4_player_53 : decode cX4_player 53 = .ok (.ireturn, 1) := by decide +kernel
theorem dX4_player_54 : decode cX4_player 54 = .ok (.aload_n 0, 1) := by decide +kernel
theorem dX4_player_55 : decode cX4_player 55 = .ok (.getfield 10, 3) := by decide +kernel
theorem dX4_player_58 : decode cX4_player 58 = .ok (.getfield 139, 3) := by decide +kernel
theorem dX4_player_61 : decode cX4_player 61 = .ok (.iload_n 1, 1) := by decide +kernel
theorem dX4_player_62 : decode cX4_player 62 = .ok (.iaload, 1) := by decide +kernel
theorem dX4_player_63 : decode cX4_player 63 = .ok (.ireturn, 1) := by decide +kernel
theorem dX4_player_64 : decode cX4_player 64 = .ok (.aload_n 0, 1) := by decide +kernel
theorem dX4_player_65 : decode cX4_player 65 = .ok (.getfield 10, 3) := by decide +kernel
theorem dX4_player_68 : decode cX4_player 68 = .ok (.getfield 142, 3) := by decide +kernel
theorem dX4_player_71 : decode cX4_player 71 = .ok (.iload_n 1, 1) := by decide +kernel
theorem dX4_player_72 : decode cX4_player 72 = .ok (.iaload, 1) := by decide +kernel
theorem dX4_player_73 : decode cX4_player 73 = .ok (.ireturn, 1) := by decide +kernel
theorem dX4_player_74 : decode cX4_player 74 = .ok (.aload_n 0, 1) := by decide +kernel
theorem dX4_player_75 : decode cX4_player 75 = .ok (.getfield 10, 3) := by decide +kernel
theorem dX4_player_78 : decode cX4_player 78 = .ok (.getfield 145, 3) := by decide +kernel
theorem dX4_player_81 : decode cX4_player 81 = .ok (.iload_n 1, 1) := by decide +kernel
theorem dX4_player_82 : decode cX4_player 82 = .ok (.iaload, 1) := by decide +kernel
theorem dX4_player_83 : decode cX4_player 83 = .ok (.ireturn, 1) := by decide +kernel
theorem dX4_player_84 : decode cX4_player 84 = .ok (.iconst (-1), 1) := by decide +kernel
theorem dX4_player_85 : decode cX4_player 85 = .ok (.ireturn, 1) := by decide +kernel
theorem dX4_bound_0 : decode cX4_bound 0 = .ok (.aload_n 0, 1) := by decide +kernel
theorem dX4_bound_1 : decode cX4_bound 1 = .ok (.getfield 10, 3) := by decide +kernel
theorem dX4_bound_4 : decode cX4_bound 4 = .ok (.iload_n 1, 1) := by decide +kernel
theorem dX4_bound_5 : decode cX4_bound 5 = .ok (.invokevirtual 148, 3) := by decide +kernel
theorem dX4_bound_8 : decode cX4_bound 8 = .ok (.ifCond .eq 15, 3) := by decide +kernel
theorem dX4_bound_11 : decode cX4_bound 11 = .ok (.aload_n 0, 1) := by decide +kernel
theorem dX4_bound_12 : decode cX4_bound 12 = .ok (.getfield 10, 3) := by decide +kernel
theorem dX4_bound_15 : decode cX4_bound 15 = .ok (.getfield 151, 3) := by decide +kernel
theorem dX4_bound_18 : decode cX4_bound 18 = .ok (.iload_n 1, 1) := by decide +kernel
theorem dX4_bound_19 : decode cX4_bound 19 = .ok (.iaload, 1) := by decide +kernel
theorem dX4_bound_20 : decode cX4_bound 20 = .ok (.goto 4, 3) := by decide +kernel
theorem dX4_bound_23 : decode cX4_bound 23 = .ok (.iconst (-1), 1) := by decide +kernel
theorem dX4_bound_24 : decode cX4_bound 24 = .ok (.ireturn, 1) := by decide +kernel
theorem dX4_write_0 : decode cX4_write 0 = .ok (.aload_n 0, 1) := by decide +kernel
theorem dX4_write_1 : decode cX4_write 1 = .ok (.getfield 10, 3) := by decide +kernel
theorem dX4_write_4 : decode cX4_write 4 = .ok (.iload_n 1, 1) := by decide +kernel
theorem dX4_write_5 : decode cX4_write 5 = .ok (.iload_n 2, 1) := by decide +kernel
theorem dX4_write_6 : decode cX4_write 6 = .ok (.invokevirtual 122, 3) := by decide +kernel
theorem dX4_write_9 : decode cX4_write 9 = .ok (.ifCond .eq 13, 3) := by decide +kernel
theorem dX4_write_12 : decode cX4_write 12 = .ok (.iload_n 3, 1) := by decide +kernel
theorem dX4_write_13 : decode cX4_write 13 = .ok (.iconst 0, 1) := by decide +kernel
theorem dX4_write_14 : decode cX4_write 14 = .ok (.bipush 9, 2) := by decide +kernel
theorem dX4_write_16 : decode cX4_write 16 = .ok (.invokestatic 68, 3) := by decide +kernel
theorem dX4_write_19 : decode cX4_write 19 = .ok (.ifCond .ne 5, 3) := by decide +kernel
theorem dX4_write_22 : decode cX4_write 22 = .ok (.iconst (-1), 1) := by decide +kernel
theorem dX4_write_23 : decode cX4_write 23 = .ok (.ireturn, 1) := by decide +kernel
theorem dX4_write_24 : decode cX4_write 24 = .ok (.aload_n 0, 1) := by decide +kernel
theorem dX4_write_25 : decode cX4_write 25 = .ok (.getfield 10, 3) := by decide +kernel
theorem dX4_write_28 : decode cX4_write 28 = .ok (.getfield 126, 3) := by decide +kernel
theorem dX4_write_31 : decode cX4_write 31 = .ok (.iload_n 1, 1) := by decide +kernel
theorem dX4_write_32 : decode cX4_write 32 = .ok (.bipush 8, 2) := by decide +kernel
theorem dX4_write_34 : decode cX4_write 34 = .ok (.imul, 1) := by decide +kernel
theorem dX4_write_35 : decode cX4_write 35 = .ok (.iload_n 2, 1) := by decide +kernel
theorem dX4_write_36 : decode cX4_write 36 = .ok (.iadd, 1) := by decide +kernel
theorem dX4_write_37 : decode cX4_write 37 = .ok (.iload_n 3, 1) := by decide +kernel
theorem dX4_write_38 : decode cX4_write 38 = .ok (.invokestatic 154, 3) := by decide +kernel
theorem dX4_write_41 : decode cX4_write 41 = .ok (.ireturn, 1) := by decide +kernel
theorem dX4_add_0 : decode cX4_add 0 = .ok (.aload_n 0, 1) := by decide +kernel
theorem dX4_add_1 : decode cX4_add 1 = .ok (.getfield 10, 3) := by decide +kernel
theorem dX4_add_4 : decode cX4_add 4 = .ok (.iload_n 1, 1) := by decide +kernel
theorem dX4_add_5 : decode cX4_add 5 = .ok (.invokevirtual 99, 3) := by decide +kernel
theorem dX4_add_8 : decode cX4_add 8 = .ok (.ifCond .eq 13, 3) := by decide +kernel
theorem dX4_add_11 : decode cX4_add 11 = .ok (.iload_n 2, 1) := by decide +kernel
theorem dX4_add_12 : decode cX4_add 12 = .ok (.iconst 0, 1) := by decide +kernel
theorem dX4_add_13 : decode cX4_add 13 = .ok (.bipush 9, 2) := by decide +kernel
theorem dX4_add_15 : decode cX4_add 15 = .ok (.invokestatic 68, 3) := by decide +kernel
theorem dX4_add_18 : decode cX4_add 18 = .ok (.ifCond .ne 5, 3) := by decide +kernel
theorem dX4_add_21 : decode cX4_add 21 = .ok (.iconst (-1), 1) := by decide +kernel
theorem dX4_add_22 : decode cX4_add 22 = .ok (.ireturn, 1) := by decide +kernel
theorem dX4_add_23 : decode cX4_add 23 = .ok (.aload_n 0, 1) := by decide +kernel
theorem dX4_add_24 : decode cX4_add 24 = .ok (.getfield 10, 3) := by decide +kernel
theorem dX4_add_27 : decode cX4_add 27 = .ok (.getfield 106, 3) := by decide +kernel
theorem dX4_add_30 : decode cX4_add 30 = .ok (.iload_n 1, 1) := by decide +kernel
theorem dX4_add_31 : decode cX4_add 31 = .ok (.iaload, 1) := by decide +kernel
theorem dX4_add_32 : decode cX4_add 32 = .ok (.istore_n 3, 1) := by decide +kernel
theorem dX4_add_33 : decode cX4_add 33 = .ok (.iload_n 3, 1) := by decide +kernel
theorem dX4_add_34 : decode cX4_add 34 = .ok (.bipush 8, 2) := by decide +kernel
theorem dX4_add_36 : decode cX4_add 36 = .ok (.if_icmp .lt 6, 3) := by decide +kernel
theorem dX4_add_39 : decode cX4_add 39 = .ok (.bipush (-3), 2) := by decide +kernel
theorem dX4_add_41 : decode cX4_add 41 = .ok (.ireturn, 1) := by decide +kernel
theorem dX4_add_42 : decode cX4_add 42 = .ok (.aload_n 0, 1) := by decide +kernel
theorem dX4_add_43 : decode cX4_add 43 = .ok (.getfield 10, 3) := by decide +kernel
theorem dX4_add_46 : decode cX4_add 46 = .ok (.getfield 126, 3) := by decide +kernel
theorem dX4_add_49 : decode cX4_add 49 = .ok (.iload_n 1, 1) := by decide +kernel
theorem dX4_add_50 : decode cX4_add 50 = .ok (.bipush 8, 2) := by decide +kernel
theorem dX4_add_52 : decode cX4_add 52 = .ok (.imul, 1) := by decide +kernel
theorem dX4_add_53 : decode cX4_add 53 = .ok (.iload_n 3, 1) := by decide +kernel
theorem dX4_add_54 : decode cX4_add 54 = .ok (.iadd, 1) := by decide +kernel
theorem dX4_add_55 : decode cX4_add 55 = .ok (.iload_n 2, 1) := by decide +kernel
theorem dX4_add_56 : decode cX4_add 56 = .ok (.iastore, 1) := by decide +kernel
theorem dX4_add_57 : decode cX4_add 57 = .ok (.aload_n 0, 1) := by decide +kernel
theorem dX4_add_58 : decode cX4_add 58 = .ok (.getfield 10, 3) := by decide +kernel
theorem dX4_add_61 : decode cX4_add 61 = .ok (.getfield 106, 3) := by decide +kernel
theorem dX4_add_64 : decode cX4_add 64 = .ok (.iload_n 1, 1) := by decide +kernel
theorem dX4_add_65 : decode cX4_add 65 = .ok (.iload_n 3, 1) := by decide +kernel
theorem dX4_add_66 : decode cX4_add 66 = .ok (.iconst 1, 1) := by decide +kernel
theorem dX4_add_67 : decode cX4_add 67 = .ok (.iadd, 1) := by decide +kernel
theorem dX4_add_68 : decode cX4_add 68 = .ok (.iastore, 1) := by decide +kernel
theorem dX4_add_69 : decode cX4_add 69 = .ok (.iload_n 3, 1) := by decide +kernel
theorem dX4_add_70 : decode cX4_add 70 = .ok (.iconst 1, 1) := by decide +kernel
theorem dX4_add_71 : decode cX4_add 71 = .ok (.iadd, 1) := by decide +kernel
theorem dX4_add_72 : decode cX4_add 72 = .ok (.ireturn, 1) := by decide +kernel
theorem dX4_set_0 : decode cX4_set 0 = .ok (.aload_n 0, 1) := by decide +kernel
theorem dX4_set_1 : decode cX4_set 1 = .ok (.getfield 10, 3) := by decide +kernel
theorem dX4_set_4 : decode cX4_set 4 = .ok (.iload_n 1, 1) := by decide +kernel
theorem dX4_set_5 : decode cX4_set 5 = .ok (.invokevirtual 99, 3) := by decide +kernel
theorem dX4_set_8 : decode cX4_set 8 = .ok (.ifCond .ne 5, 3) := by decide +kernel
theorem dX4_set_11 : decode cX4_set 11 = .ok (.iconst (-1), 1) := by decide +kernel
theorem dX4_set_12 : decode cX4_set 12 = .ok (.ireturn, 1) := by decide +kernel
theorem dX4_set_13 : decode cX4_set 13 = .ok (.iload_n 2, 1) := by decide +kernel
theorem dX4_set_14 : decode cX4_set 14 = .ok (.tableswitch 110 0 3 #[30, 110, 56, 83], 30) := by decide +kernel
theorem dX4_set_44 : decode cX4_set 44 = .ok (.iload_n 3, 1) := by decide +kernel
theorem dX4_set_45 : decode cX4_set 45 = .ok (.iconst 0, 1) := by decide +kernel
theorem dX4_set_46 : decode cX4_set 46 = .ok (.iconst 3, 1) := by decide +kernel
theorem dX4_set_47 : decode cX4_set 47 = .ok (.invokestatic 68, 3) := by decide +kernel
theorem dX4_set_50 : decode cX4_set 50 = .ok (.ifCond .eq 18, 3) := by decide +kernel
theorem dX4_set_53 : decode cX4_set 53 = .ok (.aload_n 0, 1) := by decide +kernel
theorem dX4_set_54 : decode cX4_set 54 = .ok (.getfield 10, 3) := by decide +kernel
theorem dX4_set_57 : decode cX4_set 57 = .ok (.getfield 103, 3) := by decide +kernel
theorem dX4_set_60 : decode cX4_set 60 = .ok (.iload_n 1, 1) := by decide +kernel
theorem dX4_set_61 : decode cX4_set 61 = .ok (.iload_n 3, 1) := by decide +kernel
theorem dX4_set_62 : decode cX4_set 62 = .ok (.invokestatic 154, 3) := by decide +kernel
theorem dX4_set_65 : decode cX4_set 65 = .ok (.goto 4, 3) := by decide +kernel
theorem dX4_set_68 : decode cX4_set 68 = .ok (.iconst (-1), 1) := by decide +kernel
theorem dX4_set_69 : decode cX4_set 69 = .ok (.ireturn, 1) := by decide +kernel
theorem dX4_set_70 : decode cX4_set 70 = .ok (.iload_n 3, 1) := by decide +kernel
theorem dX4_set_71 : decode cX4_set 71 = .ok (.iconst 1, 1) := by decide +kernel
theorem dX4_set_72 : decode cX4_set 72 = .ok (.bipush 9, 2) := by decide +kernel
theorem dX4_set_74 : decode cX4_set 74 = .ok (.invokestatic 68, 3) := by decide +kernel
theorem dX4_set_77 : decode cX4_set 77 = .ok (.ifCond .eq 18, 3) := by decide +kernel
theorem dX4_set_80 : decode cX4_set 80 = .ok (.aload_n 0, 1) := by decide +kernel
theorem dX4_set_81 : decode cX4_set 81 = .ok (.getfield 10, 3) := by decide +kernel
theorem dX4_set_84 : decode cX4_set 84 = .ok (.getfield 109, 3) := by decide +kernel
theorem dX4_set_87 : decode cX4_set 87 = .ok (.iload_n 1, 1) := by decide +kernel
theorem dX4_set_88 : decode cX4_set 88 = .ok (.iload_n 3, 1) := by decide +kernel
theorem dX4_set_89 : decode cX4_set 89 = .ok (.invokestatic 154, 3) := by decide +kernel
theorem dX4_set_92 : decode cX4_set 92 = .ok (.goto 4, 3) := by decide +kernel
theorem dX4_set_95 : decode cX4_set 95 = .ok (.iconst (-1), 1) := by decide +kernel
theorem dX4_set_96 : decode cX4_set 96 = .ok (.ireturn, 1) := by decide +kernel
theorem dX4_set_97 : decode cX4_set 97 = .ok (.iload_n 3, 1) := by decide +kernel
theorem dX4_set_98 : decode cX4_set 98 = .ok (.iconst 0, 1) := by decide +kernel
theorem dX4_set_99 : decode cX4_set 99 = .ok (.bipush 9, 2) := by decide +kernel
theorem dX4_set_101 : decode cX4_set 101 = .ok (.invokestatic 68, 3) := by decide +kernel
theorem dX4_set_104 : decode cX4_set 104 = .ok (.ifCond .eq 18, 3) := by decide +kernel
theorem dX4_set_107 : decode cX4_set 107 = .ok (.aload_n 0, 1) := by decide +kernel
theorem dX4_set_108 : decode cX4_set 108 = .ok (.getfield 10, 3) := by decide +kernel
theorem dX4_set_111 : decode cX4_set 111 = .ok (.getfield 112, 3) := by decide +kernel
theorem dX4_set_114 : decode cX4_set 114 = .ok (.iload_n 1, 1) := by decide +kernel
theorem dX4_set_115 : decode cX4_set 115 = .ok (.iload_n 3, 1) := by decide +kernel
theorem dX4_set_116 : decode cX4_set 116 = .ok (.invokestatic 154, 3) := by decide +kernel
theorem dX4_set_119 : decode cX4_set 119 = .ok (.goto 4, 3) := by decide +kernel
theorem dX4_set_122 : decode cX4_set 122 = .ok (.iconst (-1), 1) := by decide +kernel
theorem dX4_set_123 : decode cX4_set 123 = .ok (.ireturn, 1) := by decide +kernel
theorem dX4_set_124 : decode cX4_set 124 = .ok (.iconst (-1), 1) := by decide +kernel
theorem dX4_set_125 : decode cX4_set 125 = .ok (.ireturn, 1) := by decide +kernel
theorem dX4_hire_0 : decode cX4_hire 0 = .ok (.aload_n 0, 1) := by decide +kernel
theorem dX4_hire_1 : decode cX4_hire 1 = .ok (.getfield 10, 3) := by decide +kernel
theorem dX4_hire_4 : decode cX4_hire 4 = .ok (.iload_n 1, 1) := by decide +kernel
theorem dX4_hire_5 : decode cX4_hire 5 = .ok (.invokevirtual 133, 3) := by decide +kernel
theorem dX4_hire_8 : decode cX4_hire 8 = .ok (.ifCond .ne 5, 3) := by decide +kernel
theorem dX4_hire_11 : decode cX4_hire 11 = .ok (.iconst (-1), 1) := by decide +kernel
theorem dX4_hire_12 : decode cX4_hire 12 = .ok (.ireturn, 1) := by decide +kernel
theorem dX4_hire_13 : decode cX4_hire 13 = .ok (.iload_n 2, 1) := by decide +kernel
theorem dX4_hire_14 : decode cX4_hire 14 = .ok (.tableswitch 139 0 3 #[30, 57, 84, 111], 30) := by decide +kernel
theorem dX4_hire_44 : decode cX4_hire 44 = .ok (.iload_n 3, 1) := by decide +kernel
theorem dX4_hire_45 : decode cX4_hire 45 = .ok (.iconst 0, 1) := by decide +kernel
theorem dX4_hire_46 : decode cX4_hire 46 = .ok (.bipush 9, 2) := by decide +kernel
theorem dX4_hire_48 : decode cX4_hire 48 = .ok (.invokestatic 68, 3) := by decide +kernel
theorem dX4_hire_51 : decode cX4_hire 51 = .ok (.ifCond .eq 18, 3) := by decide +kernel
theorem dX4_hire_54 : decode cX4_hire 54 = .ok (.aload_n 0, 1) := by decide +kernel
theorem dX4_hire_55 : decode cX4_hire 55 = .ok (.getfield 10, 3) := by decide +kernel
theorem dX4_hire_58 : decode cX4_hire 58 = .ok (.getfield 136, 3) := by decide +kernel
theorem dX4_hire_61 : decode cX4_hire 61 = .ok (.iload_n 1, 1) := by decide +kernel
theorem dX4_hire_62 : decode cX4_hire 62 = .ok (.iload_n 3, 1) := by decide +kernel
theorem dX4_hire_63 : decode cX4_hire 63 = .ok (.invokestatic 154, 3) := by decide +kernel
theorem dX4_hire_66 : decode cX4_hire 66 = .ok (.goto 4, 3) := by decide +kernel
theorem dX4_hire_69 : decode cX4_hire 69 = .ok (.iconst (-1), 1) := by decide +kernel
theorem dX4_hire_70 : decode cX4_hire 70 = .ok (.ireturn, 1) := by decide +kernel
theorem dX4_hire_71 : decode cX4_hire 71 = .ok (.iload_n 3, 1) := by decide +kernel
theorem dX4_hire_72 : decode cX4_hire 72 = .ok (.iconst 1, 1) := by decide +kernel
theorem dX4_hire_73 : decode cX4_hire 73 = .ok (.bipush 99, 2) := by decide +kernel
theorem dX4_hire_75 : decode cX4_hire 75 = .ok (.invokestatic 68, 3) := by decide +kernel
theorem dX4_hire_78 : decode cX4_hire 78 = .ok (.ifCond .eq 18, 3) := by decide +kernel
theorem dX4_hire_81 : decode cX4_hire 81 = .ok (.aload_n 0, 1) := by decide +kernel
theorem dX4_hire_82 : decode cX4_hire 82 = .ok (.getfield 10, 3) := by decide +kernel
theorem dX4_hire_85 : decode cX4_hire 85 = .ok (.getfield 139, 3) := by decide +kernel
theorem dX4_hire_88 : decode cX4_hire 88 = .ok (.iload_n 1, 1) := by decide +kernel
theorem dX4_hire_89 : decode cX4_hire 89 = .ok (.iload_n 3, 1) := by decide +kernel
theorem dX4_hire_90 : decode cX4_hire 90 = .ok (.invokestatic 154, 3) := by decide +kernel
theorem dX4_hire_93 : decode cX4_hire 93 = .ok (.goto 4, 3) := by decide +kernel
theorem dX4_hire_96 : decode cX4_hire 96 = .ok (.iconst (-1), 1) := by decide +kernel
theorem dX4_hire_97 : decode cX4_hire 97 = .ok (.ireturn, 1) := by decide +kernel
theorem dX4_hire_98 : decode cX4_hire 98 = .ok (.iload_n 3, 1) := by decide +kernel
theorem dX4_hire_99 : decode cX4_hire 99 = .ok (.iconst 0, 1) := by decide +kernel
theorem dX4_hire_100 : decode cX4_hire 100 = .ok (.bipush 9, 2) := by decide +kernel
theorem dX4_hire_102 : decode cX4_hire 102 = .ok (.invokestatic 68, 3) := by decide +kernel
theorem dX4_hire_105 : decode cX4_hire 105 = .ok (.ifCond .eq 18, 3) := by decide +kernel
theorem dX4_hire_108 : decode cX4_hire 108 = .ok (.aload_n 0, 1) := by decide +kernel
theorem dX4_hire_109 : decode cX4_hire 109 = .ok (.getfield 10, 3) := by decide +kernel
theorem dX4_hire_112 : decode cX4_hire 112 = .ok (.getfield 142, 3) := by decide +kernel
theorem dX4_hire_115 : decode cX4_hire 115 = .ok (.iload_n 1, 1) := by decide +kernel
theorem dX4_hire_116 : decode cX4_hire 116 = .ok (.iload_n 3, 1) := by decide +kernel
theorem dX4_hire_117 : decode cX4_hire 117 = .ok (.invokestatic 154, 3) := by decide +kernel
theorem dX4_hire_120 : decode cX4_hire 120 = .ok (.goto 4, 3) := by decide +kernel
theorem dX4_hire_123 : decode cX4_hire 123 = .ok (.iconst (-1), 1) := by decide +kernel
theorem dX4_hire_124 : decode cX4_hire 124 = .ok (.ireturn, 1) := by decide +kernel
theorem dX4_hire_125 : decode cX4_hire 125 = .ok (.aload_n 0, 1) := by decide +kernel
theorem dX4_hire_126 : decode cX4_hire 126 = .ok (.getfield 10, 3) := by decide +kernel
theorem dX4_hire_129 : decode cX4_hire 129 = .ok (.iload_n 3, 1) := by decide +kernel
theorem dX4_hire_130 : decode cX4_hire 130 = .ok (.invokevirtual 99, 3) := by decide +kernel
theorem dX4_hire_133 : decode cX4_hire 133 = .ok (.ifCond .eq 18, 3) := by decide +kernel
theorem dX4_hire_136 : decode cX4_hire 136 = .ok (.aload_n 0, 1) := by decide +kernel
theorem dX4_hire_137 : decode cX4_hire 137 = .ok (.getfield 10, 3) := by decide +kernel
theorem dX4_hire_140 : decode cX4_hire 140 = .ok (.getfield 145, 3) := by decide +kernel
theorem dX4_hire_143 : decode cX4_hire 143 = .ok (.iload_n 1, 1) := by decide +kernel
theorem dX4_hire_144 : decode cX4_hire 144 = .ok (.iload_n 3, 1) := by decide +kernel
theorem dX4_hire_145 : decode cX4_hire 145 = .ok (.invokestatic 154, 3) := by decide +kernel
theorem dX4_hire_148 : decode cX4_hire 148 = .ok (.goto 4, 3) := by decide +kernel
theorem dX4_hire_151 : decode cX4_hire 151 = .ok (.iconst (-1), 1) := by decide +kernel
theorem dX4_hire_152 : decode cX4_hire 152 = .ok (.ireturn, 1) := by decide +kernel
theorem dX4_hire_153 : decode cX4_hire 153 = .ok (.iconst (-1), 1) := by decide +kernel
theorem dX4_hire_154 : decode cX4_hire 154 = .ok (.ireturn, 1) := by decide +kernel
theorem dX4_bind_0 : decode cX4_bind 0 = .ok (.aload_n 0, 1) := by decide +kernel
theorem dX4_bind_1 : decode cX4_bind 1 = .ok (.getfield 10, 3) := by decide +kernel
theorem dX4_bind_4 : decode cX4_bind 4 = .ok (.iload_n 1, 1) := by decide +kernel
theorem dX4_bind_5 : decode cX4_bind 5 = .ok (.iload_n 2, 1) := by decide +kernel
theorem dX4_bind_6 : decode cX4_bind 6 = .ok (.invokevirtual 158, 3) := by decide +kernel
theorem dX4_bind_9 : decode cX4_bind 9 = .ok (.ireturn, 1) := by decide +kernel
theorem dX4_out_0 : decode cX4_out 0 = .ok (.aload_n 0, 1) := by decide +kernel
theorem dX4_out_1 : decode cX4_out 1 = .ok (.getfield 10, 3) := by decide +kernel
theorem dX4_out_4 : decode cX4_out 4 = .ok (.iload_n 1, 1) := by decide +kernel
theorem dX4_out_5 : decode cX4_out 5 = .ok (.invokevirtual 148, 3) := by decide +kernel
theorem dX4_out_8 : decode cX4_out 8 = .ok (.ifCond .eq 12, 3) := by decide +kernel
theorem dX4_out_11 : decode cX4_out 11 = .ok (.iload_n 2, 1) := by decide +kernel
theorem dX4_out_12 : decode cX4_out 12 = .ok (.iconst 0, 1) := by decide +kernel
theorem dX4_out_13 : decode cX4_out 13 = .ok (.iconst 1, 1) := by decide +kernel
theorem dX4_out_14 : decode cX4_out 14 = .ok (.invokestatic 68, 3) := by decide +kernel
theorem dX4_out_17 : decode cX4_out 17 = .ok (.ifCond .ne 5, 3) := by decide +kernel
theorem dX4_out_20 : decode cX4_out 20 = .ok (.iconst (-1), 1) := by decide +kernel
theorem dX4_out_21 : decode cX4_out 21 = .ok (.ireturn, 1) := by decide +kernel
theorem dX4_out_22 : decode cX4_out 22 = .ok (.aload_n 0, 1) := by decide +kernel
theorem dX4_out_23 : decode cX4_out 23 = .ok (.aload_n 0, 1) := by decide +kernel
theorem dX4_out_24 : decode cX4_out 24 = .ok (.getfield 10, 3) := by decide +kernel
theorem dX4_out_27 : decode cX4_out 27 = .ok (.getfield 151, 3) := by decide +kernel
theorem dX4_out_30 : decode cX4_out 30 = .ok (.iload_n 1, 1) := by decide +kernel
theorem dX4_out_31 : decode cX4_out 31 = .ok (.iaload, 1) := by decide +kernel
theorem dX4_out_32 : decode cX4_out 32 = .ok (.iload_n 2, 1) := by decide +kernel
theorem dX4_out_33 : decode cX4_out 33 = .ok (.invokevirtual 161, 3) := by decide +kernel
theorem dX4_out_36 : decode cX4_out 36 = .ok (.ireturn, 1) := by decide +kernel
theorem dX4_over_0 : decode cX4_over 0 = .ok (.aload_n 0, 1) := by decide +kernel
theorem dX4_over_1 : decode cX4_over 1 = .ok (.getfield 10, 3) := by decide +kernel
theorem dX4_over_4 : decode cX4_over 4 = .ok (.iload_n 1, 1) := by decide +kernel
theorem dX4_over_5 : decode cX4_over 5 = .ok (.invokevirtual 99, 3) := by decide +kernel
theorem dX4_over_8 : decode cX4_over 8 = .ok (.ifCond .eq 12, 3) := by decide +kernel
theorem dX4_over_11 : decode cX4_over 11 = .ok (.iload_n 2, 1) := by decide +kernel
theorem dX4_over_12 : decode cX4_over 12 = .ok (.iconst 0, 1) := by decide +kernel
theorem dX4_over_13 : decode cX4_over 13 = .ok (.iconst 2, 1) := by decide +kernel
theorem dX4_over_14 : decode cX4_over 14 = .ok (.invokestatic 68, 3) := by decide +kernel
theorem dX4_over_17 : decode cX4_over 17 = .ok (.ifCond .ne 5, 3) := by decide +kernel
theorem dX4_over_20 : decode cX4_over 20 = .ok (.iconst (-1), 1) := by decide +kernel
theorem dX4_over_21 : decode cX4_over 21 = .ok (.ireturn, 1) := by decide +kernel
theorem dX4_over_22 : decode cX4_over 22 = .ok (.aload_n 0, 1) := by decide +kernel
theorem dX4_over_23 : decode cX4_over 23 = .ok (.getfield 40, 3) := by decide +kernel
theorem dX4_over_26 : decode cX4_over 26 = .ok (.aload_n 0, 1) := by decide +kernel
theorem dX4_over_27 : decode cX4_over 27 = .ok (.getfield 10, 3) := by decide +kernel
theorem dX4_over_30 : decode cX4_over 30 = .ok (.iconst 0, 1) := by decide +kernel
theorem dX4_over_31 : decode cX4_over 31 = .ok (.invokevirtual 164, 3) := by decide +kernel
theorem dX4_over_34 : decode cX4_over 34 = .ok (.iload_n 2, 1) := by decide +kernel
theorem dX4_over_35 : decode cX4_over 35 = .ok (.lookupswitch 45 #[(0, 25), (1, 35)], 25) := by decide +kernel
theorem dX4_over_60 : decode cX4_over 60 = .ok (.aload_n 0, 1) := by decide +kernel
theorem dX4_over_61 : decode cX4_over 61 = .ok (.getfield 40, 3) := by decide +kernel
theorem dX4_over_64 : decode cX4_over 64 = .ok (.getfield 168, 3) := by decide +kernel
theorem dX4_over_67 : decode cX4_over 67 = .ok (.iload_n 1, 1) := by decide +kernel
theorem dX4_over_68 : decode cX4_over 68 = .ok (.iaload, 1) := by decide +kernel
theorem dX4_over_69 : decode cX4_over 69 = .ok (.ireturn, 1) := by decide +kernel
theorem dX4_over_70 : decode cX4_over 70 = .ok (.aload_n 0, 1) := by decide +kernel
theorem dX4_over_71 : decode cX4_over 71 = .ok (.getfield 40, 3) := by decide +kernel
theorem dX4_over_74 : decode cX4_over 74 = .ok (.getfield 171, 3) := by decide +kernel
theorem dX4_over_77 : decode cX4_over 77 = .ok (.iload_n 1, 1) := by decide +kernel
theorem dX4_over_78 : decode cX4_over 78 = .ok (.iaload, 1) := by decide +kernel
theorem dX4_over_79 : decode cX4_over 79 = .ok (.ireturn, 1) := by decide +kernel
theorem dX4_over_80 : decode cX4_over 80 = .ok (.aload_n 0, 1) := by decide +kernel
theorem dX4_over_81 : decode cX4_over 81 = .ok (.getfield 40, 3) := by decide +kernel
theorem dX4_over_84 : decode cX4_over 84 = .ok (.getfield 174, 3) := by decide +kernel
theorem dX4_over_87 : decode cX4_over 87 = .ok (.iload_n 1, 1) := by decide +kernel
theorem dX4_over_88 : decode cX4_over 88 = .ok (.iaload, 1) := by decide +kernel
theorem dX4_over_89 : decode cX4_over 89 = .ok (.ireturn, 1) := by decide +kernel
theorem dX4_plays_0 : decode cX4_plays 0 = .ok (.aload_n 0, 1) := by decide +kernel
theorem dX4_plays_1 : decode cX4_plays 1 = .ok (.getfield 10, 3) := by decide +kernel
theorem dX4_plays_4 : decode cX4_plays 4 = .ok (.iload_n 1, 1) := by decide +kernel
theorem dX4_plays_5 : decode cX4_plays 5 = .ok (.invokevirtual 133, 3) := by decide +kernel
theorem dX4_plays_8 : decode cX4_plays 8 = .ok (.ifCond .ne 5, 3) := by decide +kernel
theorem dX4_plays_11 : decode cX4_plays 11 = .ok (.iconst (-1), 1) := by decide +kernel
theorem dX4_plays_12 : decode cX4_plays 12 = .ok (.ireturn, 1) := by decide +kernel
theorem dX4_plays_13 : decode cX4_plays 13 = .ok (.aload_n 0, 1) := by decide +kernel
theorem dX4_plays_14 : decode cX4_plays 14 = .ok (.getfield 40, 3) := by decide +kernel
theorem dX4_plays_17 : decode cX4_plays 17 = .ok (.aload_n 0, 1) := by decide +kernel
theorem dX4_plays_18 : decode cX4_plays 18 = .ok (.getfield 10, 3) := by decide +kernel
theorem dX4_plays_21 : decode cX4_plays 21 = .ok (.iconst 0, 1) := by decide +kernel
theorem dX4_plays_22 : decode cX4_plays 22 = .ok (.invokevirtual 164, 3) := by decide +kernel
theorem dX4_plays_25 : decode cX4_plays 25 = .ok (.aload_n 0, 1) := by decide +kernel
theorem dX4_plays_26 : decode cX4_plays 26 = .ok (.getfield 40, 3) := by decide +kernel
theorem dX4_plays_29 : decode cX4_plays 29 = .ok (.getfield 177, 3) := by decide +kernel
theorem dX4_plays_32 : decode cX4_plays 32 = .ok (.iload_n 1, 1) := by decide +kernel
theorem dX4_plays_33 : decode cX4_plays 33 = .ok (.iaload, 1) := by decide +kernel
theorem dX4_plays_34 : decode cX4_plays 34 = .ok (.ireturn, 1) := by decide +kernel
theorem dX4_sounds_0 : decode cX4_sounds 0 = .ok (.iload_n 1, 1) := by decide +kernel
theorem dX4_sounds_1 : decode cX4_sounds 1 = .ok (.iconst 0, 1) := by decide +kernel
theorem dX4_sounds_2 : decode cX4_sounds 2 = .ok (.sipush 159, 3) := by decide +kernel
theorem dX4_sounds_5 : decode cX4_sounds 5 = .ok (.invokestatic 68, 3) := by decide +kernel
theorem dX4_sounds_8 : decode cX4_sounds 8 = .ok (.ifCond .ne 5, 3) := by decide +kernel
theorem dX4_sounds_11 : decode cX4_sounds 11 = .ok (.iconst (-1), 1) := by decide +kernel
theorem dX4_sounds_12 : decode cX4_sounds 12 = .ok (.ireturn, 1) := by decide +kernel
theorem dX4_sounds_13 : decode cX4_sounds 13 = .ok (.aload_n 0, 1) := by decide +kernel
theorem dX4_sounds_14 : decode cX4_sounds 14 = .ok (.getfield 40, 3) := by decide +kernel
theorem dX4_sounds_17 : decode cX4_sounds 17 = .ok (.aload_n 0, 1) := by decide +kernel
theorem dX4_sounds_18 : decode cX4_sounds 18 = .ok (.getfield 10, 3) := by decide +kernel
theorem dX4_sounds_21 : decode cX4_sounds 21 = .ok (.iconst 0, 1) := by decide +kernel
theorem dX4_sounds_22 : decode cX4_sounds 22 = .ok (.invokevirtual 164, 3) := by decide +kernel
theorem dX4_sounds_25 : decode cX4_sounds 25 = .ok (.iconst 0, 1) := by decide +kernel
theorem dX4_sounds_26 : decode cX4_sounds 26 = .ok (.istore_n 2, 1) := by decide +kernel
theorem dX4_sounds_27 : decode cX4_sounds 27 = .ok (.iconst 0, 1) := by decide +kernel
theorem dX4_sounds_28 : decode cX4_sounds 28 = .ok (.istore_n 3, 1) := by decide +kernel
theorem dX4_sounds_29 : decode cX4_sounds 29 = .ok (.iload_n 3, 1) := by decide +kernel
theorem dX4_sounds_30 : decode cX4_sounds 30 = .ok (.aload_n 0, 1) := by decide +kernel
theorem dX4_sounds_31 : decode cX4_sounds 31 = .ok (.getfield 10, 3) := by decide +kernel
theorem dX4_sounds_34 : decode cX4_sounds 34 = .ok (.getfield 90, 3) := by decide +kernel
theorem dX4_sounds_37 : decode cX4_sounds 37 = .ok (.if_icmp .ge 51, 3) := by decide +kernel
theorem dX4_sounds_40 : decode cX4_sounds 40 = .ok (.iload_n 1, 1) := by decide +kernel
theorem dX4_sounds_41 : decode cX4_sounds 41 = .ok (.aload_n 0, 1) := by decide +kernel
theorem dX4_sounds_42 : decode cX4_sounds 42 = .ok (.getfield 10, 3) := by decide +kernel
theorem dX4_sounds_45 : decode cX4_sounds 45 = .ok (.getfield 112, 3) := by decide +kernel
theorem dX4_sounds_48 : decode cX4_sounds 48 = .ok (.iload_n 3, 1) := by decide +kernel
theorem dX4_sounds_49 : decode cX4_sounds 49 = .ok (.iaload, 1) := by decide +kernel
theorem dX4_sounds_50 : decode cX4_sounds 50 = .ok (.if_icmp .lt 32, 3) := by decide +kernel
theorem dX4_sounds_53 : decode cX4_sounds 53 = .ok (.iload_n 1, 1) := by decide +kernel
theorem dX4_sounds_54 : decode cX4_sounds 54 = .ok (.aload_n 0, 1) := by decide +kernel
theorem dX4_sounds_55 : decode cX4_sounds 55 = .ok (.getfield 10, 3) := by decide +kernel
theorem dX4_sounds_58 : decode cX4_sounds 58 = .ok (.getfield 112, 3) := by decide +kernel
theorem dX4_sounds_61 : decode cX4_sounds 61 = .ok (.iload_n 3, 1) := by decide +kernel
theorem dX4_sounds_62 : decode cX4_sounds 62 = .ok (.iaload, 1) := by decide +kernel
theorem dX4_sounds_63 : decode cX4_sounds 63 = .ok (.isub, 1) := by decide +kernel
theorem dX4_sounds_64 : decode cX4_sounds 64 = .ok (.aload_n 0, 1) := by decide +kernel
theorem dX4_sounds_65 : decode cX4_sounds 65 = .ok (.getfield 40, 3) := by decide +kernel
theorem dX4_sounds_68 : decode cX4_sounds 68 = .ok (.getfield 174, 3) := by decide +kernel
theorem dX4_sounds_71 : decode cX4_sounds 71 = .ok (.iload_n 3, 1) := by decide +kernel
theorem dX4_sounds_72 : decode cX4_sounds 72 = .ok (.iaload, 1) := by decide +kernel
theorem dX4_sounds_73 : decode cX4_sounds 73 = .ok (.if_icmp .ge 9, 3) := by decide +kernel
theorem dX4_sounds_76 : decode cX4_sounds 76 = .ok (.iload_n 2, 1) := by decide +kernel
theorem dX4_sounds_77 : decode cX4_sounds 77 = .ok (.iconst 1, 1) := by decide +kernel
theorem dX4_sounds_78 : decode cX4_sounds 78 = .ok (.iload_n 3, 1) := by decide +kernel
theorem dX4_sounds_79 : decode cX4_sounds 79 = .ok (.ishl, 1) := by decide +kernel
theorem dX4_sounds_80 : decode cX4_sounds 80 = .ok (.ior, 1) := by decide +kernel
theorem dX4_sounds_81 : decode cX4_sounds 81 = .ok (.istore_n 2, 1) := by decide +kernel
theorem dX4_sounds_82 : decode cX4_sounds 82 = .ok (.iinc 3 1, 3) := by decide +kernel
theorem dX4_sounds_85 : decode cX4_sounds 85 = .ok (.goto (-56), 3) := by decide +kernel
theorem dX4_sounds_88 : decode cX4_sounds 88 = .ok (.iload_n 2, 1) := by decide +kernel
theorem dX4_sounds_89 : decode cX4_sounds 89 = .ok (.ireturn, 1) := by decide +kernel
theorem dX4_sum_0 : decode cX4_sum 0 = .ok (.iload_n 1, 1) := by decide +kernel
theorem dX4_sum_1 : decode cX4_sum 1 = .ok (.iconst 0, 1) := by decide +kernel
theorem dX4_sum_2 : decode cX4_sum 2 = .ok (.iconst 3, 1) := by decide +kernel
theorem dX4_sum_3 : decode cX4_sum 3 = .ok (.invokestatic 68, 3) := by decide +kernel
theorem dX4_sum_6 : decode cX4_sum 6 = .ok (.ifCond .ne 5, 3) := by decide +kernel
theorem dX4_sum_9 : decode cX4_sum 9 = .ok (.iconst (-1), 1) := by decide +kernel
theorem dX4_sum_10 : decode cX4_sum 10 = .ok (.ireturn, 1) := by decide +kernel
theorem dX4_sum_11 : decode cX4_sum 11 = .ok (.aload_n 0, 1) := by decide +kernel
theorem dX4_sum_12 : decode cX4_sum 12 = .ok (.getfield 40, 3) := by decide +kernel
theorem dX4_sum_15 : decode cX4_sum 15 = .ok (.aload_n 0, 1) := by decide +kernel
theorem dX4_sum_16 : decode cX4_sum 16 = .ok (.getfield 10, 3) := by decide +kernel
theorem dX4_sum_19 : decode cX4_sum 19 = .ok (.iconst 0, 1) := by decide +kernel
theorem dX4_sum_20 : decode cX4_sum 20 = .ok (.invokevirtual 164, 3) := by decide +kernel
theorem dX4_sum_23 : decode cX4_sum 23 = .ok (.iload_n 1, 1) := by decide +kernel
theorem dX4_sum_24 : decode cX4_sum 24 = .ok (.tableswitch 64 0 2 #[28, 40, 52], 28) := by decide +kernel
theorem dX4_sum_52 : decode cX4_sum 52 = .ok (.aload_n 0, 1) := by decide +kernel
theorem dX4_sum_53 : decode cX4_sum 53 = .ok (.getfield 40, 3) := by decide +kernel
theorem dX4_sum_56 : decode cX4_sum 56 = .ok (.aload_n 0, 1) := by decide +kernel
theorem dX4_sum_57 : decode cX4_sum 57 = .ok (.getfield 10, 3) := by decide +kernel
theorem dX4_sum_60 : decode cX4_sum 60 = .ok (.invokevirtual 180, 3) := by decide +kernel
theorem dX4_sum_63 : decode cX4_sum 63 = .ok (.ireturn, 1) := by decide +kernel
theorem dX4_sum_64 : decode cX4_sum 64 = .ok (.aload_n 0, 1) := by decide +kernel
theorem dX4_sum_65 : decode cX4_sum 65 = .ok (.getfield 40, 3) := by decide +kernel
theorem dX4_sum_68 : decode cX4_sum 68 = .ok (.aload_n 0, 1) := by decide +kernel
theorem dX4_sum_69 : decode cX4_sum 69 = .ok (.getfield 10, 3) := by decide +kernel
theorem dX4_sum_72 : decode cX4_sum 72 = .ok (.invokevirtual 183, 3) := by decide +kernel
theorem dX4_sum_75 : decode cX4_sum 75 = .ok (.ireturn, 1) := by decide +kernel
theorem dX4_sum_76 : decode cX4_sum 76 = .ok (.aload_n 0, 1) := by decide +kernel
theorem dX4_sum_77 : decode cX4_sum 77 = .ok (.getfield 40, 3) := by decide +kernel
theorem dX4_sum_80 : decode cX4_sum 80 = .ok (.aload_n 0, 1) := by decide +kernel
theorem dX4_sum_81 : decode cX4_sum 81 = .ok (.getfield 10, 3) := by decide +kernel
theorem dX4_sum_84 : decode cX4_sum 84 = .ok (.invokevirtual 186, 3) := by decide +kernel
theorem dX4_sum_87 : decode cX4_sum 87 = .ok (.ireturn, 1) := by decide +kernel
theorem dX4_sum_88 : decode cX4_sum 88 = .ok (.aload_n 0, 1) := by decide +kernel
theorem dX4_sum_89 : decode cX4_sum 89 = .ok (.getfield 40, 3) := by decide +kernel
theorem dX4_sum_92 : decode cX4_sum 92 = .ok (.aload_n 0, 1) := by decide +kernel
theorem dX4_sum_93 : decode cX4_sum 93 = .ok (.getfield 10, 3) := by decide +kernel
theorem dX4_sum_96 : decode cX4_sum 96 = .ok (.invokevirtual 189, 3) := by decide +kernel
theorem dX4_sum_99 : decode cX4_sum 99 = .ok (.ireturn, 1) := by decide +kernel
theorem dX4_first_0 : decode cX4_first 0 = .ok (.iload_n 1, 1) := by decide +kernel
theorem dX4_first_1 : decode cX4_first 1 = .ok (.iconst 0, 1) := by decide +kernel
theorem dX4_first_2 : decode cX4_first 2 = .ok (.iconst 1, 1) := by decide +kernel
theorem dX4_first_3 : decode cX4_first 3 = .ok (.invokestatic 68, 3) := by decide +kernel
theorem dX4_first_6 : decode cX4_first 6 = .ok (.ifCond .ne 5, 3) := by decide +kernel
theorem dX4_first_9 : decode cX4_first 9 = .ok (.iconst (-1), 1) := by decide +kernel
theorem dX4_first_10 : decode cX4_first 10 = .ok (.ireturn, 1) := by decide +kernel
theorem dX4_first_11 : decode cX4_first 11 = .ok (.aload_n 0, 1) := by decide +kernel
theorem dX4_first_12 : decode cX4_first 12 = .ok (.getfield 40, 3) := by decide +kernel
theorem dX4_first_15 : decode cX4_first 15 = .ok (.aload_n 0, 1) := by decide +kernel
theorem dX4_first_16 : decode cX4_first 16 = .ok (.getfield 10, 3) := by decide +kernel
theorem dX4_first_19 : decode cX4_first 19 = .ok (.iconst 0, 1) := by decide +kernel
theorem dX4_first_20 : decode cX4_first 20 = .ok (.invokevirtual 164, 3) := by decide +kernel
theorem dX4_first_23 : decode cX4_first 23 = .ok (.iconst (-1), 1) := by decide +kernel
theorem dX4_first_24 : decode cX4_first 24 = .ok (.istore_n 2, 1) := by decide +kernel
theorem dX4_first_25 : decode cX4_first 25 = .ok (.iconst 0, 1) := by decide +kernel
theorem dX4_first_26 : decode cX4_first 26 = .ok (.istore_n 3, 1) := by decide +kernel
theorem dX4_first_27 : decode cX4_first 27 = .ok (.iload_n 3, 1) := by decide +kernel
theorem dX4_first_28 : decode cX4_first 28 = .ok (.aload_n 0, 1) := by decide +kernel
theorem dX4_first_29 : decode cX4_first 29 = .ok (.getfield 10, 3) := by decide +kernel
theorem dX4_first_32 : decode cX4_first 32 = .ok (.getfield 96, 3) := by decide +kernel
theorem dX4_first_35 : decode cX4_first 35 = .ok (.if_icmp .ge 57, 3) := by decide +kernel
theorem dX4_first_38 : decode cX4_first 38 = .ok (.aload_n 0, 1) := by decide +kernel
theorem dX4_first_39 : decode cX4_first 39 = .ok (.getfield 40, 3) := by decide +kernel
theorem dX4_first_42 : decode cX4_first 42 = .ok (.aload_n 0, 1) := by decide +kernel
theorem dX4_first_43 : decode cX4_first 43 = .ok (.getfield 10, 3) := by decide +kernel
theorem dX4_first_46 : decode cX4_first 46 = .ok (.iload_n 3, 1) := by decide +kernel
theorem dX4_first_47 : decode cX4_first 47 = .ok (.invokevirtual 192, 3) := by decide +kernel
theorem dX4_first_50 : decode cX4_first 50 = .ok (.ifCond .eq 36, 3) := by decide +kernel
theorem dX4_first_53 : decode cX4_first 53 = .ok (.iload_n 2, 1) := by decide +kernel
theorem dX4_first_54 : decode cX4_first 54 = .ok (.ifCond .lt 30, 3) := by decide +kernel
theorem dX4_first_57 : decode cX4_first 57 = .ok (.aload_n 0, 1) := by decide +kernel
theorem dX4_first_58 : decode cX4_first 58 = .ok (.getfield 40, 3) := by decide +kernel
theorem dX4_first_61 : decode cX4_first 61 = .ok (.aload_n 0, 1) := by decide +kernel
theorem dX4_first_62 : decode cX4_first 62 = .ok (.getfield 10, 3) := by decide +kernel
theorem dX4_first_65 : decode cX4_first 65 = .ok (.iload_n 3, 1) := by decide +kernel
theorem dX4_first_66 : decode cX4_first 66 = .ok (.invokevirtual 196, 3) := by decide +kernel
theorem dX4_first_69 : decode cX4_first 69 = .ok (.aload_n 0, 1) := by decide +kernel
theorem dX4_first_70 : decode cX4_first 70 = .ok (.getfield 40, 3) := by decide +kernel
theorem dX4_first_73 : decode cX4_first 73 = .ok (.aload_n 0, 1) := by decide +kernel
theorem dX4_first_74 : decode cX4_first 74 = .ok (.getfield 10, 3) := by decide +kernel
theorem dX4_first_77 : decode cX4_first 77 = .ok (.iload_n 2, 1) := by decide +kernel
theorem dX4_first_78 : decode cX4_first 78 = .ok (.invokevirtual 196, 3) := by decide +kernel
theorem dX4_first_81 : decode cX4_first 81 = .ok (.if_icmp .ge 5, 3) := by decide +kernel
theorem dX4_first_84 : decode cX4_first 84 = .ok (.iload_n 3, 1) := by decide +kernel
theorem dX4_first_85 : decode cX4_first 85 = .ok (.istore_n 2, 1) := by decide +kernel
theorem dX4_first_86 : decode cX4_first 86 = .ok (.iinc 3 1, 3) := by decide +kernel
theorem dX4_first_89 : decode cX4_first 89 = .ok (.goto (-62), 3) := by decide +kernel
theorem dX4_first_92 : decode cX4_first 92 = .ok (.iload_n 2, 1) := by decide +kernel
theorem dX4_first_93 : decode cX4_first 93 = .ok (.ifCond .ge 6, 3) := by decide +kernel
theorem dX4_first_96 : decode cX4_first 96 = .ok (.bipush (-4), 2) := by decide +kernel
theorem dX4_first_98 : decode cX4_first 98 = .ok (.ireturn, 1) := by decide +kernel
theorem dX4_first_99 : decode cX4_first 99 = .ok (.iload_n 1, 1) := by decide +kernel
theorem dX4_first_100 : decode cX4_first 100 = .ok (.ifCond .ne 18, 3) := by decide +kernel
theorem dX4_first_103 : decode cX4_first 103 = .ok (.aload_n 0, 1) := by decide +kernel
theorem dX4_first_104 : decode cX4_first 104 = .ok (.getfield 40, 3) := by decide +kernel
theorem dX4_first_107 : decode cX4_first 107 = .ok (.aload_n 0, 1) := by decide +kernel
theorem dX4_first_108 : decode cX4_first 108 = .ok (.getfield 10, 3) := by decide +kernel
theorem dX4_first_111 : decode cX4_first 111 = .ok (.iload_n 2, 1) := by decide +kernel
theorem dX4_first_112 : decode cX4_first 112 = .ok (.invokevirtual 196, 3) := by decide +kernel
theorem dX4_first_115 : decode cX4_first 115 = .ok (.goto 4, 3) := by decide +kernel
theorem dX4_first_118 : decode cX4_first 118 = .ok (.iload_n 2, 1) := by decide +kernel
theorem dX4_first_119 : decode cX4_first 119 = .ok (.ireturn, 1) := by decide +kernel
theorem dX4_best_0 : decode cX4_best 0 = .ok (.iload_n 1, 1) := by decide +kernel
theorem dX4_best_1 : decode cX4_best 1 = .ok (.bipush 10, 2) := by decide +kernel
theorem dX4_best_3 : decode cX4_best 3 = .ok (.if_icmp .lt 21, 3) := by decide +kernel
theorem dX4_best_6 : decode cX4_best 6 = .ok (.aload_n 0, 1) := by decide +kernel
theorem dX4_best_7 : decode cX4_best 7 = .ok (.getfield 10, 3) := by decide +kernel
theorem dX4_best_10 : decode cX4_best 10 = .ok (.iload_n 1, 1) := by decide +kernel
theorem dX4_best_11 : decode cX4_best 11 = .ok (.bipush 10, 2) := by decide +kernel
theorem dX4_best_13 : decode cX4_best 13 = .ok (.isub, 1) := by decide +kernel
theorem dX4_best_14 : decode cX4_best 14 = .ok (.invokevirtual 133, 3) := by decide +kernel
theorem dX4_best_17 : decode cX4_best 17 = .ok (.ifCond .eq 7, 3) := by decide +kernel
theorem dX4_best_20 : decode cX4_best 20 = .ok (.iconst 1, 1) := by decide +kernel
theorem dX4_best_21 : decode cX4_best 21 = .ok (.goto 4, 3) := by decide +kernel
theorem dX4_best_24 : decode cX4_best 24 = .ok (.iconst 0, 1) := by decide +kernel
theorem dX4_best_25 : decode cX4_best 25 = .ok (.istore_n 2, 1) := by decide +kernel
theorem dX4_best_26 : decode cX4_best 26 = .ok (.iload_n 1, 1) := by decide +kernel
theorem dX4_best_27 : decode cX4_best 27 = .ok (.iconst 0, 1) := by decide +kernel
theorem dX4_best_28 : decode cX4_best 28 = .ok (.iconst 1, 1) := by decide +kernel
theorem dX4_best_29 : decode cX4_best 29 = .ok (.invokestatic 68, 3) := by decide +kernel
theorem dX4_best_32 : decode cX4_best 32 = .ok (.ifCond .ne 9, 3) := by decide +kernel
theorem dX4_best_35 : decode cX4_best 35 = .ok (.iload_n 2, 1) := by decide +kernel
theorem dX4_best_36 : decode cX4_best 36 = .ok (.ifCond .ne 5, 3) := by decide +kernel
theorem dX4_best_39 : decode cX4_best 39 = .ok (.iconst (-1), 1) := by decide +kernel
theorem dX4_best_40 : decode cX4_best 40 = .ok (.ireturn, 1) := by decide +kernel
theorem dX4_best_41 : decode cX4_best 41 = .ok (.aload_n 0, 1) := by decide +kernel
theorem dX4_best_42 : decode cX4_best 42 = .ok (.getfield 10, 3) := by decide +kernel
theorem dX4_best_45 : decode cX4_best 45 = .ok (.getfield 90, 3) := by decide +kernel
theorem dX4_best_48 : decode cX4_best 48 = .ok (.iconst 1, 1) := by decide +kernel
theorem dX4_best_49 : decode cX4_best 49 = .ok (.if_icmp .ge 6, 3) := by decide +kernel
theorem dX4_best_52 : decode cX4_best 52 = .ok (.bipush (-2), 2) := by decide +kernel
theorem dX4_best_54 : decode cX4_best 54 = .ok (.ireturn, 1) := by decide +kernel
theorem dX4_best_55 : decode cX4_best 55 = .ok (.aload_n 0, 1) := by decide +kernel
theorem dX4_best_56 : decode cX4_best 56 = .ok (.getfield 19, 3) := by decide +kernel
theorem dX4_best_59 : decode cX4_best 59 = .ok (.aload_n 0, 1) := by decide +kernel
theorem dX4_best_60 : decode cX4_best 60 = .ok (.getfield 10, 3) := by decide +kernel
theorem dX4_best_63 : decode cX4_best 63 = .ok (.invokevirtual 83, 3) := by decide +kernel
theorem dX4_best_66 : decode cX4_best 66 = .ok (.aload_n 0, 1) := by decide +kernel
theorem dX4_best_67 : decode cX4_best 67 = .ok (.getfield 10, 3) := by decide +kernel
theorem dX4_best_70 : decode cX4_best 70 = .ok (.getfield 90, 3) := by decide +kernel
theorem dX4_best_73 : decode cX4_best 73 = .ok (.aload_n 0, 1) := by decide +kernel
theorem dX4_best_74 : decode cX4_best 74 = .ok (.getfield 10, 3) := by decide +kernel
theorem dX4_best_77 : decode cX4_best 77 = .ok (.getfield 93, 3) := by decide +kernel
theorem dX4_best_80 : decode cX4_best 80 = .ok (.invokestatic 200, 3) := by decide +kernel
theorem dX4_best_83 : decode cX4_best 83 = .ok (.istore_n 3, 1) := by decide +kernel
theorem dX4_best_84 : decode cX4_best 84 = .ok (.iconst 0, 1) := by decide +kernel
theorem dX4_best_85 : decode cX4_best 85 = .ok (.istore 4, 2) := by decide +kernel
theorem dX4_best_87 : decode cX4_best 87 = .ok (.ldc 203, 2) := by decide +kernel
theorem dX4_best_89 : decode cX4_best 89 = .ok (.istore 5, 2) := by decide +kernel
theorem dX4_best_91 : decode cX4_best 91 = .ok (.ldc 203, 2) := by decide +kernel
theorem dX4_best_93 : decode cX4_best 93 = .ok (.istore 6, 2) := by decide +kernel
theorem dX4_best_95 : decode cX4_best 95 = .ok (.iconst 0, 1) := by decide +kernel
theorem dX4_best_96 : decode cX4_best 96 = .ok (.istore 7, 2) := by decide +kernel
theorem dX4_best_98 : decode cX4_best 98 = .ok (.iload 7, 2) := by decide +kernel
theorem dX4_best_100 : decode cX4_best 100 = .ok (.iload_n 3, 1) := by decide +kernel
theorem dX4_best_101 : decode cX4_best 101 = .ok (.if_icmp .ge 106, 3) := by decide +kernel
theorem dX4_best_104 : decode cX4_best 104 = .ok (.iload 7, 2) := by decide +kernel
theorem dX4_best_106 : decode cX4_best 106 = .ok (.aload_n 0, 1) := by decide +kernel
theorem dX4_best_107 : decode cX4_best 107 = .ok (.getfield 10, 3) := by decide +kernel
theorem dX4_best_110 : decode cX4_best 110 = .ok (.getfield 90, 3) := by decide +kernel
theorem dX4_best_113 : decode cX4_best 113 = .ok (.aload_n 0, 1) := by decide +kernel
theorem dX4_best_114 : decode cX4_best 114 = .ok (.getfield 19, 3) := by decide +kernel
theorem dX4_best_117 : decode cX4_best 117 = .ok (.getfield 145, 3) := by decide +kernel
theorem dX4_best_120 : decode cX4_best 120 = .ok (.aload_n 0, 1) := by decide +kernel
theorem dX4_best_121 : decode cX4_best 121 = .ok (.getfield 10, 3) := by decide +kernel
theorem dX4_best_124 : decode cX4_best 124 = .ok (.getfield 93, 3) := by decide +kernel
theorem dX4_best_127 : decode cX4_best 127 = .ok (.invokestatic 204, 3) := by decide +kernel
theorem dX4_best_130 : decode cX4_best 130 = .ok (.aload_n 0, 1) := by decide +kernel
theorem dX4_best_131 : decode cX4_best 131 = .ok (.getfield 40, 3) := by decide +kernel
theorem dX4_best_134 : decode cX4_best 134 = .ok (.aload_n 0, 1) := by decide +kernel
theorem dX4_best_135 : decode cX4_best 135 = .ok (.getfield 19, 3) := by decide +kernel
theorem dX4_best_138 : decode cX4_best 138 = .ok (.iconst 0, 1) := by decide +kernel
theorem dX4_best_139 : decode cX4_best 139 = .ok (.invokevirtual 164, 3) := by decide +kernel
theorem dX4_best_142 : decode cX4_best 142 = .ok (.aload_n 0, 1) := by decide +kernel
theorem dX4_best_143 : decode cX4_best 143 = .ok (.getfield 40, 3) := by decide +kernel
theorem dX4_best_146 : decode cX4_best 146 = .ok (.aload_n 0, 1) := by decide +kernel
theorem dX4_best_147 : decode cX4_best 147 = .ok (.getfield 19, 3) := by decide +kernel
theorem dX4_best_150 : decode cX4_best 150 = .ok (.invokevirtual 180, 3) := by decide +kernel
theorem dX4_best_153 : decode cX4_best 153 = .ok (.istore 8, 2) := by decide +kernel
theorem dX4_best_155 : decode cX4_best 155 = .ok (.aload_n 0, 1) := by decide +kernel
theorem dX4_best_156 : decode cX4_best 156 = .ok (.getfield 40, 3) := by decide +kernel
theorem dX4_best_159 : decode cX4_best 159 = .ok (.aload_n 0, 1) := by decide +kernel
theorem dX4_best_160 : decode cX4_best 160 = .ok (.getfield 19, 3) := by decide +kernel
theorem dX4_best_163 : decode cX4_best 163 = .ok (.invokevirtual 183, 3) := by decide +kernel
theorem dX4_best_166 : decode cX4_best 166 = .ok (.istore 9, 2) := by decide +kernel
theorem dX4_best_168 : decode cX4_best 168 = .ok (.iload 8, 2) := by decide +kernel
theorem dX4_best_170 : decode cX4_best 170 = .ok (.iload 5, 2) := by decide +kernel
theorem dX4_best_172 : decode cX4_best 172 = .ok (.if_icmp .lt 17, 3) := by decide +kernel
theorem dX4_best_175 : decode cX4_best 175 = .ok (.iload 8, 2) := by decide +kernel
theorem dX4_best_177 : decode cX4_best 177 = .ok (.iload 5, 2) := by decide +kernel
theorem dX4_best_179 : decode cX4_best 179 = .ok (.if_icmp .ne 22, 3) := by decide +kernel
theorem dX4_best_182 : decode cX4_best 182 = .ok (.iload 9, 2) := by decide +kernel
theorem dX4_best_184 : decode cX4_best 184 = .ok (.iload 6, 2) := by decide +kernel
theorem dX4_best_186 : decode cX4_best 186 = .ok (.if_icmp .ge 15, 3) := by decide +kernel
theorem dX4_best_189 : decode cX4_best 189 = .ok (.iload 8, 2) := by decide +kernel
theorem dX4_best_191 : decode cX4_best 191 = .ok (.istore 5, 2) := by decide +kernel
theorem dX4_best_193 : decode cX4_best 193 = .ok (.iload 9, 2) := by decide +kernel
theorem dX4_best_195 : decode cX4_best 195 = .ok (.istore 6, 2) := by decide +kernel
theorem dX4_best_197 : decode cX4_best 197 = .ok (.iload 7, 2) := by decide +kernel
theorem dX4_best_199 : decode cX4_best 199 = .ok (.istore 4, 2) := by decide +kernel
theorem dX4_best_201 : decode cX4_best 201 = .ok (.iinc 7 1, 3) := by decide +kernel
theorem dX4_best_204 : decode cX4_best 204 = .ok (.goto (-106), 3) := by decide +kernel
theorem dX4_best_207 : decode cX4_best 207 = .ok (.iload_n 2, 1) := by decide +kernel
theorem dX4_best_208 : decode cX4_best 208 = .ok (.ifCond .ne 15, 3) := by decide +kernel
theorem dX4_best_211 : decode cX4_best 211 = .ok (.iload_n 1, 1) := by decide +kernel
theorem dX4_best_212 : decode cX4_best 212 = .ok (.ifCond .ne 8, 3) := by decide +kernel
theorem dX4_best_215 : decode cX4_best 215 = .ok (.iload 5, 2) := by decide +kernel
theorem dX4_best_217 : decode cX4_best 217 = .ok (.goto 5, 3) := by decide +kernel
theorem dX4_best_220 : decode cX4_best 220 = .ok (.iload 6, 2) := by decide +kernel
theorem dX4_best_222 : decode cX4_best 222 = .ok (.ireturn, 1) := by decide +kernel
theorem dX4_best_223 : decode cX4_best 223 = .ok (.iload 4, 2) := by decide +kernel
theorem dX4_best_225 : decode cX4_best 225 = .ok (.aload_n 0, 1) := by decide +kernel
theorem dX4_best_226 : decode cX4_best 226 = .ok (.getfield 10, 3) := by decide +kernel
theorem dX4_best_229 : decode cX4_best 229 = .ok (.getfield 90, 3) := by decide +kernel
theorem dX4_best_232 : decode cX4_best 232 = .ok (.aload_n 0, 1) := by decide +kernel
theorem dX4_best_233 : decode cX4_best 233 = .ok (.getfield 19, 3) := by decide +kernel
theorem dX4_best_236 : decode cX4_best 236 = .ok (.getfield 145, 3) := by decide +kernel
theorem dX4_best_239 : decode cX4_best 239 = .ok (.aload_n 0, 1) := by decide +kernel
theorem dX4_best_240 : decode cX4_best 240 = .ok (.getfield 10, 3) := by decide +kernel
theorem dX4_best_243 : decode cX4_best 243 = .ok (.getfield 93, 3) := by decide +kernel
theorem dX4_best_246 : decode cX4_best 246 = .ok (.invokestatic 204, 3) := by decide +kernel
theorem dX4_best_249 : decode cX4_best 249 = .ok (.aload_n 0, 1) := by decide +kernel
theorem dX4_best_250 : decode cX4_best 250 = .ok (.getfield 19, 3) := by decide +kernel
theorem dX4_best_253 : decode cX4_best 253 = .ok (.getfield 145, 3) := by decide +kernel
theorem dX4_best_256 : decode cX4_best 256 = .ok (.iload_n 1, 1) := by decide +kernel
theorem dX4_best_257 : decode cX4_best 257 = .ok (.bipush 10, 2) := by decide +kernel
theorem dX4_best_259 : decode cX4_best 259 = .ok (.isub, 1) := by decide +kernel
theorem dX4_best_260 : decode cX4_best 260 = .ok (.iaload, 1) := by decide +kernel
theorem dX4_best_261 : decode cX4_best 261 = .ok (.ireturn, 1) := by decide +kernel
theorem dX4_apart_0 : decode cX4_apart 0 = .ok (.iload_n 1, 1) := by decide +kernel
theorem dX4_apart_1 : decode cX4_apart 1 = .ok (.bipush 10, 2) := by decide +kernel
theorem dX4_apart_3 : decode cX4_apart 3 = .ok (.if_icmp .lt 21, 3) := by decide +kernel
theorem dX4_apart_6 : decode cX4_apart 6 = .ok (.aload_n 0, 1) := by decide +kernel
theorem dX4_apart_7 : decode cX4_apart 7 = .ok (.getfield 10, 3) := by decide +kernel
theorem dX4_apart_10 : decode cX4_apart 10 = .ok (.iload_n 1, 1) := by decide +kernel
theorem dX4_apart_11 : decode cX4_apart 11 = .ok (.bipush 10, 2) := by decide +kernel
theorem dX4_apart_13 : decode cX4_apart 13 = .ok (.isub, 1) := by decide +kernel
theorem dX4_apart_14 : decode cX4_apart 14 = .ok (.invokevirtual 99, 3) := by decide +kernel
theorem dX4_apart_17 : decode cX4_apart 17 = .ok (.ifCond .eq 7, 3) := by decide +kernel
theorem dX4_apart_20 : decode cX4_apart 20 = .ok (.iconst 1, 1) := by decide +kernel
theorem dX4_apart_21 : decode cX4_apart 21 = .ok (.goto 4, 3) := by decide +kernel
theorem dX4_apart_24 : decode cX4_apart 24 = .ok (.iconst 0, 1) := by decide +kernel
theorem dX4_apart_25 : decode cX4_apart 25 = .ok (.istore_n 2, 1) := by decide +kernel
theorem dX4_apart_26 : decode cX4_apart 26 = .ok (.iload_n 1, 1) := by decide +kernel
theorem dX4_apart_27 : decode cX4_apart 27 = .ok (.ifCond .eq 9, 3) := by decide +kernel
theorem dX4_apart_30 : decode cX4_apart 30 = .ok (.iload_n 2, 1) := by decide +kernel
theorem dX4_apart_31 : decode cX4_apart 31 = .ok (.ifCond .ne 5, 3) := by decide +kernel
theorem dX4_apart_34 : decode cX4_apart 34 = .ok (.iconst (-1), 1) := by decide +kernel
theorem dX4_apart_35 : decode cX4_apart 35 = .ok (.ireturn, 1) := by decide +kernel
theorem dX4_apart_36 : decode cX4_apart 36 = .ok (.aload_n 0, 1) := by decide +kernel
theorem dX4_apart_37 : decode cX4_apart 37 = .ok (.getfield 10, 3) := by decide +kernel
theorem dX4_apart_40 : decode cX4_apart 40 = .ok (.getfield 90, 3) := by decide +kernel
theorem dX4_apart_43 : decode cX4_apart 43 = .ok (.iconst 1, 1) := by decide +kernel
theorem dX4_apart_44 : decode cX4_apart 44 = .ok (.if_icmp .ge 6, 3) := by decide +kernel
theorem dX4_apart_47 : decode cX4_apart 47 = .ok (.bipush (-2), 2) := by decide +kernel
theorem dX4_apart_49 : decode cX4_apart 49 = .ok (.ireturn, 1) := by decide +kernel
theorem dX4_apart_50 : decode cX4_apart 50 = .ok (.aload_n 0, 1) := by decide +kernel
theorem dX4_apart_51 : decode cX4_apart 51 = .ok (.getfield 19, 3) := by decide +kernel
theorem dX4_apart_54 : decode cX4_apart 54 = .ok (.aload_n 0, 1) := by decide +kernel
theorem dX4_apart_55 : decode cX4_apart 55 = .ok (.getfield 10, 3) := by decide +kernel
theorem dX4_apart_58 : decode cX4_apart 58 = .ok (.invokevirtual 83, 3) := by decide +kernel
theorem dX4_apart_61 : decode cX4_apart 61 = .ok (.iconst 4, 1) := by decide +kernel
theorem dX4_apart_62 : decode cX4_apart 62 = .ok (.aload_n 0, 1) := by decide +kernel
theorem dX4_apart_63 : decode cX4_apart 63 = .ok (.getfield 10, 3) := by decide +kernel
theorem dX4_apart_66 : decode cX4_apart 66 = .ok (.getfield 90, 3) := by decide +kernel
theorem dX4_apart_69 : decode cX4_apart 69 = .ok (.invokestatic 200, 3) := by decide +kernel
theorem dX4_apart_72 : decode cX4_apart 72 = .ok (.istore_n 3, 1) := by decide +kernel
theorem dX4_apart_73 : decode cX4_apart 73 = .ok (.iconst 0, 1) := by decide +kernel
theorem dX4_apart_74 : decode cX4_apart 74 = .ok (.istore 4, 2) := by decide +kernel
theorem dX4_apart_76 : decode cX4_apart 76 = .ok (.ldc 203, 2) := by decide +kernel
theorem dX4_apart_78 : decode cX4_apart 78 = .ok (.istore 5, 2) := by decide +kernel
theorem dX4_apart_80 : decode cX4_apart 80 = .ok (.iconst 0, 1) := by decide +kernel
theorem dX4_apart_81 : decode cX4_apart 81 = .ok (.istore 6, 2) := by decide +kernel
theorem dX4_apart_83 : decode cX4_apart 83 = .ok (.iload 6, 2) := by decide +kernel
theorem dX4_apart_85 : decode cX4_apart 85 = .ok (.iload_n 3, 1) := by decide +kernel
theorem dX4_apart_86 : decode cX4_apart 86 = .ok (.if_icmp .ge 69, 3) := by decide +kernel
theorem dX4_apart_89 : decode cX4_apart 89 = .ok (.iload 6, 2) := by decide +kernel
theorem dX4_apart_91 : decode cX4_apart 91 = .ok (.iconst 4, 1) := by decide +kernel
theorem dX4_apart_92 : decode cX4_apart 92 = .ok (.aload_n 0, 1) := by decide +kernel
theorem dX4_apart_93 : decode cX4_apart 93 = .ok (.getfield 19, 3) := by decide +kernel
theorem dX4_apart_96 : decode cX4_apart 96 = .ok (.getfield 112, 3) := by decide +kernel
theorem dX4_apart_99 : decode cX4_apart 99 = .ok (.aload_n 0, 1) := by decide +kernel
theorem dX4_apart_100 : decode cX4_apart 100 = .ok (.getfield 10, 3) := by decide +kernel
theorem dX4_apart_103 : decode cX4_apart 103 = .ok (.getfield 90, 3) := by decide +kernel
theorem dX4_apart_106 : decode cX4_apart 106 = .ok (.invokestatic 204, 3) := by decide +kernel
theorem dX4_apart_109 : decode cX4_apart 109 = .ok (.aload_n 0, 1) := by decide +kernel
theorem dX4_apart_110 : decode cX4_apart 110 = .ok (.getfield 40, 3) := by decide +kernel
theorem dX4_apart_113 : decode cX4_apart 113 = .ok (.aload_n 0, 1) := by decide +kernel
theorem dX4_apart_114 : decode cX4_apart 114 = .ok (.getfield 19, 3) := by decide +kernel
theorem dX4_apart_117 : decode cX4_apart 117 = .ok (.iconst 0, 1) := by decide +kernel
theorem dX4_apart_118 : decode cX4_apart 118 = .ok (.invokevirtual 164, 3) := by decide +kernel
theorem dX4_apart_121 : decode cX4_apart 121 = .ok (.aload_n 0, 1) := by decide +kernel
theorem dX4_apart_122 : decode cX4_apart 122 = .ok (.getfield 40, 3) := by decide +kernel
theorem dX4_apart_125 : decode cX4_apart 125 = .ok (.aload_n 0, 1) := by decide +kernel
theorem dX4_apart_126 : decode cX4_apart 126 = .ok (.getfield 19, 3) := by decide +kernel
theorem dX4_apart_129 : decode cX4_apart 129 = .ok (.invokevirtual 180, 3) := by decide +kernel
theorem dX4_apart_132 : decode cX4_apart 132 = .ok (.istore 7, 2) := by decide +kernel
theorem dX4_apart_134 : decode cX4_apart 134 = .ok (.iload 7, 2) := by decide +kernel
theorem dX4_apart_136 : decode cX4_apart 136 = .ok (.iload 5, 2) := by decide +kernel
theorem dX4_apart_138 : decode cX4_apart 138 = .ok (.if_icmp .ge 11, 3) := by decide +kernel
theorem dX4_apart_141 : decode cX4_apart 141 = .ok (.iload 7, 2) := by decide +kernel
theorem dX4_apart_143 : decode cX4_apart 143 = .ok (.istore 5, 2) := by decide +kernel
theorem dX4_apart_145 : decode cX4_apart 145 = .ok (.iload 6, 2) := by decide +kernel
theorem dX4_apart_147 : decode cX4_apart 147 = .ok (.istore 4, 2) := by decide +kernel
theorem dX4_apart_149 : decode cX4_apart 149 = .ok (.iinc 6 1, 3) := by decide +kernel
theorem dX4_apart_152 : decode cX4_apart 152 = .ok (.goto (-69), 3) := by decide +kernel
theorem dX4_apart_155 : decode cX4_apart 155 = .ok (.iload_n 2, 1) := by decide +kernel
theorem dX4_apart_156 : decode cX4_apart 156 = .ok (.ifCond .ne 6, 3) := by decide +kernel
theorem dX4_apart_159 : decode cX4_apart 159 = .ok (.iload 5, 2) := by decide +kernel
theorem dX4_apart_161 : decode cX4_apart 161 = .ok (.ireturn, 1) := by decide +kernel
theorem dX4_apart_162 : decode cX4_apart 162 = .ok (.iload 4, 2) := by decide +kernel
theorem dX4_apart_164 : decode cX4_apart 164 = .ok (.iconst 4, 1) := by decide +kernel
theorem dX4_apart_165 : decode cX4_apart 165 = .ok (.aload_n 0, 1) := by decide +kernel
theorem dX4_apart_166 : decode cX4_apart 166 = .ok (.getfield 19, 3) := by decide +kernel
theorem dX4_apart_169 : decode cX4_apart 169 = .ok (.getfield 112, 3) := by decide +kernel
theorem dX4_apart_172 : decode cX4_apart 172 = .ok (.aload_n 0, 1) := by decide +kernel
theorem dX4_apart_173 : decode cX4_apart 173 = .ok (.getfield 10, 3) := by decide +kernel
theorem dX4_apart_176 : decode cX4_apart 176 = .ok (.getfield 90, 3) := by decide +kernel
theorem dX4_apart_179 : decode cX4_apart 179 = .ok (.invokestatic 204, 3) := by decide +kernel
theorem dX4_apart_182 : decode cX4_apart 182 = .ok (.aload_n 0, 1) := by decide +kernel
theorem dX4_apart_183 : decode cX4_apart 183 = .ok (.getfield 19, 3) := by decide +kernel
theorem dX4_apart_186 : decode cX4_apart 186 = .ok (.getfield 112, 3) := by decide +kernel
theorem dX4_apart_189 : decode cX4_apart 189 = .ok (.iload_n 1, 1) := by decide +kernel
theorem dX4_apart_190 : decode cX4_apart 190 = .ok (.bipush 10, 2) := by decide +kernel
theorem dX4_apart_192 : decode cX4_apart 192 = .ok (.isub, 1) := by decide +kernel
theorem dX4_apart_193 : decode cX4_apart 193 = .ok (.iaload, 1) := by decide +kernel
theorem dX4_apart_194 : decode cX4_apart 194 = .ok (.ireturn, 1) := by decide +kernel
theorem dX4_compose_0 : decode cX4_compose 0 = .ok (.iload_n 1, 1) := by decide +kernel
theorem dX4_compose_1 : decode cX4_compose 1 = .ok (.iconst 1, 1) := by decide +kernel
theorem dX4_compose_2 : decode cX4_compose 2 = .ok (.sipush 144, 3) := by decide +kernel
theorem dX4_compose_5 : decode cX4_compose 5 = .ok (.invokestatic 68, 3) := by decide +kernel
theorem dX4_compose_8 : decode cX4_compose 8 = .ok (.ifCond .eq 12, 3) := by decide +kernel
theorem dX4_compose_11 : decode cX4_compose 11 = .ok (.iload_n 2, 1) := by decide +kernel
theorem dX4_compose_12 : decode cX4_compose 12 = .ok (.iconst 0, 1) := by decide +kernel
theorem dX4_compose_13 : decode cX4_compose 13 = .ok (.iconst 2, 1) := by decide +kernel
theorem dX4_compose_14 : decode cX4_compose 14 = .ok (.invokestatic 68, 3) := by decide +kernel
theorem dX4_compose_17 : decode cX4_compose 17 = .ok (.ifCond .ne 5, 3) := by decide +kernel
theorem dX4_compose_20 : decode cX4_compose 20 = .ok (.iconst (-1), 1) := by decide +kernel
theorem dX4_compose_21 : decode cX4_compose 21 = .ok (.ireturn, 1) := by decide +kernel
theorem dX4_compose_22 : decode cX4_compose 22 = .ok (.iconst 1, 1) := by decide +kernel
theorem dX4_compose_23 : decode cX4_compose 23 = .ok (.istore_n 3, 1) := by decide +kernel
theorem dX4_compose_24 : decode cX4_compose 24 = .ok (.iload_n 3, 1) := by decide +kernel
theorem dX4_compose_25 : decode cX4_compose 25 = .ok (.bipush 8, 2) := by decide +kernel
theorem dX4_compose_27 : decode cX4_compose 27 = .ok (.if_icmp .gt 74, 3) := by decide +kernel
theorem dX4_compose_30 : decode cX4_compose 30 = .ok (.iconst 0, 1) := by decide +kernel
theorem dX4_compose_31 : decode cX4_compose 31 = .ok (.istore 4, 2) := by decide +kernel
theorem dX4_compose_33 : decode cX4_compose 33 = .ok (.iload 4, 2) := by decide +kernel
theorem dX4_compose_35 : decode cX4_compose 35 = .ok (.iconst 4, 1) := by decide +kernel
theorem dX4_compose_36 : decode cX4_compose 36 = .ok (.if_icmp .ge 59, 3) := by decide +kernel
theorem dX4_compose_39 : decode cX4_compose 39 = .ok (.iconst 1, 1) := by decide +kernel
theorem dX4_compose_40 : decode cX4_compose 40 = .ok (.istore 5, 2) := by decide +kernel
theorem dX4_compose_42 : decode cX4_compose 42 = .ok (.iload 5, 2) := by decide +kernel
theorem dX4_compose_44 : decode cX4_compose 44 = .ok (.bipush 9, 2) := by decide +kernel
theorem dX4_compose_46 : decode cX4_compose 46 = .ok (.if_icmp .gt 43, 3) := by decide +kernel
theorem dX4_compose_49 : decode cX4_compose 49 = .ok (.iload 5, 2) := by decide +kernel
theorem dX4_compose_51 : decode cX4_compose 51 = .ok (.iload 4, 2) := by decide +kernel
theorem dX4_compose_53 : decode cX4_compose 53 = .ok (.iload_n 3, 1) := by decide +kernel
theorem dX4_compose_54 : decode cX4_compose 54 = .ok (.invokestatic 208, 3) := by decide +kernel
theorem dX4_compose_57 : decode cX4_compose 57 = .ok (.imul, 1) := by decide +kernel
theorem dX4_compose_58 : decode cX4_compose 58 = .ok (.iload_n 1, 1) := by decide +kernel
theorem dX4_compose_59 : decode cX4_compose 59 = .ok (.if_icmp .ne 24, 3) := by decide +kernel
theorem dX4_compose_62 : decode cX4_compose 62 = .ok (.iload_n 2, 1) := by decide +kernel
theorem dX4_compose_63 : decode cX4_compose 63 = .ok (.ifCond .ne 7, 3) := by decide +kernel
theorem dX4_compose_66 : decode cX4_compose 66 = .ok (.iload_n 3, 1) := by decide +kernel
theorem dX4_compose_67 : decode cX4_compose 67 = .ok (.goto 15, 3) := by decide +kernel
theorem dX4_compose_70 : decode cX4_compose 70 = .ok (.iload_n 2, 1) := by decide +kernel
theorem dX4_compose_71 : decode cX4_compose 71 = .ok (.iconst 1, 1) := by decide +kernel
theorem dX4_compose_72 : decode cX4_compose 72 = .ok (.if_icmp .ne 8, 3) := by decide +kernel
theorem dX4_compose_75 : decode cX4_compose 75 = .ok (.iload 4, 2) := by decide +kernel
theorem dX4_compose_77 : decode cX4_compose 77 = .ok (.goto 5, 3) := by decide +kernel
theorem dX4_compose_80 : decode cX4_compose 80 = .ok (.iload 5, 2) := by decide +kernel
theorem dX4_compose_82 : decode cX4_compose 82 = .ok (.ireturn, 1) := by decide +kernel
theorem dX4_compose_83 : decode cX4_compose 83 = .ok (.iinc 5 1, 3) := by decide +kernel
theorem dX4_compose_86 : decode cX4_compose 86 = .ok (.goto (-44), 3) := by decide +kernel
theorem dX4_compose_89 : decode cX4_compose 89 = .ok (.iinc 4 1, 3) := by decide +kernel
theorem dX4_compose_92 : decode cX4_compose 92 = .ok (.goto (-59), 3) := by decide +kernel
theorem dX4_compose_95 : decode cX4_compose 95 = .ok (.iinc 3 1, 3) := by decide +kernel
theorem dX4_compose_98 : decode cX4_compose 98 = .ok (.goto (-74), 3) := by decide +kernel
theorem dX4_compose_101 : decode cX4_compose 101 = .ok (.bipush (-4), 2) := by decide +kernel
theorem dX4_compose_103 : decode cX4_compose 103 = .ok (.ireturn, 1) := by decide +kernel
theorem dX4_bribe_0 : decode cX4_bribe 0 = .ok (.iload_n 1, 1) := by decide +kernel
theorem dX4_bribe_1 : decode cX4_bribe 1 = .ok (.iconst 0, 1) := by decide +kernel
theorem dX4_bribe_2 : decode cX4_bribe 2 = .ok (.iconst 1, 1) := by decide +kernel
theorem dX4_bribe_3 : decode cX4_bribe 3 = .ok (.aload_n 0, 1) := by decide +kernel
theorem dX4_bribe_4 : decode cX4_bribe 4 = .ok (.getfield 10, 3) := by decide +kernel
theorem dX4_bribe_7 : decode cX4_bribe 7 = .ok (.getfield 96, 3) := by decide +kernel
theorem dX4_bribe_10 : decode cX4_bribe 10 = .ok (.ishl, 1) := by decide +kernel
theorem dX4_bribe_11 : decode cX4_bribe 11 = .ok (.iconst 1, 1) := by decide +kernel
theorem dX4_bribe_12 : decode cX4_bribe 12 = .ok (.isub, 1) := by decide +kernel
theorem dX4_bribe_13 : decode cX4_bribe 13 = .ok (.invokestatic 68, 3) := by decide +kernel
theorem dX4_bribe_16 : decode cX4_bribe 16 = .ok (.ifCond .eq 27, 3) := by decide +kernel
theorem dX4_bribe_19 : decode cX4_bribe 19 = .ok (.iload_n 2, 1) := by decide +kernel
theorem dX4_bribe_20 : decode cX4_bribe 20 = .ok (.iconst 0, 1) := by decide +kernel
theorem dX4_bribe_21 : decode cX4_bribe 21 = .ok (.sipush 159, 3) := by decide +kernel
theorem dX4_bribe_24 : decode cX4_bribe 24 = .ok (.invokestatic 68, 3) := by decide +kernel
theorem dX4_bribe_27 : decode cX4_bribe 27 = .ok (.ifCond .eq 16, 3) := by decide +kernel
theorem dX4_bribe_30 : decode cX4_bribe 30 = .ok (.iload_n 3, 1) := by decide +kernel
theorem dX4_bribe_31 : decode cX4_bribe 31 = .ok (.iconst 0, 1) := by decide +kernel
theorem dX4_bribe_32 : decode cX4_bribe 32 = .ok (.iconst 1, 1) := by decide +kernel
theorem dX4_bribe_33 : decode cX4_bribe 33 = .ok (.invokestatic 68, 3) := by decide +kernel
theorem dX4_bribe_36 : decode cX4_bribe 36 = .ok (.ifCond .eq 7, 3) := by decide +kernel
theorem dX4_bribe_39 : decode cX4_bribe 39 = .ok (.iconst 1, 1) := by decide +kernel
theorem dX4_bribe_40 : decode cX4_bribe 40 = .ok (.goto 4, 3) := by decide +kernel
theorem dX4_bribe_43 : decode cX4_bribe 43 = .ok (.iconst 0, 1) := by decide +kernel
theorem dX4_bribe_44 : decode cX4_bribe 44 = .ok (.istore 4, 2) := by decide +kernel
theorem dX4_bribe_46 : decode cX4_bribe 46 = .ok (.iload 4, 2) := by decide +kernel
theorem dX4_bribe_48 : decode cX4_bribe 48 = .ok (.ifCond .ne 5, 3) := by decide +kernel
theorem dX4_bribe_51 : decode cX4_bribe 51 = .ok (.iconst (-1), 1) := by decide +kernel
theorem dX4_bribe_52 : decode cX4_bribe 52 = .ok (.ireturn, 1) := by decide +kernel
theorem dX4_bribe_53 : decode cX4_bribe 53 = .ok (.iconst (-1), 1) := by decide +kernel
theorem dX4_bribe_54 : decode cX4_bribe 54 = .ok (.istore 5, 2) := by decide +kernel
theorem dX4_bribe_56 : decode cX4_bribe 56 = .ok (.iconst 0, 1) := by decide +kernel
theorem dX4_bribe_57 : decode cX4_bribe 57 = .ok (.istore 6, 2) := by decide +kernel
theorem dX4_bribe_59 : decode cX4_bribe 59 = .ok (.iload 6, 2) := by decide +kernel
theorem dX4_bribe_61 : decode cX4_bribe 61 = .ok (.iconst 1, 1) := by decide +kernel
theorem dX4_bribe_62 : decode cX4_bribe 62 = .ok (.aload_n 0, 1) := by decide +kernel
theorem dX4_bribe_63 : decode cX4_bribe 63 = .ok (.getfield 10, 3) := by decide +kernel
theorem dX4_bribe_66 : decode cX4_bribe 66 = .ok (.getfield 93, 3) := by decide +kernel
theorem dX4_bribe_69 : decode cX4_bribe 69 = .ok (.ishl, 1) := by decide +kernel
theorem dX4_bribe_70 : decode cX4_bribe 70 = .ok (.if_icmp .ge 60, 3) := by decide +kernel
theorem dX4_bribe_73 : decode cX4_bribe 73 = .ok (.iload 5, 2) := by decide +kernel
theorem dX4_bribe_75 : decode cX4_bribe 75 = .ok (.ifCond .lt 16, 3) := by decide +kernel
theorem dX4_bribe_78 : decode cX4_bribe 78 = .ok (.iload 6, 2) := by decide +kernel
theorem dX4_bribe_80 : decode cX4_bribe 80 = .ok (.invokestatic 211, 3) := by decide +kernel
theorem dX4_bribe_83 : decode cX4_bribe 83 = .ok (.iload 5, 2) := by decide +kernel
theorem dX4_bribe_85 : decode cX4_bribe 85 = .ok (.invokestatic 211, 3) := by decide +kernel
theorem dX4_bribe_88 : decode cX4_bribe 88 = .ok (.if_icmp .ge 36, 3) := by decide +kernel
theorem dX4_bribe_91 : decode cX4_bribe 91 = .ok (.aload_n 0, 1) := by decide +kernel
theorem dX4_bribe_92 : decode cX4_bribe 92 = .ok (.getfield 40, 3) := by decide +kernel
theorem dX4_bribe_95 : decode cX4_bribe 95 = .ok (.aload_n 0, 1) := by decide +kernel
theorem dX4_bribe_96 : decode cX4_bribe 96 = .ok (.getfield 10, 3) := by decide +kernel
theorem dX4_bribe_99 : decode cX4_bribe 99 = .ok (.iload 6, 2) := by decide +kernel
theorem dX4_bribe_101 : decode cX4_bribe 101 = .ok (.invokevirtual 164, 3) := by decide +kernel
theorem dX4_bribe_104 : decode cX4_bribe 104 = .ok (.aload_n 0, 1) := by decide +kernel
theorem dX4_bribe_105 : decode cX4_bribe 105 = .ok (.getfield 40, 3) := by decide +kernel
theorem dX4_bribe_108 : decode cX4_bribe 108 = .ok (.aload_n 0, 1) := by decide +kernel
theorem dX4_bribe_109 : decode cX4_bribe 109 = .ok (.getfield 10, 3) := by decide +kernel
theorem dX4_bribe_112 : decode cX4_bribe 112 = .ok (.iload_n 1, 1) := by decide +kernel
theorem dX4_bribe_113 : decode cX4_bribe 113 = .ok (.iload_n 2, 1) := by decide +kernel
theorem dX4_bribe_114 : decode cX4_bribe 114 = .ok (.invokevirtual 216, 3) := by decide +kernel
theorem dX4_bribe_117 : decode cX4_bribe 117 = .ok (.ifCond .eq 7, 3) := by decide +kernel
theorem dX4_bribe_120 : decode cX4_bribe 120 = .ok (.iload 6, 2) := by decide +kernel
theorem dX4_bribe_122 : decode cX4_bribe 122 = .ok (.istore 5, 2) := by decide +kernel
theorem dX4_bribe_124 : decode cX4_bribe 124 = .ok (.iinc 6 1, 3) := by decide +kernel
theorem dX4_bribe_127 : decode cX4_bribe 127 = .ok (.goto (-68), 3) := by decide +kernel
theorem dX4_bribe_130 : decode cX4_bribe 130 = .ok (.iload 5, 2) := by decide +kernel
theorem dX4_bribe_132 : decode cX4_bribe 132 = .ok (.ifCond .ge 6, 3) := by decide +kernel
theorem dX4_bribe_135 : decode cX4_bribe 135 = .ok (.bipush (-4), 2) := by decide +kernel
theorem dX4_bribe_137 : decode cX4_bribe 137 = .ok (.ireturn, 1) := by decide +kernel
theorem dX4_bribe_138 : decode cX4_bribe 138 = .ok (.iload_n 3, 1) := by decide +kernel
theorem dX4_bribe_139 : decode cX4_bribe 139 = .ok (.ifCond .ne 11, 3) := by decide +kernel
theorem dX4_bribe_142 : decode cX4_bribe 142 = .ok (.iload 5, 2) := by decide +kernel
theorem dX4_bribe_144 : decode cX4_bribe 144 = .ok (.invokestatic 211, 3) := by decide +kernel
theorem dX4_bribe_147 : decode cX4_bribe 147 = .ok (.goto 5, 3) := by decide +kernel
theorem dX4_bribe_150 : decode cX4_bribe 150 = .ok (.iload 5, 2) := by decide +kernel
theorem dX4_bribe_152 : decode cX4_bribe 152 = .ok (.ireturn, 1) := by decide +kernel
theorem dX4_teach_0 : decode cX4_teach 0 = .ok (.iload_n 1, 1) := by decide +kernel
theorem dX4_teach_1 : decode cX4_teach 1 = .ok (.iconst 0, 1) := by decide +kernel
theorem dX4_teach_2 : decode cX4_teach 2 = .ok (.iconst 1, 1) := by decide +kernel
theorem dX4_teach_3 : decode cX4_teach 3 = .ok (.invokestatic 68, 3) := by decide +kernel
theorem dX4_teach_6 : decode cX4_teach 6 = .ok (.ifCond .ne 5, 3) := by decide +kernel
theorem dX4_teach_9 : decode cX4_teach 9 = .ok (.iconst (-1), 1) := by decide +kernel
theorem dX4_teach_10 : decode cX4_teach 10 = .ok (.ireturn, 1) := by decide +kernel
theorem dX4_teach_11 : decode cX4_teach 11 = .ok (.aload_n 0, 1) := by decide +kernel
theorem dX4_teach_12 : decode cX4_teach 12 = .ok (.getfield 40, 3) := by decide +kernel
theorem dX4_teach_15 : decode cX4_teach 15 = .ok (.aload_n 0, 1) := by decide +kernel
theorem dX4_teach_16 : decode cX4_teach 16 = .ok (.getfield 10, 3) := by decide +kernel
theorem dX4_teach_19 : decode cX4_teach 19 = .ok (.iconst 0, 1) := by decide +kernel
theorem dX4_teach_20 : decode cX4_teach 20 = .ok (.invokevirtual 164, 3) := by decide +kernel
theorem dX4_teach_23 : decode cX4_teach 23 = .ok (.aload_n 0, 1) := by decide +kernel
theorem dX4_teach_24 : decode cX4_teach 24 = .ok (.getfield 40, 3) := by decide +kernel
theorem dX4_teach_27 : decode cX4_teach 27 = .ok (.aload_n 0, 1) := by decide +kernel
theorem dX4_teach_28 : decode cX4_teach 28 = .ok (.getfield 10, 3) := by decide +kernel
theorem dX4_teach_31 : decode cX4_teach 31 = .ok (.invokevirtual 180, 3) := by decide +kernel
theorem dX4_teach_34 : decode cX4_teach 34 = .ok (.istore_n 2, 1) := by decide +kernel
theorem dX4_teach_35 : decode cX4_teach 35 = .ok (.iconst (-1), 1) := by decide +kernel
theorem dX4_teach_36 : decode cX4_teach 36 = .ok (.istore_n 3, 1) := by decide +kernel
theorem dX4_teach_37 : decode cX4_teach 37 = .ok (.aload_n 0, 1) := by decide +kernel
theorem dX4_teach_38 : decode cX4_teach 38 = .ok (.getfield 19, 3) := by decide +kernel
theorem dX4_teach_41 : decode cX4_teach 41 = .ok (.aload_n 0, 1) := by decide +kernel
theorem dX4_teach_42 : decode cX4_teach 42 = .ok (.getfield 10, 3) := by decide +kernel
theorem dX4_teach_45 : decode cX4_teach 45 = .ok (.invokevirtual 83, 3) := by decide +kernel
theorem dX4_teach_48 : decode cX4_teach 48 = .ok (.iconst 0, 1) := by decide +kernel
theorem dX4_teach_49 : decode cX4_teach 49 = .ok (.istore 4, 2) := by decide +kernel
theorem dX4_teach_51 : decode cX4_teach 51 = .ok (.iload 4, 2) := by decide +kernel
theorem dX4_teach_53 : decode cX4_teach 53 = .ok (.aload_n 0, 1) := by decide +kernel
theorem dX4_teach_54 : decode cX4_teach 54 = .ok (.getfield 10, 3) := by decide +kernel
theorem dX4_teach_57 : decode cX4_teach 57 = .ok (.getfield 93, 3) := by decide +kernel
theorem dX4_teach_60 : decode cX4_teach 60 = .ok (.if_icmp .ge 78, 3) := by decide +kernel
theorem dX4_teach_63 : decode cX4_teach 63 = .ok (.aload_n 0, 1) := by decide +kernel
theorem dX4_teach_64 : decode cX4_teach 64 = .ok (.getfield 19, 3) := by decide +kernel
theorem dX4_teach_67 : decode cX4_teach 67 = .ok (.getfield 136, 3) := by decide +kernel
theorem dX4_teach_70 : decode cX4_teach 70 = .ok (.iload 4, 2) := by decide +kernel
theorem dX4_teach_72 : decode cX4_teach 72 = .ok (.bipush 9, 2) := by decide +kernel
theorem dX4_teach_74 : decode cX4_teach 74 = .ok (.iastore, 1) := by decide +kernel
theorem dX4_teach_75 : decode cX4_teach 75 = .ok (.aload_n 0, 1) := by decide +kernel
theorem dX4_teach_76 : decode cX4_teach 76 = .ok (.getfield 40, 3) := by decide +kernel
theorem dX4_teach_79 : decode cX4_teach 79 = .ok (.aload_n 0, 1) := by decide +kernel
theorem dX4_teach_80 : decode cX4_teach 80 = .ok (.getfield 19, 3) := by decide +kernel
theorem dX4_teach_83 : decode cX4_teach 83 = .ok (.iconst 0, 1) := by decide +kernel
theorem dX4_teach_84 : decode cX4_teach 84 = .ok (.invokevirtual 164, 3) := by decide +kernel
theorem dX4_teach_87 : decode cX4_teach 87 = .ok (.aload_n 0, 1) := by decide +kernel
theorem dX4_teach_88 : decode cX4_teach 88 = .ok (.getfield 19, 3) := by decide +kernel
theorem dX4_teach_91 : decode cX4_teach 91 = .ok (.getfield 136, 3) := by decide +kernel
theorem dX4_teach_94 : decode cX4_teach 94 = .ok (.iload 4, 2) := by decide +kernel
theorem dX4_teach_96 : decode cX4_teach 96 = .ok (.aload_n 0, 1) := by decide +kernel
theorem dX4_teach_97 : decode cX4_teach 97 = .ok (.getfield 10, 3) := by decide +kernel
theorem dX4_teach_100 : decode cX4_teach 100 = .ok (.getfield 136, 3) := by decide +kernel
theorem dX4_teach_103 : decode cX4_teach 103 = .ok (.iload 4, 2) := by decide +kernel
theorem dX4_teach_105 : decode cX4_teach 105 = .ok (.iaload, 1) := by decide +kernel
theorem dX4_teach_106 : decode cX4_teach 106 = .ok (.iastore, 1) := by decide +kernel
theorem dX4_teach_107 : decode cX4_teach 107 = .ok (.aload_n 0, 1) := by decide +kernel
theorem dX4_teach_108 : decode cX4_teach 108 = .ok (.getfield 40, 3) := by decide +kernel
theorem dX4_teach_111 : decode cX4_teach 111 = .ok (.aload_n 0, 1) := by decide +kernel
theorem dX4_teach_112 : decode cX4_teach 112 = .ok (.getfield 19, 3) := by decide +kernel
theorem dX4_teach_115 : decode cX4_teach 115 = .ok (.invokevirtual 180, 3) := by decide +kernel
theorem dX4_teach_118 : decode cX4_teach 118 = .ok (.istore 5, 2) := by decide +kernel
theorem dX4_teach_120 : decode cX4_teach 120 = .ok (.iload 5, 2) := by decide +kernel
theorem dX4_teach_122 : decode cX4_teach 122 = .ok (.iload_n 2, 1) := by decide +kernel
theorem dX4_teach_123 : decode cX4_teach 123 = .ok (.if_icmp .ge 9, 3) := by decide +kernel
theorem dX4_teach_126 : decode cX4_teach 126 = .ok (.iload 5, 2) := by decide +kernel
theorem dX4_teach_128 : decode cX4_teach 128 = .ok (.istore_n 2, 1) := by decide +kernel
theorem dX4_teach_129 : decode cX4_teach 129 = .ok (.iload 4, 2) := by decide +kernel
theorem dX4_teach_131 : decode cX4_teach 131 = .ok (.istore_n 3, 1) := by decide +kernel
theorem dX4_teach_132 : decode cX4_teach 132 = .ok (.iinc 4 1, 3) := by decide +kernel
theorem dX4_teach_135 : decode cX4_teach 135 = .ok (.goto (-84), 3) := by decide +kernel
theorem dX4_teach_138 : decode cX4_teach 138 = .ok (.iload_n 3, 1) := by decide +kernel
theorem dX4_teach_139 : decode cX4_teach 139 = .ok (.ifCond .ge 6, 3) := by decide +kernel
theorem dX4_teach_142 : decode cX4_teach 142 = .ok (.bipush (-4), 2) := by decide +kernel
theorem dX4_teach_144 : decode cX4_teach 144 = .ok (.ireturn, 1) := by decide +kernel
theorem dX4_teach_145 : decode cX4_teach 145 = .ok (.iload_n 1, 1) := by decide +kernel
theorem dX4_teach_146 : decode cX4_teach 146 = .ok (.ifCond .ne 7, 3) := by decide +kernel
theorem dX4_teach_149 : decode cX4_teach 149 = .ok (.iload_n 3, 1) := by decide +kernel
theorem dX4_teach_150 : decode cX4_teach 150 = .ok (.goto 4, 3) := by decide +kernel
theorem dX4_teach_153 : decode cX4_teach 153 = .ok (.iload_n 2, 1) := by decide +kernel
theorem dX4_teach_154 : decode cX4_teach 154 = .ok (.ireturn, 1) := by decide +kernel
theorem dX4_mean_0 : decode cX4_mean 0 = .ok (.iload_n 1, 1) := by decide +kernel
theorem dX4_mean_1 : decode cX4_mean 1 = .ok (.iconst 0, 1) := by decide +kernel
theorem dX4_mean_2 : decode cX4_mean 2 = .ok (.bipush 10, 2) := by decide +kernel
theorem dX4_mean_4 : decode cX4_mean 4 = .ok (.invokestatic 68, 3) := by decide +kernel
theorem dX4_mean_7 : decode cX4_mean 7 = .ok (.ifCond .eq 12, 3) := by decide +kernel
theorem dX4_mean_10 : decode cX4_mean 10 = .ok (.iload_n 2, 1) := by decide +kernel
theorem dX4_mean_11 : decode cX4_mean 11 = .ok (.iconst 0, 1) := by decide +kernel
theorem dX4_mean_12 : decode cX4_mean 12 = .ok (.iconst 1, 1) := by decide +kernel
theorem dX4_mean_13 : decode cX4_mean 13 = .ok (.invokestatic 68, 3) := by decide +kernel
theorem dX4_mean_16 : decode cX4_mean 16 = .ok (.ifCond .ne 7, 3) := by decide +kernel
theorem dX4_mean_19 : decode cX4_mean 19 = .ok (.ldc2_w 220, 3) := by decide +kernel
theorem dX4_mean_22 : decode cX4_mean 22 = .ok (.lreturn, 1) := by decide +kernel
theorem dX4_mean_23 : decode cX4_mean 23 = .ok (.lconst 0, 1) := by decide +kernel
theorem dX4_mean_24 : decode cX4_mean 24 = .ok (.lstore_n 3, 1) := by decide +kernel
theorem dX4_mean_25 : decode cX4_mean 25 = .ok (.iconst 0, 1) := by decide +kernel
theorem dX4_mean_26 : decode cX4_mean 26 = .ok (.istore 5, 2) := by decide +kernel
theorem dX4_mean_28 : decode cX4_mean 28 = .ok (.iload 5, 2) := by decide +kernel
theorem dX4_mean_30 : decode cX4_mean 30 = .ok (.iconst 1, 1) := by decide +kernel
theorem dX4_mean_31 : decode cX4_mean 31 = .ok (.aload_n 0, 1) := by decide +kernel
theorem dX4_mean_32 : decode cX4_mean 32 = .ok (.getfield 10, 3) := by decide +kernel
theorem dX4_mean_35 : decode cX4_mean 35 = .ok (.getfield 93, 3) := by decide +kernel
theorem dX4_mean_38 : decode cX4_mean 38 = .ok (.ishl, 1) := by decide +kernel
theorem dX4_mean_39 : decode cX4_mean 39 = .ok (.if_icmp .ge 45, 3) := by decide +kernel
theorem dX4_mean_42 : decode cX4_mean 42 = .ok (.aload_n 0, 1) := by decide +kernel
theorem dX4_mean_43 : decode cX4_mean 43 = .ok (.getfield 40, 3) := by decide +kernel
theorem dX4_mean_46 : decode cX4_mean 46 = .ok (.aload_n 0, 1) := by decide +kernel
theorem dX4_mean_47 : decode cX4_mean 47 = .ok (.getfield 10, 3) := by decide +kernel
theorem dX4_mean_50 : decode cX4_mean 50 = .ok (.iload 5, 2) := by decide +kernel
theorem dX4_mean_52 : decode cX4_mean 52 = .ok (.invokevirtual 164, 3) := by decide +kernel
theorem dX4_mean_55 : decode cX4_mean 55 = .ok (.lload_n 3, 1) := by decide +kernel
theorem dX4_mean_56 : decode cX4_mean 56 = .ok (.aload_n 0, 1) := by decide +kernel
theorem dX4_mean_57 : decode cX4_mean 57 = .ok (.iload 5, 2) := by decide +kernel
theorem dX4_mean_59 : decode cX4_mean 59 = .ok (.iload_n 1, 1) := by decide +kernel
theorem dX4_mean_60 : decode cX4_mean 60 = .ok (.invokevirtual 222, 3) := by decide +kernel
theorem dX4_mean_63 : decode cX4_mean 63 = .ok (.aload_n 0, 1) := by decide +kernel
theorem dX4_mean_64 : decode cX4_mean 64 = .ok (.getfield 40, 3) := by decide +kernel
theorem dX4_mean_67 : decode cX4_mean 67 = .ok (.aload_n 0, 1) := by decide +kernel
theorem dX4_mean_68 : decode cX4_mean 68 = .ok (.getfield 10, 3) := by decide +kernel
theorem dX4_mean_71 : decode cX4_mean 71 = .ok (.invokevirtual 180, 3) := by decide +kernel
theorem dX4_mean_74 : decode cX4_mean 74 = .ok (.i2l, 1) := by decide +kernel
theorem dX4_mean_75 : decode cX4_mean 75 = .ok (.lmul, 1) := by decide +kernel
theorem dX4_mean_76 : decode cX4_mean 76 = .ok (.ladd, 1) := by decide +kernel
theorem dX4_mean_77 : decode cX4_mean 77 = .ok (.lstore_n 3, 1) := by decide +kernel
theorem dX4_mean_78 : decode cX4_mean 78 = .ok (.iinc 5 1, 3) := by decide +kernel
theorem dX4_mean_81 : decode cX4_mean 81 = .ok (.goto (-53), 3) := by decide +kernel
theorem dX4_mean_84 : decode cX4_mean 84 = .ok (.lload_n 3, 1) := by decide +kernel
theorem dX4_mean_85 : decode cX4_mean 85 = .ok (.bipush 10, 2) := by decide +kernel
theorem dX4_mean_87 : decode cX4_mean 87 = .ok (.aload_n 0, 1) := by decide +kernel
theorem dX4_mean_88 : decode cX4_mean 88 = .ok (.getfield 10, 3) := by decide +kernel
theorem dX4_mean_91 : decode cX4_mean 91 = .ok (.getfield 93, 3) := by decide +kernel
theorem dX4_mean_94 : decode cX4_mean 94 = .ok (.invokestatic 200, 3) := by decide +kernel
theorem dX4_mean_97 : decode cX4_mean 97 = .ok (.i2l, 1) := by decide +kernel
theorem dX4_mean_98 : decode cX4_mean 98 = .ok (.iload_n 2, 1) := by decide +kernel
theorem dX4_mean_99 : decode cX4_mean 99 = .ok (.invokestatic 226, 3) := by decide +kernel
theorem dX4_mean_102 : decode cX4_mean 102 = .ok (.lreturn, 1) := by decide +kernel
theorem dX4_luck_0 : decode cX4_luck 0 = .ok (.iload_n 1, 1) := by decide +kernel
theorem dX4_luck_1 : decode cX4_luck 1 = .ok (.iconst 0, 1) := by decide +kernel
theorem dX4_luck_2 : decode cX4_luck 2 = .ok (.bipush 10, 2) := by decide +kernel
theorem dX4_luck_4 : decode cX4_luck 4 = .ok (.invokestatic 68, 3) := by decide +kernel
theorem dX4_luck_7 : decode cX4_luck 7 = .ok (.ifCond .eq 23, 3) := by decide +kernel
theorem dX4_luck_10 : decode cX4_luck 10 = .ok (.aload_n 0, 1) := by decide +kernel
theorem dX4_luck_11 : decode cX4_luck 11 = .ok (.getfield 10, 3) := by decide +kernel
theorem dX4_luck_14 : decode cX4_luck 14 = .ok (.iload_n 2, 1) := by decide +kernel
theorem dX4_luck_15 : decode cX4_luck 15 = .ok (.invokevirtual 148, 3) := by decide +kernel
theorem dX4_luck_18 : decode cX4_luck 18 = .ok (.ifCond .eq 12, 3) := by decide +kernel
theorem dX4_luck_21 : decode cX4_luck 21 = .ok (.iload_n 3, 1) := by decide +kernel
theorem dX4_luck_22 : decode cX4_luck 22 = .ok (.iconst 0, 1) := by decide +kernel
theorem dX4_luck_23 : decode cX4_luck 23 = .ok (.iconst 1, 1) := by decide +kernel
theorem dX4_luck_24 : decode cX4_luck 24 = .ok (.invokestatic 68, 3) := by decide +kernel
theorem dX4_luck_27 : decode cX4_luck 27 = .ok (.ifCond .ne 7, 3) := by decide +kernel
theorem dX4_luck_30 : decode cX4_luck 30 = .ok (.ldc2_w 220, 3) := by decide +kernel
theorem dX4_luck_33 : decode cX4_luck 33 = .ok (.lreturn, 1) := by decide +kernel
theorem dX4_luck_34 : decode cX4_luck 34 = .ok (.lconst 0, 1) := by decide +kernel
theorem dX4_luck_35 : decode cX4_luck 35 = .ok (.lstore 4, 2) := by decide +kernel
theorem dX4_luck_37 : decode cX4_luck 37 = .ok (.iconst 0, 1) := by decide +kernel
theorem dX4_luck_38 : decode cX4_luck 38 = .ok (.istore 6, 2) := by decide +kernel
theorem dX4_luck_40 : decode cX4_luck 40 = .ok (.iload 6, 2) := by decide +kernel
theorem dX4_luck_42 : decode cX4_luck 42 = .ok (.iconst 1, 1) := by decide +kernel
theorem dX4_luck_43 : decode cX4_luck 43 = .ok (.aload_n 0, 1) := by decide +kernel
theorem dX4_luck_44 : decode cX4_luck 44 = .ok (.getfield 10, 3) := by decide +kernel
theorem dX4_luck_47 : decode cX4_luck 47 = .ok (.getfield 93, 3) := by decide +kernel
theorem dX4_luck_50 : decode cX4_luck 50 = .ok (.ishl, 1) := by decide +kernel
theorem dX4_luck_51 : decode cX4_luck 51 = .ok (.if_icmp .ge 49, 3) := by decide +kernel
theorem dX4_luck_54 : decode cX4_luck 54 = .ok (.aload_n 0, 1) := by decide +kernel
theorem dX4_luck_55 : decode cX4_luck 55 = .ok (.getfield 40, 3) := by decide +kernel
theorem dX4_luck_58 : decode cX4_luck 58 = .ok (.aload_n 0, 1) := by decide +kernel
theorem dX4_luck_59 : decode cX4_luck 59 = .ok (.getfield 10, 3) := by decide +kernel
theorem dX4_luck_62 : decode cX4_luck 62 = .ok (.iload 6, 2) := by decide +kernel
theorem dX4_luck_64 : decode cX4_luck 64 = .ok (.invokevirtual 164, 3) := by decide +kernel
theorem dX4_luck_67 : decode cX4_luck 67 = .ok (.aload_n 0, 1) := by decide +kernel
theorem dX4_luck_68 : decode cX4_luck 68 = .ok (.getfield 40, 3) := by decide +kernel
theorem dX4_luck_71 : decode cX4_luck 71 = .ok (.aload_n 0, 1) := by decide +kernel
theorem dX4_luck_72 : decode cX4_luck 72 = .ok (.getfield 10, 3) := by decide +kernel
theorem dX4_luck_75 : decode cX4_luck 75 = .ok (.iload_n 2, 1) := by decide +kernel
theorem dX4_luck_76 : decode cX4_luck 76 = .ok (.invokevirtual 192, 3) := by decide +kernel
theorem dX4_luck_79 : decode cX4_luck 79 = .ok (.ifCond .ne 15, 3) := by decide +kernel
theorem dX4_luck_82 : decode cX4_luck 82 = .ok (.lload 4, 2) := by decide +kernel
theorem dX4_luck_84 : decode cX4_luck 84 = .ok (.aload_n 0, 1) := by decide +kernel
theorem dX4_luck_85 : decode cX4_luck 85 = .ok (.iload 6, 2) := by decide +kernel
theorem dX4_luck_87 : decode cX4_luck 87 = .ok (.iload_n 1, 1) := by decide +kernel
theorem dX4_luck_88 : decode cX4_luck 88 = .ok (.invokevirtual 222, 3) := by decide +kernel
theorem dX4_luck_91 : decode cX4_luck 91 = .ok (.ladd, 1) := by decide +kernel
theorem dX4_luck_92 : decode cX4_luck 92 = .ok (.lstore 4, 2) := by decide +kernel
theorem dX4_luck_94 : decode cX4_luck 94 = .ok (.iinc 6 1, 3) := by decide +kernel
theorem dX4_luck_97 : decode cX4_luck 97 = .ok (.goto (-57), 3) := by decide +kernel
theorem dX4_luck_100 : decode cX4_luck 100 = .ok (.lload 4, 2) := by decide +kernel
theorem dX4_luck_102 : decode cX4_luck 102 = .ok (.bipush 10, 2) := by decide +kernel
theorem dX4_luck_104 : decode cX4_luck 104 = .ok (.aload_n 0, 1) := by decide +kernel
theorem dX4_luck_105 : decode cX4_luck 105 = .ok (.getfield 10, 3) := by decide +kernel
theorem dX4_luck_108 : decode cX4_luck 108 = .ok (.getfield 93, 3) := by decide +kernel
theorem dX4_luck_111 : decode cX4_luck 111 = .ok (.invokestatic 200, 3) := by decide +kernel
theorem dX4_luck_114 : decode cX4_luck 114 = .ok (.i2l, 1) := by decide +kernel
theorem dX4_luck_115 : decode cX4_luck 115 = .ok (.iload_n 3, 1) := by decide +kernel
theorem dX4_luck_116 : decode cX4_luck 116 = .ok (.invokestatic 226, 3) := by decide +kernel
theorem dX4_luck_119 : decode cX4_luck 119 = .ok (.lreturn, 1) := by decide +kernel
theorem dX4_see_0 : decode cX4_see 0 = .ok (.aload_n 0, 1) := by decide +kernel
theorem dX4_see_1 : decode cX4_see 1 = .ok (.getfield 10, 3) := by decide +kernel
theorem dX4_see_4 : decode cX4_see 4 = .ok (.iload_n 1, 1) := by decide +kernel
theorem dX4_see_5 : decode cX4_see 5 = .ok (.invokevirtual 99, 3) := by decide +kernel
theorem dX4_see_8 : decode cX4_see 8 = .ok (.ifCond .eq 34, 3) := by decide +kernel
theorem dX4_see_11 : decode cX4_see 11 = .ok (.iload_n 2, 1) := by decide +kernel
theorem dX4_see_12 : decode cX4_see 12 = .ok (.iconst 0, 1) := by decide +kernel
theorem dX4_see_13 : decode cX4_see 13 = .ok (.sipush 159, 3) := by decide +kernel
theorem dX4_see_16 : decode cX4_see 16 = .ok (.invokestatic 68, 3) := by decide +kernel
theorem dX4_see_19 : decode cX4_see 19 = .ok (.ifCond .eq 23, 3) := by decide +kernel
theorem dX4_see_22 : decode cX4_see 22 = .ok (.iload_n 3, 1) := by decide +kernel
theorem dX4_see_23 : decode cX4_see 23 = .ok (.bipush (-4), 2) := by decide +kernel
theorem dX4_see_25 : decode cX4_see 25 = .ok (.if_icmp .eq 13, 3) := by decide +kernel
theorem dX4_see_28 : decode cX4_see 28 = .ok (.iload_n 3, 1) := by decide +kernel
theorem dX4_see_29 : decode cX4_see 29 = .ok (.iconst 0, 1) := by decide +kernel
theorem dX4_see_30 : decode cX4_see 30 = .ok (.bipush 9, 2) := by decide +kernel
theorem dX4_see_32 : decode cX4_see 32 = .ok (.invokestatic 68, 3) := by decide +kernel
theorem dX4_see_35 : decode cX4_see 35 = .ok (.ifCond .eq 7, 3) := by decide +kernel
theorem dX4_see_38 : decode cX4_see 38 = .ok (.iconst 1, 1) := by decide +kernel
theorem dX4_see_39 : decode cX4_see 39 = .ok (.goto 4, 3) := by decide +kernel
theorem dX4_see_42 : decode cX4_see 42 = .ok (.iconst 0, 1) := by decide +kernel
theorem dX4_see_43 : decode cX4_see 43 = .ok (.istore 4, 2) := by decide +kernel
theorem dX4_see_45 : decode cX4_see 45 = .ok (.iload 4, 2) := by decide +kernel
theorem dX4_see_47 : decode cX4_see 47 = .ok (.ifCond .ne 5, 3) := by decide +kernel
theorem dX4_see_50 : decode cX4_see 50 = .ok (.iconst (-1), 1) := by decide +kernel
theorem dX4_see_51 : decode cX4_see 51 = .ok (.ireturn, 1) := by decide +kernel
theorem dX4_see_52 : decode cX4_see 52 = .ok (.aload_n 0, 1) := by decide +kernel
theorem dX4_see_53 : decode cX4_see 53 = .ok (.getfield 60, 3) := by decide +kernel
theorem dX4_see_56 : decode cX4_see 56 = .ok (.bipush 6, 2) := by decide +kernel
theorem dX4_see_58 : decode cX4_see 58 = .ok (.if_icmp .lt 6, 3) := by decide +kernel
theorem dX4_see_61 : decode cX4_see 61 = .ok (.bipush (-3), 2) := by decide +kernel
theorem dX4_see_63 : decode cX4_see 63 = .ok (.ireturn, 1) := by decide +kernel
theorem dX4_see_64 : decode cX4_see 64 = .ok (.aload_n 0, 1) := by decide +kernel
theorem dX4_see_65 : decode cX4_see 65 = .ok (.getfield 50, 3) := by decide +kernel
theorem dX4_see_68 : decode cX4_see 68 = .ok (.aload_n 0, 1) := by decide +kernel
theorem dX4_see_69 : decode cX4_see 69 = .ok (.getfield 60, 3) := by decide +kernel
theorem dX4_see_72 : decode cX4_see 72 = .ok (.iload_n 1, 1) := by decide +kernel
theorem dX4_see_73 : decode cX4_see 73 = .ok (.iastore, 1) := by decide +kernel
theorem dX4_see_74 : decode cX4_see 74 = .ok (.aload_n 0, 1) := by decide +kernel
theorem dX4_see_75 : decode cX4_see 75 = .ok (.getfield 54, 3) := by decide +kernel
theorem dX4_see_78 : decode cX4_see 78 = .ok (.aload_n 0, 1) := by decide +kernel
theorem dX4_see_79 : decode cX4_see 79 = .ok (.getfield 60, 3) := by decide +kernel
theorem dX4_see_82 : decode cX4_see 82 = .ok (.iload_n 2, 1) := by decide +kernel
theorem dX4_see_83 : decode cX4_see 83 = .ok (.iastore, 1) := by decide +kernel
theorem dX4_see_84 : decode cX4_see 84 = .ok (.aload_n 0, 1) := by decide +kernel
theorem dX4_see_85 : decode cX4_see 85 = .ok (.getfield 57, 3) := by decide +kernel
theorem dX4_see_88 : decode cX4_see 88 = .ok (.aload_n 0, 1) := by decide +kernel
theorem dX4_see_89 : decode cX4_see 89 = .ok (.getfield 60, 3) := by decide +kernel
theorem dX4_see_92 : decode cX4_see 92 = .ok (.iload_n 3, 1) := by decide +kernel
theorem dX4_see_93 : decode cX4_see 93 = .ok (.iastore, 1) := by decide +kernel
theorem dX4_see_94 : decode cX4_see 94 = .ok (.aload_n 0, 1) := by decide +kernel
theorem dX4_see_95 : decode cX4_see 95 = .ok (.dup, 1) := by decide +kernel
theorem dX4_see_96 : decode cX4_see 96 = .ok (.getfield 60, 3) := by decide +kernel
theorem dX4_see_99 : decode cX4_see 99 = .ok (.iconst 1, 1) := by decide +kernel
theorem dX4_see_100 : decode cX4_see 100 = .ok (.iadd, 1) := by decide +kernel
theorem dX4_see_101 : decode cX4_see 101 = .ok (.putfield 60, 3) := by decide +kernel
theorem dX4_see_104 : decode cX4_see 104 = .ok (.aload_n 0, 1) := by decide +kernel
theorem dX4_see_105 : decode cX4_see 105 = .ok (.getfield 60, 3) := by decide +kernel
theorem dX4_see_108 : decode cX4_see 108 = .ok (.ireturn, 1) := by decide +kernel
theorem dX4_forget_0 : decode cX4_forget 0 = .ok (.aload_n 0, 1) := by decide +kernel
theorem dX4_forget_1 : decode cX4_forget 1 = .ok (.getfield 60, 3) := by decide +kernel
theorem dX4_forget_4 : decode cX4_forget 4 = .ok (.istore_n 2, 1) := by decide +kernel
theorem dX4_forget_5 : decode cX4_forget 5 = .ok (.iload_n 1, 1) := by decide +kernel
theorem dX4_forget_6 : decode cX4_forget 6 = .ok (.iconst 0, 1) := by decide +kernel
theorem dX4_forget_7 : decode cX4_forget 7 = .ok (.iload_n 2, 1) := by decide +kernel
theorem dX4_forget_8 : decode cX4_forget 8 = .ok (.invokestatic 68, 3) := by decide +kernel
theorem dX4_forget_11 : decode cX4_forget 11 = .ok (.ifCond .ne 5, 3) := by decide +kernel
theorem dX4_forget_14 : decode cX4_forget 14 = .ok (.iconst (-1), 1) := by decide +kernel
theorem dX4_forget_15 : decode cX4_forget 15 = .ok (.ireturn, 1) := by decide +kernel
theorem dX4_forget_16 : decode cX4_forget 16 = .ok (.aload_n 0, 1) := by decide +kernel
theorem dX4_forget_17 : decode cX4_forget 17 = .ok (.iload_n 1, 1) := by decide +kernel
theorem dX4_forget_18 : decode cX4_forget 18 = .ok (.putfield 60, 3) := by decide +kernel
theorem dX4_forget_21 : decode cX4_forget 21 = .ok (.iload_n 2, 1) := by decide +kernel
theorem dX4_forget_22 : decode cX4_forget 22 = .ok (.ireturn, 1) := by decide +kernel
theorem dX4_fits_0 : decode cX4_fits 0 = .ok (.aload_n 0, 1) := by decide +kernel
theorem dX4_fits_1 : decode cX4_fits 1 = .ok (.getfield 10, 3) := by decide +kernel
theorem dX4_fits_4 : decode cX4_fits 4 = .ok (.iload_n 1, 1) := by decide +kernel
theorem dX4_fits_5 : decode cX4_fits 5 = .ok (.invokevirtual 99, 3) := by decide +kernel
theorem dX4_fits_8 : decode cX4_fits 8 = .ok (.ifCond .eq 11, 3) := by decide +kernel
theorem dX4_fits_11 : decode cX4_fits 11 = .ok (.aload_n 0, 1) := by decide +kernel
theorem dX4_fits_12 : decode cX4_fits 12 = .ok (.iload_n 1, 1) := by decide +kernel
theorem dX4_fits_13 : decode cX4_fits 13 = .ok (.invokevirtual 230, 3) := by decide +kernel
theorem dX4_fits_16 : decode cX4_fits 16 = .ok (.goto 4, 3) := by decide +kernel
theorem dX4_fits_19 : decode cX4_fits 19 = .ok (.iconst (-1), 1) := by decide +kernel
theorem dX4_fits_20 : decode cX4_fits 20 = .ok (.ireturn, 1) := by decide +kernel
theorem dX4_listen_0 : decode cX4_listen 0 = .ok (.aload_n 0, 1) := by decide +kernel
theorem dX4_listen_1 : decode cX4_listen 1 = .ok (.getfield 10, 3) := by decide +kernel
theorem dX4_listen_4 : decode cX4_listen 4 = .ok (.iload_n 1, 1) := by decide +kernel
theorem dX4_listen_5 : decode cX4_listen 5 = .ok (.invokevirtual 99, 3) := by decide +kernel
theorem dX4_listen_8 : decode cX4_listen 8 = .ok (.ifCond .eq 12, 3) := by decide +kernel
theorem dX4_listen_11 : decode cX4_listen 11 = .ok (.iload_n 2, 1) := by decide +kernel
theorem dX4_listen_12 : decode cX4_listen 12 = .ok (.iconst 0, 1) := by decide +kernel
theorem dX4_listen_13 : decode cX4_listen 13 = .ok (.iconst 1, 1) := by decide +kernel
theorem dX4_listen_14 : decode cX4_listen 14 = .ok (.invokestatic 68, 3) := by decide +kernel
theorem dX4_listen_17 : decode cX4_listen 17 = .ok (.ifCond .ne 5, 3) := by decide +kernel
theorem dX4_listen_20 : decode cX4_listen 20 = .ok (.iconst (-1), 1) := by decide +kernel
theorem dX4_listen_21 : decode cX4_listen 21 = .ok (.ireturn, 1) := by decide +kernel
theorem dX4_listen_22 : decode cX4_listen 22 = .ok (.aload_n 0, 1) := by decide +kernel
theorem dX4_listen_23 : decode cX4_listen 23 = .ok (.iload_n 1, 1) := by decide +kernel
theorem dX4_listen_24 : decode cX4_listen 24 = .ok (.invokevirtual 230, 3) := by decide +kernel
theorem dX4_listen_27 : decode cX4_listen 27 = .ok (.istore_n 3, 1) := by decide +kernel
theorem dX4_listen_28 : decode cX4_listen 28 = .ok (.iload_n 3, 1) := by decide +kernel
theorem dX4_listen_29 : decode cX4_listen 29 = .ok (.invokestatic 211, 3) := by decide +kernel
theorem dX4_listen_32 : decode cX4_listen 32 = .ok (.istore 4, 2) := by decide +kernel
theorem dX4_listen_34 : decode cX4_listen 34 = .ok (.iconst (-1), 1) := by decide +kernel
theorem dX4_listen_35 : decode cX4_listen 35 = .ok (.istore 5, 2) := by decide +kernel
theorem dX4_listen_37 : decode cX4_listen 37 = .ok (.iconst 0, 1) := by decide +kernel
theorem dX4_listen_38 : decode cX4_listen 38 = .ok (.istore 6, 2) := by decide +kernel
theorem dX4_listen_40 : decode cX4_listen 40 = .ok (.iload 6, 2) := by decide +kernel
theorem dX4_listen_42 : decode cX4_listen 42 = .ok (.sipush 160, 3) := by decide +kernel
theorem dX4_listen_45 : decode cX4_listen 45 = .ok (.if_icmp .ge 34, 3) := by decide +kernel
theorem dX4_listen_48 : decode cX4_listen 48 = .ok (.aload_n 0, 1) := by decide +kernel
theorem dX4_listen_49 : decode cX4_listen 49 = .ok (.iload_n 1, 1) := by decide +kernel
theorem dX4_listen_50 : decode cX4_listen 50 = .ok (.iload_n 3, 1) := by decide +kernel
theorem dX4_listen_51 : decode cX4_listen 51 = .ok (.iload 6, 2) := by decide +kernel
theorem dX4_listen_53 : decode cX4_listen 53 = .ok (.invokevirtual 233, 3) := by decide +kernel
theorem dX4_listen_56 : decode cX4_listen 56 = .ok (.istore 7, 2) := by decide +kernel
theorem dX4_listen_58 : decode cX4_listen 58 = .ok (.iload 7, 2) := by decide +kernel
theorem dX4_listen_60 : decode cX4_listen 60 = .ok (.iload 4, 2) := by decide +kernel
theorem dX4_listen_62 : decode cX4_listen 62 = .ok (.if_icmp .ge 11, 3) := by decide +kernel
theorem dX4_listen_65 : decode cX4_listen 65 = .ok (.iload 7, 2) := by decide +kernel
theorem dX4_listen_67 : decode cX4_listen 67 = .ok (.istore 4, 2) := by decide +kernel
theorem dX4_listen_69 : decode cX4_listen 69 = .ok (.iload 6, 2) := by decide +kernel
theorem dX4_listen_71 : decode cX4_listen 71 = .ok (.istore 5, 2) := by decide +kernel
theorem dX4_listen_73 : decode cX4_listen 73 = .ok (.iinc 6 1, 3) := by decide +kernel
theorem dX4_listen_76 : decode cX4_listen 76 = .ok (.goto (-36), 3) := by decide +kernel
theorem dX4_listen_79 : decode cX4_listen 79 = .ok (.iload 5, 2) := by decide +kernel
theorem dX4_listen_81 : decode cX4_listen 81 = .ok (.ifCond .ge 6, 3) := by decide +kernel
theorem dX4_listen_84 : decode cX4_listen 84 = .ok (.bipush (-4), 2) := by decide +kernel
theorem dX4_listen_86 : decode cX4_listen 86 = .ok (.ireturn, 1) := by decide +kernel
theorem dX4_listen_87 : decode cX4_listen 87 = .ok (.iload_n 2, 1) := by decide +kernel
theorem dX4_listen_88 : decode cX4_listen 88 = .ok (.ifCond .ne 8, 3) := by decide +kernel
theorem dX4_listen_91 : decode cX4_listen 91 = .ok (.iload 5, 2) := by decide +kernel
theorem dX4_listen_93 : decode cX4_listen 93 = .ok (.goto 5, 3) := by decide +kernel
theorem dX4_listen_96 : decode cX4_listen 96 = .ok (.iload 4, 2) := by decide +kernel
theorem dX4_listen_98 : decode cX4_listen 98 = .ok (.ireturn, 1) := by decide +kernel
theorem dX4_drift_0 : decode cX4_drift 0 = .ok (.iload_n 2, 1) := by decide +kernel
theorem dX4_drift_1 : decode cX4_drift 1 = .ok (.iconst 1, 1) := by decide +kernel
theorem dX4_drift_2 : decode cX4_drift 2 = .ok (.bipush 20, 2) := by decide +kernel
theorem dX4_drift_4 : decode cX4_drift 4 = .ok (.invokestatic 68, 3) := by decide +kernel
theorem dX4_drift_7 : decode cX4_drift 7 = .ok (.ifCond .eq 12, 3) := by decide +kernel
theorem dX4_drift_10 : decode cX4_drift 10 = .ok (.iload_n 3, 1) := by decide +kernel
theorem dX4_drift_11 : decode cX4_drift 11 = .ok (.iconst 0, 1) := by decide +kernel
theorem dX4_drift_12 : decode cX4_drift 12 = .ok (.iconst 1, 1) := by decide +kernel
theorem dX4_drift_13 : decode cX4_drift 13 = .ok (.invokestatic 68, 3) := by decide +kernel
theorem dX4_drift_16 : decode cX4_drift 16 = .ok (.ifCond .ne 5, 3) := by decide +kernel
theorem dX4_drift_19 : decode cX4_drift 19 = .ok (.iconst (-1), 1) := by decide +kernel
theorem dX4_drift_20 : decode cX4_drift 20 = .ok (.ireturn, 1) := by decide +kernel
theorem dX4_drift_21 : decode cX4_drift 21 = .ok (.aload_n 0, 1) := by decide +kernel
theorem dX4_drift_22 : decode cX4_drift 22 = .ok (.getfield 10, 3) := by decide +kernel
theorem dX4_drift_25 : decode cX4_drift 25 = .ok (.getfield 90, 3) := by decide +kernel
theorem dX4_drift_28 : decode cX4_drift 28 = .ok (.iconst 1, 1) := by decide +kernel
theorem dX4_drift_29 : decode cX4_drift 29 = .ok (.if_icmp .ge 6, 3) := by decide +kernel
theorem dX4_drift_32 : decode cX4_drift 32 = .ok (.bipush (-2), 2) := by decide +kernel
theorem dX4_drift_34 : decode cX4_drift 34 = .ok (.ireturn, 1) := by decide +kernel
theorem dX4_drift_35 : decode cX4_drift 35 = .ok (.aload_n 0, 1) := by decide +kernel
theorem dX4_drift_36 : decode cX4_drift 36 = .ok (.getfield 19, 3) := by decide +kernel
theorem dX4_drift_39 : decode cX4_drift 39 = .ok (.aload_n 0, 1) := by decide +kernel
theorem dX4_drift_40 : decode cX4_drift 40 = .ok (.getfield 10, 3) := by decide +kernel
theorem dX4_drift_43 : decode cX4_drift 43 = .ok (.invokevirtual 83, 3) := by decide +kernel
theorem dX4_drift_46 : decode cX4_drift 46 = .ok (.iload_n 1, 1) := by decide +kernel
theorem dX4_drift_47 : decode cX4_drift 47 = .ok (.istore 4, 2) := by decide +kernel
theorem dX4_drift_49 : decode cX4_drift 49 = .ok (.iconst 0, 1) := by decide +kernel
theorem dX4_drift_50 : decode cX4_drift 50 = .ok (.istore 5, 2) := by decide +kernel
theorem dX4_drift_52 : decode cX4_drift 52 = .ok (.iconst 0, 1) := by decide +kernel
theorem dX4_drift_53 : decode cX4_drift 53 = .ok (.istore 6, 2) := by decide +kernel
theorem dX4_drift_55 : decode cX4_drift 55 = .ok (.iconst 0, 1) := by decide +kernel
theorem dX4_drift_56 : decode cX4_drift 56 = .ok (.istore 7, 2) := by decide +kernel
theorem dX4_drift_58 : decode cX4_drift 58 = .ok (.iload 7, 2) := by decide +kernel
theorem dX4_drift_60 : decode cX4_drift 60 = .ok (.iload_n 2, 1) := by decide +kernel
theorem dX4_drift_61 : decode cX4_drift 61 = .ok (.if_icmp .ge 98, 3) := by decide +kernel
theorem dX4_drift_64 : decode cX4_drift 64 = .ok (.iload 4, 2) := by decide +kernel
theorem dX4_drift_66 : decode cX4_drift 66 = .ok (.invokestatic 236, 3) := by decide +kernel
theorem dX4_drift_69 : decode cX4_drift 69 = .ok (.istore 4, 2) := by decide +kernel
theorem dX4_drift_71 : decode cX4_drift 71 = .ok (.iload 4, 2) := by decide +kernel
theorem dX4_drift_73 : decode cX4_drift 73 = .ok (.invokestatic 239, 3) := by decide +kernel
theorem dX4_drift_76 : decode cX4_drift 76 = .ok (.aload_n 0, 1) := by decide +kernel
theorem dX4_drift_77 : decode cX4_drift 77 = .ok (.getfield 19, 3) := by decide +kernel
theorem dX4_drift_80 : decode cX4_drift 80 = .ok (.getfield 90, 3) := by decide +kernel
theorem dX4_drift_83 : decode cX4_drift 83 = .ok (.irem, 1) := by decide +kernel
theorem dX4_drift_84 : decode cX4_drift 84 = .ok (.istore 8, 2) := by decide +kernel
theorem dX4_drift_86 : decode cX4_drift 86 = .ok (.iload 4, 2) := by decide +kernel
theorem dX4_drift_88 : decode cX4_drift 88 = .ok (.invokestatic 236, 3) := by decide +kernel
theorem dX4_drift_91 : decode cX4_drift 91 = .ok (.istore 4, 2) := by decide +kernel
theorem dX4_drift_93 : decode cX4_drift 93 = .ok (.aload_n 0, 1) := by decide +kernel
theorem dX4_drift_94 : decode cX4_drift 94 = .ok (.getfield 19, 3) := by decide +kernel
theorem dX4_drift_97 : decode cX4_drift 97 = .ok (.iload 8, 2) := by decide +kernel
theorem dX4_drift_99 : decode cX4_drift 99 = .ok (.iload 4, 2) := by decide +kernel
theorem dX4_drift_101 : decode cX4_drift 101 = .ok (.invokestatic 239, 3) := by decide +kernel
theorem dX4_drift_104 : decode cX4_drift 104 = .ok (.invokevirtual 242, 3) := by decide +kernel
theorem dX4_drift_107 : decode cX4_drift 107 = .ok (.aload_n 0, 1) := by decide +kernel
theorem dX4_drift_108 : decode cX4_drift 108 = .ok (.getfield 40, 3) := by decide +kernel
theorem dX4_drift_111 : decode cX4_drift 111 = .ok (.aload_n 0, 1) := by decide +kernel
theorem dX4_drift_112 : decode cX4_drift 112 = .ok (.getfield 19, 3) := by decide +kernel
theorem dX4_drift_115 : decode cX4_drift 115 = .ok (.iconst 0, 1) := by decide +kernel
theorem dX4_drift_116 : decode cX4_drift 116 = .ok (.invokevirtual 164, 3) := by decide +kernel
theorem dX4_drift_119 : decode cX4_drift 119 = .ok (.iload 5, 2) := by decide +kernel
theorem dX4_drift_121 : decode cX4_drift 121 = .ok (.aload_n 0, 1) := by decide +kernel
theorem dX4_drift_122 : decode cX4_drift 122 = .ok (.getfield 40, 3) := by decide +kernel
theorem dX4_drift_125 : decode cX4_drift 125 = .ok (.aload_n 0, 1) := by decide +kernel
theorem dX4_drift_126 : decode cX4_drift 126 = .ok (.getfield 19, 3) := by decide +kernel
theorem dX4_drift_129 : decode cX4_drift 129 = .ok (.invokevirtual 180, 3) := by decide +kernel
theorem dX4_drift_132 : decode cX4_drift 132 = .ok (.invokestatic 246, 3) := by decide +kernel
theorem dX4_drift_135 : decode cX4_drift 135 = .ok (.istore 5, 2) := by decide +kernel
theorem dX4_drift_137 : decode cX4_drift 137 = .ok (.iload 6, 2) := by decide +kernel
theorem dX4_drift_139 : decode cX4_drift 139 = .ok (.aload_n 0, 1) := by decide +kernel
theorem dX4_drift_140 : decode cX4_drift 140 = .ok (.getfield 40, 3) := by decide +kernel
theorem dX4_drift_143 : decode cX4_drift 143 = .ok (.aload_n 0, 1) := by decide +kernel
theorem dX4_drift_144 : decode cX4_drift 144 = .ok (.getfield 19, 3) := by decide +kernel
theorem dX4_drift_147 : decode cX4_drift 147 = .ok (.invokevirtual 183, 3) := by decide +kernel
theorem dX4_drift_150 : decode cX4_drift 150 = .ok (.iadd, 1) := by decide +kernel
theorem dX4_drift_151 : decode cX4_drift 151 = .ok (.istore 6, 2) := by decide +kernel
theorem dX4_drift_153 : decode cX4_drift 153 = .ok (.iinc 7 1, 3) := by decide +kernel
theorem dX4_drift_156 : decode cX4_drift 156 = .ok (.goto (-98), 3) := by decide +kernel
theorem dX4_drift_159 : decode cX4_drift 159 = .ok (.iload_n 3, 1) := by decide +kernel
theorem dX4_drift_160 : decode cX4_drift 160 = .ok (.ifCond .ne 8, 3) := by decide +kernel
theorem dX4_drift_163 : decode cX4_drift 163 = .ok (.iload 5, 2) := by decide +kernel
theorem dX4_drift_165 : decode cX4_drift 165 = .ok (.goto 5, 3) := by decide +kernel
theorem dX4_drift_168 : decode cX4_drift 168 = .ok (.iload 6, 2) := by decide +kernel
theorem dX4_drift_170 : decode cX4_drift 170 = .ok (.ireturn, 1) := by decide +kernel
theorem dX4_keep_0 : decode cX4_keep 0 = .ok (.iload_n 1, 1) := by decide +kernel
theorem dX4_keep_1 : decode cX4_keep 1 = .ok (.iconst 0, 1) := by decide +kernel
theorem dX4_keep_2 : decode cX4_keep 2 = .ok (.iconst 1, 1) := by decide +kernel
theorem dX4_keep_3 : decode cX4_keep 3 = .ok (.invokestatic 68, 3) := by decide +kernel
theorem dX4_keep_6 : decode cX4_keep 6 = .ok (.ifCond .ne 5, 3) := by decide +kernel
theorem dX4_keep_9 : decode cX4_keep 9 = .ok (.iconst (-1), 1) := by decide +kernel
theorem dX4_keep_10 : decode cX4_keep 10 = .ok (.ireturn, 1) := by decide +kernel
theorem dX4_keep_11 : decode cX4_keep 11 = .ok (.aload_n 0, 1) := by decide +kernel
theorem dX4_keep_12 : decode cX4_keep 12 = .ok (.getfield 26, 3) := by decide +kernel
theorem dX4_keep_15 : decode cX4_keep 15 = .ok (.iload_n 1, 1) := by decide +kernel
theorem dX4_keep_16 : decode cX4_keep 16 = .ok (.baload, 1) := by decide +kernel
theorem dX4_keep_17 : decode cX4_keep 17 = .ok (.ifCond .eq 7, 3) := by decide +kernel
theorem dX4_keep_20 : decode cX4_keep 20 = .ok (.iconst 1, 1) := by decide +kernel
theorem dX4_keep_21 : decode cX4_keep 21 = .ok (.goto 4, 3) := by decide +kernel
theorem dX4_keep_24 : decode cX4_keep 24 = .ok (.iconst 0, 1) := by decide +kernel
theorem dX4_keep_25 : decode cX4_keep 25 = .ok (.istore_n 2, 1) := by decide +kernel
theorem dX4_keep_26 : decode cX4_keep 26 = .ok (.aload_n 0, 1) := by decide +kernel
theorem dX4_keep_27 : decode cX4_keep 27 = .ok (.getfield 22, 3) := by decide +kernel
theorem dX4_keep_30 : decode cX4_keep 30 = .ok (.iload_n 1, 1) := by decide +kernel
theorem dX4_keep_31 : decode cX4_keep 31 = .ok (.aaload, 1) := by decide +kernel
theorem dX4_keep_32 : decode cX4_keep 32 = .ok (.aload_n 0, 1) := by decide +kernel
theorem dX4_keep_33 : decode cX4_keep 33 = .ok (.getfield 10, 3) := by decide +kernel
theorem dX4_keep_36 : decode cX4_keep 36 = .ok (.invokevirtual 83, 3) := by decide +kernel
theorem dX4_keep_39 : decode cX4_keep 39 = .ok (.aload_n 0, 1) := by decide +kernel
theorem dX4_keep_40 : decode cX4_keep 40 = .ok (.getfield 26, 3) := by decide +kernel
theorem dX4_keep_43 : decode cX4_keep 43 = .ok (.iload_n 1, 1) := by decide +kernel
theorem dX4_keep_44 : decode cX4_keep 44 = .ok (.iconst 1, 1) := by decide +kernel
theorem dX4_keep_45 : decode cX4_keep 45 = .ok (.bastore, 1) := by decide +kernel
theorem dX4_keep_46 : decode cX4_keep 46 = .ok (.iload_n 2, 1) := by decide +kernel
theorem dX4_keep_47 : decode cX4_keep 47 = .ok (.ireturn, 1) := by decide +kernel
theorem dX4_back_0 : decode cX4_back 0 = .ok (.iload_n 1, 1) := by decide +kernel
theorem dX4_back_1 : decode cX4_back 1 = .ok (.iconst 0, 1) := by decide +kernel
theorem dX4_back_2 : decode cX4_back 2 = .ok (.iconst 1, 1) := by decide +kernel
theorem dX4_back_3 : decode cX4_back 3 = .ok (.invokestatic 68, 3) := by decide +kernel
theorem dX4_back_6 : decode cX4_back 6 = .ok (.ifCond .ne 5, 3) := by decide +kernel
theorem dX4_back_9 : decode cX4_back 9 = .ok (.iconst (-1), 1) := by decide +kernel
theorem dX4_back_10 : decode cX4_back 10 = .ok (.ireturn, 1) := by decide +kernel
theorem dX4_back_11 : decode cX4_back 11 = .ok (.aload_n 0, 1) := by decide +kernel
theorem dX4_back_12 : decode cX4_back 12 = .ok (.getfield 26, 3) := by decide +kernel
theorem dX4_back_15 : decode cX4_back 15 = .ok (.iload_n 1, 1) := by decide +kernel
theorem dX4_back_16 : decode cX4_back 16 = .ok (.baload, 1) := by decide +kernel
theorem dX4_back_17 : decode cX4_back 17 = .ok (.ifCond .ne 6, 3) := by decide +kernel
theorem dX4_back_20 : decode cX4_back 20 = .ok (.bipush (-2), 2) := by decide +kernel
theorem dX4_back_22 : decode cX4_back 22 = .ok (.ireturn, 1) := by decide +kernel
theorem dX4_back_23 : decode cX4_back 23 = .ok (.aload_n 0, 1) := by decide +kernel
theorem dX4_back_24 : decode cX4_back 24 = .ok (.getfield 10, 3) := by decide +kernel
theorem dX4_back_27 : decode cX4_back 27 = .ok (.aload_n 0, 1) := by decide +kernel
theorem dX4_back_28 : decode cX4_back 28 = .ok (.getfield 22, 3) := by decide +kernel
theorem dX4_back_31 : decode cX4_back 31 = .ok (.iload_n 1, 1) := by decide +kernel
theorem dX4_back_32 : decode cX4_back 32 = .ok (.aaload, 1) := by decide +kernel
theorem dX4_back_33 : decode cX4_back 33 = .ok (.invokevirtual 83, 3) := by decide +kernel
theorem dX4_back_36 : decode cX4_back 36 = .ok (.aload_n 0, 1) := by decide +kernel
theorem dX4_back_37 : decode cX4_back 37 = .ok (.getfield 10, 3) := by decide +kernel
theorem dX4_back_40 : decode cX4_back 40 = .ok (.invokevirtual 251, 3) := by decide +kernel
theorem dX4_back_43 : decode cX4_back 43 = .ok (.ireturn, 1) := by decide +kernel
theorem dX4_sheet_0 : decode cX4_sheet 0 = .ok (.iload_n 1, 1) := by decide +kernel
theorem dX4_sheet_1 : decode cX4_sheet 1 = .ok (.iconst 0, 1) := by decide +kernel
theorem dX4_sheet_2 : decode cX4_sheet 2 = .ok (.iconst 3, 1) := by decide +kernel
theorem dX4_sheet_3 : decode cX4_sheet 3 = .ok (.invokestatic 68, 3) := by decide +kernel
theorem dX4_sheet_6 : decode cX4_sheet 6 = .ok (.ifCond .eq 18, 3) := by decide +kernel
theorem dX4_sheet_9 : decode cX4_sheet 9 = .ok (.iload_n 2, 1) := by decide +kernel
theorem dX4_sheet_10 : decode cX4_sheet 10 = .ok (.iconst 0, 1) := by decide +kernel
theorem dX4_sheet_11 : decode cX4_sheet 11 = .ok (.iconst 2, 1) := by decide +kernel
theorem dX4_sheet_12 : decode cX4_sheet 12 = .ok (.invokestatic 68, 3) := by decide +kernel
theorem dX4_sheet_15 : decode cX4_sheet 15 = .ok (.ifCond .eq 9, 3) := by decide +kernel
theorem dX4_sheet_18 : decode cX4_sheet 18 = .ok (.iload_n 3, 1) := by decide +kernel
theorem dX4_sheet_19 : decode cX4_sheet 19 = .ok (.bipush 40, 2) := by decide +kernel
theorem dX4_sheet_21 : decode cX4_sheet 21 = .ok (.if_icmp .le 5, 3) := by decide +kernel
theorem dX4_sheet_24 : decode cX4_sheet 24 = .ok (.iconst (-1), 1) := by decide +kernel
theorem dX4_sheet_25 : decode cX4_sheet 25 = .ok (.ireturn, 1) := by decide +kernel
theorem dX4_sheet_26 : decode cX4_sheet 26 = .ok (.iload_n 3, 1) := by decide +kernel
theorem dX4_sheet_27 : decode cX4_sheet 27 = .ok (.ifCond .ge 6, 3) := by decide +kernel
theorem dX4_sheet_30 : decode cX4_sheet 30 = .ok (.bipush (-14), 2) := by decide +kernel
theorem dX4_sheet_32 : decode cX4_sheet 32 = .ok (.ireturn, 1) := by decide +kernel
theorem dX4_sheet_33 : decode cX4_sheet 33 = .ok (.aload_n 0, 1) := by decide +kernel
theorem dX4_sheet_34 : decode cX4_sheet 34 = .ok (.getfield 46, 3) := by decide +kernel
theorem dX4_sheet_37 : decode cX4_sheet 37 = .ok (.iload_n 1, 1) := by decide +kernel
theorem dX4_sheet_38 : decode cX4_sheet 38 = .ok (.aaload, 1) := by decide +kernel
theorem dX4_sheet_39 : decode cX4_sheet 39 = .ok (.iload_n 2, 1) := by decide +kernel
theorem dX4_sheet_40 : decode cX4_sheet 40 = .ok (.iload_n 3, 1) := by decide +kernel
theorem dX4_sheet_41 : decode cX4_sheet 41 = .ok (.invokevirtual 255, 3) := by decide +kernel
theorem dX4_sheet_44 : decode cX4_sheet 44 = .ok (.iconst 1, 1) := by decide +kernel
theorem dX4_sheet_45 : decode cX4_sheet 45 = .ok (.ireturn, 1) := by decide +kernel
theorem dX4_lay_0 : decode cX4_lay 0 = .ok (.iload_n 1, 1) := by decide +kernel
theorem dX4_lay_1 : decode cX4_lay 1 = .ok (.iconst 0, 1) := by decide +kernel
theorem dX4_lay_2 : decode cX4_lay 2 = .ok (.iconst 3, 1) := by decide +kernel
theorem dX4_lay_3 : decode cX4_lay 3 = .ok (.invokestatic 68, 3) := by decide +kernel
theorem dX4_lay_6 : decode cX4_lay 6 = .ok (.ifCond .ne 5, 3) := by decide +kernel
theorem dX4_lay_9 : decode cX4_lay 9 = .ok (.iconst (-1), 1) := by decide +kernel
theorem dX4_lay_10 : decode cX4_lay 10 = .ok (.ireturn, 1) := by decide +kernel
theorem dX4_lay_11 : decode cX4_lay 11 = .ok (.aload_n 0, 1) := by decide +kernel
theorem dX4_lay_12 : decode cX4_lay 12 = .ok (.getfield 46, 3) := by decide +kernel
theorem dX4_lay_15 : decode cX4_lay 15 = .ok (.iload_n 1, 1) := by decide +kernel
theorem dX4_lay_16 : decode cX4_lay 16 = .ok (.aaload, 1) := by decide +kernel
theorem dX4_lay_17 : decode cX4_lay 17 = .ok (.astore 4, 2) := by decide +kernel
theorem dX4_lay_19 : decode cX4_lay 19 = .ok (.aload 4, 2) := by decide +kernel
theorem dX4_lay_21 : decode cX4_lay 21 = .ok (.getfield 258, 3) := by decide +kernel
theorem dX4_lay_24 : decode cX4_lay 24 = .ok (.ifCond .ne 6, 3) := by decide +kernel
theorem dX4_lay_27 : decode cX4_lay 27 = .ok (.bipush (-11), 2) := by decide +kernel
theorem dX4_lay_29 : decode cX4_lay 29 = .ok (.ireturn, 1) := by decide +kernel
theorem dX4_lay_30 : decode cX4_lay 30 = .ok (.aload 4, 2) := by decide +kernel
theorem dX4_lay_32 : decode cX4_lay 32 = .ok (.iload_n 2, 1) := by decide +kernel
theorem dX4_lay_33 : decode cX4_lay 33 = .ok (.i2l, 1) := by decide +kernel
theorem dX4_lay_34 : decode cX4_lay 34 = .ok (.invokevirtual 262, 3) := by decide +kernel
theorem dX4_lay_37 : decode cX4_lay 37 = .ok (.ifCond .ne 6, 3) := by decide +kernel
theorem dX4_lay_40 : decode cX4_lay 40 = .ok (.bipush (-12), 2) := by decide +kernel
theorem dX4_lay_42 : decode cX4_lay 42 = .ok (.ireturn, 1) := by decide +kernel
theorem dX4_lay_43 : decode cX4_lay 43 = .ok (.aload 4, 2) := by decide +kernel
theorem dX4_lay_45 : decode cX4_lay 45 = .ok (.getfield 266, 3) := by decide +kernel
theorem dX4_lay_48 : decode cX4_lay 48 = .ok (.iload_n 2, 1) := by decide +kernel
theorem dX4_lay_49 : decode cX4_lay 49 = .ok (.aload 4, 2) := by decide +kernel
theorem dX4_lay_51 : decode cX4_lay 51 = .ok (.getfield 269, 3) := by decide +kernel
theorem dX4_lay_54 : decode cX4_lay 54 = .ok (.iload_n 3, 1) := by decide +kernel
theorem dX4_lay_55 : decode cX4_lay 55 = .ok (.invokestatic 272, 3) := by decide +kernel
theorem dX4_lay_58 : decode cX4_lay 58 = .ok (.iastore, 1) := by decide +kernel
theorem dX4_lay_59 : decode cX4_lay 59 = .ok (.iconst 1, 1) := by decide +kernel
theorem dX4_lay_60 : decode cX4_lay 60 = .ok (.ireturn, 1) := by decide +kernel
theorem dX4_read_0 : decode cX4_read 0 = .ok (.iload_n 1, 1) := by decide +kernel
theorem dX4_read_1 : decode cX4_read 1 = .ok (.iconst 0, 1) := by decide +kernel
theorem dX4_read_2 : decode cX4_read 2 = .ok (.iconst 3, 1) := by decide +kernel
theorem dX4_read_3 : decode cX4_read 3 = .ok (.invokestatic 68, 3) := by decide +kernel
theorem dX4_read_6 : decode cX4_read 6 = .ok (.ifCond .eq 23, 3) := by decide +kernel
theorem dX4_read_9 : decode cX4_read 9 = .ok (.iload_n 2, 1) := by decide +kernel
theorem dX4_read_10 : decode cX4_read 10 = .ok (.iconst 0, 1) := by decide +kernel
theorem dX4_read_11 : decode cX4_read 11 = .ok (.iconst 2, 1) := by decide +kernel
theorem dX4_read_12 : decode cX4_read 12 = .ok (.invokestatic 68, 3) := by decide +kernel
theorem dX4_read_15 : decode cX4_read 15 = .ok (.ifCond .eq 14, 3) := by decide +kernel
theorem dX4_read_18 : decode cX4_read 18 = .ok (.iload 4, 2) := by decide +kernel
theorem dX4_read_20 : decode cX4_read 20 = .ok (.iconst 0, 1) := by decide +kernel
theorem dX4_read_21 : decode cX4_read 21 = .ok (.bipush 20, 2) := by decide +kernel
theorem dX4_read_23 : decode cX4_read 23 = .ok (.invokestatic 68, 3) := by decide +kernel
theorem dX4_read_26 : decode cX4_read 26 = .ok (.ifCond .ne 5, 3) := by decide +kernel
theorem dX4_read_29 : decode cX4_read 29 = .ok (.iconst (-1), 1) := by decide +kernel
theorem dX4_read_30 : decode cX4_read 30 = .ok (.ireturn, 1) := by decide +kernel
theorem dX4_read_31 : decode cX4_read 31 = .ok (.aload_n 0, 1) := by decide +kernel
theorem dX4_read_32 : decode cX4_read 32 = .ok (.getfield 46, 3) := by decide +kernel
theorem dX4_read_35 : decode cX4_read 35 = .ok (.iload_n 1, 1) := by decide +kernel
theorem dX4_read_36 : decode cX4_read 36 = .ok (.aaload, 1) := by decide +kernel
theorem dX4_read_37 : decode cX4_read 37 = .ok (.astore 5, 2) := by decide +kernel
theorem dX4_read_39 : decode cX4_read 39 = .ok (.iload 4, 2) := by decide +kernel
theorem dX4_read_41 : decode cX4_read 41 = .ok (.ifCond .ne 7, 3) := by decide +kernel
theorem dX4_read_44 : decode cX4_read 44 = .ok (.iconst 0, 1) := by decide +kernel
theorem dX4_read_45 : decode cX4_read 45 = .ok (.goto 9, 3) := by decide +kernel
theorem dX4_read_48 : decode cX4_read 48 = .ok (.aload 5, 2) := by decide +kernel
theorem dX4_read_50 : decode cX4_read 50 = .ok (.iload_n 2, 1) := by decide +kernel
theorem dX4_read_51 : decode cX4_read 51 = .ok (.invokevirtual 275, 3) := by decide +kernel
theorem dX4_read_54 : decode cX4_read 54 = .ok (.istore 6, 2) := by decide +kernel
theorem dX4_read_56 : decode cX4_read 56 = .ok (.iconst 0, 1) := by decide +kernel
theorem dX4_read_57 : decode cX4_read 57 = .ok (.istore 7, 2) := by decide +kernel
theorem dX4_read_59 : decode cX4_read 59 = .ok (.aload_n 0, 1) := by decide +kernel
theorem dX4_read_60 : decode cX4_read 60 = .ok (.getfield 19, 3) := by decide +kernel
theorem dX4_read_63 : decode cX4_read 63 = .ok (.aload_n 0, 1) := by decide +kernel
theorem dX4_read_64 : decode cX4_read 64 = .ok (.getfield 10, 3) := by decide +kernel
theorem dX4_read_67 : decode cX4_read 67 = .ok (.invokevirtual 83, 3) := by decide +kernel
theorem dX4_read_70 : decode cX4_read 70 = .ok (.iconst 0, 1) := by decide +kernel
theorem dX4_read_71 : decode cX4_read 71 = .ok (.istore 8, 2) := by decide +kernel
theorem dX4_read_73 : decode cX4_read 73 = .ok (.iload 8, 2) := by decide +kernel
theorem dX4_read_75 : decode cX4_read 75 = .ok (.iload 4, 2) := by decide +kernel
theorem dX4_read_77 : decode cX4_read 77 = .ok (.if_icmp .ge 91, 3) := by decide +kernel
theorem dX4_read_80 : decode cX4_read 80 = .ok (.iload 6, 2) := by decide +kernel
theorem dX4_read_82 : decode cX4_read 82 = .ok (.ifCond .ne 86, 3) := by decide +kernel
theorem dX4_read_85 : decode cX4_read 85 = .ok (.iload_n 3, 1) := by decide +kernel
theorem dX4_read_86 : decode cX4_read 86 = .ok (.i2l, 1) := by decide +kernel
theorem dX4_read_87 : decode cX4_read 87 = .ok (.iconst 2, 1) := by decide +kernel
theorem dX4_read_88 : decode cX4_read 88 = .ok (.iload 8, 2) := by decide +kernel
theorem dX4_read_90 : decode cX4_read 90 = .ok (.imul, 1) := by decide +kernel
theorem dX4_read_91 : decode cX4_read 91 = .ok (.i2l, 1) := by decide +kernel
theorem dX4_read_92 : decode cX4_read 92 = .ok (.ladd, 1) := by decide +kernel
theorem dX4_read_93 : decode cX4_read 93 = .ok (.lstore 9, 2) := by decide +kernel
theorem dX4_read_95 : decode cX4_read 95 = .ok (.aload 5, 2) := by decide +kernel
theorem dX4_read_97 : decode cX4_read 97 = .ok (.lload 9, 2) := by decide +kernel
theorem dX4_read_99 : decode cX4_read 99 = .ok (.invokevirtual 262, 3) := by decide +kernel
theorem dX4_read_102 : decode cX4_read 102 = .ok (.ifCond .eq 15, 3) := by decide +kernel
theorem dX4_read_105 : decode cX4_read 105 = .ok (.aload 5, 2) := by decide +kernel
theorem dX4_read_107 : decode cX4_read 107 = .ok (.lload 9, 2) := by decide +kernel
theorem dX4_read_109 : decode cX4_read 109 = .ok (.lconst 1, 1) := by decide +kernel
theorem dX4_read_110 : decode cX4_read 110 = .ok (.ladd, 1) := by decide +kernel
theorem dX4_read_111 : decode cX4_read 111 = .ok (.invokevirtual 262, 3) := by decide +kernel
theorem dX4_read_114 : decode cX4_read 114 = .ok (.ifCond .ne 9, 3) := by decide +kernel
theorem dX4_read_117 : decode cX4_read 117 = .ok (.iconst 2, 1) := by decide +kernel
theorem dX4_read_118 : decode cX4_read 118 = .ok (.istore 6, 2) := by decide +kernel
theorem dX4_read_120 : decode cX4_read 120 = .ok (.goto 42, 3) := by decide +kernel
theorem dX4_read_123 : decode cX4_read 123 = .ok (.aload_n 0, 1) := by decide +kernel
theorem dX4_read_124 : decode cX4_read 124 = .ok (.getfield 19, 3) := by decide +kernel
theorem dX4_read_127 : decode cX4_read 127 = .ok (.aload 5, 2) := by decide +kernel
theorem dX4_read_129 : decode cX4_read 129 = .ok (.getfield 266, 3) := by decide +kernel
theorem dX4_read_132 : decode cX4_read 132 = .ok (.lload 9, 2) := by decide +kernel
theorem dX4_read_134 : decode cX4_read 134 = .ok (.l2i, 1) := by decide +kernel
theorem dX4_read_135 : decode cX4_read 135 = .ok (.iaload, 1) := by decide +kernel
theorem dX4_read_136 : decode cX4_read 136 = .ok (.aload 5, 2) := by decide +kernel
theorem dX4_read_138 : decode cX4_read 138 = .ok (.getfield 266, 3) := by decide +kernel
theorem dX4_read_141 : decode cX4_read 141 = .ok (.lload 9, 2) := by decide +kernel
theorem dX4_read_143 : decode cX4_read 143 = .ok (.l2i, 1) := by decide +kernel
theorem dX4_read_144 : decode cX4_read 144 = .ok (.iconst 1, 1) := by decide +kernel
theorem dX4_read_145 : decode cX4_read 145 = .ok (.iadd, 1) := by decide +kernel
theorem dX4_read_146 : decode cX4_read 146 = .ok (.iaload, 1) := by decide +kernel
theorem dX4_read_147 : decode cX4_read 147 = .ok (.invokevirtual 158, 3) := by decide +kernel
theorem dX4_read_150 : decode cX4_read 150 = .ok (.ifCond .ge 9, 3) := by decide +kernel
theorem dX4_read_153 : decode cX4_read 153 = .ok (.bipush (-20), 2) := by decide +kernel
theorem dX4_read_155 : decode cX4_read 155 = .ok (.iload 8, 2) := by decide +kernel
theorem dX4_read_157 : decode cX4_read 157 = .ok (.isub, 1) := by decide +kernel
theorem dX4_read_158 : decode cX4_read 158 = .ok (.ireturn, 1) := by decide +kernel
theorem dX4_read_159 : decode cX4_read 159 = .ok (.iinc 7 1, 3) := by decide +kernel
theorem dX4_read_162 : decode cX4_read 162 = .ok (.iinc 8 1, 3) := by decide +kernel
theorem dX4_read_165 : decode cX4_read 165 = .ok (.goto (-92), 3) := by decide +kernel
theorem dX4_read_168 : decode cX4_read 168 = .ok (.aload_n 0, 1) := by decide +kernel
theorem dX4_read_169 : decode cX4_read 169 = .ok (.getfield 10, 3) := by decide +kernel
theorem dX4_read_172 : decode cX4_read 172 = .ok (.aload_n 0, 1) := by decide +kernel
theorem dX4_read_173 : decode cX4_read 173 = .ok (.getfield 19, 3) := by decide +kernel
theorem dX4_read_176 : decode cX4_read 176 = .ok (.invokevirtual 83, 3) := by decide +kernel
theorem dX4_read_179 : decode cX4_read 179 = .ok (.aload_n 0, 1) := by decide +kernel
theorem dX4_read_180 : decode cX4_read 180 = .ok (.iload 6, 2) := by decide +kernel
theorem dX4_read_182 : decode cX4_read 182 = .ok (.putfield 64, 3) := by decide +kernel
theorem dX4_read_185 : decode cX4_read 185 = .ok (.iload 7, 2) := by decide +kernel
theorem dX4_read_187 : decode cX4_read 187 = .ok (.ireturn, 1) := by decide +kernel
theorem dX4_torn_0 : decode cX4_torn 0 = .ok (.aload_n 0, 1) := by decide +kernel
theorem dX4_torn_1 : decode cX4_torn 1 = .ok (.getfield 64, 3) := by decide +kernel
theorem dX4_torn_4 : decode cX4_torn 4 = .ok (.ireturn, 1) := by decide +kernel
theorem dX4_count_0 : decode cX4_count 0 = .ok (.iload_n 1, 1) := by decide +kernel
theorem dX4_count_1 : decode cX4_count 1 = .ok (.tableswitch 125 0 5 #[39, 44, 74, 82, 109, 117], 39) := by decide +kernel
theorem dX4_count_40 : decode cX4_count 40 = .ok (.aload_n 0, 1) := by decide +kernel
theorem dX4_count_41 : decode cX4_count 41 = .ok (.getfield 60, 3) := by decide +kernel
theorem dX4_count_44 : decode cX4_count 44 = .ok (.ireturn, 1) := by decide +kernel
theorem dX4_count_45 : decode cX4_count 45 = .ok (.aload_n 0, 1) := by decide +kernel
theorem dX4_count_46 : decode cX4_count 46 = .ok (.getfield 26, 3) := by decide +kernel
theorem dX4_count_49 : decode cX4_count 49 = .ok (.iconst 0, 1) := by decide +kernel
theorem dX4_count_50 : decode cX4_count 50 = .ok (.baload, 1) := by decide +kernel
theorem dX4_count_51 : decode cX4_count 51 = .ok (.ifCond .eq 7, 3) := by decide +kernel
theorem dX4_count_54 : decode cX4_count 54 = .ok (.iconst 1, 1) := by decide +kernel
theorem dX4_count_55 : decode cX4_count 55 = .ok (.goto 4, 3) := by decide +kernel
theorem dX4_count_58 : decode cX4_count 58 = .ok (.iconst 0, 1) := by decide +kernel
theorem dX4_count_59 : decode cX4_count 59 = .ok (.aload_n 0, 1) := by decide +kernel
theorem dX4_count_60 : decode cX4_count 60 = .ok (.getfield 26, 3) := by decide +kernel
theorem dX4_count_63 : decode cX4_count 63 = .ok (.iconst 1, 1) := by decide +kernel
theorem dX4_count_64 : decode cX4_count 64 = .ok (.baload, 1) := by decide +kernel
theorem dX4_count_65 : decode cX4_count 65 = .ok (.ifCond .eq 7, 3) := by decide +kernel
theorem dX4_count_68 : decode cX4_count 68 = .ok (.iconst 1, 1) := by decide +kernel
theorem dX4_count_69 : decode cX4_count 69 = .ok (.goto 4, 3) := by decide +kernel
theorem dX4_count_72 : decode cX4_count 72 = .ok (.iconst 0, 1) := by decide +kernel
theorem dX4_count_73 : decode cX4_count 73 = .ok (.iadd, 1) := by decide +kernel
theorem dX4_count_74 : decode cX4_count 74 = .ok (.ireturn, 1) := by decide +kernel
theorem dX4_count_75 : decode cX4_count 75 = .ok (.aload_n 0, 1) := by decide +kernel
theorem dX4_count_76 : decode cX4_count 76 = .ok (.getfield 33, 3) := by decide +kernel
theorem dX4_count_79 : decode cX4_count 79 = .ok (.getfield 76, 3) := by decide +kernel
theorem dX4_count_82 : decode cX4_count 82 = .ok (.ireturn, 1) := by decide +kernel
theorem dX4_count_83 : decode cX4_count 83 = .ok (.aload_n 0, 1) := by decide +kernel
theorem dX4_count_84 : decode cX4_count 84 = .ok (.getfield 46, 3) := by decide +kernel
theorem dX4_count_87 : decode cX4_count 87 = .ok (.iconst 0, 1) := by decide +kernel
theorem dX4_count_88 : decode cX4_count 88 = .ok (.aaload, 1) := by decide +kernel
theorem dX4_count_89 : decode cX4_count 89 = .ok (.getfield 258, 3) := by decide +kernel
theorem dX4_count_92 : decode cX4_count 92 = .ok (.ifCond .eq 15, 3) := by decide +kernel
theorem dX4_count_95 : decode cX4_count 95 = .ok (.aload_n 0, 1) := by decide +kernel
theorem dX4_count_96 : decode cX4_count 96 = .ok (.getfield 46, 3) := by decide +kernel
theorem dX4_count_99 : decode cX4_count 99 = .ok (.iconst 0, 1) := by decide +kernel
theorem dX4_count_100 : decode cX4_count 100 = .ok (.aaload, 1) := by decide +kernel
theorem dX4_count_101 : decode cX4_count 101 = .ok (.getfield 278, 3) := by decide +kernel
theorem dX4_count_104 : decode cX4_count 104 = .ok (.goto 5, 3) := by decide +kernel
theorem dX4_count_107 : decode cX4_count 107 = .ok (.bipush (-4), 2) := by decide +kernel
theorem dX4_count_109 : decode cX4_count 109 = .ok (.ireturn, 1) := by decide +kernel
theorem dX4_count_110 : decode cX4_count 110 = .ok (.aload_n 0, 1) := by decide +kernel
theorem dX4_count_111 : decode cX4_count 111 = .ok (.getfield 10, 3) := by decide +kernel
theorem dX4_count_114 : decode cX4_count 114 = .ok (.invokevirtual 251, 3) := by decide +kernel
theorem dX4_count_117 : decode cX4_count 117 = .ok (.ireturn, 1) := by decide +kernel
theorem dX4_count_118 : decode cX4_count 118 = .ok (.aload_n 0, 1) := by decide +kernel
theorem dX4_count_119 : decode cX4_count 119 = .ok (.getfield 10, 3) := by decide +kernel
theorem dX4_count_122 : decode cX4_count 122 = .ok (.invokevirtual 281, 3) := by decide +kernel
theorem dX4_count_125 : decode cX4_count 125 = .ok (.ireturn, 1) := by decide +kernel
theorem dX4_count_126 : decode cX4_count 126 = .ok (.iconst (-1), 1) := by decide +kernel
theorem dX4_count_127 : decode cX4_count 127 = .ok (.ireturn, 1) := by decide +kernel
theorem dX4_within_0 : decode cX4_within 0 = .ok (.iload_n 0, 1) := by decide +kernel
theorem dX4_within_1 : decode cX4_within 1 = .ok (.iload_n 1, 1) := by decide +kernel
theorem dX4_within_2 : decode cX4_within 2 = .ok (.if_icmp .lt 12, 3) := by decide +kernel
theorem dX4_within_5 : decode cX4_within 5 = .ok (.iload_n 0, 1) := by decide +kernel
theorem dX4_within_6 : decode cX4_within 6 = .ok (.iload_n 2, 1) := by decide +kernel
theorem dX4_within_7 : decode cX4_within 7 = .ok (.if_icmp .gt 7, 3) := by decide +kernel
theorem dX4_within_10 : decode cX4_within 10 = .ok (.iconst 1, 1) := by decide +kernel
theorem dX4_within_11 : decode cX4_within 11 = .ok (.goto 4, 3) := by decide +kernel
theorem dX4_within_14 : decode cX4_within 14 = .ok (.iconst 0, 1) := by decide +kernel
theorem dX4_within_15 : decode cX4_within 15 = .ok (.ireturn, 1) := by decide +kernel
theorem dX4_exchange_0 : decode cX4_exchange 0 = .ok (.aload_n 0, 1) := by decide +kernel
theorem dX4_exchange_1 : decode cX4_exchange 1 = .ok (.iload_n 1, 1) := by decide +kernel
theorem dX4_exchange_2 : decode cX4_exchange 2 = .ok (.iaload, 1) := by decide +kernel
theorem dX4_exchange_3 : decode cX4_exchange 3 = .ok (.istore_n 3, 1) := by decide +kernel
theorem dX4_exchange_4 : decode cX4_exchange 4 = .ok (.aload_n 0, 1) := by decide +kernel
theorem dX4_exchange_5 : decode cX4_exchange 5 = .ok (.iload_n 1, 1) := by decide +kernel
theorem dX4_exchange_6 : decode cX4_exchange 6 = .ok (.iload_n 2, 1) := by decide +kernel
theorem dX4_exchange_7 : decode cX4_exchange 7 = .ok (.iastore, 1) := by decide +kernel
theorem dX4_exchange_8 : decode cX4_exchange 8 = .ok (.iload_n 3, 1) := by decide +kernel
theorem dX4_exchange_9 : decode cX4_exchange 9 = .ok (.ireturn, 1) := by decide +kernel
theorem dX4_power_0 : decode cX4_power 0 = .ok (.iconst 1, 1) := by decide +kernel
theorem dX4_power_1 : decode cX4_power 1 = .ok (.istore_n 2, 1) := by decide +kernel
theorem dX4_power_2 : decode cX4_power 2 = .ok (.iconst 0, 1) := by decide +kernel
theorem dX4_power_3 : decode cX4_power 3 = .ok (.istore_n 3, 1) := by decide +kernel
theorem dX4_power_4 : decode cX4_power 4 = .ok (.iload_n 3, 1) := by decide +kernel
theorem dX4_power_5 : decode cX4_power 5 = .ok (.iload_n 1, 1) := by decide +kernel
theorem dX4_power_6 : decode cX4_power 6 = .ok (.if_icmp .ge 13, 3) := by decide +kernel
theorem dX4_power_9 : decode cX4_power 9 = .ok (.iload_n 2, 1) := by decide +kernel
theorem dX4_power_10 : decode cX4_power 10 = .ok (.iload_n 0, 1) := by decide +kernel
theorem dX4_power_11 : decode cX4_power 11 = .ok (.imul, 1) := by decide +kernel
theorem dX4_power_12 : decode cX4_power 12 = .ok (.istore_n 2, 1) := by decide +kernel
theorem dX4_power_13 : decode cX4_power 13 = .ok (.iinc 3 1, 3) := by decide +kernel
theorem dX4_power_16 : decode cX4_power 16 = .ok (.goto (-12), 3) := by decide +kernel
theorem dX4_power_19 : decode cX4_power 19 = .ok (.iload_n 2, 1) := by decide +kernel
theorem dX4_power_20 : decode cX4_power 20 = .ok (.ireturn, 1) := by decide +kernel
theorem dX4_spread_0 : decode cX4_spread 0 = .ok (.iload_n 0, 1) := by decide +kernel
theorem dX4_spread_1 : decode cX4_spread 1 = .ok (.istore 4, 2) := by decide +kernel
theorem dX4_spread_3 : decode cX4_spread 3 = .ok (.iload_n 3, 1) := by decide +kernel
theorem dX4_spread_4 : decode cX4_spread 4 = .ok (.iconst 1, 1) := by decide +kernel
theorem dX4_spread_5 : decode cX4_spread 5 = .ok (.isub, 1) := by decide +kernel
theorem dX4_spread_6 : decode cX4_spread 6 = .ok (.istore 5, 2) := by decide +kernel
theorem dX4_spread_8 : decode cX4_spread 8 = .ok (.iload 5, 2) := by decide +kernel
theorem dX4_spread_10 : decode cX4_spread 10 = .ok (.ifCond .lt 27, 3) := by decide +kernel
theorem dX4_spread_13 : decode cX4_spread 13 = .ok (.iload_n 1, 1) := by decide +kernel
theorem dX4_spread_14 : decode cX4_spread 14 = .ok (.ifCond .le 23, 3) := by decide +kernel
theorem dX4_spread_17 : decode cX4_spread 17 = .ok (.aload_n 2, 1) := by decide +kernel
theorem dX4_spread_18 : decode cX4_spread 18 = .ok (.iload 5, 2) := by decide +kernel
theorem dX4_spread_20 : decode cX4_spread 20 = .ok (.iload 4, 2) := by decide +kernel
theorem dX4_spread_22 : decode cX4_spread 22 = .ok (.iload_n 1, 1) := by decide +kernel
theorem dX4_spread_23 : decode cX4_spread 23 = .ok (.irem, 1) := by decide +kernel
theorem dX4_spread_24 : decode cX4_spread 24 = .ok (.iastore, 1) := by decide +kernel
theorem dX4_spread_25 : decode cX4_spread 25 = .ok (.iload 4, 2) := by decide +kernel
theorem dX4_spread_27 : decode cX4_spread 27 = .ok (.iload_n 1, 1) := by decide +kernel
theorem dX4_spread_28 : decode cX4_spread 28 = .ok (.idiv, 1) := by decide +kernel
theorem dX4_spread_29 : decode cX4_spread 29 = .ok (.istore 4, 2) := by decide +kernel
theorem dX4_spread_31 : decode cX4_spread 31 = .ok (.iinc 5 (-1), 3) := by decide +kernel
theorem dX4_spread_34 : decode cX4_spread 34 = .ok (.goto (-26), 3) := by decide +kernel
theorem dX4_spread_37 : decode cX4_spread 37 = .ok (.return_, 1) := by decide +kernel
theorem dX4_weight_0 : decode cX4_weight 0 = .ok (.lconst 1, 1) := by decide +kernel
theorem dX4_weight_1 : decode cX4_weight 1 = .ok (.lstore_n 3, 1) := by decide +kernel
theorem dX4_weight_2 : decode cX4_weight 2 = .ok (.iconst 0, 1) := by decide +kernel
theorem dX4_weight_3 : decode cX4_weight 3 = .ok (.istore 5, 2) := by decide +kernel
theorem dX4_weight_5 : decode cX4_weight 5 = .ok (.iload 5, 2) := by decide +kernel
theorem dX4_weight_7 : decode cX4_weight 7 = .ok (.aload_n 0, 1) := by decide +kernel
theorem dX4_weight_8 : decode cX4_weight 8 = .ok (.getfield 10, 3) := by decide +kernel
theorem dX4_weight_11 : decode cX4_weight 11 = .ok (.getfield 93, 3) := by decide +kernel
theorem dX4_weight_14 : decode cX4_weight 14 = .ok (.if_icmp .ge 32, 3) := by decide +kernel
theorem dX4_weight_17 : decode cX4_weight 17 = .ok (.lload_n 3, 1) := by decide +kernel
theorem dX4_weight_18 : decode cX4_weight 18 = .ok (.iload_n 1, 1) := by decide +kernel
theorem dX4_weight_19 : decode cX4_weight 19 = .ok (.iload 5, 2) := by decide +kernel
theorem dX4_weight_21 : decode cX4_weight 21 = .ok (.ishr, 1) := by decide +kernel
theorem dX4_weight_22 : decode cX4_weight 22 = .ok (.iconst 1, 1) := by decide +kernel
theorem dX4_weight_23 : decode cX4_weight 23 = .ok (.iand, 1) := by decide +kernel
theorem dX4_weight_24 : decode cX4_weight 24 = .ok (.iconst 1, 1) := by decide +kernel
theorem dX4_weight_25 : decode cX4_weight 25 = .ok (.if_icmp .ne 8, 3) := by decide +kernel
theorem dX4_weight_28 : decode cX4_weight 28 = .ok (.iload_n 2, 1) := by decide +kernel
theorem dX4_weight_29 : decode cX4_weight 29 = .ok (.i2l, 1) := by decide +kernel
theorem dX4_weight_30 : decode cX4_weight 30 = .ok (.goto 8, 3) := by decide +kernel
theorem dX4_weight_33 : decode cX4_weight 33 = .ok (.bipush 10, 2) := by decide +kernel
theorem dX4_weight_35 : decode cX4_weight 35 = .ok (.iload_n 2, 1) := by decide +kernel
theorem dX4_weight_36 : decode cX4_weight 36 = .ok (.isub, 1) := by decide +kernel
theorem dX4_weight_37 : decode cX4_weight 37 = .ok (.i2l, 1) := by decide +kernel
theorem dX4_weight_38 : decode cX4_weight 38 = .ok (.lmul, 1) := by decide +kernel
theorem dX4_weight_39 : decode cX4_weight 39 = .ok (.lstore_n 3, 1) := by decide +kernel
theorem dX4_weight_40 : decode cX4_weight 40 = .ok (.iinc 5 1, 3) := by decide +kernel
theorem dX4_weight_43 : decode cX4_weight 43 = .ok (.goto (-38), 3) := by decide +kernel
theorem dX4_weight_46 : decode cX4_weight 46 = .ok (.lload_n 3, 1) := by decide +kernel
theorem dX4_weight_47 : decode cX4_weight 47 = .ok (.lreturn, 1) := by decide +kernel
theorem dX4_inLowestTerms_0 : decode cX4_inLowestTerms 0 = .ok (.lload_n 2, 1) := by decide +kernel
theorem dX4_inLowestTerms_1 : decode cX4_inLowestTerms 1 = .ok (.lstore 5, 2) := by decide +kernel
theorem dX4_inLowestTerms_3 : decode cX4_inLowestTerms 3 = .ok (.lload_n 0, 1) := by decide +kernel
theorem dX4_inLowestTerms_4 : decode cX4_inLowestTerms 4 = .ok (.lstore 7, 2) := by decide +kernel
theorem dX4_inLowestTerms_6 : decode cX4_inLowestTerms 6 = .ok (.iconst 0, 1) := by decide +kernel
theorem dX4_inLowestTerms_7 : decode cX4_inLowestTerms 7 = .ok (.istore 9, 2) := by decide +kernel
theorem dX4_inLowestTerms_9 : decode cX4_inLowestTerms 9 = .ok (.iload 9, 2) := by decide +kernel
theorem dX4_inLowestTerms_11 : decode cX4_inLowestTerms 11 = .ok (.bipush 100, 2) := by decide +kernel
theorem dX4_inLowestTerms_13 : decode cX4_inLowestTerms 13 = .ok (.if_icmp .ge 31, 3) := by decide +kernel
theorem dX4_inLowestTerms_16 : decode cX4_inLowestTerms 16 = .ok (.lload 7, 2) := by decide +kernel
theorem dX4_inLowestTerms_18 : decode cX4_inLowestTerms 18 = .ok (.lconst 0, 1) := by decide +kernel
theorem dX4_inLowestTerms_19 : decode cX4_inLowestTerms 19 = .ok (.lcmp, 1) := by decide +kernel
theorem dX4_inLowestTerms_20 : decode cX4_inLowestTerms 20 = .ok (.ifCond .eq 24, 3) := by decide +kernel
theorem dX4_inLowestTerms_23 : decode cX4_inLowestTerms 23 = .ok (.lload 5, 2) := by decide +kernel
theorem dX4_inLowestTerms_25 : decode cX4_inLowestTerms 25 = .ok (.lload 7, 2) := by decide +kernel
theorem dX4_inLowestTerms_27 : decode cX4_inLowestTerms 27 = .ok (.lrem, 1) := by decide +kernel
theorem dX4_inLowestTerms_28 : decode cX4_inLowestTerms 28 = .ok (.lstore 10, 2) := by decide +kernel
theorem dX4_inLowestTerms_30 : decode cX4_inLowestTerms 30 = .ok (.lload 7, 2) := by decide +kernel
theorem dX4_inLowestTerms_32 : decode cX4_inLowestTerms 32 = .ok (.lstore 5, 2) := by decide +kernel
theorem dX4_inLowestTerms_34 : decode cX4_inLowestTerms 34 = .ok (.lload 10, 2) := by decide +kernel
theorem dX4_inLowestTerms_36 : decode cX4_inLowestTerms 36 = .ok (.lstore 7, 2) := by decide +kernel
theorem dX4_inLowestTerms_38 : decode cX4_inLowestTerms 38 = .ok (.iinc 9 1, 3) := by decide +kernel
theorem dX4_inLowestTerms_41 : decode cX4_inLowestTerms 41 = .ok (.goto (-32), 3) := by decide +kernel
theorem dX4_inLowestTerms_44 : decode cX4_inLowestTerms 44 = .ok (.iload 4, 2) := by decide +kernel
theorem dX4_inLowestTerms_46 : decode cX4_inLowestTerms 46 = .ok (.ifCond .ne 7, 3) := by decide +kernel
theorem dX4_inLowestTerms_49 : decode cX4_inLowestTerms 49 = .ok (.lload_n 0, 1) := by decide +kernel
theorem dX4_inLowestTerms_50 : decode cX4_inLowestTerms 50 = .ok (.goto 4, 3) := by decide +kernel
theorem dX4_inLowestTerms_53 : decode cX4_inLowestTerms 53 = .ok (.lload_n 2, 1) := by decide +kernel
theorem dX4_inLowestTerms_54 : decode cX4_inLowestTerms 54 = .ok (.lstore 9, 2) := by decide +kernel
theorem dX4_inLowestTerms_56 : decode cX4_inLowestTerms 56 = .ok (.lload 5, 2) := by decide +kernel
theorem dX4_inLowestTerms_58 : decode cX4_inLowestTerms 58 = .ok (.lconst 0, 1) := by decide +kernel
theorem dX4_inLowestTerms_59 : decode cX4_inLowestTerms 59 = .ok (.lcmp, 1) := by decide +kernel
theorem dX4_inLowestTerms_60 : decode cX4_inLowestTerms 60 = .ok (.ifCond .le 11, 3) := by decide +kernel
theorem dX4_inLowestTerms_63 : decode cX4_inLowestTerms 63 = .ok (.lload 9, 2) := by decide +kernel
theorem dX4_inLowestTerms_65 : decode cX4_inLowestTerms 65 = .ok (.lload 5, 2) := by decide +kernel
theorem dX4_inLowestTerms_67 : decode cX4_inLowestTerms 67 = .ok (.ldiv, 1) := by decide +kernel
theorem dX4_inLowestTerms_68 : decode cX4_inLowestTerms 68 = .ok (.goto 5, 3) := by decide +kernel
theorem dX4_inLowestTerms_71 : decode cX4_inLowestTerms 71 = .ok (.lload 9, 2) := by decide +kernel
theorem dX4_inLowestTerms_73 : decode cX4_inLowestTerms 73 = .ok (.lreturn, 1) := by decide +kernel
theorem dX4_fittingKinds_0 : decode cX4_fittingKinds 0 = .ok (.iconst 0, 1) := by decide +kernel
theorem dX4_fittingKinds_1 : decode cX4_fittingKinds 1 = .ok (.istore_n 2, 1) := by decide +kernel
theorem dX4_fittingKinds_2 : decode cX4_fittingKinds 2 = .ok (.iconst 0, 1) := by decide +kernel
theorem dX4_fittingKinds_3 : decode cX4_fittingKinds 3 = .ok (.istore_n 3, 1) := by decide +kernel
theorem dX4_fittingKinds_4 : decode cX4_fittingKinds 4 = .ok (.iload_n 3, 1) := by decide +kernel
theorem dX4_fittingKinds_5 : decode cX4_fittingKinds 5 = .ok (.iconst 4, 1) := by decide +kernel
theorem dX4_fittingKinds_6 : decode cX4_fittingKinds 6 = .ok (.if_icmp .ge 81, 3) := by decide +kernel
theorem dX4_fittingKinds_9 : decode cX4_fittingKinds 9 = .ok (.iconst 1, 1) := by decide +kernel
theorem dX4_fittingKinds_10 : decode cX4_fittingKinds 10 = .ok (.istore 4, 2) := by decide +kernel
theorem dX4_fittingKinds_12 : decode cX4_fittingKinds 12 = .ok (.iconst 0, 1) := by decide +kernel
theorem dX4_fittingKinds_13 : decode cX4_fittingKinds 13 = .ok (.istore 5, 2) := by decide +kernel
theorem dX4_fittingKinds_15 : decode cX4_fittingKinds 15 = .ok (.iload 5, 2) := by decide +kernel
theorem dX4_fittingKinds_17 : decode cX4_fittingKinds 17 = .ok (.aload_n 0, 1) := by decide +kernel
theorem dX4_fittingKinds_18 : decode cX4_fittingKinds 18 = .ok (.getfield 60, 3) := by decide +kernel
theorem dX4_fittingKinds_21 : decode cX4_fittingKinds 21 = .ok (.if_icmp .ge 49, 3) := by decide +kernel
theorem dX4_fittingKinds_24 : decode cX4_fittingKinds 24 = .ok (.aload_n 0, 1) := by decide +kernel
theorem dX4_fittingKinds_25 : decode cX4_fittingKinds 25 = .ok (.getfield 50, 3) := by decide +kernel
theorem dX4_fittingKinds_28 : decode cX4_fittingKinds 28 = .ok (.iload 5, 2) := by decide +kernel
theorem dX4_fittingKinds_30 : decode cX4_fittingKinds 30 = .ok (.iaload, 1) := by decide +kernel
theorem dX4_fittingKinds_31 : decode cX4_fittingKinds 31 = .ok (.iload_n 1, 1) := by decide +kernel
theorem dX4_fittingKinds_32 : decode cX4_fittingKinds 32 = .ok (.if_icmp .ne 32, 3) := by decide +kernel
theorem dX4_fittingKinds_35 : decode cX4_fittingKinds 35 = .ok (.aload_n 0, 1) := by decide +kernel
theorem dX4_fittingKinds_36 : decode cX4_fittingKinds 36 = .ok (.getfield 10, 3) := by decide +kernel
theorem dX4_fittingKinds_39 : decode cX4_fittingKinds 39 = .ok (.iload_n 1, 1) := by decide +kernel
theorem dX4_fittingKinds_40 : decode cX4_fittingKinds 40 = .ok (.iload_n 3, 1) := by decide +kernel
theorem dX4_fittingKinds_41 : decode cX4_fittingKinds 41 = .ok (.aload_n 0, 1) := by decide +kernel
theorem dX4_fittingKinds_42 : decode cX4_fittingKinds 42 = .ok (.getfield 54, 3) := by decide +kernel
theorem dX4_fittingKinds_45 : decode cX4_fittingKinds 45 = .ok (.iload 5, 2) := by decide +kernel
theorem dX4_fittingKinds_47 : decode cX4_fittingKinds 47 = .ok (.iaload, 1) := by decide +kernel
theorem dX4_fittingKinds_48 : decode cX4_fittingKinds 48 = .ok (.invokevirtual 129, 3) := by decide +kernel
theorem dX4_fittingKinds_51 : decode cX4_fittingKinds 51 = .ok (.aload_n 0, 1) := by decide +kernel
theorem dX4_fittingKinds_52 : decode cX4_fittingKinds 52 = .ok (.getfield 57, 3) := by decide +kernel
theorem dX4_fittingKinds_55 : decode cX4_fittingKinds 55 = .ok (.iload 5, 2) := by decide +kernel
theorem dX4_fittingKinds_57 : decode cX4_fittingKinds 57 = .ok (.iaload, 1) := by decide +kernel
theorem dX4_fittingKinds_58 : decode cX4_fittingKinds 58 = .ok (.if_icmp .eq 6, 3) := by decide +kernel
theorem dX4_fittingKinds_61 : decode cX4_fittingKinds 61 = .ok (.iconst 0, 1) := by decide +kernel
theorem dX4_fittingKinds_62 : decode cX4_fittingKinds 62 = .ok (.istore 4, 2) := by decide +kernel
theorem dX4_fittingKinds_64 : decode cX4_fittingKinds 64 = .ok (.iinc 5 1, 3) := by decide +kernel
theorem dX4_fittingKinds_67 : decode cX4_fittingKinds 67 = .ok (.goto (-52), 3) := by decide +kernel
theorem dX4_fittingKinds_70 : decode cX4_fittingKinds 70 = .ok (.iload 4, 2) := by decide +kernel
theorem dX4_fittingKinds_72 : decode cX4_fittingKinds 72 = .ok (.ifCond .eq 9, 3) := by decide +kernel
theorem dX4_fittingKinds_75 : decode cX4_fittingKinds 75 = .ok (.iload_n 2, 1) := by decide +kernel
theorem dX4_fittingKinds_76 : decode cX4_fittingKinds 76 = .ok (.iconst 1, 1) := by decide +kernel
theorem dX4_fittingKinds_77 : decode cX4_fittingKinds 77 = .ok (.iload_n 3, 1) := by decide +kernel
theorem dX4_fittingKinds_78 : decode cX4_fittingKinds 78 = .ok (.ishl, 1) := by decide +kernel
theorem dX4_fittingKinds_79 : decode cX4_fittingKinds 79 = .ok (.ior, 1) := by decide +kernel
theorem dX4_fittingKinds_80 : decode cX4_fittingKinds 80 = .ok (.istore_n 2, 1) := by decide +kernel
theorem dX4_fittingKinds_81 : decode cX4_fittingKinds 81 = .ok (.iinc 3 1, 3) := by decide +kernel
theorem dX4_fittingKinds_84 : decode cX4_fittingKinds 84 = .ok (.goto (-80), 3) := by decide +kernel
theorem dX4_fittingKinds_87 : decode cX4_fittingKinds 87 = .ok (.iload_n 2, 1) := by decide +kernel
theorem dX4_fittingKinds_88 : decode cX4_fittingKinds 88 = .ok (.ireturn, 1) := by decide +kernel
theorem dX4_leftAtWorst_0 : decode cX4_leftAtWorst 0 = .ok (.iconst 0, 1) := by decide +kernel
theorem dX4_leftAtWorst_1 : decode cX4_leftAtWorst 1 = .ok (.istore 4, 2) := by decide +kernel
theorem dX4_leftAtWorst_3 : decode cX4_leftAtWorst 3 = .ok (.iconst 0, 1) := by decide +kernel
theorem dX4_leftAtWorst_4 : decode cX4_leftAtWorst 4 = .ok (.istore 5, 2) := by decide +kernel
theorem dX4_leftAtWorst_6 : decode cX4_leftAtWorst 6 = .ok (.iload 5, 2) := by decide +kernel
theorem dX4_leftAtWorst_8 : decode cX4_leftAtWorst 8 = .ok (.iconst 4, 1) := by decide +kernel
theorem dX4_leftAtWorst_9 : decode cX4_leftAtWorst 9 = .ok (.if_icmp .ge 91, 3) := by decide +kernel
theorem dX4_leftAtWorst_12 : decode cX4_leftAtWorst 12 = .ok (.iconst 0, 1) := by decide +kernel
theorem dX4_leftAtWorst_13 : decode cX4_leftAtWorst 13 = .ok (.istore 6, 2) := by decide +kernel
theorem dX4_leftAtWorst_15 : decode cX4_leftAtWorst 15 = .ok (.iconst 0, 1) := by decide +kernel
theorem dX4_leftAtWorst_16 : decode cX4_leftAtWorst 16 = .ok (.istore 7, 2) := by decide +kernel
theorem dX4_leftAtWorst_18 : decode cX4_leftAtWorst 18 = .ok (.iload 7, 2) := by decide +kernel
theorem dX4_leftAtWorst_20 : decode cX4_leftAtWorst 20 = .ok (.iconst 4, 1) := by decide +kernel
theorem dX4_leftAtWorst_21 : decode cX4_leftAtWorst 21 = .ok (.if_icmp .ge 64, 3) := by decide +kernel
theorem dX4_leftAtWorst_24 : decode cX4_leftAtWorst 24 = .ok (.iload_n 2, 1) := by decide +kernel
theorem dX4_leftAtWorst_25 : decode cX4_leftAtWorst 25 = .ok (.iload 5, 2) := by decide +kernel
theorem dX4_leftAtWorst_27 : decode cX4_leftAtWorst 27 = .ok (.ishr, 1) := by decide +kernel
theorem dX4_leftAtWorst_28 : decode cX4_leftAtWorst 28 = .ok (.iload_n 2, 1) := by decide +kernel
theorem dX4_leftAtWorst_29 : decode cX4_leftAtWorst 29 = .ok (.iload 7, 2) := by decide +kernel
theorem dX4_leftAtWorst_31 : decode cX4_leftAtWorst 31 = .ok (.ishr, 1) := by decide +kernel
theorem dX4_leftAtWorst_32 : decode cX4_leftAtWorst 32 = .ok (.iand, 1) := by decide +kernel
theorem dX4_leftAtWorst_33 : decode cX4_leftAtWorst 33 = .ok (.iconst 1, 1) := by decide +kernel
theorem dX4_leftAtWorst_34 : decode cX4_leftAtWorst 34 = .ok (.iand, 1) := by decide +kernel
theorem dX4_leftAtWorst_35 : decode cX4_leftAtWorst 35 = .ok (.iconst 1, 1) := by decide +kernel
theorem dX4_leftAtWorst_36 : decode cX4_leftAtWorst 36 = .ok (.if_icmp .ne 7, 3) := by decide +kernel
theorem dX4_leftAtWorst_39 : decode cX4_leftAtWorst 39 = .ok (.iconst 1, 1) := by decide +kernel
theorem dX4_leftAtWorst_40 : decode cX4_leftAtWorst 40 = .ok (.goto 4, 3) := by decide +kernel
theorem dX4_leftAtWorst_43 : decode cX4_leftAtWorst 43 = .ok (.iconst 0, 1) := by decide +kernel
theorem dX4_leftAtWorst_44 : decode cX4_leftAtWorst 44 = .ok (.istore 8, 2) := by decide +kernel
theorem dX4_leftAtWorst_46 : decode cX4_leftAtWorst 46 = .ok (.iload 8, 2) := by decide +kernel
theorem dX4_leftAtWorst_48 : decode cX4_leftAtWorst 48 = .ok (.ifCond .eq 31, 3) := by decide +kernel
theorem dX4_leftAtWorst_51 : decode cX4_leftAtWorst 51 = .ok (.aload_n 0, 1) := by decide +kernel
theorem dX4_leftAtWorst_52 : decode cX4_leftAtWorst 52 = .ok (.getfield 10, 3) := by decide +kernel
theorem dX4_leftAtWorst_55 : decode cX4_leftAtWorst 55 = .ok (.iload_n 1, 1) := by decide +kernel
theorem dX4_leftAtWorst_56 : decode cX4_leftAtWorst 56 = .ok (.iload 5, 2) := by decide +kernel
theorem dX4_leftAtWorst_58 : decode cX4_leftAtWorst 58 = .ok (.iload_n 3, 1) := by decide +kernel
theorem dX4_leftAtWorst_59 : decode cX4_leftAtWorst 59 = .ok (.invokevirtual 129, 3) := by decide +kernel
theorem dX4_leftAtWorst_62 : decode cX4_leftAtWorst 62 = .ok (.aload_n 0, 1) := by decide +kernel
theorem dX4_leftAtWorst_63 : decode cX4_leftAtWorst 63 = .ok (.getfield 10, 3) := by decide +kernel
theorem dX4_leftAtWorst_66 : decode cX4_leftAtWorst 66 = .ok (.iload_n 1, 1) := by decide +kernel
theorem dX4_leftAtWorst_67 : decode cX4_leftAtWorst 67 = .ok (.iload 7, 2) := by decide +kernel
theorem dX4_leftAtWorst_69 : decode cX4_leftAtWorst 69 = .ok (.iload_n 3, 1) := by decide +kernel
theorem dX4_leftAtWorst_70 : decode cX4_leftAtWorst 70 = .ok (.invokevirtual 129, 3) := by decide +kernel
theorem dX4_leftAtWorst_73 : decode cX4_leftAtWorst 73 = .ok (.if_icmp .ne 6, 3) := by decide +kernel
theorem dX4_leftAtWorst_76 : decode cX4_leftAtWorst 76 = .ok (.iinc 6 1, 3) := by decide +kernel
theorem dX4_leftAtWorst_79 : decode cX4_leftAtWorst 79 = .ok (.iinc 7 1, 3) := by decide +kernel
theorem dX4_leftAtWorst_82 : decode cX4_leftAtWorst 82 = .ok (.goto (-64), 3) := by decide +kernel
theorem dX4_leftAtWorst_85 : decode cX4_leftAtWorst 85 = .ok (.iload 4, 2) := by decide +kernel
theorem dX4_leftAtWorst_87 : decode cX4_leftAtWorst 87 = .ok (.iload 6, 2) := by decide +kernel
theorem dX4_leftAtWorst_89 : decode cX4_leftAtWorst 89 = .ok (.invokestatic 246, 3) := by decide +kernel
theorem dX4_leftAtWorst_92 : decode cX4_leftAtWorst 92 = .ok (.istore 4, 2) := by decide +kernel
theorem dX4_leftAtWorst_94 : decode cX4_leftAtWorst 94 = .ok (.iinc 5 1, 3) := by decide +kernel
theorem dX4_leftAtWorst_97 : decode cX4_leftAtWorst 97 = .ok (.goto (-91), 3) := by decide +kernel
theorem dX4_leftAtWorst_100 : decode cX4_leftAtWorst 100 = .ok (.iload 4, 2) := by decide +kernel
theorem dX4_leftAtWorst_102 : decode cX4_leftAtWorst 102 = .ok (.ireturn, 1) := by decide +kernel
theorem dX4_nextSeed_0 : decode cX4_nextSeed 0 = .ok (.iload_n 0, 1) := by decide +kernel
theorem dX4_nextSeed_1 : decode cX4_nextSeed 1 = .ok (.ldc_w 284, 3) := by decide +kernel
theorem dX4_nextSeed_4 : decode cX4_nextSeed 4 = .ok (.imul, 1) := by decide +kernel
theorem dX4_nextSeed_5 : decode cX4_nextSeed 5 = .ok (.sipush 12345, 3) := by decide +kernel
theorem dX4_nextSeed_8 : decode cX4_nextSeed 8 = .ok (.iadd, 1) := by decide +kernel
theorem dX4_nextSeed_9 : decode cX4_nextSeed 9 = .ok (.ireturn, 1) := by decide +kernel
theorem dX4_middleBits_0 : decode cX4_middleBits 0 = .ok (.iload_n 0, 1) := by decide +kernel
theorem dX4_middleBits_1 : decode cX4_middleBits 1 = .ok (.bipush 16, 2) := by decide +kernel
theorem dX4_middleBits_3 : decode cX4_middleBits 3 = .ok (.iushr, 1) := by decide +kernel
theorem dX4_middleBits_4 : decode cX4_middleBits 4 = .ok (.sipush 32767, 3) := by decide +kernel
theorem dX4_middleBits_7 : decode cX4_middleBits 7 = .ok (.iand, 1) := by decide +kernel
theorem dX4_middleBits_8 : decode cX4_middleBits 8 = .ok (.ireturn, 1) := by decide +kernel
theorem dX5_in_0 : decode cX5_in 0 = .ok (.lload_n 0, 1) := by decide +kernel
theorem dX5_in_1 : decode cX5_in 1 = .ok (.lload_n 2, 1) := by decide +kernel
theorem dX5_in_2 : decode cX5_in 2 = .ok (.lcmp, 1) := by decide +kernel
theorem dX5_in_3 : decode cX5_in 3 = .ok (.ifCond .lt 14, 3) := by decide +kernel
theorem dX5_in_6 : decode cX5_in 6 = .ok (.lload_n 0, 1) := by decide +kernel
theorem dX5_in_7 : decode cX5_in 7 = .ok (.lload 4, 2) := by decide +kernel
theorem dX5_in_9 : decode cX5_in 9 = .ok (.lcmp, 1) := by decide +kernel
theorem dX5_in_10 : decode cX5_in 10 = .ok (.ifCond .gt 7, 3) := by decide +kernel
theorem dX5_in_13 : decode cX5_in 13 = .ok (.iconst 1, 1) := by decide +kernel
theorem dX5_in_14 : decode cX5_in 14 = .ok (.goto 4, 3) := by decide +kernel
theorem dX5_in_17 : decode cX5_in 17 = .ok (.iconst 0, 1) := by decide +kernel
theorem dX5_in_18 : decode cX5_in 18 = .ok (.ireturn, 1) := by decide +kernel
theorem dX5_feed_0 : decode cX5_feed 0 = .ok (.iload_n 1, 1) := by decide +kernel
theorem dX5_feed_1 : decode cX5_feed 1 = .ok (.i2l, 1) := by decide +kernel
theorem dX5_feed_2 : decode cX5_feed 2 = .ok (.lconst 0, 1) := by decide +kernel
theorem dX5_feed_3 : decode cX5_feed 3 = .ok (.ldc2_w 59, 3) := by decide +kernel
theorem dX5_feed_6 : decode cX5_feed 6 = .ok (.invokestatic 61, 3) := by decide +kernel
theorem dX5_feed_9 : decode cX5_feed 9 = .ok (.ifCond .ne 5, 3) := by decide +kernel
theorem dX5_feed_12 : decode cX5_feed 12 = .ok (.iconst (-1), 1) := by decide +kernel
theorem dX5_feed_13 : decode cX5_feed 13 = .ok (.ireturn, 1) := by decide +kernel
theorem dX5_feed_14 : decode cX5_feed 14 = .ok (.aload_n 0, 1) := by decide +kernel
theorem dX5_feed_15 : decode cX5_feed 15 = .ok (.getfield 65, 3) := by decide +kernel
theorem dX5_feed_18 : decode cX5_feed 18 = .ok (.sipush 160, 3) := by decide +kernel
theorem dX5_feed_21 : decode cX5_feed 21 = .ok (.if_icmp .ne 6, 3) := by decide +kernel
theorem dX5_feed_24 : decode cX5_feed 24 = .ok (.bipush (-3), 2) := by decide +kernel
theorem dX5_feed_26 : decode cX5_feed 26 = .ok (.ireturn, 1) := by decide +kernel
theorem dX5_feed_27 : decode cX5_feed 27 = .ok (.aload_n 0, 1) := by decide +kernel
theorem dX5_feed_28 : decode cX5_feed 28 = .ok (.getfield 16, 3) := by decide +kernel
theorem dX5_feed_31 : decode cX5_feed 31 = .ok (.aload_n 0, 1) := by decide +kernel
theorem dX5_feed_32 : decode cX5_feed 32 = .ok (.getfield 65, 3) := by decide +kernel
theorem dX5_feed_35 : decode cX5_feed 35 = .ok (.iload_n 1, 1) := by decide +kernel
theorem dX5_feed_36 : decode cX5_feed 36 = .ok (.iastore, 1) := by decide +kernel
theorem dX5_feed_37 : decode cX5_feed 37 = .ok (.aload_n 0, 1) := by decide +kernel
theorem dX5_feed_38 : decode cX5_feed 38 = .ok (.dup, 1) := by decide +kernel
theorem dX5_feed_39 : decode cX5_feed 39 = .ok (.getfield 65, 3) := by decide +kernel
theorem dX5_feed_42 : decode cX5_feed 42 = .ok (.iconst 1, 1) := by decide +kernel
theorem dX5_feed_43 : decode cX5_feed 43 = .ok (.iadd, 1) := by decide +kernel
theorem dX5_feed_44 : decode cX5_feed 44 = .ok (.putfield 65, 3) := by decide +kernel
theorem dX5_feed_47 : decode cX5_feed 47 = .ok (.aload_n 0, 1) := by decide +kernel
theorem dX5_feed_48 : decode cX5_feed 48 = .ok (.getfield 65, 3) := by decide +kernel
theorem dX5_feed_51 : decode cX5_feed 51 = .ok (.ireturn, 1) := by decide +kernel
theorem dX5_end_0 : decode cX5_end 0 = .ok (.iload_n 1, 1) := by decide +kernel
theorem dX5_end_1 : decode cX5_end 1 = .ok (.i2l, 1) := by decide +kernel
theorem dX5_end_2 : decode cX5_end 2 = .ok (.lconst 0, 1) := by decide +kernel
theorem dX5_end_3 : decode cX5_end 3 = .ok (.aload_n 0, 1) := by decide +kernel
theorem dX5_end_4 : decode cX5_end 4 = .ok (.getfield 65, 3) := by decide +kernel
theorem dX5_end_7 : decode cX5_end 7 = .ok (.i2l, 1) := by decide +kernel
theorem dX5_end_8 : decode cX5_end 8 = .ok (.invokestatic 61, 3) := by decide +kernel
theorem dX5_end_11 : decode cX5_end 11 = .ok (.ifCond .ne 5, 3) := by decide +kernel
theorem dX5_end_14 : decode cX5_end 14 = .ok (.iconst (-1), 1) := by decide +kernel
theorem dX5_end_15 : decode cX5_end 15 = .ok (.ireturn, 1) := by decide +kernel
theorem dX5_end_16 : decode cX5_end 16 = .ok (.aload_n 0, 1) := by decide +kernel
theorem dX5_end_17 : decode cX5_end 17 = .ok (.getfield 65, 3) := by decide +kernel
theorem dX5_end_20 : decode cX5_end 20 = .ok (.istore_n 2, 1) := by decide +kernel
theorem dX5_end_21 : decode cX5_end 21 = .ok (.aload_n 0, 1) := by decide +kernel
theorem dX5_end_22 : decode cX5_end 22 = .ok (.iload_n 1, 1) := by decide +kernel
theorem dX5_end_23 : decode cX5_end 23 = .ok (.putfield 65, 3) := by decide +kernel
theorem dX5_end_26 : decode cX5_end 26 = .ok (.iload_n 2, 1) := by decide +kernel
theorem dX5_end_27 : decode cX5_end 27 = .ok (.ireturn, 1) := by decide +kernel
theorem dX5_byteAt_0 : decode cX5_byteAt 0 = .ok (.iload_n 1, 1) := by decide +kernel
theorem dX5_byteAt_1 : decode cX5_byteAt 1 = .ok (.aload_n 0, 1) := by decide +kernel
theorem dX5_byteAt_2 : decode cX5_byteAt 2 = .ok (.getfield 65, 3) := by decide +kernel
theorem dX5_byteAt_5 : decode cX5_byteAt 5 = .ok (.if_icmp .ge 12, 3) := by decide +kernel
theorem dX5_byteAt_8 : decode cX5_byteAt 8 = .ok (.aload_n 0, 1) := by decide +kernel
theorem dX5_byteAt_9 : decode cX5_byteAt 9 = .ok (.getfield 16, 3) := by decide +kernel
theorem dX5_byteAt_12 : decode cX5_byteAt 12 = .ok (.iload_n 1, 1) := by decide +kernel
theorem dX5_byteAt_13 : decode cX5_byteAt 13 = .ok (.iaload, 1) := by decide +kernel
theorem dX5_byteAt_14 : decode cX5_byteAt 14 = .ok (.goto 5, 3) := by decide +kernel
theorem dX5_byteAt_17 : decode cX5_byteAt 17 = .ok (.bipush (-4), 2) := by decide +kernel
theorem dX5_byteAt_19 : decode cX5_byteAt 19 = .ok (.ireturn, 1) := by decide +kernel
theorem dX5_fails_0 : decode cX5_fails 0 = .ok (.aload_n 0, 1) := by decide +kernel
theorem dX5_fails_1 : decode cX5_fails 1 = .ok (.getfield 69, 3) := by decide +kernel
theorem dX5_fails_4 : decode cX5_fails 4 = .ok (.ifCond .ne 16, 3) := by decide +kernel
theorem dX5_fails_7 : decode cX5_fails 7 = .ok (.aload_n 0, 1) := by decide +kernel
theorem dX5_fails_8 : decode cX5_fails 8 = .ok (.iload_n 1, 1) := by decide +kernel
theorem dX5_fails_9 : decode cX5_fails 9 = .ok (.putfield 69, 3) := by decide +kernel
theorem dX5_fails_12 : decode cX5_fails 12 = .ok (.aload_n 0, 1) := by decide +kernel
theorem dX5_fails_13 : decode cX5_fails 13 = .ok (.aload_n 0, 1) := by decide +kernel
theorem dX5_fails_14 : decode cX5_fails 14 = .ok (.getfield 72, 3) := by decide +kernel
theorem dX5_fails_17 : decode cX5_fails 17 = .ok (.putfield 75, 3) := by decide +kernel
theorem dX5_fails_20 : decode cX5_fails 20 = .ok (.return_, 1) := by decide +kernel
theorem dX5_nameHere_0 : decode cX5_nameHere 0 = .ok (.iconst 0, 1) := by decide +kernel
theorem dX5_nameHere_1 : decode cX5_nameHere 1 = .ok (.istore_n 1, 1) := by decide +kernel
theorem dX5_nameHere_2 : decode cX5_nameHere 2 = .ok (.iload_n 1, 1) := by decide +kernel
theorem dX5_nameHere_3 : decode cX5_nameHere 3 = .ok (.bipush 6, 2) := by decide +kernel
theorem dX5_nameHere_5 : decode cX5_nameHere 5 = .ok (.if_icmp .ge 113, 3) := by decide +kernel
theorem dX5_nameHere_8 : decode cX5_nameHere 8 = .ok (.aload_n 0, 1) := by decide +kernel
theorem dX5_nameHere_9 : decode cX5_nameHere 9 = .ok (.getfield 78, 3) := by decide +kernel
theorem dX5_nameHere_12 : decode cX5_nameHere 12 = .ok (.iconst 1, 1) := by decide +kernel
theorem dX5_nameHere_13 : decode cX5_nameHere 13 = .ok (.if_icmp .ne 105, 3) := by decide +kernel
theorem dX5_nameHere_16 : decode cX5_nameHere 16 = .ok (.aload_n 0, 1) := by decide +kernel
theorem dX5_nameHere_17 : decode cX5_nameHere 17 = .ok (.getfield 81, 3) := by decide +kernel
theorem dX5_nameHere_20 : decode cX5_nameHere 20 = .ok (.aload_n 0, 1) := by decide +kernel
theorem dX5_nameHere_21 : decode cX5_nameHere 21 = .ok (.getfield 72, 3) := by decide +kernel
theorem dX5_nameHere_24 : decode cX5_nameHere 24 = .ok (.isub, 1) := by decide +kernel
theorem dX5_nameHere_25 : decode cX5_nameHere 25 = .ok (.aload_n 0, 1) := by decide +kernel
theorem dX5_nameHere_26 : decode cX5_nameHere 26 = .ok (.getfield 19, 3) := by decide +kernel
theorem dX5_nameHere_29 : decode cX5_nameHere 29 = .ok (.iload_n 1, 1) := by decide +kernel
theorem dX5_nameHere_30 : decode cX5_nameHere 30 = .ok (.iconst 1, 1) := by decide +kernel
theorem dX5_nameHere_31 : decode cX5_nameHere 31 = .ok (.iadd, 1) := by decide +kernel
theorem dX5_nameHere_32 : decode cX5_nameHere 32 = .ok (.iaload, 1) := by decide +kernel
theorem dX5_nameHere_33 : decode cX5_nameHere 33 = .ok (.aload_n 0, 1) := by decide +kernel
theorem dX5_nameHere_34 : decode cX5_nameHere 34 = .ok (.getfield 19, 3) := by decide +kernel
theorem dX5_nameHere_37 : decode cX5_nameHere 37 = .ok (.iload_n 1, 1) := by decide +kernel
theorem dX5_nameHere_38 : decode cX5_nameHere 38 = .ok (.iaload, 1) := by decide +kernel
theorem dX5_nameHere_39 : decode cX5_nameHere 39 = .ok (.isub, 1) := by decide +kernel
theorem dX5_nameHere_40 : decode cX5_nameHere 40 = .ok (.if_icmp .ne 7, 3) := by decide +kernel
theorem dX5_nameHere_43 : decode cX5_nameHere 43 = .ok (.iconst 1, 1) := by decide +kernel
theorem dX5_nameHere_44 : decode cX5_nameHere 44 = .ok (.goto 4, 3) := by decide +kernel
theorem dX5_nameHere_47 : decode cX5_nameHere 47 = .ok (.iconst 0, 1) := by decide +kernel
theorem dX5_nameHere_48 : decode cX5_nameHere 48 = .ok (.istore_n 2, 1) := by decide +kernel
theorem dX5_nameHere_49 : decode cX5_nameHere 49 = .ok (.iconst 0, 1) := by decide +kernel
theorem dX5_nameHere_50 : decode cX5_nameHere 50 = .ok (.istore_n 3, 1) := by decide +kernel
theorem dX5_nameHere_51 : decode cX5_nameHere 51 = .ok (.iload_n 2, 1) := by decide +kernel
theorem dX5_nameHere_52 : decode cX5_nameHere 52 = .ok (.ifCond .eq 54, 3) := by decide +kernel
theorem dX5_nameHere_55 : decode cX5_nameHere 55 = .ok (.iload_n 3, 1) := by decide +kernel
theorem dX5_nameHere_56 : decode cX5_nameHere 56 = .ok (.aload_n 0, 1) := by decide +kernel
theorem dX5_nameHere_57 : decode cX5_nameHere 57 = .ok (.getfield 81, 3) := by decide +kernel
theorem dX5_nameHere_60 : decode cX5_nameHere 60 = .ok (.aload_n 0, 1) := by decide +kernel
theorem dX5_nameHere_61 : decode cX5_nameHere 61 = .ok (.getfield 72, 3) := by decide +kernel
theorem dX5_nameHere_64 : decode cX5_nameHere 64 = .ok (.isub, 1) := by decide +kernel
theorem dX5_nameHere_65 : decode cX5_nameHere 65 = .ok (.if_icmp .ge 41, 3) := by decide +kernel
theorem dX5_nameHere_68 : decode cX5_nameHere 68 = .ok (.aload_n 0, 1) := by decide +kernel
theorem dX5_nameHere_69 : decode cX5_nameHere 69 = .ok (.aload_n 0, 1) := by decide +kernel
theorem dX5_nameHere_70 : decode cX5_nameHere 70 = .ok (.getfield 72, 3) := by decide +kernel
theorem dX5_nameHere_73 : decode cX5_nameHere 73 = .ok (.iload_n 3, 1) := by decide +kernel
theorem dX5_nameHere_74 : decode cX5_nameHere 74 = .ok (.iadd, 1) := by decide +kernel
theorem dX5_nameHere_75 : decode cX5_nameHere 75 = .ok (.invokevirtual 84, 3) := by decide +kernel
theorem dX5_nameHere_78 : decode cX5_nameHere 78 = .ok (.aload_n 0, 1) := by decide +kernel
theorem dX5_nameHere_79 : decode cX5_nameHere 79 = .ok (.getfield 22, 3) := by decide +kernel
theorem dX5_nameHere_82 : decode cX5_nameHere 82 = .ok (.aload_n 0, 1) := by decide +kernel
theorem dX5_nameHere_83 : decode cX5_nameHere 83 = .ok (.getfield 19, 3) := by decide +kernel
theorem dX5_nameHere_86 : decode cX5_nameHere 86 = .ok (.iload_n 1, 1) := by decide +kernel
theorem dX5_nameHere_87 : decode cX5_nameHere 87 = .ok (.iaload, 1) := by decide +kernel
theorem dX5_nameHere_88 : decode cX5_nameHere 88 = .ok (.iload_n 3, 1) := by decide +kernel
theorem dX5_nameHere_89 : decode cX5_nameHere 89 = .ok (.iadd, 1) := by decide +kernel
theorem dX5_nameHere_90 : decode cX5_nameHere 90 = .ok (.iaload, 1) := by decide +kernel
theorem dX5_nameHere_91 : decode cX5_nameHere 91 = .ok (.if_icmp .ne 7, 3) := by decide +kernel
theorem dX5_nameHere_94 : decode cX5_nameHere 94 = .ok (.iconst 1, 1) := by decide +kernel
theorem dX5_nameHere_95 : decode cX5_nameHere 95 = .ok (.goto 4, 3) := by decide +kernel
theorem dX5_nameHere_98 : decode cX5_nameHere 98 = .ok (.iconst 0, 1) := by decide +kernel
theorem dX5_nameHere_99 : decode cX5_nameHere 99 = .ok (.istore_n 2, 1) := by decide +kernel
theorem dX5_nameHere_100 : decode cX5_nameHere 100 = .ok (.iinc 3 1, 3) := by decide +kernel
theorem dX5_nameHere_103 : decode cX5_nameHere 103 = .ok (.goto (-52), 3) := by decide +kernel
theorem dX5_nameHere_106 : decode cX5_nameHere 106 = .ok (.iload_n 2, 1) := by decide +kernel
theorem dX5_nameHere_107 : decode cX5_nameHere 107 = .ok (.ifCond .eq 5, 3) := by decide +kernel
theorem dX5_nameHere_110 : decode cX5_nameHere 110 = .ok (.iload_n 1, 1) := by decide +kernel
theorem dX5_nameHere_111 : decode cX5_nameHere 111 = .ok (.ireturn, 1) := by decide +kernel
theorem dX5_nameHere_112 : decode cX5_nameHere 112 = .ok (.iinc 1 1, 3) := by decide +kernel
theorem dX5_nameHere_115 : decode cX5_nameHere 115 = .ok (.goto (-113), 3) := by decide +kernel
theorem dX5_nameHere_118 : decode cX5_nameHere 118 = .ok (.bipush (-4), 2) := by decide +kernel
theorem dX5_nameHere_120 : decode cX5_nameHere 120 = .ok (.ireturn, 1) := by decide +kernel
theorem dX5_step_0 : decode cX5_step 0 = .ok (.aload_n 0, 1) := by decide +kernel
theorem dX5_step_1 : decode cX5_step 1 = .ok (.getfield 69, 3) := by decide +kernel
theorem dX5_step_4 : decode cX5_step 4 = .ok (.ifCond .le 4, 3) := by decide +kernel
theorem dX5_step_7 : decode cX5_step 7 = .ok (.return_, 1) := by decide +kernel
theorem dX5_step_8 : decode cX5_step 8 = .ok (.aload_n 0, 1) := by decide +kernel
theorem dX5_step_9 : decode cX5_step 9 = .ok (.aload_n 0, 1) := by decide +kernel
theorem dX5_step_10 : decode cX5_step 10 = .ok (.getfield 81, 3) := by decide +kernel
theorem dX5_step_13 : decode cX5_step 13 = .ok (.invokevirtual 84, 3) := by decide +kernel
theorem dX5_step_16 : decode cX5_step 16 = .ok (.bipush 32, 2) := by decide +kernel
theorem dX5_step_18 : decode cX5_step 18 = .ok (.if_icmp .ne 16, 3) := by decide +kernel
theorem dX5_step_21 : decode cX5_step 21 = .ok (.aload_n 0, 1) := by decide +kernel
theorem dX5_step_22 : decode cX5_step 22 = .ok (.dup, 1) := by decide +kernel
theorem dX5_step_23 : decode cX5_step 23 = .ok (.getfield 81, 3) := by decide +kernel
theorem dX5_step_26 : decode cX5_step 26 = .ok (.iconst 1, 1) := by decide +kernel
theorem dX5_step_27 : decode cX5_step 27 = .ok (.iadd, 1) := by decide +kernel
theorem dX5_step_28 : decode cX5_step 28 = .ok (.putfield 81, 3) := by decide +kernel
theorem dX5_step_31 : decode cX5_step 31 = .ok (.goto (-23), 3) := by decide +kernel
theorem dX5_step_34 : decode cX5_step 34 = .ok (.aload_n 0, 1) := by decide +kernel
theorem dX5_step_35 : decode cX5_step 35 = .ok (.aload_n 0, 1) := by decide +kernel
theorem dX5_step_36 : decode cX5_step 36 = .ok (.getfield 81, 3) := by decide +kernel
theorem dX5_step_39 : decode cX5_step 39 = .ok (.putfield 72, 3) := by decide +kernel
theorem dX5_step_42 : decode cX5_step 42 = .ok (.aload_n 0, 1) := by decide +kernel
theorem dX5_step_43 : decode cX5_step 43 = .ok (.aload_n 0, 1) := by decide +kernel
theorem dX5_step_44 : decode cX5_step 44 = .ok (.getfield 81, 3) := by decide +kernel
theorem dX5_step_47 : decode cX5_step 47 = .ok (.invokevirtual 84, 3) := by decide +kernel
theorem dX5_step_50 : decode cX5_step 50 = .ok (.istore_n 1, 1) := by decide +kernel
theorem dX5_step_51 : decode cX5_step 51 = .ok (.aload_n 0, 1) := by decide +kernel
theorem dX5_step_52 : decode cX5_step 52 = .ok (.iconst 0, 1) := by decide +kernel
theorem dX5_step_53 : decode cX5_step 53 = .ok (.putfield 88, 3) := by decide +kernel
theorem dX5_step_56 : decode cX5_step 56 = .ok (.iload_n 1, 1) := by decide +kernel
theorem dX5_step_57 : decode cX5_step 57 = .ok (.bipush (-4), 2) := by decide +kernel
theorem dX5_step_59 : decode cX5_step 59 = .ok (.if_icmp .ne 11, 3) := by decide +kernel
theorem dX5_step_62 : decode cX5_step 62 = .ok (.aload_n 0, 1) := by decide +kernel
theorem dX5_step_63 : decode cX5_step 63 = .ok (.iconst 0, 1) := by decide +kernel
theorem dX5_step_64 : decode cX5_step 64 = .ok (.putfield 78, 3) := by decide +kernel
theorem dX5_step_67 : decode cX5_step 67 = .ok (.goto 202, 3) := by decide +kernel
theorem dX5_step_70 : decode cX5_step 70 = .ok (.iload_n 1, 1) := by decide +kernel
theorem dX5_step_71 : decode cX5_step 71 = .ok (.i2l, 1) := by decide +kernel
theorem dX5_step_72 : decode cX5_step 72 = .ok (.ldc2_w 91, 3) := by decide +kernel
theorem dX5_step_75 : decode cX5_step 75 = .ok (.ldc2_w 93, 3) := by decide +kernel
theorem dX5_step_78 : decode cX5_step 78 = .ok (.invokestatic 61, 3) := by decide +kernel
theorem dX5_step_81 : decode cX5_step 81 = .ok (.ifCond .eq 45, 3) := by decide +kernel
theorem dX5_step_84 : decode cX5_step 84 = .ok (.aload_n 0, 1) := by decide +kernel
theorem dX5_step_85 : decode cX5_step 85 = .ok (.aload_n 0, 1) := by decide +kernel
theorem dX5_step_86 : decode cX5_step 86 = .ok (.getfield 81, 3) := by decide +kernel
theorem dX5_step_89 : decode cX5_step 89 = .ok (.invokevirtual 84, 3) := by decide +kernel
theorem dX5_step_92 : decode cX5_step 92 = .ok (.i2l, 1) := by decide +kernel
theorem dX5_step_93 : decode cX5_step 93 = .ok (.ldc2_w 91, 3) := by decide +kernel
theorem dX5_step_96 : decode cX5_step 96 = .ok (.ldc2_w 93, 3) := by decide +kernel
theorem dX5_step_99 : decode cX5_step 99 = .ok (.invokestatic 61, 3) := by decide +kernel
theorem dX5_step_102 : decode cX5_step 102 = .ok (.ifCond .eq 16, 3) := by decide +kernel
theorem dX5_step_105 : decode cX5_step 105 = .ok (.aload_n 0, 1) := by decide +kernel
theorem dX5_step_106 : decode cX5_step 106 = .ok (.dup, 1) := by decide +kernel
theorem dX5_step_107 : decode cX5_step 107 = .ok (.getfield 81, 3) := by decide +kernel
theorem dX5_step_110 : decode cX5_step 110 = .ok (.iconst 1, 1) := by decide +kernel
theorem dX5_step_111 : decode cX5_step 111 = .ok (.iadd, 1) := by decide +kernel
theorem dX5_step_112 : decode cX5_step 112 = .ok (.putfield 81, 3) := by decide +kernel
theorem dX5_step_115 : decode cX5_step 115 = .ok (.goto (-31), 3) := by decide +kernel
theorem dX5_step_118 : decode cX5_step 118 = .ok (.aload_n 0, 1) := by decide +kernel
theorem dX5_step_119 : decode cX5_step 119 = .ok (.iconst 1, 1) := by decide +kernel
theorem dX5_step_120 : decode cX5_step 120 = .ok (.putfield 78, 3) := by decide +kernel
theorem dX5_step_123 : decode cX5_step 123 = .ok (.goto 146, 3) := by decide +kernel
theorem dX5_step_126 : decode cX5_step 126 = .ok (.iload_n 1, 1) := by decide +kernel
theorem dX5_step_127 : decode cX5_step 127 = .ok (.i2l, 1) := by decide +kernel
theorem dX5_step_128 : decode cX5_step 128 = .ok (.ldc2_w 95, 3) := by decide +kernel
theorem dX5_step_131 : decode cX5_step 131 = .ok (.ldc2_w 97, 3) := by decide +kernel
theorem dX5_step_134 : decode cX5_step 134 = .ok (.invokestatic 61, 3) := by decide +kernel
theorem dX5_step_137 : decode cX5_step 137 = .ok (.ifCond .eq 106, 3) := by decide +kernel
theorem dX5_step_140 : decode cX5_step 140 = .ok (.aload_n 0, 1) := by decide +kernel
theorem dX5_step_141 : decode cX5_step 141 = .ok (.aload_n 0, 1) := by decide +kernel
theorem dX5_step_142 : decode cX5_step 142 = .ok (.getfield 81, 3) := by decide +kernel
theorem dX5_step_145 : decode cX5_step 145 = .ok (.invokevirtual 84, 3) := by decide +kernel
theorem dX5_step_148 : decode cX5_step 148 = .ok (.i2l, 1) := by decide +kernel
theorem dX5_step_149 : decode cX5_step 149 = .ok (.ldc2_w 95, 3) := by decide +kernel
theorem dX5_step_152 : decode cX5_step 152 = .ok (.ldc2_w 97, 3) := by decide +kernel
theorem dX5_step_155 : decode cX5_step 155 = .ok (.invokestatic 61, 3) := by decide +kernel
theorem dX5_step_158 : decode cX5_step 158 = .ok (.ifCond .eq 59, 3) := by decide +kernel
theorem dX5_step_161 : decode cX5_step 161 = .ok (.aload_n 0, 1) := by decide +kernel
theorem dX5_step_162 : decode cX5_step 162 = .ok (.aload_n 0, 1) := by decide +kernel
theorem dX5_step_163 : decode cX5_step 163 = .ok (.getfield 81, 3) := by decide +kernel
theorem dX5_step_166 : decode cX5_step 166 = .ok (.aload_n 0, 1) := by decide +kernel
theorem dX5_step_167 : decode cX5_step 167 = .ok (.getfield 72, 3) := by decide +kernel
theorem dX5_step_170 : decode cX5_step 170 = .ok (.isub, 1) := by decide +kernel
theorem dX5_step_171 : decode cX5_step 171 = .ok (.iconst 2, 1) := by decide +kernel
theorem dX5_step_172 : decode cX5_step 172 = .ok (.if_icmp .ge 25, 3) := by decide +kernel
theorem dX5_step_175 : decode cX5_step 175 = .ok (.bipush 10, 2) := by decide +kernel
theorem dX5_step_177 : decode cX5_step 177 = .ok (.aload_n 0, 1) := by decide +kernel
theorem dX5_step_178 : decode cX5_step 178 = .ok (.getfield 88, 3) := by decide +kernel
theorem dX5_step_181 : decode cX5_step 181 = .ok (.imul, 1) := by decide +kernel
theorem dX5_step_182 : decode cX5_step 182 = .ok (.aload_n 0, 1) := by decide +kernel
theorem dX5_step_183 : decode cX5_step 183 = .ok (.aload_n 0, 1) := by decide +kernel
theorem dX5_step_184 : decode cX5_step 184 = .ok (.getfield 81, 3) := by decide +kernel
theorem dX5_step_187 : decode cX5_step 187 = .ok (.invokevirtual 84, 3) := by decide +kernel
theorem dX5_step_190 : decode cX5_step 190 = .ok (.iadd, 1) := by decide +kernel
theorem dX5_step_191 : decode cX5_step 191 = .ok (.bipush 48, 2) := by decide +kernel
theorem dX5_step_193 : decode cX5_step 193 = .ok (.isub, 1) := by decide +kernel
theorem dX5_step_194 : decode cX5_step 194 = .ok (.goto 7, 3) := by decide +kernel
theorem dX5_step_197 : decode cX5_step 197 = .ok (.aload_n 0, 1) := by decide +kernel
theorem dX5_step_198 : decode cX5_step 198 = .ok (.getfield 88, 3) := by decide +kernel
theorem dX5_step_201 : decode cX5_step 201 = .ok (.putfield 88, 3) := by decide +kernel
theorem dX5_step_204 : decode cX5_step 204 = .ok (.aload_n 0, 1) := by decide +kernel
theorem dX5_step_205 : decode cX5_step 205 = .ok (.dup, 1) := by decide +kernel
theorem dX5_step_206 : decode cX5_step 206 = .ok (.getfield 81, 3) := by decide +kernel
theorem dX5_step_209 : decode cX5_step 209 = .ok (.iconst 1, 1) := by decide +kernel
theorem dX5_step_210 : decode cX5_step 210 = .ok (.iadd, 1) := by decide +kernel
theorem dX5_step_211 : decode cX5_step 211 = .ok (.putfield 81, 3) := by decide +kernel
theorem dX5_step_214 : decode cX5_step 214 = .ok (.goto (-74), 3) := by decide +kernel
theorem dX5_step_217 : decode cX5_step 217 = .ok (.aload_n 0, 1) := by decide +kernel
theorem dX5_step_218 : decode cX5_step 218 = .ok (.iconst 2, 1) := by decide +kernel
theorem dX5_step_219 : decode cX5_step 219 = .ok (.putfield 78, 3) := by decide +kernel
theorem dX5_step_222 : decode cX5_step 222 = .ok (.aload_n 0, 1) := by decide +kernel
theorem dX5_step_223 : decode cX5_step 223 = .ok (.getfield 81, 3) := by decide +kernel
theorem dX5_step_226 : decode cX5_step 226 = .ok (.aload_n 0, 1) := by decide +kernel
theorem dX5_step_227 : decode cX5_step 227 = .ok (.getfield 72, 3) := by decide +kernel
theorem dX5_step_230 : decode cX5_step 230 = .ok (.isub, 1) := by decide +kernel
theorem dX5_step_231 : decode cX5_step 231 = .ok (.iconst 2, 1) := by decide +kernel
theorem dX5_step_232 : decode cX5_step 232 = .ok (.if_icmp .le 37, 3) := by decide +kernel
theorem dX5_step_235 : decode cX5_step 235 = .ok (.aload_n 0, 1) := by decide +kernel
theorem dX5_step_236 : decode cX5_step 236 = .ok (.iconst 1, 1) := by decide +kernel
theorem dX5_step_237 : decode cX5_step 237 = .ok (.invokevirtual 99, 3) := by decide +kernel
theorem dX5_step_240 : decode cX5_step 240 = .ok (.goto 29, 3) := by decide +kernel
theorem dX5_step_243 : decode cX5_step 243 = .ok (.aload_n 0, 1) := by decide +kernel
theorem dX5_step_244 : decode cX5_step 244 = .ok (.iconst 3, 1) := by decide +kernel
theorem dX5_step_245 : decode cX5_step 245 = .ok (.putfield 78, 3) := by decide +kernel
theorem dX5_step_248 : decode cX5_step 248 = .ok (.aload_n 0, 1) := by decide +kernel
theorem dX5_step_249 : decode cX5_step 249 = .ok (.dup, 1) := by decide +kernel
theorem dX5_step_250 : decode cX5_step 250 = .ok (.getfield 81, 3) := by decide +kernel
theorem dX5_step_253 : decode cX5_step 253 = .ok (.iconst 1, 1) := by decide +kernel
theorem dX5_step_254 : decode cX5_step 254 = .ok (.iadd, 1) := by decide +kernel
theorem dX5_step_255 : decode cX5_step 255 = .ok (.putfield 81, 3) := by decide +kernel
theorem dX5_step_258 : decode cX5_step 258 = .ok (.iload_n 1, 1) := by decide +kernel
theorem dX5_step_259 : decode cX5_step 259 = .ok (.bipush 59, 2) := by decide +kernel
theorem dX5_step_261 : decode cX5_step 261 = .ok (.if_icmp .eq 8, 3) := by decide +kernel
theorem dX5_step_264 : decode cX5_step 264 = .ok (.aload_n 0, 1) := by decide +kernel
theorem dX5_step_265 : decode cX5_step 265 = .ok (.iconst 1, 1) := by decide +kernel
theorem dX5_step_266 : decode cX5_step 266 = .ok (.invokevirtual 99, 3) := by decide +kernel
theorem dX5_step_269 : decode cX5_step 269 = .ok (.return_, 1) := by decide +kernel
theorem dX5_number_0 : decode cX5_number 0 = .ok (.aload_n 0, 1) := by decide +kernel
theorem dX5_number_1 : decode cX5_number 1 = .ok (.getfield 69, 3) := by decide +kernel
theorem dX5_number_4 : decode cX5_number 4 = .ok (.ifCond .ne 16, 3) := by decide +kernel
theorem dX5_number_7 : decode cX5_number 7 = .ok (.aload_n 0, 1) := by decide +kernel
theorem dX5_number_8 : decode cX5_number 8 = .ok (.getfield 78, 3) := by decide +kernel
theorem dX5_number_11 : decode cX5_number 11 = .ok (.iconst 2, 1) := by decide +kernel
theorem dX5_number_12 : decode cX5_number 12 = .ok (.if_icmp .eq 8, 3) := by decide +kernel
theorem dX5_number_15 : decode cX5_number 15 = .ok (.aload_n 0, 1) := by decide +kernel
theorem dX5_number_16 : decode cX5_number 16 = .ok (.iconst 2, 1) := by decide +kernel
theorem dX5_number_17 : decode cX5_number 17 = .ok (.invokevirtual 99, 3) := by decide +kernel
theorem dX5_number_20 : decode cX5_number 20 = .ok (.aload_n 0, 1) := by decide +kernel
theorem dX5_number_21 : decode cX5_number 21 = .ok (.getfield 69, 3) := by decide +kernel
theorem dX5_number_24 : decode cX5_number 24 = .ok (.ifCond .ne 23, 3) := by decide +kernel
theorem dX5_number_27 : decode cX5_number 27 = .ok (.aload_n 0, 1) := by decide +kernel
theorem dX5_number_28 : decode cX5_number 28 = .ok (.getfield 88, 3) := by decide +kernel
theorem dX5_number_31 : decode cX5_number 31 = .ok (.i2l, 1) := by decide +kernel
theorem dX5_number_32 : decode cX5_number 32 = .ok (.iload_n 1, 1) := by decide +kernel
theorem dX5_number_33 : decode cX5_number 33 = .ok (.i2l, 1) := by decide +kernel
theorem dX5_number_34 : decode cX5_number 34 = .ok (.iload_n 2, 1) := by decide +kernel
theorem dX5_number_35 : decode cX5_number 35 = .ok (.i2l, 1) := by decide +kernel
theorem dX5_number_36 : decode cX5_number 36 = .ok (.invokestatic 61, 3) := by decide +kernel
theorem dX5_number_39 : decode cX5_number 39 = .ok (.ifCond .ne 8, 3) := by decide +kernel
theorem dX5_number_42 : decode cX5_number 42 = .ok (.aload_n 0, 1) := by decide +kernel
theorem dX5_number_43 : decode cX5_number 43 = .ok (.iconst 3, 1) := by decide +kernel
theorem dX5_number_44 : decode cX5_number 44 = .ok (.invokevirtual 99, 3) := by decide +kernel
theorem dX5_number_47 : decode cX5_number 47 = .ok (.aload_n 0, 1) := by decide +kernel
theorem dX5_number_48 : decode cX5_number 48 = .ok (.getfield 69, 3) := by decide +kernel
theorem dX5_number_51 : decode cX5_number 51 = .ok (.ifCond .ne 10, 3) := by decide +kernel
theorem dX5_number_54 : decode cX5_number 54 = .ok (.aload_n 0, 1) := by decide +kernel
theorem dX5_number_55 : decode cX5_number 55 = .ok (.getfield 88, 3) := by decide +kernel
theorem dX5_number_58 : decode cX5_number 58 = .ok (.goto 4, 3) := by decide +kernel
theorem dX5_number_61 : decode cX5_number 61 = .ok (.iload_n 1, 1) := by decide +kernel
theorem dX5_number_62 : decode cX5_number 62 = .ok (.istore_n 3, 1) := by decide +kernel
theorem dX5_number_63 : decode cX5_number 63 = .ok (.aload_n 0, 1) := by decide +kernel
theorem dX5_number_64 : decode cX5_number 64 = .ok (.invokevirtual 103, 3) := by decide +kernel
theorem dX5_number_67 : decode cX5_number 67 = .ok (.iload_n 3, 1) := by decide +kernel
theorem dX5_number_68 : decode cX5_number 68 = .ok (.ireturn, 1) := by decide +kernel
theorem dX5_tuneHere_0 : decode cX5_tuneHere 0 = .ok (.aload_n 0, 1) := by decide +kernel
theorem dX5_tuneHere_1 : decode cX5_tuneHere 1 = .ok (.iconst 0, 1) := by decide +kernel
theorem dX5_tuneHere_2 : decode cX5_tuneHere 2 = .ok (.iconst 3, 1) := by decide +kernel
theorem dX5_tuneHere_3 : decode cX5_tuneHere 3 = .ok (.invokevirtual 106, 3) := by decide +kernel
theorem dX5_tuneHere_6 : decode cX5_tuneHere 6 = .ok (.istore_n 1, 1) := by decide +kernel
theorem dX5_tuneHere_7 : decode cX5_tuneHere 7 = .ok (.aload_n 0, 1) := by decide +kernel
theorem dX5_tuneHere_8 : decode cX5_tuneHere 8 = .ok (.iload_n 1, 1) := by decide +kernel
theorem dX5_tuneHere_9 : decode cX5_tuneHere 9 = .ok (.aload_n 0, 1) := by decide +kernel
theorem dX5_tuneHere_10 : decode cX5_tuneHere 10 = .ok (.getfield 110, 3) := by decide +kernel
theorem dX5_tuneHere_13 : decode cX5_tuneHere 13 = .ok (.if_icmp .le 7, 3) := by decide +kernel
theorem dX5_tuneHere_16 : decode cX5_tuneHere 16 = .ok (.iload_n 1, 1) := by decide +kernel
theorem dX5_tuneHere_17 : decode cX5_tuneHere 17 = .ok (.goto 7, 3) := by decide +kernel
theorem dX5_tuneHere_20 : decode cX5_tuneHere 20 = .ok (.aload_n 0, 1) := by decide +kernel
theorem dX5_tuneHere_21 : decode cX5_tuneHere 21 = .ok (.getfield 110, 3) := by decide +kernel
theorem dX5_tuneHere_24 : decode cX5_tuneHere 24 = .ok (.putfield 110, 3) := by decide +kernel
theorem dX5_tuneHere_27 : decode cX5_tuneHere 27 = .ok (.iload_n 1, 1) := by decide +kernel
theorem dX5_tuneHere_28 : decode cX5_tuneHere 28 = .ok (.ireturn, 1) := by decide +kernel
theorem dX5_readTune_0 : decode cX5_readTune 0 = .ok (.aload_n 0, 1) := by decide +kernel
theorem dX5_readTune_1 : decode cX5_readTune 1 = .ok (.getfield 113, 3) := by decide +kernel
theorem dX5_readTune_4 : decode cX5_readTune 4 = .ok (.istore_n 2, 1) := by decide +kernel
theorem dX5_readTune_5 : decode cX5_readTune 5 = .ok (.aload_n 0, 1) := by decide +kernel
theorem dX5_readTune_6 : decode cX5_readTune 6 = .ok (.getfield 13, 3) := by decide +kernel
theorem dX5_readTune_9 : decode cX5_readTune 9 = .ok (.iload_n 2, 1) := by decide +kernel
theorem dX5_readTune_10 : decode cX5_readTune 10 = .ok (.iload_n 1, 1) := by decide +kernel
theorem dX5_readTune_11 : decode cX5_readTune 11 = .ok (.iastore, 1) := by decide +kernel
theorem dX5_readTune_12 : decode cX5_readTune 12 = .ok (.aload_n 0, 1) := by decide +kernel
theorem dX5_readTune_13 : decode cX5_readTune 13 = .ok (.getfield 13, 3) := by decide +kernel
theorem dX5_readTune_16 : decode cX5_readTune 16 = .ok (.bipush 8, 2) := by decide +kernel
theorem dX5_readTune_18 : decode cX5_readTune 18 = .ok (.iload_n 2, 1) := by decide +kernel
theorem dX5_readTune_19 : decode cX5_readTune 19 = .ok (.iadd, 1) := by decide +kernel
theorem dX5_readTune_20 : decode cX5_readTune 20 = .ok (.aload_n 0, 1) := by decide +kernel
theorem dX5_readTune_21 : decode cX5_readTune 21 = .ok (.iconst 1, 1) := by decide +kernel
theorem dX5_readTune_22 : decode cX5_readTune 22 = .ok (.bipush 9, 2) := by decide +kernel
theorem dX5_readTune_24 : decode cX5_readTune 24 = .ok (.invokevirtual 106, 3) := by decide +kernel
theorem dX5_readTune_27 : decode cX5_readTune 27 = .ok (.iastore, 1) := by decide +kernel
theorem dX5_readTune_28 : decode cX5_readTune 28 = .ok (.aload_n 0, 1) := by decide +kernel
theorem dX5_readTune_29 : decode cX5_readTune 29 = .ok (.getfield 13, 3) := by decide +kernel
theorem dX5_readTune_32 : decode cX5_readTune 32 = .ok (.bipush 12, 2) := by decide +kernel
theorem dX5_readTune_34 : decode cX5_readTune 34 = .ok (.iload_n 2, 1) := by decide +kernel
theorem dX5_readTune_35 : decode cX5_readTune 35 = .ok (.iadd, 1) := by decide +kernel
theorem dX5_readTune_36 : decode cX5_readTune 36 = .ok (.aload_n 0, 1) := by decide +kernel
theorem dX5_readTune_37 : decode cX5_readTune 37 = .ok (.iconst 0, 1) := by decide +kernel
theorem dX5_readTune_38 : decode cX5_readTune 38 = .ok (.bipush 9, 2) := by decide +kernel
theorem dX5_readTune_40 : decode cX5_readTune 40 = .ok (.invokevirtual 106, 3) := by decide +kernel
theorem dX5_readTune_43 : decode cX5_readTune 43 = .ok (.iastore, 1) := by decide +kernel
theorem dX5_readTune_44 : decode cX5_readTune 44 = .ok (.aload_n 0, 1) := by decide +kernel
theorem dX5_readTune_45 : decode cX5_readTune 45 = .ok (.getfield 13, 3) := by decide +kernel
theorem dX5_readTune_48 : decode cX5_readTune 48 = .ok (.bipush 16, 2) := by decide +kernel
theorem dX5_readTune_50 : decode cX5_readTune 50 = .ok (.bipush 8, 2) := by decide +kernel
theorem dX5_readTune_52 : decode cX5_readTune 52 = .ok (.iload_n 2, 1) := by decide +kernel
theorem dX5_readTune_53 : decode cX5_readTune 53 = .ok (.imul, 1) := by decide +kernel
theorem dX5_readTune_54 : decode cX5_readTune 54 = .ok (.iadd, 1) := by decide +kernel
theorem dX5_readTune_55 : decode cX5_readTune 55 = .ok (.aload_n 0, 1) := by decide +kernel
theorem dX5_readTune_56 : decode cX5_readTune 56 = .ok (.iconst 0, 1) := by decide +kernel
theorem dX5_readTune_57 : decode cX5_readTune 57 = .ok (.bipush 9, 2) := by decide +kernel
theorem dX5_readTune_59 : decode cX5_readTune 59 = .ok (.invokevirtual 106, 3) := by decide +kernel
theorem dX5_readTune_62 : decode cX5_readTune 62 = .ok (.iastore, 1) := by decide +kernel
theorem dX5_readTune_63 : decode cX5_readTune 63 = .ok (.iconst 1, 1) := by decide +kernel
theorem dX5_readTune_64 : decode cX5_readTune 64 = .ok (.istore_n 3, 1) := by decide +kernel
theorem dX5_readTune_65 : decode cX5_readTune 65 = .ok (.aload_n 0, 1) := by decide +kernel
theorem dX5_readTune_66 : decode cX5_readTune 66 = .ok (.getfield 69, 3) := by decide +kernel
theorem dX5_readTune_69 : decode cX5_readTune 69 = .ok (.ifCond .ne 52, 3) := by decide +kernel
theorem dX5_readTune_72 : decode cX5_readTune 72 = .ok (.aload_n 0, 1) := by decide +kernel
theorem dX5_readTune_73 : decode cX5_readTune 73 = .ok (.getfield 78, 3) := by decide +kernel
theorem dX5_readTune_76 : decode cX5_readTune 76 = .ok (.iconst 2, 1) := by decide +kernel
theorem dX5_readTune_77 : decode cX5_readTune 77 = .ok (.if_icmp .ne 44, 3) := by decide +kernel
theorem dX5_readTune_80 : decode cX5_readTune 80 = .ok (.iload_n 3, 1) := by decide +kernel
theorem dX5_readTune_81 : decode cX5_readTune 81 = .ok (.bipush 8, 2) := by decide +kernel
theorem dX5_readTune_83 : decode cX5_readTune 83 = .ok (.if_icmp .ne 11, 3) := by decide +kernel
theorem dX5_readTune_86 : decode cX5_readTune 86 = .ok (.aload_n 0, 1) := by decide +kernel
theorem dX5_readTune_87 : decode cX5_readTune 87 = .ok (.iconst 5, 1) := by decide +kernel
theorem dX5_readTune_88 : decode cX5_readTune 88 = .ok (.invokevirtual 99, 3) := by decide +kernel
theorem dX5_readTune_91 : decode cX5_readTune 91 = .ok (.goto (-26), 3) := by decide +kernel
theorem dX5_readTune_94 : decode cX5_readTune 94 = .ok (.aload_n 0, 1) := by decide +kernel
theorem dX5_readTune_95 : decode cX5_readTune 95 = .ok (.getfield 13, 3) := by decide +kernel
theorem dX5_readTune_98 : decode cX5_readTune 98 = .ok (.bipush 16, 2) := by decide +kernel
theorem dX5_readTune_100 : decode cX5_readTune 100 = .ok (.bipush 8, 2) := by decide +kernel
theorem dX5_readTune_102 : decode cX5_readTune 102 = .ok (.iload_n 2, 1) := by decide +kernel
theorem dX5_readTune_103 : decode cX5_readTune 103 = .ok (.imul, 1) := by decide +kernel
theorem dX5_readTune_104 : decode cX5_readTune 104 = .ok (.iadd, 1) := by decide +kernel
theorem dX5_readTune_105 : decode cX5_readTune 105 = .ok (.iload_n 3, 1) := by decide +kernel
theorem dX5_readTune_106 : decode cX5_readTune 106 = .ok (.iadd, 1) := by decide +kernel
theorem dX5_readTune_107 : decode cX5_readTune 107 = .ok (.aload_n 0, 1) := by decide +kernel
theorem dX5_readTune_108 : decode cX5_readTune 108 = .ok (.iconst 0, 1) := by decide +kernel
theorem dX5_readTune_109 : decode cX5_readTune 109 = .ok (.bipush 9, 2) := by decide +kernel
theorem dX5_readTune_111 : decode cX5_readTune 111 = .ok (.invokevirtual 106, 3) := by decide +kernel
theorem dX5_readTune_114 : decode cX5_readTune 114 = .ok (.iastore, 1) := by decide +kernel
theorem dX5_readTune_115 : decode cX5_readTune 115 = .ok (.iinc 3 1, 3) := by decide +kernel
theorem dX5_readTune_118 : decode cX5_readTune 118 = .ok (.goto (-53), 3) := by decide +kernel
theorem dX5_readTune_121 : decode cX5_readTune 121 = .ok (.aload_n 0, 1) := by decide +kernel
theorem dX5_readTune_122 : decode cX5_readTune 122 = .ok (.getfield 13, 3) := by decide +kernel
theorem dX5_readTune_125 : decode cX5_readTune 125 = .ok (.iconst 4, 1) := by decide +kernel
theorem dX5_readTune_126 : decode cX5_readTune 126 = .ok (.iload_n 2, 1) := by decide +kernel
theorem dX5_readTune_127 : decode cX5_readTune 127 = .ok (.iadd, 1) := by decide +kernel
theorem dX5_readTune_128 : decode cX5_readTune 128 = .ok (.iload_n 3, 1) := by decide +kernel
theorem dX5_readTune_129 : decode cX5_readTune 129 = .ok (.iastore, 1) := by decide +kernel
theorem dX5_readTune_130 : decode cX5_readTune 130 = .ok (.aload_n 0, 1) := by decide +kernel
theorem dX5_readTune_131 : decode cX5_readTune 131 = .ok (.dup, 1) := by decide +kernel
theorem dX5_readTune_132 : decode cX5_readTune 132 = .ok (.getfield 113, 3) := by decide +kernel
theorem dX5_readTune_135 : decode cX5_readTune 135 = .ok (.iconst 1, 1) := by decide +kernel
theorem dX5_readTune_136 : decode cX5_readTune 136 = .ok (.iadd, 1) := by decide +kernel
theorem dX5_readTune_137 : decode cX5_readTune 137 = .ok (.putfield 113, 3) := by decide +kernel
theorem dX5_readTune_140 : decode cX5_readTune 140 = .ok (.return_, 1) := by decide +kernel
theorem dX5_readMore_0 : decode cX5_readMore 0 = .ok (.iload_n 1, 1) := by decide +kernel
theorem dX5_readMore_1 : decode cX5_readMore 1 = .ok (.iconst 3, 1) := by decide +kernel
theorem dX5_readMore_2 : decode cX5_readMore 2 = .ok (.if_icmp .gt 11, 3) := by decide +kernel
theorem dX5_readMore_5 : decode cX5_readMore 5 = .ok (.aload_n 0, 1) := by decide +kernel
theorem dX5_readMore_6 : decode cX5_readMore 6 = .ok (.iload_n 1, 1) := by decide +kernel
theorem dX5_readMore_7 : decode cX5_readMore 7 = .ok (.invokevirtual 116, 3) := by decide +kernel
theorem dX5_readMore_10 : decode cX5_readMore 10 = .ok (.goto 120, 3) := by decide +kernel
theorem dX5_readMore_13 : decode cX5_readMore 13 = .ok (.iload_n 1, 1) := by decide +kernel
theorem dX5_readMore_14 : decode cX5_readMore 14 = .ok (.iconst 4, 1) := by decide +kernel
theorem dX5_readMore_15 : decode cX5_readMore 15 = .ok (.if_icmp .ne 89, 3) := by decide +kernel
theorem dX5_readMore_18 : decode cX5_readMore 18 = .ok (.aload_n 0, 1) := by decide +kernel
theorem dX5_readMore_19 : decode cX5_readMore 19 = .ok (.getfield 13, 3) := by decide +kernel
theorem dX5_readMore_22 : decode cX5_readMore 22 = .ok (.bipush 48, 2) := by decide +kernel
theorem dX5_readMore_24 : decode cX5_readMore 24 = .ok (.aload_n 0, 1) := by decide +kernel
theorem dX5_readMore_25 : decode cX5_readMore 25 = .ok (.getfield 119, 3) := by decide +kernel
theorem dX5_readMore_28 : decode cX5_readMore 28 = .ok (.iadd, 1) := by decide +kernel
theorem dX5_readMore_29 : decode cX5_readMore 29 = .ok (.aload_n 0, 1) := by decide +kernel
theorem dX5_readMore_30 : decode cX5_readMore 30 = .ok (.iconst 0, 1) := by decide +kernel
theorem dX5_readMore_31 : decode cX5_readMore 31 = .ok (.bipush 9, 2) := by decide +kernel
theorem dX5_readMore_33 : decode cX5_readMore 33 = .ok (.invokevirtual 106, 3) := by decide +kernel
theorem dX5_readMore_36 : decode cX5_readMore 36 = .ok (.iastore, 1) := by decide +kernel
theorem dX5_readMore_37 : decode cX5_readMore 37 = .ok (.aload_n 0, 1) := by decide +kernel
theorem dX5_readMore_38 : decode cX5_readMore 38 = .ok (.getfield 13, 3) := by decide +kernel
theorem dX5_readMore_41 : decode cX5_readMore 41 = .ok (.bipush 52, 2) := by decide +kernel
theorem dX5_readMore_43 : decode cX5_readMore 43 = .ok (.aload_n 0, 1) := by decide +kernel
theorem dX5_readMore_44 : decode cX5_readMore 44 = .ok (.getfield 119, 3) := by decide +kernel
theorem dX5_readMore_47 : decode cX5_readMore 47 = .ok (.iadd, 1) := by decide +kernel
theorem dX5_readMore_48 : decode cX5_readMore 48 = .ok (.aload_n 0, 1) := by decide +kernel
theorem dX5_readMore_49 : decode cX5_readMore 49 = .ok (.iconst 1, 1) := by decide +kernel
theorem dX5_readMore_50 : decode cX5_readMore 50 = .ok (.bipush 99, 2) := by decide +kernel
theorem dX5_readMore_52 : decode cX5_readMore 52 = .ok (.invokevirtual 106, 3) := by decide +kernel
theorem dX5_readMore_55 : decode cX5_readMore 55 = .ok (.iastore, 1) := by decide +kernel
theorem dX5_readMore_56 : decode cX5_readMore 56 = .ok (.aload_n 0, 1) := by decide +kernel
theorem dX5_readMore_57 : decode cX5_readMore 57 = .ok (.getfield 13, 3) := by decide +kernel
theorem dX5_readMore_60 : decode cX5_readMore 60 = .ok (.bipush 56, 2) := by decide +kernel
theorem dX5_readMore_62 : decode cX5_readMore 62 = .ok (.aload_n 0, 1) := by decide +kernel
theorem dX5_readMore_63 : decode cX5_readMore 63 = .ok (.getfield 119, 3) := by decide +kernel
theorem dX5_readMore_66 : decode cX5_readMore 66 = .ok (.iadd, 1) := by decide +kernel
theorem dX5_readMore_67 : decode cX5_readMore 67 = .ok (.aload_n 0, 1) := by decide +kernel
theorem dX5_readMore_68 : decode cX5_readMore 68 = .ok (.iconst 0, 1) := by decide +kernel
theorem dX5_readMore_69 : decode cX5_readMore 69 = .ok (.bipush 9, 2) := by decide +kernel
theorem dX5_readMore_71 : decode cX5_readMore 71 = .ok (.invokevirtual 106, 3) := by decide +kernel
theorem dX5_readMore_74 : decode cX5_readMore 74 = .ok (.iastore, 1) := by decide +kernel
theorem dX5_readMore_75 : decode cX5_readMore 75 = .ok (.aload_n 0, 1) := by decide +kernel
theorem dX5_readMore_76 : decode cX5_readMore 76 = .ok (.getfield 13, 3) := by decide +kernel
theorem dX5_readMore_79 : decode cX5_readMore 79 = .ok (.bipush 60, 2) := by decide +kernel
theorem dX5_readMore_81 : decode cX5_readMore 81 = .ok (.aload_n 0, 1) := by decide +kernel
theorem dX5_readMore_82 : decode cX5_readMore 82 = .ok (.getfield 119, 3) := by decide +kernel
theorem dX5_readMore_85 : decode cX5_readMore 85 = .ok (.iadd, 1) := by decide +kernel
theorem dX5_readMore_86 : decode cX5_readMore 86 = .ok (.aload_n 0, 1) := by decide +kernel
theorem dX5_readMore_87 : decode cX5_readMore 87 = .ok (.invokevirtual 122, 3) := by decide +kernel
theorem dX5_readMore_90 : decode cX5_readMore 90 = .ok (.iastore, 1) := by decide +kernel
theorem dX5_readMore_91 : decode cX5_readMore 91 = .ok (.aload_n 0, 1) := by decide +kernel
theorem dX5_readMore_92 : decode cX5_readMore 92 = .ok (.dup, 1) := by decide +kernel
theorem dX5_readMore_93 : decode cX5_readMore 93 = .ok (.getfield 119, 3) := by decide +kernel
theorem dX5_readMore_96 : decode cX5_readMore 96 = .ok (.iconst 1, 1) := by decide +kernel
theorem dX5_readMore_97 : decode cX5_readMore 97 = .ok (.iadd, 1) := by decide +kernel
theorem dX5_readMore_98 : decode cX5_readMore 98 = .ok (.putfield 119, 3) := by decide +kernel
theorem dX5_readMore_101 : decode cX5_readMore 101 = .ok (.goto 29, 3) := by decide +kernel
theorem dX5_readMore_104 : decode cX5_readMore 104 = .ok (.aload_n 0, 1) := by decide +kernel
theorem dX5_readMore_105 : decode cX5_readMore 105 = .ok (.getfield 13, 3) := by decide +kernel
theorem dX5_readMore_108 : decode cX5_readMore 108 = .ok (.bipush 64, 2) := by decide +kernel
theorem dX5_readMore_110 : decode cX5_readMore 110 = .ok (.aload_n 0, 1) := by decide +kernel
theorem dX5_readMore_111 : decode cX5_readMore 111 = .ok (.getfield 126, 3) := by decide +kernel
theorem dX5_readMore_114 : decode cX5_readMore 114 = .ok (.iadd, 1) := by decide +kernel
theorem dX5_readMore_115 : decode cX5_readMore 115 = .ok (.aload_n 0, 1) := by decide +kernel
theorem dX5_readMore_116 : decode cX5_readMore 116 = .ok (.invokevirtual 122, 3) := by decide +kernel
theorem dX5_readMore_119 : decode cX5_readMore 119 = .ok (.iastore, 1) := by decide +kernel
theorem dX5_readMore_120 : decode cX5_readMore 120 = .ok (.aload_n 0, 1) := by decide +kernel
theorem dX5_readMore_121 : decode cX5_readMore 121 = .ok (.dup, 1) := by decide +kernel
theorem dX5_readMore_122 : decode cX5_readMore 122 = .ok (.getfield 126, 3) := by decide +kernel
theorem dX5_readMore_125 : decode cX5_readMore 125 = .ok (.iconst 1, 1) := by decide +kernel
theorem dX5_readMore_126 : decode cX5_readMore 126 = .ok (.iadd, 1) := by decide +kernel
theorem dX5_readMore_127 : decode cX5_readMore 127 = .ok (.putfield 126, 3) := by decide +kernel
theorem dX5_readMore_130 : decode cX5_readMore 130 = .ok (.return_, 1) := by decide +kernel
theorem dX5_readLine_0 : decode cX5_readLine 0 = .ok (.aload_n 0, 1) := by decide +kernel
theorem dX5_readLine_1 : decode cX5_readLine 1 = .ok (.invokevirtual 129, 3) := by decide +kernel
theorem dX5_readLine_4 : decode cX5_readLine 4 = .ok (.istore_n 1, 1) := by decide +kernel
theorem dX5_readLine_5 : decode cX5_readLine 5 = .ok (.iload_n 1, 1) := by decide +kernel
theorem dX5_readLine_6 : decode cX5_readLine 6 = .ok (.i2l, 1) := by decide +kernel
theorem dX5_readLine_7 : decode cX5_readLine 7 = .ok (.lconst 0, 1) := by decide +kernel
theorem dX5_readLine_8 : decode cX5_readLine 8 = .ok (.ldc2_w 132, 3) := by decide +kernel
theorem dX5_readLine_11 : decode cX5_readLine 11 = .ok (.invokestatic 61, 3) := by decide +kernel
theorem dX5_readLine_14 : decode cX5_readLine 14 = .ok (.ifCond .ne 9, 3) := by decide +kernel
theorem dX5_readLine_17 : decode cX5_readLine 17 = .ok (.aload_n 0, 1) := by decide +kernel
theorem dX5_readLine_18 : decode cX5_readLine 18 = .ok (.iconst 2, 1) := by decide +kernel
theorem dX5_readLine_19 : decode cX5_readLine 19 = .ok (.invokevirtual 99, 3) := by decide +kernel
theorem dX5_readLine_22 : decode cX5_readLine 22 = .ok (.return_, 1) := by decide +kernel
theorem dX5_readLine_23 : decode cX5_readLine 23 = .ok (.iload_n 1, 1) := by decide +kernel
theorem dX5_readLine_24 : decode cX5_readLine 24 = .ok (.iconst 3, 1) := by decide +kernel
theorem dX5_readLine_25 : decode cX5_readLine 25 = .ok (.if_icmp .gt 11, 3) := by decide +kernel
theorem dX5_readLine_28 : decode cX5_readLine 28 = .ok (.aload_n 0, 1) := by decide +kernel
theorem dX5_readLine_29 : decode cX5_readLine 29 = .ok (.getfield 113, 3) := by decide +kernel
theorem dX5_readLine_32 : decode cX5_readLine 32 = .ok (.iconst 4, 1) := by decide +kernel
theorem dX5_readLine_33 : decode cX5_readLine 33 = .ok (.if_icmp .eq 30, 3) := by decide +kernel
theorem dX5_readLine_36 : decode cX5_readLine 36 = .ok (.iload_n 1, 1) := by decide +kernel
theorem dX5_readLine_37 : decode cX5_readLine 37 = .ok (.iconst 4, 1) := by decide +kernel
theorem dX5_readLine_38 : decode cX5_readLine 38 = .ok (.if_icmp .ne 11, 3) := by decide +kernel
theorem dX5_readLine_41 : decode cX5_readLine 41 = .ok (.aload_n 0, 1) := by decide +kernel
theorem dX5_readLine_42 : decode cX5_readLine 42 = .ok (.getfield 119, 3) := by decide +kernel
theorem dX5_readLine_45 : decode cX5_readLine 45 = .ok (.iconst 4, 1) := by decide +kernel
theorem dX5_readLine_46 : decode cX5_readLine 46 = .ok (.if_icmp .eq 17, 3) := by decide +kernel
theorem dX5_readLine_49 : decode cX5_readLine 49 = .ok (.iload_n 1, 1) := by decide +kernel
theorem dX5_readLine_50 : decode cX5_readLine 50 = .ok (.iconst 5, 1) := by decide +kernel
theorem dX5_readLine_51 : decode cX5_readLine 51 = .ok (.if_icmp .ne 17, 3) := by decide +kernel
theorem dX5_readLine_54 : decode cX5_readLine 54 = .ok (.aload_n 0, 1) := by decide +kernel
theorem dX5_readLine_55 : decode cX5_readLine 55 = .ok (.getfield 126, 3) := by decide +kernel
theorem dX5_readLine_58 : decode cX5_readLine 58 = .ok (.bipush 6, 2) := by decide +kernel
theorem dX5_readLine_60 : decode cX5_readLine 60 = .ok (.if_icmp .ne 8, 3) := by decide +kernel
theorem dX5_readLine_63 : decode cX5_readLine 63 = .ok (.aload_n 0, 1) := by decide +kernel
theorem dX5_readLine_64 : decode cX5_readLine 64 = .ok (.iconst 5, 1) := by decide +kernel
theorem dX5_readLine_65 : decode cX5_readLine 65 = .ok (.invokevirtual 99, 3) := by decide +kernel
theorem dX5_readLine_68 : decode cX5_readLine 68 = .ok (.aload_n 0, 1) := by decide +kernel
theorem dX5_readLine_69 : decode cX5_readLine 69 = .ok (.invokevirtual 103, 3) := by decide +kernel
theorem dX5_readLine_72 : decode cX5_readLine 72 = .ok (.aload_n 0, 1) := by decide +kernel
theorem dX5_readLine_73 : decode cX5_readLine 73 = .ok (.getfield 69, 3) := by decide +kernel
theorem dX5_readLine_76 : decode cX5_readLine 76 = .ok (.ifCond .le 4, 3) := by decide +kernel
theorem dX5_readLine_79 : decode cX5_readLine 79 = .ok (.return_, 1) := by decide +kernel
theorem dX5_readLine_80 : decode cX5_readLine 80 = .ok (.aload_n 0, 1) := by decide +kernel
theorem dX5_readLine_81 : decode cX5_readLine 81 = .ok (.iload_n 1, 1) := by decide +kernel
theorem dX5_readLine_82 : decode cX5_readLine 82 = .ok (.invokevirtual 134, 3) := by decide +kernel
theorem dX5_readLine_85 : decode cX5_readLine 85 = .ok (.aload_n 0, 1) := by decide +kernel
theorem dX5_readLine_86 : decode cX5_readLine 86 = .ok (.getfield 69, 3) := by decide +kernel
theorem dX5_readLine_89 : decode cX5_readLine 89 = .ok (.ifCond .ne 16, 3) := by decide +kernel
theorem dX5_readLine_92 : decode cX5_readLine 92 = .ok (.aload_n 0, 1) := by decide +kernel
theorem dX5_readLine_93 : decode cX5_readLine 93 = .ok (.getfield 78, 3) := by decide +kernel
theorem dX5_readLine_96 : decode cX5_readLine 96 = .ok (.iconst 3, 1) := by decide +kernel
theorem dX5_readLine_97 : decode cX5_readLine 97 = .ok (.if_icmp .eq 8, 3) := by decide +kernel
theorem dX5_readLine_100 : decode cX5_readLine 100 = .ok (.aload_n 0, 1) := by decide +kernel
theorem dX5_readLine_101 : decode cX5_readLine 101 = .ok (.iconst 2, 1) := by decide +kernel
theorem dX5_readLine_102 : decode cX5_readLine 102 = .ok (.invokevirtual 99, 3) := by decide +kernel
theorem dX5_readLine_105 : decode cX5_readLine 105 = .ok (.aload_n 0, 1) := by decide +kernel
theorem dX5_readLine_106 : decode cX5_readLine 106 = .ok (.invokevirtual 103, 3) := by decide +kernel
theorem dX5_readLine_109 : decode cX5_readLine 109 = .ok (.return_, 1) := by decide +kernel
theorem dX5_text_0 : decode cX5_text 0 = .ok (.aload_n 0, 1) := by decide +kernel
theorem dX5_text_1 : decode cX5_text 1 = .ok (.iconst 0, 1) := by decide +kernel
theorem dX5_text_2 : decode cX5_text 2 = .ok (.putfield 69, 3) := by decide +kernel
theorem dX5_text_5 : decode cX5_text 5 = .ok (.aload_n 0, 1) := by decide +kernel
theorem dX5_text_6 : decode cX5_text 6 = .ok (.iconst 0, 1) := by decide +kernel
theorem dX5_text_7 : decode cX5_text 7 = .ok (.putfield 81, 3) := by decide +kernel
theorem dX5_text_10 : decode cX5_text 10 = .ok (.aload_n 0, 1) := by decide +kernel
theorem dX5_text_11 : decode cX5_text 11 = .ok (.iconst 0, 1) := by decide +kernel
theorem dX5_text_12 : decode cX5_text 12 = .ok (.putfield 113, 3) := by decide +kernel
theorem dX5_text_15 : decode cX5_text 15 = .ok (.aload_n 0, 1) := by decide +kernel
theorem dX5_text_16 : decode cX5_text 16 = .ok (.iconst 0, 1) := by decide +kernel
theorem dX5_text_17 : decode cX5_text 17 = .ok (.putfield 119, 3) := by decide +kernel
theorem dX5_text_20 : decode cX5_text 20 = .ok (.aload_n 0, 1) := by decide +kernel
theorem dX5_text_21 : decode cX5_text 21 = .ok (.iconst 0, 1) := by decide +kernel
theorem dX5_text_22 : decode cX5_text 22 = .ok (.putfield 126, 3) := by decide +kernel
theorem dX5_text_25 : decode cX5_text 25 = .ok (.aload_n 0, 1) := by decide +kernel
theorem dX5_text_26 : decode cX5_text 26 = .ok (.iconst (-1), 1) := by decide +kernel
theorem dX5_text_27 : decode cX5_text 27 = .ok (.putfield 110, 3) := by decide +kernel
theorem dX5_text_30 : decode cX5_text 30 = .ok (.iconst 0, 1) := by decide +kernel
theorem dX5_text_31 : decode cX5_text 31 = .ok (.istore_n 1, 1) := by decide +kernel
theorem dX5_text_32 : decode cX5_text 32 = .ok (.iconst 0, 1) := by decide +kernel
theorem dX5_text_33 : decode cX5_text 33 = .ok (.istore_n 2, 1) := by decide +kernel
theorem dX5_text_34 : decode cX5_text 34 = .ok (.iload_n 2, 1) := by decide +kernel
theorem dX5_text_35 : decode cX5_text 35 = .ok (.bipush 70, 2) := by decide +kernel
theorem dX5_text_37 : decode cX5_text 37 = .ok (.if_icmp .ge 16, 3) := by decide +kernel
theorem dX5_text_40 : decode cX5_text 40 = .ok (.aload_n 0, 1) := by decide +kernel
theorem dX5_text_41 : decode cX5_text 41 = .ok (.getfield 13, 3) := by decide +kernel
theorem dX5_text_44 : decode cX5_text 44 = .ok (.iload_n 2, 1) := by decide +kernel
theorem dX5_text_45 : decode cX5_text 45 = .ok (.iconst 0, 1) := by decide +kernel
theorem dX5_text_46 : decode cX5_text 46 = .ok (.iastore, 1) := by decide +kernel
theorem dX5_text_47 : decode cX5_text 47 = .ok (.iinc 2 1, 3) := by decide +kernel
theorem dX5_text_50 : decode cX5_text 50 = .ok (.goto (-16), 3) := by decide +kernel
theorem dX5_text_53 : decode cX5_text 53 = .ok (.aload_n 0, 1) := by decide +kernel
theorem dX5_text_54 : decode cX5_text 54 = .ok (.invokevirtual 103, 3) := by decide +kernel
theorem dX5_text_57 : decode cX5_text 57 = .ok (.aload_n 0, 1) := by decide +kernel
theorem dX5_text_58 : decode cX5_text 58 = .ok (.getfield 69, 3) := by decide +kernel
theorem dX5_text_61 : decode cX5_text 61 = .ok (.ifCond .ne 20, 3) := by decide +kernel
theorem dX5_text_64 : decode cX5_text 64 = .ok (.aload_n 0, 1) := by decide +kernel
theorem dX5_text_65 : decode cX5_text 65 = .ok (.getfield 78, 3) := by decide +kernel
theorem dX5_text_68 : decode cX5_text 68 = .ok (.ifCond .eq 13, 3) := by decide +kernel
theorem dX5_text_71 : decode cX5_text 71 = .ok (.aload_n 0, 1) := by decide +kernel
theorem dX5_text_72 : decode cX5_text 72 = .ok (.invokevirtual 137, 3) := by decide +kernel
theorem dX5_text_75 : decode cX5_text 75 = .ok (.iinc 1 1, 3) := by decide +kernel
theorem dX5_text_78 : decode cX5_text 78 = .ok (.goto (-21), 3) := by decide +kernel
theorem dX5_text_81 : decode cX5_text 81 = .ok (.aload_n 0, 1) := by decide +kernel
theorem dX5_text_82 : decode cX5_text 82 = .ok (.getfield 69, 3) := by decide +kernel
theorem dX5_text_85 : decode cX5_text 85 = .ok (.ifCond .ne 20, 3) := by decide +kernel
theorem dX5_text_88 : decode cX5_text 88 = .ok (.aload_n 0, 1) := by decide +kernel
theorem dX5_text_89 : decode cX5_text 89 = .ok (.getfield 110, 3) := by decide +kernel
theorem dX5_text_92 : decode cX5_text 92 = .ok (.aload_n 0, 1) := by decide +kernel
theorem dX5_text_93 : decode cX5_text 93 = .ok (.getfield 113, 3) := by decide +kernel
theorem dX5_text_96 : decode cX5_text 96 = .ok (.if_icmp .lt 9, 3) := by decide +kernel
theorem dX5_text_99 : decode cX5_text 99 = .ok (.aload_n 0, 1) := by decide +kernel
theorem dX5_text_100 : decode cX5_text 100 = .ok (.bipush 6, 2) := by decide +kernel
theorem dX5_text_102 : decode cX5_text 102 = .ok (.invokevirtual 99, 3) := by decide +kernel
theorem dX5_text_105 : decode cX5_text 105 = .ok (.aload_n 0, 1) := by decide +kernel
theorem dX5_text_106 : decode cX5_text 106 = .ok (.iconst 0, 1) := by decide +kernel
theorem dX5_text_107 : decode cX5_text 107 = .ok (.putfield 65, 3) := by decide +kernel
theorem dX5_text_110 : decode cX5_text 110 = .ok (.aload_n 0, 1) := by decide +kernel
theorem dX5_text_111 : decode cX5_text 111 = .ok (.aload_n 0, 1) := by decide +kernel
theorem dX5_text_112 : decode cX5_text 112 = .ok (.getfield 69, 3) := by decide +kernel
theorem dX5_text_115 : decode cX5_text 115 = .ok (.putfield 140, 3) := by decide +kernel
theorem dX5_text_118 : decode cX5_text 118 = .ok (.aload_n 0, 1) := by decide +kernel
theorem dX5_text_119 : decode cX5_text 119 = .ok (.getfield 69, 3) := by decide +kernel
theorem dX5_text_122 : decode cX5_text 122 = .ok (.ifCond .le 11, 3) := by decide +kernel
theorem dX5_text_125 : decode cX5_text 125 = .ok (.bipush (-10), 2) := by decide +kernel
theorem dX5_text_127 : decode cX5_text 127 = .ok (.aload_n 0, 1) := by decide +kernel
theorem dX5_text_128 : decode cX5_text 128 = .ok (.getfield 75, 3) := by decide +kernel
theorem dX5_text_131 : decode cX5_text 131 = .ok (.isub, 1) := by decide +kernel
theorem dX5_text_132 : decode cX5_text 132 = .ok (.ireturn, 1) := by decide +kernel
theorem dX5_text_133 : decode cX5_text 133 = .ok (.iconst 0, 1) := by decide +kernel
theorem dX5_text_134 : decode cX5_text 134 = .ok (.istore_n 2, 1) := by decide +kernel
theorem dX5_text_135 : decode cX5_text 135 = .ok (.iload_n 2, 1) := by decide +kernel
theorem dX5_text_136 : decode cX5_text 136 = .ok (.bipush 70, 2) := by decide +kernel
theorem dX5_text_138 : decode cX5_text 138 = .ok (.if_icmp .ge 21, 3) := by decide +kernel
theorem dX5_text_141 : decode cX5_text 141 = .ok (.aload_n 0, 1) := by decide +kernel
theorem dX5_text_142 : decode cX5_text 142 = .ok (.getfield 7, 3) := by decide +kernel
theorem dX5_text_145 : decode cX5_text 145 = .ok (.iload_n 2, 1) := by decide +kernel
theorem dX5_text_146 : decode cX5_text 146 = .ok (.aload_n 0, 1) := by decide +kernel
theorem dX5_text_147 : decode cX5_text 147 = .ok (.getfield 13, 3) := by decide +kernel
theorem dX5_text_150 : decode cX5_text 150 = .ok (.iload_n 2, 1) := by decide +kernel
theorem dX5_text_151 : decode cX5_text 151 = .ok (.iaload, 1) := by decide +kernel
theorem dX5_text_152 : decode cX5_text 152 = .ok (.iastore, 1) := by decide +kernel
theorem dX5_text_153 : decode cX5_text 153 = .ok (.iinc 2 1, 3) := by decide +kernel
theorem dX5_text_156 : decode cX5_text 156 = .ok (.goto (-21), 3) := by decide +kernel
theorem dX5_text_159 : decode cX5_text 159 = .ok (.aload_n 0, 1) := by decide +kernel
theorem dX5_text_160 : decode cX5_text 160 = .ok (.aload_n 0, 1) := by decide +kernel
theorem dX5_text_161 : decode cX5_text 161 = .ok (.getfield 113, 3) := by decide +kernel
theorem dX5_text_164 : decode cX5_text 164 = .ok (.putfield 143, 3) := by decide +kernel
theorem dX5_text_167 : decode cX5_text 167 = .ok (.aload_n 0, 1) := by decide +kernel
theorem dX5_text_168 : decode cX5_text 168 = .ok (.aload_n 0, 1) := by decide +kernel
theorem dX5_text_169 : decode cX5_text 169 = .ok (.getfield 119, 3) := by decide +kernel
theorem dX5_text_172 : decode cX5_text 172 = .ok (.putfield 146, 3) := by decide +kernel
theorem dX5_text_175 : decode cX5_text 175 = .ok (.aload_n 0, 1) := by decide +kernel
theorem dX5_text_176 : decode cX5_text 176 = .ok (.aload_n 0, 1) := by decide +kernel
theorem dX5_text_177 : decode cX5_text 177 = .ok (.getfield 126, 3) := by decide +kernel
theorem dX5_text_180 : decode cX5_text 180 = .ok (.putfield 149, 3) := by decide +kernel
theorem dX5_text_183 : decode cX5_text 183 = .ok (.aload_n 0, 1) := by decide +kernel
theorem dX5_text_184 : decode cX5_text 184 = .ok (.iconst 0, 1) := by decide +kernel
theorem dX5_text_185 : decode cX5_text 185 = .ok (.putfield 152, 3) := by decide +kernel
theorem dX5_text_188 : decode cX5_text 188 = .ok (.aload_n 0, 1) := by decide +kernel
theorem dX5_text_189 : decode cX5_text 189 = .ok (.getfield 46, 3) := by decide +kernel
theorem dX5_text_192 : decode cX5_text 192 = .ok (.iconst 0, 1) := by decide +kernel
theorem dX5_text_193 : decode cX5_text 193 = .ok (.iconst 0, 1) := by decide +kernel
theorem dX5_text_194 : decode cX5_text 194 = .ok (.bastore, 1) := by decide +kernel
theorem dX5_text_195 : decode cX5_text 195 = .ok (.aload_n 0, 1) := by decide +kernel
theorem dX5_text_196 : decode cX5_text 196 = .ok (.getfield 46, 3) := by decide +kernel
theorem dX5_text_199 : decode cX5_text 199 = .ok (.iconst 1, 1) := by decide +kernel
theorem dX5_text_200 : decode cX5_text 200 = .ok (.iconst 0, 1) := by decide +kernel
theorem dX5_text_201 : decode cX5_text 201 = .ok (.bastore, 1) := by decide +kernel
theorem dX5_text_202 : decode cX5_text 202 = .ok (.iload_n 1, 1) := by decide +kernel
theorem dX5_text_203 : decode cX5_text 203 = .ok (.ireturn, 1) := by decide +kernel
theorem dX5_fault_0 : decode cX5_fault 0 = .ok (.aload_n 0, 1) := by decide +kernel
theorem dX5_fault_1 : decode cX5_fault 1 = .ok (.getfield 140, 3) := by decide +kernel
theorem dX5_fault_4 : decode cX5_fault 4 = .ok (.ireturn, 1) := by decide +kernel
theorem dX5_isTune_0 : decode cX5_isTune 0 = .ok (.iload_n 1, 1) := by decide +kernel
theorem dX5_isTune_1 : decode cX5_isTune 1 = .ok (.i2l, 1) := by decide +kernel
theorem dX5_isTune_2 : decode cX5_isTune 2 = .ok (.lconst 0, 1) := by decide +kernel
theorem dX5_isTune_3 : decode cX5_isTune 3 = .ok (.aload_n 0, 1) := by decide +kernel
theorem dX5_isTune_4 : decode cX5_isTune 4 = .ok (.getfield 143, 3) := by decide +kernel
theorem dX5_isTune_7 : decode cX5_isTune 7 = .ok (.iconst 1, 1) := by decide +kernel
theorem dX5_isTune_8 : decode cX5_isTune 8 = .ok (.isub, 1) := by decide +kernel
theorem dX5_isTune_9 : decode cX5_isTune 9 = .ok (.i2l, 1) := by decide +kernel
theorem dX5_isTune_10 : decode cX5_isTune 10 = .ok (.invokestatic 61, 3) := by decide +kernel
theorem dX5_isTune_13 : decode cX5_isTune 13 = .ok (.ireturn, 1) := by decide +kernel
theorem dX5_isPlayer_0 : decode cX5_isPlayer 0 = .ok (.iload_n 1, 1) := by decide +kernel
theorem dX5_isPlayer_1 : decode cX5_isPlayer 1 = .ok (.i2l, 1) := by decide +kernel
theorem dX5_isPlayer_2 : decode cX5_isPlayer 2 = .ok (.lconst 0, 1) := by decide +kernel
theorem dX5_isPlayer_3 : decode cX5_isPlayer 3 = .ok (.aload_n 0, 1) := by decide +kernel
theorem dX5_isPlayer_4 : decode cX5_isPlayer 4 = .ok (.getfield 146, 3) := by decide +kernel
theorem dX5_isPlayer_7 : decode cX5_isPlayer 7 = .ok (.iconst 1, 1) := by decide +kernel
theorem dX5_isPlayer_8 : decode cX5_isPlayer 8 = .ok (.isub, 1) := by decide +kernel
theorem dX5_isPlayer_9 : decode cX5_isPlayer 9 = .ok (.i2l, 1) := by decide +kernel
theorem dX5_isPlayer_10 : decode cX5_isPlayer 10 = .ok (.invokestatic 61, 3) := by decide +kernel
theorem dX5_isPlayer_13 : decode cX5_isPlayer 13 = .ok (.ireturn, 1) := by decide +kernel
theorem dX5_isBound_0 : decode cX5_isBound 0 = .ok (.iload_n 1, 1) := by decide +kernel
theorem dX5_isBound_1 : decode cX5_isBound 1 = .ok (.i2l, 1) := by decide +kernel
theorem dX5_isBound_2 : decode cX5_isBound 2 = .ok (.lconst 0, 1) := by decide +kernel
theorem dX5_isBound_3 : decode cX5_isBound 3 = .ok (.aload_n 0, 1) := by decide +kernel
theorem dX5_isBound_4 : decode cX5_isBound 4 = .ok (.getfield 149, 3) := by decide +kernel
theorem dX5_isBound_7 : decode cX5_isBound 7 = .ok (.iconst 1, 1) := by decide +kernel
theorem dX5_isBound_8 : decode cX5_isBound 8 = .ok (.isub, 1) := by decide +kernel
theorem dX5_isBound_9 : decode cX5_isBound 9 = .ok (.i2l, 1) := by decide +kernel
theorem dX5_isBound_10 : decode cX5_isBound 10 = .ok (.invokestatic 61, 3) := by decide +kernel
theorem dX5_isBound_13 : decode cX5_isBound 13 = .ok (.ireturn, 1) := by decide +kernel
theorem dX5_rule_0 : decode cX5_rule 0 = .ok (.iload_n 1, 1) := by decide +kernel
theorem dX5_rule_1 : decode cX5_rule 1 = .ok (.ifCond .ne 10, 3) := by decide +kernel
theorem dX5_rule_4 : decode cX5_rule 4 = .ok (.aload_n 0, 1) := by decide +kernel
theorem dX5_rule_5 : decode cX5_rule 5 = .ok (.getfield 143, 3) := by decide +kernel
theorem dX5_rule_8 : decode cX5_rule 8 = .ok (.goto 28, 3) := by decide +kernel
theorem dX5_rule_11 : decode cX5_rule 11 = .ok (.iload_n 1, 1) := by decide +kernel
theorem dX5_rule_12 : decode cX5_rule 12 = .ok (.iconst 1, 1) := by decide +kernel
theorem dX5_rule_13 : decode cX5_rule 13 = .ok (.if_icmp .ne 10, 3) := by decide +kernel
theorem dX5_rule_16 : decode cX5_rule 16 = .ok (.aload_n 0, 1) := by decide +kernel
theorem dX5_rule_17 : decode cX5_rule 17 = .ok (.getfield 146, 3) := by decide +kernel
theorem dX5_rule_20 : decode cX5_rule 20 = .ok (.goto 16, 3) := by decide +kernel
theorem dX5_rule_23 : decode cX5_rule 23 = .ok (.iload_n 1, 1) := by decide +kernel
theorem dX5_rule_24 : decode cX5_rule 24 = .ok (.iconst 2, 1) := by decide +kernel
theorem dX5_rule_25 : decode cX5_rule 25 = .ok (.if_icmp .ne 10, 3) := by decide +kernel
theorem dX5_rule_28 : decode cX5_rule 28 = .ok (.aload_n 0, 1) := by decide +kernel
theorem dX5_rule_29 : decode cX5_rule 29 = .ok (.getfield 149, 3) := by decide +kernel
theorem dX5_rule_32 : decode cX5_rule 32 = .ok (.goto 4, 3) := by decide +kernel
theorem dX5_rule_35 : decode cX5_rule 35 = .ok (.iconst (-1), 1) := by decide +kernel
theorem dX5_rule_36 : decode cX5_rule 36 = .ok (.ireturn, 1) := by decide +kernel
theorem dX5_rowOf_0 : decode cX5_rowOf 0 = .ok (.iload_n 0, 1) := by decide +kernel
theorem dX5_rowOf_1 : decode cX5_rowOf 1 = .ok (.iconst 1, 1) := by decide +kernel
theorem dX5_rowOf_2 : decode cX5_rowOf 2 = .ok (.if_icmp .ne 13, 3) := by decide +kernel
theorem dX5_rowOf_5 : decode cX5_rowOf 5 = .ok (.iload_n 1, 1) := by decide +kernel
theorem dX5_rowOf_6 : decode cX5_rowOf 6 = .ok (.iload_n 1, 1) := by decide +kernel
theorem dX5_rowOf_7 : decode cX5_rowOf 7 = .ok (.iconst 1, 1) := by decide +kernel
theorem dX5_rowOf_8 : decode cX5_rowOf 8 = .ok (.iadd, 1) := by decide +kernel
theorem dX5_rowOf_9 : decode cX5_rowOf 9 = .ok (.iconst 2, 1) := by decide +kernel
theorem dX5_rowOf_10 : decode cX5_rowOf 10 = .ok (.idiv, 1) := by decide +kernel
theorem dX5_rowOf_11 : decode cX5_rowOf 11 = .ok (.iadd, 1) := by decide +kernel
theorem dX5_rowOf_12 : decode cX5_rowOf 12 = .ok (.goto 15, 3) := by decide +kernel
theorem dX5_rowOf_15 : decode cX5_rowOf 15 = .ok (.iload_n 0, 1) := by decide +kernel
theorem dX5_rowOf_16 : decode cX5_rowOf 16 = .ok (.iconst 2, 1) := by decide +kernel
theorem dX5_rowOf_17 : decode cX5_rowOf 17 = .ok (.if_icmp .ne 9, 3) := by decide +kernel
theorem dX5_rowOf_20 : decode cX5_rowOf 20 = .ok (.iconst 2, 1) := by decide +kernel
theorem dX5_rowOf_21 : decode cX5_rowOf 21 = .ok (.iload_n 1, 1) := by decide +kernel
theorem dX5_rowOf_22 : decode cX5_rowOf 22 = .ok (.imul, 1) := by decide +kernel
theorem dX5_rowOf_23 : decode cX5_rowOf 23 = .ok (.goto 4, 3) := by decide +kernel
theorem dX5_rowOf_26 : decode cX5_rowOf 26 = .ok (.iload_n 1, 1) := by decide +kernel
theorem dX5_rowOf_27 : decode cX5_rowOf 27 = .ok (.ireturn, 1) := by decide +kernel
theorem dX5_lengthBy_0 : decode cX5_lengthBy 0 = .ok (.aload_n 0, 1) := by decide +kernel
theorem dX5_lengthBy_1 : decode cX5_lengthBy 1 = .ok (.getfield 7, 3) := by decide +kernel
theorem dX5_lengthBy_4 : decode cX5_lengthBy 4 = .ok (.bipush 8, 2) := by decide +kernel
theorem dX5_lengthBy_6 : decode cX5_lengthBy 6 = .ok (.iload_n 1, 1) := by decide +kernel
theorem dX5_lengthBy_7 : decode cX5_lengthBy 7 = .ok (.iadd, 1) := by decide +kernel
theorem dX5_lengthBy_8 : decode cX5_lengthBy 8 = .ok (.iaload, 1) := by decide +kernel
theorem dX5_lengthBy_9 : decode cX5_lengthBy 9 = .ok (.iload_n 2, 1) := by decide +kernel
theorem dX5_lengthBy_10 : decode cX5_lengthBy 10 = .ok (.aload_n 0, 1) := by decide +kernel
theorem dX5_lengthBy_11 : decode cX5_lengthBy 11 = .ok (.getfield 7, 3) := by decide +kernel
theorem dX5_lengthBy_14 : decode cX5_lengthBy 14 = .ok (.iconst 4, 1) := by decide +kernel
theorem dX5_lengthBy_15 : decode cX5_lengthBy 15 = .ok (.iload_n 1, 1) := by decide +kernel
theorem dX5_lengthBy_16 : decode cX5_lengthBy 16 = .ok (.iadd, 1) := by decide +kernel
theorem dX5_lengthBy_17 : decode cX5_lengthBy 17 = .ok (.iaload, 1) := by decide +kernel
theorem dX5_lengthBy_18 : decode cX5_lengthBy 18 = .ok (.invokestatic 155, 3) := by decide +kernel
theorem dX5_lengthBy_21 : decode cX5_lengthBy 21 = .ok (.imul, 1) := by decide +kernel
theorem dX5_lengthBy_22 : decode cX5_lengthBy 22 = .ok (.ireturn, 1) := by decide +kernel
theorem dX5_lengthOf_0 : decode cX5_lengthOf 0 = .ok (.aload_n 0, 1) := by decide +kernel
theorem dX5_lengthOf_1 : decode cX5_lengthOf 1 = .ok (.iload_n 1, 1) := by decide +kernel
theorem dX5_lengthOf_2 : decode cX5_lengthOf 2 = .ok (.aload_n 0, 1) := by decide +kernel
theorem dX5_lengthOf_3 : decode cX5_lengthOf 3 = .ok (.getfield 7, 3) := by decide +kernel
theorem dX5_lengthOf_6 : decode cX5_lengthOf 6 = .ok (.iload_n 1, 1) := by decide +kernel
theorem dX5_lengthOf_7 : decode cX5_lengthOf 7 = .ok (.iaload, 1) := by decide +kernel
theorem dX5_lengthOf_8 : decode cX5_lengthOf 8 = .ok (.invokevirtual 158, 3) := by decide +kernel
theorem dX5_lengthOf_11 : decode cX5_lengthOf 11 = .ok (.ireturn, 1) := by decide +kernel
theorem dX5_noteBy_0 : decode cX5_noteBy 0 = .ok (.iload_n 3, 1) := by decide +kernel
theorem dX5_noteBy_1 : decode cX5_noteBy 1 = .ok (.aload_n 0, 1) := by decide +kernel
theorem dX5_noteBy_2 : decode cX5_noteBy 2 = .ok (.getfield 7, 3) := by decide +kernel
theorem dX5_noteBy_5 : decode cX5_noteBy 5 = .ok (.bipush 12, 2) := by decide +kernel
theorem dX5_noteBy_7 : decode cX5_noteBy 7 = .ok (.iload_n 1, 1) := by decide +kernel
theorem dX5_noteBy_8 : decode cX5_noteBy 8 = .ok (.iadd, 1) := by decide +kernel
theorem dX5_noteBy_9 : decode cX5_noteBy 9 = .ok (.iaload, 1) := by decide +kernel
theorem dX5_noteBy_10 : decode cX5_noteBy 10 = .ok (.isub, 1) := by decide +kernel
theorem dX5_noteBy_11 : decode cX5_noteBy 11 = .ok (.istore 4, 2) := by decide +kernel
theorem dX5_noteBy_13 : decode cX5_noteBy 13 = .ok (.iload 4, 2) := by decide +kernel
theorem dX5_noteBy_15 : decode cX5_noteBy 15 = .ok (.i2l, 1) := by decide +kernel
theorem dX5_noteBy_16 : decode cX5_noteBy 16 = .ok (.lconst 0, 1) := by decide +kernel
theorem dX5_noteBy_17 : decode cX5_noteBy 17 = .ok (.aload_n 0, 1) := by decide +kernel
theorem dX5_noteBy_18 : decode cX5_noteBy 18 = .ok (.iload_n 1, 1) := by decide +kernel
theorem dX5_noteBy_19 : decode cX5_noteBy 19 = .ok (.iload_n 2, 1) := by decide +kernel
theorem dX5_noteBy_20 : decode cX5_noteBy 20 = .ok (.invokevirtual 158, 3) := by decide +kernel
theorem dX5_noteBy_23 : decode cX5_noteBy 23 = .ok (.iconst 1, 1) := by decide +kernel
theorem dX5_noteBy_24 : decode cX5_noteBy 24 = .ok (.isub, 1) := by decide +kernel
theorem dX5_noteBy_25 : decode cX5_noteBy 25 = .ok (.i2l, 1) := by decide +kernel
theorem dX5_noteBy_26 : decode cX5_noteBy 26 = .ok (.invokestatic 61, 3) := by decide +kernel
theorem dX5_noteBy_29 : decode cX5_noteBy 29 = .ok (.ifCond .ne 6, 3) := by decide +kernel
theorem dX5_noteBy_32 : decode cX5_noteBy 32 = .ok (.bipush (-4), 2) := by decide +kernel
theorem dX5_noteBy_34 : decode cX5_noteBy 34 = .ok (.ireturn, 1) := by decide +kernel
theorem dX5_noteBy_35 : decode cX5_noteBy 35 = .ok (.aload_n 0, 1) := by decide +kernel
theorem dX5_noteBy_36 : decode cX5_noteBy 36 = .ok (.getfield 7, 3) := by decide +kernel
theorem dX5_noteBy_39 : decode cX5_noteBy 39 = .ok (.iconst 4, 1) := by decide +kernel
theorem dX5_noteBy_40 : decode cX5_noteBy 40 = .ok (.iload_n 1, 1) := by decide +kernel
theorem dX5_noteBy_41 : decode cX5_noteBy 41 = .ok (.iadd, 1) := by decide +kernel
theorem dX5_noteBy_42 : decode cX5_noteBy 42 = .ok (.iaload, 1) := by decide +kernel
theorem dX5_noteBy_43 : decode cX5_noteBy 43 = .ok (.istore 5, 2) := by decide +kernel
theorem dX5_noteBy_45 : decode cX5_noteBy 45 = .ok (.iload 4, 2) := by decide +kernel
theorem dX5_noteBy_47 : decode cX5_noteBy 47 = .ok (.iload_n 2, 1) := by decide +kernel
theorem dX5_noteBy_48 : decode cX5_noteBy 48 = .ok (.iload 5, 2) := by decide +kernel
theorem dX5_noteBy_50 : decode cX5_noteBy 50 = .ok (.invokestatic 155, 3) := by decide +kernel
theorem dX5_noteBy_53 : decode cX5_noteBy 53 = .ok (.irem, 1) := by decide +kernel
theorem dX5_noteBy_54 : decode cX5_noteBy 54 = .ok (.istore 6, 2) := by decide +kernel
theorem dX5_noteBy_56 : decode cX5_noteBy 56 = .ok (.aload_n 0, 1) := by decide +kernel
theorem dX5_noteBy_57 : decode cX5_noteBy 57 = .ok (.getfield 7, 3) := by decide +kernel
theorem dX5_noteBy_60 : decode cX5_noteBy 60 = .ok (.bipush 16, 2) := by decide +kernel
theorem dX5_noteBy_62 : decode cX5_noteBy 62 = .ok (.bipush 8, 2) := by decide +kernel
theorem dX5_noteBy_64 : decode cX5_noteBy 64 = .ok (.iload_n 1, 1) := by decide +kernel
theorem dX5_noteBy_65 : decode cX5_noteBy 65 = .ok (.imul, 1) := by decide +kernel
theorem dX5_noteBy_66 : decode cX5_noteBy 66 = .ok (.iadd, 1) := by decide +kernel
theorem dX5_noteBy_67 : decode cX5_noteBy 67 = .ok (.iload 6, 2) := by decide +kernel
theorem dX5_noteBy_69 : decode cX5_noteBy 69 = .ok (.iload 5, 2) := by decide +kernel
theorem dX5_noteBy_71 : decode cX5_noteBy 71 = .ok (.if_icmp .ge 8, 3) := by decide +kernel
theorem dX5_noteBy_74 : decode cX5_noteBy 74 = .ok (.iload 6, 2) := by decide +kernel
theorem dX5_noteBy_76 : decode cX5_noteBy 76 = .ok (.goto 25, 3) := by decide +kernel
theorem dX5_noteBy_79 : decode cX5_noteBy 79 = .ok (.iload_n 2, 1) := by decide +kernel
theorem dX5_noteBy_80 : decode cX5_noteBy 80 = .ok (.iconst 1, 1) := by decide +kernel
theorem dX5_noteBy_81 : decode cX5_noteBy 81 = .ok (.if_icmp .ne 11, 3) := by decide +kernel
theorem dX5_noteBy_84 : decode cX5_noteBy 84 = .ok (.iload 6, 2) := by decide +kernel
theorem dX5_noteBy_86 : decode cX5_noteBy 86 = .ok (.iload 5, 2) := by decide +kernel
theorem dX5_noteBy_88 : decode cX5_noteBy 88 = .ok (.isub, 1) := by decide +kernel
theorem dX5_noteBy_89 : decode cX5_noteBy 89 = .ok (.goto 12, 3) := by decide +kernel
theorem dX5_noteBy_92 : decode cX5_noteBy 92 = .ok (.iconst 2, 1) := by decide +kernel
theorem dX5_noteBy_93 : decode cX5_noteBy 93 = .ok (.iload 5, 2) := by decide +kernel
theorem dX5_noteBy_95 : decode cX5_noteBy 95 = .ok (.imul, 1) := by decide +kernel
theorem dX5_noteBy_96 : decode cX5_noteBy 96 = .ok (.iconst 1, 1) := by decide +kernel
theorem dX5_noteBy_97 : decode cX5_noteBy 97 = .ok (.isub, 1) := by decide +kernel
theorem dX5_noteBy_98 : decode cX5_noteBy 98 = .ok (.iload 6, 2) := by decide +kernel
theorem dX5_noteBy_100 : decode cX5_noteBy 100 = .ok (.isub, 1) := by decide +kernel
theorem dX5_noteBy_101 : decode cX5_noteBy 101 = .ok (.iadd, 1) := by decide +kernel
theorem dX5_noteBy_102 : decode cX5_noteBy 102 = .ok (.iaload, 1) := by decide +kernel
theorem dX5_noteBy_103 : decode cX5_noteBy 103 = .ok (.istore 7, 2) := by decide +kernel
theorem dX5_noteBy_105 : decode cX5_noteBy 105 = .ok (.iload_n 2, 1) := by decide +kernel
theorem dX5_noteBy_106 : decode cX5_noteBy 106 = .ok (.iconst 3, 1) := by decide +kernel
theorem dX5_noteBy_107 : decode cX5_noteBy 107 = .ok (.if_icmp .ne 15, 3) := by decide +kernel
theorem dX5_noteBy_110 : decode cX5_noteBy 110 = .ok (.iload 7, 2) := by decide +kernel
theorem dX5_noteBy_112 : decode cX5_noteBy 112 = .ok (.ifCond .le 10, 3) := by decide +kernel
theorem dX5_noteBy_115 : decode cX5_noteBy 115 = .ok (.iload 7, 2) := by decide +kernel
theorem dX5_noteBy_117 : decode cX5_noteBy 117 = .ok (.iconst 1, 1) := by decide +kernel
theorem dX5_noteBy_118 : decode cX5_noteBy 118 = .ok (.isub, 1) := by decide +kernel
theorem dX5_noteBy_119 : decode cX5_noteBy 119 = .ok (.goto 5, 3) := by decide +kernel
theorem dX5_noteBy_122 : decode cX5_noteBy 122 = .ok (.iload 7, 2) := by decide +kernel
theorem dX5_noteBy_124 : decode cX5_noteBy 124 = .ok (.ireturn, 1) := by decide +kernel
theorem dX5_boundTo_0 : decode cX5_boundTo 0 = .ok (.iconst 0, 1) := by decide +kernel
theorem dX5_boundTo_1 : decode cX5_boundTo 1 = .ok (.istore_n 2, 1) := by decide +kernel
theorem dX5_boundTo_2 : decode cX5_boundTo 2 = .ok (.iconst 0, 1) := by decide +kernel
theorem dX5_boundTo_3 : decode cX5_boundTo 3 = .ok (.istore_n 3, 1) := by decide +kernel
theorem dX5_boundTo_4 : decode cX5_boundTo 4 = .ok (.iload_n 3, 1) := by decide +kernel
theorem dX5_boundTo_5 : decode cX5_boundTo 5 = .ok (.aload_n 0, 1) := by decide +kernel
theorem dX5_boundTo_6 : decode cX5_boundTo 6 = .ok (.getfield 149, 3) := by decide +kernel
theorem dX5_boundTo_9 : decode cX5_boundTo 9 = .ok (.if_icmp .ge 32, 3) := by decide +kernel
theorem dX5_boundTo_12 : decode cX5_boundTo 12 = .ok (.iload_n 2, 1) := by decide +kernel
theorem dX5_boundTo_13 : decode cX5_boundTo 13 = .ok (.aload_n 0, 1) := by decide +kernel
theorem dX5_boundTo_14 : decode cX5_boundTo 14 = .ok (.getfield 7, 3) := by decide +kernel
theorem dX5_boundTo_17 : decode cX5_boundTo 17 = .ok (.bipush 64, 2) := by decide +kernel
theorem dX5_boundTo_19 : decode cX5_boundTo 19 = .ok (.iload_n 3, 1) := by decide +kernel
theorem dX5_boundTo_20 : decode cX5_boundTo 20 = .ok (.iadd, 1) := by decide +kernel
theorem dX5_boundTo_21 : decode cX5_boundTo 21 = .ok (.iaload, 1) := by decide +kernel
theorem dX5_boundTo_22 : decode cX5_boundTo 22 = .ok (.iload_n 1, 1) := by decide +kernel
theorem dX5_boundTo_23 : decode cX5_boundTo 23 = .ok (.if_icmp .ne 9, 3) := by decide +kernel
theorem dX5_boundTo_26 : decode cX5_boundTo 26 = .ok (.iconst 1, 1) := by decide +kernel
theorem dX5_boundTo_27 : decode cX5_boundTo 27 = .ok (.iload_n 3, 1) := by decide +kernel
theorem dX5_boundTo_28 : decode cX5_boundTo 28 = .ok (.ishl, 1) := by decide +kernel
theorem dX5_boundTo_29 : decode cX5_boundTo 29 = .ok (.goto 4, 3) := by decide +kernel
theorem dX5_boundTo_32 : decode cX5_boundTo 32 = .ok (.iconst 0, 1) := by decide +kernel
theorem dX5_boundTo_33 : decode cX5_boundTo 33 = .ok (.ior, 1) := by decide +kernel
theorem dX5_boundTo_34 : decode cX5_boundTo 34 = .ok (.istore_n 2, 1) := by decide +kernel
theorem dX5_boundTo_35 : decode cX5_boundTo 35 = .ok (.iinc 3 1, 3) := by decide +kernel
theorem dX5_boundTo_38 : decode cX5_boundTo 38 = .ok (.goto (-34), 3) := by decide +kernel
theorem dX5_boundTo_41 : decode cX5_boundTo 41 = .ok (.iload_n 2, 1) := by decide +kernel
theorem dX5_boundTo_42 : decode cX5_boundTo 42 = .ok (.ireturn, 1) := by decide +kernel
theorem dX5_tune_0 : decode cX5_tune 0 = .ok (.aload_n 0, 1) := by decide +kernel
theorem dX5_tune_1 : decode cX5_tune 1 = .ok (.iload_n 1, 1) := by decide +kernel
theorem dX5_tune_2 : decode cX5_tune 2 = .ok (.invokevirtual 161, 3) := by decide +kernel
theorem dX5_tune_5 : decode cX5_tune 5 = .ok (.ifCond .ne 5, 3) := by decide +kernel
theorem dX5_tune_8 : decode cX5_tune 8 = .ok (.iconst (-1), 1) := by decide +kernel
theorem dX5_tune_9 : decode cX5_tune 9 = .ok (.ireturn, 1) := by decide +kernel
theorem dX5_tune_10 : decode cX5_tune 10 = .ok (.iload_n 2, 1) := by decide +kernel
theorem dX5_tune_11 : decode cX5_tune 11 = .ok (.tableswitch 60 0 5 #[37, 37, 37, 37, 48, 54], 37) := by decide +kernel
theorem dX5_tune_48 : decode cX5_tune 48 = .ok (.aload_n 0, 1) := by decide +kernel
theorem dX5_tune_49 : decode cX5_tune 49 = .ok (.getfield 7, 3) := by decide +kernel
theorem dX5_tune_52 : decode cX5_tune 52 = .ok (.iconst 4, 1) := by decide +kernel
theorem dX5_tune_53 : decode cX5_tune 53 = .ok (.iload_n 2, 1) := by decide +kernel
theorem dX5_tune_54 : decode cX5_tune 54 = .ok (.imul, 1) := by decide +kernel
theorem dX5_tune_55 : decode cX5_tune 55 = .ok (.iload_n 1, 1) := by decide +kernel
theorem dX5_tune_56 : decode cX5_tune 56 = .ok (.iadd, 1) := by decide +kernel
theorem dX5_tune_57 : decode cX5_tune 57 = .ok (.iaload, 1) := by decide +kernel
theorem dX5_tune_58 : decode cX5_tune 58 = .ok (.ireturn, 1) := by decide +kernel
theorem dX5_tune_59 : decode cX5_tune 59 = .ok (.aload_n 0, 1) := by decide +kernel
theorem dX5_tune_60 : decode cX5_tune 60 = .ok (.iload_n 1, 1) := by decide +kernel
theorem dX5_tune_61 : decode cX5_tune 61 = .ok (.invokevirtual 165, 3) := by decide +kernel
theorem dX5_tune_64 : decode cX5_tune 64 = .ok (.ireturn, 1) := by decide +kernel
theorem dX5_tune_65 : decode cX5_tune 65 = .ok (.aload_n 0, 1) := by decide +kernel
theorem dX5_tune_66 : decode cX5_tune 66 = .ok (.iload_n 1, 1) := by decide +kernel
theorem dX5_tune_67 : decode cX5_tune 67 = .ok (.invokevirtual 168, 3) := by decide +kernel
theorem dX5_tune_70 : decode cX5_tune 70 = .ok (.ireturn, 1) := by decide +kernel
theorem dX5_tune_71 : decode cX5_tune 71 = .ok (.iconst (-1), 1) := by decide +kernel
theorem dX5_tune_72 : decode cX5_tune 72 = .ok (.ireturn, 1) := by decide +kernel
theorem dX5_isNote_0 : decode cX5_isNote 0 = .ok (.aload_n 0, 1) := by decide +kernel
theorem dX5_isNote_1 : decode cX5_isNote 1 = .ok (.iload_n 1, 1) := by decide +kernel
theorem dX5_isNote_2 : decode cX5_isNote 2 = .ok (.invokevirtual 161, 3) := by decide +kernel
theorem dX5_isNote_5 : decode cX5_isNote 5 = .ok (.ifCond .eq 27, 3) := by decide +kernel
theorem dX5_isNote_8 : decode cX5_isNote 8 = .ok (.iload_n 2, 1) := by decide +kernel
theorem dX5_isNote_9 : decode cX5_isNote 9 = .ok (.i2l, 1) := by decide +kernel
theorem dX5_isNote_10 : decode cX5_isNote 10 = .ok (.lconst 0, 1) := by decide +kernel
theorem dX5_isNote_11 : decode cX5_isNote 11 = .ok (.aload_n 0, 1) := by decide +kernel
theorem dX5_isNote_12 : decode cX5_isNote 12 = .ok (.getfield 7, 3) := by decide +kernel
theorem dX5_isNote_15 : decode cX5_isNote 15 = .ok (.iconst 4, 1) := by decide +kernel
theorem dX5_isNote_16 : decode cX5_isNote 16 = .ok (.iload_n 1, 1) := by decide +kernel
theorem dX5_isNote_17 : decode cX5_isNote 17 = .ok (.iadd, 1) := by decide +kernel
theorem dX5_isNote_18 : decode cX5_isNote 18 = .ok (.iaload, 1) := by decide +kernel
theorem dX5_isNote_19 : decode cX5_isNote 19 = .ok (.iconst 1, 1) := by decide +kernel
theorem dX5_isNote_20 : decode cX5_isNote 20 = .ok (.isub, 1) := by decide +kernel
theorem dX5_isNote_21 : decode cX5_isNote 21 = .ok (.i2l, 1) := by decide +kernel
theorem dX5_isNote_22 : decode cX5_isNote 22 = .ok (.invokestatic 61, 3) := by decide +kernel
theorem dX5_isNote_25 : decode cX5_isNote 25 = .ok (.ifCond .eq 7, 3) := by decide +kernel
theorem dX5_isNote_28 : decode cX5_isNote 28 = .ok (.iconst 1, 1) := by decide +kernel
theorem dX5_isNote_29 : decode cX5_isNote 29 = .ok (.goto 4, 3) := by decide +kernel
theorem dX5_isNote_32 : decode cX5_isNote 32 = .ok (.iconst 0, 1) := by decide +kernel
theorem dX5_isNote_33 : decode cX5_isNote 33 = .ok (.ireturn, 1) := by decide +kernel
theorem dX5_note_0 : decode cX5_note 0 = .ok (.aload_n 0, 1) := by decide +kernel
theorem dX5_note_1 : decode cX5_note 1 = .ok (.iload_n 1, 1) := by decide +kernel
theorem dX5_note_2 : decode cX5_note 2 = .ok (.iload_n 2, 1) := by decide +kernel
theorem dX5_note_3 : decode cX5_note 3 = .ok (.invokevirtual 171, 3) := by decide +kernel
theorem dX5_note_6 : decode cX5_note 6 = .ok (.ifCond .eq 20, 3) := by decide +kernel
theorem dX5_note_9 : decode cX5_note 9 = .ok (.aload_n 0, 1) := by decide +kernel
theorem dX5_note_10 : decode cX5_note 10 = .ok (.getfield 7, 3) := by decide +kernel
theorem dX5_note_13 : decode cX5_note 13 = .ok (.bipush 16, 2) := by decide +kernel
theorem dX5_note_15 : decode cX5_note 15 = .ok (.bipush 8, 2) := by decide +kernel
theorem dX5_note_17 : decode cX5_note 17 = .ok (.iload_n 1, 1) := by decide +kernel
theorem dX5_note_18 : decode cX5_note 18 = .ok (.imul, 1) := by decide +kernel
theorem dX5_note_19 : decode cX5_note 19 = .ok (.iadd, 1) := by decide +kernel
theorem dX5_note_20 : decode cX5_note 20 = .ok (.iload_n 2, 1) := by decide +kernel
theorem dX5_note_21 : decode cX5_note 21 = .ok (.iadd, 1) := by decide +kernel
theorem dX5_note_22 : decode cX5_note 22 = .ok (.iaload, 1) := by decide +kernel
theorem dX5_note_23 : decode cX5_note 23 = .ok (.goto 4, 3) := by decide +kernel
theorem dX5_note_26 : decode cX5_note 26 = .ok (.iconst (-1), 1) := by decide +kernel
theorem dX5_note_27 : decode cX5_note 27 = .ok (.ireturn, 1) := by decide +kernel
theorem dX5_isMinute_0 : decode cX5_isMinute 0 = .ok (.iload_n 0, 1) := by decide +kernel
theorem dX5_isMinute_1 : decode cX5_isMinute 1 = .ok (.i2l, 1) := by decide +kernel
theorem dX5_isMinute_2 : decode cX5_isMinute 2 = .ok (.lconst 0, 1) := by decide +kernel
theorem dX5_isMinute_3 : decode cX5_isMinute 3 = .ok (.ldc2_w 175, 3) := by decide +kernel
theorem dX5_isMinute_6 : decode cX5_isMinute 6 = .ok (.invokestatic 61, 3) := by decide +kernel
theorem dX5_isMinute_9 : decode cX5_isMinute 9 = .ok (.ireturn, 1) := by decide +kernel
theorem dX5_has_0 : decode cX5_has 0 = .ok (.aload_n 0, 1) := by decide +kernel
theorem dX5_has_1 : decode cX5_has 1 = .ok (.iload_n 1, 1) := by decide +kernel
theorem dX5_has_2 : decode cX5_has 2 = .ok (.invokevirtual 161, 3) := by decide +kernel
theorem dX5_has_5 : decode cX5_has 5 = .ok (.ifCond .eq 25, 3) := by decide +kernel
theorem dX5_has_8 : decode cX5_has 8 = .ok (.iload_n 2, 1) := by decide +kernel
theorem dX5_has_9 : decode cX5_has 9 = .ok (.invokestatic 177, 3) := by decide +kernel
theorem dX5_has_12 : decode cX5_has 12 = .ok (.ifCond .eq 18, 3) := by decide +kernel
theorem dX5_has_15 : decode cX5_has 15 = .ok (.aload_n 0, 1) := by decide +kernel
theorem dX5_has_16 : decode cX5_has 16 = .ok (.iload_n 1, 1) := by decide +kernel
theorem dX5_has_17 : decode cX5_has 17 = .ok (.aload_n 0, 1) := by decide +kernel
theorem dX5_has_18 : decode cX5_has 18 = .ok (.getfield 7, 3) := by decide +kernel
theorem dX5_has_21 : decode cX5_has 21 = .ok (.iload_n 1, 1) := by decide +kernel
theorem dX5_has_22 : decode cX5_has 22 = .ok (.iaload, 1) := by decide +kernel
theorem dX5_has_23 : decode cX5_has 23 = .ok (.iload_n 2, 1) := by decide +kernel
theorem dX5_has_24 : decode cX5_has 24 = .ok (.invokevirtual 180, 3) := by decide +kernel
theorem dX5_has_27 : decode cX5_has 27 = .ok (.goto 4, 3) := by decide +kernel
theorem dX5_has_30 : decode cX5_has 30 = .ok (.iconst (-1), 1) := by decide +kernel
theorem dX5_has_31 : decode cX5_has 31 = .ok (.ireturn, 1) := by decide +kernel
theorem dX5_player_0 : decode cX5_player 0 = .ok (.aload_n 0, 1) := by decide +kernel
theorem dX5_player_1 : decode cX5_player 1 = .ok (.iload_n 1, 1) := by decide +kernel
theorem dX5_player_2 : decode cX5_player 2 = .ok (.invokevirtual 184, 3) := by decide +kernel
theorem dX5_player_5 : decode cX5_player 5 = .ok (.ifCond .eq 31, 3) := by decide +kernel
theorem dX5_player_8 : decode cX5_player 8 = .ok (.iload_n 2, 1) := by decide +kernel
theorem dX5_player_9 : decode cX5_player 9 = .ok (.i2l, 1) := by decide +kernel
theorem dX5_player_10 : decode cX5_player 10 = .ok (.lconst 0, 1) := by decide +kernel
theorem dX5_player_11 : decode cX5_player 11 = .ok (.ldc2_w 187, 3) := by decide +kernel
theorem dX5_player_14 : decode cX5_player 14 = .ok (.invokestatic 61, 3) := by decide +kernel
theorem dX5_player_17 : decode cX5_player 17 = .ok (.ifCond .eq 19, 3) := by decide +kernel
theorem dX5_player_20 : decode cX5_player 20 = .ok (.aload_n 0, 1) := by decide +kernel
theorem dX5_player_21 : decode cX5_player 21 = .ok (.getfield 7, 3) := by decide +kernel
theorem dX5_player_24 : decode cX5_player 24 = .ok (.bipush 48, 2) := by decide +kernel
theorem dX5_player_26 : decode cX5_player 26 = .ok (.iconst 4, 1) := by decide +kernel
theorem dX5_player_27 : decode cX5_player 27 = .ok (.iload_n 2, 1) := by decide +kernel
theorem dX5_player_28 : decode cX5_player 28 = .ok (.imul, 1) := by decide +kernel
theorem dX5_player_29 : decode cX5_player 29 = .ok (.iadd, 1) := by decide +kernel
theorem dX5_player_30 : decode cX5_player 30 = .ok (.iload_n 1, 1) := by decide +kernel
theorem dX5_player_31 : decode cX5_player 31 = .ok (.iadd, 1) := by decide +kernel
theorem dX5_player_32 : decode cX5_player 32 = .ok (.iaload, 1) := by decide +kernel
theorem dX5_player_33 : decode cX5_player 33 = .ok (.goto 4, 3) := by decide +kernel
theorem dX5_player_36 : decode cX5_player 36 = .ok (.iconst (-1), 1) := by decide +kernel
theorem dX5_player_37 : decode cX5_player 37 = .ok (.ireturn, 1) := by decide +kernel
theorem dX5_bound_0 : decode cX5_bound 0 = .ok (.aload_n 0, 1) := by decide +kernel
theorem dX5_bound_1 : decode cX5_bound 1 = .ok (.iload_n 1, 1) := by decide +kernel
theorem dX5_bound_2 : decode cX5_bound 2 = .ok (.invokevirtual 189, 3) := by decide +kernel
theorem dX5_bound_5 : decode cX5_bound 5 = .ok (.ifCond .eq 15, 3) := by decide +kernel
theorem dX5_bound_8 : decode cX5_bound 8 = .ok (.aload_n 0, 1) := by decide +kernel
theorem dX5_bound_9 : decode cX5_bound 9 = .ok (.getfield 7, 3) := by decide +kernel
theorem dX5_bound_12 : decode cX5_bound 12 = .ok (.bipush 64, 2) := by decide +kernel
theorem dX5_bound_14 : decode cX5_bound 14 = .ok (.iload_n 1, 1) := by decide +kernel
theorem dX5_bound_15 : decode cX5_bound 15 = .ok (.iadd, 1) := by decide +kernel
theorem dX5_bound_16 : decode cX5_bound 16 = .ok (.iaload, 1) := by decide +kernel
theorem dX5_bound_17 : decode cX5_bound 17 = .ok (.goto 4, 3) := by decide +kernel
theorem dX5_bound_20 : decode cX5_bound 20 = .ok (.iconst (-1), 1) := by decide +kernel
theorem dX5_bound_21 : decode cX5_bound 21 = .ok (.ireturn, 1) := by decide +kernel
theorem dX5_puts_0 : decode cX5_puts 0 = .ok (.iload_n 1, 1) := by decide +kernel
theorem dX5_puts_1 : decode cX5_puts 1 = .ok (.ifCond .ne 5, 3) := by decide +kernel
theorem dX5_puts_4 : decode cX5_puts 4 = .ok (.iconst (-1), 1) := by decide +kernel
theorem dX5_puts_5 : decode cX5_puts 5 = .ok (.ireturn, 1) := by decide +kernel
theorem dX5_puts_6 : decode cX5_puts 6 = .ok (.aload_n 0, 1) := by decide +kernel
theorem dX5_puts_7 : decode cX5_puts 7 = .ok (.getfield 7, 3) := by decide +kernel
theorem dX5_puts_10 : decode cX5_puts 10 = .ok (.iload_n 2, 1) := by decide +kernel
theorem dX5_puts_11 : decode cX5_puts 11 = .ok (.iaload, 1) := by decide +kernel
theorem dX5_puts_12 : decode cX5_puts 12 = .ok (.istore 4, 2) := by decide +kernel
theorem dX5_puts_14 : decode cX5_puts 14 = .ok (.aload_n 0, 1) := by decide +kernel
theorem dX5_puts_15 : decode cX5_puts 15 = .ok (.getfield 7, 3) := by decide +kernel
theorem dX5_puts_18 : decode cX5_puts 18 = .ok (.iload_n 2, 1) := by decide +kernel
theorem dX5_puts_19 : decode cX5_puts 19 = .ok (.iload_n 3, 1) := by decide +kernel
theorem dX5_puts_20 : decode cX5_puts 20 = .ok (.iastore, 1) := by decide +kernel
theorem dX5_puts_21 : decode cX5_puts 21 = .ok (.iload 4, 2) := by decide +kernel
theorem dX5_puts_23 : decode cX5_puts 23 = .ok (.ireturn, 1) := by decide +kernel
theorem dX5_write_0 : decode cX5_write 0 = .ok (.aload_n 0, 1) := by decide +kernel
theorem dX5_write_1 : decode cX5_write 1 = .ok (.aload_n 0, 1) := by decide +kernel
theorem dX5_write_2 : decode cX5_write 2 = .ok (.iload_n 1, 1) := by decide +kernel
theorem dX5_write_3 : decode cX5_write 3 = .ok (.iload_n 2, 1) := by decide +kernel
theorem dX5_write_4 : decode cX5_write 4 = .ok (.invokevirtual 171, 3) := by decide +kernel
theorem dX5_write_7 : decode cX5_write 7 = .ok (.ifCond .eq 19, 3) := by decide +kernel
theorem dX5_write_10 : decode cX5_write 10 = .ok (.iload_n 3, 1) := by decide +kernel
theorem dX5_write_11 : decode cX5_write 11 = .ok (.i2l, 1) := by decide +kernel
theorem dX5_write_12 : decode cX5_write 12 = .ok (.lconst 0, 1) := by decide +kernel
theorem dX5_write_13 : decode cX5_write 13 = .ok (.ldc2_w 192, 3) := by decide +kernel
theorem dX5_write_16 : decode cX5_write 16 = .ok (.invokestatic 61, 3) := by decide +kernel
theorem dX5_write_19 : decode cX5_write 19 = .ok (.ifCond .eq 7, 3) := by decide +kernel
theorem dX5_write_22 : decode cX5_write 22 = .ok (.iconst 1, 1) := by decide +kernel
theorem dX5_write_23 : decode cX5_write 23 = .ok (.goto 4, 3) := by decide +kernel
theorem dX5_write_26 : decode cX5_write 26 = .ok (.iconst 0, 1) := by decide +kernel
theorem dX5_write_27 : decode cX5_write 27 = .ok (.bipush 16, 2) := by decide +kernel
theorem dX5_write_29 : decode cX5_write 29 = .ok (.bipush 8, 2) := by decide +kernel
theorem dX5_write_31 : decode cX5_write 31 = .ok (.iload_n 1, 1) := by decide +kernel
theorem dX5_write_32 : decode cX5_write 32 = .ok (.imul, 1) := by decide +kernel
theorem dX5_write_33 : decode cX5_write 33 = .ok (.iadd, 1) := by decide +kernel
theorem dX5_write_34 : decode cX5_write 34 = .ok (.iload_n 2, 1) := by decide +kernel
theorem dX5_write_35 : decode cX5_write 35 = .ok (.iadd, 1) := by decide +kernel
theorem dX5_write_36 : decode cX5_write 36 = .ok (.iload_n 3, 1) := by decide +kernel
theorem dX5_write_37 : decode cX5_write 37 = .ok (.invokevirtual 194, 3) := by decide +kernel
theorem dX5_write_40 : decode cX5_write 40 = .ok (.ireturn, 1) := by decide +kernel
theorem dX5_add_0 : decode cX5_add 0 = .ok (.aload_n 0, 1) := by decide +kernel
theorem dX5_add_1 : decode cX5_add 1 = .ok (.iload_n 1, 1) := by decide +kernel
theorem dX5_add_2 : decode cX5_add 2 = .ok (.invokevirtual 161, 3) := by decide +kernel
theorem dX5_add_5 : decode cX5_add 5 = .ok (.ifCond .eq 15, 3) := by decide +kernel
theorem dX5_add_8 : decode cX5_add 8 = .ok (.iload_n 2, 1) := by decide +kernel
theorem dX5_add_9 : decode cX5_add 9 = .ok (.i2l, 1) := by decide +kernel
theorem dX5_add_10 : decode cX5_add 10 = .ok (.lconst 0, 1) := by decide +kernel
theorem dX5_add_11 : decode cX5_add 11 = .ok (.ldc2_w 192, 3) := by decide +kernel
theorem dX5_add_14 : decode cX5_add 14 = .ok (.invokestatic 61, 3) := by decide +kernel
theorem dX5_add_17 : decode cX5_add 17 = .ok (.ifCond .ne 5, 3) := by decide +kernel
theorem dX5_add_20 : decode cX5_add 20 = .ok (.iconst (-1), 1) := by decide +kernel
theorem dX5_add_21 : decode cX5_add 21 = .ok (.ireturn, 1) := by decide +kernel
theorem dX5_add_22 : decode cX5_add 22 = .ok (.aload_n 0, 1) := by decide +kernel
theorem dX5_add_23 : decode cX5_add 23 = .ok (.getfield 7, 3) := by decide +kernel
theorem dX5_add_26 : decode cX5_add 26 = .ok (.iconst 4, 1) := by decide +kernel
theorem dX5_add_27 : decode cX5_add 27 = .ok (.iload_n 1, 1) := by decide +kernel
theorem dX5_add_28 : decode cX5_add 28 = .ok (.iadd, 1) := by decide +kernel
theorem dX5_add_29 : decode cX5_add 29 = .ok (.iaload, 1) := by decide +kernel
theorem dX5_add_30 : decode cX5_add 30 = .ok (.bipush 8, 2) := by decide +kernel
theorem dX5_add_32 : decode cX5_add 32 = .ok (.if_icmp .ne 6, 3) := by decide +kernel
theorem dX5_add_35 : decode cX5_add 35 = .ok (.bipush (-3), 2) := by decide +kernel
theorem dX5_add_37 : decode cX5_add 37 = .ok (.ireturn, 1) := by decide +kernel
theorem dX5_add_38 : decode cX5_add 38 = .ok (.aload_n 0, 1) := by decide +kernel
theorem dX5_add_39 : decode cX5_add 39 = .ok (.getfield 7, 3) := by decide +kernel
theorem dX5_add_42 : decode cX5_add 42 = .ok (.bipush 16, 2) := by decide +kernel
theorem dX5_add_44 : decode cX5_add 44 = .ok (.bipush 8, 2) := by decide +kernel
theorem dX5_add_46 : decode cX5_add 46 = .ok (.iload_n 1, 1) := by decide +kernel
theorem dX5_add_47 : decode cX5_add 47 = .ok (.imul, 1) := by decide +kernel
theorem dX5_add_48 : decode cX5_add 48 = .ok (.iadd, 1) := by decide +kernel
theorem dX5_add_49 : decode cX5_add 49 = .ok (.aload_n 0, 1) := by decide +kernel
theorem dX5_add_50 : decode cX5_add 50 = .ok (.getfield 7, 3) := by decide +kernel
theorem dX5_add_53 : decode cX5_add 53 = .ok (.iconst 4, 1) := by decide +kernel
theorem dX5_add_54 : decode cX5_add 54 = .ok (.iload_n 1, 1) := by decide +kernel
theorem dX5_add_55 : decode cX5_add 55 = .ok (.iadd, 1) := by decide +kernel
theorem dX5_add_56 : decode cX5_add 56 = .ok (.iaload, 1) := by decide +kernel
theorem dX5_add_57 : decode cX5_add 57 = .ok (.iadd, 1) := by decide +kernel
theorem dX5_add_58 : decode cX5_add 58 = .ok (.iload_n 2, 1) := by decide +kernel
theorem dX5_add_59 : decode cX5_add 59 = .ok (.iastore, 1) := by decide +kernel
theorem dX5_add_60 : decode cX5_add 60 = .ok (.aload_n 0, 1) := by decide +kernel
theorem dX5_add_61 : decode cX5_add 61 = .ok (.getfield 7, 3) := by decide +kernel
theorem dX5_add_64 : decode cX5_add 64 = .ok (.iconst 4, 1) := by decide +kernel
theorem dX5_add_65 : decode cX5_add 65 = .ok (.iload_n 1, 1) := by decide +kernel
theorem dX5_add_66 : decode cX5_add 66 = .ok (.iadd, 1) := by decide +kernel
theorem dX5_add_67 : decode cX5_add 67 = .ok (.dup2, 1) := by decide +kernel
theorem dX5_add_68 : decode cX5_add 68 = .ok (.iaload, 1) := by decide +kernel
theorem dX5_add_69 : decode cX5_add 69 = .ok (.iconst 1, 1) := by decide +kernel
theorem dX5_add_70 : decode cX5_add 70 = .ok (.iadd, 1) := by decide +kernel
theorem dX5_add_71 : decode cX5_add 71 = .ok (.iastore, 1) := by decide +kernel
theorem dX5_add_72 : decode cX5_add 72 = .ok (.aload_n 0, 1) := by decide +kernel
theorem dX5_add_73 : decode cX5_add 73 = .ok (.getfield 7, 3) := by decide +kernel
theorem dX5_add_76 : decode cX5_add 76 = .ok (.iconst 4, 1) := by decide +kernel
theorem dX5_add_77 : decode cX5_add 77 = .ok (.iload_n 1, 1) := by decide +kernel
theorem dX5_add_78 : decode cX5_add 78 = .ok (.iadd, 1) := by decide +kernel
theorem dX5_add_79 : decode cX5_add 79 = .ok (.iaload, 1) := by decide +kernel
theorem dX5_add_80 : decode cX5_add 80 = .ok (.ireturn, 1) := by decide +kernel
theorem dX5_set_0 : decode cX5_set 0 = .ok (.iload_n 2, 1) := by decide +kernel
theorem dX5_set_1 : decode cX5_set 1 = .ok (.ifCond .ne 15, 3) := by decide +kernel
theorem dX5_set_4 : decode cX5_set 4 = .ok (.iload_n 3, 1) := by decide +kernel
theorem dX5_set_5 : decode cX5_set 5 = .ok (.i2l, 1) := by decide +kernel
theorem dX5_set_6 : decode cX5_set 6 = .ok (.lconst 0, 1) := by decide +kernel
theorem dX5_set_7 : decode cX5_set 7 = .ok (.ldc2_w 187, 3) := by decide +kernel
theorem dX5_set_10 : decode cX5_set 10 = .ok (.invokestatic 61, 3) := by decide +kernel
theorem dX5_set_13 : decode cX5_set 13 = .ok (.goto 42, 3) := by decide +kernel
theorem dX5_set_16 : decode cX5_set 16 = .ok (.iload_n 2, 1) := by decide +kernel
theorem dX5_set_17 : decode cX5_set 17 = .ok (.iconst 2, 1) := by decide +kernel
theorem dX5_set_18 : decode cX5_set 18 = .ok (.if_icmp .ne 15, 3) := by decide +kernel
theorem dX5_set_21 : decode cX5_set 21 = .ok (.iload_n 3, 1) := by decide +kernel
theorem dX5_set_22 : decode cX5_set 22 = .ok (.i2l, 1) := by decide +kernel
theorem dX5_set_23 : decode cX5_set 23 = .ok (.lconst 1, 1) := by decide +kernel
theorem dX5_set_24 : decode cX5_set 24 = .ok (.ldc2_w 192, 3) := by decide +kernel
theorem dX5_set_27 : decode cX5_set 27 = .ok (.invokestatic 61, 3) := by decide +kernel
theorem dX5_set_30 : decode cX5_set 30 = .ok (.goto 25, 3) := by decide +kernel
theorem dX5_set_33 : decode cX5_set 33 = .ok (.iload_n 2, 1) := by decide +kernel
theorem dX5_set_34 : decode cX5_set 34 = .ok (.iconst 3, 1) := by decide +kernel
theorem dX5_set_35 : decode cX5_set 35 = .ok (.if_icmp .ne 19, 3) := by decide +kernel
theorem dX5_set_38 : decode cX5_set 38 = .ok (.iload_n 3, 1) := by decide +kernel
theorem dX5_set_39 : decode cX5_set 39 = .ok (.i2l, 1) := by decide +kernel
theorem dX5_set_40 : decode cX5_set 40 = .ok (.lconst 0, 1) := by decide +kernel
theorem dX5_set_41 : decode cX5_set 41 = .ok (.ldc2_w 192, 3) := by decide +kernel
theorem dX5_set_44 : decode cX5_set 44 = .ok (.invokestatic 61, 3) := by decide +kernel
theorem dX5_set_47 : decode cX5_set 47 = .ok (.ifCond .eq 7, 3) := by decide +kernel
theorem dX5_set_50 : decode cX5_set 50 = .ok (.iconst 1, 1) := by decide +kernel
theorem dX5_set_51 : decode cX5_set 51 = .ok (.goto 4, 3) := by decide +kernel
theorem dX5_set_54 : decode cX5_set 54 = .ok (.iconst 0, 1) := by decide +kernel
theorem dX5_set_55 : decode cX5_set 55 = .ok (.istore 4, 2) := by decide +kernel
theorem dX5_set_57 : decode cX5_set 57 = .ok (.aload_n 0, 1) := by decide +kernel
theorem dX5_set_58 : decode cX5_set 58 = .ok (.aload_n 0, 1) := by decide +kernel
theorem dX5_set_59 : decode cX5_set 59 = .ok (.iload_n 1, 1) := by decide +kernel
theorem dX5_set_60 : decode cX5_set 60 = .ok (.invokevirtual 161, 3) := by decide +kernel
theorem dX5_set_63 : decode cX5_set 63 = .ok (.ifCond .eq 12, 3) := by decide +kernel
theorem dX5_set_66 : decode cX5_set 66 = .ok (.iload 4, 2) := by decide +kernel
theorem dX5_set_68 : decode cX5_set 68 = .ok (.ifCond .eq 7, 3) := by decide +kernel
theorem dX5_set_71 : decode cX5_set 71 = .ok (.iconst 1, 1) := by decide +kernel
theorem dX5_set_72 : decode cX5_set 72 = .ok (.goto 4, 3) := by decide +kernel
theorem dX5_set_75 : decode cX5_set 75 = .ok (.iconst 0, 1) := by decide +kernel
theorem dX5_set_76 : decode cX5_set 76 = .ok (.iconst 4, 1) := by decide +kernel
theorem dX5_set_77 : decode cX5_set 77 = .ok (.iload_n 2, 1) := by decide +kernel
theorem dX5_set_78 : decode cX5_set 78 = .ok (.imul, 1) := by decide +kernel
theorem dX5_set_79 : decode cX5_set 79 = .ok (.iload_n 1, 1) := by decide +kernel
theorem dX5_set_80 : decode cX5_set 80 = .ok (.iadd, 1) := by decide +kernel
theorem dX5_set_81 : decode cX5_set 81 = .ok (.iload_n 3, 1) := by decide +kernel
theorem dX5_set_82 : decode cX5_set 82 = .ok (.invokevirtual 194, 3) := by decide +kernel
theorem dX5_set_85 : decode cX5_set 85 = .ok (.ireturn, 1) := by decide +kernel
theorem dX5_hire_0 : decode cX5_hire 0 = .ok (.iload_n 2, 1) := by decide +kernel
theorem dX5_hire_1 : decode cX5_hire 1 = .ok (.iconst 1, 1) := by decide +kernel
theorem dX5_hire_2 : decode cX5_hire 2 = .ok (.if_icmp .ne 15, 3) := by decide +kernel
theorem dX5_hire_5 : decode cX5_hire 5 = .ok (.iload_n 3, 1) := by decide +kernel
theorem dX5_hire_6 : decode cX5_hire 6 = .ok (.i2l, 1) := by decide +kernel
theorem dX5_hire_7 : decode cX5_hire 7 = .ok (.lconst 1, 1) := by decide +kernel
theorem dX5_hire_8 : decode cX5_hire 8 = .ok (.ldc2_w 198, 3) := by decide +kernel
theorem dX5_hire_11 : decode cX5_hire 11 = .ok (.invokestatic 61, 3) := by decide +kernel
theorem dX5_hire_14 : decode cX5_hire 14 = .ok (.goto 42, 3) := by decide +kernel
theorem dX5_hire_17 : decode cX5_hire 17 = .ok (.iload_n 2, 1) := by decide +kernel
theorem dX5_hire_18 : decode cX5_hire 18 = .ok (.iconst 3, 1) := by decide +kernel
theorem dX5_hire_19 : decode cX5_hire 19 = .ok (.if_icmp .ne 11, 3) := by decide +kernel
theorem dX5_hire_22 : decode cX5_hire 22 = .ok (.aload_n 0, 1) := by decide +kernel
theorem dX5_hire_23 : decode cX5_hire 23 = .ok (.iload_n 3, 1) := by decide +kernel
theorem dX5_hire_24 : decode cX5_hire 24 = .ok (.invokevirtual 161, 3) := by decide +kernel
theorem dX5_hire_27 : decode cX5_hire 27 = .ok (.goto 29, 3) := by decide +kernel
theorem dX5_hire_30 : decode cX5_hire 30 = .ok (.iload_n 2, 1) := by decide +kernel
theorem dX5_hire_31 : decode cX5_hire 31 = .ok (.ifCond .eq 8, 3) := by decide +kernel
theorem dX5_hire_34 : decode cX5_hire 34 = .ok (.iload_n 2, 1) := by decide +kernel
theorem dX5_hire_35 : decode cX5_hire 35 = .ok (.iconst 2, 1) := by decide +kernel
theorem dX5_hire_36 : decode cX5_hire 36 = .ok (.if_icmp .ne 19, 3) := by decide +kernel
theorem dX5_hire_39 : decode cX5_hire 39 = .ok (.iload_n 3, 1) := by decide +kernel
theorem dX5_hire_40 : decode cX5_hire 40 = .ok (.i2l, 1) := by decide +kernel
theorem dX5_hire_41 : decode cX5_hire 41 = .ok (.lconst 0, 1) := by decide +kernel
theorem dX5_hire_42 : decode cX5_hire 42 = .ok (.ldc2_w 192, 3) := by decide +kernel
theorem dX5_hire_45 : decode cX5_hire 45 = .ok (.invokestatic 61, 3) := by decide +kernel
theorem dX5_hire_48 : decode cX5_hire 48 = .ok (.ifCond .eq 7, 3) := by decide +kernel
theorem dX5_hire_51 : decode cX5_hire 51 = .ok (.iconst 1, 1) := by decide +kernel
theorem dX5_hire_52 : decode cX5_hire 52 = .ok (.goto 4, 3) := by decide +kernel
theorem dX5_hire_55 : decode cX5_hire 55 = .ok (.iconst 0, 1) := by decide +kernel
theorem dX5_hire_56 : decode cX5_hire 56 = .ok (.istore 4, 2) := by decide +kernel
theorem dX5_hire_58 : decode cX5_hire 58 = .ok (.aload_n 0, 1) := by decide +kernel
theorem dX5_hire_59 : decode cX5_hire 59 = .ok (.aload_n 0, 1) := by decide +kernel
theorem dX5_hire_60 : decode cX5_hire 60 = .ok (.iload_n 1, 1) := by decide +kernel
theorem dX5_hire_61 : decode cX5_hire 61 = .ok (.invokevirtual 184, 3) := by decide +kernel
theorem dX5_hire_64 : decode cX5_hire 64 = .ok (.ifCond .eq 12, 3) := by decide +kernel
theorem dX5_hire_67 : decode cX5_hire 67 = .ok (.iload 4, 2) := by decide +kernel
theorem dX5_hire_69 : decode cX5_hire 69 = .ok (.ifCond .eq 7, 3) := by decide +kernel
theorem dX5_hire_72 : decode cX5_hire 72 = .ok (.iconst 1, 1) := by decide +kernel
theorem dX5_hire_73 : decode cX5_hire 73 = .ok (.goto 4, 3) := by decide +kernel
theorem dX5_hire_76 : decode cX5_hire 76 = .ok (.iconst 0, 1) := by decide +kernel
theorem dX5_hire_77 : decode cX5_hire 77 = .ok (.bipush 48, 2) := by decide +kernel
theorem dX5_hire_79 : decode cX5_hire 79 = .ok (.iconst 4, 1) := by decide +kernel
theorem dX5_hire_80 : decode cX5_hire 80 = .ok (.iload_n 2, 1) := by decide +kernel
theorem dX5_hire_81 : decode cX5_hire 81 = .ok (.imul, 1) := by decide +kernel
theorem dX5_hire_82 : decode cX5_hire 82 = .ok (.iadd, 1) := by decide +kernel
theorem dX5_hire_83 : decode cX5_hire 83 = .ok (.iload_n 1, 1) := by decide +kernel
theorem dX5_hire_84 : decode cX5_hire 84 = .ok (.iadd, 1) := by decide +kernel
theorem dX5_hire_85 : decode cX5_hire 85 = .ok (.iload_n 3, 1) := by decide +kernel
theorem dX5_hire_86 : decode cX5_hire 86 = .ok (.invokevirtual 194, 3) := by decide +kernel
theorem dX5_hire_89 : decode cX5_hire 89 = .ok (.ireturn, 1) := by decide +kernel
theorem dX5_binds_0 : decode cX5_binds 0 = .ok (.aload_n 0, 1) := by decide +kernel
theorem dX5_binds_1 : decode cX5_binds 1 = .ok (.iload_n 1, 1) := by decide +kernel
theorem dX5_binds_2 : decode cX5_binds 2 = .ok (.invokevirtual 189, 3) := by decide +kernel
theorem dX5_binds_5 : decode cX5_binds 5 = .ok (.ifCond .eq 11, 3) := by decide +kernel
theorem dX5_binds_8 : decode cX5_binds 8 = .ok (.aload_n 0, 1) := by decide +kernel
theorem dX5_binds_9 : decode cX5_binds 9 = .ok (.iload_n 2, 1) := by decide +kernel
theorem dX5_binds_10 : decode cX5_binds 10 = .ok (.invokevirtual 161, 3) := by decide +kernel
theorem dX5_binds_13 : decode cX5_binds 13 = .ok (.ifCond .ne 5, 3) := by decide +kernel
theorem dX5_binds_16 : decode cX5_binds 16 = .ok (.iconst (-1), 1) := by decide +kernel
theorem dX5_binds_17 : decode cX5_binds 17 = .ok (.ireturn, 1) := by decide +kernel
theorem dX5_binds_18 : decode cX5_binds 18 = .ok (.aload_n 0, 1) := by decide +kernel
theorem dX5_binds_19 : decode cX5_binds 19 = .ok (.getfield 7, 3) := by decide +kernel
theorem dX5_binds_22 : decode cX5_binds 22 = .ok (.bipush 64, 2) := by decide +kernel
theorem dX5_binds_24 : decode cX5_binds 24 = .ok (.iload_n 1, 1) := by decide +kernel
theorem dX5_binds_25 : decode cX5_binds 25 = .ok (.iadd, 1) := by decide +kernel
theorem dX5_binds_26 : decode cX5_binds 26 = .ok (.iaload, 1) := by decide +kernel
theorem dX5_binds_27 : decode cX5_binds 27 = .ok (.iload_n 2, 1) := by decide +kernel
theorem dX5_binds_28 : decode cX5_binds 28 = .ok (.if_icmp .ne 8, 3) := by decide +kernel
theorem dX5_binds_31 : decode cX5_binds 31 = .ok (.bipush (-2), 2) := by decide +kernel
theorem dX5_binds_33 : decode cX5_binds 33 = .ok (.goto 13, 3) := by decide +kernel
theorem dX5_binds_36 : decode cX5_binds 36 = .ok (.aload_n 0, 1) := by decide +kernel
theorem dX5_binds_37 : decode cX5_binds 37 = .ok (.iconst 1, 1) := by decide +kernel
theorem dX5_binds_38 : decode cX5_binds 38 = .ok (.bipush 64, 2) := by decide +kernel
theorem dX5_binds_40 : decode cX5_binds 40 = .ok (.iload_n 1, 1) := by decide +kernel
theorem dX5_binds_41 : decode cX5_binds 41 = .ok (.iadd, 1) := by decide +kernel
theorem dX5_binds_42 : decode cX5_binds 42 = .ok (.iload_n 2, 1) := by decide +kernel
theorem dX5_binds_43 : decode cX5_binds 43 = .ok (.invokevirtual 194, 3) := by decide +kernel
theorem dX5_binds_46 : decode cX5_binds 46 = .ok (.ireturn, 1) := by decide +kernel
theorem dX5_bind_0 : decode cX5_bind 0 = .ok (.aload_n 0, 1) := by decide +kernel
theorem dX5_bind_1 : decode cX5_bind 1 = .ok (.iload_n 1, 1) := by decide +kernel
theorem dX5_bind_2 : decode cX5_bind 2 = .ok (.iload_n 2, 1) := by decide +kernel
theorem dX5_bind_3 : decode cX5_bind 3 = .ok (.invokevirtual 200, 3) := by decide +kernel
theorem dX5_bind_6 : decode cX5_bind 6 = .ok (.ireturn, 1) := by decide +kernel
theorem dX5_playerAt_0 : decode cX5_playerAt 0 = .ok (.iconst 0, 1) := by decide +kernel
theorem dX5_playerAt_1 : decode cX5_playerAt 1 = .ok (.istore_n 2, 1) := by decide +kernel
theorem dX5_playerAt_2 : decode cX5_playerAt 2 = .ok (.iload_n 2, 1) := by decide +kernel
theorem dX5_playerAt_3 : decode cX5_playerAt 3 = .ok (.aload_n 0, 1) := by decide +kernel
theorem dX5_playerAt_4 : decode cX5_playerAt 4 = .ok (.getfield 146, 3) := by decide +kernel
theorem dX5_playerAt_7 : decode cX5_playerAt 7 = .ok (.if_icmp .ge 44, 3) := by decide +kernel
theorem dX5_playerAt_10 : decode cX5_playerAt 10 = .ok (.aload_n 0, 1) := by decide +kernel
theorem dX5_playerAt_11 : decode cX5_playerAt 11 = .ok (.getfield 7, 3) := by decide +kernel
theorem dX5_playerAt_14 : decode cX5_playerAt 14 = .ok (.bipush 60, 2) := by decide +kernel
theorem dX5_playerAt_16 : decode cX5_playerAt 16 = .ok (.iload_n 2, 1) := by decide +kernel
theorem dX5_playerAt_17 : decode cX5_playerAt 17 = .ok (.iadd, 1) := by decide +kernel
theorem dX5_playerAt_18 : decode cX5_playerAt 18 = .ok (.iaload, 1) := by decide +kernel
theorem dX5_playerAt_19 : decode cX5_playerAt 19 = .ok (.iload_n 1, 1) := by decide +kernel
theorem dX5_playerAt_20 : decode cX5_playerAt 20 = .ok (.if_icmp .ne 25, 3) := by decide +kernel
theorem dX5_playerAt_23 : decode cX5_playerAt 23 = .ok (.aload_n 0, 1) := by decide +kernel
theorem dX5_playerAt_24 : decode cX5_playerAt 24 = .ok (.getfield 25, 3) := by decide +kernel
theorem dX5_playerAt_27 : decode cX5_playerAt 27 = .ok (.iload_n 2, 1) := by decide +kernel
theorem dX5_playerAt_28 : decode cX5_playerAt 28 = .ok (.iaload, 1) := by decide +kernel
theorem dX5_playerAt_29 : decode cX5_playerAt 29 = .ok (.ifCond .le 16, 3) := by decide +kernel
theorem dX5_playerAt_32 : decode cX5_playerAt 32 = .ok (.aload_n 0, 1) := by decide +kernel
theorem dX5_playerAt_33 : decode cX5_playerAt 33 = .ok (.getfield 203, 3) := by decide +kernel
theorem dX5_playerAt_36 : decode cX5_playerAt 36 = .ok (.iload_n 2, 1) := by decide +kernel
theorem dX5_playerAt_37 : decode cX5_playerAt 37 = .ok (.ishr, 1) := by decide +kernel
theorem dX5_playerAt_38 : decode cX5_playerAt 38 = .ok (.iconst 1, 1) := by decide +kernel
theorem dX5_playerAt_39 : decode cX5_playerAt 39 = .ok (.iand, 1) := by decide +kernel
theorem dX5_playerAt_40 : decode cX5_playerAt 40 = .ok (.ifCond .ne 5, 3) := by decide +kernel
theorem dX5_playerAt_43 : decode cX5_playerAt 43 = .ok (.iload_n 2, 1) := by decide +kernel
theorem dX5_playerAt_44 : decode cX5_playerAt 44 = .ok (.ireturn, 1) := by decide +kernel
theorem dX5_playerAt_45 : decode cX5_playerAt 45 = .ok (.iinc 2 1, 3) := by decide +kernel
theorem dX5_playerAt_48 : decode cX5_playerAt 48 = .ok (.goto (-46), 3) := by decide +kernel
theorem dX5_playerAt_51 : decode cX5_playerAt 51 = .ok (.bipush (-4), 2) := by decide +kernel
theorem dX5_playerAt_53 : decode cX5_playerAt 53 = .ok (.ireturn, 1) := by decide +kernel
theorem dX5_ends_0 : decode cX5_ends 0 = .ok (.aload_n 0, 1) := by decide +kernel
theorem dX5_ends_1 : decode cX5_ends 1 = .ok (.getfield 31, 3) := by decide +kernel
theorem dX5_ends_4 : decode cX5_ends 4 = .ok (.iload_n 1, 1) := by decide +kernel
theorem dX5_ends_5 : decode cX5_ends 5 = .ok (.iload_n 2, 1) := by decide +kernel
theorem dX5_ends_6 : decode cX5_ends 6 = .ok (.iastore, 1) := by decide +kernel
theorem dX5_ends_7 : decode cX5_ends 7 = .ok (.aload_n 0, 1) := by decide +kernel
theorem dX5_ends_8 : decode cX5_ends 8 = .ok (.getfield 34, 3) := by decide +kernel
theorem dX5_ends_11 : decode cX5_ends 11 = .ok (.iload_n 1, 1) := by decide +kernel
theorem dX5_ends_12 : decode cX5_ends 12 = .ok (.iload_n 3, 1) := by decide +kernel
theorem dX5_ends_13 : decode cX5_ends 13 = .ok (.iastore, 1) := by decide +kernel
theorem dX5_ends_14 : decode cX5_ends 14 = .ok (.return_, 1) := by decide +kernel
theorem dX5_doesSound_0 : decode cX5_doesSound 0 = .ok (.aload_n 0, 1) := by decide +kernel
theorem dX5_doesSound_1 : decode cX5_doesSound 1 = .ok (.getfield 31, 3) := by decide +kernel
theorem dX5_doesSound_4 : decode cX5_doesSound 4 = .ok (.iload_n 1, 1) := by decide +kernel
theorem dX5_doesSound_5 : decode cX5_doesSound 5 = .ok (.iaload, 1) := by decide +kernel
theorem dX5_doesSound_6 : decode cX5_doesSound 6 = .ok (.bipush (-4), 2) := by decide +kernel
theorem dX5_doesSound_8 : decode cX5_doesSound 8 = .ok (.if_icmp .ne 16, 3) := by decide +kernel
theorem dX5_doesSound_11 : decode cX5_doesSound 11 = .ok (.iload_n 2, 1) := by decide +kernel
theorem dX5_doesSound_12 : decode cX5_doesSound 12 = .ok (.aload_n 0, 1) := by decide +kernel
theorem dX5_doesSound_13 : decode cX5_doesSound 13 = .ok (.getfield 7, 3) := by decide +kernel
theorem dX5_doesSound_16 : decode cX5_doesSound 16 = .ok (.bipush 12, 2) := by decide +kernel
theorem dX5_doesSound_18 : decode cX5_doesSound 18 = .ok (.iload_n 1, 1) := by decide +kernel
theorem dX5_doesSound_19 : decode cX5_doesSound 19 = .ok (.iadd, 1) := by decide +kernel
theorem dX5_doesSound_20 : decode cX5_doesSound 20 = .ok (.iaload, 1) := by decide +kernel
theorem dX5_doesSound_21 : decode cX5_doesSound 21 = .ok (.if_icmp .ge 5, 3) := by decide +kernel
theorem dX5_doesSound_24 : decode cX5_doesSound 24 = .ok (.iconst 0, 1) := by decide +kernel
theorem dX5_doesSound_25 : decode cX5_doesSound 25 = .ok (.ireturn, 1) := by decide +kernel
theorem dX5_doesSound_26 : decode cX5_doesSound 26 = .ok (.aload_n 0, 1) := by decide +kernel
theorem dX5_doesSound_27 : decode cX5_doesSound 27 = .ok (.getfield 37, 3) := by decide +kernel
theorem dX5_doesSound_30 : decode cX5_doesSound 30 = .ok (.iload_n 1, 1) := by decide +kernel
theorem dX5_doesSound_31 : decode cX5_doesSound 31 = .ok (.iaload, 1) := by decide +kernel
theorem dX5_doesSound_32 : decode cX5_doesSound 32 = .ok (.aload_n 0, 1) := by decide +kernel
theorem dX5_doesSound_33 : decode cX5_doesSound 33 = .ok (.iload_n 1, 1) := by decide +kernel
theorem dX5_doesSound_34 : decode cX5_doesSound 34 = .ok (.invokevirtual 165, 3) := by decide +kernel
theorem dX5_doesSound_37 : decode cX5_doesSound 37 = .ok (.if_icmp .ne 12, 3) := by decide +kernel
theorem dX5_doesSound_40 : decode cX5_doesSound 40 = .ok (.aload_n 0, 1) := by decide +kernel
theorem dX5_doesSound_41 : decode cX5_doesSound 41 = .ok (.iload_n 1, 1) := by decide +kernel
theorem dX5_doesSound_42 : decode cX5_doesSound 42 = .ok (.iload_n 2, 1) := by decide +kernel
theorem dX5_doesSound_43 : decode cX5_doesSound 43 = .ok (.iconst 0, 1) := by decide +kernel
theorem dX5_doesSound_44 : decode cX5_doesSound 44 = .ok (.invokevirtual 206, 3) := by decide +kernel
theorem dX5_doesSound_47 : decode cX5_doesSound 47 = .ok (.iconst 0, 1) := by decide +kernel
theorem dX5_doesSound_48 : decode cX5_doesSound 48 = .ok (.ireturn, 1) := by decide +kernel
theorem dX5_doesSound_49 : decode cX5_doesSound 49 = .ok (.aload_n 0, 1) := by decide +kernel
theorem dX5_doesSound_50 : decode cX5_doesSound 50 = .ok (.iload_n 1, 1) := by decide +kernel
theorem dX5_doesSound_51 : decode cX5_doesSound 51 = .ok (.invokevirtual 210, 3) := by decide +kernel
theorem dX5_doesSound_54 : decode cX5_doesSound 54 = .ok (.istore_n 3, 1) := by decide +kernel
theorem dX5_doesSound_55 : decode cX5_doesSound 55 = .ok (.iload_n 3, 1) := by decide +kernel
theorem dX5_doesSound_56 : decode cX5_doesSound 56 = .ok (.bipush (-4), 2) := by decide +kernel
theorem dX5_doesSound_58 : decode cX5_doesSound 58 = .ok (.if_icmp .ne 12, 3) := by decide +kernel
theorem dX5_doesSound_61 : decode cX5_doesSound 61 = .ok (.aload_n 0, 1) := by decide +kernel
theorem dX5_doesSound_62 : decode cX5_doesSound 62 = .ok (.iload_n 1, 1) := by decide +kernel
theorem dX5_doesSound_63 : decode cX5_doesSound 63 = .ok (.iload_n 2, 1) := by decide +kernel
theorem dX5_doesSound_64 : decode cX5_doesSound 64 = .ok (.iconst 2, 1) := by decide +kernel
theorem dX5_doesSound_65 : decode cX5_doesSound 65 = .ok (.invokevirtual 206, 3) := by decide +kernel
theorem dX5_doesSound_68 : decode cX5_doesSound 68 = .ok (.iconst 0, 1) := by decide +kernel
theorem dX5_doesSound_69 : decode cX5_doesSound 69 = .ok (.ireturn, 1) := by decide +kernel
theorem dX5_doesSound_70 : decode cX5_doesSound 70 = .ok (.aload_n 0, 1) := by decide +kernel
theorem dX5_doesSound_71 : decode cX5_doesSound 71 = .ok (.getfield 25, 3) := by decide +kernel
theorem dX5_doesSound_74 : decode cX5_doesSound 74 = .ok (.iload_n 3, 1) := by decide +kernel
theorem dX5_doesSound_75 : decode cX5_doesSound 75 = .ok (.dup2, 1) := by decide +kernel
theorem dX5_doesSound_76 : decode cX5_doesSound 76 = .ok (.iaload, 1) := by decide +kernel
theorem dX5_doesSound_77 : decode cX5_doesSound 77 = .ok (.iconst 1, 1) := by decide +kernel
theorem dX5_doesSound_78 : decode cX5_doesSound 78 = .ok (.isub, 1) := by decide +kernel
theorem dX5_doesSound_79 : decode cX5_doesSound 79 = .ok (.iastore, 1) := by decide +kernel
theorem dX5_doesSound_80 : decode cX5_doesSound 80 = .ok (.aload_n 0, 1) := by decide +kernel
theorem dX5_doesSound_81 : decode cX5_doesSound 81 = .ok (.getfield 28, 3) := by decide +kernel
theorem dX5_doesSound_84 : decode cX5_doesSound 84 = .ok (.iload_n 3, 1) := by decide +kernel
theorem dX5_doesSound_85 : decode cX5_doesSound 85 = .ok (.dup2, 1) := by decide +kernel
theorem dX5_doesSound_86 : decode cX5_doesSound 86 = .ok (.iaload, 1) := by decide +kernel
theorem dX5_doesSound_87 : decode cX5_doesSound 87 = .ok (.iconst 1, 1) := by decide +kernel
theorem dX5_doesSound_88 : decode cX5_doesSound 88 = .ok (.iadd, 1) := by decide +kernel
theorem dX5_doesSound_89 : decode cX5_doesSound 89 = .ok (.iastore, 1) := by decide +kernel
theorem dX5_doesSound_90 : decode cX5_doesSound 90 = .ok (.aload_n 0, 1) := by decide +kernel
theorem dX5_doesSound_91 : decode cX5_doesSound 91 = .ok (.iload_n 1, 1) := by decide +kernel
theorem dX5_doesSound_92 : decode cX5_doesSound 92 = .ok (.aload_n 0, 1) := by decide +kernel
theorem dX5_doesSound_93 : decode cX5_doesSound 93 = .ok (.getfield 7, 3) := by decide +kernel
theorem dX5_doesSound_96 : decode cX5_doesSound 96 = .ok (.iload_n 1, 1) := by decide +kernel
theorem dX5_doesSound_97 : decode cX5_doesSound 97 = .ok (.iaload, 1) := by decide +kernel
theorem dX5_doesSound_98 : decode cX5_doesSound 98 = .ok (.iload_n 2, 1) := by decide +kernel
theorem dX5_doesSound_99 : decode cX5_doesSound 99 = .ok (.invokevirtual 180, 3) := by decide +kernel
theorem dX5_doesSound_102 : decode cX5_doesSound 102 = .ok (.aload_n 0, 1) := by decide +kernel
theorem dX5_doesSound_103 : decode cX5_doesSound 103 = .ok (.getfield 7, 3) := by decide +kernel
theorem dX5_doesSound_106 : decode cX5_doesSound 106 = .ok (.bipush 48, 2) := by decide +kernel
theorem dX5_doesSound_108 : decode cX5_doesSound 108 = .ok (.iload_n 3, 1) := by decide +kernel
theorem dX5_doesSound_109 : decode cX5_doesSound 109 = .ok (.iadd, 1) := by decide +kernel
theorem dX5_doesSound_110 : decode cX5_doesSound 110 = .ok (.iaload, 1) := by decide +kernel
theorem dX5_doesSound_111 : decode cX5_doesSound 111 = .ok (.if_icmp .le 12, 3) := by decide +kernel
theorem dX5_doesSound_114 : decode cX5_doesSound 114 = .ok (.aload_n 0, 1) := by decide +kernel
theorem dX5_doesSound_115 : decode cX5_doesSound 115 = .ok (.iload_n 1, 1) := by decide +kernel
theorem dX5_doesSound_116 : decode cX5_doesSound 116 = .ok (.iload_n 2, 1) := by decide +kernel
theorem dX5_doesSound_117 : decode cX5_doesSound 117 = .ok (.iconst 1, 1) := by decide +kernel
theorem dX5_doesSound_118 : decode cX5_doesSound 118 = .ok (.invokevirtual 206, 3) := by decide +kernel
theorem dX5_doesSound_121 : decode cX5_doesSound 121 = .ok (.iconst 0, 1) := by decide +kernel
theorem dX5_doesSound_122 : decode cX5_doesSound 122 = .ok (.ireturn, 1) := by decide +kernel
theorem dX5_doesSound_123 : decode cX5_doesSound 123 = .ok (.aload_n 0, 1) := by decide +kernel
theorem dX5_doesSound_124 : decode cX5_doesSound 124 = .ok (.getfield 37, 3) := by decide +kernel
theorem dX5_doesSound_127 : decode cX5_doesSound 127 = .ok (.iload_n 1, 1) := by decide +kernel
theorem dX5_doesSound_128 : decode cX5_doesSound 128 = .ok (.dup2, 1) := by decide +kernel
theorem dX5_doesSound_129 : decode cX5_doesSound 129 = .ok (.iaload, 1) := by decide +kernel
theorem dX5_doesSound_130 : decode cX5_doesSound 130 = .ok (.iconst 1, 1) := by decide +kernel
theorem dX5_doesSound_131 : decode cX5_doesSound 131 = .ok (.iadd, 1) := by decide +kernel
theorem dX5_doesSound_132 : decode cX5_doesSound 132 = .ok (.iastore, 1) := by decide +kernel
theorem dX5_doesSound_133 : decode cX5_doesSound 133 = .ok (.iconst 1, 1) := by decide +kernel
theorem dX5_doesSound_134 : decode cX5_doesSound 134 = .ok (.ireturn, 1) := by decide +kernel
theorem dX5_crosses_0 : decode cX5_crosses 0 = .ok (.iconst 0, 1) := by decide +kernel
theorem dX5_crosses_1 : decode cX5_crosses 1 = .ok (.istore_n 2, 1) := by decide +kernel
theorem dX5_crosses_2 : decode cX5_crosses 2 = .ok (.iload_n 2, 1) := by decide +kernel
theorem dX5_crosses_3 : decode cX5_crosses 3 = .ok (.aload_n 0, 1) := by decide +kernel
theorem dX5_crosses_4 : decode cX5_crosses 4 = .ok (.getfield 143, 3) := by decide +kernel
theorem dX5_crosses_7 : decode cX5_crosses 7 = .ok (.if_icmp .ge 167, 3) := by decide +kernel
theorem dX5_crosses_10 : decode cX5_crosses 10 = .ok (.iload_n 2, 1) := by decide +kernel
theorem dX5_crosses_11 : decode cX5_crosses 11 = .ok (.iconst 1, 1) := by decide +kernel
theorem dX5_crosses_12 : decode cX5_crosses 12 = .ok (.iadd, 1) := by decide +kernel
theorem dX5_crosses_13 : decode cX5_crosses 13 = .ok (.istore_n 3, 1) := by decide +kernel
theorem dX5_crosses_14 : decode cX5_crosses 14 = .ok (.iload_n 3, 1) := by decide +kernel
theorem dX5_crosses_15 : decode cX5_crosses 15 = .ok (.aload_n 0, 1) := by decide +kernel
theorem dX5_crosses_16 : decode cX5_crosses 16 = .ok (.getfield 143, 3) := by decide +kernel
theorem dX5_crosses_19 : decode cX5_crosses 19 = .ok (.if_icmp .ge 149, 3) := by decide +kernel
theorem dX5_crosses_22 : decode cX5_crosses 22 = .ok (.aload_n 0, 1) := by decide +kernel
theorem dX5_crosses_23 : decode cX5_crosses 23 = .ok (.getfield 40, 3) := by decide +kernel
theorem dX5_crosses_26 : decode cX5_crosses 26 = .ok (.iload_n 1, 1) := by decide +kernel
theorem dX5_crosses_27 : decode cX5_crosses 27 = .ok (.iaload, 1) := by decide +kernel
theorem dX5_crosses_28 : decode cX5_crosses 28 = .ok (.iload_n 2, 1) := by decide +kernel
theorem dX5_crosses_29 : decode cX5_crosses 29 = .ok (.ishr, 1) := by decide +kernel
theorem dX5_crosses_30 : decode cX5_crosses 30 = .ok (.iconst 1, 1) := by decide +kernel
theorem dX5_crosses_31 : decode cX5_crosses 31 = .ok (.iand, 1) := by decide +kernel
theorem dX5_crosses_32 : decode cX5_crosses 32 = .ok (.iconst 1, 1) := by decide +kernel
theorem dX5_crosses_33 : decode cX5_crosses 33 = .ok (.if_icmp .ne 21, 3) := by decide +kernel
theorem dX5_crosses_36 : decode cX5_crosses 36 = .ok (.aload_n 0, 1) := by decide +kernel
theorem dX5_crosses_37 : decode cX5_crosses 37 = .ok (.getfield 40, 3) := by decide +kernel
theorem dX5_crosses_40 : decode cX5_crosses 40 = .ok (.iload_n 1, 1) := by decide +kernel
theorem dX5_crosses_41 : decode cX5_crosses 41 = .ok (.iaload, 1) := by decide +kernel
theorem dX5_crosses_42 : decode cX5_crosses 42 = .ok (.iload_n 3, 1) := by decide +kernel
theorem dX5_crosses_43 : decode cX5_crosses 43 = .ok (.ishr, 1) := by decide +kernel
theorem dX5_crosses_44 : decode cX5_crosses 44 = .ok (.iconst 1, 1) := by decide +kernel
theorem dX5_crosses_45 : decode cX5_crosses 45 = .ok (.iand, 1) := by decide +kernel
theorem dX5_crosses_46 : decode cX5_crosses 46 = .ok (.iconst 1, 1) := by decide +kernel
theorem dX5_crosses_47 : decode cX5_crosses 47 = .ok (.if_icmp .ne 7, 3) := by decide +kernel
theorem dX5_crosses_50 : decode cX5_crosses 50 = .ok (.iconst 1, 1) := by decide +kernel
theorem dX5_crosses_51 : decode cX5_crosses 51 = .ok (.goto 4, 3) := by decide +kernel
theorem dX5_crosses_54 : decode cX5_crosses 54 = .ok (.iconst 0, 1) := by decide +kernel
theorem dX5_crosses_55 : decode cX5_crosses 55 = .ok (.istore 4, 2) := by decide +kernel
theorem dX5_crosses_57 : decode cX5_crosses 57 = .ok (.iload 4, 2) := by decide +kernel
theorem dX5_crosses_59 : decode cX5_crosses 59 = .ok (.ifCond .eq 103, 3) := by decide +kernel
theorem dX5_crosses_62 : decode cX5_crosses 62 = .ok (.aload_n 0, 1) := by decide +kernel
theorem dX5_crosses_63 : decode cX5_crosses 63 = .ok (.iload_n 2, 1) := by decide +kernel
theorem dX5_crosses_64 : decode cX5_crosses 64 = .ok (.aload_n 0, 1) := by decide +kernel
theorem dX5_crosses_65 : decode cX5_crosses 65 = .ok (.getfield 7, 3) := by decide +kernel
theorem dX5_crosses_68 : decode cX5_crosses 68 = .ok (.iload_n 2, 1) := by decide +kernel
theorem dX5_crosses_69 : decode cX5_crosses 69 = .ok (.iaload, 1) := by decide +kernel
theorem dX5_crosses_70 : decode cX5_crosses 70 = .ok (.iload_n 1, 1) := by decide +kernel
theorem dX5_crosses_71 : decode cX5_crosses 71 = .ok (.invokevirtual 180, 3) := by decide +kernel
theorem dX5_crosses_74 : decode cX5_crosses 74 = .ok (.aload_n 0, 1) := by decide +kernel
theorem dX5_crosses_75 : decode cX5_crosses 75 = .ok (.iload_n 3, 1) := by decide +kernel
theorem dX5_crosses_76 : decode cX5_crosses 76 = .ok (.aload_n 0, 1) := by decide +kernel
theorem dX5_crosses_77 : decode cX5_crosses 77 = .ok (.getfield 7, 3) := by decide +kernel
theorem dX5_crosses_80 : decode cX5_crosses 80 = .ok (.iload_n 3, 1) := by decide +kernel
theorem dX5_crosses_81 : decode cX5_crosses 81 = .ok (.iaload, 1) := by decide +kernel
theorem dX5_crosses_82 : decode cX5_crosses 82 = .ok (.iload_n 1, 1) := by decide +kernel
theorem dX5_crosses_83 : decode cX5_crosses 83 = .ok (.invokevirtual 180, 3) := by decide +kernel
theorem dX5_crosses_86 : decode cX5_crosses 86 = .ok (.if_icmp .ne 76, 3) := by decide +kernel
theorem dX5_crosses_89 : decode cX5_crosses 89 = .ok (.iconst 0, 1) := by decide +kernel
theorem dX5_crosses_90 : decode cX5_crosses 90 = .ok (.istore 5, 2) := by decide +kernel
theorem dX5_crosses_92 : decode cX5_crosses 92 = .ok (.iload 5, 2) := by decide +kernel
theorem dX5_crosses_94 : decode cX5_crosses 94 = .ok (.aload_n 0, 1) := by decide +kernel
theorem dX5_crosses_95 : decode cX5_crosses 95 = .ok (.getfield 143, 3) := by decide +kernel
theorem dX5_crosses_98 : decode cX5_crosses 98 = .ok (.if_icmp .ge 47, 3) := by decide +kernel
theorem dX5_crosses_101 : decode cX5_crosses 101 = .ok (.iload 5, 2) := by decide +kernel
theorem dX5_crosses_103 : decode cX5_crosses 103 = .ok (.iload_n 2, 1) := by decide +kernel
theorem dX5_crosses_104 : decode cX5_crosses 104 = .ok (.if_icmp .eq 35, 3) := by decide +kernel
theorem dX5_crosses_107 : decode cX5_crosses 107 = .ok (.iload 5, 2) := by decide +kernel
theorem dX5_crosses_109 : decode cX5_crosses 109 = .ok (.iload_n 3, 1) := by decide +kernel
theorem dX5_crosses_110 : decode cX5_crosses 110 = .ok (.if_icmp .eq 29, 3) := by decide +kernel
theorem dX5_crosses_113 : decode cX5_crosses 113 = .ok (.aload_n 0, 1) := by decide +kernel
theorem dX5_crosses_114 : decode cX5_crosses 114 = .ok (.getfield 40, 3) := by decide +kernel
theorem dX5_crosses_117 : decode cX5_crosses 117 = .ok (.iload_n 1, 1) := by decide +kernel
theorem dX5_crosses_118 : decode cX5_crosses 118 = .ok (.iaload, 1) := by decide +kernel
theorem dX5_crosses_119 : decode cX5_crosses 119 = .ok (.iload 5, 2) := by decide +kernel
theorem dX5_crosses_121 : decode cX5_crosses 121 = .ok (.ishr, 1) := by decide +kernel
theorem dX5_crosses_122 : decode cX5_crosses 122 = .ok (.iconst 1, 1) := by decide +kernel
theorem dX5_crosses_123 : decode cX5_crosses 123 = .ok (.iand, 1) := by decide +kernel
theorem dX5_crosses_124 : decode cX5_crosses 124 = .ok (.ifCond .eq 15, 3) := by decide +kernel
theorem dX5_crosses_127 : decode cX5_crosses 127 = .ok (.aload_n 0, 1) := by decide +kernel
theorem dX5_crosses_128 : decode cX5_crosses 128 = .ok (.getfield 31, 3) := by decide +kernel
theorem dX5_crosses_131 : decode cX5_crosses 131 = .ok (.iload 5, 2) := by decide +kernel
theorem dX5_crosses_133 : decode cX5_crosses 133 = .ok (.iaload, 1) := by decide +kernel
theorem dX5_crosses_134 : decode cX5_crosses 134 = .ok (.bipush (-4), 2) := by decide +kernel
theorem dX5_crosses_136 : decode cX5_crosses 136 = .ok (.if_icmp .eq 9, 3) := by decide +kernel
theorem dX5_crosses_139 : decode cX5_crosses 139 = .ok (.iinc 5 1, 3) := by decide +kernel
theorem dX5_crosses_142 : decode cX5_crosses 142 = .ok (.goto (-50), 3) := by decide +kernel
theorem dX5_crosses_145 : decode cX5_crosses 145 = .ok (.iload 5, 2) := by decide +kernel
theorem dX5_crosses_147 : decode cX5_crosses 147 = .ok (.aload_n 0, 1) := by decide +kernel
theorem dX5_crosses_148 : decode cX5_crosses 148 = .ok (.getfield 143, 3) := by decide +kernel
theorem dX5_crosses_151 : decode cX5_crosses 151 = .ok (.if_icmp .ge 11, 3) := by decide +kernel
theorem dX5_crosses_154 : decode cX5_crosses 154 = .ok (.aload_n 0, 1) := by decide +kernel
theorem dX5_crosses_155 : decode cX5_crosses 155 = .ok (.iload 5, 2) := by decide +kernel
theorem dX5_crosses_157 : decode cX5_crosses 157 = .ok (.iload_n 1, 1) := by decide +kernel
theorem dX5_crosses_158 : decode cX5_crosses 158 = .ok (.iconst 3, 1) := by decide +kernel
theorem dX5_crosses_159 : decode cX5_crosses 159 = .ok (.invokevirtual 206, 3) := by decide +kernel
theorem dX5_crosses_162 : decode cX5_crosses 162 = .ok (.iinc 3 1, 3) := by decide +kernel
theorem dX5_crosses_165 : decode cX5_crosses 165 = .ok (.goto (-151), 3) := by decide +kernel
theorem dX5_crosses_168 : decode cX5_crosses 168 = .ok (.iinc 2 1, 3) := by decide +kernel
theorem dX5_crosses_171 : decode cX5_crosses 171 = .ok (.goto (-169), 3) := by decide +kernel
theorem dX5_crosses_174 : decode cX5_crosses 174 = .ok (.return_, 1) := by decide +kernel
theorem dX5_playing_0 : decode cX5_playing 0 = .ok (.iconst 0, 1) := by decide +kernel
theorem dX5_playing_1 : decode cX5_playing 1 = .ok (.istore_n 1, 1) := by decide +kernel
theorem dX5_playing_2 : decode cX5_playing 2 = .ok (.iload_n 1, 1) := by decide +kernel
theorem dX5_playing_3 : decode cX5_playing 3 = .ok (.iconst 4, 1) := by decide +kernel
theorem dX5_playing_4 : decode cX5_playing 4 = .ok (.if_icmp .ge 53, 3) := by decide +kernel
theorem dX5_playing_7 : decode cX5_playing 7 = .ok (.aload_n 0, 1) := by decide +kernel
theorem dX5_playing_8 : decode cX5_playing 8 = .ok (.getfield 25, 3) := by decide +kernel
theorem dX5_playing_11 : decode cX5_playing 11 = .ok (.iload_n 1, 1) := by decide +kernel
theorem dX5_playing_12 : decode cX5_playing 12 = .ok (.aload_n 0, 1) := by decide +kernel
theorem dX5_playing_13 : decode cX5_playing 13 = .ok (.getfield 7, 3) := by decide +kernel
theorem dX5_playing_16 : decode cX5_playing 16 = .ok (.bipush 52, 2) := by decide +kernel
theorem dX5_playing_18 : decode cX5_playing 18 = .ok (.iload_n 1, 1) := by decide +kernel
theorem dX5_playing_19 : decode cX5_playing 19 = .ok (.iadd, 1) := by decide +kernel
theorem dX5_playing_20 : decode cX5_playing 20 = .ok (.iaload, 1) := by decide +kernel
theorem dX5_playing_21 : decode cX5_playing 21 = .ok (.iastore, 1) := by decide +kernel
theorem dX5_playing_22 : decode cX5_playing 22 = .ok (.aload_n 0, 1) := by decide +kernel
theorem dX5_playing_23 : decode cX5_playing 23 = .ok (.getfield 28, 3) := by decide +kernel
theorem dX5_playing_26 : decode cX5_playing 26 = .ok (.iload_n 1, 1) := by decide +kernel
theorem dX5_playing_27 : decode cX5_playing 27 = .ok (.iconst 0, 1) := by decide +kernel
theorem dX5_playing_28 : decode cX5_playing 28 = .ok (.iastore, 1) := by decide +kernel
theorem dX5_playing_29 : decode cX5_playing 29 = .ok (.aload_n 0, 1) := by decide +kernel
theorem dX5_playing_30 : decode cX5_playing 30 = .ok (.getfield 31, 3) := by decide +kernel
theorem dX5_playing_33 : decode cX5_playing 33 = .ok (.iload_n 1, 1) := by decide +kernel
theorem dX5_playing_34 : decode cX5_playing 34 = .ok (.bipush (-4), 2) := by decide +kernel
theorem dX5_playing_36 : decode cX5_playing 36 = .ok (.iastore, 1) := by decide +kernel
theorem dX5_playing_37 : decode cX5_playing 37 = .ok (.aload_n 0, 1) := by decide +kernel
theorem dX5_playing_38 : decode cX5_playing 38 = .ok (.getfield 34, 3) := by decide +kernel
theorem dX5_playing_41 : decode cX5_playing 41 = .ok (.iload_n 1, 1) := by decide +kernel
theorem dX5_playing_42 : decode cX5_playing 42 = .ok (.iconst 0, 1) := by decide +kernel
theorem dX5_playing_43 : decode cX5_playing 43 = .ok (.iastore, 1) := by decide +kernel
theorem dX5_playing_44 : decode cX5_playing 44 = .ok (.aload_n 0, 1) := by decide +kernel
theorem dX5_playing_45 : decode cX5_playing 45 = .ok (.getfield 37, 3) := by decide +kernel
theorem dX5_playing_48 : decode cX5_playing 48 = .ok (.iload_n 1, 1) := by decide +kernel
theorem dX5_playing_49 : decode cX5_playing 49 = .ok (.iconst 0, 1) := by decide +kernel
theorem dX5_playing_50 : decode cX5_playing 50 = .ok (.iastore, 1) := by decide +kernel
theorem dX5_playing_51 : decode cX5_playing 51 = .ok (.iinc 1 1, 3) := by decide +kernel
theorem dX5_playing_54 : decode cX5_playing 54 = .ok (.goto (-52), 3) := by decide +kernel
theorem dX5_playing_57 : decode cX5_playing 57 = .ok (.iconst 0, 1) := by decide +kernel
theorem dX5_playing_58 : decode cX5_playing 58 = .ok (.istore_n 1, 1) := by decide +kernel
theorem dX5_playing_59 : decode cX5_playing 59 = .ok (.iload_n 1, 1) := by decide +kernel
theorem dX5_playing_60 : decode cX5_playing 60 = .ok (.sipush 159, 3) := by decide +kernel
theorem dX5_playing_63 : decode cX5_playing 63 = .ok (.if_icmp .gt 62, 3) := by decide +kernel
theorem dX5_playing_66 : decode cX5_playing 66 = .ok (.aload_n 0, 1) := by decide +kernel
theorem dX5_playing_67 : decode cX5_playing 67 = .ok (.getfield 40, 3) := by decide +kernel
theorem dX5_playing_70 : decode cX5_playing 70 = .ok (.iload_n 1, 1) := by decide +kernel
theorem dX5_playing_71 : decode cX5_playing 71 = .ok (.iconst 0, 1) := by decide +kernel
theorem dX5_playing_72 : decode cX5_playing 72 = .ok (.iastore, 1) := by decide +kernel
theorem dX5_playing_73 : decode cX5_playing 73 = .ok (.iconst 0, 1) := by decide +kernel
theorem dX5_playing_74 : decode cX5_playing 74 = .ok (.istore_n 2, 1) := by decide +kernel
theorem dX5_playing_75 : decode cX5_playing 75 = .ok (.iload_n 2, 1) := by decide +kernel
theorem dX5_playing_76 : decode cX5_playing 76 = .ok (.aload_n 0, 1) := by decide +kernel
theorem dX5_playing_77 : decode cX5_playing 77 = .ok (.getfield 143, 3) := by decide +kernel
theorem dX5_playing_80 : decode cX5_playing 80 = .ok (.if_icmp .ge 34, 3) := by decide +kernel
theorem dX5_playing_83 : decode cX5_playing 83 = .ok (.aload_n 0, 1) := by decide +kernel
theorem dX5_playing_84 : decode cX5_playing 84 = .ok (.getfield 40, 3) := by decide +kernel
theorem dX5_playing_87 : decode cX5_playing 87 = .ok (.iload_n 1, 1) := by decide +kernel
theorem dX5_playing_88 : decode cX5_playing 88 = .ok (.dup2, 1) := by decide +kernel
theorem dX5_playing_89 : decode cX5_playing 89 = .ok (.iaload, 1) := by decide +kernel
theorem dX5_playing_90 : decode cX5_playing 90 = .ok (.aload_n 0, 1) := by decide +kernel
theorem dX5_playing_91 : decode cX5_playing 91 = .ok (.iload_n 2, 1) := by decide +kernel
theorem dX5_playing_92 : decode cX5_playing 92 = .ok (.iload_n 1, 1) := by decide +kernel
theorem dX5_playing_93 : decode cX5_playing 93 = .ok (.invokevirtual 213, 3) := by decide +kernel
theorem dX5_playing_96 : decode cX5_playing 96 = .ok (.ifCond .eq 9, 3) := by decide +kernel
theorem dX5_playing_99 : decode cX5_playing 99 = .ok (.iconst 1, 1) := by decide +kernel
theorem dX5_playing_100 : decode cX5_playing 100 = .ok (.iload_n 2, 1) := by decide +kernel
theorem dX5_playing_101 : decode cX5_playing 101 = .ok (.ishl, 1) := by decide +kernel
theorem dX5_playing_102 : decode cX5_playing 102 = .ok (.goto 4, 3) := by decide +kernel
theorem dX5_playing_105 : decode cX5_playing 105 = .ok (.iconst 0, 1) := by decide +kernel
theorem dX5_playing_106 : decode cX5_playing 106 = .ok (.ior, 1) := by decide +kernel
theorem dX5_playing_107 : decode cX5_playing 107 = .ok (.iastore, 1) := by decide +kernel
theorem dX5_playing_108 : decode cX5_playing 108 = .ok (.iinc 2 1, 3) := by decide +kernel
theorem dX5_playing_111 : decode cX5_playing 111 = .ok (.goto (-36), 3) := by decide +kernel
theorem dX5_playing_114 : decode cX5_playing 114 = .ok (.aload_n 0, 1) := by decide +kernel
theorem dX5_playing_115 : decode cX5_playing 115 = .ok (.iload_n 1, 1) := by decide +kernel
theorem dX5_playing_116 : decode cX5_playing 116 = .ok (.invokevirtual 216, 3) := by decide +kernel
theorem dX5_playing_119 : decode cX5_playing 119 = .ok (.iinc 1 1, 3) := by decide +kernel
theorem dX5_playing_122 : decode cX5_playing 122 = .ok (.goto (-63), 3) := by decide +kernel
theorem dX5_playing_125 : decode cX5_playing 125 = .ok (.return_, 1) := by decide +kernel
theorem dX5_away_0 : decode cX5_away 0 = .ok (.iconst 0, 1) := by decide +kernel
theorem dX5_away_1 : decode cX5_away 1 = .ok (.istore_n 1, 1) := by decide +kernel
theorem dX5_away_2 : decode cX5_away 2 = .ok (.iconst 0, 1) := by decide +kernel
theorem dX5_away_3 : decode cX5_away 3 = .ok (.istore_n 2, 1) := by decide +kernel
theorem dX5_away_4 : decode cX5_away 4 = .ok (.iload_n 2, 1) := by decide +kernel
theorem dX5_away_5 : decode cX5_away 5 = .ok (.aload_n 0, 1) := by decide +kernel
theorem dX5_away_6 : decode cX5_away 6 = .ok (.getfield 149, 3) := by decide +kernel
theorem dX5_away_9 : decode cX5_away 9 = .ok (.if_icmp .ge 36, 3) := by decide +kernel
theorem dX5_away_12 : decode cX5_away 12 = .ok (.iload_n 1, 1) := by decide +kernel
theorem dX5_away_13 : decode cX5_away 13 = .ok (.aload_n 0, 1) := by decide +kernel
theorem dX5_away_14 : decode cX5_away 14 = .ok (.getfield 34, 3) := by decide +kernel
theorem dX5_away_17 : decode cX5_away 17 = .ok (.aload_n 0, 1) := by decide +kernel
theorem dX5_away_18 : decode cX5_away 18 = .ok (.getfield 7, 3) := by decide +kernel
theorem dX5_away_21 : decode cX5_away 21 = .ok (.bipush 64, 2) := by decide +kernel
theorem dX5_away_23 : decode cX5_away 23 = .ok (.iload_n 2, 1) := by decide +kernel
theorem dX5_away_24 : decode cX5_away 24 = .ok (.iadd, 1) := by decide +kernel
theorem dX5_away_25 : decode cX5_away 25 = .ok (.iaload, 1) := by decide +kernel
theorem dX5_away_26 : decode cX5_away 26 = .ok (.iaload, 1) := by decide +kernel
theorem dX5_away_27 : decode cX5_away 27 = .ok (.ifCond .eq 9, 3) := by decide +kernel
theorem dX5_away_30 : decode cX5_away 30 = .ok (.iconst 1, 1) := by decide +kernel
theorem dX5_away_31 : decode cX5_away 31 = .ok (.iload_n 2, 1) := by decide +kernel
theorem dX5_away_32 : decode cX5_away 32 = .ok (.ishl, 1) := by decide +kernel
theorem dX5_away_33 : decode cX5_away 33 = .ok (.goto 4, 3) := by decide +kernel
theorem dX5_away_36 : decode cX5_away 36 = .ok (.iconst 0, 1) := by decide +kernel
theorem dX5_away_37 : decode cX5_away 37 = .ok (.ior, 1) := by decide +kernel
theorem dX5_away_38 : decode cX5_away 38 = .ok (.istore_n 1, 1) := by decide +kernel
theorem dX5_away_39 : decode cX5_away 39 = .ok (.iinc 2 1, 3) := by decide +kernel
theorem dX5_away_42 : decode cX5_away 42 = .ok (.goto (-38), 3) := by decide +kernel
theorem dX5_away_45 : decode cX5_away 45 = .ok (.iload_n 1, 1) := by decide +kernel
theorem dX5_away_46 : decode cX5_away 46 = .ok (.ireturn, 1) := by decide +kernel
theorem dX5_bitsOf_0 : decode cX5_bitsOf 0 = .ok (.iconst 0, 1) := by decide +kernel
theorem dX5_bitsOf_1 : decode cX5_bitsOf 1 = .ok (.istore_n 1, 1) := by decide +kernel
theorem dX5_bitsOf_2 : decode cX5_bitsOf 2 = .ok (.iconst 0, 1) := by decide +kernel
theorem dX5_bitsOf_3 : decode cX5_bitsOf 3 = .ok (.istore_n 2, 1) := by decide +kernel
theorem dX5_bitsOf_4 : decode cX5_bitsOf 4 = .ok (.iload_n 2, 1) := by decide +kernel
theorem dX5_bitsOf_5 : decode cX5_bitsOf 5 = .ok (.bipush 6, 2) := by decide +kernel
theorem dX5_bitsOf_7 : decode cX5_bitsOf 7 = .ok (.if_icmp .ge 17, 3) := by decide +kernel
theorem dX5_bitsOf_10 : decode cX5_bitsOf 10 = .ok (.iload_n 1, 1) := by decide +kernel
theorem dX5_bitsOf_11 : decode cX5_bitsOf 11 = .ok (.iload_n 0, 1) := by decide +kernel
theorem dX5_bitsOf_12 : decode cX5_bitsOf 12 = .ok (.iload_n 2, 1) := by decide +kernel
theorem dX5_bitsOf_13 : decode cX5_bitsOf 13 = .ok (.ishr, 1) := by decide +kernel
theorem dX5_bitsOf_14 : decode cX5_bitsOf 14 = .ok (.iconst 1, 1) := by decide +kernel
theorem dX5_bitsOf_15 : decode cX5_bitsOf 15 = .ok (.iand, 1) := by decide +kernel
theorem dX5_bitsOf_16 : decode cX5_bitsOf 16 = .ok (.iadd, 1) := by decide +kernel
theorem dX5_bitsOf_17 : decode cX5_bitsOf 17 = .ok (.istore_n 1, 1) := by decide +kernel
theorem dX5_bitsOf_18 : decode cX5_bitsOf 18 = .ok (.iinc 2 1, 3) := by decide +kernel
theorem dX5_bitsOf_21 : decode cX5_bitsOf 21 = .ok (.goto (-17), 3) := by decide +kernel
theorem dX5_bitsOf_24 : decode cX5_bitsOf 24 = .ok (.iload_n 1, 1) := by decide +kernel
theorem dX5_bitsOf_25 : decode cX5_bitsOf 25 = .ok (.ireturn, 1) := by decide +kernel
theorem dX5_awayMany_0 : decode cX5_awayMany 0 = .ok (.aload_n 0, 1) := by decide +kernel
theorem dX5_awayMany_1 : decode cX5_awayMany 1 = .ok (.invokevirtual 219, 3) := by decide +kernel
theorem dX5_awayMany_4 : decode cX5_awayMany 4 = .ok (.aload_n 0, 1) := by decide +kernel
theorem dX5_awayMany_5 : decode cX5_awayMany 5 = .ok (.invokevirtual 222, 3) := by decide +kernel
theorem dX5_awayMany_8 : decode cX5_awayMany 8 = .ok (.invokestatic 225, 3) := by decide +kernel
theorem dX5_awayMany_11 : decode cX5_awayMany 11 = .ok (.ireturn, 1) := by decide +kernel
theorem dX5_cost_0 : decode cX5_cost 0 = .ok (.iconst 0, 1) := by decide +kernel
theorem dX5_cost_1 : decode cX5_cost 1 = .ok (.istore_n 1, 1) := by decide +kernel
theorem dX5_cost_2 : decode cX5_cost 2 = .ok (.iconst 0, 1) := by decide +kernel
theorem dX5_cost_3 : decode cX5_cost 3 = .ok (.istore_n 2, 1) := by decide +kernel
theorem dX5_cost_4 : decode cX5_cost 4 = .ok (.iload_n 2, 1) := by decide +kernel
theorem dX5_cost_5 : decode cX5_cost 5 = .ok (.aload_n 0, 1) := by decide +kernel
theorem dX5_cost_6 : decode cX5_cost 6 = .ok (.getfield 146, 3) := by decide +kernel
theorem dX5_cost_9 : decode cX5_cost 9 = .ok (.if_icmp .ge 28, 3) := by decide +kernel
theorem dX5_cost_12 : decode cX5_cost 12 = .ok (.iload_n 1, 1) := by decide +kernel
theorem dX5_cost_13 : decode cX5_cost 13 = .ok (.aload_n 0, 1) := by decide +kernel
theorem dX5_cost_14 : decode cX5_cost 14 = .ok (.getfield 28, 3) := by decide +kernel
theorem dX5_cost_17 : decode cX5_cost 17 = .ok (.iload_n 2, 1) := by decide +kernel
theorem dX5_cost_18 : decode cX5_cost 18 = .ok (.iaload, 1) := by decide +kernel
theorem dX5_cost_19 : decode cX5_cost 19 = .ok (.aload_n 0, 1) := by decide +kernel
theorem dX5_cost_20 : decode cX5_cost 20 = .ok (.getfield 7, 3) := by decide +kernel
theorem dX5_cost_23 : decode cX5_cost 23 = .ok (.bipush 56, 2) := by decide +kernel
theorem dX5_cost_25 : decode cX5_cost 25 = .ok (.iload_n 2, 1) := by decide +kernel
theorem dX5_cost_26 : decode cX5_cost 26 = .ok (.iadd, 1) := by decide +kernel
theorem dX5_cost_27 : decode cX5_cost 27 = .ok (.iaload, 1) := by decide +kernel
theorem dX5_cost_28 : decode cX5_cost 28 = .ok (.imul, 1) := by decide +kernel
theorem dX5_cost_29 : decode cX5_cost 29 = .ok (.iadd, 1) := by decide +kernel
theorem dX5_cost_30 : decode cX5_cost 30 = .ok (.istore_n 1, 1) := by decide +kernel
theorem dX5_cost_31 : decode cX5_cost 31 = .ok (.iinc 2 1, 3) := by decide +kernel
theorem dX5_cost_34 : decode cX5_cost 34 = .ok (.goto (-30), 3) := by decide +kernel
theorem dX5_cost_37 : decode cX5_cost 37 = .ok (.iload_n 1, 1) := by decide +kernel
theorem dX5_cost_38 : decode cX5_cost 38 = .ok (.ireturn, 1) := by decide +kernel
theorem dX5_out_0 : decode cX5_out 0 = .ok (.aload_n 0, 1) := by decide +kernel
theorem dX5_out_1 : decode cX5_out 1 = .ok (.iload_n 1, 1) := by decide +kernel
theorem dX5_out_2 : decode cX5_out 2 = .ok (.invokevirtual 189, 3) := by decide +kernel
theorem dX5_out_5 : decode cX5_out 5 = .ok (.ifCond .eq 13, 3) := by decide +kernel
theorem dX5_out_8 : decode cX5_out 8 = .ok (.iload_n 2, 1) := by decide +kernel
theorem dX5_out_9 : decode cX5_out 9 = .ok (.i2l, 1) := by decide +kernel
theorem dX5_out_10 : decode cX5_out 10 = .ok (.lconst 0, 1) := by decide +kernel
theorem dX5_out_11 : decode cX5_out 11 = .ok (.lconst 1, 1) := by decide +kernel
theorem dX5_out_12 : decode cX5_out 12 = .ok (.invokestatic 61, 3) := by decide +kernel
theorem dX5_out_15 : decode cX5_out 15 = .ok (.ifCond .ne 5, 3) := by decide +kernel
theorem dX5_out_18 : decode cX5_out 18 = .ok (.iconst (-1), 1) := by decide +kernel
theorem dX5_out_19 : decode cX5_out 19 = .ok (.ireturn, 1) := by decide +kernel
theorem dX5_out_20 : decode cX5_out 20 = .ok (.aload_n 0, 1) := by decide +kernel
theorem dX5_out_21 : decode cX5_out 21 = .ok (.invokevirtual 219, 3) := by decide +kernel
theorem dX5_out_24 : decode cX5_out 24 = .ok (.aload_n 0, 1) := by decide +kernel
theorem dX5_out_25 : decode cX5_out 25 = .ok (.getfield 7, 3) := by decide +kernel
theorem dX5_out_28 : decode cX5_out 28 = .ok (.bipush 64, 2) := by decide +kernel
theorem dX5_out_30 : decode cX5_out 30 = .ok (.iload_n 1, 1) := by decide +kernel
theorem dX5_out_31 : decode cX5_out 31 = .ok (.iadd, 1) := by decide +kernel
theorem dX5_out_32 : decode cX5_out 32 = .ok (.iaload, 1) := by decide +kernel
theorem dX5_out_33 : decode cX5_out 33 = .ok (.istore_n 3, 1) := by decide +kernel
theorem dX5_out_34 : decode cX5_out 34 = .ok (.iload_n 2, 1) := by decide +kernel
theorem dX5_out_35 : decode cX5_out 35 = .ok (.ifCond .ne 12, 3) := by decide +kernel
theorem dX5_out_38 : decode cX5_out 38 = .ok (.aload_n 0, 1) := by decide +kernel
theorem dX5_out_39 : decode cX5_out 39 = .ok (.getfield 31, 3) := by decide +kernel
theorem dX5_out_42 : decode cX5_out 42 = .ok (.iload_n 3, 1) := by decide +kernel
theorem dX5_out_43 : decode cX5_out 43 = .ok (.iaload, 1) := by decide +kernel
theorem dX5_out_44 : decode cX5_out 44 = .ok (.goto 9, 3) := by decide +kernel
theorem dX5_out_47 : decode cX5_out 47 = .ok (.aload_n 0, 1) := by decide +kernel
theorem dX5_out_48 : decode cX5_out 48 = .ok (.getfield 34, 3) := by decide +kernel
theorem dX5_out_51 : decode cX5_out 51 = .ok (.iload_n 3, 1) := by decide +kernel
theorem dX5_out_52 : decode cX5_out 52 = .ok (.iaload, 1) := by decide +kernel
theorem dX5_out_53 : decode cX5_out 53 = .ok (.ireturn, 1) := by decide +kernel
theorem dX5_over_0 : decode cX5_over 0 = .ok (.aload_n 0, 1) := by decide +kernel
theorem dX5_over_1 : decode cX5_over 1 = .ok (.iload_n 1, 1) := by decide +kernel
theorem dX5_over_2 : decode cX5_over 2 = .ok (.invokevirtual 161, 3) := by decide +kernel
theorem dX5_over_5 : decode cX5_over 5 = .ok (.ifCond .eq 15, 3) := by decide +kernel
theorem dX5_over_8 : decode cX5_over 8 = .ok (.iload_n 2, 1) := by decide +kernel
theorem dX5_over_9 : decode cX5_over 9 = .ok (.i2l, 1) := by decide +kernel
theorem dX5_over_10 : decode cX5_over 10 = .ok (.lconst 0, 1) := by decide +kernel
theorem dX5_over_11 : decode cX5_over 11 = .ok (.ldc2_w 228, 3) := by decide +kernel
theorem dX5_over_14 : decode cX5_over 14 = .ok (.invokestatic 61, 3) := by decide +kernel
theorem dX5_over_17 : decode cX5_over 17 = .ok (.ifCond .ne 5, 3) := by decide +kernel
theorem dX5_over_20 : decode cX5_over 20 = .ok (.iconst (-1), 1) := by decide +kernel
theorem dX5_over_21 : decode cX5_over 21 = .ok (.ireturn, 1) := by decide +kernel
theorem dX5_over_22 : decode cX5_over 22 = .ok (.aload_n 0, 1) := by decide +kernel
theorem dX5_over_23 : decode cX5_over 23 = .ok (.invokevirtual 219, 3) := by decide +kernel
theorem dX5_over_26 : decode cX5_over 26 = .ok (.iload_n 2, 1) := by decide +kernel
theorem dX5_over_27 : decode cX5_over 27 = .ok (.ifCond .ne 12, 3) := by decide +kernel
theorem dX5_over_30 : decode cX5_over 30 = .ok (.aload_n 0, 1) := by decide +kernel
theorem dX5_over_31 : decode cX5_over 31 = .ok (.getfield 31, 3) := by decide +kernel
theorem dX5_over_34 : decode cX5_over 34 = .ok (.iload_n 1, 1) := by decide +kernel
theorem dX5_over_35 : decode cX5_over 35 = .ok (.iaload, 1) := by decide +kernel
theorem dX5_over_36 : decode cX5_over 36 = .ok (.goto 23, 3) := by decide +kernel
theorem dX5_over_39 : decode cX5_over 39 = .ok (.iload_n 2, 1) := by decide +kernel
theorem dX5_over_40 : decode cX5_over 40 = .ok (.iconst 1, 1) := by decide +kernel
theorem dX5_over_41 : decode cX5_over 41 = .ok (.if_icmp .ne 12, 3) := by decide +kernel
theorem dX5_over_44 : decode cX5_over 44 = .ok (.aload_n 0, 1) := by decide +kernel
theorem dX5_over_45 : decode cX5_over 45 = .ok (.getfield 34, 3) := by decide +kernel
theorem dX5_over_48 : decode cX5_over 48 = .ok (.iload_n 1, 1) := by decide +kernel
theorem dX5_over_49 : decode cX5_over 49 = .ok (.iaload, 1) := by decide +kernel
theorem dX5_over_50 : decode cX5_over 50 = .ok (.goto 9, 3) := by decide +kernel
theorem dX5_over_53 : decode cX5_over 53 = .ok (.aload_n 0, 1) := by decide +kernel
theorem dX5_over_54 : decode cX5_over 54 = .ok (.getfield 37, 3) := by decide +kernel
theorem dX5_over_57 : decode cX5_over 57 = .ok (.iload_n 1, 1) := by decide +kernel
theorem dX5_over_58 : decode cX5_over 58 = .ok (.iaload, 1) := by decide +kernel
theorem dX5_over_59 : decode cX5_over 59 = .ok (.ireturn, 1) := by decide +kernel
theorem dX5_plays_0 : decode cX5_plays 0 = .ok (.aload_n 0, 1) := by decide +kernel
theorem dX5_plays_1 : decode cX5_plays 1 = .ok (.iload_n 1, 1) := by decide +kernel
theorem dX5_plays_2 : decode cX5_plays 2 = .ok (.invokevirtual 184, 3) := by decide +kernel
theorem dX5_plays_5 : decode cX5_plays 5 = .ok (.ifCond .ne 5, 3) := by decide +kernel
theorem dX5_plays_8 : decode cX5_plays 8 = .ok (.iconst (-1), 1) := by decide +kernel
theorem dX5_plays_9 : decode cX5_plays 9 = .ok (.ireturn, 1) := by decide +kernel
theorem dX5_plays_10 : decode cX5_plays 10 = .ok (.aload_n 0, 1) := by decide +kernel
theorem dX5_plays_11 : decode cX5_plays 11 = .ok (.invokevirtual 219, 3) := by decide +kernel
theorem dX5_plays_14 : decode cX5_plays 14 = .ok (.aload_n 0, 1) := by decide +kernel
theorem dX5_plays_15 : decode cX5_plays 15 = .ok (.getfield 28, 3) := by decide +kernel
theorem dX5_plays_18 : decode cX5_plays 18 = .ok (.iload_n 1, 1) := by decide +kernel
theorem dX5_plays_19 : decode cX5_plays 19 = .ok (.iaload, 1) := by decide +kernel
theorem dX5_plays_20 : decode cX5_plays 20 = .ok (.ireturn, 1) := by decide +kernel
theorem dX5_sounds_0 : decode cX5_sounds 0 = .ok (.iload_n 1, 1) := by decide +kernel
theorem dX5_sounds_1 : decode cX5_sounds 1 = .ok (.invokestatic 177, 3) := by decide +kernel
theorem dX5_sounds_4 : decode cX5_sounds 4 = .ok (.ifCond .ne 5, 3) := by decide +kernel
theorem dX5_sounds_7 : decode cX5_sounds 7 = .ok (.iconst (-1), 1) := by decide +kernel
theorem dX5_sounds_8 : decode cX5_sounds 8 = .ok (.ireturn, 1) := by decide +kernel
theorem dX5_sounds_9 : decode cX5_sounds 9 = .ok (.aload_n 0, 1) := by decide +kernel
theorem dX5_sounds_10 : decode cX5_sounds 10 = .ok (.invokevirtual 219, 3) := by decide +kernel
theorem dX5_sounds_13 : decode cX5_sounds 13 = .ok (.aload_n 0, 1) := by decide +kernel
theorem dX5_sounds_14 : decode cX5_sounds 14 = .ok (.getfield 40, 3) := by decide +kernel
theorem dX5_sounds_17 : decode cX5_sounds 17 = .ok (.iload_n 1, 1) := by decide +kernel
theorem dX5_sounds_18 : decode cX5_sounds 18 = .ok (.iaload, 1) := by decide +kernel
theorem dX5_sounds_19 : decode cX5_sounds 19 = .ok (.ireturn, 1) := by decide +kernel
theorem dX5_sum_0 : decode cX5_sum 0 = .ok (.iload_n 1, 1) := by decide +kernel
theorem dX5_sum_1 : decode cX5_sum 1 = .ok (.i2l, 1) := by decide +kernel
theorem dX5_sum_2 : decode cX5_sum 2 = .ok (.lconst 0, 1) := by decide +kernel
theorem dX5_sum_3 : decode cX5_sum 3 = .ok (.ldc2_w 187, 3) := by decide +kernel
theorem dX5_sum_6 : decode cX5_sum 6 = .ok (.invokestatic 61, 3) := by decide +kernel
theorem dX5_sum_9 : decode cX5_sum 9 = .ok (.ifCond .ne 5, 3) := by decide +kernel
theorem dX5_sum_12 : decode cX5_sum 12 = .ok (.iconst (-1), 1) := by decide +kernel
theorem dX5_sum_13 : decode cX5_sum 13 = .ok (.ireturn, 1) := by decide +kernel
theorem dX5_sum_14 : decode cX5_sum 14 = .ok (.aload_n 0, 1) := by decide +kernel
theorem dX5_sum_15 : decode cX5_sum 15 = .ok (.invokevirtual 219, 3) := by decide +kernel
theorem dX5_sum_18 : decode cX5_sum 18 = .ok (.iconst 0, 1) := by decide +kernel
theorem dX5_sum_19 : decode cX5_sum 19 = .ok (.istore_n 2, 1) := by decide +kernel
theorem dX5_sum_20 : decode cX5_sum 20 = .ok (.iconst 0, 1) := by decide +kernel
theorem dX5_sum_21 : decode cX5_sum 21 = .ok (.istore_n 3, 1) := by decide +kernel
theorem dX5_sum_22 : decode cX5_sum 22 = .ok (.iconst 0, 1) := by decide +kernel
theorem dX5_sum_23 : decode cX5_sum 23 = .ok (.istore 4, 2) := by decide +kernel
theorem dX5_sum_25 : decode cX5_sum 25 = .ok (.iload 4, 2) := by decide +kernel
theorem dX5_sum_27 : decode cX5_sum 27 = .ok (.aload_n 0, 1) := by decide +kernel
theorem dX5_sum_28 : decode cX5_sum 28 = .ok (.getfield 143, 3) := by decide +kernel
theorem dX5_sum_31 : decode cX5_sum 31 = .ok (.if_icmp .ge 51, 3) := by decide +kernel
theorem dX5_sum_34 : decode cX5_sum 34 = .ok (.aload_n 0, 1) := by decide +kernel
theorem dX5_sum_35 : decode cX5_sum 35 = .ok (.getfield 31, 3) := by decide +kernel
theorem dX5_sum_38 : decode cX5_sum 38 = .ok (.iload 4, 2) := by decide +kernel
theorem dX5_sum_40 : decode cX5_sum 40 = .ok (.iaload, 1) := by decide +kernel
theorem dX5_sum_41 : decode cX5_sum 41 = .ok (.iload_n 2, 1) := by decide +kernel
theorem dX5_sum_42 : decode cX5_sum 42 = .ok (.if_icmp .le 13, 3) := by decide +kernel
theorem dX5_sum_45 : decode cX5_sum 45 = .ok (.aload_n 0, 1) := by decide +kernel
theorem dX5_sum_46 : decode cX5_sum 46 = .ok (.getfield 31, 3) := by decide +kernel
theorem dX5_sum_49 : decode cX5_sum 49 = .ok (.iload 4, 2) := by decide +kernel
theorem dX5_sum_51 : decode cX5_sum 51 = .ok (.iaload, 1) := by decide +kernel
theorem dX5_sum_52 : decode cX5_sum 52 = .ok (.goto 4, 3) := by decide +kernel
theorem dX5_sum_55 : decode cX5_sum 55 = .ok (.iload_n 2, 1) := by decide +kernel
theorem dX5_sum_56 : decode cX5_sum 56 = .ok (.istore_n 2, 1) := by decide +kernel
theorem dX5_sum_57 : decode cX5_sum 57 = .ok (.iload_n 3, 1) := by decide +kernel
theorem dX5_sum_58 : decode cX5_sum 58 = .ok (.aload_n 0, 1) := by decide +kernel
theorem dX5_sum_59 : decode cX5_sum 59 = .ok (.getfield 34, 3) := by decide +kernel
theorem dX5_sum_62 : decode cX5_sum 62 = .ok (.iload 4, 2) := by decide +kernel
theorem dX5_sum_64 : decode cX5_sum 64 = .ok (.iaload, 1) := by decide +kernel
theorem dX5_sum_65 : decode cX5_sum 65 = .ok (.iconst 3, 1) := by decide +kernel
theorem dX5_sum_66 : decode cX5_sum 66 = .ok (.if_icmp .ne 7, 3) := by decide +kernel
theorem dX5_sum_69 : decode cX5_sum 69 = .ok (.iconst 1, 1) := by decide +kernel
theorem dX5_sum_70 : decode cX5_sum 70 = .ok (.goto 4, 3) := by decide +kernel
theorem dX5_sum_73 : decode cX5_sum 73 = .ok (.iconst 0, 1) := by decide +kernel
theorem dX5_sum_74 : decode cX5_sum 74 = .ok (.iadd, 1) := by decide +kernel
theorem dX5_sum_75 : decode cX5_sum 75 = .ok (.istore_n 3, 1) := by decide +kernel
theorem dX5_sum_76 : decode cX5_sum 76 = .ok (.iinc 4 1, 3) := by decide +kernel
theorem dX5_sum_79 : decode cX5_sum 79 = .ok (.goto (-54), 3) := by decide +kernel
theorem dX5_sum_82 : decode cX5_sum 82 = .ok (.iload_n 1, 1) := by decide +kernel
theorem dX5_sum_83 : decode cX5_sum 83 = .ok (.ifCond .ne 13, 3) := by decide +kernel
theorem dX5_sum_86 : decode cX5_sum 86 = .ok (.aload_n 0, 1) := by decide +kernel
theorem dX5_sum_87 : decode cX5_sum 87 = .ok (.invokevirtual 222, 3) := by decide +kernel
theorem dX5_sum_90 : decode cX5_sum 90 = .ok (.invokestatic 225, 3) := by decide +kernel
theorem dX5_sum_93 : decode cX5_sum 93 = .ok (.goto 25, 3) := by decide +kernel
theorem dX5_sum_96 : decode cX5_sum 96 = .ok (.iload_n 1, 1) := by decide +kernel
theorem dX5_sum_97 : decode cX5_sum 97 = .ok (.iconst 1, 1) := by decide +kernel
theorem dX5_sum_98 : decode cX5_sum 98 = .ok (.if_icmp .ne 10, 3) := by decide +kernel
theorem dX5_sum_101 : decode cX5_sum 101 = .ok (.aload_n 0, 1) := by decide +kernel
theorem dX5_sum_102 : decode cX5_sum 102 = .ok (.invokevirtual 230, 3) := by decide +kernel
theorem dX5_sum_105 : decode cX5_sum 105 = .ok (.goto 13, 3) := by decide +kernel
theorem dX5_sum_108 : decode cX5_sum 108 = .ok (.iload_n 1, 1) := by decide +kernel
theorem dX5_sum_109 : decode cX5_sum 109 = .ok (.iconst 2, 1) := by decide +kernel
theorem dX5_sum_110 : decode cX5_sum 110 = .ok (.if_icmp .ne 7, 3) := by decide +kernel
theorem dX5_sum_113 : decode cX5_sum 113 = .ok (.iload_n 2, 1) := by decide +kernel
theorem dX5_sum_114 : decode cX5_sum 114 = .ok (.goto 4, 3) := by decide +kernel
theorem dX5_sum_117 : decode cX5_sum 117 = .ok (.iload_n 3, 1) := by decide +kernel
theorem dX5_sum_118 : decode cX5_sum 118 = .ok (.ireturn, 1) := by decide +kernel
theorem dX5_first_0 : decode cX5_first 0 = .ok (.iload_n 1, 1) := by decide +kernel
theorem dX5_first_1 : decode cX5_first 1 = .ok (.i2l, 1) := by decide +kernel
theorem dX5_first_2 : decode cX5_first 2 = .ok (.lconst 0, 1) := by decide +kernel
theorem dX5_first_3 : decode cX5_first 3 = .ok (.lconst 1, 1) := by decide +kernel
theorem dX5_first_4 : decode cX5_first 4 = .ok (.invokestatic 61, 3) := by decide +kernel
theorem dX5_first_7 : decode cX5_first 7 = .ok (.ifCond .ne 5, 3) := by decide +kernel
theorem dX5_first_10 : decode cX5_first 10 = .ok (.iconst (-1), 1) := by decide +kernel
theorem dX5_first_11 : decode cX5_first 11 = .ok (.ireturn, 1) := by decide +kernel
theorem dX5_first_12 : decode cX5_first 12 = .ok (.aload_n 0, 1) := by decide +kernel
theorem dX5_first_13 : decode cX5_first 13 = .ok (.invokevirtual 219, 3) := by decide +kernel
theorem dX5_first_16 : decode cX5_first 16 = .ok (.ldc 233, 2) := by decide +kernel
theorem dX5_first_18 : decode cX5_first 18 = .ok (.istore_n 2, 1) := by decide +kernel
theorem dX5_first_19 : decode cX5_first 19 = .ok (.bipush (-4), 2) := by decide +kernel
theorem dX5_first_21 : decode cX5_first 21 = .ok (.istore_n 3, 1) := by decide +kernel
theorem dX5_first_22 : decode cX5_first 22 = .ok (.iconst 0, 1) := by decide +kernel
theorem dX5_first_23 : decode cX5_first 23 = .ok (.istore 4, 2) := by decide +kernel
theorem dX5_first_25 : decode cX5_first 25 = .ok (.iload 4, 2) := by decide +kernel
theorem dX5_first_27 : decode cX5_first 27 = .ok (.aload_n 0, 1) := by decide +kernel
theorem dX5_first_28 : decode cX5_first 28 = .ok (.getfield 149, 3) := by decide +kernel
theorem dX5_first_31 : decode cX5_first 31 = .ok (.if_icmp .ge 78, 3) := by decide +kernel
theorem dX5_first_34 : decode cX5_first 34 = .ok (.aload_n 0, 1) := by decide +kernel
theorem dX5_first_35 : decode cX5_first 35 = .ok (.getfield 7, 3) := by decide +kernel
theorem dX5_first_38 : decode cX5_first 38 = .ok (.bipush 64, 2) := by decide +kernel
theorem dX5_first_40 : decode cX5_first 40 = .ok (.iload 4, 2) := by decide +kernel
theorem dX5_first_42 : decode cX5_first 42 = .ok (.iadd, 1) := by decide +kernel
theorem dX5_first_43 : decode cX5_first 43 = .ok (.iaload, 1) := by decide +kernel
theorem dX5_first_44 : decode cX5_first 44 = .ok (.istore 5, 2) := by decide +kernel
theorem dX5_first_46 : decode cX5_first 46 = .ok (.aload_n 0, 1) := by decide +kernel
theorem dX5_first_47 : decode cX5_first 47 = .ok (.getfield 34, 3) := by decide +kernel
theorem dX5_first_50 : decode cX5_first 50 = .ok (.iload 5, 2) := by decide +kernel
theorem dX5_first_52 : decode cX5_first 52 = .ok (.iaload, 1) := by decide +kernel
theorem dX5_first_53 : decode cX5_first 53 = .ok (.ifCond .eq 18, 3) := by decide +kernel
theorem dX5_first_56 : decode cX5_first 56 = .ok (.aload_n 0, 1) := by decide +kernel
theorem dX5_first_57 : decode cX5_first 57 = .ok (.getfield 31, 3) := by decide +kernel
theorem dX5_first_60 : decode cX5_first 60 = .ok (.iload 5, 2) := by decide +kernel
theorem dX5_first_62 : decode cX5_first 62 = .ok (.iaload, 1) := by decide +kernel
theorem dX5_first_63 : decode cX5_first 63 = .ok (.iload_n 2, 1) := by decide +kernel
theorem dX5_first_64 : decode cX5_first 64 = .ok (.if_icmp .ge 7, 3) := by decide +kernel
theorem dX5_first_67 : decode cX5_first 67 = .ok (.iconst 1, 1) := by decide +kernel
theorem dX5_first_68 : decode cX5_first 68 = .ok (.goto 4, 3) := by decide +kernel
theorem dX5_first_71 : decode cX5_first 71 = .ok (.iconst 0, 1) := by decide +kernel
theorem dX5_first_72 : decode cX5_first 72 = .ok (.istore 6, 2) := by decide +kernel
theorem dX5_first_74 : decode cX5_first 74 = .ok (.iload 6, 2) := by decide +kernel
theorem dX5_first_76 : decode cX5_first 76 = .ok (.ifCond .eq 8, 3) := by decide +kernel
theorem dX5_first_79 : decode cX5_first 79 = .ok (.iload 4, 2) := by decide +kernel
theorem dX5_first_81 : decode cX5_first 81 = .ok (.goto 4, 3) := by decide +kernel
theorem dX5_first_84 : decode cX5_first 84 = .ok (.iload_n 3, 1) := by decide +kernel
theorem dX5_first_85 : decode cX5_first 85 = .ok (.istore_n 3, 1) := by decide +kernel
theorem dX5_first_86 : decode cX5_first 86 = .ok (.iload 6, 2) := by decide +kernel
theorem dX5_first_88 : decode cX5_first 88 = .ok (.ifCond .eq 13, 3) := by decide +kernel
theorem dX5_first_91 : decode cX5_first 91 = .ok (.aload_n 0, 1) := by decide +kernel
theorem dX5_first_92 : decode cX5_first 92 = .ok (.getfield 31, 3) := by decide +kernel
theorem dX5_first_95 : decode cX5_first 95 = .ok (.iload 5, 2) := by decide +kernel
theorem dX5_first_97 : decode cX5_first 97 = .ok (.iaload, 1) := by decide +kernel
theorem dX5_first_98 : decode cX5_first 98 = .ok (.goto 4, 3) := by decide +kernel
theorem dX5_first_101 : decode cX5_first 101 = .ok (.iload_n 2, 1) := by decide +kernel
theorem dX5_first_102 : decode cX5_first 102 = .ok (.istore_n 2, 1) := by decide +kernel
theorem dX5_first_103 : decode cX5_first 103 = .ok (.iinc 4 1, 3) := by decide +kernel
theorem dX5_first_106 : decode cX5_first 106 = .ok (.goto (-81), 3) := by decide +kernel
theorem dX5_first_109 : decode cX5_first 109 = .ok (.iload_n 3, 1) := by decide +kernel
theorem dX5_first_110 : decode cX5_first 110 = .ok (.bipush (-4), 2) := by decide +kernel
theorem dX5_first_112 : decode cX5_first 112 = .ok (.if_icmp .eq 8, 3) := by decide +kernel
theorem dX5_first_115 : decode cX5_first 115 = .ok (.iload_n 1, 1) := by decide +kernel
theorem dX5_first_116 : decode cX5_first 116 = .ok (.iconst 1, 1) := by decide +kernel
theorem dX5_first_117 : decode cX5_first 117 = .ok (.if_icmp .ne 7, 3) := by decide +kernel
theorem dX5_first_120 : decode cX5_first 120 = .ok (.iload_n 3, 1) := by decide +kernel
theorem dX5_first_121 : decode cX5_first 121 = .ok (.goto 4, 3) := by decide +kernel
theorem dX5_first_124 : decode cX5_first 124 = .ok (.iload_n 2, 1) := by decide +kernel
theorem dX5_first_125 : decode cX5_first 125 = .ok (.ireturn, 1) := by decide +kernel
theorem dX5_copies_0 : decode cX5_copies 0 = .ok (.iconst 0, 1) := by decide +kernel
theorem dX5_copies_1 : decode cX5_copies 1 = .ok (.istore_n 3, 1) := by decide +kernel
theorem dX5_copies_2 : decode cX5_copies 2 = .ok (.iload_n 3, 1) := by decide +kernel
theorem dX5_copies_3 : decode cX5_copies 3 = .ok (.bipush 70, 2) := by decide +kernel
theorem dX5_copies_5 : decode cX5_copies 5 = .ok (.if_icmp .ge 25, 3) := by decide +kernel
theorem dX5_copies_8 : decode cX5_copies 8 = .ok (.aload_n 0, 1) := by decide +kernel
theorem dX5_copies_9 : decode cX5_copies 9 = .ok (.getfield 7, 3) := by decide +kernel
theorem dX5_copies_12 : decode cX5_copies 12 = .ok (.iload_n 2, 1) := by decide +kernel
theorem dX5_copies_13 : decode cX5_copies 13 = .ok (.iload_n 3, 1) := by decide +kernel
theorem dX5_copies_14 : decode cX5_copies 14 = .ok (.iadd, 1) := by decide +kernel
theorem dX5_copies_15 : decode cX5_copies 15 = .ok (.aload_n 0, 1) := by decide +kernel
theorem dX5_copies_16 : decode cX5_copies 16 = .ok (.getfield 7, 3) := by decide +kernel
theorem dX5_copies_19 : decode cX5_copies 19 = .ok (.iload_n 1, 1) := by decide +kernel
theorem dX5_copies_20 : decode cX5_copies 20 = .ok (.iload_n 3, 1) := by decide +kernel
theorem dX5_copies_21 : decode cX5_copies 21 = .ok (.iadd, 1) := by decide +kernel
theorem dX5_copies_22 : decode cX5_copies 22 = .ok (.iaload, 1) := by decide +kernel
theorem dX5_copies_23 : decode cX5_copies 23 = .ok (.iastore, 1) := by decide +kernel
theorem dX5_copies_24 : decode cX5_copies 24 = .ok (.iinc 3 1, 3) := by decide +kernel
theorem dX5_copies_27 : decode cX5_copies 27 = .ok (.goto (-25), 3) := by decide +kernel
theorem dX5_copies_30 : decode cX5_copies 30 = .ok (.return_, 1) := by decide +kernel
theorem dX5_laysFigures_0 : decode cX5_laysFigures 0 = .ok (.iload_n 1, 1) := by decide +kernel
theorem dX5_laysFigures_1 : decode cX5_laysFigures 1 = .ok (.istore 5, 2) := by decide +kernel
theorem dX5_laysFigures_3 : decode cX5_laysFigures 3 = .ok (.iload 4, 2) := by decide +kernel
theorem dX5_laysFigures_5 : decode cX5_laysFigures 5 = .ok (.iconst 1, 1) := by decide +kernel
theorem dX5_laysFigures_6 : decode cX5_laysFigures 6 = .ok (.isub, 1) := by decide +kernel
theorem dX5_laysFigures_7 : decode cX5_laysFigures 7 = .ok (.istore 6, 2) := by decide +kernel
theorem dX5_laysFigures_9 : decode cX5_laysFigures 9 = .ok (.iload 6, 2) := by decide +kernel
theorem dX5_laysFigures_11 : decode cX5_laysFigures 11 = .ok (.ifCond .lt 28, 3) := by decide +kernel
theorem dX5_laysFigures_14 : decode cX5_laysFigures 14 = .ok (.aload_n 0, 1) := by decide +kernel
theorem dX5_laysFigures_15 : decode cX5_laysFigures 15 = .ok (.getfield 7, 3) := by decide +kernel
theorem dX5_laysFigures_18 : decode cX5_laysFigures 18 = .ok (.iload_n 3, 1) := by decide +kernel
theorem dX5_laysFigures_19 : decode cX5_laysFigures 19 = .ok (.iload 6, 2) := by decide +kernel
theorem dX5_laysFigures_21 : decode cX5_laysFigures 21 = .ok (.iadd, 1) := by decide +kernel
theorem dX5_laysFigures_22 : decode cX5_laysFigures 22 = .ok (.iload 5, 2) := by decide +kernel
theorem dX5_laysFigures_24 : decode cX5_laysFigures 24 = .ok (.iload_n 2, 1) := by decide +kernel
theorem dX5_laysFigures_25 : decode cX5_laysFigures 25 = .ok (.irem, 1) := by decide +kernel
theorem dX5_laysFigures_26 : decode cX5_laysFigures 26 = .ok (.iastore, 1) := by decide +kernel
theorem dX5_laysFigures_27 : decode cX5_laysFigures 27 = .ok (.iload 5, 2) := by decide +kernel
theorem dX5_laysFigures_29 : decode cX5_laysFigures 29 = .ok (.iload_n 2, 1) := by decide +kernel
theorem dX5_laysFigures_30 : decode cX5_laysFigures 30 = .ok (.idiv, 1) := by decide +kernel
theorem dX5_laysFigures_31 : decode cX5_laysFigures 31 = .ok (.istore 5, 2) := by decide +kernel
theorem dX5_laysFigures_33 : decode cX5_laysFigures 33 = .ok (.iinc 6 (-1), 3) := by decide +kernel
theorem dX5_laysFigures_36 : decode cX5_laysFigures 36 = .ok (.goto (-27), 3) := by decide +kernel
theorem dX5_laysFigures_39 : decode cX5_laysFigures 39 = .ok (.return_, 1) := by decide +kernel
theorem dX5_powerOf_0 : decode cX5_powerOf 0 = .ok (.iconst 1, 1) := by decide +kernel
theorem dX5_powerOf_1 : decode cX5_powerOf 1 = .ok (.istore_n 2, 1) := by decide +kernel
theorem dX5_powerOf_2 : decode cX5_powerOf 2 = .ok (.iconst 0, 1) := by decide +kernel
theorem dX5_powerOf_3 : decode cX5_powerOf 3 = .ok (.istore_n 3, 1) := by decide +kernel
theorem dX5_powerOf_4 : decode cX5_powerOf 4 = .ok (.iload_n 3, 1) := by decide +kernel
theorem dX5_powerOf_5 : decode cX5_powerOf 5 = .ok (.iload_n 1, 1) := by decide +kernel
theorem dX5_powerOf_6 : decode cX5_powerOf 6 = .ok (.if_icmp .ge 13, 3) := by decide +kernel
theorem dX5_powerOf_9 : decode cX5_powerOf 9 = .ok (.iload_n 2, 1) := by decide +kernel
theorem dX5_powerOf_10 : decode cX5_powerOf 10 = .ok (.iload_n 0, 1) := by decide +kernel
theorem dX5_powerOf_11 : decode cX5_powerOf 11 = .ok (.imul, 1) := by decide +kernel
theorem dX5_powerOf_12 : decode cX5_powerOf 12 = .ok (.istore_n 2, 1) := by decide +kernel
theorem dX5_powerOf_13 : decode cX5_powerOf 13 = .ok (.iinc 3 1, 3) := by decide +kernel
theorem dX5_powerOf_16 : decode cX5_powerOf 16 = .ok (.goto (-12), 3) := by decide +kernel
theorem dX5_powerOf_19 : decode cX5_powerOf 19 = .ok (.iload_n 2, 1) := by decide +kernel
theorem dX5_powerOf_20 : decode cX5_powerOf 20 = .ok (.ireturn, 1) := by decide +kernel
theorem dX5_best_0 : decode cX5_best 0 = .ok (.iload_n 1, 1) := by decide +kernel
theorem dX5_best_1 : decode cX5_best 1 = .ok (.i2l, 1) := by decide +kernel
theorem dX5_best_2 : decode cX5_best 2 = .ok (.lconst 0, 1) := by decide +kernel
theorem dX5_best_3 : decode cX5_best 3 = .ok (.lconst 1, 1) := by decide +kernel
theorem dX5_best_4 : decode cX5_best 4 = .ok (.invokestatic 61, 3) := by decide +kernel
theorem dX5_best_7 : decode cX5_best 7 = .ok (.ifCond .ne 24, 3) := by decide +kernel
theorem dX5_best_10 : decode cX5_best 10 = .ok (.iload_n 1, 1) := by decide +kernel
theorem dX5_best_11 : decode cX5_best 11 = .ok (.i2l, 1) := by decide +kernel
theorem dX5_best_12 : decode cX5_best 12 = .ok (.ldc2_w 234, 3) := by decide +kernel
theorem dX5_best_15 : decode cX5_best 15 = .ok (.bipush 9, 2) := by decide +kernel
theorem dX5_best_17 : decode cX5_best 17 = .ok (.aload_n 0, 1) := by decide +kernel
theorem dX5_best_18 : decode cX5_best 18 = .ok (.getfield 146, 3) := by decide +kernel
theorem dX5_best_21 : decode cX5_best 21 = .ok (.iadd, 1) := by decide +kernel
theorem dX5_best_22 : decode cX5_best 22 = .ok (.i2l, 1) := by decide +kernel
theorem dX5_best_23 : decode cX5_best 23 = .ok (.invokestatic 61, 3) := by decide +kernel
theorem dX5_best_26 : decode cX5_best 26 = .ok (.ifCond .ne 5, 3) := by decide +kernel
theorem dX5_best_29 : decode cX5_best 29 = .ok (.iconst (-1), 1) := by decide +kernel
theorem dX5_best_30 : decode cX5_best 30 = .ok (.ireturn, 1) := by decide +kernel
theorem dX5_best_31 : decode cX5_best 31 = .ok (.aload_n 0, 1) := by decide +kernel
theorem dX5_best_32 : decode cX5_best 32 = .ok (.getfield 143, 3) := by decide +kernel
theorem dX5_best_35 : decode cX5_best 35 = .ok (.ifCond .ne 6, 3) := by decide +kernel
theorem dX5_best_38 : decode cX5_best 38 = .ok (.bipush (-2), 2) := by decide +kernel
theorem dX5_best_40 : decode cX5_best 40 = .ok (.ireturn, 1) := by decide +kernel
theorem dX5_best_41 : decode cX5_best 41 = .ok (.ldc 233, 2) := by decide +kernel
theorem dX5_best_43 : decode cX5_best 43 = .ok (.istore_n 2, 1) := by decide +kernel
theorem dX5_best_44 : decode cX5_best 44 = .ok (.ldc 233, 2) := by decide +kernel
theorem dX5_best_46 : decode cX5_best 46 = .ok (.istore_n 3, 1) := by decide +kernel
theorem dX5_best_47 : decode cX5_best 47 = .ok (.iconst 0, 1) := by decide +kernel
theorem dX5_best_48 : decode cX5_best 48 = .ok (.istore 4, 2) := by decide +kernel
theorem dX5_best_50 : decode cX5_best 50 = .ok (.aload_n 0, 1) := by decide +kernel
theorem dX5_best_51 : decode cX5_best 51 = .ok (.iconst 0, 1) := by decide +kernel
theorem dX5_best_52 : decode cX5_best 52 = .ok (.sipush 280, 3) := by decide +kernel
theorem dX5_best_55 : decode cX5_best 55 = .ok (.invokevirtual 236, 3) := by decide +kernel
theorem dX5_best_58 : decode cX5_best 58 = .ok (.iconst 0, 1) := by decide +kernel
theorem dX5_best_59 : decode cX5_best 59 = .ok (.istore 5, 2) := by decide +kernel
theorem dX5_best_61 : decode cX5_best 61 = .ok (.iload 5, 2) := by decide +kernel
theorem dX5_best_63 : decode cX5_best 63 = .ok (.aload_n 0, 1) := by decide +kernel
theorem dX5_best_64 : decode cX5_best 64 = .ok (.getfield 143, 3) := by decide +kernel
theorem dX5_best_67 : decode cX5_best 67 = .ok (.aload_n 0, 1) := by decide +kernel
theorem dX5_best_68 : decode cX5_best 68 = .ok (.getfield 146, 3) := by decide +kernel
theorem dX5_best_71 : decode cX5_best 71 = .ok (.invokestatic 240, 3) := by decide +kernel
theorem dX5_best_74 : decode cX5_best 74 = .ok (.if_icmp .ge 98, 3) := by decide +kernel
theorem dX5_best_77 : decode cX5_best 77 = .ok (.aload_n 0, 1) := by decide +kernel
theorem dX5_best_78 : decode cX5_best 78 = .ok (.iload 5, 2) := by decide +kernel
theorem dX5_best_80 : decode cX5_best 80 = .ok (.aload_n 0, 1) := by decide +kernel
theorem dX5_best_81 : decode cX5_best 81 = .ok (.getfield 143, 3) := by decide +kernel
theorem dX5_best_84 : decode cX5_best 84 = .ok (.bipush 60, 2) := by decide +kernel
theorem dX5_best_86 : decode cX5_best 86 = .ok (.aload_n 0, 1) := by decide +kernel
theorem dX5_best_87 : decode cX5_best 87 = .ok (.getfield 146, 3) := by decide +kernel
theorem dX5_best_90 : decode cX5_best 90 = .ok (.invokevirtual 243, 3) := by decide +kernel
theorem dX5_best_93 : decode cX5_best 93 = .ok (.aload_n 0, 1) := by decide +kernel
theorem dX5_best_94 : decode cX5_best 94 = .ok (.invokevirtual 247, 3) := by decide +kernel
theorem dX5_best_97 : decode cX5_best 97 = .ok (.istore 6, 2) := by decide +kernel
theorem dX5_best_99 : decode cX5_best 99 = .ok (.iload 6, 2) := by decide +kernel
theorem dX5_best_101 : decode cX5_best 101 = .ok (.iload_n 2, 1) := by decide +kernel
theorem dX5_best_102 : decode cX5_best 102 = .ok (.if_icmp .lt 17, 3) := by decide +kernel
theorem dX5_best_105 : decode cX5_best 105 = .ok (.iload 6, 2) := by decide +kernel
theorem dX5_best_107 : decode cX5_best 107 = .ok (.iload_n 2, 1) := by decide +kernel
theorem dX5_best_108 : decode cX5_best 108 = .ok (.if_icmp .ne 15, 3) := by decide +kernel
theorem dX5_best_111 : decode cX5_best 111 = .ok (.aload_n 0, 1) := by decide +kernel
theorem dX5_best_112 : decode cX5_best 112 = .ok (.invokevirtual 230, 3) := by decide +kernel
theorem dX5_best_115 : decode cX5_best 115 = .ok (.iload_n 3, 1) := by decide +kernel
theorem dX5_best_116 : decode cX5_best 116 = .ok (.if_icmp .ge 7, 3) := by decide +kernel
theorem dX5_best_119 : decode cX5_best 119 = .ok (.iconst 1, 1) := by decide +kernel
theorem dX5_best_120 : decode cX5_best 120 = .ok (.goto 4, 3) := by decide +kernel
theorem dX5_best_123 : decode cX5_best 123 = .ok (.iconst 0, 1) := by decide +kernel
theorem dX5_best_124 : decode cX5_best 124 = .ok (.istore 7, 2) := by decide +kernel
theorem dX5_best_126 : decode cX5_best 126 = .ok (.iload 7, 2) := by decide +kernel
theorem dX5_best_128 : decode cX5_best 128 = .ok (.ifCond .eq 8, 3) := by decide +kernel
theorem dX5_best_131 : decode cX5_best 131 = .ok (.iload 5, 2) := by decide +kernel
theorem dX5_best_133 : decode cX5_best 133 = .ok (.goto 5, 3) := by decide +kernel
theorem dX5_best_136 : decode cX5_best 136 = .ok (.iload 4, 2) := by decide +kernel
theorem dX5_best_138 : decode cX5_best 138 = .ok (.istore 4, 2) := by decide +kernel
theorem dX5_best_140 : decode cX5_best 140 = .ok (.iload 7, 2) := by decide +kernel
theorem dX5_best_142 : decode cX5_best 142 = .ok (.ifCond .eq 10, 3) := by decide +kernel
theorem dX5_best_145 : decode cX5_best 145 = .ok (.aload_n 0, 1) := by decide +kernel
theorem dX5_best_146 : decode cX5_best 146 = .ok (.invokevirtual 230, 3) := by decide +kernel
theorem dX5_best_149 : decode cX5_best 149 = .ok (.goto 4, 3) := by decide +kernel
theorem dX5_best_152 : decode cX5_best 152 = .ok (.iload_n 3, 1) := by decide +kernel
theorem dX5_best_153 : decode cX5_best 153 = .ok (.istore_n 3, 1) := by decide +kernel
theorem dX5_best_154 : decode cX5_best 154 = .ok (.iload 7, 2) := by decide +kernel
theorem dX5_best_156 : decode cX5_best 156 = .ok (.ifCond .eq 8, 3) := by decide +kernel
theorem dX5_best_159 : decode cX5_best 159 = .ok (.iload 6, 2) := by decide +kernel
theorem dX5_best_161 : decode cX5_best 161 = .ok (.goto 4, 3) := by decide +kernel
theorem dX5_best_164 : decode cX5_best 164 = .ok (.iload_n 2, 1) := by decide +kernel
theorem dX5_best_165 : decode cX5_best 165 = .ok (.istore_n 2, 1) := by decide +kernel
theorem dX5_best_166 : decode cX5_best 166 = .ok (.iinc 5 1, 3) := by decide +kernel
theorem dX5_best_169 : decode cX5_best 169 = .ok (.goto (-108), 3) := by decide +kernel
theorem dX5_best_172 : decode cX5_best 172 = .ok (.aload_n 0, 1) := by decide +kernel
theorem dX5_best_173 : decode cX5_best 173 = .ok (.iload 4, 2) := by decide +kernel
theorem dX5_best_175 : decode cX5_best 175 = .ok (.aload_n 0, 1) := by decide +kernel
theorem dX5_best_176 : decode cX5_best 176 = .ok (.getfield 143, 3) := by decide +kernel
theorem dX5_best_179 : decode cX5_best 179 = .ok (.bipush 60, 2) := by decide +kernel
theorem dX5_best_181 : decode cX5_best 181 = .ok (.aload_n 0, 1) := by decide +kernel
theorem dX5_best_182 : decode cX5_best 182 = .ok (.getfield 146, 3) := by decide +kernel
theorem dX5_best_185 : decode cX5_best 185 = .ok (.invokevirtual 243, 3) := by decide +kernel
theorem dX5_best_188 : decode cX5_best 188 = .ok (.iload_n 1, 1) := by decide +kernel
theorem dX5_best_189 : decode cX5_best 189 = .ok (.ifCond .ne 7, 3) := by decide +kernel
theorem dX5_best_192 : decode cX5_best 192 = .ok (.iload_n 2, 1) := by decide +kernel
theorem dX5_best_193 : decode cX5_best 193 = .ok (.goto 24, 3) := by decide +kernel
theorem dX5_best_196 : decode cX5_best 196 = .ok (.iload_n 1, 1) := by decide +kernel
theorem dX5_best_197 : decode cX5_best 197 = .ok (.iconst 1, 1) := by decide +kernel
theorem dX5_best_198 : decode cX5_best 198 = .ok (.if_icmp .ne 7, 3) := by decide +kernel
theorem dX5_best_201 : decode cX5_best 201 = .ok (.iload_n 3, 1) := by decide +kernel
theorem dX5_best_202 : decode cX5_best 202 = .ok (.goto 15, 3) := by decide +kernel
theorem dX5_best_205 : decode cX5_best 205 = .ok (.aload_n 0, 1) := by decide +kernel
theorem dX5_best_206 : decode cX5_best 206 = .ok (.getfield 7, 3) := by decide +kernel
theorem dX5_best_209 : decode cX5_best 209 = .ok (.bipush 60, 2) := by decide +kernel
theorem dX5_best_211 : decode cX5_best 211 = .ok (.iload_n 1, 1) := by decide +kernel
theorem dX5_best_212 : decode cX5_best 212 = .ok (.iadd, 1) := by decide +kernel
theorem dX5_best_213 : decode cX5_best 213 = .ok (.bipush 10, 2) := by decide +kernel
theorem dX5_best_215 : decode cX5_best 215 = .ok (.isub, 1) := by decide +kernel
theorem dX5_best_216 : decode cX5_best 216 = .ok (.iaload, 1) := by decide +kernel
theorem dX5_best_217 : decode cX5_best 217 = .ok (.istore 5, 2) := by decide +kernel
theorem dX5_best_219 : decode cX5_best 219 = .ok (.aload_n 0, 1) := by decide +kernel
theorem dX5_best_220 : decode cX5_best 220 = .ok (.sipush 280, 3) := by decide +kernel
theorem dX5_best_223 : decode cX5_best 223 = .ok (.iconst 0, 1) := by decide +kernel
theorem dX5_best_224 : decode cX5_best 224 = .ok (.invokevirtual 236, 3) := by decide +kernel
theorem dX5_best_227 : decode cX5_best 227 = .ok (.iload 5, 2) := by decide +kernel
theorem dX5_best_229 : decode cX5_best 229 = .ok (.ireturn, 1) := by decide +kernel
theorem dX5_apart_0 : decode cX5_apart 0 = .ok (.iload_n 1, 1) := by decide +kernel
theorem dX5_apart_1 : decode cX5_apart 1 = .ok (.ifCond .eq 24, 3) := by decide +kernel
theorem dX5_apart_4 : decode cX5_apart 4 = .ok (.iload_n 1, 1) := by decide +kernel
theorem dX5_apart_5 : decode cX5_apart 5 = .ok (.i2l, 1) := by decide +kernel
theorem dX5_apart_6 : decode cX5_apart 6 = .ok (.ldc2_w 234, 3) := by decide +kernel
theorem dX5_apart_9 : decode cX5_apart 9 = .ok (.bipush 9, 2) := by decide +kernel
theorem dX5_apart_11 : decode cX5_apart 11 = .ok (.aload_n 0, 1) := by decide +kernel
theorem dX5_apart_12 : decode cX5_apart 12 = .ok (.getfield 143, 3) := by decide +kernel
theorem dX5_apart_15 : decode cX5_apart 15 = .ok (.iadd, 1) := by decide +kernel
theorem dX5_apart_16 : decode cX5_apart 16 = .ok (.i2l, 1) := by decide +kernel
theorem dX5_apart_17 : decode cX5_apart 17 = .ok (.invokestatic 61, 3) := by decide +kernel
theorem dX5_apart_20 : decode cX5_apart 20 = .ok (.ifCond .ne 5, 3) := by decide +kernel
theorem dX5_apart_23 : decode cX5_apart 23 = .ok (.iconst (-1), 1) := by decide +kernel
theorem dX5_apart_24 : decode cX5_apart 24 = .ok (.ireturn, 1) := by decide +kernel
theorem dX5_apart_25 : decode cX5_apart 25 = .ok (.aload_n 0, 1) := by decide +kernel
theorem dX5_apart_26 : decode cX5_apart 26 = .ok (.getfield 143, 3) := by decide +kernel
theorem dX5_apart_29 : decode cX5_apart 29 = .ok (.ifCond .ne 6, 3) := by decide +kernel
theorem dX5_apart_32 : decode cX5_apart 32 = .ok (.bipush (-2), 2) := by decide +kernel
theorem dX5_apart_34 : decode cX5_apart 34 = .ok (.ireturn, 1) := by decide +kernel
theorem dX5_apart_35 : decode cX5_apart 35 = .ok (.ldc 233, 2) := by decide +kernel
theorem dX5_apart_37 : decode cX5_apart 37 = .ok (.istore_n 2, 1) := by decide +kernel
theorem dX5_apart_38 : decode cX5_apart 38 = .ok (.iconst 0, 1) := by decide +kernel
theorem dX5_apart_39 : decode cX5_apart 39 = .ok (.istore_n 3, 1) := by decide +kernel
theorem dX5_apart_40 : decode cX5_apart 40 = .ok (.aload_n 0, 1) := by decide +kernel
theorem dX5_apart_41 : decode cX5_apart 41 = .ok (.iconst 0, 1) := by decide +kernel
theorem dX5_apart_42 : decode cX5_apart 42 = .ok (.sipush 280, 3) := by decide +kernel
theorem dX5_apart_45 : decode cX5_apart 45 = .ok (.invokevirtual 236, 3) := by decide +kernel
theorem dX5_apart_48 : decode cX5_apart 48 = .ok (.iconst 0, 1) := by decide +kernel
theorem dX5_apart_49 : decode cX5_apart 49 = .ok (.istore 4, 2) := by decide +kernel
theorem dX5_apart_51 : decode cX5_apart 51 = .ok (.iload 4, 2) := by decide +kernel
theorem dX5_apart_53 : decode cX5_apart 53 = .ok (.iconst 4, 1) := by decide +kernel
theorem dX5_apart_54 : decode cX5_apart 54 = .ok (.aload_n 0, 1) := by decide +kernel
theorem dX5_apart_55 : decode cX5_apart 55 = .ok (.getfield 143, 3) := by decide +kernel
theorem dX5_apart_58 : decode cX5_apart 58 = .ok (.invokestatic 240, 3) := by decide +kernel
theorem dX5_apart_61 : decode cX5_apart 61 = .ok (.if_icmp .ge 54, 3) := by decide +kernel
theorem dX5_apart_64 : decode cX5_apart 64 = .ok (.aload_n 0, 1) := by decide +kernel
theorem dX5_apart_65 : decode cX5_apart 65 = .ok (.iload 4, 2) := by decide +kernel
theorem dX5_apart_67 : decode cX5_apart 67 = .ok (.iconst 4, 1) := by decide +kernel
theorem dX5_apart_68 : decode cX5_apart 68 = .ok (.bipush 12, 2) := by decide +kernel
theorem dX5_apart_70 : decode cX5_apart 70 = .ok (.aload_n 0, 1) := by decide +kernel
theorem dX5_apart_71 : decode cX5_apart 71 = .ok (.getfield 143, 3) := by decide +kernel
theorem dX5_apart_74 : decode cX5_apart 74 = .ok (.invokevirtual 243, 3) := by decide +kernel
theorem dX5_apart_77 : decode cX5_apart 77 = .ok (.aload_n 0, 1) := by decide +kernel
theorem dX5_apart_78 : decode cX5_apart 78 = .ok (.invokevirtual 247, 3) := by decide +kernel
theorem dX5_apart_81 : decode cX5_apart 81 = .ok (.istore 5, 2) := by decide +kernel
theorem dX5_apart_83 : decode cX5_apart 83 = .ok (.iload 5, 2) := by decide +kernel
theorem dX5_apart_85 : decode cX5_apart 85 = .ok (.iload_n 2, 1) := by decide +kernel
theorem dX5_apart_86 : decode cX5_apart 86 = .ok (.if_icmp .ge 8, 3) := by decide +kernel
theorem dX5_apart_89 : decode cX5_apart 89 = .ok (.iload 4, 2) := by decide +kernel
theorem dX5_apart_91 : decode cX5_apart 91 = .ok (.goto 4, 3) := by decide +kernel
theorem dX5_apart_94 : decode cX5_apart 94 = .ok (.iload_n 3, 1) := by decide +kernel
theorem dX5_apart_95 : decode cX5_apart 95 = .ok (.istore_n 3, 1) := by decide +kernel
theorem dX5_apart_96 : decode cX5_apart 96 = .ok (.iload 5, 2) := by decide +kernel
theorem dX5_apart_98 : decode cX5_apart 98 = .ok (.iload_n 2, 1) := by decide +kernel
theorem dX5_apart_99 : decode cX5_apart 99 = .ok (.if_icmp .ge 8, 3) := by decide +kernel
theorem dX5_apart_102 : decode cX5_apart 102 = .ok (.iload 5, 2) := by decide +kernel
theorem dX5_apart_104 : decode cX5_apart 104 = .ok (.goto 4, 3) := by decide +kernel
theorem dX5_apart_107 : decode cX5_apart 107 = .ok (.iload_n 2, 1) := by decide +kernel
theorem dX5_apart_108 : decode cX5_apart 108 = .ok (.istore_n 2, 1) := by decide +kernel
theorem dX5_apart_109 : decode cX5_apart 109 = .ok (.iinc 4 1, 3) := by decide +kernel
theorem dX5_apart_112 : decode cX5_apart 112 = .ok (.goto (-61), 3) := by decide +kernel
theorem dX5_apart_115 : decode cX5_apart 115 = .ok (.aload_n 0, 1) := by decide +kernel
theorem dX5_apart_116 : decode cX5_apart 116 = .ok (.iload_n 3, 1) := by decide +kernel
theorem dX5_apart_117 : decode cX5_apart 117 = .ok (.iconst 4, 1) := by decide +kernel
theorem dX5_apart_118 : decode cX5_apart 118 = .ok (.bipush 12, 2) := by decide +kernel
theorem dX5_apart_120 : decode cX5_apart 120 = .ok (.aload_n 0, 1) := by decide +kernel
theorem dX5_apart_121 : decode cX5_apart 121 = .ok (.getfield 143, 3) := by decide +kernel
theorem dX5_apart_124 : decode cX5_apart 124 = .ok (.invokevirtual 243, 3) := by decide +kernel
theorem dX5_apart_127 : decode cX5_apart 127 = .ok (.iload_n 1, 1) := by decide +kernel
theorem dX5_apart_128 : decode cX5_apart 128 = .ok (.ifCond .ne 7, 3) := by decide +kernel
theorem dX5_apart_131 : decode cX5_apart 131 = .ok (.iload_n 2, 1) := by decide +kernel
theorem dX5_apart_132 : decode cX5_apart 132 = .ok (.goto 15, 3) := by decide +kernel
theorem dX5_apart_135 : decode cX5_apart 135 = .ok (.aload_n 0, 1) := by decide +kernel
theorem dX5_apart_136 : decode cX5_apart 136 = .ok (.getfield 7, 3) := by decide +kernel
theorem dX5_apart_139 : decode cX5_apart 139 = .ok (.bipush 12, 2) := by decide +kernel
theorem dX5_apart_141 : decode cX5_apart 141 = .ok (.iload_n 1, 1) := by decide +kernel
theorem dX5_apart_142 : decode cX5_apart 142 = .ok (.iadd, 1) := by decide +kernel
theorem dX5_apart_143 : decode cX5_apart 143 = .ok (.bipush 10, 2) := by decide +kernel
theorem dX5_apart_145 : decode cX5_apart 145 = .ok (.isub, 1) := by decide +kernel
theorem dX5_apart_146 : decode cX5_apart 146 = .ok (.iaload, 1) := by decide +kernel
theorem dX5_apart_147 : decode cX5_apart 147 = .ok (.istore 4, 2) := by decide +kernel
theorem dX5_apart_149 : decode cX5_apart 149 = .ok (.aload_n 0, 1) := by decide +kernel
theorem dX5_apart_150 : decode cX5_apart 150 = .ok (.sipush 280, 3) := by decide +kernel
theorem dX5_apart_153 : decode cX5_apart 153 = .ok (.iconst 0, 1) := by decide +kernel
theorem dX5_apart_154 : decode cX5_apart 154 = .ok (.invokevirtual 236, 3) := by decide +kernel
theorem dX5_apart_157 : decode cX5_apart 157 = .ok (.iload 4, 2) := by decide +kernel
theorem dX5_apart_159 : decode cX5_apart 159 = .ok (.ireturn, 1) := by decide +kernel
theorem dX5_compose_0 : decode cX5_compose 0 = .ok (.iload_n 1, 1) := by decide +kernel
theorem dX5_compose_1 : decode cX5_compose 1 = .ok (.i2l, 1) := by decide +kernel
theorem dX5_compose_2 : decode cX5_compose 2 = .ok (.lconst 1, 1) := by decide +kernel
theorem dX5_compose_3 : decode cX5_compose 3 = .ok (.ldc2_w 250, 3) := by decide +kernel
theorem dX5_compose_6 : decode cX5_compose 6 = .ok (.invokestatic 61, 3) := by decide +kernel
theorem dX5_compose_9 : decode cX5_compose 9 = .ok (.ifCond .eq 15, 3) := by decide +kernel
theorem dX5_compose_12 : decode cX5_compose 12 = .ok (.iload_n 2, 1) := by decide +kernel
theorem dX5_compose_13 : decode cX5_compose 13 = .ok (.i2l, 1) := by decide +kernel
theorem dX5_compose_14 : decode cX5_compose 14 = .ok (.lconst 0, 1) := by decide +kernel
theorem dX5_compose_15 : decode cX5_compose 15 = .ok (.ldc2_w 228, 3) := by decide +kernel
theorem dX5_compose_18 : decode cX5_compose 18 = .ok (.invokestatic 61, 3) := by decide +kernel
theorem dX5_compose_21 : decode cX5_compose 21 = .ok (.ifCond .ne 5, 3) := by decide +kernel
theorem dX5_compose_24 : decode cX5_compose 24 = .ok (.iconst (-1), 1) := by decide +kernel
theorem dX5_compose_25 : decode cX5_compose 25 = .ok (.ireturn, 1) := by decide +kernel
theorem dX5_compose_26 : decode cX5_compose 26 = .ok (.iconst 1, 1) := by decide +kernel
theorem dX5_compose_27 : decode cX5_compose 27 = .ok (.istore_n 3, 1) := by decide +kernel
theorem dX5_compose_28 : decode cX5_compose 28 = .ok (.iload_n 3, 1) := by decide +kernel
theorem dX5_compose_29 : decode cX5_compose 29 = .ok (.bipush 8, 2) := by decide +kernel
theorem dX5_compose_31 : decode cX5_compose 31 = .ok (.if_icmp .gt 71, 3) := by decide +kernel
theorem dX5_compose_34 : decode cX5_compose 34 = .ok (.iconst 0, 1) := by decide +kernel
theorem dX5_compose_35 : decode cX5_compose 35 = .ok (.istore 4, 2) := by decide +kernel
theorem dX5_compose_37 : decode cX5_compose 37 = .ok (.iload 4, 2) := by decide +kernel
theorem dX5_compose_39 : decode cX5_compose 39 = .ok (.iconst 4, 1) := by decide +kernel
theorem dX5_compose_40 : decode cX5_compose 40 = .ok (.if_icmp .ge 56, 3) := by decide +kernel
theorem dX5_compose_43 : decode cX5_compose 43 = .ok (.iload 4, 2) := by decide +kernel
theorem dX5_compose_45 : decode cX5_compose 45 = .ok (.iload_n 3, 1) := by decide +kernel
theorem dX5_compose_46 : decode cX5_compose 46 = .ok (.invokestatic 155, 3) := by decide +kernel
theorem dX5_compose_49 : decode cX5_compose 49 = .ok (.istore 5, 2) := by decide +kernel
theorem dX5_compose_51 : decode cX5_compose 51 = .ok (.iload_n 1, 1) := by decide +kernel
theorem dX5_compose_52 : decode cX5_compose 52 = .ok (.iload 5, 2) := by decide +kernel
theorem dX5_compose_54 : decode cX5_compose 54 = .ok (.irem, 1) := by decide +kernel
theorem dX5_compose_55 : decode cX5_compose 55 = .ok (.ifCond .ne 35, 3) := by decide +kernel
theorem dX5_compose_58 : decode cX5_compose 58 = .ok (.iload_n 1, 1) := by decide +kernel
theorem dX5_compose_59 : decode cX5_compose 59 = .ok (.iload 5, 2) := by decide +kernel
theorem dX5_compose_61 : decode cX5_compose 61 = .ok (.idiv, 1) := by decide +kernel
theorem dX5_compose_62 : decode cX5_compose 62 = .ok (.bipush 9, 2) := by decide +kernel
theorem dX5_compose_64 : decode cX5_compose 64 = .ok (.if_icmp .gt 26, 3) := by decide +kernel
theorem dX5_compose_67 : decode cX5_compose 67 = .ok (.iload_n 2, 1) := by decide +kernel
theorem dX5_compose_68 : decode cX5_compose 68 = .ok (.ifCond .ne 7, 3) := by decide +kernel
theorem dX5_compose_71 : decode cX5_compose 71 = .ok (.iload_n 3, 1) := by decide +kernel
theorem dX5_compose_72 : decode cX5_compose 72 = .ok (.goto 17, 3) := by decide +kernel
theorem dX5_compose_75 : decode cX5_compose 75 = .ok (.iload_n 2, 1) := by decide +kernel
theorem dX5_compose_76 : decode cX5_compose 76 = .ok (.iconst 1, 1) := by decide +kernel
theorem dX5_compose_77 : decode cX5_compose 77 = .ok (.if_icmp .ne 8, 3) := by decide +kernel
theorem dX5_compose_80 : decode cX5_compose 80 = .ok (.iload 4, 2) := by decide +kernel
theorem dX5_compose_82 : decode cX5_compose 82 = .ok (.goto 7, 3) := by decide +kernel
theorem dX5_compose_85 : decode cX5_compose 85 = .ok (.iload_n 1, 1) := by decide +kernel
theorem dX5_compose_86 : decode cX5_compose 86 = .ok (.iload 5, 2) := by decide +kernel
theorem dX5_compose_88 : decode cX5_compose 88 = .ok (.idiv, 1) := by decide +kernel
theorem dX5_compose_89 : decode cX5_compose 89 = .ok (.ireturn, 1) := by decide +kernel
theorem dX5_compose_90 : decode cX5_compose 90 = .ok (.iinc 4 1, 3) := by decide +kernel
theorem dX5_compose_93 : decode cX5_compose 93 = .ok (.goto (-56), 3) := by decide +kernel
theorem dX5_compose_96 : decode cX5_compose 96 = .ok (.iinc 3 1, 3) := by decide +kernel
theorem dX5_compose_99 : decode cX5_compose 99 = .ok (.goto (-71), 3) := by decide +kernel
theorem dX5_compose_102 : decode cX5_compose 102 = .ok (.bipush (-4), 2) := by decide +kernel
theorem dX5_compose_104 : decode cX5_compose 104 = .ok (.ireturn, 1) := by decide +kernel
theorem dX5_bribe_0 : decode cX5_bribe 0 = .ok (.iload_n 1, 1) := by decide +kernel
theorem dX5_bribe_1 : decode cX5_bribe 1 = .ok (.i2l, 1) := by decide +kernel
theorem dX5_bribe_2 : decode cX5_bribe 2 = .ok (.lconst 0, 1) := by decide +kernel
theorem dX5_bribe_3 : decode cX5_bribe 3 = .ok (.iconst 1, 1) := by decide +kernel
theorem dX5_bribe_4 : decode cX5_bribe 4 = .ok (.aload_n 0, 1) := by decide +kernel
theorem dX5_bribe_5 : decode cX5_bribe 5 = .ok (.getfield 149, 3) := by decide +kernel
theorem dX5_bribe_8 : decode cX5_bribe 8 = .ok (.ishl, 1) := by decide +kernel
theorem dX5_bribe_9 : decode cX5_bribe 9 = .ok (.iconst 1, 1) := by decide +kernel
theorem dX5_bribe_10 : decode cX5_bribe 10 = .ok (.isub, 1) := by decide +kernel
theorem dX5_bribe_11 : decode cX5_bribe 11 = .ok (.i2l, 1) := by decide +kernel
theorem dX5_bribe_12 : decode cX5_bribe 12 = .ok (.invokestatic 61, 3) := by decide +kernel
theorem dX5_bribe_15 : decode cX5_bribe 15 = .ok (.ifCond .eq 20, 3) := by decide +kernel
theorem dX5_bribe_18 : decode cX5_bribe 18 = .ok (.iload_n 2, 1) := by decide +kernel
theorem dX5_bribe_19 : decode cX5_bribe 19 = .ok (.invokestatic 177, 3) := by decide +kernel
theorem dX5_bribe_22 : decode cX5_bribe 22 = .ok (.ifCond .eq 13, 3) := by decide +kernel
theorem dX5_bribe_25 : decode cX5_bribe 25 = .ok (.iload_n 3, 1) := by decide +kernel
theorem dX5_bribe_26 : decode cX5_bribe 26 = .ok (.i2l, 1) := by decide +kernel
theorem dX5_bribe_27 : decode cX5_bribe 27 = .ok (.lconst 0, 1) := by decide +kernel
theorem dX5_bribe_28 : decode cX5_bribe 28 = .ok (.lconst 1, 1) := by decide +kernel
theorem dX5_bribe_29 : decode cX5_bribe 29 = .ok (.invokestatic 61, 3) := by decide +kernel
theorem dX5_bribe_32 : decode cX5_bribe 32 = .ok (.ifCond .ne 5, 3) := by decide +kernel
theorem dX5_bribe_35 : decode cX5_bribe 35 = .ok (.iconst (-1), 1) := by decide +kernel
theorem dX5_bribe_36 : decode cX5_bribe 36 = .ok (.ireturn, 1) := by decide +kernel
theorem dX5_bribe_37 : decode cX5_bribe 37 = .ok (.bipush (-4), 2) := by decide +kernel
theorem dX5_bribe_39 : decode cX5_bribe 39 = .ok (.istore 4, 2) := by decide +kernel
theorem dX5_bribe_41 : decode cX5_bribe 41 = .ok (.iconst 1, 1) := by decide +kernel
theorem dX5_bribe_42 : decode cX5_bribe 42 = .ok (.aload_n 0, 1) := by decide +kernel
theorem dX5_bribe_43 : decode cX5_bribe 43 = .ok (.getfield 146, 3) := by decide +kernel
theorem dX5_bribe_46 : decode cX5_bribe 46 = .ok (.ishl, 1) := by decide +kernel
theorem dX5_bribe_47 : decode cX5_bribe 47 = .ok (.iconst 1, 1) := by decide +kernel
theorem dX5_bribe_48 : decode cX5_bribe 48 = .ok (.isub, 1) := by decide +kernel
theorem dX5_bribe_49 : decode cX5_bribe 49 = .ok (.istore 5, 2) := by decide +kernel
theorem dX5_bribe_51 : decode cX5_bribe 51 = .ok (.iload 5, 2) := by decide +kernel
theorem dX5_bribe_53 : decode cX5_bribe 53 = .ok (.ifCond .lt 114, 3) := by decide +kernel
theorem dX5_bribe_56 : decode cX5_bribe 56 = .ok (.aload_n 0, 1) := by decide +kernel
theorem dX5_bribe_57 : decode cX5_bribe 57 = .ok (.iload 5, 2) := by decide +kernel
theorem dX5_bribe_59 : decode cX5_bribe 59 = .ok (.putfield 203, 3) := by decide +kernel
theorem dX5_bribe_62 : decode cX5_bribe 62 = .ok (.aload_n 0, 1) := by decide +kernel
theorem dX5_bribe_63 : decode cX5_bribe 63 = .ok (.invokevirtual 219, 3) := by decide +kernel
theorem dX5_bribe_66 : decode cX5_bribe 66 = .ok (.iconst 1, 1) := by decide +kernel
theorem dX5_bribe_67 : decode cX5_bribe 67 = .ok (.istore 6, 2) := by decide +kernel
theorem dX5_bribe_69 : decode cX5_bribe 69 = .ok (.iconst 0, 1) := by decide +kernel
theorem dX5_bribe_70 : decode cX5_bribe 70 = .ok (.istore 7, 2) := by decide +kernel
theorem dX5_bribe_72 : decode cX5_bribe 72 = .ok (.iload 7, 2) := by decide +kernel
theorem dX5_bribe_74 : decode cX5_bribe 74 = .ok (.aload_n 0, 1) := by decide +kernel
theorem dX5_bribe_75 : decode cX5_bribe 75 = .ok (.getfield 149, 3) := by decide +kernel
theorem dX5_bribe_78 : decode cX5_bribe 78 = .ok (.if_icmp .ge 49, 3) := by decide +kernel
theorem dX5_bribe_81 : decode cX5_bribe 81 = .ok (.iload 6, 2) := by decide +kernel
theorem dX5_bribe_83 : decode cX5_bribe 83 = .ok (.ifCond .eq 35, 3) := by decide +kernel
theorem dX5_bribe_86 : decode cX5_bribe 86 = .ok (.iload_n 1, 1) := by decide +kernel
theorem dX5_bribe_87 : decode cX5_bribe 87 = .ok (.iload 7, 2) := by decide +kernel
theorem dX5_bribe_89 : decode cX5_bribe 89 = .ok (.ishr, 1) := by decide +kernel
theorem dX5_bribe_90 : decode cX5_bribe 90 = .ok (.iconst 1, 1) := by decide +kernel
theorem dX5_bribe_91 : decode cX5_bribe 91 = .ok (.iand, 1) := by decide +kernel
theorem dX5_bribe_92 : decode cX5_bribe 92 = .ok (.ifCond .eq 22, 3) := by decide +kernel
theorem dX5_bribe_95 : decode cX5_bribe 95 = .ok (.aload_n 0, 1) := by decide +kernel
theorem dX5_bribe_96 : decode cX5_bribe 96 = .ok (.getfield 31, 3) := by decide +kernel
theorem dX5_bribe_99 : decode cX5_bribe 99 = .ok (.aload_n 0, 1) := by decide +kernel
theorem dX5_bribe_100 : decode cX5_bribe 100 = .ok (.getfield 7, 3) := by decide +kernel
theorem dX5_bribe_103 : decode cX5_bribe 103 = .ok (.bipush 64, 2) := by decide +kernel
theorem dX5_bribe_105 : decode cX5_bribe 105 = .ok (.iload 7, 2) := by decide +kernel
theorem dX5_bribe_107 : decode cX5_bribe 107 = .ok (.iadd, 1) := by decide +kernel
theorem dX5_bribe_108 : decode cX5_bribe 108 = .ok (.iaload, 1) := by decide +kernel
theorem dX5_bribe_109 : decode cX5_bribe 109 = .ok (.iaload, 1) := by decide +kernel
theorem dX5_bribe_110 : decode cX5_bribe 110 = .ok (.iload_n 2, 1) := by decide +kernel
theorem dX5_bribe_111 : decode cX5_bribe 111 = .ok (.if_icmp .gt 7, 3) := by decide +kernel
theorem dX5_bribe_114 : decode cX5_bribe 114 = .ok (.iconst 1, 1) := by decide +kernel
theorem dX5_bribe_115 : decode cX5_bribe 115 = .ok (.goto 4, 3) := by decide +kernel
theorem dX5_bribe_118 : decode cX5_bribe 118 = .ok (.iconst 0, 1) := by decide +kernel
theorem dX5_bribe_119 : decode cX5_bribe 119 = .ok (.istore 6, 2) := by decide +kernel
theorem dX5_bribe_121 : decode cX5_bribe 121 = .ok (.iinc 7 1, 3) := by decide +kernel
theorem dX5_bribe_124 : decode cX5_bribe 124 = .ok (.goto (-52), 3) := by decide +kernel
theorem dX5_bribe_127 : decode cX5_bribe 127 = .ok (.iload 6, 2) := by decide +kernel
theorem dX5_bribe_129 : decode cX5_bribe 129 = .ok (.ifCond .eq 28, 3) := by decide +kernel
theorem dX5_bribe_132 : decode cX5_bribe 132 = .ok (.iload 4, 2) := by decide +kernel
theorem dX5_bribe_134 : decode cX5_bribe 134 = .ok (.bipush (-4), 2) := by decide +kernel
theorem dX5_bribe_136 : decode cX5_bribe 136 = .ok (.if_icmp .eq 16, 3) := by decide +kernel
theorem dX5_bribe_139 : decode cX5_bribe 139 = .ok (.iload 5, 2) := by decide +kernel
theorem dX5_bribe_141 : decode cX5_bribe 141 = .ok (.invokestatic 225, 3) := by decide +kernel
theorem dX5_bribe_144 : decode cX5_bribe 144 = .ok (.iload 4, 2) := by decide +kernel
theorem dX5_bribe_146 : decode cX5_bribe 146 = .ok (.invokestatic 225, 3) := by decide +kernel
theorem dX5_bribe_149 : decode cX5_bribe 149 = .ok (.if_icmp .gt 8, 3) := by decide +kernel
theorem dX5_bribe_152 : decode cX5_bribe 152 = .ok (.iload 5, 2) := by decide +kernel
theorem dX5_bribe_154 : decode cX5_bribe 154 = .ok (.goto 5, 3) := by decide +kernel
theorem dX5_bribe_157 : decode cX5_bribe 157 = .ok (.iload 4, 2) := by decide +kernel
theorem dX5_bribe_159 : decode cX5_bribe 159 = .ok (.istore 4, 2) := by decide +kernel
theorem dX5_bribe_161 : decode cX5_bribe 161 = .ok (.iinc 5 (-1), 3) := by decide +kernel
theorem dX5_bribe_164 : decode cX5_bribe 164 = .ok (.goto (-113), 3) := by decide +kernel
theorem dX5_bribe_167 : decode cX5_bribe 167 = .ok (.aload_n 0, 1) := by decide +kernel
theorem dX5_bribe_168 : decode cX5_bribe 168 = .ok (.iconst 0, 1) := by decide +kernel
theorem dX5_bribe_169 : decode cX5_bribe 169 = .ok (.putfield 203, 3) := by decide +kernel
theorem dX5_bribe_172 : decode cX5_bribe 172 = .ok (.iload 4, 2) := by decide +kernel
theorem dX5_bribe_174 : decode cX5_bribe 174 = .ok (.bipush (-4), 2) := by decide +kernel
theorem dX5_bribe_176 : decode cX5_bribe 176 = .ok (.if_icmp .eq 8, 3) := by decide +kernel
theorem dX5_bribe_179 : decode cX5_bribe 179 = .ok (.iload_n 3, 1) := by decide +kernel
theorem dX5_bribe_180 : decode cX5_bribe 180 = .ok (.iconst 1, 1) := by decide +kernel
theorem dX5_bribe_181 : decode cX5_bribe 181 = .ok (.if_icmp .ne 8, 3) := by decide +kernel
theorem dX5_bribe_184 : decode cX5_bribe 184 = .ok (.iload 4, 2) := by decide +kernel
theorem dX5_bribe_186 : decode cX5_bribe 186 = .ok (.goto 8, 3) := by decide +kernel
theorem dX5_bribe_189 : decode cX5_bribe 189 = .ok (.iload 4, 2) := by decide +kernel
theorem dX5_bribe_191 : decode cX5_bribe 191 = .ok (.invokestatic 225, 3) := by decide +kernel
theorem dX5_bribe_194 : decode cX5_bribe 194 = .ok (.ireturn, 1) := by decide +kernel
theorem dX5_teach_0 : decode cX5_teach 0 = .ok (.iload_n 1, 1) := by decide +kernel
theorem dX5_teach_1 : decode cX5_teach 1 = .ok (.i2l, 1) := by decide +kernel
theorem dX5_teach_2 : decode cX5_teach 2 = .ok (.lconst 0, 1) := by decide +kernel
theorem dX5_teach_3 : decode cX5_teach 3 = .ok (.lconst 1, 1) := by decide +kernel
theorem dX5_teach_4 : decode cX5_teach 4 = .ok (.invokestatic 61, 3) := by decide +kernel
theorem dX5_teach_7 : decode cX5_teach 7 = .ok (.ifCond .ne 5, 3) := by decide +kernel
theorem dX5_teach_10 : decode cX5_teach 10 = .ok (.iconst (-1), 1) := by decide +kernel
theorem dX5_teach_11 : decode cX5_teach 11 = .ok (.ireturn, 1) := by decide +kernel
theorem dX5_teach_12 : decode cX5_teach 12 = .ok (.aload_n 0, 1) := by decide +kernel
theorem dX5_teach_13 : decode cX5_teach 13 = .ok (.invokevirtual 247, 3) := by decide +kernel
theorem dX5_teach_16 : decode cX5_teach 16 = .ok (.istore_n 2, 1) := by decide +kernel
theorem dX5_teach_17 : decode cX5_teach 17 = .ok (.bipush (-4), 2) := by decide +kernel
theorem dX5_teach_19 : decode cX5_teach 19 = .ok (.istore_n 3, 1) := by decide +kernel
theorem dX5_teach_20 : decode cX5_teach 20 = .ok (.iconst 0, 1) := by decide +kernel
theorem dX5_teach_21 : decode cX5_teach 21 = .ok (.istore 4, 2) := by decide +kernel
theorem dX5_teach_23 : decode cX5_teach 23 = .ok (.iload 4, 2) := by decide +kernel
theorem dX5_teach_25 : decode cX5_teach 25 = .ok (.aload_n 0, 1) := by decide +kernel
theorem dX5_teach_26 : decode cX5_teach 26 = .ok (.getfield 146, 3) := by decide +kernel
theorem dX5_teach_29 : decode cX5_teach 29 = .ok (.if_icmp .ge 77, 3) := by decide +kernel
theorem dX5_teach_32 : decode cX5_teach 32 = .ok (.aload_n 0, 1) := by decide +kernel
theorem dX5_teach_33 : decode cX5_teach 33 = .ok (.getfield 7, 3) := by decide +kernel
theorem dX5_teach_36 : decode cX5_teach 36 = .ok (.bipush 48, 2) := by decide +kernel
theorem dX5_teach_38 : decode cX5_teach 38 = .ok (.iload 4, 2) := by decide +kernel
theorem dX5_teach_40 : decode cX5_teach 40 = .ok (.iadd, 1) := by decide +kernel
theorem dX5_teach_41 : decode cX5_teach 41 = .ok (.iaload, 1) := by decide +kernel
theorem dX5_teach_42 : decode cX5_teach 42 = .ok (.istore 5, 2) := by decide +kernel
theorem dX5_teach_44 : decode cX5_teach 44 = .ok (.aload_n 0, 1) := by decide +kernel
theorem dX5_teach_45 : decode cX5_teach 45 = .ok (.getfield 7, 3) := by decide +kernel
theorem dX5_teach_48 : decode cX5_teach 48 = .ok (.bipush 48, 2) := by decide +kernel
theorem dX5_teach_50 : decode cX5_teach 50 = .ok (.iload 4, 2) := by decide +kernel
theorem dX5_teach_52 : decode cX5_teach 52 = .ok (.iadd, 1) := by decide +kernel
theorem dX5_teach_53 : decode cX5_teach 53 = .ok (.bipush 9, 2) := by decide +kernel
theorem dX5_teach_55 : decode cX5_teach 55 = .ok (.iastore, 1) := by decide +kernel
theorem dX5_teach_56 : decode cX5_teach 56 = .ok (.aload_n 0, 1) := by decide +kernel
theorem dX5_teach_57 : decode cX5_teach 57 = .ok (.invokevirtual 247, 3) := by decide +kernel
theorem dX5_teach_60 : decode cX5_teach 60 = .ok (.istore 6, 2) := by decide +kernel
theorem dX5_teach_62 : decode cX5_teach 62 = .ok (.aload_n 0, 1) := by decide +kernel
theorem dX5_teach_63 : decode cX5_teach 63 = .ok (.getfield 7, 3) := by decide +kernel
theorem dX5_teach_66 : decode cX5_teach 66 = .ok (.bipush 48, 2) := by decide +kernel
theorem dX5_teach_68 : decode cX5_teach 68 = .ok (.iload 4, 2) := by decide +kernel
theorem dX5_teach_70 : decode cX5_teach 70 = .ok (.iadd, 1) := by decide +kernel
theorem dX5_teach_71 : decode cX5_teach 71 = .ok (.iload 5, 2) := by decide +kernel
theorem dX5_teach_73 : decode cX5_teach 73 = .ok (.iastore, 1) := by decide +kernel
theorem dX5_teach_74 : decode cX5_teach 74 = .ok (.iload 6, 2) := by decide +kernel
theorem dX5_teach_76 : decode cX5_teach 76 = .ok (.iload_n 2, 1) := by decide +kernel
theorem dX5_teach_77 : decode cX5_teach 77 = .ok (.if_icmp .ge 8, 3) := by decide +kernel
theorem dX5_teach_80 : decode cX5_teach 80 = .ok (.iload 4, 2) := by decide +kernel
theorem dX5_teach_82 : decode cX5_teach 82 = .ok (.goto 4, 3) := by decide +kernel
theorem dX5_teach_85 : decode cX5_teach 85 = .ok (.iload_n 3, 1) := by decide +kernel
theorem dX5_teach_86 : decode cX5_teach 86 = .ok (.istore_n 3, 1) := by decide +kernel
theorem dX5_teach_87 : decode cX5_teach 87 = .ok (.iload 6, 2) := by decide +kernel
theorem dX5_teach_89 : decode cX5_teach 89 = .ok (.iload_n 2, 1) := by decide +kernel
theorem dX5_teach_90 : decode cX5_teach 90 = .ok (.if_icmp .ge 8, 3) := by decide +kernel
theorem dX5_teach_93 : decode cX5_teach 93 = .ok (.iload 6, 2) := by decide +kernel
theorem dX5_teach_95 : decode cX5_teach 95 = .ok (.goto 4, 3) := by decide +kernel
theorem dX5_teach_98 : decode cX5_teach 98 = .ok (.iload_n 2, 1) := by decide +kernel
theorem dX5_teach_99 : decode cX5_teach 99 = .ok (.istore_n 2, 1) := by decide +kernel
theorem dX5_teach_100 : decode cX5_teach 100 = .ok (.iinc 4 1, 3) := by decide +kernel
theorem dX5_teach_103 : decode cX5_teach 103 = .ok (.goto (-80), 3) := by decide +kernel
theorem dX5_teach_106 : decode cX5_teach 106 = .ok (.iload_n 3, 1) := by decide +kernel
theorem dX5_teach_107 : decode cX5_teach 107 = .ok (.bipush (-4), 2) := by decide +kernel
theorem dX5_teach_109 : decode cX5_teach 109 = .ok (.if_icmp .eq 7, 3) := by decide +kernel
theorem dX5_teach_112 : decode cX5_teach 112 = .ok (.iload_n 1, 1) := by decide +kernel
theorem dX5_teach_113 : decode cX5_teach 113 = .ok (.ifCond .ne 7, 3) := by decide +kernel
theorem dX5_teach_116 : decode cX5_teach 116 = .ok (.iload_n 3, 1) := by decide +kernel
theorem dX5_teach_117 : decode cX5_teach 117 = .ok (.goto 4, 3) := by decide +kernel
theorem dX5_teach_120 : decode cX5_teach 120 = .ok (.iload_n 2, 1) := by decide +kernel
theorem dX5_teach_121 : decode cX5_teach 121 = .ok (.ireturn, 1) := by decide +kernel
theorem dX5_lowest_0 : decode cX5_lowest 0 = .ok (.lload_n 0, 1) := by decide +kernel
theorem dX5_lowest_1 : decode cX5_lowest 1 = .ok (.lstore 5, 2) := by decide +kernel
theorem dX5_lowest_3 : decode cX5_lowest 3 = .ok (.lload_n 2, 1) := by decide +kernel
theorem dX5_lowest_4 : decode cX5_lowest 4 = .ok (.lstore 7, 2) := by decide +kernel
theorem dX5_lowest_6 : decode cX5_lowest 6 = .ok (.lload 7, 2) := by decide +kernel
theorem dX5_lowest_8 : decode cX5_lowest 8 = .ok (.lconst 0, 1) := by decide +kernel
theorem dX5_lowest_9 : decode cX5_lowest 9 = .ok (.lcmp, 1) := by decide +kernel
theorem dX5_lowest_10 : decode cX5_lowest 10 = .ok (.ifCond .eq 21, 3) := by decide +kernel
theorem dX5_lowest_13 : decode cX5_lowest 13 = .ok (.lload 5, 2) := by decide +kernel
theorem dX5_lowest_15 : decode cX5_lowest 15 = .ok (.lload 7, 2) := by decide +kernel
theorem dX5_lowest_17 : decode cX5_lowest 17 = .ok (.lrem, 1) := by decide +kernel
theorem dX5_lowest_18 : decode cX5_lowest 18 = .ok (.lstore 9, 2) := by decide +kernel
theorem dX5_lowest_20 : decode cX5_lowest 20 = .ok (.lload 7, 2) := by decide +kernel
theorem dX5_lowest_22 : decode cX5_lowest 22 = .ok (.lstore 5, 2) := by decide +kernel
theorem dX5_lowest_24 : decode cX5_lowest 24 = .ok (.lload 9, 2) := by decide +kernel
theorem dX5_lowest_26 : decode cX5_lowest 26 = .ok (.lstore 7, 2) := by decide +kernel
theorem dX5_lowest_28 : decode cX5_lowest 28 = .ok (.goto (-22), 3) := by decide +kernel
theorem dX5_lowest_31 : decode cX5_lowest 31 = .ok (.iload 4, 2) := by decide +kernel
theorem dX5_lowest_33 : decode cX5_lowest 33 = .ok (.ifCond .ne 7, 3) := by decide +kernel
theorem dX5_lowest_36 : decode cX5_lowest 36 = .ok (.lload_n 0, 1) := by decide +kernel
theorem dX5_lowest_37 : decode cX5_lowest 37 = .ok (.goto 4, 3) := by decide +kernel
theorem dX5_lowest_40 : decode cX5_lowest 40 = .ok (.lload_n 2, 1) := by decide +kernel
theorem dX5_lowest_41 : decode cX5_lowest 41 = .ok (.lload 5, 2) := by decide +kernel
theorem dX5_lowest_43 : decode cX5_lowest 43 = .ok (.ldiv, 1) := by decide +kernel
theorem dX5_lowest_44 : decode cX5_lowest 44 = .ok (.lreturn, 1) := by decide +kernel
theorem dX5_byStrings_0 : decode cX5_byStrings 0 = .ok (.lconst 0, 1) := by decide +kernel
theorem dX5_byStrings_1 : decode cX5_byStrings 1 = .ok (.lstore 4, 2) := by decide +kernel
theorem dX5_byStrings_3 : decode cX5_byStrings 3 = .ok (.lconst 1, 1) := by decide +kernel
theorem dX5_byStrings_4 : decode cX5_byStrings 4 = .ok (.lstore 6, 2) := by decide +kernel
theorem dX5_byStrings_6 : decode cX5_byStrings 6 = .ok (.iconst 0, 1) := by decide +kernel
theorem dX5_byStrings_7 : decode cX5_byStrings 7 = .ok (.istore 8, 2) := by decide +kernel
theorem dX5_byStrings_9 : decode cX5_byStrings 9 = .ok (.iload 8, 2) := by decide +kernel
theorem dX5_byStrings_11 : decode cX5_byStrings 11 = .ok (.aload_n 0, 1) := by decide +kernel
theorem dX5_byStrings_12 : decode cX5_byStrings 12 = .ok (.getfield 146, 3) := by decide +kernel
theorem dX5_byStrings_15 : decode cX5_byStrings 15 = .ok (.if_icmp .ge 17, 3) := by decide +kernel
theorem dX5_byStrings_18 : decode cX5_byStrings 18 = .ok (.lload 6, 2) := by decide +kernel
theorem dX5_byStrings_20 : decode cX5_byStrings 20 = .ok (.ldc2_w 234, 3) := by decide +kernel
theorem dX5_byStrings_23 : decode cX5_byStrings 23 = .ok (.lmul, 1) := by decide +kernel
theorem dX5_byStrings_24 : decode cX5_byStrings 24 = .ok (.lstore 6, 2) := by decide +kernel
theorem dX5_byStrings_26 : decode cX5_byStrings 26 = .ok (.iinc 8 1, 3) := by decide +kernel
theorem dX5_byStrings_29 : decode cX5_byStrings 29 = .ok (.goto (-20), 3) := by decide +kernel
theorem dX5_byStrings_32 : decode cX5_byStrings 32 = .ok (.iconst 0, 1) := by decide +kernel
theorem dX5_byStrings_33 : decode cX5_byStrings 33 = .ok (.istore 8, 2) := by decide +kernel
theorem dX5_byStrings_35 : decode cX5_byStrings 35 = .ok (.iload 8, 2) := by decide +kernel
theorem dX5_byStrings_37 : decode cX5_byStrings 37 = .ok (.iconst 1, 1) := by decide +kernel
theorem dX5_byStrings_38 : decode cX5_byStrings 38 = .ok (.aload_n 0, 1) := by decide +kernel
theorem dX5_byStrings_39 : decode cX5_byStrings 39 = .ok (.getfield 146, 3) := by decide +kernel
theorem dX5_byStrings_42 : decode cX5_byStrings 42 = .ok (.ishl, 1) := by decide +kernel
theorem dX5_byStrings_43 : decode cX5_byStrings 43 = .ok (.if_icmp .ge 98, 3) := by decide +kernel
theorem dX5_byStrings_46 : decode cX5_byStrings 46 = .ok (.lconst 1, 1) := by decide +kernel
theorem dX5_byStrings_47 : decode cX5_byStrings 47 = .ok (.lstore 9, 2) := by decide +kernel
theorem dX5_byStrings_49 : decode cX5_byStrings 49 = .ok (.iconst 0, 1) := by decide +kernel
theorem dX5_byStrings_50 : decode cX5_byStrings 50 = .ok (.istore 11, 2) := by decide +kernel
theorem dX5_byStrings_52 : decode cX5_byStrings 52 = .ok (.iload 11, 2) := by decide +kernel
theorem dX5_byStrings_54 : decode cX5_byStrings 54 = .ok (.aload_n 0, 1) := by decide +kernel
theorem dX5_byStrings_55 : decode cX5_byStrings 55 = .ok (.getfield 146, 3) := by decide +kernel
theorem dX5_byStrings_58 : decode cX5_byStrings 58 = .ok (.if_icmp .ge 35, 3) := by decide +kernel
theorem dX5_byStrings_61 : decode cX5_byStrings 61 = .ok (.lload 9, 2) := by decide +kernel
theorem dX5_byStrings_63 : decode cX5_byStrings 63 = .ok (.iload 8, 2) := by decide +kernel
theorem dX5_byStrings_65 : decode cX5_byStrings 65 = .ok (.iload 11, 2) := by decide +kernel
theorem dX5_byStrings_67 : decode cX5_byStrings 67 = .ok (.ishr, 1) := by decide +kernel
theorem dX5_byStrings_68 : decode cX5_byStrings 68 = .ok (.iconst 1, 1) := by decide +kernel
theorem dX5_byStrings_69 : decode cX5_byStrings 69 = .ok (.iand, 1) := by decide +kernel
theorem dX5_byStrings_70 : decode cX5_byStrings 70 = .ok (.iconst 1, 1) := by decide +kernel
theorem dX5_byStrings_71 : decode cX5_byStrings 71 = .ok (.if_icmp .ne 8, 3) := by decide +kernel
theorem dX5_byStrings_74 : decode cX5_byStrings 74 = .ok (.iload_n 1, 1) := by decide +kernel
theorem dX5_byStrings_75 : decode cX5_byStrings 75 = .ok (.i2l, 1) := by decide +kernel
theorem dX5_byStrings_76 : decode cX5_byStrings 76 = .ok (.goto 8, 3) := by decide +kernel
theorem dX5_byStrings_79 : decode cX5_byStrings 79 = .ok (.bipush 10, 2) := by decide +kernel
theorem dX5_byStrings_81 : decode cX5_byStrings 81 = .ok (.iload_n 1, 1) := by decide +kernel
theorem dX5_byStrings_82 : decode cX5_byStrings 82 = .ok (.isub, 1) := by decide +kernel
theorem dX5_byStrings_83 : decode cX5_byStrings 83 = .ok (.i2l, 1) := by decide +kernel
theorem dX5_byStrings_84 : decode cX5_byStrings 84 = .ok (.lmul, 1) := by decide +kernel
theorem dX5_byStrings_85 : decode cX5_byStrings 85 = .ok (.lstore 9, 2) := by decide +kernel
theorem dX5_byStrings_87 : decode cX5_byStrings 87 = .ok (.iinc 11 1, 3) := by decide +kernel
theorem dX5_byStrings_90 : decode cX5_byStrings 90 = .ok (.goto (-38), 3) := by decide +kernel
theorem dX5_byStrings_93 : decode cX5_byStrings 93 = .ok (.aload_n 0, 1) := by decide +kernel
theorem dX5_byStrings_94 : decode cX5_byStrings 94 = .ok (.iload 8, 2) := by decide +kernel
theorem dX5_byStrings_96 : decode cX5_byStrings 96 = .ok (.putfield 203, 3) := by decide +kernel
theorem dX5_byStrings_99 : decode cX5_byStrings 99 = .ok (.aload_n 0, 1) := by decide +kernel
theorem dX5_byStrings_100 : decode cX5_byStrings 100 = .ok (.invokevirtual 247, 3) := by decide +kernel
theorem dX5_byStrings_103 : decode cX5_byStrings 103 = .ok (.istore 11, 2) := by decide +kernel
theorem dX5_byStrings_105 : decode cX5_byStrings 105 = .ok (.lload 4, 2) := by decide +kernel
theorem dX5_byStrings_107 : decode cX5_byStrings 107 = .ok (.lload 9, 2) := by decide +kernel
theorem dX5_byStrings_109 : decode cX5_byStrings 109 = .ok (.iload_n 2, 1) := by decide +kernel
theorem dX5_byStrings_110 : decode cX5_byStrings 110 = .ok (.bipush (-4), 2) := by decide +kernel
theorem dX5_byStrings_112 : decode cX5_byStrings 112 = .ok (.if_icmp .ne 8, 3) := by decide +kernel
theorem dX5_byStrings_115 : decode cX5_byStrings 115 = .ok (.iload 11, 2) := by decide +kernel
theorem dX5_byStrings_117 : decode cX5_byStrings 117 = .ok (.goto 13, 3) := by decide +kernel
theorem dX5_byStrings_120 : decode cX5_byStrings 120 = .ok (.iconst 1, 1) := by decide +kernel
theorem dX5_byStrings_121 : decode cX5_byStrings 121 = .ok (.aload_n 0, 1) := by decide +kernel
theorem dX5_byStrings_122 : decode cX5_byStrings 122 = .ok (.invokevirtual 222, 3) := by decide +kernel
theorem dX5_byStrings_125 : decode cX5_byStrings 125 = .ok (.iload_n 2, 1) := by decide +kernel
theorem dX5_byStrings_126 : decode cX5_byStrings 126 = .ok (.ishr, 1) := by decide +kernel
theorem dX5_byStrings_127 : decode cX5_byStrings 127 = .ok (.iconst 1, 1) := by decide +kernel
theorem dX5_byStrings_128 : decode cX5_byStrings 128 = .ok (.iand, 1) := by decide +kernel
theorem dX5_byStrings_129 : decode cX5_byStrings 129 = .ok (.isub, 1) := by decide +kernel
theorem dX5_byStrings_130 : decode cX5_byStrings 130 = .ok (.i2l, 1) := by decide +kernel
theorem dX5_byStrings_131 : decode cX5_byStrings 131 = .ok (.lmul, 1) := by decide +kernel
theorem dX5_byStrings_132 : decode cX5_byStrings 132 = .ok (.ladd, 1) := by decide +kernel
theorem dX5_byStrings_133 : decode cX5_byStrings 133 = .ok (.lstore 4, 2) := by decide +kernel
theorem dX5_byStrings_135 : decode cX5_byStrings 135 = .ok (.iinc 8 1, 3) := by decide +kernel
theorem dX5_byStrings_138 : decode cX5_byStrings 138 = .ok (.goto (-103), 3) := by decide +kernel
theorem dX5_byStrings_141 : decode cX5_byStrings 141 = .ok (.aload_n 0, 1) := by decide +kernel
theorem dX5_byStrings_142 : decode cX5_byStrings 142 = .ok (.iconst 0, 1) := by decide +kernel
theorem dX5_byStrings_143 : decode cX5_byStrings 143 = .ok (.putfield 203, 3) := by decide +kernel
theorem dX5_byStrings_146 : decode cX5_byStrings 146 = .ok (.lload 4, 2) := by decide +kernel
theorem dX5_byStrings_148 : decode cX5_byStrings 148 = .ok (.lload 6, 2) := by decide +kernel
theorem dX5_byStrings_150 : decode cX5_byStrings 150 = .ok (.iload_n 3, 1) := by decide +kernel
theorem dX5_byStrings_151 : decode cX5_byStrings 151 = .ok (.invokestatic 252, 3) := by decide +kernel
theorem dX5_byStrings_154 : decode cX5_byStrings 154 = .ok (.lreturn, 1) := by decide +kernel
theorem dX5_mean_0 : decode cX5_mean 0 = .ok (.iload_n 1, 1) := by decide +kernel
theorem dX5_mean_1 : decode cX5_mean 1 = .ok (.i2l, 1) := by decide +kernel
theorem dX5_mean_2 : decode cX5_mean 2 = .ok (.lconst 0, 1) := by decide +kernel
theorem dX5_mean_3 : decode cX5_mean 3 = .ok (.ldc2_w 234, 3) := by decide +kernel
theorem dX5_mean_6 : decode cX5_mean 6 = .ok (.invokestatic 61, 3) := by decide +kernel
theorem dX5_mean_9 : decode cX5_mean 9 = .ok (.ifCond .eq 24, 3) := by decide +kernel
theorem dX5_mean_12 : decode cX5_mean 12 = .ok (.iload_n 2, 1) := by decide +kernel
theorem dX5_mean_13 : decode cX5_mean 13 = .ok (.i2l, 1) := by decide +kernel
theorem dX5_mean_14 : decode cX5_mean 14 = .ok (.lconst 0, 1) := by decide +kernel
theorem dX5_mean_15 : decode cX5_mean 15 = .ok (.lconst 1, 1) := by decide +kernel
theorem dX5_mean_16 : decode cX5_mean 16 = .ok (.invokestatic 61, 3) := by decide +kernel
theorem dX5_mean_19 : decode cX5_mean 19 = .ok (.ifCond .eq 14, 3) := by decide +kernel
theorem dX5_mean_22 : decode cX5_mean 22 = .ok (.aload_n 0, 1) := by decide +kernel
theorem dX5_mean_23 : decode cX5_mean 23 = .ok (.iload_n 1, 1) := by decide +kernel
theorem dX5_mean_24 : decode cX5_mean 24 = .ok (.bipush (-4), 2) := by decide +kernel
theorem dX5_mean_26 : decode cX5_mean 26 = .ok (.iload_n 2, 1) := by decide +kernel
theorem dX5_mean_27 : decode cX5_mean 27 = .ok (.invokevirtual 256, 3) := by decide +kernel
theorem dX5_mean_30 : decode cX5_mean 30 = .ok (.goto 6, 3) := by decide +kernel
theorem dX5_mean_33 : decode cX5_mean 33 = .ok (.ldc2_w 260, 3) := by decide +kernel
theorem dX5_mean_36 : decode cX5_mean 36 = .ok (.lreturn, 1) := by decide +kernel
theorem dX5_luck_0 : decode cX5_luck 0 = .ok (.iload_n 1, 1) := by decide +kernel
theorem dX5_luck_1 : decode cX5_luck 1 = .ok (.i2l, 1) := by decide +kernel
theorem dX5_luck_2 : decode cX5_luck 2 = .ok (.lconst 0, 1) := by decide +kernel
theorem dX5_luck_3 : decode cX5_luck 3 = .ok (.ldc2_w 234, 3) := by decide +kernel
theorem dX5_luck_6 : decode cX5_luck 6 = .ok (.invokestatic 61, 3) := by decide +kernel
theorem dX5_luck_9 : decode cX5_luck 9 = .ok (.ifCond .eq 31, 3) := by decide +kernel
theorem dX5_luck_12 : decode cX5_luck 12 = .ok (.aload_n 0, 1) := by decide +kernel
theorem dX5_luck_13 : decode cX5_luck 13 = .ok (.iload_n 2, 1) := by decide +kernel
theorem dX5_luck_14 : decode cX5_luck 14 = .ok (.invokevirtual 189, 3) := by decide +kernel
theorem dX5_luck_17 : decode cX5_luck 17 = .ok (.ifCond .eq 23, 3) := by decide +kernel
theorem dX5_luck_20 : decode cX5_luck 20 = .ok (.iload_n 3, 1) := by decide +kernel
theorem dX5_luck_21 : decode cX5_luck 21 = .ok (.i2l, 1) := by decide +kernel
theorem dX5_luck_22 : decode cX5_luck 22 = .ok (.lconst 0, 1) := by decide +kernel
theorem dX5_luck_23 : decode cX5_luck 23 = .ok (.lconst 1, 1) := by decide +kernel
theorem dX5_luck_24 : decode cX5_luck 24 = .ok (.invokestatic 61, 3) := by decide +kernel
theorem dX5_luck_27 : decode cX5_luck 27 = .ok (.ifCond .eq 13, 3) := by decide +kernel
theorem dX5_luck_30 : decode cX5_luck 30 = .ok (.aload_n 0, 1) := by decide +kernel
theorem dX5_luck_31 : decode cX5_luck 31 = .ok (.iload_n 1, 1) := by decide +kernel
theorem dX5_luck_32 : decode cX5_luck 32 = .ok (.iload_n 2, 1) := by decide +kernel
theorem dX5_luck_33 : decode cX5_luck 33 = .ok (.iload_n 3, 1) := by decide +kernel
theorem dX5_luck_34 : decode cX5_luck 34 = .ok (.invokevirtual 256, 3) := by decide +kernel
theorem dX5_luck_37 : decode cX5_luck 37 = .ok (.goto 6, 3) := by decide +kernel
theorem dX5_luck_40 : decode cX5_luck 40 = .ok (.ldc2_w 260, 3) := by decide +kernel
theorem dX5_luck_43 : decode cX5_luck 43 = .ok (.lreturn, 1) := by decide +kernel
theorem dX5_see_0 : decode cX5_see 0 = .ok (.aload_n 0, 1) := by decide +kernel
theorem dX5_see_1 : decode cX5_see 1 = .ok (.iload_n 1, 1) := by decide +kernel
theorem dX5_see_2 : decode cX5_see 2 = .ok (.invokevirtual 161, 3) := by decide +kernel
theorem dX5_see_5 : decode cX5_see 5 = .ok (.ifCond .eq 28, 3) := by decide +kernel
theorem dX5_see_8 : decode cX5_see 8 = .ok (.iload_n 2, 1) := by decide +kernel
theorem dX5_see_9 : decode cX5_see 9 = .ok (.invokestatic 177, 3) := by decide +kernel
theorem dX5_see_12 : decode cX5_see 12 = .ok (.ifCond .eq 21, 3) := by decide +kernel
theorem dX5_see_15 : decode cX5_see 15 = .ok (.iload_n 3, 1) := by decide +kernel
theorem dX5_see_16 : decode cX5_see 16 = .ok (.bipush (-4), 2) := by decide +kernel
theorem dX5_see_18 : decode cX5_see 18 = .ok (.if_icmp .eq 17, 3) := by decide +kernel
theorem dX5_see_21 : decode cX5_see 21 = .ok (.iload_n 3, 1) := by decide +kernel
theorem dX5_see_22 : decode cX5_see 22 = .ok (.i2l, 1) := by decide +kernel
theorem dX5_see_23 : decode cX5_see 23 = .ok (.lconst 0, 1) := by decide +kernel
theorem dX5_see_24 : decode cX5_see 24 = .ok (.ldc2_w 192, 3) := by decide +kernel
theorem dX5_see_27 : decode cX5_see 27 = .ok (.invokestatic 61, 3) := by decide +kernel
theorem dX5_see_30 : decode cX5_see 30 = .ok (.ifCond .ne 5, 3) := by decide +kernel
theorem dX5_see_33 : decode cX5_see 33 = .ok (.iconst (-1), 1) := by decide +kernel
theorem dX5_see_34 : decode cX5_see 34 = .ok (.ireturn, 1) := by decide +kernel
theorem dX5_see_35 : decode cX5_see 35 = .ok (.aload_n 0, 1) := by decide +kernel
theorem dX5_see_36 : decode cX5_see 36 = .ok (.getfield 152, 3) := by decide +kernel
theorem dX5_see_39 : decode cX5_see 39 = .ok (.bipush 6, 2) := by decide +kernel
theorem dX5_see_41 : decode cX5_see 41 = .ok (.if_icmp .ne 6, 3) := by decide +kernel
theorem dX5_see_44 : decode cX5_see 44 = .ok (.bipush (-3), 2) := by decide +kernel
theorem dX5_see_46 : decode cX5_see 46 = .ok (.ireturn, 1) := by decide +kernel
theorem dX5_see_47 : decode cX5_see 47 = .ok (.aload_n 0, 1) := by decide +kernel
theorem dX5_see_48 : decode cX5_see 48 = .ok (.getfield 43, 3) := by decide +kernel
theorem dX5_see_51 : decode cX5_see 51 = .ok (.iconst 3, 1) := by decide +kernel
theorem dX5_see_52 : decode cX5_see 52 = .ok (.aload_n 0, 1) := by decide +kernel
theorem dX5_see_53 : decode cX5_see 53 = .ok (.getfield 152, 3) := by decide +kernel
theorem dX5_see_56 : decode cX5_see 56 = .ok (.imul, 1) := by decide +kernel
theorem dX5_see_57 : decode cX5_see 57 = .ok (.iload_n 1, 1) := by decide +kernel
theorem dX5_see_58 : decode cX5_see 58 = .ok (.iastore, 1) := by decide +kernel
theorem dX5_see_59 : decode cX5_see 59 = .ok (.aload_n 0, 1) := by decide +kernel
theorem dX5_see_60 : decode cX5_see 60 = .ok (.getfield 43, 3) := by decide +kernel
theorem dX5_see_63 : decode cX5_see 63 = .ok (.iconst 3, 1) := by decide +kernel
theorem dX5_see_64 : decode cX5_see 64 = .ok (.aload_n 0, 1) := by decide +kernel
theorem dX5_see_65 : decode cX5_see 65 = .ok (.getfield 152, 3) := by decide +kernel
theorem dX5_see_68 : decode cX5_see 68 = .ok (.imul, 1) := by decide +kernel
theorem dX5_see_69 : decode cX5_see 69 = .ok (.iconst 1, 1) := by decide +kernel
theorem dX5_see_70 : decode cX5_see 70 = .ok (.iadd, 1) := by decide +kernel
theorem dX5_see_71 : decode cX5_see 71 = .ok (.iload_n 2, 1) := by decide +kernel
theorem dX5_see_72 : decode cX5_see 72 = .ok (.iastore, 1) := by decide +kernel
theorem dX5_see_73 : decode cX5_see 73 = .ok (.aload_n 0, 1) := by decide +kernel
theorem dX5_see_74 : decode cX5_see 74 = .ok (.getfield 43, 3) := by decide +kernel
theorem dX5_see_77 : decode cX5_see 77 = .ok (.iconst 3, 1) := by decide +kernel
theorem dX5_see_78 : decode cX5_see 78 = .ok (.aload_n 0, 1) := by decide +kernel
theorem dX5_see_79 : decode cX5_see 79 = .ok (.getfield 152, 3) := by decide +kernel
theorem dX5_see_82 : decode cX5_see 82 = .ok (.imul, 1) := by decide +kernel
theorem dX5_see_83 : decode cX5_see 83 = .ok (.iconst 2, 1) := by decide +kernel
theorem dX5_see_84 : decode cX5_see 84 = .ok (.iadd, 1) := by decide +kernel
theorem dX5_see_85 : decode cX5_see 85 = .ok (.iload_n 3, 1) := by decide +kernel
theorem dX5_see_86 : decode cX5_see 86 = .ok (.iastore, 1) := by decide +kernel
theorem dX5_see_87 : decode cX5_see 87 = .ok (.aload_n 0, 1) := by decide +kernel
theorem dX5_see_88 : decode cX5_see 88 = .ok (.dup, 1) := by decide +kernel
theorem dX5_see_89 : decode cX5_see 89 = .ok (.getfield 152, 3) := by decide +kernel
theorem dX5_see_92 : decode cX5_see 92 = .ok (.iconst 1, 1) := by decide +kernel
theorem dX5_see_93 : decode cX5_see 93 = .ok (.iadd, 1) := by decide +kernel
theorem dX5_see_94 : decode cX5_see 94 = .ok (.putfield 152, 3) := by decide +kernel
theorem dX5_see_97 : decode cX5_see 97 = .ok (.aload_n 0, 1) := by decide +kernel
theorem dX5_see_98 : decode cX5_see 98 = .ok (.getfield 152, 3) := by decide +kernel
theorem dX5_see_101 : decode cX5_see 101 = .ok (.ireturn, 1) := by decide +kernel
theorem dX5_forget_0 : decode cX5_forget 0 = .ok (.iload_n 1, 1) := by decide +kernel
theorem dX5_forget_1 : decode cX5_forget 1 = .ok (.i2l, 1) := by decide +kernel
theorem dX5_forget_2 : decode cX5_forget 2 = .ok (.lconst 0, 1) := by decide +kernel
theorem dX5_forget_3 : decode cX5_forget 3 = .ok (.aload_n 0, 1) := by decide +kernel
theorem dX5_forget_4 : decode cX5_forget 4 = .ok (.getfield 152, 3) := by decide +kernel
theorem dX5_forget_7 : decode cX5_forget 7 = .ok (.i2l, 1) := by decide +kernel
theorem dX5_forget_8 : decode cX5_forget 8 = .ok (.invokestatic 61, 3) := by decide +kernel
theorem dX5_forget_11 : decode cX5_forget 11 = .ok (.ifCond .ne 5, 3) := by decide +kernel
theorem dX5_forget_14 : decode cX5_forget 14 = .ok (.iconst (-1), 1) := by decide +kernel
theorem dX5_forget_15 : decode cX5_forget 15 = .ok (.ireturn, 1) := by decide +kernel
theorem dX5_forget_16 : decode cX5_forget 16 = .ok (.aload_n 0, 1) := by decide +kernel
theorem dX5_forget_17 : decode cX5_forget 17 = .ok (.getfield 152, 3) := by decide +kernel
theorem dX5_forget_20 : decode cX5_forget 20 = .ok (.istore_n 2, 1) := by decide +kernel
theorem dX5_forget_21 : decode cX5_forget 21 = .ok (.aload_n 0, 1) := by decide +kernel
theorem dX5_forget_22 : decode cX5_forget 22 = .ok (.iload_n 1, 1) := by decide +kernel
theorem dX5_forget_23 : decode cX5_forget 23 = .ok (.putfield 152, 3) := by decide +kernel
theorem dX5_forget_26 : decode cX5_forget 26 = .ok (.iload_n 2, 1) := by decide +kernel
theorem dX5_forget_27 : decode cX5_forget 27 = .ok (.ireturn, 1) := by decide +kernel
theorem dX5_kindsOf_0 : decode cX5_kindsOf 0 = .ok (.iconst 0, 1) := by decide +kernel
theorem dX5_kindsOf_1 : decode cX5_kindsOf 1 = .ok (.istore_n 2, 1) := by decide +kernel
theorem dX5_kindsOf_2 : decode cX5_kindsOf 2 = .ok (.iconst 0, 1) := by decide +kernel
theorem dX5_kindsOf_3 : decode cX5_kindsOf 3 = .ok (.istore_n 3, 1) := by decide +kernel
theorem dX5_kindsOf_4 : decode cX5_kindsOf 4 = .ok (.iload_n 3, 1) := by decide +kernel
theorem dX5_kindsOf_5 : decode cX5_kindsOf 5 = .ok (.iconst 4, 1) := by decide +kernel
theorem dX5_kindsOf_6 : decode cX5_kindsOf 6 = .ok (.if_icmp .ge 101, 3) := by decide +kernel
theorem dX5_kindsOf_9 : decode cX5_kindsOf 9 = .ok (.iconst 1, 1) := by decide +kernel
theorem dX5_kindsOf_10 : decode cX5_kindsOf 10 = .ok (.istore 4, 2) := by decide +kernel
theorem dX5_kindsOf_12 : decode cX5_kindsOf 12 = .ok (.iconst 0, 1) := by decide +kernel
theorem dX5_kindsOf_13 : decode cX5_kindsOf 13 = .ok (.istore 5, 2) := by decide +kernel
theorem dX5_kindsOf_15 : decode cX5_kindsOf 15 = .ok (.iload 5, 2) := by decide +kernel
theorem dX5_kindsOf_17 : decode cX5_kindsOf 17 = .ok (.aload_n 0, 1) := by decide +kernel
theorem dX5_kindsOf_18 : decode cX5_kindsOf 18 = .ok (.getfield 152, 3) := by decide +kernel
theorem dX5_kindsOf_21 : decode cX5_kindsOf 21 = .ok (.if_icmp .ge 65, 3) := by decide +kernel
theorem dX5_kindsOf_24 : decode cX5_kindsOf 24 = .ok (.iload 4, 2) := by decide +kernel
theorem dX5_kindsOf_26 : decode cX5_kindsOf 26 = .ok (.ifCond .eq 51, 3) := by decide +kernel
theorem dX5_kindsOf_29 : decode cX5_kindsOf 29 = .ok (.aload_n 0, 1) := by decide +kernel
theorem dX5_kindsOf_30 : decode cX5_kindsOf 30 = .ok (.getfield 43, 3) := by decide +kernel
theorem dX5_kindsOf_33 : decode cX5_kindsOf 33 = .ok (.iconst 3, 1) := by decide +kernel
theorem dX5_kindsOf_34 : decode cX5_kindsOf 34 = .ok (.iload 5, 2) := by decide +kernel
theorem dX5_kindsOf_36 : decode cX5_kindsOf 36 = .ok (.imul, 1) := by decide +kernel
theorem dX5_kindsOf_37 : decode cX5_kindsOf 37 = .ok (.iaload, 1) := by decide +kernel
theorem dX5_kindsOf_38 : decode cX5_kindsOf 38 = .ok (.iload_n 1, 1) := by decide +kernel
theorem dX5_kindsOf_39 : decode cX5_kindsOf 39 = .ok (.if_icmp .ne 34, 3) := by decide +kernel
theorem dX5_kindsOf_42 : decode cX5_kindsOf 42 = .ok (.aload_n 0, 1) := by decide +kernel
theorem dX5_kindsOf_43 : decode cX5_kindsOf 43 = .ok (.iload_n 1, 1) := by decide +kernel
theorem dX5_kindsOf_44 : decode cX5_kindsOf 44 = .ok (.iload_n 3, 1) := by decide +kernel
theorem dX5_kindsOf_45 : decode cX5_kindsOf 45 = .ok (.aload_n 0, 1) := by decide +kernel
theorem dX5_kindsOf_46 : decode cX5_kindsOf 46 = .ok (.getfield 43, 3) := by decide +kernel
theorem dX5_kindsOf_49 : decode cX5_kindsOf 49 = .ok (.iconst 3, 1) := by decide +kernel
theorem dX5_kindsOf_50 : decode cX5_kindsOf 50 = .ok (.iload 5, 2) := by decide +kernel
theorem dX5_kindsOf_52 : decode cX5_kindsOf 52 = .ok (.imul, 1) := by decide +kernel
theorem dX5_kindsOf_53 : decode cX5_kindsOf 53 = .ok (.iconst 1, 1) := by decide +kernel
theorem dX5_kindsOf_54 : decode cX5_kindsOf 54 = .ok (.iadd, 1) := by decide +kernel
theorem dX5_kindsOf_55 : decode cX5_kindsOf 55 = .ok (.iaload, 1) := by decide +kernel
theorem dX5_kindsOf_56 : decode cX5_kindsOf 56 = .ok (.invokevirtual 180, 3) := by decide +kernel
theorem dX5_kindsOf_59 : decode cX5_kindsOf 59 = .ok (.aload_n 0, 1) := by decide +kernel
theorem dX5_kindsOf_60 : decode cX5_kindsOf 60 = .ok (.getfield 43, 3) := by decide +kernel
theorem dX5_kindsOf_63 : decode cX5_kindsOf 63 = .ok (.iconst 3, 1) := by decide +kernel
theorem dX5_kindsOf_64 : decode cX5_kindsOf 64 = .ok (.iload 5, 2) := by decide +kernel
theorem dX5_kindsOf_66 : decode cX5_kindsOf 66 = .ok (.imul, 1) := by decide +kernel
theorem dX5_kindsOf_67 : decode cX5_kindsOf 67 = .ok (.iconst 2, 1) := by decide +kernel
theorem dX5_kindsOf_68 : decode cX5_kindsOf 68 = .ok (.iadd, 1) := by decide +kernel
theorem dX5_kindsOf_69 : decode cX5_kindsOf 69 = .ok (.iaload, 1) := by decide +kernel
theorem dX5_kindsOf_70 : decode cX5_kindsOf 70 = .ok (.if_icmp .ne 7, 3) := by decide +kernel
theorem dX5_kindsOf_73 : decode cX5_kindsOf 73 = .ok (.iconst 1, 1) := by decide +kernel
theorem dX5_kindsOf_74 : decode cX5_kindsOf 74 = .ok (.goto 4, 3) := by decide +kernel
theorem dX5_kindsOf_77 : decode cX5_kindsOf 77 = .ok (.iconst 0, 1) := by decide +kernel
theorem dX5_kindsOf_78 : decode cX5_kindsOf 78 = .ok (.istore 4, 2) := by decide +kernel
theorem dX5_kindsOf_80 : decode cX5_kindsOf 80 = .ok (.iinc 5 1, 3) := by decide +kernel
theorem dX5_kindsOf_83 : decode cX5_kindsOf 83 = .ok (.goto (-68), 3) := by decide +kernel
theorem dX5_kindsOf_86 : decode cX5_kindsOf 86 = .ok (.iload_n 2, 1) := by decide +kernel
theorem dX5_kindsOf_87 : decode cX5_kindsOf 87 = .ok (.iload 4, 2) := by decide +kernel
theorem dX5_kindsOf_89 : decode cX5_kindsOf 89 = .ok (.ifCond .eq 9, 3) := by decide +kernel
theorem dX5_kindsOf_92 : decode cX5_kindsOf 92 = .ok (.iconst 1, 1) := by decide +kernel
theorem dX5_kindsOf_93 : decode cX5_kindsOf 93 = .ok (.iload_n 3, 1) := by decide +kernel
theorem dX5_kindsOf_94 : decode cX5_kindsOf 94 = .ok (.ishl, 1) := by decide +kernel
theorem dX5_kindsOf_95 : decode cX5_kindsOf 95 = .ok (.goto 4, 3) := by decide +kernel
theorem dX5_kindsOf_98 : decode cX5_kindsOf 98 = .ok (.iconst 0, 1) := by decide +kernel
theorem dX5_kindsOf_99 : decode cX5_kindsOf 99 = .ok (.ior, 1) := by decide +kernel
theorem dX5_kindsOf_100 : decode cX5_kindsOf 100 = .ok (.istore_n 2, 1) := by decide +kernel
theorem dX5_kindsOf_101 : decode cX5_kindsOf 101 = .ok (.iinc 3 1, 3) := by decide +kernel
theorem dX5_kindsOf_104 : decode cX5_kindsOf 104 = .ok (.goto (-100), 3) := by decide +kernel
theorem dX5_kindsOf_107 : decode cX5_kindsOf 107 = .ok (.iload_n 2, 1) := by decide +kernel
theorem dX5_kindsOf_108 : decode cX5_kindsOf 108 = .ok (.ireturn, 1) := by decide +kernel
theorem dX5_fits_0 : decode cX5_fits 0 = .ok (.aload_n 0, 1) := by decide +kernel
theorem dX5_fits_1 : decode cX5_fits 1 = .ok (.iload_n 1, 1) := by decide +kernel
theorem dX5_fits_2 : decode cX5_fits 2 = .ok (.invokevirtual 161, 3) := by decide +kernel
theorem dX5_fits_5 : decode cX5_fits 5 = .ok (.ifCond .eq 11, 3) := by decide +kernel
theorem dX5_fits_8 : decode cX5_fits 8 = .ok (.aload_n 0, 1) := by decide +kernel
theorem dX5_fits_9 : decode cX5_fits 9 = .ok (.iload_n 1, 1) := by decide +kernel
theorem dX5_fits_10 : decode cX5_fits 10 = .ok (.invokevirtual 262, 3) := by decide +kernel
theorem dX5_fits_13 : decode cX5_fits 13 = .ok (.goto 4, 3) := by decide +kernel
theorem dX5_fits_16 : decode cX5_fits 16 = .ok (.iconst (-1), 1) := by decide +kernel
theorem dX5_fits_17 : decode cX5_fits 17 = .ok (.ireturn, 1) := by decide +kernel
theorem dX5_listen_0 : decode cX5_listen 0 = .ok (.aload_n 0, 1) := by decide +kernel
theorem dX5_listen_1 : decode cX5_listen 1 = .ok (.iload_n 1, 1) := by decide +kernel
theorem dX5_listen_2 : decode cX5_listen 2 = .ok (.invokevirtual 161, 3) := by decide +kernel
theorem dX5_listen_5 : decode cX5_listen 5 = .ok (.ifCond .eq 13, 3) := by decide +kernel
theorem dX5_listen_8 : decode cX5_listen 8 = .ok (.iload_n 2, 1) := by decide +kernel
theorem dX5_listen_9 : decode cX5_listen 9 = .ok (.i2l, 1) := by decide +kernel
theorem dX5_listen_10 : decode cX5_listen 10 = .ok (.lconst 0, 1) := by decide +kernel
theorem dX5_listen_11 : decode cX5_listen 11 = .ok (.lconst 1, 1) := by decide +kernel
theorem dX5_listen_12 : decode cX5_listen 12 = .ok (.invokestatic 61, 3) := by decide +kernel
theorem dX5_listen_15 : decode cX5_listen 15 = .ok (.ifCond .ne 5, 3) := by decide +kernel
theorem dX5_listen_18 : decode cX5_listen 18 = .ok (.iconst (-1), 1) := by decide +kernel
theorem dX5_listen_19 : decode cX5_listen 19 = .ok (.ireturn, 1) := by decide +kernel
theorem dX5_listen_20 : decode cX5_listen 20 = .ok (.aload_n 0, 1) := by decide +kernel
theorem dX5_listen_21 : decode cX5_listen 21 = .ok (.iload_n 1, 1) := by decide +kernel
theorem dX5_listen_22 : decode cX5_listen 22 = .ok (.invokevirtual 262, 3) := by decide +kernel
theorem dX5_listen_25 : decode cX5_listen 25 = .ok (.istore_n 3, 1) := by decide +kernel
theorem dX5_listen_26 : decode cX5_listen 26 = .ok (.iload_n 3, 1) := by decide +kernel
theorem dX5_listen_27 : decode cX5_listen 27 = .ok (.invokestatic 225, 3) := by decide +kernel
theorem dX5_listen_30 : decode cX5_listen 30 = .ok (.istore 4, 2) := by decide +kernel
theorem dX5_listen_32 : decode cX5_listen 32 = .ok (.bipush (-4), 2) := by decide +kernel
theorem dX5_listen_34 : decode cX5_listen 34 = .ok (.istore 5, 2) := by decide +kernel
theorem dX5_listen_36 : decode cX5_listen 36 = .ok (.iconst 0, 1) := by decide +kernel
theorem dX5_listen_37 : decode cX5_listen 37 = .ok (.istore 6, 2) := by decide +kernel
theorem dX5_listen_39 : decode cX5_listen 39 = .ok (.iload 6, 2) := by decide +kernel
theorem dX5_listen_41 : decode cX5_listen 41 = .ok (.sipush 159, 3) := by decide +kernel
theorem dX5_listen_44 : decode cX5_listen 44 = .ok (.if_icmp .gt 144, 3) := by decide +kernel
theorem dX5_listen_47 : decode cX5_listen 47 = .ok (.iconst 0, 1) := by decide +kernel
theorem dX5_listen_48 : decode cX5_listen 48 = .ok (.istore 7, 2) := by decide +kernel
theorem dX5_listen_50 : decode cX5_listen 50 = .ok (.iconst 0, 1) := by decide +kernel
theorem dX5_listen_51 : decode cX5_listen 51 = .ok (.istore 8, 2) := by decide +kernel
theorem dX5_listen_53 : decode cX5_listen 53 = .ok (.iload 8, 2) := by decide +kernel
theorem dX5_listen_55 : decode cX5_listen 55 = .ok (.iconst 4, 1) := by decide +kernel
theorem dX5_listen_56 : decode cX5_listen 56 = .ok (.if_icmp .ge 94, 3) := by decide +kernel
theorem dX5_listen_59 : decode cX5_listen 59 = .ok (.iconst 0, 1) := by decide +kernel
theorem dX5_listen_60 : decode cX5_listen 60 = .ok (.istore 9, 2) := by decide +kernel
theorem dX5_listen_62 : decode cX5_listen 62 = .ok (.iconst 0, 1) := by decide +kernel
theorem dX5_listen_63 : decode cX5_listen 63 = .ok (.istore 10, 2) := by decide +kernel
theorem dX5_listen_65 : decode cX5_listen 65 = .ok (.iload 10, 2) := by decide +kernel
theorem dX5_listen_67 : decode cX5_listen 67 = .ok (.iconst 4, 1) := by decide +kernel
theorem dX5_listen_68 : decode cX5_listen 68 = .ok (.if_icmp .ge 60, 3) := by decide +kernel
theorem dX5_listen_71 : decode cX5_listen 71 = .ok (.iload_n 3, 1) := by decide +kernel
theorem dX5_listen_72 : decode cX5_listen 72 = .ok (.iload 8, 2) := by decide +kernel
theorem dX5_listen_74 : decode cX5_listen 74 = .ok (.ishr, 1) := by decide +kernel
theorem dX5_listen_75 : decode cX5_listen 75 = .ok (.iconst 1, 1) := by decide +kernel
theorem dX5_listen_76 : decode cX5_listen 76 = .ok (.iand, 1) := by decide +kernel
theorem dX5_listen_77 : decode cX5_listen 77 = .ok (.iconst 1, 1) := by decide +kernel
theorem dX5_listen_78 : decode cX5_listen 78 = .ok (.if_icmp .ne 50, 3) := by decide +kernel
theorem dX5_listen_81 : decode cX5_listen 81 = .ok (.iload 9, 2) := by decide +kernel
theorem dX5_listen_83 : decode cX5_listen 83 = .ok (.iload_n 3, 1) := by decide +kernel
theorem dX5_listen_84 : decode cX5_listen 84 = .ok (.iload 10, 2) := by decide +kernel
theorem dX5_listen_86 : decode cX5_listen 86 = .ok (.ishr, 1) := by decide +kernel
theorem dX5_listen_87 : decode cX5_listen 87 = .ok (.iconst 1, 1) := by decide +kernel
theorem dX5_listen_88 : decode cX5_listen 88 = .ok (.iand, 1) := by decide +kernel
theorem dX5_listen_89 : decode cX5_listen 89 = .ok (.iconst 1, 1) := by decide +kernel
theorem dX5_listen_90 : decode cX5_listen 90 = .ok (.if_icmp .ne 28, 3) := by decide +kernel
theorem dX5_listen_93 : decode cX5_listen 93 = .ok (.aload_n 0, 1) := by decide +kernel
theorem dX5_listen_94 : decode cX5_listen 94 = .ok (.iload_n 1, 1) := by decide +kernel
theorem dX5_listen_95 : decode cX5_listen 95 = .ok (.iload 8, 2) := by decide +kernel
theorem dX5_listen_97 : decode cX5_listen 97 = .ok (.iload 6, 2) := by decide +kernel
theorem dX5_listen_99 : decode cX5_listen 99 = .ok (.invokevirtual 180, 3) := by decide +kernel
theorem dX5_listen_102 : decode cX5_listen 102 = .ok (.aload_n 0, 1) := by decide +kernel
theorem dX5_listen_103 : decode cX5_listen 103 = .ok (.iload_n 1, 1) := by decide +kernel
theorem dX5_listen_104 : decode cX5_listen 104 = .ok (.iload 10, 2) := by decide +kernel
theorem dX5_listen_106 : decode cX5_listen 106 = .ok (.iload 6, 2) := by decide +kernel
theorem dX5_listen_108 : decode cX5_listen 108 = .ok (.invokevirtual 180, 3) := by decide +kernel
theorem dX5_listen_111 : decode cX5_listen 111 = .ok (.if_icmp .ne 7, 3) := by decide +kernel
theorem dX5_listen_114 : decode cX5_listen 114 = .ok (.iconst 1, 1) := by decide +kernel
theorem dX5_listen_115 : decode cX5_listen 115 = .ok (.goto 4, 3) := by decide +kernel
theorem dX5_listen_118 : decode cX5_listen 118 = .ok (.iconst 0, 1) := by decide +kernel
theorem dX5_listen_119 : decode cX5_listen 119 = .ok (.iadd, 1) := by decide +kernel
theorem dX5_listen_120 : decode cX5_listen 120 = .ok (.istore 9, 2) := by decide +kernel
theorem dX5_listen_122 : decode cX5_listen 122 = .ok (.iinc 10 1, 3) := by decide +kernel
theorem dX5_listen_125 : decode cX5_listen 125 = .ok (.goto (-60), 3) := by decide +kernel
theorem dX5_listen_128 : decode cX5_listen 128 = .ok (.iload 9, 2) := by decide +kernel
theorem dX5_listen_130 : decode cX5_listen 130 = .ok (.iload 7, 2) := by decide +kernel
theorem dX5_listen_132 : decode cX5_listen 132 = .ok (.if_icmp .le 8, 3) := by decide +kernel
theorem dX5_listen_135 : decode cX5_listen 135 = .ok (.iload 9, 2) := by decide +kernel
theorem dX5_listen_137 : decode cX5_listen 137 = .ok (.goto 5, 3) := by decide +kernel
theorem dX5_listen_140 : decode cX5_listen 140 = .ok (.iload 7, 2) := by decide +kernel
theorem dX5_listen_142 : decode cX5_listen 142 = .ok (.istore 7, 2) := by decide +kernel
theorem dX5_listen_144 : decode cX5_listen 144 = .ok (.iinc 8 1, 3) := by decide +kernel
theorem dX5_listen_147 : decode cX5_listen 147 = .ok (.goto (-94), 3) := by decide +kernel
theorem dX5_listen_150 : decode cX5_listen 150 = .ok (.iload 7, 2) := by decide +kernel
theorem dX5_listen_152 : decode cX5_listen 152 = .ok (.iload 4, 2) := by decide +kernel
theorem dX5_listen_154 : decode cX5_listen 154 = .ok (.if_icmp .ge 8, 3) := by decide +kernel
theorem dX5_listen_157 : decode cX5_listen 157 = .ok (.iload 6, 2) := by decide +kernel
theorem dX5_listen_159 : decode cX5_listen 159 = .ok (.goto 5, 3) := by decide +kernel
theorem dX5_listen_162 : decode cX5_listen 162 = .ok (.iload 5, 2) := by decide +kernel
theorem dX5_listen_164 : decode cX5_listen 164 = .ok (.istore 5, 2) := by decide +kernel
theorem dX5_listen_166 : decode cX5_listen 166 = .ok (.iload 7, 2) := by decide +kernel
theorem dX5_listen_168 : decode cX5_listen 168 = .ok (.iload 4, 2) := by decide +kernel
theorem dX5_listen_170 : decode cX5_listen 170 = .ok (.if_icmp .ge 8, 3) := by decide +kernel
theorem dX5_listen_173 : decode cX5_listen 173 = .ok (.iload 7, 2) := by decide +kernel
theorem dX5_listen_175 : decode cX5_listen 175 = .ok (.goto 5, 3) := by decide +kernel
theorem dX5_listen_178 : decode cX5_listen 178 = .ok (.iload 4, 2) := by decide +kernel
theorem dX5_listen_180 : decode cX5_listen 180 = .ok (.istore 4, 2) := by decide +kernel
theorem dX5_listen_182 : decode cX5_listen 182 = .ok (.iinc 6 1, 3) := by decide +kernel
theorem dX5_listen_185 : decode cX5_listen 185 = .ok (.goto (-146), 3) := by decide +kernel
theorem dX5_listen_188 : decode cX5_listen 188 = .ok (.iload 5, 2) := by decide +kernel
theorem dX5_listen_190 : decode cX5_listen 190 = .ok (.bipush (-4), 2) := by decide +kernel
theorem dX5_listen_192 : decode cX5_listen 192 = .ok (.if_icmp .eq 7, 3) := by decide +kernel
theorem dX5_listen_195 : decode cX5_listen 195 = .ok (.iload_n 2, 1) := by decide +kernel
theorem dX5_listen_196 : decode cX5_listen 196 = .ok (.ifCond .ne 8, 3) := by decide +kernel
theorem dX5_listen_199 : decode cX5_listen 199 = .ok (.iload 5, 2) := by decide +kernel
theorem dX5_listen_201 : decode cX5_listen 201 = .ok (.goto 5, 3) := by decide +kernel
theorem dX5_listen_204 : decode cX5_listen 204 = .ok (.iload 4, 2) := by decide +kernel
theorem dX5_listen_206 : decode cX5_listen 206 = .ok (.ireturn, 1) := by decide +kernel
theorem dX5_draws_0 : decode cX5_draws 0 = .ok (.aload_n 0, 1) := by decide +kernel
theorem dX5_draws_1 : decode cX5_draws 1 = .ok (.aload_n 0, 1) := by decide +kernel
theorem dX5_draws_2 : decode cX5_draws 2 = .ok (.getfield 265, 3) := by decide +kernel
theorem dX5_draws_5 : decode cX5_draws 5 = .ok (.ldc_w 268, 3) := by decide +kernel
theorem dX5_draws_8 : decode cX5_draws 8 = .ok (.imul, 1) := by decide +kernel
theorem dX5_draws_9 : decode cX5_draws 9 = .ok (.sipush 12345, 3) := by decide +kernel
theorem dX5_draws_12 : decode cX5_draws 12 = .ok (.iadd, 1) := by decide +kernel
theorem dX5_draws_13 : decode cX5_draws 13 = .ok (.putfield 265, 3) := by decide +kernel
theorem dX5_draws_16 : decode cX5_draws 16 = .ok (.aload_n 0, 1) := by decide +kernel
theorem dX5_draws_17 : decode cX5_draws 17 = .ok (.getfield 265, 3) := by decide +kernel
theorem dX5_draws_20 : decode cX5_draws 20 = .ok (.bipush 16, 2) := by decide +kernel
theorem dX5_draws_22 : decode cX5_draws 22 = .ok (.ishr, 1) := by decide +kernel
theorem dX5_draws_23 : decode cX5_draws 23 = .ok (.sipush 32767, 3) := by decide +kernel
theorem dX5_draws_26 : decode cX5_draws 26 = .ok (.iand, 1) := by decide +kernel
theorem dX5_draws_27 : decode cX5_draws 27 = .ok (.ireturn, 1) := by decide +kernel
theorem dX5_drift_0 : decode cX5_drift 0 = .ok (.iload_n 2, 1) := by decide +kernel
theorem dX5_drift_1 : decode cX5_drift 1 = .ok (.i2l, 1) := by decide +kernel
theorem dX5_drift_2 : decode cX5_drift 2 = .ok (.lconst 1, 1) := by decide +kernel
theorem dX5_drift_3 : decode cX5_drift 3 = .ok (.ldc2_w 269, 3) := by decide +kernel
theorem dX5_drift_6 : decode cX5_drift 6 = .ok (.invokestatic 61, 3) := by decide +kernel
theorem dX5_drift_9 : decode cX5_drift 9 = .ok (.ifCond .eq 13, 3) := by decide +kernel
theorem dX5_drift_12 : decode cX5_drift 12 = .ok (.iload_n 3, 1) := by decide +kernel
theorem dX5_drift_13 : decode cX5_drift 13 = .ok (.i2l, 1) := by decide +kernel
theorem dX5_drift_14 : decode cX5_drift 14 = .ok (.lconst 0, 1) := by decide +kernel
theorem dX5_drift_15 : decode cX5_drift 15 = .ok (.lconst 1, 1) := by decide +kernel
theorem dX5_drift_16 : decode cX5_drift 16 = .ok (.invokestatic 61, 3) := by decide +kernel
theorem dX5_drift_19 : decode cX5_drift 19 = .ok (.ifCond .ne 5, 3) := by decide +kernel
theorem dX5_drift_22 : decode cX5_drift 22 = .ok (.iconst (-1), 1) := by decide +kernel
theorem dX5_drift_23 : decode cX5_drift 23 = .ok (.ireturn, 1) := by decide +kernel
theorem dX5_drift_24 : decode cX5_drift 24 = .ok (.aload_n 0, 1) := by decide +kernel
theorem dX5_drift_25 : decode cX5_drift 25 = .ok (.getfield 143, 3) := by decide +kernel
theorem dX5_drift_28 : decode cX5_drift 28 = .ok (.ifCond .ne 6, 3) := by decide +kernel
theorem dX5_drift_31 : decode cX5_drift 31 = .ok (.bipush (-2), 2) := by decide +kernel
theorem dX5_drift_33 : decode cX5_drift 33 = .ok (.ireturn, 1) := by decide +kernel
theorem dX5_drift_34 : decode cX5_drift 34 = .ok (.iconst 0, 1) := by decide +kernel
theorem dX5_drift_35 : decode cX5_drift 35 = .ok (.istore 4, 2) := by decide +kernel
theorem dX5_drift_37 : decode cX5_drift 37 = .ok (.iconst 0, 1) := by decide +kernel
theorem dX5_drift_38 : decode cX5_drift 38 = .ok (.istore 5, 2) := by decide +kernel
theorem dX5_drift_40 : decode cX5_drift 40 = .ok (.aload_n 0, 1) := by decide +kernel
theorem dX5_drift_41 : decode cX5_drift 41 = .ok (.iconst 0, 1) := by decide +kernel
theorem dX5_drift_42 : decode cX5_drift 42 = .ok (.sipush 280, 3) := by decide +kernel
theorem dX5_drift_45 : decode cX5_drift 45 = .ok (.invokevirtual 236, 3) := by decide +kernel
theorem dX5_drift_48 : decode cX5_drift 48 = .ok (.aload_n 0, 1) := by decide +kernel
theorem dX5_drift_49 : decode cX5_drift 49 = .ok (.iload_n 1, 1) := by decide +kernel
theorem dX5_drift_50 : decode cX5_drift 50 = .ok (.putfield 265, 3) := by decide +kernel
theorem dX5_drift_53 : decode cX5_drift 53 = .ok (.iconst 0, 1) := by decide +kernel
theorem dX5_drift_54 : decode cX5_drift 54 = .ok (.istore 6, 2) := by decide +kernel
theorem dX5_drift_56 : decode cX5_drift 56 = .ok (.iload 6, 2) := by decide +kernel
theorem dX5_drift_58 : decode cX5_drift 58 = .ok (.iload_n 2, 1) := by decide +kernel
theorem dX5_drift_59 : decode cX5_drift 59 = .ok (.if_icmp .ge 91, 3) := by decide +kernel
theorem dX5_drift_62 : decode cX5_drift 62 = .ok (.aload_n 0, 1) := by decide +kernel
theorem dX5_drift_63 : decode cX5_drift 63 = .ok (.invokevirtual 271, 3) := by decide +kernel
theorem dX5_drift_66 : decode cX5_drift 66 = .ok (.aload_n 0, 1) := by decide +kernel
theorem dX5_drift_67 : decode cX5_drift 67 = .ok (.getfield 143, 3) := by decide +kernel
theorem dX5_drift_70 : decode cX5_drift 70 = .ok (.irem, 1) := by decide +kernel
theorem dX5_drift_71 : decode cX5_drift 71 = .ok (.istore 7, 2) := by decide +kernel
theorem dX5_drift_73 : decode cX5_drift 73 = .ok (.aload_n 0, 1) := by decide +kernel
theorem dX5_drift_74 : decode cX5_drift 74 = .ok (.invokevirtual 271, 3) := by decide +kernel
theorem dX5_drift_77 : decode cX5_drift 77 = .ok (.istore 8, 2) := by decide +kernel
theorem dX5_drift_79 : decode cX5_drift 79 = .ok (.aload_n 0, 1) := by decide +kernel
theorem dX5_drift_80 : decode cX5_drift 80 = .ok (.getfield 7, 3) := by decide +kernel
theorem dX5_drift_83 : decode cX5_drift 83 = .ok (.bipush 16, 2) := by decide +kernel
theorem dX5_drift_85 : decode cX5_drift 85 = .ok (.bipush 8, 2) := by decide +kernel
theorem dX5_drift_87 : decode cX5_drift 87 = .ok (.iload 7, 2) := by decide +kernel
theorem dX5_drift_89 : decode cX5_drift 89 = .ok (.imul, 1) := by decide +kernel
theorem dX5_drift_90 : decode cX5_drift 90 = .ok (.iadd, 1) := by decide +kernel
theorem dX5_drift_91 : decode cX5_drift 91 = .ok (.iload 8, 2) := by decide +kernel
theorem dX5_drift_93 : decode cX5_drift 93 = .ok (.aload_n 0, 1) := by decide +kernel
theorem dX5_drift_94 : decode cX5_drift 94 = .ok (.getfield 7, 3) := by decide +kernel
theorem dX5_drift_97 : decode cX5_drift 97 = .ok (.iconst 4, 1) := by decide +kernel
theorem dX5_drift_98 : decode cX5_drift 98 = .ok (.iload 7, 2) := by decide +kernel
theorem dX5_drift_100 : decode cX5_drift 100 = .ok (.iadd, 1) := by decide +kernel
theorem dX5_drift_101 : decode cX5_drift 101 = .ok (.iaload, 1) := by decide +kernel
theorem dX5_drift_102 : decode cX5_drift 102 = .ok (.irem, 1) := by decide +kernel
theorem dX5_drift_103 : decode cX5_drift 103 = .ok (.iadd, 1) := by decide +kernel
theorem dX5_drift_104 : decode cX5_drift 104 = .ok (.iload 8, 2) := by decide +kernel
theorem dX5_drift_106 : decode cX5_drift 106 = .ok (.bipush 10, 2) := by decide +kernel
theorem dX5_drift_108 : decode cX5_drift 108 = .ok (.idiv, 1) := by decide +kernel
theorem dX5_drift_109 : decode cX5_drift 109 = .ok (.bipush 10, 2) := by decide +kernel
theorem dX5_drift_111 : decode cX5_drift 111 = .ok (.irem, 1) := by decide +kernel
theorem dX5_drift_112 : decode cX5_drift 112 = .ok (.iastore, 1) := by decide +kernel
theorem dX5_drift_113 : decode cX5_drift 113 = .ok (.aload_n 0, 1) := by decide +kernel
theorem dX5_drift_114 : decode cX5_drift 114 = .ok (.invokevirtual 247, 3) := by decide +kernel
theorem dX5_drift_117 : decode cX5_drift 117 = .ok (.istore 9, 2) := by decide +kernel
theorem dX5_drift_119 : decode cX5_drift 119 = .ok (.iload 9, 2) := by decide +kernel
theorem dX5_drift_121 : decode cX5_drift 121 = .ok (.iload 4, 2) := by decide +kernel
theorem dX5_drift_123 : decode cX5_drift 123 = .ok (.if_icmp .le 8, 3) := by decide +kernel
theorem dX5_drift_126 : decode cX5_drift 126 = .ok (.iload 9, 2) := by decide +kernel
theorem dX5_drift_128 : decode cX5_drift 128 = .ok (.goto 5, 3) := by decide +kernel
theorem dX5_drift_131 : decode cX5_drift 131 = .ok (.iload 4, 2) := by decide +kernel
theorem dX5_drift_133 : decode cX5_drift 133 = .ok (.istore 4, 2) := by decide +kernel
theorem dX5_drift_135 : decode cX5_drift 135 = .ok (.iload 5, 2) := by decide +kernel
theorem dX5_drift_137 : decode cX5_drift 137 = .ok (.aload_n 0, 1) := by decide +kernel
theorem dX5_drift_138 : decode cX5_drift 138 = .ok (.invokevirtual 230, 3) := by decide +kernel
theorem dX5_drift_141 : decode cX5_drift 141 = .ok (.iadd, 1) := by decide +kernel
theorem dX5_drift_142 : decode cX5_drift 142 = .ok (.istore 5, 2) := by decide +kernel
theorem dX5_drift_144 : decode cX5_drift 144 = .ok (.iinc 6 1, 3) := by decide +kernel
theorem dX5_drift_147 : decode cX5_drift 147 = .ok (.goto (-91), 3) := by decide +kernel
theorem dX5_drift_150 : decode cX5_drift 150 = .ok (.aload_n 0, 1) := by decide +kernel
theorem dX5_drift_151 : decode cX5_drift 151 = .ok (.sipush 280, 3) := by decide +kernel
theorem dX5_drift_154 : decode cX5_drift 154 = .ok (.iconst 0, 1) := by decide +kernel
theorem dX5_drift_155 : decode cX5_drift 155 = .ok (.invokevirtual 236, 3) := by decide +kernel
theorem dX5_drift_158 : decode cX5_drift 158 = .ok (.iload_n 3, 1) := by decide +kernel
theorem dX5_drift_159 : decode cX5_drift 159 = .ok (.ifCond .ne 8, 3) := by decide +kernel
theorem dX5_drift_162 : decode cX5_drift 162 = .ok (.iload 4, 2) := by decide +kernel
theorem dX5_drift_164 : decode cX5_drift 164 = .ok (.goto 5, 3) := by decide +kernel
theorem dX5_drift_167 : decode cX5_drift 167 = .ok (.iload 5, 2) := by decide +kernel
theorem dX5_drift_169 : decode cX5_drift 169 = .ok (.ireturn, 1) := by decide +kernel
theorem dX5_noteMany_0 : decode cX5_noteMany 0 = .ok (.iconst 0, 1) := by decide +kernel
theorem dX5_noteMany_1 : decode cX5_noteMany 1 = .ok (.istore_n 1, 1) := by decide +kernel
theorem dX5_noteMany_2 : decode cX5_noteMany 2 = .ok (.iconst 0, 1) := by decide +kernel
theorem dX5_noteMany_3 : decode cX5_noteMany 3 = .ok (.istore_n 2, 1) := by decide +kernel
theorem dX5_noteMany_4 : decode cX5_noteMany 4 = .ok (.iload_n 2, 1) := by decide +kernel
theorem dX5_noteMany_5 : decode cX5_noteMany 5 = .ok (.aload_n 0, 1) := by decide +kernel
theorem dX5_noteMany_6 : decode cX5_noteMany 6 = .ok (.getfield 143, 3) := by decide +kernel
theorem dX5_noteMany_9 : decode cX5_noteMany 9 = .ok (.if_icmp .ge 20, 3) := by decide +kernel
theorem dX5_noteMany_12 : decode cX5_noteMany 12 = .ok (.iload_n 1, 1) := by decide +kernel
theorem dX5_noteMany_13 : decode cX5_noteMany 13 = .ok (.aload_n 0, 1) := by decide +kernel
theorem dX5_noteMany_14 : decode cX5_noteMany 14 = .ok (.getfield 7, 3) := by decide +kernel
theorem dX5_noteMany_17 : decode cX5_noteMany 17 = .ok (.iconst 4, 1) := by decide +kernel
theorem dX5_noteMany_18 : decode cX5_noteMany 18 = .ok (.iload_n 2, 1) := by decide +kernel
theorem dX5_noteMany_19 : decode cX5_noteMany 19 = .ok (.iadd, 1) := by decide +kernel
theorem dX5_noteMany_20 : decode cX5_noteMany 20 = .ok (.iaload, 1) := by decide +kernel
theorem dX5_noteMany_21 : decode cX5_noteMany 21 = .ok (.iadd, 1) := by decide +kernel
theorem dX5_noteMany_22 : decode cX5_noteMany 22 = .ok (.istore_n 1, 1) := by decide +kernel
theorem dX5_noteMany_23 : decode cX5_noteMany 23 = .ok (.iinc 2 1, 3) := by decide +kernel
theorem dX5_noteMany_26 : decode cX5_noteMany 26 = .ok (.goto (-22), 3) := by decide +kernel
theorem dX5_noteMany_29 : decode cX5_noteMany 29 = .ok (.iload_n 1, 1) := by decide +kernel
theorem dX5_noteMany_30 : decode cX5_noteMany 30 = .ok (.ireturn, 1) := by decide +kernel
theorem dX5_keep_0 : decode cX5_keep 0 = .ok (.iload_n 1, 1) := by decide +kernel
theorem dX5_keep_1 : decode cX5_keep 1 = .ok (.i2l, 1) := by decide +kernel
theorem dX5_keep_2 : decode cX5_keep 2 = .ok (.lconst 0, 1) := by decide +kernel
theorem dX5_keep_3 : decode cX5_keep 3 = .ok (.lconst 1, 1) := by decide +kernel
theorem dX5_keep_4 : decode cX5_keep 4 = .ok (.invokestatic 61, 3) := by decide +kernel
theorem dX5_keep_7 : decode cX5_keep 7 = .ok (.ifCond .ne 5, 3) := by decide +kernel
theorem dX5_keep_10 : decode cX5_keep 10 = .ok (.iconst (-1), 1) := by decide +kernel
theorem dX5_keep_11 : decode cX5_keep 11 = .ok (.ireturn, 1) := by decide +kernel
theorem dX5_keep_12 : decode cX5_keep 12 = .ok (.aload_n 0, 1) := by decide +kernel
theorem dX5_keep_13 : decode cX5_keep 13 = .ok (.iconst 0, 1) := by decide +kernel
theorem dX5_keep_14 : decode cX5_keep 14 = .ok (.bipush 70, 2) := by decide +kernel
theorem dX5_keep_16 : decode cX5_keep 16 = .ok (.iload_n 1, 1) := by decide +kernel
theorem dX5_keep_17 : decode cX5_keep 17 = .ok (.iconst 1, 1) := by decide +kernel
theorem dX5_keep_18 : decode cX5_keep 18 = .ok (.iadd, 1) := by decide +kernel
theorem dX5_keep_19 : decode cX5_keep 19 = .ok (.imul, 1) := by decide +kernel
theorem dX5_keep_20 : decode cX5_keep 20 = .ok (.invokevirtual 236, 3) := by decide +kernel
theorem dX5_keep_23 : decode cX5_keep 23 = .ok (.aload_n 0, 1) := by decide +kernel
theorem dX5_keep_24 : decode cX5_keep 24 = .ok (.getfield 46, 3) := by decide +kernel
theorem dX5_keep_27 : decode cX5_keep 27 = .ok (.iload_n 1, 1) := by decide +kernel
theorem dX5_keep_28 : decode cX5_keep 28 = .ok (.baload, 1) := by decide +kernel
theorem dX5_keep_29 : decode cX5_keep 29 = .ok (.ifCond .eq 7, 3) := by decide +kernel
theorem dX5_keep_32 : decode cX5_keep 32 = .ok (.iconst 1, 1) := by decide +kernel
theorem dX5_keep_33 : decode cX5_keep 33 = .ok (.goto 4, 3) := by decide +kernel
theorem dX5_keep_36 : decode cX5_keep 36 = .ok (.iconst 0, 1) := by decide +kernel
theorem dX5_keep_37 : decode cX5_keep 37 = .ok (.istore_n 2, 1) := by decide +kernel
theorem dX5_keep_38 : decode cX5_keep 38 = .ok (.aload_n 0, 1) := by decide +kernel
theorem dX5_keep_39 : decode cX5_keep 39 = .ok (.getfield 46, 3) := by decide +kernel
theorem dX5_keep_42 : decode cX5_keep 42 = .ok (.iload_n 1, 1) := by decide +kernel
theorem dX5_keep_43 : decode cX5_keep 43 = .ok (.iconst 1, 1) := by decide +kernel
theorem dX5_keep_44 : decode cX5_keep 44 = .ok (.bastore, 1) := by decide +kernel
theorem dX5_keep_45 : decode cX5_keep 45 = .ok (.iload_n 2, 1) := by decide +kernel
theorem dX5_keep_46 : decode cX5_keep 46 = .ok (.ireturn, 1) := by decide +kernel
theorem dX5_back_0 : decode cX5_back 0 = .ok (.iload_n 1, 1) := by decide +kernel
theorem dX5_back_1 : decode cX5_back 1 = .ok (.i2l, 1) := by decide +kernel
theorem dX5_back_2 : decode cX5_back 2 = .ok (.lconst 0, 1) := by decide +kernel
theorem dX5_back_3 : decode cX5_back 3 = .ok (.lconst 1, 1) := by decide +kernel
theorem dX5_back_4 : decode cX5_back 4 = .ok (.invokestatic 61, 3) := by decide +kernel
theorem dX5_back_7 : decode cX5_back 7 = .ok (.ifCond .ne 5, 3) := by decide +kernel
theorem dX5_back_10 : decode cX5_back 10 = .ok (.iconst (-1), 1) := by decide +kernel
theorem dX5_back_11 : decode cX5_back 11 = .ok (.ireturn, 1) := by decide +kernel
theorem dX5_back_12 : decode cX5_back 12 = .ok (.aload_n 0, 1) := by decide +kernel
theorem dX5_back_13 : decode cX5_back 13 = .ok (.getfield 46, 3) := by decide +kernel
theorem dX5_back_16 : decode cX5_back 16 = .ok (.iload_n 1, 1) := by decide +kernel
theorem dX5_back_17 : decode cX5_back 17 = .ok (.baload, 1) := by decide +kernel
theorem dX5_back_18 : decode cX5_back 18 = .ok (.ifCond .ne 6, 3) := by decide +kernel
theorem dX5_back_21 : decode cX5_back 21 = .ok (.bipush (-2), 2) := by decide +kernel
theorem dX5_back_23 : decode cX5_back 23 = .ok (.ireturn, 1) := by decide +kernel
theorem dX5_back_24 : decode cX5_back 24 = .ok (.aload_n 0, 1) := by decide +kernel
theorem dX5_back_25 : decode cX5_back 25 = .ok (.bipush 70, 2) := by decide +kernel
theorem dX5_back_27 : decode cX5_back 27 = .ok (.iload_n 1, 1) := by decide +kernel
theorem dX5_back_28 : decode cX5_back 28 = .ok (.iconst 1, 1) := by decide +kernel
theorem dX5_back_29 : decode cX5_back 29 = .ok (.iadd, 1) := by decide +kernel
theorem dX5_back_30 : decode cX5_back 30 = .ok (.imul, 1) := by decide +kernel
theorem dX5_back_31 : decode cX5_back 31 = .ok (.iconst 0, 1) := by decide +kernel
theorem dX5_back_32 : decode cX5_back 32 = .ok (.invokevirtual 236, 3) := by decide +kernel
theorem dX5_back_35 : decode cX5_back 35 = .ok (.aload_n 0, 1) := by decide +kernel
theorem dX5_back_36 : decode cX5_back 36 = .ok (.invokevirtual 274, 3) := by decide +kernel
theorem dX5_back_39 : decode cX5_back 39 = .ok (.ireturn, 1) := by decide +kernel
theorem dX5_sheet_0 : decode cX5_sheet 0 = .ok (.iload_n 1, 1) := by decide +kernel
theorem dX5_sheet_1 : decode cX5_sheet 1 = .ok (.i2l, 1) := by decide +kernel
theorem dX5_sheet_2 : decode cX5_sheet 2 = .ok (.lconst 0, 1) := by decide +kernel
theorem dX5_sheet_3 : decode cX5_sheet 3 = .ok (.ldc2_w 187, 3) := by decide +kernel
theorem dX5_sheet_6 : decode cX5_sheet 6 = .ok (.invokestatic 61, 3) := by decide +kernel
theorem dX5_sheet_9 : decode cX5_sheet 9 = .ok (.ifCond .eq 21, 3) := by decide +kernel
theorem dX5_sheet_12 : decode cX5_sheet 12 = .ok (.iload_n 2, 1) := by decide +kernel
theorem dX5_sheet_13 : decode cX5_sheet 13 = .ok (.i2l, 1) := by decide +kernel
theorem dX5_sheet_14 : decode cX5_sheet 14 = .ok (.lconst 0, 1) := by decide +kernel
theorem dX5_sheet_15 : decode cX5_sheet 15 = .ok (.ldc2_w 228, 3) := by decide +kernel
theorem dX5_sheet_18 : decode cX5_sheet 18 = .ok (.invokestatic 61, 3) := by decide +kernel
theorem dX5_sheet_21 : decode cX5_sheet 21 = .ok (.ifCond .eq 9, 3) := by decide +kernel
theorem dX5_sheet_24 : decode cX5_sheet 24 = .ok (.iload_n 3, 1) := by decide +kernel
theorem dX5_sheet_25 : decode cX5_sheet 25 = .ok (.bipush 40, 2) := by decide +kernel
theorem dX5_sheet_27 : decode cX5_sheet 27 = .ok (.if_icmp .le 5, 3) := by decide +kernel
theorem dX5_sheet_30 : decode cX5_sheet 30 = .ok (.iconst (-1), 1) := by decide +kernel
theorem dX5_sheet_31 : decode cX5_sheet 31 = .ok (.ireturn, 1) := by decide +kernel
theorem dX5_sheet_32 : decode cX5_sheet 32 = .ok (.iload_n 3, 1) := by decide +kernel
theorem dX5_sheet_33 : decode cX5_sheet 33 = .ok (.ifCond .ge 6, 3) := by decide +kernel
theorem dX5_sheet_36 : decode cX5_sheet 36 = .ok (.bipush (-14), 2) := by decide +kernel
theorem dX5_sheet_38 : decode cX5_sheet 38 = .ok (.ireturn, 1) := by decide +kernel
theorem dX5_sheet_39 : decode cX5_sheet 39 = .ok (.aload_n 0, 1) := by decide +kernel
theorem dX5_sheet_40 : decode cX5_sheet 40 = .ok (.getfield 50, 3) := by decide +kernel
theorem dX5_sheet_43 : decode cX5_sheet 43 = .ok (.iload_n 1, 1) := by decide +kernel
theorem dX5_sheet_44 : decode cX5_sheet 44 = .ok (.iload_n 2, 1) := by decide +kernel
theorem dX5_sheet_45 : decode cX5_sheet 45 = .ok (.iastore, 1) := by decide +kernel
theorem dX5_sheet_46 : decode cX5_sheet 46 = .ok (.aload_n 0, 1) := by decide +kernel
theorem dX5_sheet_47 : decode cX5_sheet 47 = .ok (.getfield 53, 3) := by decide +kernel
theorem dX5_sheet_50 : decode cX5_sheet 50 = .ok (.iload_n 1, 1) := by decide +kernel
theorem dX5_sheet_51 : decode cX5_sheet 51 = .ok (.iload_n 3, 1) := by decide +kernel
theorem dX5_sheet_52 : decode cX5_sheet 52 = .ok (.iastore, 1) := by decide +kernel
theorem dX5_sheet_53 : decode cX5_sheet 53 = .ok (.iconst 0, 1) := by decide +kernel
theorem dX5_sheet_54 : decode cX5_sheet 54 = .ok (.istore 4, 2) := by decide +kernel
theorem dX5_sheet_56 : decode cX5_sheet 56 = .ok (.iload 4, 2) := by decide +kernel
theorem dX5_sheet_58 : decode cX5_sheet 58 = .ok (.bipush 40, 2) := by decide +kernel
theorem dX5_sheet_60 : decode cX5_sheet 60 = .ok (.if_icmp .ge 22, 3) := by decide +kernel
theorem dX5_sheet_63 : decode cX5_sheet 63 = .ok (.aload_n 0, 1) := by decide +kernel
theorem dX5_sheet_64 : decode cX5_sheet 64 = .ok (.getfield 56, 3) := by decide +kernel
theorem dX5_sheet_67 : decode cX5_sheet 67 = .ok (.bipush 40, 2) := by decide +kernel
theorem dX5_sheet_69 : decode cX5_sheet 69 = .ok (.iload_n 1, 1) := by decide +kernel
theorem dX5_sheet_70 : decode cX5_sheet 70 = .ok (.imul, 1) := by decide +kernel
theorem dX5_sheet_71 : decode cX5_sheet 71 = .ok (.iload 4, 2) := by decide +kernel
theorem dX5_sheet_73 : decode cX5_sheet 73 = .ok (.iadd, 1) := by decide +kernel
theorem dX5_sheet_74 : decode cX5_sheet 74 = .ok (.iconst 0, 1) := by decide +kernel
theorem dX5_sheet_75 : decode cX5_sheet 75 = .ok (.iastore, 1) := by decide +kernel
theorem dX5_sheet_76 : decode cX5_sheet 76 = .ok (.iinc 4 1, 3) := by decide +kernel
theorem dX5_sheet_79 : decode cX5_sheet 79 = .ok (.goto (-23), 3) := by decide +kernel
theorem dX5_sheet_82 : decode cX5_sheet 82 = .ok (.iconst 1, 1) := by decide +kernel
theorem dX5_sheet_83 : decode cX5_sheet 83 = .ok (.ireturn, 1) := by decide +kernel
theorem dX5_lay_0 : decode cX5_lay 0 = .ok (.iload_n 1, 1) := by decide +kernel
theorem dX5_lay_1 : decode cX5_lay 1 = .ok (.i2l, 1) := by decide +kernel
theorem dX5_lay_2 : decode cX5_lay 2 = .ok (.lconst 0, 1) := by decide +kernel
theorem dX5_lay_3 : decode cX5_lay 3 = .ok (.ldc2_w 187, 3) := by decide +kernel
theorem dX5_lay_6 : decode cX5_lay 6 = .ok (.invokestatic 61, 3) := by decide +kernel
theorem dX5_lay_9 : decode cX5_lay 9 = .ok (.ifCond .ne 5, 3) := by decide +kernel
theorem dX5_lay_12 : decode cX5_lay 12 = .ok (.iconst (-1), 1) := by decide +kernel
theorem dX5_lay_13 : decode cX5_lay 13 = .ok (.ireturn, 1) := by decide +kernel
theorem dX5_lay_14 : decode cX5_lay 14 = .ok (.aload_n 0, 1) := by decide +kernel
theorem dX5_lay_15 : decode cX5_lay 15 = .ok (.getfield 50, 3) := by decide +kernel
theorem dX5_lay_18 : decode cX5_lay 18 = .ok (.iload_n 1, 1) := by decide +kernel
theorem dX5_lay_19 : decode cX5_lay 19 = .ok (.iaload, 1) := by decide +kernel
theorem dX5_lay_20 : decode cX5_lay 20 = .ok (.bipush (-4), 2) := by decide +kernel
theorem dX5_lay_22 : decode cX5_lay 22 = .ok (.if_icmp .ne 6, 3) := by decide +kernel
theorem dX5_lay_25 : decode cX5_lay 25 = .ok (.bipush (-11), 2) := by decide +kernel
theorem dX5_lay_27 : decode cX5_lay 27 = .ok (.ireturn, 1) := by decide +kernel
theorem dX5_lay_28 : decode cX5_lay 28 = .ok (.iload_n 2, 1) := by decide +kernel
theorem dX5_lay_29 : decode cX5_lay 29 = .ok (.i2l, 1) := by decide +kernel
theorem dX5_lay_30 : decode cX5_lay 30 = .ok (.lconst 0, 1) := by decide +kernel
theorem dX5_lay_31 : decode cX5_lay 31 = .ok (.aload_n 0, 1) := by decide +kernel
theorem dX5_lay_32 : decode cX5_lay 32 = .ok (.getfield 53, 3) := by decide +kernel
theorem dX5_lay_35 : decode cX5_lay 35 = .ok (.iload_n 1, 1) := by decide +kernel
theorem dX5_lay_36 : decode cX5_lay 36 = .ok (.iaload, 1) := by decide +kernel
theorem dX5_lay_37 : decode cX5_lay 37 = .ok (.iconst 1, 1) := by decide +kernel
theorem dX5_lay_38 : decode cX5_lay 38 = .ok (.isub, 1) := by decide +kernel
theorem dX5_lay_39 : decode cX5_lay 39 = .ok (.i2l, 1) := by decide +kernel
theorem dX5_lay_40 : decode cX5_lay 40 = .ok (.invokestatic 61, 3) := by decide +kernel
theorem dX5_lay_43 : decode cX5_lay 43 = .ok (.ifCond .ne 6, 3) := by decide +kernel
theorem dX5_lay_46 : decode cX5_lay 46 = .ok (.bipush (-12), 2) := by decide +kernel
theorem dX5_lay_48 : decode cX5_lay 48 = .ok (.ireturn, 1) := by decide +kernel
theorem dX5_lay_49 : decode cX5_lay 49 = .ok (.aload_n 0, 1) := by decide +kernel
theorem dX5_lay_50 : decode cX5_lay 50 = .ok (.getfield 56, 3) := by decide +kernel
theorem dX5_lay_53 : decode cX5_lay 53 = .ok (.bipush 40, 2) := by decide +kernel
theorem dX5_lay_55 : decode cX5_lay 55 = .ok (.iload_n 1, 1) := by decide +kernel
theorem dX5_lay_56 : decode cX5_lay 56 = .ok (.imul, 1) := by decide +kernel
theorem dX5_lay_57 : decode cX5_lay 57 = .ok (.iload_n 2, 1) := by decide +kernel
theorem dX5_lay_58 : decode cX5_lay 58 = .ok (.iadd, 1) := by decide +kernel
theorem dX5_lay_59 : decode cX5_lay 59 = .ok (.aload_n 0, 1) := by decide +kernel
theorem dX5_lay_60 : decode cX5_lay 60 = .ok (.getfield 50, 3) := by decide +kernel
theorem dX5_lay_63 : decode cX5_lay 63 = .ok (.iload_n 1, 1) := by decide +kernel
theorem dX5_lay_64 : decode cX5_lay 64 = .ok (.iaload, 1) := by decide +kernel
theorem dX5_lay_65 : decode cX5_lay 65 = .ok (.ifCond .ne 13, 3) := by decide +kernel
theorem dX5_lay_68 : decode cX5_lay 68 = .ok (.iload_n 3, 1) := by decide +kernel
theorem dX5_lay_69 : decode cX5_lay 69 = .ok (.bipush 24, 2) := by decide +kernel
theorem dX5_lay_71 : decode cX5_lay 71 = .ok (.ishl, 1) := by decide +kernel
theorem dX5_lay_72 : decode cX5_lay 72 = .ok (.bipush 24, 2) := by decide +kernel
theorem dX5_lay_74 : decode cX5_lay 74 = .ok (.ishr, 1) := by decide +kernel
theorem dX5_lay_75 : decode cX5_lay 75 = .ok (.goto 24, 3) := by decide +kernel
theorem dX5_lay_78 : decode cX5_lay 78 = .ok (.aload_n 0, 1) := by decide +kernel
theorem dX5_lay_79 : decode cX5_lay 79 = .ok (.getfield 50, 3) := by decide +kernel
theorem dX5_lay_82 : decode cX5_lay 82 = .ok (.iload_n 1, 1) := by decide +kernel
theorem dX5_lay_83 : decode cX5_lay 83 = .ok (.iaload, 1) := by decide +kernel
theorem dX5_lay_84 : decode cX5_lay 84 = .ok (.iconst 1, 1) := by decide +kernel
theorem dX5_lay_85 : decode cX5_lay 85 = .ok (.if_icmp .ne 13, 3) := by decide +kernel
theorem dX5_lay_88 : decode cX5_lay 88 = .ok (.iload_n 3, 1) := by decide +kernel
theorem dX5_lay_89 : decode cX5_lay 89 = .ok (.bipush 16, 2) := by decide +kernel
theorem dX5_lay_91 : decode cX5_lay 91 = .ok (.ishl, 1) := by decide +kernel
theorem dX5_lay_92 : decode cX5_lay 92 = .ok (.bipush 16, 2) := by decide +kernel
theorem dX5_lay_94 : decode cX5_lay 94 = .ok (.ishr, 1) := by decide +kernel
theorem dX5_lay_95 : decode cX5_lay 95 = .ok (.goto 4, 3) := by decide +kernel
theorem dX5_lay_98 : decode cX5_lay 98 = .ok (.iload_n 3, 1) := by decide +kernel
theorem dX5_lay_99 : decode cX5_lay 99 = .ok (.iastore, 1) := by decide +kernel
theorem dX5_lay_100 : decode cX5_lay 100 = .ok (.iconst 1, 1) := by decide +kernel
theorem dX5_lay_101 : decode cX5_lay 101 = .ok (.ireturn, 1) := by decide +kernel
theorem dX5_read_0 : decode cX5_read 0 = .ok (.iload_n 1, 1) := by decide +kernel
theorem dX5_read_1 : decode cX5_read 1 = .ok (.i2l, 1) := by decide +kernel
theorem dX5_read_2 : decode cX5_read 2 = .ok (.lconst 0, 1) := by decide +kernel
theorem dX5_read_3 : decode cX5_read 3 = .ok (.ldc2_w 187, 3) := by decide +kernel
theorem dX5_read_6 : decode cX5_read 6 = .ok (.invokestatic 61, 3) := by decide +kernel
theorem dX5_read_9 : decode cX5_read 9 = .ok (.ifCond .eq 28, 3) := by decide +kernel
theorem dX5_read_12 : decode cX5_read 12 = .ok (.iload_n 2, 1) := by decide +kernel
theorem dX5_read_13 : decode cX5_read 13 = .ok (.i2l, 1) := by decide +kernel
theorem dX5_read_14 : decode cX5_read 14 = .ok (.lconst 0, 1) := by decide +kernel
theorem dX5_read_15 : decode cX5_read 15 = .ok (.ldc2_w 228, 3) := by decide +kernel
theorem dX5_read_18 : decode cX5_read 18 = .ok (.invokestatic 61, 3) := by decide +kernel
theorem dX5_read_21 : decode cX5_read 21 = .ok (.ifCond .eq 16, 3) := by decide +kernel
theorem dX5_read_24 : decode cX5_read 24 = .ok (.iload 4, 2) := by decide +kernel
theorem dX5_read_26 : decode cX5_read 26 = .ok (.i2l, 1) := by decide +kernel
theorem dX5_read_27 : decode cX5_read 27 = .ok (.lconst 0, 1) := by decide +kernel
theorem dX5_read_28 : decode cX5_read 28 = .ok (.ldc2_w 269, 3) := by decide +kernel
theorem dX5_read_31 : decode cX5_read 31 = .ok (.invokestatic 61, 3) := by decide +kernel
theorem dX5_read_34 : decode cX5_read 34 = .ok (.ifCond .ne 5, 3) := by decide +kernel
theorem dX5_read_37 : decode cX5_read 37 = .ok (.iconst (-1), 1) := by decide +kernel
theorem dX5_read_38 : decode cX5_read 38 = .ok (.ireturn, 1) := by decide +kernel
theorem dX5_read_39 : decode cX5_read 39 = .ok (.aload_n 0, 1) := by decide +kernel
theorem dX5_read_40 : decode cX5_read 40 = .ok (.iconst 0, 1) := by decide +kernel
theorem dX5_read_41 : decode cX5_read 41 = .ok (.sipush 210, 3) := by decide +kernel
theorem dX5_read_44 : decode cX5_read 44 = .ok (.invokevirtual 236, 3) := by decide +kernel
theorem dX5_read_47 : decode cX5_read 47 = .ok (.iconst 0, 1) := by decide +kernel
theorem dX5_read_48 : decode cX5_read 48 = .ok (.istore 5, 2) := by decide +kernel
theorem dX5_read_50 : decode cX5_read 50 = .ok (.iconst 0, 1) := by decide +kernel
theorem dX5_read_51 : decode cX5_read 51 = .ok (.istore 6, 2) := by decide +kernel
theorem dX5_read_53 : decode cX5_read 53 = .ok (.iconst 0, 1) := by decide +kernel
theorem dX5_read_54 : decode cX5_read 54 = .ok (.istore 7, 2) := by decide +kernel
theorem dX5_read_56 : decode cX5_read 56 = .ok (.iload 7, 2) := by decide +kernel
theorem dX5_read_58 : decode cX5_read 58 = .ok (.iconst 2, 1) := by decide +kernel
theorem dX5_read_59 : decode cX5_read 59 = .ok (.iload 4, 2) := by decide +kernel
theorem dX5_read_61 : decode cX5_read 61 = .ok (.imul, 1) := by decide +kernel
theorem dX5_read_62 : decode cX5_read 62 = .ok (.if_icmp .ge 136, 3) := by decide +kernel
theorem dX5_read_65 : decode cX5_read 65 = .ok (.iload 5, 2) := by decide +kernel
theorem dX5_read_67 : decode cX5_read 67 = .ok (.ifCond .ne 131, 3) := by decide +kernel
theorem dX5_read_70 : decode cX5_read 70 = .ok (.aload_n 0, 1) := by decide +kernel
theorem dX5_read_71 : decode cX5_read 71 = .ok (.getfield 50, 3) := by decide +kernel
theorem dX5_read_74 : decode cX5_read 74 = .ok (.iload_n 1, 1) := by decide +kernel
theorem dX5_read_75 : decode cX5_read 75 = .ok (.iaload, 1) := by decide +kernel
theorem dX5_read_76 : decode cX5_read 76 = .ok (.bipush (-4), 2) := by decide +kernel
theorem dX5_read_78 : decode cX5_read 78 = .ok (.if_icmp .ne 7, 3) := by decide +kernel
theorem dX5_read_81 : decode cX5_read 81 = .ok (.iconst 1, 1) := by decide +kernel
theorem dX5_read_82 : decode cX5_read 82 = .ok (.goto 44, 3) := by decide +kernel
theorem dX5_read_85 : decode cX5_read 85 = .ok (.aload_n 0, 1) := by decide +kernel
theorem dX5_read_86 : decode cX5_read 86 = .ok (.getfield 50, 3) := by decide +kernel
theorem dX5_read_89 : decode cX5_read 89 = .ok (.iload_n 1, 1) := by decide +kernel
theorem dX5_read_90 : decode cX5_read 90 = .ok (.iaload, 1) := by decide +kernel
theorem dX5_read_91 : decode cX5_read 91 = .ok (.iload_n 2, 1) := by decide +kernel
theorem dX5_read_92 : decode cX5_read 92 = .ok (.if_icmp .eq 7, 3) := by decide +kernel
theorem dX5_read_95 : decode cX5_read 95 = .ok (.iconst 3, 1) := by decide +kernel
theorem dX5_read_96 : decode cX5_read 96 = .ok (.goto 30, 3) := by decide +kernel
theorem dX5_read_99 : decode cX5_read 99 = .ok (.iload_n 3, 1) := by decide +kernel
theorem dX5_read_100 : decode cX5_read 100 = .ok (.i2l, 1) := by decide +kernel
theorem dX5_read_101 : decode cX5_read 101 = .ok (.iload 7, 2) := by decide +kernel
theorem dX5_read_103 : decode cX5_read 103 = .ok (.i2l, 1) := by decide +kernel
theorem dX5_read_104 : decode cX5_read 104 = .ok (.ladd, 1) := by decide +kernel
theorem dX5_read_105 : decode cX5_read 105 = .ok (.lconst 0, 1) := by decide +kernel
theorem dX5_read_106 : decode cX5_read 106 = .ok (.aload_n 0, 1) := by decide +kernel
theorem dX5_read_107 : decode cX5_read 107 = .ok (.getfield 53, 3) := by decide +kernel
theorem dX5_read_110 : decode cX5_read 110 = .ok (.iload_n 1, 1) := by decide +kernel
theorem dX5_read_111 : decode cX5_read 111 = .ok (.iaload, 1) := by decide +kernel
theorem dX5_read_112 : decode cX5_read 112 = .ok (.iconst 1, 1) := by decide +kernel
theorem dX5_read_113 : decode cX5_read 113 = .ok (.isub, 1) := by decide +kernel
theorem dX5_read_114 : decode cX5_read 114 = .ok (.i2l, 1) := by decide +kernel
theorem dX5_read_115 : decode cX5_read 115 = .ok (.invokestatic 61, 3) := by decide +kernel
theorem dX5_read_118 : decode cX5_read 118 = .ok (.ifCond .ne 7, 3) := by decide +kernel
theorem dX5_read_121 : decode cX5_read 121 = .ok (.iconst 2, 1) := by decide +kernel
theorem dX5_read_122 : decode cX5_read 122 = .ok (.goto 4, 3) := by decide +kernel
theorem dX5_read_125 : decode cX5_read 125 = .ok (.iconst 0, 1) := by decide +kernel
theorem dX5_read_126 : decode cX5_read 126 = .ok (.istore 5, 2) := by decide +kernel
theorem dX5_read_128 : decode cX5_read 128 = .ok (.iload 5, 2) := by decide +kernel
theorem dX5_read_130 : decode cX5_read 130 = .ok (.ifCond .ne 62, 3) := by decide +kernel
theorem dX5_read_133 : decode cX5_read 133 = .ok (.iload 7, 2) := by decide +kernel
theorem dX5_read_135 : decode cX5_read 135 = .ok (.iconst 2, 1) := by decide +kernel
theorem dX5_read_136 : decode cX5_read 136 = .ok (.irem, 1) := by decide +kernel
theorem dX5_read_137 : decode cX5_read 137 = .ok (.iconst 1, 1) := by decide +kernel
theorem dX5_read_138 : decode cX5_read 138 = .ok (.if_icmp .ne 54, 3) := by decide +kernel
theorem dX5_read_141 : decode cX5_read 141 = .ok (.bipush 40, 2) := by decide +kernel
theorem dX5_read_143 : decode cX5_read 143 = .ok (.iload_n 1, 1) := by decide +kernel
theorem dX5_read_144 : decode cX5_read 144 = .ok (.imul, 1) := by decide +kernel
theorem dX5_read_145 : decode cX5_read 145 = .ok (.iload_n 3, 1) := by decide +kernel
theorem dX5_read_146 : decode cX5_read 146 = .ok (.iadd, 1) := by decide +kernel
theorem dX5_read_147 : decode cX5_read 147 = .ok (.iload 7, 2) := by decide +kernel
theorem dX5_read_149 : decode cX5_read 149 = .ok (.iadd, 1) := by decide +kernel
theorem dX5_read_150 : decode cX5_read 150 = .ok (.istore 8, 2) := by decide +kernel
theorem dX5_read_152 : decode cX5_read 152 = .ok (.aload_n 0, 1) := by decide +kernel
theorem dX5_read_153 : decode cX5_read 153 = .ok (.aload_n 0, 1) := by decide +kernel
theorem dX5_read_154 : decode cX5_read 154 = .ok (.getfield 56, 3) := by decide +kernel
theorem dX5_read_157 : decode cX5_read 157 = .ok (.iload 8, 2) := by decide +kernel
theorem dX5_read_159 : decode cX5_read 159 = .ok (.iconst 1, 1) := by decide +kernel
theorem dX5_read_160 : decode cX5_read 160 = .ok (.isub, 1) := by decide +kernel
theorem dX5_read_161 : decode cX5_read 161 = .ok (.iaload, 1) := by decide +kernel
theorem dX5_read_162 : decode cX5_read 162 = .ok (.aload_n 0, 1) := by decide +kernel
theorem dX5_read_163 : decode cX5_read 163 = .ok (.getfield 56, 3) := by decide +kernel
theorem dX5_read_166 : decode cX5_read 166 = .ok (.iload 8, 2) := by decide +kernel
theorem dX5_read_168 : decode cX5_read 168 = .ok (.iaload, 1) := by decide +kernel
theorem dX5_read_169 : decode cX5_read 169 = .ok (.invokevirtual 200, 3) := by decide +kernel
theorem dX5_read_172 : decode cX5_read 172 = .ok (.ifCond .ge 17, 3) := by decide +kernel
theorem dX5_read_175 : decode cX5_read 175 = .ok (.aload_n 0, 1) := by decide +kernel
theorem dX5_read_176 : decode cX5_read 176 = .ok (.sipush 210, 3) := by decide +kernel
theorem dX5_read_179 : decode cX5_read 179 = .ok (.iconst 0, 1) := by decide +kernel
theorem dX5_read_180 : decode cX5_read 180 = .ok (.invokevirtual 236, 3) := by decide +kernel
theorem dX5_read_183 : decode cX5_read 183 = .ok (.bipush (-20), 2) := by decide +kernel
theorem dX5_read_185 : decode cX5_read 185 = .ok (.iload 6, 2) := by decide +kernel
theorem dX5_read_187 : decode cX5_read 187 = .ok (.isub, 1) := by decide +kernel
theorem dX5_read_188 : decode cX5_read 188 = .ok (.ireturn, 1) := by decide +kernel
theorem dX5_read_189 : decode cX5_read 189 = .ok (.iinc 6 1, 3) := by decide +kernel
theorem dX5_read_192 : decode cX5_read 192 = .ok (.iinc 7 1, 3) := by decide +kernel
theorem dX5_read_195 : decode cX5_read 195 = .ok (.goto (-139), 3) := by decide +kernel
theorem dX5_read_198 : decode cX5_read 198 = .ok (.aload_n 0, 1) := by decide +kernel
theorem dX5_read_199 : decode cX5_read 199 = .ok (.iload 5, 2) := by decide +kernel
theorem dX5_read_201 : decode cX5_read 201 = .ok (.putfield 277, 3) := by decide +kernel
theorem dX5_read_204 : decode cX5_read 204 = .ok (.iload 6, 2) := by decide +kernel
theorem dX5_read_206 : decode cX5_read 206 = .ok (.ireturn, 1) := by decide +kernel
theorem dX5_torn_0 : decode cX5_torn 0 = .ok (.aload_n 0, 1) := by decide +kernel
theorem dX5_torn_1 : decode cX5_torn 1 = .ok (.getfield 277, 3) := by decide +kernel
theorem dX5_torn_4 : decode cX5_torn 4 = .ok (.ireturn, 1) := by decide +kernel
theorem dX5_count_0 : decode cX5_count 0 = .ok (.iconst 0, 1) := by decide +kernel
theorem dX5_count_1 : decode cX5_count 1 = .ok (.istore_n 2, 1) := by decide +kernel
theorem dX5_count_2 : decode cX5_count 2 = .ok (.iconst 0, 1) := by decide +kernel
theorem dX5_count_3 : decode cX5_count 3 = .ok (.istore_n 3, 1) := by decide +kernel
theorem dX5_count_4 : decode cX5_count 4 = .ok (.iload_n 3, 1) := by decide +kernel
theorem dX5_count_5 : decode cX5_count 5 = .ok (.aload_n 0, 1) := by decide +kernel
theorem dX5_count_6 : decode cX5_count 6 = .ok (.getfield 143, 3) := by decide +kernel
theorem dX5_count_9 : decode cX5_count 9 = .ok (.if_icmp .ge 17, 3) := by decide +kernel
theorem dX5_count_12 : decode cX5_count 12 = .ok (.iload_n 2, 1) := by decide +kernel
theorem dX5_count_13 : decode cX5_count 13 = .ok (.aload_n 0, 1) := by decide +kernel
theorem dX5_count_14 : decode cX5_count 14 = .ok (.iload_n 3, 1) := by decide +kernel
theorem dX5_count_15 : decode cX5_count 15 = .ok (.invokevirtual 165, 3) := by decide +kernel
theorem dX5_count_18 : decode cX5_count 18 = .ok (.iadd, 1) := by decide +kernel
theorem dX5_count_19 : decode cX5_count 19 = .ok (.istore_n 2, 1) := by decide +kernel
theorem dX5_count_20 : decode cX5_count 20 = .ok (.iinc 3 1, 3) := by decide +kernel
theorem dX5_count_23 : decode cX5_count 23 = .ok (.goto (-19), 3) := by decide +kernel
theorem dX5_count_26 : decode cX5_count 26 = .ok (.iload_n 1, 1) := by decide +kernel
theorem dX5_count_27 : decode cX5_count 27 = .ok (.tableswitch 107 0 5 #[37, 42, 72, 77, 100, 105], 37) := by decide +kernel
theorem dX5_count_64 : decode cX5_count 64 = .ok (.aload_n 0, 1) := by decide +kernel
theorem dX5_count_65 : decode cX5_count 65 = .ok (.getfield 152, 3) := by decide +kernel
theorem dX5_count_68 : decode cX5_count 68 = .ok (.ireturn, 1) := by decide +kernel
theorem dX5_count_69 : decode cX5_count 69 = .ok (.aload_n 0, 1) := by decide +kernel
theorem dX5_count_70 : decode cX5_count 70 = .ok (.getfield 46, 3) := by decide +kernel
theorem dX5_count_73 : decode cX5_count 73 = .ok (.iconst 0, 1) := by decide +kernel
theorem dX5_count_74 : decode cX5_count 74 = .ok (.baload, 1) := by decide +kernel
theorem dX5_count_75 : decode cX5_count 75 = .ok (.ifCond .eq 7, 3) := by decide +kernel
theorem dX5_count_78 : decode cX5_count 78 = .ok (.iconst 1, 1) := by decide +kernel
theorem dX5_count_79 : decode cX5_count 79 = .ok (.goto 4, 3) := by decide +kernel
theorem dX5_count_82 : decode cX5_count 82 = .ok (.iconst 0, 1) := by decide +kernel
theorem dX5_count_83 : decode cX5_count 83 = .ok (.aload_n 0, 1) := by decide +kernel
theorem dX5_count_84 : decode cX5_count 84 = .ok (.getfield 46, 3) := by decide +kernel
theorem dX5_count_87 : decode cX5_count 87 = .ok (.iconst 1, 1) := by decide +kernel
theorem dX5_count_88 : decode cX5_count 88 = .ok (.baload, 1) := by decide +kernel
theorem dX5_count_89 : decode cX5_count 89 = .ok (.ifCond .eq 7, 3) := by decide +kernel
theorem dX5_count_92 : decode cX5_count 92 = .ok (.iconst 1, 1) := by decide +kernel
theorem dX5_count_93 : decode cX5_count 93 = .ok (.goto 4, 3) := by decide +kernel
theorem dX5_count_96 : decode cX5_count 96 = .ok (.iconst 0, 1) := by decide +kernel
theorem dX5_count_97 : decode cX5_count 97 = .ok (.iadd, 1) := by decide +kernel
theorem dX5_count_98 : decode cX5_count 98 = .ok (.ireturn, 1) := by decide +kernel
theorem dX5_count_99 : decode cX5_count 99 = .ok (.aload_n 0, 1) := by decide +kernel
theorem dX5_count_100 : decode cX5_count 100 = .ok (.getfield 65, 3) := by decide +kernel
theorem dX5_count_103 : decode cX5_count 103 = .ok (.ireturn, 1) := by decide +kernel
theorem dX5_count_104 : decode cX5_count 104 = .ok (.aload_n 0, 1) := by decide +kernel
theorem dX5_count_105 : decode cX5_count 105 = .ok (.getfield 50, 3) := by decide +kernel
theorem dX5_count_108 : decode cX5_count 108 = .ok (.iconst 0, 1) := by decide +kernel
theorem dX5_count_109 : decode cX5_count 109 = .ok (.iaload, 1) := by decide +kernel
theorem dX5_count_110 : decode cX5_count 110 = .ok (.bipush (-4), 2) := by decide +kernel
theorem dX5_count_112 : decode cX5_count 112 = .ok (.if_icmp .ne 8, 3) := by decide +kernel
theorem dX5_count_115 : decode cX5_count 115 = .ok (.bipush (-4), 2) := by decide +kernel
theorem dX5_count_117 : decode cX5_count 117 = .ok (.goto 9, 3) := by decide +kernel
theorem dX5_count_120 : decode cX5_count 120 = .ok (.aload_n 0, 1) := by decide +kernel
theorem dX5_count_121 : decode cX5_count 121 = .ok (.getfield 53, 3) := by decide +kernel
theorem dX5_count_124 : decode cX5_count 124 = .ok (.iconst 0, 1) := by decide +kernel
theorem dX5_count_125 : decode cX5_count 125 = .ok (.iaload, 1) := by decide +kernel
theorem dX5_count_126 : decode cX5_count 126 = .ok (.ireturn, 1) := by decide +kernel
theorem dX5_count_127 : decode cX5_count 127 = .ok (.aload_n 0, 1) := by decide +kernel
theorem dX5_count_128 : decode cX5_count 128 = .ok (.invokevirtual 274, 3) := by decide +kernel
theorem dX5_count_131 : decode cX5_count 131 = .ok (.ireturn, 1) := by decide +kernel
theorem dX5_count_132 : decode cX5_count 132 = .ok (.iload_n 2, 1) := by decide +kernel
theorem dX5_count_133 : decode cX5_count 133 = .ok (.ireturn, 1) := by decide +kernel
theorem dX5_count_134 : decode cX5_count 134 = .ok (.iconst (-1), 1) := by decide +kernel
theorem dX5_count_135 : decode cX5_count 135 = .ok (.ireturn, 1) := by decide +kernel
theorem dJ6_bitCount_0f7a4_0 : decode cJ6_bitCount_0f7a4 0 = .ok (.iload_n 0, 1) := by decide +kernel
theorem dJ6_bitCount_0f7a4_1 : decode cJ6_bitCount_0f7a4 1 = .ok (.iload_n 0, 1) := by decide +kernel
theorem dJ6_bitCount_0f7a4_2 : decode cJ6_bitCount_0f7a4 2 = .ok (.iconst 1, 1) := by decide +kernel
theorem dJ6_bitCount_0f7a4_3 : decode cJ6_bitCount_0f7a4 3 = .ok (.iushr, 1) := by decide +kernel
theorem dJ6_bitCount_0f7a4_4 : decode cJ6_bitCount_0f7a4 4 = .ok (.ldc_w 265, 3) := by decide +kernel
theorem dJ6_bitCount_0f7a4_7 : decode cJ6_bitCount_0f7a4 7 = .ok (.iand, 1) := by decide +kernel
theorem dJ6_bitCount_0f7a4_8 : decode cJ6_bitCount_0f7a4 8 = .ok (.isub, 1) := by decide +kernel
theorem dJ6_bitCount_0f7a4_9 : decode cJ6_bitCount_0f7a4 9 = .ok (.istore_n 0, 1) := by decide +kernel
theorem dJ6_bitCount_0f7a4_10 : decode cJ6_bitCount_0f7a4 10 = .ok (.iload_n 0, 1) := by decide +kernel
theorem dJ6_bitCount_0f7a4_11 : decode cJ6_bitCount_0f7a4 11 = .ok (.ldc_w 266, 3) := by decide +kernel
theorem dJ6_bitCount_0f7a4_14 : decode cJ6_bitCount_0f7a4 14 = .ok (.iand, 1) := by decide +kernel
theorem dJ6_bitCount_0f7a4_15 : decode cJ6_bitCount_0f7a4 15 = .ok (.iload_n 0, 1) := by decide +kernel
theorem dJ6_bitCount_0f7a4_16 : decode cJ6_bitCount_0f7a4 16 = .ok (.iconst 2, 1) := by decide +kernel
theorem dJ6_bitCount_0f7a4_17 : decode cJ6_bitCount_0f7a4 17 = .ok (.iushr, 1) := by decide +kernel
theorem dJ6_bitCount_0f7a4_18 : decode cJ6_bitCount_0f7a4 18 = .ok (.ldc_w 266, 3) := by decide +kernel
theorem dJ6_bitCount_0f7a4_21 : decode cJ6_bitCount_0f7a4 21 = .ok (.iand, 1) := by decide +kernel
theorem dJ6_bitCount_0f7a4_22 : decode cJ6_bitCount_0f7a4 22 = .ok (.iadd, 1) := by decide +kernel
theorem dJ6_bitCount_0f7a4_23 : decode cJ6_bitCount_0f7a4 23 = .ok (.istore_n 0, 1) := by decide +kernel
theorem dJ6_bitCount_0f7a4_24 : decode cJ6_bitCount_0f7a4 24 = .ok (.iload_n 0, 1) := by decide +kernel
theorem dJ6_bitCount_0f7a4_25 : decode cJ6_bitCount_0f7a4 25 = .ok (.iload_n 0, 1) := by decide +kernel
theorem dJ6_bitCount_0f7a4_26 : decode cJ6_bitCount_0f7a4 26 = .ok (.iconst 4, 1) := by decide +kernel
theorem dJ6_bitCount_0f7a4_27 : decode cJ6_bitCount_0f7a4 27 = .ok (.iushr, 1) := by decide +kernel
theorem dJ6_bitCount_0f7a4_28 : decode cJ6_bitCount_0f7a4 28 = .ok (.iadd, 1) := by decide +kernel
theorem dJ6_bitCount_0f7a4_29 : decode cJ6_bitCount_0f7a4 29 = .ok (.ldc_w 267, 3) := by decide +kernel
theorem dJ6_bitCount_0f7a4_32 : decode cJ6_bitCount_0f7a4 32 = .ok (.iand, 1) := by decide +kernel
theorem dJ6_bitCount_0f7a4_33 : decode cJ6_bitCount_0f7a4 33 = .ok (.istore_n 0, 1) := by decide +kernel
theorem dJ6_bitCount_0f7a4_34 : decode cJ6_bitCount_0f7a4 34 = .ok (.iload_n 0, 1) := by decide +kernel
theorem dJ6_bitCount_0f7a4_35 : decode cJ6_bitCount_0f7a4 35 = .ok (.iload_n 0, 1) := by decide +kernel
theorem dJ6_bitCount_0f7a4_36 : decode cJ6_bitCount_0f7a4 36 = .ok (.bipush 8, 2) := by decide +kernel
theorem dJ6_bitCount_0f7a4_38 : decode cJ6_bitCount_0f7a4 38 = .ok (.iushr, 1) := by decide +kernel
theorem dJ6_bitCount_0f7a4_39 : decode cJ6_bitCount_0f7a4 39 = .ok (.iadd, 1) := by decide +kernel
theorem dJ6_bitCount_0f7a4_40 : decode cJ6_bitCount_0f7a4 40 = .ok (.istore_n 0, 1) := by decide +kernel
theorem dJ6_bitCount_0f7a4_41 : decode cJ6_bitCount_0f7a4 41 = .ok (.iload_n 0, 1) := by decide +kernel
theorem dJ6_bitCount_0f7a4_42 : decode cJ6_bitCount_0f7a4 42 = .ok (.iload_n 0, 1) := by decide +kernel
theorem dJ6_bitCount_0f7a4_43 : decode cJ6_bitCount_0f7a4 43 = .ok (.bipush 16, 2) := by decide +kernel
theorem dJ6_bitCount_0f7a4_45 : decode cJ6_bitCount_0f7a4 45 = .ok (.iushr, 1) := by decide +kernel
theorem dJ6_bitCount_0f7a4_46 : decode cJ6_bitCount_0f7a4 46 = .ok (.iadd, 1) := by decide +kernel
theorem dJ6_bitCount_0f7a4_47 : decode cJ6_bitCount_0f7a4 47 = .ok (.istore_n 0, 1) := by decide +kernel
theorem dJ6_bitCount_0f7a4_48 : decode cJ6_bitCount_0f7a4 48 = .ok (.iload_n 0, 1) := by decide +kernel
theorem dJ6_bitCount_0f7a4_49 : decode cJ6_bitCount_0f7a4 49 = .ok (.bipush 63, 2) := by decide +kernel
theorem dJ6_bitCount_0f7a4_51 : decode cJ6_bitCount_0f7a4 51 = .ok (.iand, 1) := by decide +kernel
theorem dJ6_bitCount_0f7a4_52 : decode cJ6_bitCount_0f7a4 52 = .ok (.ireturn, 1) := by decide +kernel
theorem dJ0_length_8abf5_0 : decode cJ0_length_8abf5 0 = .ok (.aload_n 0, 1) := by decide +kernel
theorem dJ0_length_8abf5_1 : decode cJ0_length_8abf5 1 = .ok (.getfield 9, 3) := by decide +kernel
theorem dJ0_length_8abf5_4 : decode cJ0_length_8abf5 4 = .ok (.arraylength, 1) := by decide +kernel
theorem dJ0_length_8abf5_5 : decode cJ0_length_8abf5 5 = .ok (.aload_n 0, 1) := by decide +kernel
theorem dJ0_length_8abf5_6 : decode cJ0_length_8abf5 6 = .ok (.invokevirtual 335, 3) := by decide +kernel
theorem dJ0_length_8abf5_9 : decode cJ0_length_8abf5 9 = .ok (.ishr, 1) := by decide +kernel
theorem dJ0_length_8abf5_10 : decode cJ0_length_8abf5 10 = .ok (.ireturn, 1) := by decide +kernel
theorem dJ0_charAt_5068e_0 : decode cJ0_charAt_5068e 0 = .ok (.aload_n 0, 1) := by decide +kernel
theorem dJ0_charAt_5068e_1 : decode cJ0_charAt_5068e 1 = .ok (.invokevirtual 492, 3) := by decide +kernel
theorem dJ0_charAt_5068e_4 : decode cJ0_charAt_5068e 4 = .ok (.ifCond .eq 12, 3) := by decide +kernel
theorem dJ0_charAt_5068e_7 : decode cJ0_charAt_5068e 7 = .ok (.aload_n 0, 1) := by decide +kernel
theorem dJ0_charAt_5068e_8 : decode cJ0_charAt_5068e 8 = .ok (.getfield 9, 3) := by decide +kernel
theorem dJ0_charAt_5068e_11 : decode cJ0_charAt_5068e 11 = .ok (.iload_n 1, 1) := by decide +kernel
theorem dJ0_charAt_5068e_12 : decode cJ0_charAt_5068e 12 = .ok (.invokestatic 495, 3) := by decide +kernel
theorem dJ0_charAt_5068e_15 : decode cJ0_charAt_5068e 15 = .ok (.ireturn, 1) := by decide +kernel
theorem dJ0_charAt_5068e_16 : decode cJ0_charAt_5068e 16 = .ok (.aload_n 0, 1) := by decide +kernel
theorem dJ0_charAt_5068e_17 : decode cJ0_charAt_5068e 17 = .ok (.getfield 9, 3) := by decide +kernel
theorem dJ0_charAt_5068e_20 : decode cJ0_charAt_5068e 20 = .ok (.iload_n 1, 1) := by decide +kernel
theorem dJ0_charAt_5068e_21 : decode cJ0_charAt_5068e 21 = .ok (.invokestatic 498, 3) := by decide +kernel
theorem dJ0_charAt_5068e_24 : decode cJ0_charAt_5068e 24 = .ok (.ireturn, 1) := by decide +kernel
theorem dJ0_coder_7d493_0 : decode cJ0_coder_7d493 0 = .ok (.getstatic 38, 3) := by decide +kernel
theorem dJ0_coder_7d493_3 : decode cJ0_coder_7d493 3 = .ok (.ifCond .eq 10, 3) := by decide +kernel
theorem dJ0_coder_7d493_6 : decode cJ0_coder_7d493 6 = .ok (.aload_n 0, 1) := by decide +kernel
theorem dJ0_coder_7d493_7 : decode cJ0_coder_7d493 7 = .ok (.getfield 15, 3) := by decide +kernel
theorem dJ0_coder_7d493_10 : decode cJ0_coder_7d493 10 = .ok (.goto 4, 3) := by decide +kernel
theorem dJ0_coder_7d493_13 : decode cJ0_coder_7d493 13 = .ok (.iconst 1, 1) := by decide +kernel
theorem dJ0_coder_7d493_14 : decode cJ0_coder_7d493 14 = .ok (.ireturn, 1) := by decide +kernel
theorem dJ0_isLatin1_aae02_0 : decode cJ0_isLatin1_aae02 0 = .ok (.getstatic 38, 3) := by decide +kernel
theorem dJ0_isLatin1_aae02_3 : decode cJ0_isLatin1_aae02 3 = .ok (.ifCond .eq 14, 3) := by decide +kernel
theorem dJ0_isLatin1_aae02_6 : decode cJ0_isLatin1_aae02 6 = .ok (.aload_n 0, 1) := by decide +kernel
theorem dJ0_isLatin1_aae02_7 : decode cJ0_isLatin1_aae02 7 = .ok (.getfield 15, 3) := by decide +kernel
theorem dJ0_isLatin1_aae02_10 : decode cJ0_isLatin1_aae02 10 = .ok (.ifCond .ne 7, 3) := by decide +kernel
theorem dJ0_isLatin1_aae02_13 : decode cJ0_isLatin1_aae02 13 = .ok (.iconst 1, 1) := by decide +kernel
theorem dJ0_isLatin1_aae02_14 : decode cJ0_isLatin1_aae02 14 = .ok (.goto 4, 3) := by decide +kernel
theorem dJ0_isLatin1_aae02_17 : decode cJ0_isLatin1_aae02 17 = .ok (.iconst 0, 1) := by decide +kernel
theorem dJ0_isLatin1_aae02_18 : decode cJ0_isLatin1_aae02 18 = .ok (.ireturn, 1) := by decide +kernel
theorem dJ0_checkIndex_df160_0 : decode cJ0_checkIndex_df160 0 = .ok (.iload_n 0, 1) := by decide +kernel
theorem dJ0_checkIndex_df160_1 : decode cJ0_checkIndex_df160 1 = .ok (.iload_n 1, 1) := by decide +kernel
theorem dJ0_checkIndex_df160_2 : decode cJ0_checkIndex_df160 2 = .ok (.getstatic 1053, 3) := by decide +kernel
theorem dJ0_checkIndex_df160_5 : decode cJ0_checkIndex_df160 5 = .ok (.invokestatic 1059, 3) := by decide +kernel
theorem dJ0_checkIndex_df160_8 : decode cJ0_checkIndex_df160 8 = .ok (.pop, 1) := by decide +kernel
theorem dJ0_checkIndex_df160_9 : decode cJ0_checkIndex_df160 9 = .ok (.return_, 1) := by decide +kernel
theorem dJ1_charAt_3b067_0 : decode cJ1_charAt_3b067 0 = .ok (.iload_n 1, 1) := by decide +kernel
theorem dJ1_charAt_3b067_1 : decode cJ1_charAt_3b067 1 = .ok (.aload_n 0, 1) := by decide +kernel
theorem dJ1_charAt_3b067_2 : decode cJ1_charAt_3b067 2 = .ok (.arraylength, 1) := by decide +kernel
theorem dJ1_charAt_3b067_3 : decode cJ1_charAt_3b067 3 = .ok (.invokestatic 9, 3) := by decide +kernel
theorem dJ1_charAt_3b067_6 : decode cJ1_charAt_3b067 6 = .ok (.aload_n 0, 1) := by decide +kernel
theorem dJ1_charAt_3b067_7 : decode cJ1_charAt_3b067 7 = .ok (.iload_n 1, 1) := by decide +kernel
theorem dJ1_charAt_3b067_8 : decode cJ1_charAt_3b067 8 = .ok (.baload, 1) := by decide +kernel
theorem dJ1_charAt_3b067_9 : decode cJ1_charAt_3b067 9 = .ok (.sipush 255, 3) := by decide +kernel
theorem dJ1_charAt_3b067_12 : decode cJ1_charAt_3b067 12 = .ok (.iand, 1) := by decide +kernel
theorem dJ1_charAt_3b067_13 : decode cJ1_charAt_3b067 13 = .ok (.i2c, 1) := by decide +kernel
theorem dJ1_charAt_3b067_14 : decode cJ1_charAt_3b067 14 = .ok (.ireturn, 1) := by decide +kernel
theorem dJ3_checkIndex_8e157_0 : decode cJ3_checkIndex_8e157 0 = .ok (.iload_n 0, 1) := by decide +kernel
theorem dJ3_checkIndex_8e157_1 : decode cJ3_checkIndex_8e157 1 = .ok (.ifCond .lt 8, 3) := by decide +kernel
theorem dJ3_checkIndex_8e157_4 : decode cJ3_checkIndex_8e157 4 = .ok (.iload_n 0, 1) := by decide +kernel
theorem dJ3_checkIndex_8e157_5 : decode cJ3_checkIndex_8e157 5 = .ok (.iload_n 1, 1) := by decide +kernel
theorem dJ3_checkIndex_8e157_6 : decode cJ3_checkIndex_8e157 6 = .ok (.if_icmp .lt 10, 3) := by decide +kernel
theorem dJ3_checkIndex_8e157_9 : decode cJ3_checkIndex_8e157 9 = .ok (.aload_n 2, 1) := by decide +kernel
theorem dJ3_checkIndex_8e157_10 : decode cJ3_checkIndex_8e157 10 = .ok (.iload_n 0, 1) := by decide +kernel
theorem dJ3_checkIndex_8e157_11 : decode cJ3_checkIndex_8e157 11 = .ok (.iload_n 1, 1) := by decide +kernel
theorem dJ3_checkIndex_8e157_12 : decode cJ3_checkIndex_8e157 12 = .ok (.invokestatic 95, 3) := by decide +kernel
theorem dJ3_checkIndex_8e157_15 : decode cJ3_checkIndex_8e157 15 = .ok (.athrow, 1) := by decide +kernel
theorem dJ3_checkIndex_8e157_16 : decode cJ3_checkIndex_8e157 16 = .ok (.iload_n 0, 1) := by decide +kernel
theorem dJ3_checkIndex_8e157_17 : decode cJ3_checkIndex_8e157 17 = .ok (.ireturn, 1) := by decide +kernel
