theorem dX12_readPart_60 : decode cX12_readPart 60 = .ok (.iconst 0, 1) := by decide +kernel
theorem dX12_readPart_61 : decode cX12_readPart 61 = .ok (.invokevirtual 203, 3) := by decide +kernel
theorem dX12_readPart_64 : decode cX12_readPart 64 = .ok (.iload_n 2, 1) := by decide +kernel
theorem dX12_readPart_65 : decode cX12_readPart 65 = .ok (.ifCond .lt 7, 3) := by decide +kernel
theorem dX12_readPart_68 : decode cX12_readPart 68 = .ok (.iconst 1, 1) := by decide +kernel
theorem dX12_readPart_69 : decode cX12_readPart 69 = .ok (.goto 4, 3) := by decide +kernel
theorem dX12_readPart_72 : decode cX12_readPart 72 = .ok (.iconst 0, 1) := by decide +kernel
theorem dX12_readPart_73 : decode cX12_readPart 73 = .ok (.ireturn, 1) := by decide +kernel
theorem dX12_readSum_0 : decode cX12_readSum 0 = .ok (.aload_n 0, 1) := by decide +kernel
theorem dX12_readSum_1 : decode cX12_readSum 1 = .ok (.invokevirtual 207, 3) := by decide +kernel
theorem dX12_readSum_4 : decode cX12_readSum 4 = .ok (.ifCond .ne 5, 3) := by decide +kernel
theorem dX12_readSum_7 : decode cX12_readSum 7 = .ok (.iconst 0, 1) := by decide +kernel
theorem dX12_readSum_8 : decode cX12_readSum 8 = .ok (.ireturn, 1) := by decide +kernel
theorem dX12_readSum_9 : decode cX12_readSum 9 = .ok (.aload_n 0, 1) := by decide +kernel
theorem dX12_readSum_10 : decode cX12_readSum 10 = .ok (.bipush 43, 2) := by decide +kernel
theorem dX12_readSum_12 : decode cX12_readSum 12 = .ok (.invokevirtual 210, 3) := by decide +kernel
theorem dX12_readSum_15 : decode cX12_readSum 15 = .ok (.ifCond .eq 22, 3) := by decide +kernel
theorem dX12_readSum_18 : decode cX12_readSum 18 = .ok (.aload_n 0, 1) := by decide +kernel
theorem dX12_readSum_19 : decode cX12_readSum 19 = .ok (.invokevirtual 207, 3) := by decide +kernel
theorem dX12_readSum_22 : decode cX12_readSum 22 = .ok (.ifCond .ne 5, 3) := by decide +kernel
theorem dX12_readSum_25 : decode cX12_readSum 25 = .ok (.iconst 0, 1) := by decide +kernel
theorem dX12_readSum_26 : decode cX12_readSum 26 = .ok (.ireturn, 1) := by decide +kernel
theorem dX12_readSum_27 : decode cX12_readSum 27 = .ok (.aload_n 0, 1) := by decide +kernel
theorem dX12_readSum_28 : decode cX12_readSum 28 = .ok (.bipush 12, 2) := by decide +kernel
theorem dX12_readSum_30 : decode cX12_readSum 30 = .ok (.iconst 0, 1) := by decide +kernel
theorem dX12_readSum_31 : decode cX12_readSum 31 = .ok (.invokevirtual 203, 3) := by decide +kernel
theorem dX12_readSum_34 : decode cX12_readSum 34 = .ok (.goto (-25), 3) := by decide +kernel
theorem dX12_readSum_37 : decode cX12_readSum 37 = .ok (.iconst 1, 1) := by decide +kernel
theorem dX12_readSum_38 : decode cX12_readSum 38 = .ok (.ireturn, 1) := by decide +kernel
theorem dX12_readTag_0 : decode cX12_readTag 0 = .ok (.aload_n 0, 1) := by decide +kernel
theorem dX12_readTag_1 : decode cX12_readTag 1 = .ok (.invokevirtual 120, 3) := by decide +kernel
theorem dX12_readTag_4 : decode cX12_readTag 4 = .ok (.aload_n 0, 1) := by decide +kernel
theorem dX12_readTag_5 : decode cX12_readTag 5 = .ok (.ldc 213, 2) := by decide +kernel
theorem dX12_readTag_7 : decode cX12_readTag 7 = .ok (.invokevirtual 123, 3) := by decide +kernel
theorem dX12_readTag_10 : decode cX12_readTag 10 = .ok (.ifCond .eq 8, 3) := by decide +kernel
theorem dX12_readTag_13 : decode cX12_readTag 13 = .ok (.bipush 8, 2) := by decide +kernel
theorem dX12_readTag_15 : decode cX12_readTag 15 = .ok (.goto 32, 3) := by decide +kernel
theorem dX12_readTag_18 : decode cX12_readTag 18 = .ok (.aload_n 0, 1) := by decide +kernel
theorem dX12_readTag_19 : decode cX12_readTag 19 = .ok (.ldc 215, 2) := by decide +kernel
theorem dX12_readTag_21 : decode cX12_readTag 21 = .ok (.invokevirtual 123, 3) := by decide +kernel
theorem dX12_readTag_24 : decode cX12_readTag 24 = .ok (.ifCond .eq 8, 3) := by decide +kernel
theorem dX12_readTag_27 : decode cX12_readTag 27 = .ok (.bipush 9, 2) := by decide +kernel
theorem dX12_readTag_29 : decode cX12_readTag 29 = .ok (.goto 18, 3) := by decide +kernel
theorem dX12_readTag_32 : decode cX12_readTag 32 = .ok (.aload_n 0, 1) := by decide +kernel
theorem dX12_readTag_33 : decode cX12_readTag 33 = .ok (.ldc 217, 2) := by decide +kernel
theorem dX12_readTag_35 : decode cX12_readTag 35 = .ok (.invokevirtual 123, 3) := by decide +kernel
theorem dX12_readTag_38 : decode cX12_readTag 38 = .ok (.ifCond .eq 8, 3) := by decide +kernel
theorem dX12_readTag_41 : decode cX12_readTag 41 = .ok (.bipush 10, 2) := by decide +kernel
theorem dX12_readTag_43 : decode cX12_readTag 43 = .ok (.goto 4, 3) := by decide +kernel
theorem dX12_readTag_46 : decode cX12_readTag 46 = .ok (.iconst (-1), 1) := by decide +kernel
theorem dX12_readTag_47 : decode cX12_readTag 47 = .ok (.istore_n 1, 1) := by decide +kernel
theorem dX12_readTag_48 : decode cX12_readTag 48 = .ok (.iload_n 1, 1) := by decide +kernel
theorem dX12_readTag_49 : decode cX12_readTag 49 = .ok (.ifCond .lt 12, 3) := by decide +kernel
theorem dX12_readTag_52 : decode cX12_readTag 52 = .ok (.aload_n 0, 1) := by decide +kernel
theorem dX12_readTag_53 : decode cX12_readTag 53 = .ok (.iload_n 1, 1) := by decide +kernel
theorem dX12_readTag_54 : decode cX12_readTag 54 = .ok (.iconst 0, 1) := by decide +kernel
theorem dX12_readTag_55 : decode cX12_readTag 55 = .ok (.invokevirtual 203, 3) := by decide +kernel
theorem dX12_readTag_58 : decode cX12_readTag 58 = .ok (.goto 11, 3) := by decide +kernel
theorem dX12_readTag_61 : decode cX12_readTag 61 = .ok (.aload_n 0, 1) := by decide +kernel
theorem dX12_readTag_62 : decode cX12_readTag 62 = .ok (.aload_n 0, 1) := by decide +kernel
theorem dX12_readTag_63 : decode cX12_readTag 63 = .ok (.getfield 105, 3) := by decide +kernel
theorem dX12_readTag_66 : decode cX12_readTag 66 = .ok (.putfield 95, 3) := by decide +kernel
theorem dX12_readTag_69 : decode cX12_readTag 69 = .ok (.iload_n 1, 1) := by decide +kernel
theorem dX12_readTag_70 : decode cX12_readTag 70 = .ok (.ifCond .lt 7, 3) := by decide +kernel
theorem dX12_readTag_73 : decode cX12_readTag 73 = .ok (.iconst 1, 1) := by decide +kernel
theorem dX12_readTag_74 : decode cX12_readTag 74 = .ok (.goto 4, 3) := by decide +kernel
theorem dX12_readTag_77 : decode cX12_readTag 77 = .ok (.iconst 0, 1) := by decide +kernel
theorem dX12_readTag_78 : decode cX12_readTag 78 = .ok (.ireturn, 1) := by decide +kernel
theorem dX12_readAtom_0 : decode cX12_readAtom 0 = .ok (.aload_n 0, 1) := by decide +kernel
theorem dX12_readAtom_1 : decode cX12_readAtom 1 = .ok (.bipush 40, 2) := by decide +kernel
theorem dX12_readAtom_3 : decode cX12_readAtom 3 = .ok (.invokevirtual 210, 3) := by decide +kernel
theorem dX12_readAtom_6 : decode cX12_readAtom 6 = .ok (.ifCond .eq 50, 3) := by decide +kernel
theorem dX12_readAtom_9 : decode cX12_readAtom 9 = .ok (.aload_n 0, 1) := by decide +kernel
theorem dX12_readAtom_10 : decode cX12_readAtom 10 = .ok (.getfield 219, 3) := by decide +kernel
theorem dX12_readAtom_13 : decode cX12_readAtom 13 = .ok (.bipush 6, 2) := by decide +kernel
theorem dX12_readAtom_15 : decode cX12_readAtom 15 = .ok (.if_icmp .ne 5, 3) := by decide +kernel
theorem dX12_readAtom_18 : decode cX12_readAtom 18 = .ok (.iconst 0, 1) := by decide +kernel
theorem dX12_readAtom_19 : decode cX12_readAtom 19 = .ok (.ireturn, 1) := by decide +kernel
theorem dX12_readAtom_20 : decode cX12_readAtom 20 = .ok (.aload_n 0, 1) := by decide +kernel
theorem dX12_readAtom_21 : decode cX12_readAtom 21 = .ok (.dup, 1) := by decide +kernel
theorem dX12_readAtom_22 : decode cX12_readAtom 22 = .ok (.getfield 219, 3) := by decide +kernel
theorem dX12_readAtom_25 : decode cX12_readAtom 25 = .ok (.iconst 1, 1) := by decide +kernel
theorem dX12_readAtom_26 : decode cX12_readAtom 26 = .ok (.iadd, 1) := by decide +kernel
theorem dX12_readAtom_27 : decode cX12_readAtom 27 = .ok (.putfield 219, 3) := by decide +kernel
theorem dX12_readAtom_30 : decode cX12_readAtom 30 = .ok (.aload_n 0, 1) := by decide +kernel
theorem dX12_readAtom_31 : decode cX12_readAtom 31 = .ok (.invokevirtual 222, 3) := by decide +kernel
theorem dX12_readAtom_34 : decode cX12_readAtom 34 = .ok (.ifCond .ne 5, 3) := by decide +kernel
theorem dX12_readAtom_37 : decode cX12_readAtom 37 = .ok (.iconst 0, 1) := by decide +kernel
theorem dX12_readAtom_38 : decode cX12_readAtom 38 = .ok (.ireturn, 1) := by decide +kernel
theorem dX12_readAtom_39 : decode cX12_readAtom 39 = .ok (.aload_n 0, 1) := by decide +kernel
theorem dX12_readAtom_40 : decode cX12_readAtom 40 = .ok (.dup, 1) := by decide +kernel
theorem dX12_readAtom_41 : decode cX12_readAtom 41 = .ok (.getfield 219, 3) := by decide +kernel
theorem dX12_readAtom_44 : decode cX12_readAtom 44 = .ok (.iconst 1, 1) := by decide +kernel
theorem dX12_readAtom_45 : decode cX12_readAtom 45 = .ok (.isub, 1) := by decide +kernel
theorem dX12_readAtom_46 : decode cX12_readAtom 46 = .ok (.putfield 219, 3) := by decide +kernel
theorem dX12_readAtom_49 : decode cX12_readAtom 49 = .ok (.aload_n 0, 1) := by decide +kernel
theorem dX12_readAtom_50 : decode cX12_readAtom 50 = .ok (.bipush 41, 2) := by decide +kernel
theorem dX12_readAtom_52 : decode cX12_readAtom 52 = .ok (.invokevirtual 210, 3) := by decide +kernel
theorem dX12_readAtom_55 : decode cX12_readAtom 55 = .ok (.ireturn, 1) := by decide +kernel
theorem dX12_readAtom_56 : decode cX12_readAtom 56 = .ok (.aload_n 0, 1) := by decide +kernel
theorem dX12_readAtom_57 : decode cX12_readAtom 57 = .ok (.ldc 225, 2) := by decide +kernel
theorem dX12_readAtom_59 : decode cX12_readAtom 59 = .ok (.invokevirtual 130, 3) := by decide +kernel
theorem dX12_readAtom_62 : decode cX12_readAtom 62 = .ok (.ifCond .eq 52, 3) := by decide +kernel
theorem dX12_readAtom_65 : decode cX12_readAtom 65 = .ok (.aload_n 0, 1) := by decide +kernel
theorem dX12_readAtom_66 : decode cX12_readAtom 66 = .ok (.getfield 219, 3) := by decide +kernel
theorem dX12_readAtom_69 : decode cX12_readAtom 69 = .ok (.bipush 6, 2) := by decide +kernel
theorem dX12_readAtom_71 : decode cX12_readAtom 71 = .ok (.if_icmp .ne 5, 3) := by decide +kernel
theorem dX12_readAtom_74 : decode cX12_readAtom 74 = .ok (.iconst 0, 1) := by decide +kernel
theorem dX12_readAtom_75 : decode cX12_readAtom 75 = .ok (.ireturn, 1) := by decide +kernel
theorem dX12_readAtom_76 : decode cX12_readAtom 76 = .ok (.aload_n 0, 1) := by decide +kernel
theorem dX12_readAtom_77 : decode cX12_readAtom 77 = .ok (.dup, 1) := by decide +kernel
theorem dX12_readAtom_78 : decode cX12_readAtom 78 = .ok (.getfield 219, 3) := by decide +kernel
theorem dX12_readAtom_81 : decode cX12_readAtom 81 = .ok (.iconst 1, 1) := by decide +kernel
theorem dX12_readAtom_82 : decode cX12_readAtom 82 = .ok (.iadd, 1) := by decide +kernel
theorem dX12_readAtom_83 : decode cX12_readAtom 83 = .ok (.putfield 219, 3) := by decide +kernel
theorem dX12_readAtom_86 : decode cX12_readAtom 86 = .ok (.aload_n 0, 1) := by decide +kernel
theorem dX12_readAtom_87 : decode cX12_readAtom 87 = .ok (.invokevirtual 227, 3) := by decide +kernel
theorem dX12_readAtom_90 : decode cX12_readAtom 90 = .ok (.ifCond .ne 5, 3) := by decide +kernel
theorem dX12_readAtom_93 : decode cX12_readAtom 93 = .ok (.iconst 0, 1) := by decide +kernel
theorem dX12_readAtom_94 : decode cX12_readAtom 94 = .ok (.ireturn, 1) := by decide +kernel
theorem dX12_readAtom_95 : decode cX12_readAtom 95 = .ok (.aload_n 0, 1) := by decide +kernel
theorem dX12_readAtom_96 : decode cX12_readAtom 96 = .ok (.dup, 1) := by decide +kernel
theorem dX12_readAtom_97 : decode cX12_readAtom 97 = .ok (.getfield 219, 3) := by decide +kernel
theorem dX12_readAtom_100 : decode cX12_readAtom 100 = .ok (.iconst 1, 1) := by decide +kernel
theorem dX12_readAtom_101 : decode cX12_readAtom 101 = .ok (.isub, 1) := by decide +kernel
theorem dX12_readAtom_102 : decode cX12_readAtom 102 = .ok (.putfield 219, 3) := by decide +kernel
theorem dX12_readAtom_105 : decode cX12_readAtom 105 = .ok (.aload_n 0, 1) := by decide +kernel
theorem dX12_readAtom_106 : decode cX12_readAtom 106 = .ok (.bipush 15, 2) := by decide +kernel
theorem dX12_readAtom_108 : decode cX12_readAtom 108 = .ok (.iconst 0, 1) := by decide +kernel
theorem dX12_readAtom_109 : decode cX12_readAtom 109 = .ok (.invokevirtual 203, 3) := by decide +kernel
theorem dX12_readAtom_112 : decode cX12_readAtom 112 = .ok (.iconst 1, 1) := by decide +kernel
theorem dX12_readAtom_113 : decode cX12_readAtom 113 = .ok (.ireturn, 1) := by decide +kernel
theorem dX12_readAtom_114 : decode cX12_readAtom 114 = .ok (.aload_n 0, 1) := by decide +kernel
theorem dX12_readAtom_115 : decode cX12_readAtom 115 = .ok (.invokevirtual 230, 3) := by decide +kernel
theorem dX12_readAtom_118 : decode cX12_readAtom 118 = .ok (.ifCond .eq 5, 3) := by decide +kernel
theorem dX12_readAtom_121 : decode cX12_readAtom 121 = .ok (.iconst 1, 1) := by decide +kernel
theorem dX12_readAtom_122 : decode cX12_readAtom 122 = .ok (.ireturn, 1) := by decide +kernel
theorem dX12_readAtom_123 : decode cX12_readAtom 123 = .ok (.aload_n 0, 1) := by decide +kernel
theorem dX12_readAtom_124 : decode cX12_readAtom 124 = .ok (.invokevirtual 233, 3) := by decide +kernel
theorem dX12_readAtom_127 : decode cX12_readAtom 127 = .ok (.ifCond .ne 5, 3) := by decide +kernel
theorem dX12_readAtom_130 : decode cX12_readAtom 130 = .ok (.iconst 0, 1) := by decide +kernel
theorem dX12_readAtom_131 : decode cX12_readAtom 131 = .ok (.ireturn, 1) := by decide +kernel
theorem dX12_readAtom_132 : decode cX12_readAtom 132 = .ok (.aload_n 0, 1) := by decide +kernel
theorem dX12_readAtom_133 : decode cX12_readAtom 133 = .ok (.bipush 60, 2) := by decide +kernel
theorem dX12_readAtom_135 : decode cX12_readAtom 135 = .ok (.invokevirtual 210, 3) := by decide +kernel
theorem dX12_readAtom_138 : decode cX12_readAtom 138 = .ok (.istore_n 1, 1) := by decide +kernel
theorem dX12_readAtom_139 : decode cX12_readAtom 139 = .ok (.iload_n 1, 1) := by decide +kernel
theorem dX12_readAtom_140 : decode cX12_readAtom 140 = .ok (.ifCond .ne 12, 3) := by decide +kernel
theorem dX12_readAtom_143 : decode cX12_readAtom 143 = .ok (.aload_n 0, 1) := by decide +kernel
theorem dX12_readAtom_144 : decode cX12_readAtom 144 = .ok (.bipush 62, 2) := by decide +kernel
theorem dX12_readAtom_146 : decode cX12_readAtom 146 = .ok (.invokevirtual 210, 3) := by decide +kernel
theorem dX12_readAtom_149 : decode cX12_readAtom 149 = .ok (.ifCond .eq 10, 3) := by decide +kernel
theorem dX12_readAtom_152 : decode cX12_readAtom 152 = .ok (.aload_n 0, 1) := by decide +kernel
theorem dX12_readAtom_153 : decode cX12_readAtom 153 = .ok (.invokevirtual 233, 3) := by decide +kernel
theorem dX12_readAtom_156 : decode cX12_readAtom 156 = .ok (.ifCond .ne 5, 3) := by decide +kernel
theorem dX12_readAtom_159 : decode cX12_readAtom 159 = .ok (.iconst 0, 1) := by decide +kernel
theorem dX12_readAtom_160 : decode cX12_readAtom 160 = .ok (.ireturn, 1) := by decide +kernel
theorem dX12_readAtom_161 : decode cX12_readAtom 161 = .ok (.aload_n 0, 1) := by decide +kernel
theorem dX12_readAtom_162 : decode cX12_readAtom 162 = .ok (.iload_n 1, 1) := by decide +kernel
theorem dX12_readAtom_163 : decode cX12_readAtom 163 = .ok (.ifCond .eq 8, 3) := by decide +kernel
theorem dX12_readAtom_166 : decode cX12_readAtom 166 = .ok (.bipush 13, 2) := by decide +kernel
theorem dX12_readAtom_168 : decode cX12_readAtom 168 = .ok (.goto 5, 3) := by decide +kernel
theorem dX12_readAtom_171 : decode cX12_readAtom 171 = .ok (.bipush 14, 2) := by decide +kernel
theorem dX12_readAtom_173 : decode cX12_readAtom 173 = .ok (.iconst 0, 1) := by decide +kernel
theorem dX12_readAtom_174 : decode cX12_readAtom 174 = .ok (.invokevirtual 203, 3) := by decide +kernel
theorem dX12_readAtom_177 : decode cX12_readAtom 177 = .ok (.iconst 1, 1) := by decide +kernel
theorem dX12_readAtom_178 : decode cX12_readAtom 178 = .ok (.ireturn, 1) := by decide +kernel
theorem dX12_readAllOf_0 : decode cX12_readAllOf 0 = .ok (.aload_n 0, 1) := by decide +kernel
theorem dX12_readAllOf_1 : decode cX12_readAllOf 1 = .ok (.invokevirtual 227, 3) := by decide +kernel
theorem dX12_readAllOf_4 : decode cX12_readAllOf 4 = .ok (.ifCond .ne 5, 3) := by decide +kernel
theorem dX12_readAllOf_7 : decode cX12_readAllOf 7 = .ok (.iconst 0, 1) := by decide +kernel
theorem dX12_readAllOf_8 : decode cX12_readAllOf 8 = .ok (.ireturn, 1) := by decide +kernel
theorem dX12_readAllOf_9 : decode cX12_readAllOf 9 = .ok (.aload_n 0, 1) := by decide +kernel
theorem dX12_readAllOf_10 : decode cX12_readAllOf 10 = .ok (.ldc 236, 2) := by decide +kernel
theorem dX12_readAllOf_12 : decode cX12_readAllOf 12 = .ok (.invokevirtual 130, 3) := by decide +kernel
theorem dX12_readAllOf_15 : decode cX12_readAllOf 15 = .ok (.ifCond .eq 22, 3) := by decide +kernel
theorem dX12_readAllOf_18 : decode cX12_readAllOf 18 = .ok (.aload_n 0, 1) := by decide +kernel
theorem dX12_readAllOf_19 : decode cX12_readAllOf 19 = .ok (.invokevirtual 227, 3) := by decide +kernel
theorem dX12_readAllOf_22 : decode cX12_readAllOf 22 = .ok (.ifCond .ne 5, 3) := by decide +kernel
theorem dX12_readAllOf_25 : decode cX12_readAllOf 25 = .ok (.iconst 0, 1) := by decide +kernel
theorem dX12_readAllOf_26 : decode cX12_readAllOf 26 = .ok (.ireturn, 1) := by decide +kernel
theorem dX12_readAllOf_27 : decode cX12_readAllOf 27 = .ok (.aload_n 0, 1) := by decide +kernel
theorem dX12_readAllOf_28 : decode cX12_readAllOf 28 = .ok (.bipush 16, 2) := by decide +kernel
theorem dX12_readAllOf_30 : decode cX12_readAllOf 30 = .ok (.iconst 0, 1) := by decide +kernel
theorem dX12_readAllOf_31 : decode cX12_readAllOf 31 = .ok (.invokevirtual 203, 3) := by decide +kernel
theorem dX12_readAllOf_34 : decode cX12_readAllOf 34 = .ok (.goto (-25), 3) := by decide +kernel
theorem dX12_readAllOf_37 : decode cX12_readAllOf 37 = .ok (.iconst 1, 1) := by decide +kernel
theorem dX12_readAllOf_38 : decode cX12_readAllOf 38 = .ok (.ireturn, 1) := by decide +kernel
theorem dX12_readCond_0 : decode cX12_readCond 0 = .ok (.aload_n 0, 1) := by decide +kernel
theorem dX12_readCond_1 : decode cX12_readCond 1 = .ok (.invokevirtual 238, 3) := by decide +kernel
theorem dX12_readCond_4 : decode cX12_readCond 4 = .ok (.ifCond .ne 5, 3) := by decide +kernel
theorem dX12_readCond_7 : decode cX12_readCond 7 = .ok (.iconst 0, 1) := by decide +kernel
theorem dX12_readCond_8 : decode cX12_readCond 8 = .ok (.ireturn, 1) := by decide +kernel
theorem dX12_readCond_9 : decode cX12_readCond 9 = .ok (.aload_n 0, 1) := by decide +kernel
theorem dX12_readCond_10 : decode cX12_readCond 10 = .ok (.ldc 241, 2) := by decide +kernel
theorem dX12_readCond_12 : decode cX12_readCond 12 = .ok (.invokevirtual 130, 3) := by decide +kernel
theorem dX12_readCond_15 : decode cX12_readCond 15 = .ok (.ifCond .eq 22, 3) := by decide +kernel
theorem dX12_readCond_18 : decode cX12_readCond 18 = .ok (.aload_n 0, 1) := by decide +kernel
theorem dX12_readCond_19 : decode cX12_readCond 19 = .ok (.invokevirtual 238, 3) := by decide +kernel
theorem dX12_readCond_22 : decode cX12_readCond 22 = .ok (.ifCond .ne 5, 3) := by decide +kernel
theorem dX12_readCond_25 : decode cX12_readCond 25 = .ok (.iconst 0, 1) := by decide +kernel
theorem dX12_readCond_26 : decode cX12_readCond 26 = .ok (.ireturn, 1) := by decide +kernel
theorem dX12_readCond_27 : decode cX12_readCond 27 = .ok (.aload_n 0, 1) := by decide +kernel
theorem dX12_readCond_28 : decode cX12_readCond 28 = .ok (.bipush 17, 2) := by decide +kernel
theorem dX12_readCond_30 : decode cX12_readCond 30 = .ok (.iconst 0, 1) := by decide +kernel
theorem dX12_readCond_31 : decode cX12_readCond 31 = .ok (.invokevirtual 203, 3) := by decide +kernel
theorem dX12_readCond_34 : decode cX12_readCond 34 = .ok (.goto (-25), 3) := by decide +kernel
theorem dX12_readCond_37 : decode cX12_readCond 37 = .ok (.iconst 1, 1) := by decide +kernel
theorem dX12_readCond_38 : decode cX12_readCond 38 = .ok (.ireturn, 1) := by decide +kernel
theorem dX12_readLawLine_0 : decode cX12_readLawLine 0 = .ok (.sipush 1265, 3) := by decide +kernel
theorem dX12_readLawLine_3 : decode cX12_readLawLine 3 = .ok (.iconst 4, 1) := by decide +kernel
theorem dX12_readLawLine_4 : decode cX12_readLawLine 4 = .ok (.iload_n 1, 1) := by decide +kernel
theorem dX12_readLawLine_5 : decode cX12_readLawLine 5 = .ok (.imul, 1) := by decide +kernel
theorem dX12_readLawLine_6 : decode cX12_readLawLine 6 = .ok (.iadd, 1) := by decide +kernel
theorem dX12_readLawLine_7 : decode cX12_readLawLine 7 = .ok (.istore_n 2, 1) := by decide +kernel
theorem dX12_readLawLine_8 : decode cX12_readLawLine 8 = .ok (.aload_n 0, 1) := by decide +kernel
theorem dX12_readLawLine_9 : decode cX12_readLawLine 9 = .ok (.getfield 13, 3) := by decide +kernel
theorem dX12_readLawLine_12 : decode cX12_readLawLine 12 = .ok (.iload_n 2, 1) := by decide +kernel
theorem dX12_readLawLine_13 : decode cX12_readLawLine 13 = .ok (.aload_n 0, 1) := by decide +kernel
theorem dX12_readLawLine_14 : decode cX12_readLawLine 14 = .ok (.ldc 243, 2) := by decide +kernel
theorem dX12_readLawLine_16 : decode cX12_readLawLine 16 = .ok (.invokevirtual 123, 3) := by decide +kernel
theorem dX12_readLawLine_19 : decode cX12_readLawLine 19 = .ok (.ifCond .eq 7, 3) := by decide +kernel
theorem dX12_readLawLine_22 : decode cX12_readLawLine 22 = .ok (.iconst 0, 1) := by decide +kernel
theorem dX12_readLawLine_23 : decode cX12_readLawLine 23 = .ok (.goto 30, 3) := by decide +kernel
theorem dX12_readLawLine_26 : decode cX12_readLawLine 26 = .ok (.aload_n 0, 1) := by decide +kernel
theorem dX12_readLawLine_27 : decode cX12_readLawLine 27 = .ok (.ldc 157, 2) := by decide +kernel
theorem dX12_readLawLine_29 : decode cX12_readLawLine 29 = .ok (.invokevirtual 123, 3) := by decide +kernel
theorem dX12_readLawLine_32 : decode cX12_readLawLine 32 = .ok (.ifCond .eq 7, 3) := by decide +kernel
theorem dX12_readLawLine_35 : decode cX12_readLawLine 35 = .ok (.iconst 1, 1) := by decide +kernel
theorem dX12_readLawLine_36 : decode cX12_readLawLine 36 = .ok (.goto 17, 3) := by decide +kernel
theorem dX12_readLawLine_39 : decode cX12_readLawLine 39 = .ok (.aload_n 0, 1) := by decide +kernel
theorem dX12_readLawLine_40 : decode cX12_readLawLine 40 = .ok (.ldc 245, 2) := by decide +kernel
theorem dX12_readLawLine_42 : decode cX12_readLawLine 42 = .ok (.invokevirtual 123, 3) := by decide +kernel
theorem dX12_readLawLine_45 : decode cX12_readLawLine 45 = .ok (.ifCond .eq 7, 3) := by decide +kernel
theorem dX12_readLawLine_48 : decode cX12_readLawLine 48 = .ok (.iconst 2, 1) := by decide +kernel
theorem dX12_readLawLine_49 : decode cX12_readLawLine 49 = .ok (.goto 4, 3) := by decide +kernel
theorem dX12_readLawLine_52 : decode cX12_readLawLine 52 = .ok (.iconst (-1), 1) := by decide +kernel
theorem dX12_readLawLine_53 : decode cX12_readLawLine 53 = .ok (.iastore, 1) := by decide +kernel
theorem dX12_readLawLine_54 : decode cX12_readLawLine 54 = .ok (.aload_n 0, 1) := by decide +kernel
theorem dX12_readLawLine_55 : decode cX12_readLawLine 55 = .ok (.getfield 13, 3) := by decide +kernel
theorem dX12_readLawLine_58 : decode cX12_readLawLine 58 = .ok (.iload_n 2, 1) := by decide +kernel
theorem dX12_readLawLine_59 : decode cX12_readLawLine 59 = .ok (.iaload, 1) := by decide +kernel
theorem dX12_readLawLine_60 : decode cX12_readLawLine 60 = .ok (.ifCond .ge 5, 3) := by decide +kernel
theorem dX12_readLawLine_63 : decode cX12_readLawLine 63 = .ok (.iconst 0, 1) := by decide +kernel
theorem dX12_readLawLine_64 : decode cX12_readLawLine 64 = .ok (.ireturn, 1) := by decide +kernel
theorem dX12_readLawLine_65 : decode cX12_readLawLine 65 = .ok (.aload_n 0, 1) := by decide +kernel
theorem dX12_readLawLine_66 : decode cX12_readLawLine 66 = .ok (.getfield 13, 3) := by decide +kernel
theorem dX12_readLawLine_69 : decode cX12_readLawLine 69 = .ok (.iload_n 2, 1) := by decide +kernel
theorem dX12_readLawLine_70 : decode cX12_readLawLine 70 = .ok (.iconst 1, 1) := by decide +kernel
theorem dX12_readLawLine_71 : decode cX12_readLawLine 71 = .ok (.iadd, 1) := by decide +kernel
theorem dX12_readLawLine_72 : decode cX12_readLawLine 72 = .ok (.aload_n 0, 1) := by decide +kernel
theorem dX12_readLawLine_73 : decode cX12_readLawLine 73 = .ok (.iconst 0, 1) := by decide +kernel
theorem dX12_readLawLine_74 : decode cX12_readLawLine 74 = .ok (.bipush 100, 2) := by decide +kernel
theorem dX12_readLawLine_76 : decode cX12_readLawLine 76 = .ok (.invokevirtual 127, 3) := by decide +kernel
theorem dX12_readLawLine_79 : decode cX12_readLawLine 79 = .ok (.iastore, 1) := by decide +kernel
theorem dX12_readLawLine_80 : decode cX12_readLawLine 80 = .ok (.aload_n 0, 1) := by decide +kernel
theorem dX12_readLawLine_81 : decode cX12_readLawLine 81 = .ok (.getfield 13, 3) := by decide +kernel
theorem dX12_readLawLine_84 : decode cX12_readLawLine 84 = .ok (.iload_n 2, 1) := by decide +kernel
theorem dX12_readLawLine_85 : decode cX12_readLawLine 85 = .ok (.iconst 1, 1) := by decide +kernel
theorem dX12_readLawLine_86 : decode cX12_readLawLine 86 = .ok (.iadd, 1) := by decide +kernel
theorem dX12_readLawLine_87 : decode cX12_readLawLine 87 = .ok (.iaload, 1) := by decide +kernel
theorem dX12_readLawLine_88 : decode cX12_readLawLine 88 = .ok (.ifCond .ge 5, 3) := by decide +kernel
theorem dX12_readLawLine_91 : decode cX12_readLawLine 91 = .ok (.iconst 0, 1) := by decide +kernel
theorem dX12_readLawLine_92 : decode cX12_readLawLine 92 = .ok (.ireturn, 1) := by decide +kernel
theorem dX12_readLawLine_93 : decode cX12_readLawLine 93 = .ok (.aload_n 0, 1) := by decide +kernel
theorem dX12_readLawLine_94 : decode cX12_readLawLine 94 = .ok (.getfield 13, 3) := by decide +kernel
theorem dX12_readLawLine_97 : decode cX12_readLawLine 97 = .ok (.iload_n 2, 1) := by decide +kernel
theorem dX12_readLawLine_98 : decode cX12_readLawLine 98 = .ok (.iconst 2, 1) := by decide +kernel
theorem dX12_readLawLine_99 : decode cX12_readLawLine 99 = .ok (.iadd, 1) := by decide +kernel
theorem dX12_readLawLine_100 : decode cX12_readLawLine 100 = .ok (.aload_n 0, 1) := by decide +kernel
theorem dX12_readLawLine_101 : decode cX12_readLawLine 101 = .ok (.getfield 195, 3) := by decide +kernel
theorem dX12_readLawLine_104 : decode cX12_readLawLine 104 = .ok (.iastore, 1) := by decide +kernel
theorem dX12_readLawLine_105 : decode cX12_readLawLine 105 = .ok (.aload_n 0, 1) := by decide +kernel
theorem dX12_readLawLine_106 : decode cX12_readLawLine 106 = .ok (.iconst 0, 1) := by decide +kernel
theorem dX12_readLawLine_107 : decode cX12_readLawLine 107 = .ok (.putfield 219, 3) := by decide +kernel
theorem dX12_readLawLine_110 : decode cX12_readLawLine 110 = .ok (.aload_n 0, 1) := by decide +kernel
theorem dX12_readLawLine_111 : decode cX12_readLawLine 111 = .ok (.ldc 247, 2) := by decide +kernel
theorem dX12_readLawLine_113 : decode cX12_readLawLine 113 = .ok (.invokevirtual 130, 3) := by decide +kernel
theorem dX12_readLawLine_116 : decode cX12_readLawLine 116 = .ok (.ifCond .eq 12, 3) := by decide +kernel
theorem dX12_readLawLine_119 : decode cX12_readLawLine 119 = .ok (.aload_n 0, 1) := by decide +kernel
theorem dX12_readLawLine_120 : decode cX12_readLawLine 120 = .ok (.invokevirtual 222, 3) := by decide +kernel
theorem dX12_readLawLine_123 : decode cX12_readLawLine 123 = .ok (.ifCond .ne 5, 3) := by decide +kernel
theorem dX12_readLawLine_126 : decode cX12_readLawLine 126 = .ok (.iconst 0, 1) := by decide +kernel
theorem dX12_readLawLine_127 : decode cX12_readLawLine 127 = .ok (.ireturn, 1) := by decide +kernel
theorem dX12_readLawLine_128 : decode cX12_readLawLine 128 = .ok (.aload_n 0, 1) := by decide +kernel
theorem dX12_readLawLine_129 : decode cX12_readLawLine 129 = .ok (.getfield 13, 3) := by decide +kernel
theorem dX12_readLawLine_132 : decode cX12_readLawLine 132 = .ok (.iload_n 2, 1) := by decide +kernel
theorem dX12_readLawLine_133 : decode cX12_readLawLine 133 = .ok (.iconst 3, 1) := by decide +kernel
theorem dX12_readLawLine_134 : decode cX12_readLawLine 134 = .ok (.iadd, 1) := by decide +kernel
theorem dX12_readLawLine_135 : decode cX12_readLawLine 135 = .ok (.aload_n 0, 1) := by decide +kernel
theorem dX12_readLawLine_136 : decode cX12_readLawLine 136 = .ok (.getfield 195, 3) := by decide +kernel
theorem dX12_readLawLine_139 : decode cX12_readLawLine 139 = .ok (.iastore, 1) := by decide +kernel
theorem dX12_readLawLine_140 : decode cX12_readLawLine 140 = .ok (.iconst 1, 1) := by decide +kernel
theorem dX12_readLawLine_141 : decode cX12_readLawLine 141 = .ok (.ireturn, 1) := by decide +kernel
theorem dX12_readLine_0 : decode cX12_readLine 0 = .ok (.aload_n 0, 1) := by decide +kernel
theorem dX12_readLine_1 : decode cX12_readLine 1 = .ok (.invokevirtual 120, 3) := by decide +kernel
theorem dX12_readLine_4 : decode cX12_readLine 4 = .ok (.iload_n 2, 1) := by decide +kernel
theorem dX12_readLine_5 : decode cX12_readLine 5 = .ok (.iload_n 1, 1) := by decide +kernel
theorem dX12_readLine_6 : decode cX12_readLine 6 = .ok (.ifCond .eq 8, 3) := by decide +kernel
theorem dX12_readLine_9 : decode cX12_readLine 9 = .ok (.bipush 14, 2) := by decide +kernel
theorem dX12_readLine_11 : decode cX12_readLine 11 = .ok (.goto 5, 3) := by decide +kernel
theorem dX12_readLine_14 : decode cX12_readLine 14 = .ok (.bipush 12, 2) := by decide +kernel
theorem dX12_readLine_16 : decode cX12_readLine 16 = .ok (.if_icmp .ge 29, 3) := by decide +kernel
theorem dX12_readLine_19 : decode cX12_readLine 19 = .ok (.iload_n 1, 1) := by decide +kernel
theorem dX12_readLine_20 : decode cX12_readLine 20 = .ok (.ifCond .eq 13, 3) := by decide +kernel
theorem dX12_readLine_23 : decode cX12_readLine 23 = .ok (.aload_n 0, 1) := by decide +kernel
theorem dX12_readLine_24 : decode cX12_readLine 24 = .ok (.invokevirtual 249, 3) := by decide +kernel
theorem dX12_readLine_27 : decode cX12_readLine 27 = .ok (.ifCond .eq 18, 3) := by decide +kernel
theorem dX12_readLine_30 : decode cX12_readLine 30 = .ok (.goto 11, 3) := by decide +kernel
theorem dX12_readLine_33 : decode cX12_readLine 33 = .ok (.aload_n 0, 1) := by decide +kernel
theorem dX12_readLine_34 : decode cX12_readLine 34 = .ok (.iload_n 2, 1) := by decide +kernel
theorem dX12_readLine_35 : decode cX12_readLine 35 = .ok (.invokevirtual 252, 3) := by decide +kernel
theorem dX12_readLine_38 : decode cX12_readLine 38 = .ok (.ifCond .eq 7, 3) := by decide +kernel
theorem dX12_readLine_41 : decode cX12_readLine 41 = .ok (.iconst 1, 1) := by decide +kernel
theorem dX12_readLine_42 : decode cX12_readLine 42 = .ok (.goto 4, 3) := by decide +kernel
theorem dX12_readLine_45 : decode cX12_readLine 45 = .ok (.iconst 0, 1) := by decide +kernel
theorem dX12_readLine_46 : decode cX12_readLine 46 = .ok (.ireturn, 1) := by decide +kernel
theorem dX12_readAll_0 : decode cX12_readAll 0 = .ok (.aload_n 0, 1) := by decide +kernel
theorem dX12_readAll_1 : decode cX12_readAll 1 = .ok (.invokevirtual 255, 3) := by decide +kernel
theorem dX12_readAll_4 : decode cX12_readAll 4 = .ok (.aload_n 0, 1) := by decide +kernel
theorem dX12_readAll_5 : decode cX12_readAll 5 = .ok (.iconst 0, 1) := by decide +kernel
theorem dX12_readAll_6 : decode cX12_readAll 6 = .ok (.putfield 195, 3) := by decide +kernel
theorem dX12_readAll_9 : decode cX12_readAll 9 = .ok (.aload_n 0, 1) := by decide +kernel
theorem dX12_readAll_10 : decode cX12_readAll 10 = .ok (.invokevirtual 108, 3) := by decide +kernel
theorem dX12_readAll_13 : decode cX12_readAll 13 = .ok (.aload_n 0, 1) := by decide +kernel
theorem dX12_readAll_14 : decode cX12_readAll 14 = .ok (.getfield 95, 3) := by decide +kernel
theorem dX12_readAll_17 : decode cX12_readAll 17 = .ok (.aload_n 0, 1) := by decide +kernel
theorem dX12_readAll_18 : decode cX12_readAll 18 = .ok (.getfield 98, 3) := by decide +kernel
theorem dX12_readAll_21 : decode cX12_readAll 21 = .ok (.if_icmp .ne 5, 3) := by decide +kernel
theorem dX12_readAll_24 : decode cX12_readAll 24 = .ok (.iconst 0, 1) := by decide +kernel
theorem dX12_readAll_25 : decode cX12_readAll 25 = .ok (.ireturn, 1) := by decide +kernel
theorem dX12_readAll_26 : decode cX12_readAll 26 = .ok (.iconst 0, 1) := by decide +kernel
theorem dX12_readAll_27 : decode cX12_readAll 27 = .ok (.istore_n 2, 1) := by decide +kernel
theorem dX12_readAll_28 : decode cX12_readAll 28 = .ok (.aload_n 0, 1) := by decide +kernel
theorem dX12_readAll_29 : decode cX12_readAll 29 = .ok (.iload_n 1, 1) := by decide +kernel
theorem dX12_readAll_30 : decode cX12_readAll 30 = .ok (.iload_n 2, 1) := by decide +kernel
theorem dX12_readAll_31 : decode cX12_readAll 31 = .ok (.invokevirtual 258, 3) := by decide +kernel
theorem dX12_readAll_34 : decode cX12_readAll 34 = .ok (.ifCond .ne 5, 3) := by decide +kernel
theorem dX12_readAll_37 : decode cX12_readAll 37 = .ok (.iconst (-1), 1) := by decide +kernel
theorem dX12_readAll_38 : decode cX12_readAll 38 = .ok (.ireturn, 1) := by decide +kernel
theorem dX12_readAll_39 : decode cX12_readAll 39 = .ok (.aload_n 0, 1) := by decide +kernel
theorem dX12_readAll_40 : decode cX12_readAll 40 = .ok (.invokevirtual 108, 3) := by decide +kernel
theorem dX12_readAll_43 : decode cX12_readAll 43 = .ok (.aload_n 0, 1) := by decide +kernel
theorem dX12_readAll_44 : decode cX12_readAll 44 = .ok (.getfield 95, 3) := by decide +kernel
theorem dX12_readAll_47 : decode cX12_readAll 47 = .ok (.aload_n 0, 1) := by decide +kernel
theorem dX12_readAll_48 : decode cX12_readAll 48 = .ok (.getfield 98, 3) := by decide +kernel
theorem dX12_readAll_51 : decode cX12_readAll 51 = .ok (.if_icmp .ne 7, 3) := by decide +kernel
theorem dX12_readAll_54 : decode cX12_readAll 54 = .ok (.iload_n 2, 1) := by decide +kernel
theorem dX12_readAll_55 : decode cX12_readAll 55 = .ok (.iconst 1, 1) := by decide +kernel
theorem dX12_readAll_56 : decode cX12_readAll 56 = .ok (.iadd, 1) := by decide +kernel
theorem dX12_readAll_57 : decode cX12_readAll 57 = .ok (.ireturn, 1) := by decide +kernel
theorem dX12_readAll_58 : decode cX12_readAll 58 = .ok (.aload_n 0, 1) := by decide +kernel
theorem dX12_readAll_59 : decode cX12_readAll 59 = .ok (.bipush 59, 2) := by decide +kernel
theorem dX12_readAll_61 : decode cX12_readAll 61 = .ok (.bipush 59, 2) := by decide +kernel
theorem dX12_readAll_63 : decode cX12_readAll 63 = .ok (.invokevirtual 101, 3) := by decide +kernel
theorem dX12_readAll_66 : decode cX12_readAll 66 = .ok (.ifCond .ne 5, 3) := by decide +kernel
theorem dX12_readAll_69 : decode cX12_readAll 69 = .ok (.iconst (-1), 1) := by decide +kernel
theorem dX12_readAll_70 : decode cX12_readAll 70 = .ok (.ireturn, 1) := by decide +kernel
theorem dX12_readAll_71 : decode cX12_readAll 71 = .ok (.aload_n 0, 1) := by decide +kernel
theorem dX12_readAll_72 : decode cX12_readAll 72 = .ok (.dup, 1) := by decide +kernel
theorem dX12_readAll_73 : decode cX12_readAll 73 = .ok (.getfield 95, 3) := by decide +kernel
theorem dX12_readAll_76 : decode cX12_readAll 76 = .ok (.iconst 1, 1) := by decide +kernel
theorem dX12_readAll_77 : decode cX12_readAll 77 = .ok (.iadd, 1) := by decide +kernel
theorem dX12_readAll_78 : decode cX12_readAll 78 = .ok (.putfield 95, 3) := by decide +kernel
theorem dX12_readAll_81 : decode cX12_readAll 81 = .ok (.iinc 2 1, 3) := by decide +kernel
theorem dX12_readAll_84 : decode cX12_readAll 84 = .ok (.goto (-56), 3) := by decide +kernel
theorem dX12_parish_0 : decode cX12_parish 0 = .ok (.iconst 0, 1) := by decide +kernel
theorem dX12_parish_1 : decode cX12_parish 1 = .ok (.istore_n 1, 1) := by decide +kernel
theorem dX12_parish_2 : decode cX12_parish 2 = .ok (.iload_n 1, 1) := by decide +kernel
theorem dX12_parish_3 : decode cX12_parish 3 = .ok (.sipush 1264, 3) := by decide +kernel
theorem dX12_parish_6 : decode cX12_parish 6 = .ok (.if_icmp .ge 21, 3) := by decide +kernel
theorem dX12_parish_9 : decode cX12_parish 9 = .ok (.aload_n 0, 1) := by decide +kernel
theorem dX12_parish_10 : decode cX12_parish 10 = .ok (.getfield 20, 3) := by decide +kernel
theorem dX12_parish_13 : decode cX12_parish 13 = .ok (.iload_n 1, 1) := by decide +kernel
theorem dX12_parish_14 : decode cX12_parish 14 = .ok (.aload_n 0, 1) := by decide +kernel
theorem dX12_parish_15 : decode cX12_parish 15 = .ok (.getfield 13, 3) := by decide +kernel
theorem dX12_parish_18 : decode cX12_parish 18 = .ok (.iload_n 1, 1) := by decide +kernel
theorem dX12_parish_19 : decode cX12_parish 19 = .ok (.iaload, 1) := by decide +kernel
theorem dX12_parish_20 : decode cX12_parish 20 = .ok (.iastore, 1) := by decide +kernel
theorem dX12_parish_21 : decode cX12_parish 21 = .ok (.iinc 1 1, 3) := by decide +kernel
theorem dX12_parish_24 : decode cX12_parish 24 = .ok (.goto (-22), 3) := by decide +kernel
theorem dX12_parish_27 : decode cX12_parish 27 = .ok (.aload_n 0, 1) := by decide +kernel
theorem dX12_parish_28 : decode cX12_parish 28 = .ok (.iconst 1, 1) := by decide +kernel
theorem dX12_parish_29 : decode cX12_parish 29 = .ok (.invokevirtual 262, 3) := by decide +kernel
theorem dX12_parish_32 : decode cX12_parish 32 = .ok (.istore_n 1, 1) := by decide +kernel
theorem dX12_parish_33 : decode cX12_parish 33 = .ok (.aload_n 0, 1) := by decide +kernel
theorem dX12_parish_34 : decode cX12_parish 34 = .ok (.iload_n 1, 1) := by decide +kernel
theorem dX12_parish_35 : decode cX12_parish 35 = .ok (.ifCond .ge 10, 3) := by decide +kernel
theorem dX12_parish_38 : decode cX12_parish 38 = .ok (.aload_n 0, 1) := by decide +kernel
theorem dX12_parish_39 : decode cX12_parish 39 = .ok (.getfield 105, 3) := by decide +kernel
theorem dX12_parish_42 : decode cX12_parish 42 = .ok (.goto 4, 3) := by decide +kernel
theorem dX12_parish_45 : decode cX12_parish 45 = .ok (.iconst (-1), 1) := by decide +kernel
theorem dX12_parish_46 : decode cX12_parish 46 = .ok (.putfield 33, 3) := by decide +kernel
theorem dX12_parish_49 : decode cX12_parish 49 = .ok (.aload_n 0, 1) := by decide +kernel
theorem dX12_parish_50 : decode cX12_parish 50 = .ok (.iload_n 1, 1) := by decide +kernel
theorem dX12_parish_51 : decode cX12_parish 51 = .ok (.ifCond .ge 7, 3) := by decide +kernel
theorem dX12_parish_54 : decode cX12_parish 54 = .ok (.iconst 1, 1) := by decide +kernel
theorem dX12_parish_55 : decode cX12_parish 55 = .ok (.goto 4, 3) := by decide +kernel
theorem dX12_parish_58 : decode cX12_parish 58 = .ok (.iconst 0, 1) := by decide +kernel
theorem dX12_parish_59 : decode cX12_parish 59 = .ok (.iconst 1, 1) := by decide +kernel
theorem dX12_parish_60 : decode cX12_parish 60 = .ok (.invokevirtual 266, 3) := by decide +kernel
theorem dX12_parish_63 : decode cX12_parish 63 = .ok (.ifCond .ne 27, 3) := by decide +kernel
theorem dX12_parish_66 : decode cX12_parish 66 = .ok (.aload_n 0, 1) := by decide +kernel
theorem dX12_parish_67 : decode cX12_parish 67 = .ok (.aload_n 0, 1) := by decide +kernel
theorem dX12_parish_68 : decode cX12_parish 68 = .ok (.getfield 13, 3) := by decide +kernel
theorem dX12_parish_71 : decode cX12_parish 71 = .ok (.iconst 1, 1) := by decide +kernel
theorem dX12_parish_72 : decode cX12_parish 72 = .ok (.iaload, 1) := by decide +kernel
theorem dX12_parish_73 : decode cX12_parish 73 = .ok (.bipush 12, 2) := by decide +kernel
theorem dX12_parish_75 : decode cX12_parish 75 = .ok (.if_icmp .ne 7, 3) := by decide +kernel
theorem dX12_parish_78 : decode cX12_parish 78 = .ok (.iconst 1, 1) := by decide +kernel
theorem dX12_parish_79 : decode cX12_parish 79 = .ok (.goto 4, 3) := by decide +kernel
theorem dX12_parish_82 : decode cX12_parish 82 = .ok (.iconst 0, 1) := by decide +kernel
theorem dX12_parish_83 : decode cX12_parish 83 = .ok (.iconst 2, 1) := by decide +kernel
theorem dX12_parish_84 : decode cX12_parish 84 = .ok (.invokevirtual 266, 3) := by decide +kernel
theorem dX12_parish_87 : decode cX12_parish 87 = .ok (.ifCond .eq 32, 3) := by decide +kernel
theorem dX12_parish_90 : decode cX12_parish 90 = .ok (.iconst 0, 1) := by decide +kernel
theorem dX12_parish_91 : decode cX12_parish 91 = .ok (.istore_n 2, 1) := by decide +kernel
theorem dX12_parish_92 : decode cX12_parish 92 = .ok (.iload_n 2, 1) := by decide +kernel
theorem dX12_parish_93 : decode cX12_parish 93 = .ok (.sipush 1264, 3) := by decide +kernel
theorem dX12_parish_96 : decode cX12_parish 96 = .ok (.if_icmp .ge 21, 3) := by decide +kernel
theorem dX12_parish_99 : decode cX12_parish 99 = .ok (.aload_n 0, 1) := by decide +kernel
theorem dX12_parish_100 : decode cX12_parish 100 = .ok (.getfield 13, 3) := by decide +kernel
theorem dX12_parish_103 : decode cX12_parish 103 = .ok (.iload_n 2, 1) := by decide +kernel
theorem dX12_parish_104 : decode cX12_parish 104 = .ok (.aload_n 0, 1) := by decide +kernel
theorem dX12_parish_105 : decode cX12_parish 105 = .ok (.getfield 20, 3) := by decide +kernel
theorem dX12_parish_108 : decode cX12_parish 108 = .ok (.iload_n 2, 1) := by decide +kernel
theorem dX12_parish_109 : decode cX12_parish 109 = .ok (.iaload, 1) := by decide +kernel
theorem dX12_parish_110 : decode cX12_parish 110 = .ok (.iastore, 1) := by decide +kernel
theorem dX12_parish_111 : decode cX12_parish 111 = .ok (.iinc 2 1, 3) := by decide +kernel
theorem dX12_parish_114 : decode cX12_parish 114 = .ok (.goto (-22), 3) := by decide +kernel
theorem dX12_parish_117 : decode cX12_parish 117 = .ok (.iconst 0, 1) := by decide +kernel
theorem dX12_parish_118 : decode cX12_parish 118 = .ok (.ireturn, 1) := by decide +kernel
theorem dX12_parish_119 : decode cX12_parish 119 = .ok (.aload_n 0, 1) := by decide +kernel
theorem dX12_parish_120 : decode cX12_parish 120 = .ok (.getfield 13, 3) := by decide +kernel
theorem dX12_parish_123 : decode cX12_parish 123 = .ok (.iconst 1, 1) := by decide +kernel
theorem dX12_parish_124 : decode cX12_parish 124 = .ok (.dup2, 1) := by decide +kernel
theorem dX12_parish_125 : decode cX12_parish 125 = .ok (.iaload, 1) := by decide +kernel
theorem dX12_parish_126 : decode cX12_parish 126 = .ok (.iconst 1, 1) := by decide +kernel
theorem dX12_parish_127 : decode cX12_parish 127 = .ok (.iadd, 1) := by decide +kernel
theorem dX12_parish_128 : decode cX12_parish 128 = .ok (.iastore, 1) := by decide +kernel
theorem dX12_parish_129 : decode cX12_parish 129 = .ok (.aload_n 0, 1) := by decide +kernel
theorem dX12_parish_130 : decode cX12_parish 130 = .ok (.iconst 0, 1) := by decide +kernel
theorem dX12_parish_131 : decode cX12_parish 131 = .ok (.putfield 71, 3) := by decide +kernel
theorem dX12_parish_134 : decode cX12_parish 134 = .ok (.aload_n 0, 1) := by decide +kernel
theorem dX12_parish_135 : decode cX12_parish 135 = .ok (.getfield 13, 3) := by decide +kernel
theorem dX12_parish_138 : decode cX12_parish 138 = .ok (.iconst 1, 1) := by decide +kernel
theorem dX12_parish_139 : decode cX12_parish 139 = .ok (.iaload, 1) := by decide +kernel
theorem dX12_parish_140 : decode cX12_parish 140 = .ok (.ireturn, 1) := by decide +kernel
theorem dX12_law_0 : decode cX12_law 0 = .ok (.aload_n 0, 1) := by decide +kernel
theorem dX12_law_1 : decode cX12_law 1 = .ok (.iconst 0, 1) := by decide +kernel
theorem dX12_law_2 : decode cX12_law 2 = .ok (.invokevirtual 262, 3) := by decide +kernel
theorem dX12_law_5 : decode cX12_law 5 = .ok (.istore_n 1, 1) := by decide +kernel
theorem dX12_law_6 : decode cX12_law 6 = .ok (.aload_n 0, 1) := by decide +kernel
theorem dX12_law_7 : decode cX12_law 7 = .ok (.iload_n 1, 1) := by decide +kernel
theorem dX12_law_8 : decode cX12_law 8 = .ok (.ifCond .ge 10, 3) := by decide +kernel
theorem dX12_law_11 : decode cX12_law 11 = .ok (.aload_n 0, 1) := by decide +kernel
theorem dX12_law_12 : decode cX12_law 12 = .ok (.getfield 105, 3) := by decide +kernel
theorem dX12_law_15 : decode cX12_law 15 = .ok (.goto 4, 3) := by decide +kernel
theorem dX12_law_18 : decode cX12_law 18 = .ok (.iconst (-1), 1) := by decide +kernel
theorem dX12_law_19 : decode cX12_law 19 = .ok (.putfield 33, 3) := by decide +kernel
theorem dX12_law_22 : decode cX12_law 22 = .ok (.aload_n 0, 1) := by decide +kernel
theorem dX12_law_23 : decode cX12_law 23 = .ok (.iload_n 1, 1) := by decide +kernel
theorem dX12_law_24 : decode cX12_law 24 = .ok (.ifCond .ge 7, 3) := by decide +kernel
theorem dX12_law_27 : decode cX12_law 27 = .ok (.iconst 1, 1) := by decide +kernel
theorem dX12_law_28 : decode cX12_law 28 = .ok (.goto 4, 3) := by decide +kernel
theorem dX12_law_31 : decode cX12_law 31 = .ok (.iconst 0, 1) := by decide +kernel
theorem dX12_law_32 : decode cX12_law 32 = .ok (.iconst 1, 1) := by decide +kernel
theorem dX12_law_33 : decode cX12_law 33 = .ok (.invokevirtual 266, 3) := by decide +kernel
theorem dX12_law_36 : decode cX12_law 36 = .ok (.ifCond .eq 5, 3) := by decide +kernel
theorem dX12_law_39 : decode cX12_law 39 = .ok (.iconst 0, 1) := by decide +kernel
theorem dX12_law_40 : decode cX12_law 40 = .ok (.ireturn, 1) := by decide +kernel
theorem dX12_law_41 : decode cX12_law 41 = .ok (.aload_n 0, 1) := by decide +kernel
theorem dX12_law_42 : decode cX12_law 42 = .ok (.getfield 13, 3) := by decide +kernel
theorem dX12_law_45 : decode cX12_law 45 = .ok (.sipush 1264, 3) := by decide +kernel
theorem dX12_law_48 : decode cX12_law 48 = .ok (.iload_n 1, 1) := by decide +kernel
theorem dX12_law_49 : decode cX12_law 49 = .ok (.iastore, 1) := by decide +kernel
theorem dX12_law_50 : decode cX12_law 50 = .ok (.iconst 0, 1) := by decide +kernel
theorem dX12_law_51 : decode cX12_law 51 = .ok (.istore_n 2, 1) := by decide +kernel
theorem dX12_law_52 : decode cX12_law 52 = .ok (.iload_n 2, 1) := by decide +kernel
theorem dX12_law_53 : decode cX12_law 53 = .ok (.sipush 849, 3) := by decide +kernel
theorem dX12_law_56 : decode cX12_law 56 = .ok (.if_icmp .ge 29, 3) := by decide +kernel
theorem dX12_law_59 : decode cX12_law 59 = .ok (.aload_n 0, 1) := by decide +kernel
theorem dX12_law_60 : decode cX12_law 60 = .ok (.getfield 13, 3) := by decide +kernel
theorem dX12_law_63 : decode cX12_law 63 = .ok (.sipush 415, 3) := by decide +kernel
theorem dX12_law_66 : decode cX12_law 66 = .ok (.iload_n 2, 1) := by decide +kernel
theorem dX12_law_67 : decode cX12_law 67 = .ok (.iadd, 1) := by decide +kernel
theorem dX12_law_68 : decode cX12_law 68 = .ok (.aload_n 0, 1) := by decide +kernel
theorem dX12_law_69 : decode cX12_law 69 = .ok (.getfield 13, 3) := by decide +kernel
theorem dX12_law_72 : decode cX12_law 72 = .ok (.sipush 1264, 3) := by decide +kernel
theorem dX12_law_75 : decode cX12_law 75 = .ok (.iload_n 2, 1) := by decide +kernel
theorem dX12_law_76 : decode cX12_law 76 = .ok (.iadd, 1) := by decide +kernel
theorem dX12_law_77 : decode cX12_law 77 = .ok (.iaload, 1) := by decide +kernel
theorem dX12_law_78 : decode cX12_law 78 = .ok (.iastore, 1) := by decide +kernel
theorem dX12_law_79 : decode cX12_law 79 = .ok (.iinc 2 1, 3) := by decide +kernel
theorem dX12_law_82 : decode cX12_law 82 = .ok (.goto (-30), 3) := by decide +kernel
theorem dX12_law_85 : decode cX12_law 85 = .ok (.aload_n 0, 1) := by decide +kernel
theorem dX12_law_86 : decode cX12_law 86 = .ok (.getfield 13, 3) := by decide +kernel
theorem dX12_law_89 : decode cX12_law 89 = .ok (.iconst 2, 1) := by decide +kernel
theorem dX12_law_90 : decode cX12_law 90 = .ok (.iconst 1, 1) := by decide +kernel
theorem dX12_law_91 : decode cX12_law 91 = .ok (.iastore, 1) := by decide +kernel
theorem dX12_law_92 : decode cX12_law 92 = .ok (.aload_n 0, 1) := by decide +kernel
theorem dX12_law_93 : decode cX12_law 93 = .ok (.iconst 0, 1) := by decide +kernel
theorem dX12_law_94 : decode cX12_law 94 = .ok (.putfield 71, 3) := by decide +kernel
theorem dX12_law_97 : decode cX12_law 97 = .ok (.iload_n 1, 1) := by decide +kernel
theorem dX12_law_98 : decode cX12_law 98 = .ok (.ireturn, 1) := by decide +kernel
theorem dX12_factOf_0 : decode cX12_factOf 0 = .ok (.aload_n 0, 1) := by decide +kernel
theorem dX12_factOf_1 : decode cX12_factOf 1 = .ok (.iload_n 3, 1) := by decide +kernel
theorem dX12_factOf_2 : decode cX12_factOf 2 = .ok (.iconst 1, 1) := by decide +kernel
theorem dX12_factOf_3 : decode cX12_factOf 3 = .ok (.invokevirtual 77, 3) := by decide +kernel
theorem dX12_factOf_6 : decode cX12_factOf 6 = .ok (.istore 4, 2) := by decide +kernel
theorem dX12_factOf_8 : decode cX12_factOf 8 = .ok (.iload_n 1, 1) := by decide +kernel
theorem dX12_factOf_9 : decode cX12_factOf 9 = .ok (.tableswitch 160 0 10 #[59, 61, 68, 75, 83, 91, 99, 109, 116, 130, 147], 59) := by decide +kernel
theorem dX12_factOf_68 : decode cX12_factOf 68 = .ok (.iload_n 3, 1) := by decide +kernel
theorem dX12_factOf_69 : decode cX12_factOf 69 = .ok (.ireturn, 1) := by decide +kernel
theorem dX12_factOf_70 : decode cX12_factOf 70 = .ok (.aload_n 0, 1) := by decide +kernel
theorem dX12_factOf_71 : decode cX12_factOf 71 = .ok (.iload_n 3, 1) := by decide +kernel
theorem dX12_factOf_72 : decode cX12_factOf 72 = .ok (.iconst 0, 1) := by decide +kernel
theorem dX12_factOf_73 : decode cX12_factOf 73 = .ok (.invokevirtual 77, 3) := by decide +kernel
theorem dX12_factOf_76 : decode cX12_factOf 76 = .ok (.ireturn, 1) := by decide +kernel
theorem dX12_factOf_77 : decode cX12_factOf 77 = .ok (.aload_n 0, 1) := by decide +kernel
theorem dX12_factOf_78 : decode cX12_factOf 78 = .ok (.iload_n 3, 1) := by decide +kernel
theorem dX12_factOf_79 : decode cX12_factOf 79 = .ok (.iconst 3, 1) := by decide +kernel
theorem dX12_factOf_80 : decode cX12_factOf 80 = .ok (.invokevirtual 77, 3) := by decide +kernel
theorem dX12_factOf_83 : decode cX12_factOf 83 = .ok (.ireturn, 1) := by decide +kernel
theorem dX12_factOf_84 : decode cX12_factOf 84 = .ok (.aload_n 0, 1) := by decide +kernel
theorem dX12_factOf_85 : decode cX12_factOf 85 = .ok (.iload 4, 2) := by decide +kernel
theorem dX12_factOf_87 : decode cX12_factOf 87 = .ok (.iconst 1, 1) := by decide +kernel
theorem dX12_factOf_88 : decode cX12_factOf 88 = .ok (.invokevirtual 80, 3) := by decide +kernel
theorem dX12_factOf_91 : decode cX12_factOf 91 = .ok (.ireturn, 1) := by decide +kernel
theorem dX12_factOf_92 : decode cX12_factOf 92 = .ok (.aload_n 0, 1) := by decide +kernel
theorem dX12_factOf_93 : decode cX12_factOf 93 = .ok (.iload 4, 2) := by decide +kernel
theorem dX12_factOf_95 : decode cX12_factOf 95 = .ok (.iconst 2, 1) := by decide +kernel
theorem dX12_factOf_96 : decode cX12_factOf 96 = .ok (.invokevirtual 80, 3) := by decide +kernel
theorem dX12_factOf_99 : decode cX12_factOf 99 = .ok (.ireturn, 1) := by decide +kernel
theorem dX12_factOf_100 : decode cX12_factOf 100 = .ok (.aload_n 0, 1) := by decide +kernel
theorem dX12_factOf_101 : decode cX12_factOf 101 = .ok (.iload 4, 2) := by decide +kernel
theorem dX12_factOf_103 : decode cX12_factOf 103 = .ok (.iconst 3, 1) := by decide +kernel
theorem dX12_factOf_104 : decode cX12_factOf 104 = .ok (.invokevirtual 80, 3) := by decide +kernel
theorem dX12_factOf_107 : decode cX12_factOf 107 = .ok (.ireturn, 1) := by decide +kernel
theorem dX12_factOf_108 : decode cX12_factOf 108 = .ok (.aload_n 0, 1) := by decide +kernel
theorem dX12_factOf_109 : decode cX12_factOf 109 = .ok (.iload_n 3, 1) := by decide +kernel
theorem dX12_factOf_110 : decode cX12_factOf 110 = .ok (.iconst 2, 1) := by decide +kernel
theorem dX12_factOf_111 : decode cX12_factOf 111 = .ok (.invokevirtual 77, 3) := by decide +kernel
theorem dX12_factOf_114 : decode cX12_factOf 114 = .ok (.invokestatic 269, 3) := by decide +kernel
theorem dX12_factOf_117 : decode cX12_factOf 117 = .ok (.ireturn, 1) := by decide +kernel
theorem dX12_factOf_118 : decode cX12_factOf 118 = .ok (.aload_n 0, 1) := by decide +kernel
theorem dX12_factOf_119 : decode cX12_factOf 119 = .ok (.getfield 13, 3) := by decide +kernel
theorem dX12_factOf_122 : decode cX12_factOf 122 = .ok (.iconst 3, 1) := by decide +kernel
theorem dX12_factOf_123 : decode cX12_factOf 123 = .ok (.iaload, 1) := by decide +kernel
theorem dX12_factOf_124 : decode cX12_factOf 124 = .ok (.ireturn, 1) := by decide +kernel
theorem dX12_factOf_125 : decode cX12_factOf 125 = .ok (.aload_n 0, 1) := by decide +kernel
theorem dX12_factOf_126 : decode cX12_factOf 126 = .ok (.iload_n 3, 1) := by decide +kernel
theorem dX12_factOf_127 : decode cX12_factOf 127 = .ok (.invokevirtual 165, 3) := by decide +kernel
theorem dX12_factOf_130 : decode cX12_factOf 130 = .ok (.ifCond .eq 7, 3) := by decide +kernel
theorem dX12_factOf_133 : decode cX12_factOf 133 = .ok (.iconst 1, 1) := by decide +kernel
theorem dX12_factOf_134 : decode cX12_factOf 134 = .ok (.goto 4, 3) := by decide +kernel
theorem dX12_factOf_137 : decode cX12_factOf 137 = .ok (.iconst 0, 1) := by decide +kernel
theorem dX12_factOf_138 : decode cX12_factOf 138 = .ok (.ireturn, 1) := by decide +kernel
theorem dX12_factOf_139 : decode cX12_factOf 139 = .ok (.aload_n 0, 1) := by decide +kernel
theorem dX12_factOf_140 : decode cX12_factOf 140 = .ok (.iload_n 3, 1) := by decide +kernel
theorem dX12_factOf_141 : decode cX12_factOf 141 = .ok (.iconst 4, 1) := by decide +kernel
theorem dX12_factOf_142 : decode cX12_factOf 142 = .ok (.invokevirtual 77, 3) := by decide +kernel
theorem dX12_factOf_145 : decode cX12_factOf 145 = .ok (.iload 4, 2) := by decide +kernel
theorem dX12_factOf_147 : decode cX12_factOf 147 = .ok (.if_icmp .ne 7, 3) := by decide +kernel
theorem dX12_factOf_150 : decode cX12_factOf 150 = .ok (.iconst 1, 1) := by decide +kernel
theorem dX12_factOf_151 : decode cX12_factOf 151 = .ok (.goto 4, 3) := by decide +kernel
theorem dX12_factOf_154 : decode cX12_factOf 154 = .ok (.iconst 0, 1) := by decide +kernel
theorem dX12_factOf_155 : decode cX12_factOf 155 = .ok (.ireturn, 1) := by decide +kernel
theorem dX12_factOf_156 : decode cX12_factOf 156 = .ok (.iload 4, 2) := by decide +kernel
theorem dX12_factOf_158 : decode cX12_factOf 158 = .ok (.bipush 8, 2) := by decide +kernel
theorem dX12_factOf_160 : decode cX12_factOf 160 = .ok (.if_icmp .ne 7, 3) := by decide +kernel
theorem dX12_factOf_163 : decode cX12_factOf 163 = .ok (.iconst 1, 1) := by decide +kernel
theorem dX12_factOf_164 : decode cX12_factOf 164 = .ok (.goto 4, 3) := by decide +kernel
theorem dX12_factOf_167 : decode cX12_factOf 167 = .ok (.iconst 0, 1) := by decide +kernel
theorem dX12_factOf_168 : decode cX12_factOf 168 = .ok (.ireturn, 1) := by decide +kernel
theorem dX12_factOf_169 : decode cX12_factOf 169 = .ok (.iload_n 2, 1) := by decide +kernel
theorem dX12_factOf_170 : decode cX12_factOf 170 = .ok (.ireturn, 1) := by decide +kernel
theorem dX12_holdsLine_0 : decode cX12_holdsLine 0 = .ok (.iconst 0, 1) := by decide +kernel
theorem dX12_holdsLine_1 : decode cX12_holdsLine 1 = .ok (.istore_n 3, 1) := by decide +kernel
theorem dX12_holdsLine_2 : decode cX12_holdsLine 2 = .ok (.sipush 416, 3) := by decide +kernel
theorem dX12_holdsLine_5 : decode cX12_holdsLine 5 = .ok (.iconst 4, 1) := by decide +kernel
theorem dX12_holdsLine_6 : decode cX12_holdsLine 6 = .ok (.iload_n 1, 1) := by decide +kernel
theorem dX12_holdsLine_7 : decode cX12_holdsLine 7 = .ok (.imul, 1) := by decide +kernel
theorem dX12_holdsLine_8 : decode cX12_holdsLine 8 = .ok (.iadd, 1) := by decide +kernel
theorem dX12_holdsLine_9 : decode cX12_holdsLine 9 = .ok (.istore 4, 2) := by decide +kernel
theorem dX12_holdsLine_11 : decode cX12_holdsLine 11 = .ok (.aload_n 0, 1) := by decide +kernel
theorem dX12_holdsLine_12 : decode cX12_holdsLine 12 = .ok (.getfield 13, 3) := by decide +kernel
theorem dX12_holdsLine_15 : decode cX12_holdsLine 15 = .ok (.iload 4, 2) := by decide +kernel
theorem dX12_holdsLine_17 : decode cX12_holdsLine 17 = .ok (.iconst 2, 1) := by decide +kernel
theorem dX12_holdsLine_18 : decode cX12_holdsLine 18 = .ok (.iadd, 1) := by decide +kernel
theorem dX12_holdsLine_19 : decode cX12_holdsLine 19 = .ok (.iaload, 1) := by decide +kernel
theorem dX12_holdsLine_20 : decode cX12_holdsLine 20 = .ok (.istore 5, 2) := by decide +kernel
theorem dX12_holdsLine_22 : decode cX12_holdsLine 22 = .ok (.iload 5, 2) := by decide +kernel
theorem dX12_holdsLine_24 : decode cX12_holdsLine 24 = .ok (.aload_n 0, 1) := by decide +kernel
theorem dX12_holdsLine_25 : decode cX12_holdsLine 25 = .ok (.getfield 13, 3) := by decide +kernel
theorem dX12_holdsLine_28 : decode cX12_holdsLine 28 = .ok (.iload 4, 2) := by decide +kernel
theorem dX12_holdsLine_30 : decode cX12_holdsLine 30 = .ok (.iconst 3, 1) := by decide +kernel
theorem dX12_holdsLine_31 : decode cX12_holdsLine 31 = .ok (.iadd, 1) := by decide +kernel
theorem dX12_holdsLine_32 : decode cX12_holdsLine 32 = .ok (.iaload, 1) := by decide +kernel
theorem dX12_holdsLine_33 : decode cX12_holdsLine 33 = .ok (.if_icmp .ge 230, 3) := by decide +kernel
theorem dX12_holdsLine_36 : decode cX12_holdsLine 36 = .ok (.aload_n 0, 1) := by decide +kernel
theorem dX12_holdsLine_37 : decode cX12_holdsLine 37 = .ok (.getfield 13, 3) := by decide +kernel
theorem dX12_holdsLine_40 : decode cX12_holdsLine 40 = .ok (.sipush 464, 3) := by decide +kernel
theorem dX12_holdsLine_43 : decode cX12_holdsLine 43 = .ok (.iconst 2, 1) := by decide +kernel
theorem dX12_holdsLine_44 : decode cX12_holdsLine 44 = .ok (.iload 5, 2) := by decide +kernel
theorem dX12_holdsLine_46 : decode cX12_holdsLine 46 = .ok (.imul, 1) := by decide +kernel
theorem dX12_holdsLine_47 : decode cX12_holdsLine 47 = .ok (.iadd, 1) := by decide +kernel
theorem dX12_holdsLine_48 : decode cX12_holdsLine 48 = .ok (.iaload, 1) := by decide +kernel
theorem dX12_holdsLine_49 : decode cX12_holdsLine 49 = .ok (.istore 6, 2) := by decide +kernel
theorem dX12_holdsLine_51 : decode cX12_holdsLine 51 = .ok (.iload 6, 2) := by decide +kernel
theorem dX12_holdsLine_53 : decode cX12_holdsLine 53 = .ok (.bipush 11, 2) := by decide +kernel
theorem dX12_holdsLine_55 : decode cX12_holdsLine 55 = .ok (.if_icmp .gt 37, 3) := by decide +kernel
theorem dX12_holdsLine_58 : decode cX12_holdsLine 58 = .ok (.aload_n 0, 1) := by decide +kernel
theorem dX12_holdsLine_59 : decode cX12_holdsLine 59 = .ok (.getfield 39, 3) := by decide +kernel
theorem dX12_holdsLine_62 : decode cX12_holdsLine 62 = .ok (.iload_n 3, 1) := by decide +kernel
theorem dX12_holdsLine_63 : decode cX12_holdsLine 63 = .ok (.aload_n 0, 1) := by decide +kernel
theorem dX12_holdsLine_64 : decode cX12_holdsLine 64 = .ok (.iload 6, 2) := by decide +kernel
theorem dX12_holdsLine_66 : decode cX12_holdsLine 66 = .ok (.aload_n 0, 1) := by decide +kernel
theorem dX12_holdsLine_67 : decode cX12_holdsLine 67 = .ok (.getfield 13, 3) := by decide +kernel
theorem dX12_holdsLine_70 : decode cX12_holdsLine 70 = .ok (.sipush 464, 3) := by decide +kernel
theorem dX12_holdsLine_73 : decode cX12_holdsLine 73 = .ok (.iconst 2, 1) := by decide +kernel
theorem dX12_holdsLine_74 : decode cX12_holdsLine 74 = .ok (.iload 5, 2) := by decide +kernel
theorem dX12_holdsLine_76 : decode cX12_holdsLine 76 = .ok (.imul, 1) := by decide +kernel
theorem dX12_holdsLine_77 : decode cX12_holdsLine 77 = .ok (.iadd, 1) := by decide +kernel
theorem dX12_holdsLine_78 : decode cX12_holdsLine 78 = .ok (.iconst 1, 1) := by decide +kernel
theorem dX12_holdsLine_79 : decode cX12_holdsLine 79 = .ok (.iadd, 1) := by decide +kernel
theorem dX12_holdsLine_80 : decode cX12_holdsLine 80 = .ok (.iaload, 1) := by decide +kernel
theorem dX12_holdsLine_81 : decode cX12_holdsLine 81 = .ok (.iload_n 2, 1) := by decide +kernel
theorem dX12_holdsLine_82 : decode cX12_holdsLine 82 = .ok (.invokevirtual 275, 3) := by decide +kernel
theorem dX12_holdsLine_85 : decode cX12_holdsLine 85 = .ok (.iastore, 1) := by decide +kernel
theorem dX12_holdsLine_86 : decode cX12_holdsLine 86 = .ok (.iinc 3 1, 3) := by decide +kernel
theorem dX12_holdsLine_89 : decode cX12_holdsLine 89 = .ok (.goto 168, 3) := by decide +kernel
theorem dX12_holdsLine_92 : decode cX12_holdsLine 92 = .ok (.iload 6, 2) := by decide +kernel
theorem dX12_holdsLine_94 : decode cX12_holdsLine 94 = .ok (.bipush 15, 2) := by decide +kernel
theorem dX12_holdsLine_96 : decode cX12_holdsLine 96 = .ok (.if_icmp .ne 24, 3) := by decide +kernel
theorem dX12_holdsLine_99 : decode cX12_holdsLine 99 = .ok (.aload_n 0, 1) := by decide +kernel
theorem dX12_holdsLine_100 : decode cX12_holdsLine 100 = .ok (.getfield 39, 3) := by decide +kernel
theorem dX12_holdsLine_103 : decode cX12_holdsLine 103 = .ok (.iload_n 3, 1) := by decide +kernel
theorem dX12_holdsLine_104 : decode cX12_holdsLine 104 = .ok (.iconst 1, 1) := by decide +kernel
theorem dX12_holdsLine_105 : decode cX12_holdsLine 105 = .ok (.isub, 1) := by decide +kernel
theorem dX12_holdsLine_106 : decode cX12_holdsLine 106 = .ok (.iconst 1, 1) := by decide +kernel
theorem dX12_holdsLine_107 : decode cX12_holdsLine 107 = .ok (.aload_n 0, 1) := by decide +kernel
theorem dX12_holdsLine_108 : decode cX12_holdsLine 108 = .ok (.getfield 39, 3) := by decide +kernel
theorem dX12_holdsLine_111 : decode cX12_holdsLine 111 = .ok (.iload_n 3, 1) := by decide +kernel
theorem dX12_holdsLine_112 : decode cX12_holdsLine 112 = .ok (.iconst 1, 1) := by decide +kernel
theorem dX12_holdsLine_113 : decode cX12_holdsLine 113 = .ok (.isub, 1) := by decide +kernel
theorem dX12_holdsLine_114 : decode cX12_holdsLine 114 = .ok (.iaload, 1) := by decide +kernel
theorem dX12_holdsLine_115 : decode cX12_holdsLine 115 = .ok (.isub, 1) := by decide +kernel
theorem dX12_holdsLine_116 : decode cX12_holdsLine 116 = .ok (.iastore, 1) := by decide +kernel
theorem dX12_holdsLine_117 : decode cX12_holdsLine 117 = .ok (.goto 140, 3) := by decide +kernel
theorem dX12_holdsLine_120 : decode cX12_holdsLine 120 = .ok (.iinc 3 (-1), 3) := by decide +kernel
theorem dX12_holdsLine_123 : decode cX12_holdsLine 123 = .ok (.aload_n 0, 1) := by decide +kernel
theorem dX12_holdsLine_124 : decode cX12_holdsLine 124 = .ok (.getfield 39, 3) := by decide +kernel
theorem dX12_holdsLine_127 : decode cX12_holdsLine 127 = .ok (.iload_n 3, 1) := by decide +kernel
theorem dX12_holdsLine_128 : decode cX12_holdsLine 128 = .ok (.iconst 1, 1) := by decide +kernel
theorem dX12_holdsLine_129 : decode cX12_holdsLine 129 = .ok (.isub, 1) := by decide +kernel
theorem dX12_holdsLine_130 : decode cX12_holdsLine 130 = .ok (.iaload, 1) := by decide +kernel
theorem dX12_holdsLine_131 : decode cX12_holdsLine 131 = .ok (.istore 7, 2) := by decide +kernel
theorem dX12_holdsLine_133 : decode cX12_holdsLine 133 = .ok (.aload_n 0, 1) := by decide +kernel
theorem dX12_holdsLine_134 : decode cX12_holdsLine 134 = .ok (.getfield 39, 3) := by decide +kernel
theorem dX12_holdsLine_137 : decode cX12_holdsLine 137 = .ok (.iload_n 3, 1) := by decide +kernel
theorem dX12_holdsLine_138 : decode cX12_holdsLine 138 = .ok (.iaload, 1) := by decide +kernel
theorem dX12_holdsLine_139 : decode cX12_holdsLine 139 = .ok (.istore 8, 2) := by decide +kernel
theorem dX12_holdsLine_141 : decode cX12_holdsLine 141 = .ok (.iload 6, 2) := by decide +kernel
theorem dX12_holdsLine_143 : decode cX12_holdsLine 143 = .ok (.bipush 13, 2) := by decide +kernel
theorem dX12_holdsLine_145 : decode cX12_holdsLine 145 = .ok (.if_icmp .ne 18, 3) := by decide +kernel
theorem dX12_holdsLine_148 : decode cX12_holdsLine 148 = .ok (.iload 7, 2) := by decide +kernel
theorem dX12_holdsLine_150 : decode cX12_holdsLine 150 = .ok (.iload 8, 2) := by decide +kernel
theorem dX12_holdsLine_152 : decode cX12_holdsLine 152 = .ok (.if_icmp .ge 7, 3) := by decide +kernel
theorem dX12_holdsLine_155 : decode cX12_holdsLine 155 = .ok (.iconst 1, 1) := by decide +kernel
theorem dX12_holdsLine_156 : decode cX12_holdsLine 156 = .ok (.goto 66, 3) := by decide +kernel
theorem dX12_holdsLine_159 : decode cX12_holdsLine 159 = .ok (.iconst 0, 1) := by decide +kernel
theorem dX12_holdsLine_160 : decode cX12_holdsLine 160 = .ok (.goto 62, 3) := by decide +kernel
theorem dX12_holdsLine_163 : decode cX12_holdsLine 163 = .ok (.iload 6, 2) := by decide +kernel
theorem dX12_holdsLine_165 : decode cX12_holdsLine 165 = .ok (.bipush 14, 2) := by decide +kernel
theorem dX12_holdsLine_167 : decode cX12_holdsLine 167 = .ok (.if_icmp .ne 18, 3) := by decide +kernel
theorem dX12_holdsLine_170 : decode cX12_holdsLine 170 = .ok (.iload 7, 2) := by decide +kernel
theorem dX12_holdsLine_172 : decode cX12_holdsLine 172 = .ok (.iload 8, 2) := by decide +kernel
theorem dX12_holdsLine_174 : decode cX12_holdsLine 174 = .ok (.if_icmp .le 7, 3) := by decide +kernel
theorem dX12_holdsLine_177 : decode cX12_holdsLine 177 = .ok (.iconst 1, 1) := by decide +kernel
theorem dX12_holdsLine_178 : decode cX12_holdsLine 178 = .ok (.goto 44, 3) := by decide +kernel
theorem dX12_holdsLine_181 : decode cX12_holdsLine 181 = .ok (.iconst 0, 1) := by decide +kernel
theorem dX12_holdsLine_182 : decode cX12_holdsLine 182 = .ok (.goto 40, 3) := by decide +kernel
theorem dX12_holdsLine_185 : decode cX12_holdsLine 185 = .ok (.iload 6, 2) := by decide +kernel
theorem dX12_holdsLine_187 : decode cX12_holdsLine 187 = .ok (.bipush 16, 2) := by decide +kernel
theorem dX12_holdsLine_189 : decode cX12_holdsLine 189 = .ok (.if_icmp .ne 20, 3) := by decide +kernel
theorem dX12_holdsLine_192 : decode cX12_holdsLine 192 = .ok (.iload 7, 2) := by decide +kernel
theorem dX12_holdsLine_194 : decode cX12_holdsLine 194 = .ok (.iload 8, 2) := by decide +kernel
theorem dX12_holdsLine_196 : decode cX12_holdsLine 196 = .ok (.iadd, 1) := by decide +kernel
theorem dX12_holdsLine_197 : decode cX12_holdsLine 197 = .ok (.iconst 2, 1) := by decide +kernel
theorem dX12_holdsLine_198 : decode cX12_holdsLine 198 = .ok (.if_icmp .ne 7, 3) := by decide +kernel
theorem dX12_holdsLine_201 : decode cX12_holdsLine 201 = .ok (.iconst 1, 1) := by decide +kernel
theorem dX12_holdsLine_202 : decode cX12_holdsLine 202 = .ok (.goto 20, 3) := by decide +kernel
theorem dX12_holdsLine_205 : decode cX12_holdsLine 205 = .ok (.iconst 0, 1) := by decide +kernel
theorem dX12_holdsLine_206 : decode cX12_holdsLine 206 = .ok (.goto 16, 3) := by decide +kernel
theorem dX12_holdsLine_209 : decode cX12_holdsLine 209 = .ok (.iload 7, 2) := by decide +kernel
theorem dX12_holdsLine_211 : decode cX12_holdsLine 211 = .ok (.iload 8, 2) := by decide +kernel
theorem dX12_holdsLine_213 : decode cX12_holdsLine 213 = .ok (.iadd, 1) := by decide +kernel
theorem dX12_holdsLine_214 : decode cX12_holdsLine 214 = .ok (.ifCond .le 7, 3) := by decide +kernel
theorem dX12_holdsLine_217 : decode cX12_holdsLine 217 = .ok (.iconst 1, 1) := by decide +kernel
theorem dX12_holdsLine_218 : decode cX12_holdsLine 218 = .ok (.goto 4, 3) := by decide +kernel
theorem dX12_holdsLine_221 : decode cX12_holdsLine 221 = .ok (.iconst 0, 1) := by decide +kernel
theorem dX12_holdsLine_222 : decode cX12_holdsLine 222 = .ok (.istore 9, 2) := by decide +kernel
theorem dX12_holdsLine_224 : decode cX12_holdsLine 224 = .ok (.aload_n 0, 1) := by decide +kernel
theorem dX12_holdsLine_225 : decode cX12_holdsLine 225 = .ok (.getfield 39, 3) := by decide +kernel
theorem dX12_holdsLine_228 : decode cX12_holdsLine 228 = .ok (.iload_n 3, 1) := by decide +kernel
theorem dX12_holdsLine_229 : decode cX12_holdsLine 229 = .ok (.iconst 1, 1) := by decide +kernel
theorem dX12_holdsLine_230 : decode cX12_holdsLine 230 = .ok (.isub, 1) := by decide +kernel
theorem dX12_holdsLine_231 : decode cX12_holdsLine 231 = .ok (.iload 6, 2) := by decide +kernel
theorem dX12_holdsLine_233 : decode cX12_holdsLine 233 = .ok (.bipush 12, 2) := by decide +kernel
theorem dX12_holdsLine_235 : decode cX12_holdsLine 235 = .ok (.if_icmp .ne 11, 3) := by decide +kernel
theorem dX12_holdsLine_238 : decode cX12_holdsLine 238 = .ok (.iload 7, 2) := by decide +kernel
theorem dX12_holdsLine_240 : decode cX12_holdsLine 240 = .ok (.iload 8, 2) := by decide +kernel
theorem dX12_holdsLine_242 : decode cX12_holdsLine 242 = .ok (.iadd, 1) := by decide +kernel
theorem dX12_holdsLine_243 : decode cX12_holdsLine 243 = .ok (.goto 13, 3) := by decide +kernel
theorem dX12_holdsLine_246 : decode cX12_holdsLine 246 = .ok (.iload 9, 2) := by decide +kernel
theorem dX12_holdsLine_248 : decode cX12_holdsLine 248 = .ok (.ifCond .eq 7, 3) := by decide +kernel
theorem dX12_holdsLine_251 : decode cX12_holdsLine 251 = .ok (.iconst 1, 1) := by decide +kernel
theorem dX12_holdsLine_252 : decode cX12_holdsLine 252 = .ok (.goto 4, 3) := by decide +kernel
theorem dX12_holdsLine_255 : decode cX12_holdsLine 255 = .ok (.iconst 0, 1) := by decide +kernel
theorem dX12_holdsLine_256 : decode cX12_holdsLine 256 = .ok (.iastore, 1) := by decide +kernel
theorem dX12_holdsLine_257 : decode cX12_holdsLine 257 = .ok (.iinc 5 1, 3) := by decide +kernel
theorem dX12_holdsLine_260 : decode cX12_holdsLine 260 = .ok (.goto (-238), 3) := by decide +kernel
theorem dX12_holdsLine_263 : decode cX12_holdsLine 263 = .ok (.iload_n 3, 1) := by decide +kernel
theorem dX12_holdsLine_264 : decode cX12_holdsLine 264 = .ok (.ifCond .eq 13, 3) := by decide +kernel
theorem dX12_holdsLine_267 : decode cX12_holdsLine 267 = .ok (.aload_n 0, 1) := by decide +kernel
theorem dX12_holdsLine_268 : decode cX12_holdsLine 268 = .ok (.getfield 39, 3) := by decide +kernel
theorem dX12_holdsLine_271 : decode cX12_holdsLine 271 = .ok (.iconst 0, 1) := by decide +kernel
theorem dX12_holdsLine_272 : decode cX12_holdsLine 272 = .ok (.iaload, 1) := by decide +kernel
theorem dX12_holdsLine_273 : decode cX12_holdsLine 273 = .ok (.iconst 1, 1) := by decide +kernel
theorem dX12_holdsLine_274 : decode cX12_holdsLine 274 = .ok (.if_icmp .ne 7, 3) := by decide +kernel
theorem dX12_holdsLine_277 : decode cX12_holdsLine 277 = .ok (.iconst 1, 1) := by decide +kernel
theorem dX12_holdsLine_278 : decode cX12_holdsLine 278 = .ok (.goto 4, 3) := by decide +kernel
theorem dX12_holdsLine_281 : decode cX12_holdsLine 281 = .ok (.iconst 0, 1) := by decide +kernel
theorem dX12_holdsLine_282 : decode cX12_holdsLine 282 = .ok (.ireturn, 1) := by decide +kernel
theorem dX12_sumOf_0 : decode cX12_sumOf 0 = .ok (.iconst 0, 1) := by decide +kernel
theorem dX12_sumOf_1 : decode cX12_sumOf 1 = .ok (.istore_n 3, 1) := by decide +kernel
theorem dX12_sumOf_2 : decode cX12_sumOf 2 = .ok (.iconst 0, 1) := by decide +kernel
theorem dX12_sumOf_3 : decode cX12_sumOf 3 = .ok (.istore 4, 2) := by decide +kernel
theorem dX12_sumOf_5 : decode cX12_sumOf 5 = .ok (.aload_n 0, 1) := by decide +kernel
theorem dX12_sumOf_6 : decode cX12_sumOf 6 = .ok (.getfield 13, 3) := by decide +kernel
theorem dX12_sumOf_9 : decode cX12_sumOf 9 = .ok (.iconst 2, 1) := by decide +kernel
theorem dX12_sumOf_10 : decode cX12_sumOf 10 = .ok (.iaload, 1) := by decide +kernel
theorem dX12_sumOf_11 : decode cX12_sumOf 11 = .ok (.iconst 1, 1) := by decide +kernel
theorem dX12_sumOf_12 : decode cX12_sumOf 12 = .ok (.if_icmp .ne 67, 3) := by decide +kernel
theorem dX12_sumOf_15 : decode cX12_sumOf 15 = .ok (.iload 4, 2) := by decide +kernel
theorem dX12_sumOf_17 : decode cX12_sumOf 17 = .ok (.aload_n 0, 1) := by decide +kernel
theorem dX12_sumOf_18 : decode cX12_sumOf 18 = .ok (.getfield 13, 3) := by decide +kernel
theorem dX12_sumOf_21 : decode cX12_sumOf 21 = .ok (.sipush 415, 3) := by decide +kernel
theorem dX12_sumOf_24 : decode cX12_sumOf 24 = .ok (.iaload, 1) := by decide +kernel
theorem dX12_sumOf_25 : decode cX12_sumOf 25 = .ok (.if_icmp .ge 54, 3) := by decide +kernel
theorem dX12_sumOf_28 : decode cX12_sumOf 28 = .ok (.aload_n 0, 1) := by decide +kernel
theorem dX12_sumOf_29 : decode cX12_sumOf 29 = .ok (.getfield 13, 3) := by decide +kernel
theorem dX12_sumOf_32 : decode cX12_sumOf 32 = .ok (.sipush 416, 3) := by decide +kernel
theorem dX12_sumOf_35 : decode cX12_sumOf 35 = .ok (.iconst 4, 1) := by decide +kernel
theorem dX12_sumOf_36 : decode cX12_sumOf 36 = .ok (.iload 4, 2) := by decide +kernel
theorem dX12_sumOf_38 : decode cX12_sumOf 38 = .ok (.imul, 1) := by decide +kernel
theorem dX12_sumOf_39 : decode cX12_sumOf 39 = .ok (.iadd, 1) := by decide +kernel
theorem dX12_sumOf_40 : decode cX12_sumOf 40 = .ok (.iaload, 1) := by decide +kernel
theorem dX12_sumOf_41 : decode cX12_sumOf 41 = .ok (.iload_n 1, 1) := by decide +kernel
theorem dX12_sumOf_42 : decode cX12_sumOf 42 = .ok (.if_icmp .ne 31, 3) := by decide +kernel
theorem dX12_sumOf_45 : decode cX12_sumOf 45 = .ok (.aload_n 0, 1) := by decide +kernel
theorem dX12_sumOf_46 : decode cX12_sumOf 46 = .ok (.iload 4, 2) := by decide +kernel
theorem dX12_sumOf_48 : decode cX12_sumOf 48 = .ok (.iload_n 2, 1) := by decide +kernel
theorem dX12_sumOf_49 : decode cX12_sumOf 49 = .ok (.invokevirtual 279, 3) := by decide +kernel
theorem dX12_sumOf_52 : decode cX12_sumOf 52 = .ok (.ifCond .eq 21, 3) := by decide +kernel
theorem dX12_sumOf_55 : decode cX12_sumOf 55 = .ok (.iload_n 3, 1) := by decide +kernel
theorem dX12_sumOf_56 : decode cX12_sumOf 56 = .ok (.aload_n 0, 1) := by decide +kernel
theorem dX12_sumOf_57 : decode cX12_sumOf 57 = .ok (.getfield 13, 3) := by decide +kernel
theorem dX12_sumOf_60 : decode cX12_sumOf 60 = .ok (.sipush 416, 3) := by decide +kernel
theorem dX12_sumOf_63 : decode cX12_sumOf 63 = .ok (.iconst 4, 1) := by decide +kernel
theorem dX12_sumOf_64 : decode cX12_sumOf 64 = .ok (.iload 4, 2) := by decide +kernel
theorem dX12_sumOf_66 : decode cX12_sumOf 66 = .ok (.imul, 1) := by decide +kernel
theorem dX12_sumOf_67 : decode cX12_sumOf 67 = .ok (.iadd, 1) := by decide +kernel
theorem dX12_sumOf_68 : decode cX12_sumOf 68 = .ok (.iconst 1, 1) := by decide +kernel
theorem dX12_sumOf_69 : decode cX12_sumOf 69 = .ok (.iadd, 1) := by decide +kernel
theorem dX12_sumOf_70 : decode cX12_sumOf 70 = .ok (.iaload, 1) := by decide +kernel
theorem dX12_sumOf_71 : decode cX12_sumOf 71 = .ok (.iadd, 1) := by decide +kernel
theorem dX12_sumOf_72 : decode cX12_sumOf 72 = .ok (.istore_n 3, 1) := by decide +kernel
theorem dX12_sumOf_73 : decode cX12_sumOf 73 = .ok (.iinc 4 1, 3) := by decide +kernel
theorem dX12_sumOf_76 : decode cX12_sumOf 76 = .ok (.goto (-71), 3) := by decide +kernel
theorem dX12_sumOf_79 : decode cX12_sumOf 79 = .ok (.iload_n 3, 1) := by decide +kernel
theorem dX12_sumOf_80 : decode cX12_sumOf 80 = .ok (.ireturn, 1) := by decide +kernel
theorem dX12_loosensBy_0 : decode cX12_loosensBy 0 = .ok (.iconst 0, 1) := by decide +kernel
theorem dX12_loosensBy_1 : decode cX12_loosensBy 1 = .ok (.bipush 10, 2) := by decide +kernel
theorem dX12_loosensBy_3 : decode cX12_loosensBy 3 = .ok (.aload_n 0, 1) := by decide +kernel
theorem dX12_loosensBy_4 : decode cX12_loosensBy 4 = .ok (.iconst 0, 1) := by decide +kernel
theorem dX12_loosensBy_5 : decode cX12_loosensBy 5 = .ok (.iload_n 1, 1) := by decide +kernel
theorem dX12_loosensBy_6 : decode cX12_loosensBy 6 = .ok (.invokevirtual 282, 3) := by decide +kernel
theorem dX12_loosensBy_9 : decode cX12_loosensBy 9 = .ok (.iadd, 1) := by decide +kernel
theorem dX12_loosensBy_10 : decode cX12_loosensBy 10 = .ok (.iconst 5, 1) := by decide +kernel
theorem dX12_loosensBy_11 : decode cX12_loosensBy 11 = .ok (.aload_n 0, 1) := by decide +kernel
theorem dX12_loosensBy_12 : decode cX12_loosensBy 12 = .ok (.iload_n 1, 1) := by decide +kernel
theorem dX12_loosensBy_13 : decode cX12_loosensBy 13 = .ok (.iconst 3, 1) := by decide +kernel
theorem dX12_loosensBy_14 : decode cX12_loosensBy 14 = .ok (.invokevirtual 77, 3) := by decide +kernel
theorem dX12_loosensBy_17 : decode cX12_loosensBy 17 = .ok (.imul, 1) := by decide +kernel
theorem dX12_loosensBy_18 : decode cX12_loosensBy 18 = .ok (.isub, 1) := by decide +kernel
theorem dX12_loosensBy_19 : decode cX12_loosensBy 19 = .ok (.aload_n 0, 1) := by decide +kernel
theorem dX12_loosensBy_20 : decode cX12_loosensBy 20 = .ok (.iconst 1, 1) := by decide +kernel
theorem dX12_loosensBy_21 : decode cX12_loosensBy 21 = .ok (.iload_n 1, 1) := by decide +kernel
theorem dX12_loosensBy_22 : decode cX12_loosensBy 22 = .ok (.invokevirtual 282, 3) := by decide +kernel
theorem dX12_loosensBy_25 : decode cX12_loosensBy 25 = .ok (.isub, 1) := by decide +kernel
theorem dX12_loosensBy_26 : decode cX12_loosensBy 26 = .ok (.invokestatic 285, 3) := by decide +kernel
theorem dX12_loosensBy_29 : decode cX12_loosensBy 29 = .ok (.ireturn, 1) := by decide +kernel
theorem dX12_leadsTo_0 : decode cX12_leadsTo 0 = .ok (.aload_n 0, 1) := by decide +kernel
theorem dX12_leadsTo_1 : decode cX12_leadsTo 1 = .ok (.aload_n 0, 1) := by decide +kernel
theorem dX12_leadsTo_2 : decode cX12_leadsTo 2 = .ok (.iload_n 1, 1) := by decide +kernel
theorem dX12_leadsTo_3 : decode cX12_leadsTo 3 = .ok (.iconst 1, 1) := by decide +kernel
theorem dX12_leadsTo_4 : decode cX12_leadsTo 4 = .ok (.invokevirtual 77, 3) := by decide +kernel
theorem dX12_leadsTo_7 : decode cX12_leadsTo 7 = .ok (.iconst 3, 1) := by decide +kernel
theorem dX12_leadsTo_8 : decode cX12_leadsTo 8 = .ok (.invokevirtual 80, 3) := by decide +kernel
theorem dX12_leadsTo_11 : decode cX12_leadsTo 11 = .ok (.aload_n 0, 1) := by decide +kernel
theorem dX12_leadsTo_12 : decode cX12_leadsTo 12 = .ok (.iconst 2, 1) := by decide +kernel
theorem dX12_leadsTo_13 : decode cX12_leadsTo 13 = .ok (.iload_n 1, 1) := by decide +kernel
theorem dX12_leadsTo_14 : decode cX12_leadsTo 14 = .ok (.invokevirtual 282, 3) := by decide +kernel
theorem dX12_leadsTo_17 : decode cX12_leadsTo 17 = .ok (.iadd, 1) := by decide +kernel
theorem dX12_leadsTo_18 : decode cX12_leadsTo 18 = .ok (.ireturn, 1) := by decide +kernel
theorem dX12_fateOfAll_0 : decode cX12_fateOfAll 0 = .ok (.iconst 0, 1) := by decide +kernel
theorem dX12_fateOfAll_1 : decode cX12_fateOfAll 1 = .ok (.istore_n 1, 1) := by decide +kernel
theorem dX12_fateOfAll_2 : decode cX12_fateOfAll 2 = .ok (.iconst 0, 1) := by decide +kernel
theorem dX12_fateOfAll_3 : decode cX12_fateOfAll 3 = .ok (.istore_n 2, 1) := by decide +kernel
theorem dX12_fateOfAll_4 : decode cX12_fateOfAll 4 = .ok (.iload_n 2, 1) := by decide +kernel
theorem dX12_fateOfAll_5 : decode cX12_fateOfAll 5 = .ok (.aload_n 0, 1) := by decide +kernel
theorem dX12_fateOfAll_6 : decode cX12_fateOfAll 6 = .ok (.invokevirtual 83, 3) := by decide +kernel
theorem dX12_fateOfAll_9 : decode cX12_fateOfAll 9 = .ok (.if_icmp .ge 19, 3) := by decide +kernel
theorem dX12_fateOfAll_12 : decode cX12_fateOfAll 12 = .ok (.iload_n 1, 1) := by decide +kernel
theorem dX12_fateOfAll_13 : decode cX12_fateOfAll 13 = .ok (.aload_n 0, 1) := by decide +kernel
theorem dX12_fateOfAll_14 : decode cX12_fateOfAll 14 = .ok (.iload_n 2, 1) := by decide +kernel
theorem dX12_fateOfAll_15 : decode cX12_fateOfAll 15 = .ok (.bipush 6, 2) := by decide +kernel
theorem dX12_fateOfAll_17 : decode cX12_fateOfAll 17 = .ok (.invokevirtual 77, 3) := by decide +kernel
theorem dX12_fateOfAll_20 : decode cX12_fateOfAll 20 = .ok (.iadd, 1) := by decide +kernel
theorem dX12_fateOfAll_21 : decode cX12_fateOfAll 21 = .ok (.istore_n 1, 1) := by decide +kernel
theorem dX12_fateOfAll_22 : decode cX12_fateOfAll 22 = .ok (.iinc 2 1, 3) := by decide +kernel
theorem dX12_fateOfAll_25 : decode cX12_fateOfAll 25 = .ok (.goto (-21), 3) := by decide +kernel
theorem dX12_fateOfAll_28 : decode cX12_fateOfAll 28 = .ok (.iload_n 1, 1) := by decide +kernel
theorem dX12_fateOfAll_29 : decode cX12_fateOfAll 29 = .ok (.ireturn, 1) := by decide +kernel
theorem dX12_shareOf_0 : decode cX12_shareOf 0 = .ok (.aload_n 0, 1) := by decide +kernel
theorem dX12_shareOf_1 : decode cX12_shareOf 1 = .ok (.invokevirtual 290, 3) := by decide +kernel
theorem dX12_shareOf_4 : decode cX12_shareOf 4 = .ok (.istore_n 2, 1) := by decide +kernel
theorem dX12_shareOf_5 : decode cX12_shareOf 5 = .ok (.iload_n 2, 1) := by decide +kernel
theorem dX12_shareOf_6 : decode cX12_shareOf 6 = .ok (.ifCond .ne 7, 3) := by decide +kernel
theorem dX12_shareOf_9 : decode cX12_shareOf 9 = .ok (.iconst 0, 1) := by decide +kernel
theorem dX12_shareOf_10 : decode cX12_shareOf 10 = .ok (.goto 15, 3) := by decide +kernel
theorem dX12_shareOf_13 : decode cX12_shareOf 13 = .ok (.bipush 100, 2) := by decide +kernel
theorem dX12_shareOf_15 : decode cX12_shareOf 15 = .ok (.aload_n 0, 1) := by decide +kernel
theorem dX12_shareOf_16 : decode cX12_shareOf 16 = .ok (.iload_n 1, 1) := by decide +kernel
theorem dX12_shareOf_17 : decode cX12_shareOf 17 = .ok (.bipush 6, 2) := by decide +kernel
theorem dX12_shareOf_19 : decode cX12_shareOf 19 = .ok (.invokevirtual 77, 3) := by decide +kernel
theorem dX12_shareOf_22 : decode cX12_shareOf 22 = .ok (.imul, 1) := by decide +kernel
theorem dX12_shareOf_23 : decode cX12_shareOf 23 = .ok (.iload_n 2, 1) := by decide +kernel
theorem dX12_shareOf_24 : decode cX12_shareOf 24 = .ok (.idiv, 1) := by decide +kernel
theorem dX12_shareOf_25 : decode cX12_shareOf 25 = .ok (.ireturn, 1) := by decide +kernel
theorem dX12_howMany_0 : decode cX12_howMany 0 = .ok (.iconst 0, 1) := by decide +kernel
theorem dX12_howMany_1 : decode cX12_howMany 1 = .ok (.istore_n 3, 1) := by decide +kernel
theorem dX12_howMany_2 : decode cX12_howMany 2 = .ok (.iconst 0, 1) := by decide +kernel
theorem dX12_howMany_3 : decode cX12_howMany 3 = .ok (.istore 4, 2) := by decide +kernel
theorem dX12_howMany_5 : decode cX12_howMany 5 = .ok (.iload 4, 2) := by decide +kernel
theorem dX12_howMany_7 : decode cX12_howMany 7 = .ok (.aload_n 0, 1) := by decide +kernel
theorem dX12_howMany_8 : decode cX12_howMany 8 = .ok (.invokevirtual 83, 3) := by decide +kernel
theorem dX12_howMany_11 : decode cX12_howMany 11 = .ok (.if_icmp .ge 28, 3) := by decide +kernel
theorem dX12_howMany_14 : decode cX12_howMany 14 = .ok (.iload_n 3, 1) := by decide +kernel
theorem dX12_howMany_15 : decode cX12_howMany 15 = .ok (.aload_n 0, 1) := by decide +kernel
theorem dX12_howMany_16 : decode cX12_howMany 16 = .ok (.iload 4, 2) := by decide +kernel
theorem dX12_howMany_18 : decode cX12_howMany 18 = .ok (.iload_n 1, 1) := by decide +kernel
theorem dX12_howMany_19 : decode cX12_howMany 19 = .ok (.invokevirtual 77, 3) := by decide +kernel
theorem dX12_howMany_22 : decode cX12_howMany 22 = .ok (.iload_n 2, 1) := by decide +kernel
theorem dX12_howMany_23 : decode cX12_howMany 23 = .ok (.if_icmp .ne 7, 3) := by decide +kernel
theorem dX12_howMany_26 : decode cX12_howMany 26 = .ok (.iconst 1, 1) := by decide +kernel
theorem dX12_howMany_27 : decode cX12_howMany 27 = .ok (.goto 4, 3) := by decide +kernel
theorem dX12_howMany_30 : decode cX12_howMany 30 = .ok (.iconst 0, 1) := by decide +kernel
theorem dX12_howMany_31 : decode cX12_howMany 31 = .ok (.iadd, 1) := by decide +kernel
theorem dX12_howMany_32 : decode cX12_howMany 32 = .ok (.istore_n 3, 1) := by decide +kernel
theorem dX12_howMany_33 : decode cX12_howMany 33 = .ok (.iinc 4 1, 3) := by decide +kernel
theorem dX12_howMany_36 : decode cX12_howMany 36 = .ok (.goto (-31), 3) := by decide +kernel
theorem dX12_howMany_39 : decode cX12_howMany 39 = .ok (.iload_n 3, 1) := by decide +kernel
theorem dX12_howMany_40 : decode cX12_howMany 40 = .ok (.ireturn, 1) := by decide +kernel
theorem dX12_thing_0 : decode cX12_thing 0 = .ok (.aload_n 0, 1) := by decide +kernel
theorem dX12_thing_1 : decode cX12_thing 1 = .ok (.iconst 0, 1) := by decide +kernel
theorem dX12_thing_2 : decode cX12_thing 2 = .ok (.putfield 3, 3) := by decide +kernel
theorem dX12_thing_5 : decode cX12_thing 5 = .ok (.aload_n 0, 1) := by decide +kernel
theorem dX12_thing_6 : decode cX12_thing 6 = .ok (.iload_n 1, 1) := by decide +kernel
theorem dX12_thing_7 : decode cX12_thing 7 = .ok (.invokestatic 293, 3) := by decide +kernel
theorem dX12_thing_10 : decode cX12_thing 10 = .ok (.iconst 1, 1) := by decide +kernel
theorem dX12_thing_11 : decode cX12_thing 11 = .ok (.invokevirtual 266, 3) := by decide +kernel
theorem dX12_thing_14 : decode cX12_thing 14 = .ok (.ifCond .ne 25, 3) := by decide +kernel
theorem dX12_thing_17 : decode cX12_thing 17 = .ok (.aload_n 0, 1) := by decide +kernel
theorem dX12_thing_18 : decode cX12_thing 18 = .ok (.iload_n 2, 1) := by decide +kernel
theorem dX12_thing_19 : decode cX12_thing 19 = .ok (.iconst 0, 1) := by decide +kernel
theorem dX12_thing_20 : decode cX12_thing 20 = .ok (.iconst 4, 1) := by decide +kernel
theorem dX12_thing_21 : decode cX12_thing 21 = .ok (.invokestatic 87, 3) := by decide +kernel
theorem dX12_thing_24 : decode cX12_thing 24 = .ok (.ifCond .ne 7, 3) := by decide +kernel
theorem dX12_thing_27 : decode cX12_thing 27 = .ok (.iconst 1, 1) := by decide +kernel
theorem dX12_thing_28 : decode cX12_thing 28 = .ok (.goto 4, 3) := by decide +kernel
theorem dX12_thing_31 : decode cX12_thing 31 = .ok (.iconst 0, 1) := by decide +kernel
theorem dX12_thing_32 : decode cX12_thing 32 = .ok (.iconst 2, 1) := by decide +kernel
theorem dX12_thing_33 : decode cX12_thing 33 = .ok (.invokevirtual 266, 3) := by decide +kernel
theorem dX12_thing_36 : decode cX12_thing 36 = .ok (.ifCond .eq 5, 3) := by decide +kernel
theorem dX12_thing_39 : decode cX12_thing 39 = .ok (.iconst 0, 1) := by decide +kernel
theorem dX12_thing_40 : decode cX12_thing 40 = .ok (.ireturn, 1) := by decide +kernel
theorem dX12_thing_41 : decode cX12_thing 41 = .ok (.iload_n 2, 1) := by decide +kernel
theorem dX12_thing_42 : decode cX12_thing 42 = .ok (.iconst 4, 1) := by decide +kernel
theorem dX12_thing_43 : decode cX12_thing 43 = .ok (.if_icmp .ne 28, 3) := by decide +kernel
theorem dX12_thing_46 : decode cX12_thing 46 = .ok (.aload_n 0, 1) := by decide +kernel
theorem dX12_thing_47 : decode cX12_thing 47 = .ok (.iload_n 1, 1) := by decide +kernel
theorem dX12_thing_48 : decode cX12_thing 48 = .ok (.iconst 3, 1) := by decide +kernel
theorem dX12_thing_49 : decode cX12_thing 49 = .ok (.invokevirtual 80, 3) := by decide +kernel
theorem dX12_thing_52 : decode cX12_thing 52 = .ok (.aload_n 0, 1) := by decide +kernel
theorem dX12_thing_53 : decode cX12_thing 53 = .ok (.iconst 4, 1) := by decide +kernel
theorem dX12_thing_54 : decode cX12_thing 54 = .ok (.iload_n 1, 1) := by decide +kernel
theorem dX12_thing_55 : decode cX12_thing 55 = .ok (.invokevirtual 296, 3) := by decide +kernel
theorem dX12_thing_58 : decode cX12_thing 58 = .ok (.imul, 1) := by decide +kernel
theorem dX12_thing_59 : decode cX12_thing 59 = .ok (.iconst 1, 1) := by decide +kernel
theorem dX12_thing_60 : decode cX12_thing 60 = .ok (.aload_n 0, 1) := by decide +kernel
theorem dX12_thing_61 : decode cX12_thing 61 = .ok (.iconst 5, 1) := by decide +kernel
theorem dX12_thing_62 : decode cX12_thing 62 = .ok (.iload_n 1, 1) := by decide +kernel
theorem dX12_thing_63 : decode cX12_thing 63 = .ok (.invokevirtual 296, 3) := by decide +kernel
theorem dX12_thing_66 : decode cX12_thing 66 = .ok (.iadd, 1) := by decide +kernel
theorem dX12_thing_67 : decode cX12_thing 67 = .ok (.idiv, 1) := by decide +kernel
theorem dX12_thing_68 : decode cX12_thing 68 = .ok (.goto 9, 3) := by decide +kernel
theorem dX12_thing_71 : decode cX12_thing 71 = .ok (.aload_n 0, 1) := by decide +kernel
theorem dX12_thing_72 : decode cX12_thing 72 = .ok (.iload_n 1, 1) := by decide +kernel
theorem dX12_thing_73 : decode cX12_thing 73 = .ok (.iload_n 2, 1) := by decide +kernel
theorem dX12_thing_74 : decode cX12_thing 74 = .ok (.invokevirtual 80, 3) := by decide +kernel
theorem dX12_thing_77 : decode cX12_thing 77 = .ok (.ireturn, 1) := by decide +kernel
theorem dX12_child_0 : decode cX12_child 0 = .ok (.aload_n 0, 1) := by decide +kernel
theorem dX12_child_1 : decode cX12_child 1 = .ok (.iconst 0, 1) := by decide +kernel
theorem dX12_child_2 : decode cX12_child 2 = .ok (.putfield 3, 3) := by decide +kernel
theorem dX12_child_5 : decode cX12_child 5 = .ok (.aload_n 0, 1) := by decide +kernel
theorem dX12_child_6 : decode cX12_child 6 = .ok (.aload_n 0, 1) := by decide +kernel
theorem dX12_child_7 : decode cX12_child 7 = .ok (.iload_n 1, 1) := by decide +kernel
theorem dX12_child_8 : decode cX12_child 8 = .ok (.invokevirtual 299, 3) := by decide +kernel
theorem dX12_child_11 : decode cX12_child 11 = .ok (.iconst 1, 1) := by decide +kernel
theorem dX12_child_12 : decode cX12_child 12 = .ok (.invokevirtual 266, 3) := by decide +kernel
theorem dX12_child_15 : decode cX12_child 15 = .ok (.ifCond .ne 26, 3) := by decide +kernel
theorem dX12_child_18 : decode cX12_child 18 = .ok (.aload_n 0, 1) := by decide +kernel
theorem dX12_child_19 : decode cX12_child 19 = .ok (.iload_n 2, 1) := by decide +kernel
theorem dX12_child_20 : decode cX12_child 20 = .ok (.iconst 0, 1) := by decide +kernel
theorem dX12_child_21 : decode cX12_child 21 = .ok (.bipush 11, 2) := by decide +kernel
theorem dX12_child_23 : decode cX12_child 23 = .ok (.invokestatic 87, 3) := by decide +kernel
theorem dX12_child_26 : decode cX12_child 26 = .ok (.ifCond .ne 7, 3) := by decide +kernel
theorem dX12_child_29 : decode cX12_child 29 = .ok (.iconst 1, 1) := by decide +kernel
theorem dX12_child_30 : decode cX12_child 30 = .ok (.goto 4, 3) := by decide +kernel
theorem dX12_child_33 : decode cX12_child 33 = .ok (.iconst 0, 1) := by decide +kernel
theorem dX12_child_34 : decode cX12_child 34 = .ok (.iconst 2, 1) := by decide +kernel
theorem dX12_child_35 : decode cX12_child 35 = .ok (.invokevirtual 266, 3) := by decide +kernel
theorem dX12_child_38 : decode cX12_child 38 = .ok (.ifCond .eq 5, 3) := by decide +kernel
theorem dX12_child_41 : decode cX12_child 41 = .ok (.iconst 0, 1) := by decide +kernel
theorem dX12_child_42 : decode cX12_child 42 = .ok (.ireturn, 1) := by decide +kernel
theorem dX12_child_43 : decode cX12_child 43 = .ok (.iload_n 2, 1) := by decide +kernel
theorem dX12_child_44 : decode cX12_child 44 = .ok (.tableswitch 46 9 11 #[28, 34, 40], 28) := by decide +kernel
theorem dX12_child_72 : decode cX12_child 72 = .ok (.aload_n 0, 1) := by decide +kernel
theorem dX12_child_73 : decode cX12_child 73 = .ok (.iload_n 1, 1) := by decide +kernel
theorem dX12_child_74 : decode cX12_child 74 = .ok (.invokevirtual 302, 3) := by decide +kernel
theorem dX12_child_77 : decode cX12_child 77 = .ok (.ireturn, 1) := by decide +kernel
theorem dX12_child_78 : decode cX12_child 78 = .ok (.aload_n 0, 1) := by decide +kernel
theorem dX12_child_79 : decode cX12_child 79 = .ok (.iload_n 1, 1) := by decide +kernel
theorem dX12_child_80 : decode cX12_child 80 = .ok (.invokevirtual 305, 3) := by decide +kernel
theorem dX12_child_83 : decode cX12_child 83 = .ok (.ireturn, 1) := by decide +kernel
theorem dX12_child_84 : decode cX12_child 84 = .ok (.aload_n 0, 1) := by decide +kernel
theorem dX12_child_85 : decode cX12_child 85 = .ok (.iload_n 1, 1) := by decide +kernel
theorem dX12_child_86 : decode cX12_child 86 = .ok (.invokevirtual 308, 3) := by decide +kernel
theorem dX12_child_89 : decode cX12_child 89 = .ok (.ireturn, 1) := by decide +kernel
theorem dX12_child_90 : decode cX12_child 90 = .ok (.aload_n 0, 1) := by decide +kernel
theorem dX12_child_91 : decode cX12_child 91 = .ok (.iload_n 1, 1) := by decide +kernel
theorem dX12_child_92 : decode cX12_child 92 = .ok (.iload_n 2, 1) := by decide +kernel
theorem dX12_child_93 : decode cX12_child 93 = .ok (.invokevirtual 77, 3) := by decide +kernel
theorem dX12_child_96 : decode cX12_child 96 = .ok (.ireturn, 1) := by decide +kernel
theorem dX12_tells_0 : decode cX12_tells 0 = .ok (.sipush 299, 3) := by decide +kernel
theorem dX12_tells_3 : decode cX12_tells 3 = .ok (.istore_n 2, 1) := by decide +kernel
theorem dX12_tells_4 : decode cX12_tells 4 = .ok (.iload_n 2, 1) := by decide +kernel
theorem dX12_tells_5 : decode cX12_tells 5 = .ok (.iconst 5, 1) := by decide +kernel
theorem dX12_tells_6 : decode cX12_tells 6 = .ok (.if_icmp .lt 29, 3) := by decide +kernel
theorem dX12_tells_9 : decode cX12_tells 9 = .ok (.aload_n 0, 1) := by decide +kernel
theorem dX12_tells_10 : decode cX12_tells 10 = .ok (.getfield 13, 3) := by decide +kernel
theorem dX12_tells_13 : decode cX12_tells 13 = .ok (.bipush 115, 2) := by decide +kernel
theorem dX12_tells_15 : decode cX12_tells 15 = .ok (.iload_n 2, 1) := by decide +kernel
theorem dX12_tells_16 : decode cX12_tells 16 = .ok (.iadd, 1) := by decide +kernel
theorem dX12_tells_17 : decode cX12_tells 17 = .ok (.aload_n 0, 1) := by decide +kernel
theorem dX12_tells_18 : decode cX12_tells 18 = .ok (.getfield 13, 3) := by decide +kernel
theorem dX12_tells_21 : decode cX12_tells 21 = .ok (.bipush 115, 2) := by decide +kernel
theorem dX12_tells_23 : decode cX12_tells 23 = .ok (.iload_n 2, 1) := by decide +kernel
theorem dX12_tells_24 : decode cX12_tells 24 = .ok (.iadd, 1) := by decide +kernel
theorem dX12_tells_25 : decode cX12_tells 25 = .ok (.iconst 5, 1) := by decide +kernel
theorem dX12_tells_26 : decode cX12_tells 26 = .ok (.isub, 1) := by decide +kernel
theorem dX12_tells_27 : decode cX12_tells 27 = .ok (.iaload, 1) := by decide +kernel
theorem dX12_tells_28 : decode cX12_tells 28 = .ok (.iastore, 1) := by decide +kernel
theorem dX12_tells_29 : decode cX12_tells 29 = .ok (.iinc 2 (-1), 3) := by decide +kernel
theorem dX12_tells_32 : decode cX12_tells 32 = .ok (.goto (-28), 3) := by decide +kernel
theorem dX12_tells_35 : decode cX12_tells 35 = .ok (.aload_n 0, 1) := by decide +kernel
theorem dX12_tells_36 : decode cX12_tells 36 = .ok (.getfield 13, 3) := by decide +kernel
theorem dX12_tells_39 : decode cX12_tells 39 = .ok (.bipush 115, 2) := by decide +kernel
theorem dX12_tells_41 : decode cX12_tells 41 = .ok (.aload_n 0, 1) := by decide +kernel
theorem dX12_tells_42 : decode cX12_tells 42 = .ok (.getfield 13, 3) := by decide +kernel
theorem dX12_tells_45 : decode cX12_tells 45 = .ok (.iconst 3, 1) := by decide +kernel
theorem dX12_tells_46 : decode cX12_tells 46 = .ok (.iaload, 1) := by decide +kernel
theorem dX12_tells_47 : decode cX12_tells 47 = .ok (.iastore, 1) := by decide +kernel
theorem dX12_tells_48 : decode cX12_tells 48 = .ok (.aload_n 0, 1) := by decide +kernel
theorem dX12_tells_49 : decode cX12_tells 49 = .ok (.getfield 13, 3) := by decide +kernel
theorem dX12_tells_52 : decode cX12_tells 52 = .ok (.bipush 116, 2) := by decide +kernel
theorem dX12_tells_54 : decode cX12_tells 54 = .ok (.iload_n 1, 1) := by decide +kernel
theorem dX12_tells_55 : decode cX12_tells 55 = .ok (.iastore, 1) := by decide +kernel
theorem dX12_tells_56 : decode cX12_tells 56 = .ok (.aload_n 0, 1) := by decide +kernel
theorem dX12_tells_57 : decode cX12_tells 57 = .ok (.getfield 13, 3) := by decide +kernel
theorem dX12_tells_60 : decode cX12_tells 60 = .ok (.bipush 117, 2) := by decide +kernel
theorem dX12_tells_62 : decode cX12_tells 62 = .ok (.aload_n 0, 1) := by decide +kernel
theorem dX12_tells_63 : decode cX12_tells 63 = .ok (.iload_n 1, 1) := by decide +kernel
theorem dX12_tells_64 : decode cX12_tells 64 = .ok (.iconst 1, 1) := by decide +kernel
theorem dX12_tells_65 : decode cX12_tells 65 = .ok (.invokevirtual 77, 3) := by decide +kernel
theorem dX12_tells_68 : decode cX12_tells 68 = .ok (.iastore, 1) := by decide +kernel
theorem dX12_tells_69 : decode cX12_tells 69 = .ok (.aload_n 0, 1) := by decide +kernel
theorem dX12_tells_70 : decode cX12_tells 70 = .ok (.getfield 13, 3) := by decide +kernel
theorem dX12_tells_73 : decode cX12_tells 73 = .ok (.bipush 118, 2) := by decide +kernel
theorem dX12_tells_75 : decode cX12_tells 75 = .ok (.aload_n 0, 1) := by decide +kernel
theorem dX12_tells_76 : decode cX12_tells 76 = .ok (.iload_n 1, 1) := by decide +kernel
theorem dX12_tells_77 : decode cX12_tells 77 = .ok (.iconst 0, 1) := by decide +kernel
theorem dX12_tells_78 : decode cX12_tells 78 = .ok (.invokevirtual 77, 3) := by decide +kernel
theorem dX12_tells_81 : decode cX12_tells 81 = .ok (.iastore, 1) := by decide +kernel
theorem dX12_tells_82 : decode cX12_tells 82 = .ok (.aload_n 0, 1) := by decide +kernel
theorem dX12_tells_83 : decode cX12_tells 83 = .ok (.getfield 13, 3) := by decide +kernel
theorem dX12_tells_86 : decode cX12_tells 86 = .ok (.bipush 119, 2) := by decide +kernel
theorem dX12_tells_88 : decode cX12_tells 88 = .ok (.aload_n 0, 1) := by decide +kernel
theorem dX12_tells_89 : decode cX12_tells 89 = .ok (.iload_n 1, 1) := by decide +kernel
theorem dX12_tells_90 : decode cX12_tells 90 = .ok (.bipush 6, 2) := by decide +kernel
theorem dX12_tells_92 : decode cX12_tells 92 = .ok (.invokevirtual 77, 3) := by decide +kernel
theorem dX12_tells_95 : decode cX12_tells 95 = .ok (.iastore, 1) := by decide +kernel
theorem dX12_tells_96 : decode cX12_tells 96 = .ok (.aload_n 0, 1) := by decide +kernel
theorem dX12_tells_97 : decode cX12_tells 97 = .ok (.getfield 13, 3) := by decide +kernel
theorem dX12_tells_100 : decode cX12_tells 100 = .ok (.iconst 5, 1) := by decide +kernel
theorem dX12_tells_101 : decode cX12_tells 101 = .ok (.bipush 60, 2) := by decide +kernel
theorem dX12_tells_103 : decode cX12_tells 103 = .ok (.aload_n 0, 1) := by decide +kernel
theorem dX12_tells_104 : decode cX12_tells 104 = .ok (.getfield 13, 3) := by decide +kernel
theorem dX12_tells_107 : decode cX12_tells 107 = .ok (.iconst 5, 1) := by decide +kernel
theorem dX12_tells_108 : decode cX12_tells 108 = .ok (.iaload, 1) := by decide +kernel
theorem dX12_tells_109 : decode cX12_tells 109 = .ok (.iconst 1, 1) := by decide +kernel
theorem dX12_tells_110 : decode cX12_tells 110 = .ok (.iadd, 1) := by decide +kernel
theorem dX12_tells_111 : decode cX12_tells 111 = .ok (.invokestatic 311, 3) := by decide +kernel
theorem dX12_tells_114 : decode cX12_tells 114 = .ok (.iastore, 1) := by decide +kernel
theorem dX12_tells_115 : decode cX12_tells 115 = .ok (.return_, 1) := by decide +kernel
theorem dX12_isCut_0 : decode cX12_isCut 0 = .ok (.aload_n 0, 1) := by decide +kernel
theorem dX12_isCut_1 : decode cX12_isCut 1 = .ok (.getfield 13, 3) := by decide +kernel
theorem dX12_isCut_4 : decode cX12_isCut 4 = .ok (.aload_n 0, 1) := by decide +kernel
theorem dX12_isCut_5 : decode cX12_isCut 5 = .ok (.iload_n 1, 1) := by decide +kernel
theorem dX12_isCut_6 : decode cX12_isCut 6 = .ok (.bipush 8, 2) := by decide +kernel
theorem dX12_isCut_8 : decode cX12_isCut 8 = .ok (.invokevirtual 77, 3) := by decide +kernel
theorem dX12_isCut_11 : decode cX12_isCut 11 = .ok (.bipush 8, 2) := by decide +kernel
theorem dX12_isCut_13 : decode cX12_isCut 13 = .ok (.invokestatic 74, 3) := by decide +kernel
theorem dX12_isCut_16 : decode cX12_isCut 16 = .ok (.iconst (-1), 1) := by decide +kernel
theorem dX12_isCut_17 : decode cX12_isCut 17 = .ok (.iastore, 1) := by decide +kernel
theorem dX12_isCut_18 : decode cX12_isCut 18 = .ok (.aload_n 0, 1) := by decide +kernel
theorem dX12_isCut_19 : decode cX12_isCut 19 = .ok (.getfield 13, 3) := by decide +kernel
theorem dX12_isCut_22 : decode cX12_isCut 22 = .ok (.iload_n 1, 1) := by decide +kernel
theorem dX12_isCut_23 : decode cX12_isCut 23 = .ok (.bipush 8, 2) := by decide +kernel
theorem dX12_isCut_25 : decode cX12_isCut 25 = .ok (.invokestatic 74, 3) := by decide +kernel
theorem dX12_isCut_28 : decode cX12_isCut 28 = .ok (.iconst (-1), 1) := by decide +kernel
theorem dX12_isCut_29 : decode cX12_isCut 29 = .ok (.iastore, 1) := by decide +kernel
theorem dX12_isCut_30 : decode cX12_isCut 30 = .ok (.return_, 1) := by decide +kernel
theorem dX12_opens_0 : decode cX12_opens 0 = .ok (.aload_n 0, 1) := by decide +kernel
theorem dX12_opens_1 : decode cX12_opens 1 = .ok (.iload_n 1, 1) := by decide +kernel
theorem dX12_opens_2 : decode cX12_opens 2 = .ok (.invokevirtual 165, 3) := by decide +kernel
theorem dX12_opens_5 : decode cX12_opens 5 = .ok (.ifCond .eq 8, 3) := by decide +kernel
theorem dX12_opens_8 : decode cX12_opens 8 = .ok (.aload_n 0, 1) := by decide +kernel
theorem dX12_opens_9 : decode cX12_opens 9 = .ok (.iload_n 1, 1) := by decide +kernel
theorem dX12_opens_10 : decode cX12_opens 10 = .ok (.invokevirtual 314, 3) := by decide +kernel
theorem dX12_opens_13 : decode cX12_opens 13 = .ok (.aload_n 0, 1) := by decide +kernel
theorem dX12_opens_14 : decode cX12_opens 14 = .ok (.getfield 13, 3) := by decide +kernel
theorem dX12_opens_17 : decode cX12_opens 17 = .ok (.iload_n 1, 1) := by decide +kernel
theorem dX12_opens_18 : decode cX12_opens 18 = .ok (.bipush 6, 2) := by decide +kernel
theorem dX12_opens_20 : decode cX12_opens 20 = .ok (.invokestatic 74, 3) := by decide +kernel
theorem dX12_opens_23 : decode cX12_opens 23 = .ok (.sipush 999, 3) := by decide +kernel
theorem dX12_opens_26 : decode cX12_opens 26 = .ok (.aload_n 0, 1) := by decide +kernel
theorem dX12_opens_27 : decode cX12_opens 27 = .ok (.iload_n 1, 1) := by decide +kernel
theorem dX12_opens_28 : decode cX12_opens 28 = .ok (.bipush 6, 2) := by decide +kernel
theorem dX12_opens_30 : decode cX12_opens 30 = .ok (.invokevirtual 77, 3) := by decide +kernel
theorem dX12_opens_33 : decode cX12_opens 33 = .ok (.aload_n 0, 1) := by decide +kernel
theorem dX12_opens_34 : decode cX12_opens 34 = .ok (.iload_n 1, 1) := by decide +kernel
theorem dX12_opens_35 : decode cX12_opens 35 = .ok (.invokevirtual 305, 3) := by decide +kernel
theorem dX12_opens_38 : decode cX12_opens 38 = .ok (.iadd, 1) := by decide +kernel
theorem dX12_opens_39 : decode cX12_opens 39 = .ok (.invokestatic 311, 3) := by decide +kernel
theorem dX12_opens_42 : decode cX12_opens 42 = .ok (.iastore, 1) := by decide +kernel
theorem dX12_opens_43 : decode cX12_opens 43 = .ok (.aload_n 0, 1) := by decide +kernel
theorem dX12_opens_44 : decode cX12_opens 44 = .ok (.getfield 13, 3) := by decide +kernel
theorem dX12_opens_47 : decode cX12_opens 47 = .ok (.iload_n 1, 1) := by decide +kernel
theorem dX12_opens_48 : decode cX12_opens 48 = .ok (.iconst 5, 1) := by decide +kernel
theorem dX12_opens_49 : decode cX12_opens 49 = .ok (.invokestatic 74, 3) := by decide +kernel
theorem dX12_opens_52 : decode cX12_opens 52 = .ok (.aload_n 0, 1) := by decide +kernel
theorem dX12_opens_53 : decode cX12_opens 53 = .ok (.iload_n 1, 1) := by decide +kernel
theorem dX12_opens_54 : decode cX12_opens 54 = .ok (.iconst 1, 1) := by decide +kernel
theorem dX12_opens_55 : decode cX12_opens 55 = .ok (.invokevirtual 77, 3) := by decide +kernel
theorem dX12_opens_58 : decode cX12_opens 58 = .ok (.bipush 8, 2) := by decide +kernel
theorem dX12_opens_60 : decode cX12_opens 60 = .ok (.if_icmp .ne 7, 3) := by decide +kernel
theorem dX12_opens_63 : decode cX12_opens 63 = .ok (.iconst (-1), 1) := by decide +kernel
theorem dX12_opens_64 : decode cX12_opens 64 = .ok (.goto 9, 3) := by decide +kernel
theorem dX12_opens_67 : decode cX12_opens 67 = .ok (.aload_n 0, 1) := by decide +kernel
theorem dX12_opens_68 : decode cX12_opens 68 = .ok (.iload_n 1, 1) := by decide +kernel
theorem dX12_opens_69 : decode cX12_opens 69 = .ok (.iconst 1, 1) := by decide +kernel
theorem dX12_opens_70 : decode cX12_opens 70 = .ok (.invokevirtual 77, 3) := by decide +kernel
theorem dX12_opens_73 : decode cX12_opens 73 = .ok (.iastore, 1) := by decide +kernel
theorem dX12_opens_74 : decode cX12_opens 74 = .ok (.aload_n 0, 1) := by decide +kernel
theorem dX12_opens_75 : decode cX12_opens 75 = .ok (.getfield 13, 3) := by decide +kernel
theorem dX12_opens_78 : decode cX12_opens 78 = .ok (.iload_n 1, 1) := by decide +kernel
theorem dX12_opens_79 : decode cX12_opens 79 = .ok (.bipush 7, 2) := by decide +kernel
theorem dX12_opens_81 : decode cX12_opens 81 = .ok (.invokestatic 74, 3) := by decide +kernel
theorem dX12_opens_84 : decode cX12_opens 84 = .ok (.iconst 1, 1) := by decide +kernel
theorem dX12_opens_85 : decode cX12_opens 85 = .ok (.iastore, 1) := by decide +kernel
theorem dX12_opens_86 : decode cX12_opens 86 = .ok (.aload_n 0, 1) := by decide +kernel
theorem dX12_opens_87 : decode cX12_opens 87 = .ok (.iload_n 1, 1) := by decide +kernel
theorem dX12_opens_88 : decode cX12_opens 88 = .ok (.invokevirtual 317, 3) := by decide +kernel
theorem dX12_opens_91 : decode cX12_opens 91 = .ok (.return_, 1) := by decide +kernel
theorem dX12_isMoved_0 : decode cX12_isMoved 0 = .ok (.aload_n 0, 1) := by decide +kernel
theorem dX12_isMoved_1 : decode cX12_isMoved 1 = .ok (.getfield 13, 3) := by decide +kernel
theorem dX12_isMoved_4 : decode cX12_isMoved 4 = .ok (.iload_n 1, 1) := by decide +kernel
theorem dX12_isMoved_5 : decode cX12_isMoved 5 = .ok (.iconst 2, 1) := by decide +kernel
theorem dX12_isMoved_6 : decode cX12_isMoved 6 = .ok (.invokestatic 74, 3) := by decide +kernel
theorem dX12_isMoved_9 : decode cX12_isMoved 9 = .ok (.dup2, 1) := by decide +kernel
theorem dX12_isMoved_10 : decode cX12_isMoved 10 = .ok (.iaload, 1) := by decide +kernel
theorem dX12_isMoved_11 : decode cX12_isMoved 11 = .ok (.iconst 1, 1) := by decide +kernel
theorem dX12_isMoved_12 : decode cX12_isMoved 12 = .ok (.iload_n 2, 1) := by decide +kernel
theorem dX12_isMoved_13 : decode cX12_isMoved 13 = .ok (.ishl, 1) := by decide +kernel
theorem dX12_isMoved_14 : decode cX12_isMoved 14 = .ok (.ixor, 1) := by decide +kernel
theorem dX12_isMoved_15 : decode cX12_isMoved 15 = .ok (.iastore, 1) := by decide +kernel
theorem dX12_isMoved_16 : decode cX12_isMoved 16 = .ok (.aload_n 0, 1) := by decide +kernel
theorem dX12_isMoved_17 : decode cX12_isMoved 17 = .ok (.iload_n 1, 1) := by decide +kernel
theorem dX12_isMoved_18 : decode cX12_isMoved 18 = .ok (.iconst 2, 1) := by decide +kernel
theorem dX12_isMoved_19 : decode cX12_isMoved 19 = .ok (.invokevirtual 77, 3) := by decide +kernel
theorem dX12_isMoved_22 : decode cX12_isMoved 22 = .ok (.ifCond .ne 8, 3) := by decide +kernel
theorem dX12_isMoved_25 : decode cX12_isMoved 25 = .ok (.aload_n 0, 1) := by decide +kernel
theorem dX12_isMoved_26 : decode cX12_isMoved 26 = .ok (.iload_n 1, 1) := by decide +kernel
theorem dX12_isMoved_27 : decode cX12_isMoved 27 = .ok (.invokevirtual 320, 3) := by decide +kernel
theorem dX12_isMoved_30 : decode cX12_isMoved 30 = .ok (.return_, 1) := by decide +kernel
theorem dX12_mayMove_0 : decode cX12_mayMove 0 = .ok (.iload_n 2, 1) := by decide +kernel
theorem dX12_mayMove_1 : decode cX12_mayMove 1 = .ok (.ifCond .ne 5, 3) := by decide +kernel
theorem dX12_mayMove_4 : decode cX12_mayMove 4 = .ok (.iconst 1, 1) := by decide +kernel
theorem dX12_mayMove_5 : decode cX12_mayMove 5 = .ok (.ireturn, 1) := by decide +kernel
theorem dX12_mayMove_6 : decode cX12_mayMove 6 = .ok (.iload_n 0, 1) := by decide +kernel
theorem dX12_mayMove_7 : decode cX12_mayMove 7 = .ok (.iload_n 2, 1) := by decide +kernel
theorem dX12_mayMove_8 : decode cX12_mayMove 8 = .ok (.iconst 1, 1) := by decide +kernel
theorem dX12_mayMove_9 : decode cX12_mayMove 9 = .ok (.isub, 1) := by decide +kernel
theorem dX12_mayMove_10 : decode cX12_mayMove 10 = .ok (.invokestatic 323, 3) := by decide +kernel
theorem dX12_mayMove_13 : decode cX12_mayMove 13 = .ok (.ifCond .eq 27, 3) := by decide +kernel
theorem dX12_mayMove_16 : decode cX12_mayMove 16 = .ok (.iload_n 0, 1) := by decide +kernel
theorem dX12_mayMove_17 : decode cX12_mayMove 17 = .ok (.iconst 1, 1) := by decide +kernel
theorem dX12_mayMove_18 : decode cX12_mayMove 18 = .ok (.iload_n 2, 1) := by decide +kernel
theorem dX12_mayMove_19 : decode cX12_mayMove 19 = .ok (.iconst 1, 1) := by decide +kernel
theorem dX12_mayMove_20 : decode cX12_mayMove 20 = .ok (.isub, 1) := by decide +kernel
theorem dX12_mayMove_21 : decode cX12_mayMove 21 = .ok (.ishl, 1) := by decide +kernel
theorem dX12_mayMove_22 : decode cX12_mayMove 22 = .ok (.iconst 1, 1) := by decide +kernel
theorem dX12_mayMove_23 : decode cX12_mayMove 23 = .ok (.isub, 1) := by decide +kernel
theorem dX12_mayMove_24 : decode cX12_mayMove 24 = .ok (.iand, 1) := by decide +kernel
theorem dX12_mayMove_25 : decode cX12_mayMove 25 = .ok (.ifCond .ne 15, 3) := by decide +kernel
theorem dX12_mayMove_28 : decode cX12_mayMove 28 = .ok (.iload_n 1, 1) := by decide +kernel
theorem dX12_mayMove_29 : decode cX12_mayMove 29 = .ok (.iload_n 2, 1) := by decide +kernel
theorem dX12_mayMove_30 : decode cX12_mayMove 30 = .ok (.invokestatic 323, 3) := by decide +kernel
theorem dX12_mayMove_33 : decode cX12_mayMove 33 = .ok (.ifCond .eq 7, 3) := by decide +kernel
theorem dX12_mayMove_36 : decode cX12_mayMove 36 = .ok (.iconst 1, 1) := by decide +kernel
theorem dX12_mayMove_37 : decode cX12_mayMove 37 = .ok (.goto 4, 3) := by decide +kernel
theorem dX12_mayMove_40 : decode cX12_mayMove 40 = .ok (.iconst 0, 1) := by decide +kernel
theorem dX12_mayMove_41 : decode cX12_mayMove 41 = .ok (.ireturn, 1) := by decide +kernel
theorem dX12_canMove_0 : decode cX12_canMove 0 = .ok (.aload_n 0, 1) := by decide +kernel
theorem dX12_canMove_1 : decode cX12_canMove 1 = .ok (.iload_n 1, 1) := by decide +kernel
theorem dX12_canMove_2 : decode cX12_canMove 2 = .ok (.invokevirtual 165, 3) := by decide +kernel
theorem dX12_canMove_5 : decode cX12_canMove 5 = .ok (.ifCond .eq 28, 3) := by decide +kernel
theorem dX12_canMove_8 : decode cX12_canMove 8 = .ok (.aload_n 0, 1) := by decide +kernel
theorem dX12_canMove_9 : decode cX12_canMove 9 = .ok (.iload_n 1, 1) := by decide +kernel
theorem dX12_canMove_10 : decode cX12_canMove 10 = .ok (.iconst 2, 1) := by decide +kernel
theorem dX12_canMove_11 : decode cX12_canMove 11 = .ok (.invokevirtual 77, 3) := by decide +kernel
theorem dX12_canMove_14 : decode cX12_canMove 14 = .ok (.aload_n 0, 1) := by decide +kernel
theorem dX12_canMove_15 : decode cX12_canMove 15 = .ok (.aload_n 0, 1) := by decide +kernel
theorem dX12_canMove_16 : decode cX12_canMove 16 = .ok (.iload_n 1, 1) := by decide +kernel
theorem dX12_canMove_17 : decode cX12_canMove 17 = .ok (.bipush 8, 2) := by decide +kernel
theorem dX12_canMove_19 : decode cX12_canMove 19 = .ok (.invokevirtual 77, 3) := by decide +kernel
theorem dX12_canMove_22 : decode cX12_canMove 22 = .ok (.iconst 2, 1) := by decide +kernel
theorem dX12_canMove_23 : decode cX12_canMove 23 = .ok (.invokevirtual 77, 3) := by decide +kernel
theorem dX12_canMove_26 : decode cX12_canMove 26 = .ok (.iload_n 2, 1) := by decide +kernel
theorem dX12_canMove_27 : decode cX12_canMove 27 = .ok (.invokestatic 326, 3) := by decide +kernel
theorem dX12_canMove_30 : decode cX12_canMove 30 = .ok (.ifCond .eq 7, 3) := by decide +kernel
theorem dX12_canMove_33 : decode cX12_canMove 33 = .ok (.iconst 1, 1) := by decide +kernel
theorem dX12_canMove_34 : decode cX12_canMove 34 = .ok (.goto 4, 3) := by decide +kernel
theorem dX12_canMove_37 : decode cX12_canMove 37 = .ok (.iconst 0, 1) := by decide +kernel
theorem dX12_canMove_38 : decode cX12_canMove 38 = .ok (.ireturn, 1) := by decide +kernel
theorem dX12_oneMonth_0 : decode cX12_oneMonth 0 = .ok (.iconst 0, 1) := by decide +kernel
theorem dX12_oneMonth_1 : decode cX12_oneMonth 1 = .ok (.istore_n 2, 1) := by decide +kernel
theorem dX12_oneMonth_2 : decode cX12_oneMonth 2 = .ok (.iconst 0, 1) := by decide +kernel
theorem dX12_oneMonth_3 : decode cX12_oneMonth 3 = .ok (.istore_n 3, 1) := by decide +kernel
theorem dX12_oneMonth_4 : decode cX12_oneMonth 4 = .ok (.iload_n 3, 1) := by decide +kernel
theorem dX12_oneMonth_5 : decode cX12_oneMonth 5 = .ok (.aload_n 0, 1) := by decide +kernel
theorem dX12_oneMonth_6 : decode cX12_oneMonth 6 = .ok (.invokevirtual 83, 3) := by decide +kernel
theorem dX12_oneMonth_9 : decode cX12_oneMonth 9 = .ok (.if_icmp .ge 128, 3) := by decide +kernel
theorem dX12_oneMonth_12 : decode cX12_oneMonth 12 = .ok (.aload_n 0, 1) := by decide +kernel
theorem dX12_oneMonth_13 : decode cX12_oneMonth 13 = .ok (.iload_n 3, 1) := by decide +kernel
theorem dX12_oneMonth_14 : decode cX12_oneMonth 14 = .ok (.invokevirtual 329, 3) := by decide +kernel
theorem dX12_oneMonth_17 : decode cX12_oneMonth 17 = .ok (.ifCond .eq 6, 3) := by decide +kernel
theorem dX12_oneMonth_20 : decode cX12_oneMonth 20 = .ok (.goto 111, 3) := by decide +kernel
theorem dX12_oneMonth_23 : decode cX12_oneMonth 23 = .ok (.aload_n 0, 1) := by decide +kernel
theorem dX12_oneMonth_24 : decode cX12_oneMonth 24 = .ok (.getfield 13, 3) := by decide +kernel
theorem dX12_oneMonth_27 : decode cX12_oneMonth 27 = .ok (.iload_n 3, 1) := by decide +kernel
theorem dX12_oneMonth_28 : decode cX12_oneMonth 28 = .ok (.iconst 0, 1) := by decide +kernel
theorem dX12_oneMonth_29 : decode cX12_oneMonth 29 = .ok (.invokestatic 74, 3) := by decide +kernel
theorem dX12_oneMonth_32 : decode cX12_oneMonth 32 = .ok (.sipush 999, 3) := by decide +kernel
theorem dX12_oneMonth_35 : decode cX12_oneMonth 35 = .ok (.aload_n 0, 1) := by decide +kernel
theorem dX12_oneMonth_36 : decode cX12_oneMonth 36 = .ok (.iload_n 3, 1) := by decide +kernel
theorem dX12_oneMonth_37 : decode cX12_oneMonth 37 = .ok (.iconst 0, 1) := by decide +kernel
theorem dX12_oneMonth_38 : decode cX12_oneMonth 38 = .ok (.invokevirtual 77, 3) := by decide +kernel
theorem dX12_oneMonth_41 : decode cX12_oneMonth 41 = .ok (.iconst 1, 1) := by decide +kernel
theorem dX12_oneMonth_42 : decode cX12_oneMonth 42 = .ok (.iadd, 1) := by decide +kernel
theorem dX12_oneMonth_43 : decode cX12_oneMonth 43 = .ok (.invokestatic 311, 3) := by decide +kernel
theorem dX12_oneMonth_46 : decode cX12_oneMonth 46 = .ok (.iastore, 1) := by decide +kernel
theorem dX12_oneMonth_47 : decode cX12_oneMonth 47 = .ok (.aload_n 0, 1) := by decide +kernel
theorem dX12_oneMonth_48 : decode cX12_oneMonth 48 = .ok (.iload_n 3, 1) := by decide +kernel
theorem dX12_oneMonth_49 : decode cX12_oneMonth 49 = .ok (.invokevirtual 302, 3) := by decide +kernel
theorem dX12_oneMonth_52 : decode cX12_oneMonth 52 = .ok (.istore 4, 2) := by decide +kernel
theorem dX12_oneMonth_54 : decode cX12_oneMonth 54 = .ok (.iload_n 1, 1) := by decide +kernel
theorem dX12_oneMonth_55 : decode cX12_oneMonth 55 = .ok (.ifCond .eq 18, 3) := by decide +kernel
theorem dX12_oneMonth_58 : decode cX12_oneMonth 58 = .ok (.iload 4, 2) := by decide +kernel
theorem dX12_oneMonth_60 : decode cX12_oneMonth 60 = .ok (.bipush 50, 2) := by decide +kernel
theorem dX12_oneMonth_62 : decode cX12_oneMonth 62 = .ok (.if_icmp .lt 7, 3) := by decide +kernel
theorem dX12_oneMonth_65 : decode cX12_oneMonth 65 = .ok (.iconst 1, 1) := by decide +kernel
theorem dX12_oneMonth_66 : decode cX12_oneMonth 66 = .ok (.goto 23, 3) := by decide +kernel
theorem dX12_oneMonth_69 : decode cX12_oneMonth 69 = .ok (.iconst 0, 1) := by decide +kernel
theorem dX12_oneMonth_70 : decode cX12_oneMonth 70 = .ok (.goto 19, 3) := by decide +kernel
theorem dX12_oneMonth_73 : decode cX12_oneMonth 73 = .ok (.aload_n 0, 1) := by decide +kernel
theorem dX12_oneMonth_74 : decode cX12_oneMonth 74 = .ok (.bipush 100, 2) := by decide +kernel
theorem dX12_oneMonth_76 : decode cX12_oneMonth 76 = .ok (.invokevirtual 332, 3) := by decide +kernel
theorem dX12_oneMonth_79 : decode cX12_oneMonth 79 = .ok (.iload 4, 2) := by decide +kernel
theorem dX12_oneMonth_81 : decode cX12_oneMonth 81 = .ok (.if_icmp .ge 7, 3) := by decide +kernel
theorem dX12_oneMonth_84 : decode cX12_oneMonth 84 = .ok (.iconst 1, 1) := by decide +kernel
theorem dX12_oneMonth_85 : decode cX12_oneMonth 85 = .ok (.goto 4, 3) := by decide +kernel
theorem dX12_oneMonth_88 : decode cX12_oneMonth 88 = .ok (.iconst 0, 1) := by decide +kernel
theorem dX12_oneMonth_89 : decode cX12_oneMonth 89 = .ok (.istore 5, 2) := by decide +kernel
theorem dX12_oneMonth_91 : decode cX12_oneMonth 91 = .ok (.iload 5, 2) := by decide +kernel
theorem dX12_oneMonth_93 : decode cX12_oneMonth 93 = .ok (.ifCond .eq 38, 3) := by decide +kernel
theorem dX12_oneMonth_96 : decode cX12_oneMonth 96 = .ok (.aload_n 0, 1) := by decide +kernel
theorem dX12_oneMonth_97 : decode cX12_oneMonth 97 = .ok (.iload_n 3, 1) := by decide +kernel
theorem dX12_oneMonth_98 : decode cX12_oneMonth 98 = .ok (.invokevirtual 165, 3) := by decide +kernel
theorem dX12_oneMonth_101 : decode cX12_oneMonth 101 = .ok (.ifCond .eq 6, 3) := by decide +kernel
theorem dX12_oneMonth_104 : decode cX12_oneMonth 104 = .ok (.goto 27, 3) := by decide +kernel
theorem dX12_oneMonth_107 : decode cX12_oneMonth 107 = .ok (.aload_n 0, 1) := by decide +kernel
theorem dX12_oneMonth_108 : decode cX12_oneMonth 108 = .ok (.iload_n 3, 1) := by decide +kernel
theorem dX12_oneMonth_109 : decode cX12_oneMonth 109 = .ok (.aload_n 0, 1) := by decide +kernel
theorem dX12_oneMonth_110 : decode cX12_oneMonth 110 = .ok (.iload_n 3, 1) := by decide +kernel
theorem dX12_oneMonth_111 : decode cX12_oneMonth 111 = .ok (.iconst 2, 1) := by decide +kernel
theorem dX12_oneMonth_112 : decode cX12_oneMonth 112 = .ok (.invokevirtual 77, 3) := by decide +kernel
theorem dX12_oneMonth_115 : decode cX12_oneMonth 115 = .ok (.invokestatic 335, 3) := by decide +kernel
theorem dX12_oneMonth_118 : decode cX12_oneMonth 118 = .ok (.invokevirtual 338, 3) := by decide +kernel
theorem dX12_oneMonth_121 : decode cX12_oneMonth 121 = .ok (.iload_n 2, 1) := by decide +kernel
theorem dX12_oneMonth_122 : decode cX12_oneMonth 122 = .ok (.aload_n 0, 1) := by decide +kernel
theorem dX12_oneMonth_123 : decode cX12_oneMonth 123 = .ok (.iload_n 3, 1) := by decide +kernel
theorem dX12_oneMonth_124 : decode cX12_oneMonth 124 = .ok (.bipush 7, 2) := by decide +kernel
theorem dX12_oneMonth_126 : decode cX12_oneMonth 126 = .ok (.invokevirtual 77, 3) := by decide +kernel
theorem dX12_oneMonth_129 : decode cX12_oneMonth 129 = .ok (.iadd, 1) := by decide +kernel
theorem dX12_oneMonth_130 : decode cX12_oneMonth 130 = .ok (.istore_n 2, 1) := by decide +kernel
theorem dX12_oneMonth_131 : decode cX12_oneMonth 131 = .ok (.iinc 3 1, 3) := by decide +kernel
theorem dX12_oneMonth_134 : decode cX12_oneMonth 134 = .ok (.goto (-130), 3) := by decide +kernel
theorem dX12_oneMonth_137 : decode cX12_oneMonth 137 = .ok (.aload_n 0, 1) := by decide +kernel
theorem dX12_oneMonth_138 : decode cX12_oneMonth 138 = .ok (.getfield 13, 3) := by decide +kernel
theorem dX12_oneMonth_141 : decode cX12_oneMonth 141 = .ok (.iconst 3, 1) := by decide +kernel
theorem dX12_oneMonth_142 : decode cX12_oneMonth 142 = .ok (.sipush 9999, 3) := by decide +kernel
theorem dX12_oneMonth_145 : decode cX12_oneMonth 145 = .ok (.aload_n 0, 1) := by decide +kernel
theorem dX12_oneMonth_146 : decode cX12_oneMonth 146 = .ok (.getfield 13, 3) := by decide +kernel
theorem dX12_oneMonth_149 : decode cX12_oneMonth 149 = .ok (.iconst 3, 1) := by decide +kernel
theorem dX12_oneMonth_150 : decode cX12_oneMonth 150 = .ok (.iaload, 1) := by decide +kernel
theorem dX12_oneMonth_151 : decode cX12_oneMonth 151 = .ok (.iconst 1, 1) := by decide +kernel
theorem dX12_oneMonth_152 : decode cX12_oneMonth 152 = .ok (.iadd, 1) := by decide +kernel
theorem dX12_oneMonth_153 : decode cX12_oneMonth 153 = .ok (.invokestatic 311, 3) := by decide +kernel
theorem dX12_oneMonth_156 : decode cX12_oneMonth 156 = .ok (.iastore, 1) := by decide +kernel
theorem dX12_oneMonth_157 : decode cX12_oneMonth 157 = .ok (.iload_n 2, 1) := by decide +kernel
theorem dX12_oneMonth_158 : decode cX12_oneMonth 158 = .ok (.ireturn, 1) := by decide +kernel
theorem dX12_goesOn_0 : decode cX12_goesOn 0 = .ok (.iconst 0, 1) := by decide +kernel
theorem dX12_goesOn_1 : decode cX12_goesOn 1 = .ok (.istore_n 3, 1) := by decide +kernel
theorem dX12_goesOn_2 : decode cX12_goesOn 2 = .ok (.iconst 0, 1) := by decide +kernel
theorem dX12_goesOn_3 : decode cX12_goesOn 3 = .ok (.istore 4, 2) := by decide +kernel
theorem dX12_goesOn_5 : decode cX12_goesOn 5 = .ok (.iload 4, 2) := by decide +kernel
theorem dX12_goesOn_7 : decode cX12_goesOn 7 = .ok (.iload_n 1, 1) := by decide +kernel
theorem dX12_goesOn_8 : decode cX12_goesOn 8 = .ok (.if_icmp .ge 17, 3) := by decide +kernel
theorem dX12_goesOn_11 : decode cX12_goesOn 11 = .ok (.iload_n 3, 1) := by decide +kernel
theorem dX12_goesOn_12 : decode cX12_goesOn 12 = .ok (.aload_n 0, 1) := by decide +kernel
theorem dX12_goesOn_13 : decode cX12_goesOn 13 = .ok (.iload_n 2, 1) := by decide +kernel
theorem dX12_goesOn_14 : decode cX12_goesOn 14 = .ok (.invokevirtual 341, 3) := by decide +kernel
theorem dX12_goesOn_17 : decode cX12_goesOn 17 = .ok (.iadd, 1) := by decide +kernel
theorem dX12_goesOn_18 : decode cX12_goesOn 18 = .ok (.istore_n 3, 1) := by decide +kernel
theorem dX12_goesOn_19 : decode cX12_goesOn 19 = .ok (.iinc 4 1, 3) := by decide +kernel
theorem dX12_goesOn_22 : decode cX12_goesOn 22 = .ok (.goto (-17), 3) := by decide +kernel
theorem dX12_goesOn_25 : decode cX12_goesOn 25 = .ok (.iload_n 3, 1) := by decide +kernel
theorem dX12_goesOn_26 : decode cX12_goesOn 26 = .ok (.ireturn, 1) := by decide +kernel
theorem dX12_keepsAll_0 : decode cX12_keepsAll 0 = .ok (.iconst 0, 1) := by decide +kernel
theorem dX12_keepsAll_1 : decode cX12_keepsAll 1 = .ok (.istore_n 1, 1) := by decide +kernel
theorem dX12_keepsAll_2 : decode cX12_keepsAll 2 = .ok (.iload_n 1, 1) := by decide +kernel
theorem dX12_keepsAll_3 : decode cX12_keepsAll 3 = .ok (.sipush 415, 3) := by decide +kernel
theorem dX12_keepsAll_6 : decode cX12_keepsAll 6 = .ok (.if_icmp .ge 21, 3) := by decide +kernel
theorem dX12_keepsAll_9 : decode cX12_keepsAll 9 = .ok (.aload_n 0, 1) := by decide +kernel
theorem dX12_keepsAll_10 : decode cX12_keepsAll 10 = .ok (.getfield 23, 3) := by decide +kernel
theorem dX12_keepsAll_13 : decode cX12_keepsAll 13 = .ok (.iload_n 1, 1) := by decide +kernel
theorem dX12_keepsAll_14 : decode cX12_keepsAll 14 = .ok (.aload_n 0, 1) := by decide +kernel
theorem dX12_keepsAll_15 : decode cX12_keepsAll 15 = .ok (.getfield 13, 3) := by decide +kernel
theorem dX12_keepsAll_18 : decode cX12_keepsAll 18 = .ok (.iload_n 1, 1) := by decide +kernel
theorem dX12_keepsAll_19 : decode cX12_keepsAll 19 = .ok (.iaload, 1) := by decide +kernel
theorem dX12_keepsAll_20 : decode cX12_keepsAll 20 = .ok (.iastore, 1) := by decide +kernel
theorem dX12_keepsAll_21 : decode cX12_keepsAll 21 = .ok (.iinc 1 1, 3) := by decide +kernel
theorem dX12_keepsAll_24 : decode cX12_keepsAll 24 = .ok (.goto (-22), 3) := by decide +kernel
theorem dX12_keepsAll_27 : decode cX12_keepsAll 27 = .ok (.return_, 1) := by decide +kernel
theorem dX12_bringsBack_0 : decode cX12_bringsBack 0 = .ok (.iconst 0, 1) := by decide +kernel
theorem dX12_bringsBack_1 : decode cX12_bringsBack 1 = .ok (.istore_n 1, 1) := by decide +kernel
theorem dX12_bringsBack_2 : decode cX12_bringsBack 2 = .ok (.iload_n 1, 1) := by decide +kernel
theorem dX12_bringsBack_3 : decode cX12_bringsBack 3 = .ok (.sipush 415, 3) := by decide +kernel
theorem dX12_bringsBack_6 : decode cX12_bringsBack 6 = .ok (.if_icmp .ge 21, 3) := by decide +kernel
theorem dX12_bringsBack_9 : decode cX12_bringsBack 9 = .ok (.aload_n 0, 1) := by decide +kernel
theorem dX12_bringsBack_10 : decode cX12_bringsBack 10 = .ok (.getfield 13, 3) := by decide +kernel
theorem dX12_bringsBack_13 : decode cX12_bringsBack 13 = .ok (.iload_n 1, 1) := by decide +kernel
theorem dX12_bringsBack_14 : decode cX12_bringsBack 14 = .ok (.aload_n 0, 1) := by decide +kernel
theorem dX12_bringsBack_15 : decode cX12_bringsBack 15 = .ok (.getfield 23, 3) := by decide +kernel
theorem dX12_bringsBack_18 : decode cX12_bringsBack 18 = .ok (.iload_n 1, 1) := by decide +kernel
theorem dX12_bringsBack_19 : decode cX12_bringsBack 19 = .ok (.iaload, 1) := by decide +kernel
theorem dX12_bringsBack_20 : decode cX12_bringsBack 20 = .ok (.iastore, 1) := by decide +kernel
theorem dX12_bringsBack_21 : decode cX12_bringsBack 21 = .ok (.iinc 1 1, 3) := by decide +kernel
theorem dX12_bringsBack_24 : decode cX12_bringsBack 24 = .ok (.goto (-22), 3) := by decide +kernel
theorem dX12_bringsBack_27 : decode cX12_bringsBack 27 = .ok (.return_, 1) := by decide +kernel
theorem dX12_months_0 : decode cX12_months 0 = .ok (.aload_n 0, 1) := by decide +kernel
theorem dX12_months_1 : decode cX12_months 1 = .ok (.iconst 0, 1) := by decide +kernel
theorem dX12_months_2 : decode cX12_months 2 = .ok (.putfield 3, 3) := by decide +kernel
theorem dX12_months_5 : decode cX12_months 5 = .ok (.aload_n 0, 1) := by decide +kernel
theorem dX12_months_6 : decode cX12_months 6 = .ok (.iload_n 1, 1) := by decide +kernel
theorem dX12_months_7 : decode cX12_months 7 = .ok (.iconst 1, 1) := by decide +kernel
theorem dX12_months_8 : decode cX12_months 8 = .ok (.bipush 120, 2) := by decide +kernel
theorem dX12_months_10 : decode cX12_months 10 = .ok (.invokestatic 87, 3) := by decide +kernel
theorem dX12_months_13 : decode cX12_months 13 = .ok (.ifCond .ne 7, 3) := by decide +kernel
theorem dX12_months_16 : decode cX12_months 16 = .ok (.iconst 1, 1) := by decide +kernel
theorem dX12_months_17 : decode cX12_months 17 = .ok (.goto 4, 3) := by decide +kernel
theorem dX12_months_20 : decode cX12_months 20 = .ok (.iconst 0, 1) := by decide +kernel
theorem dX12_months_21 : decode cX12_months 21 = .ok (.iconst 1, 1) := by decide +kernel
theorem dX12_months_22 : decode cX12_months 22 = .ok (.invokevirtual 266, 3) := by decide +kernel
theorem dX12_months_25 : decode cX12_months 25 = .ok (.ifCond .eq 5, 3) := by decide +kernel
theorem dX12_months_28 : decode cX12_months 28 = .ok (.iconst 0, 1) := by decide +kernel
theorem dX12_months_29 : decode cX12_months 29 = .ok (.ireturn, 1) := by decide +kernel
theorem dX12_months_30 : decode cX12_months 30 = .ok (.aload_n 0, 1) := by decide +kernel
theorem dX12_months_31 : decode cX12_months 31 = .ok (.invokevirtual 344, 3) := by decide +kernel
theorem dX12_months_34 : decode cX12_months 34 = .ok (.aload_n 0, 1) := by decide +kernel
theorem dX12_months_35 : decode cX12_months 35 = .ok (.iload_n 1, 1) := by decide +kernel
theorem dX12_months_36 : decode cX12_months 36 = .ok (.iconst 0, 1) := by decide +kernel
theorem dX12_months_37 : decode cX12_months 37 = .ok (.invokevirtual 347, 3) := by decide +kernel
theorem dX12_months_40 : decode cX12_months 40 = .ok (.ireturn, 1) := by decide +kernel
theorem dX12_allWeights_0 : decode cX12_allWeights 0 = .ok (.iconst 0, 1) := by decide +kernel
theorem dX12_allWeights_1 : decode cX12_allWeights 1 = .ok (.istore_n 1, 1) := by decide +kernel
theorem dX12_allWeights_2 : decode cX12_allWeights 2 = .ok (.iconst 0, 1) := by decide +kernel
theorem dX12_allWeights_3 : decode cX12_allWeights 3 = .ok (.istore_n 2, 1) := by decide +kernel
theorem dX12_allWeights_4 : decode cX12_allWeights 4 = .ok (.iload_n 2, 1) := by decide +kernel
theorem dX12_allWeights_5 : decode cX12_allWeights 5 = .ok (.bipush 8, 2) := by decide +kernel
theorem dX12_allWeights_7 : decode cX12_allWeights 7 = .ok (.if_icmp .gt 17, 3) := by decide +kernel
theorem dX12_allWeights_10 : decode cX12_allWeights 10 = .ok (.iload_n 1, 1) := by decide +kernel
theorem dX12_allWeights_11 : decode cX12_allWeights 11 = .ok (.aload_n 0, 1) := by decide +kernel
theorem dX12_allWeights_12 : decode cX12_allWeights 12 = .ok (.iload_n 2, 1) := by decide +kernel
theorem dX12_allWeights_13 : decode cX12_allWeights 13 = .ok (.invokevirtual 351, 3) := by decide +kernel
theorem dX12_allWeights_16 : decode cX12_allWeights 16 = .ok (.iadd, 1) := by decide +kernel
theorem dX12_allWeights_17 : decode cX12_allWeights 17 = .ok (.istore_n 1, 1) := by decide +kernel
theorem dX12_allWeights_18 : decode cX12_allWeights 18 = .ok (.iinc 2 1, 3) := by decide +kernel
theorem dX12_allWeights_21 : decode cX12_allWeights 21 = .ok (.goto (-17), 3) := by decide +kernel
theorem dX12_allWeights_24 : decode cX12_allWeights 24 = .ok (.iload_n 1, 1) := by decide +kernel
theorem dX12_allWeights_25 : decode cX12_allWeights 25 = .ok (.ireturn, 1) := by decide +kernel
theorem dX12_isMeant_0 : decode cX12_isMeant 0 = .ok (.aload_n 0, 1) := by decide +kernel
theorem dX12_isMeant_1 : decode cX12_isMeant 1 = .ok (.invokevirtual 354, 3) := by decide +kernel
theorem dX12_isMeant_4 : decode cX12_isMeant 4 = .ok (.ifCond .ne 6, 3) := by decide +kernel
theorem dX12_isMeant_7 : decode cX12_isMeant 7 = .ok (.bipush 8, 2) := by decide +kernel
theorem dX12_isMeant_9 : decode cX12_isMeant 9 = .ok (.ireturn, 1) := by decide +kernel
theorem dX12_isMeant_10 : decode cX12_isMeant 10 = .ok (.aload_n 0, 1) := by decide +kernel
theorem dX12_isMeant_11 : decode cX12_isMeant 11 = .ok (.aload_n 0, 1) := by decide +kernel
theorem dX12_isMeant_12 : decode cX12_isMeant 12 = .ok (.invokevirtual 354, 3) := by decide +kernel
theorem dX12_isMeant_15 : decode cX12_isMeant 15 = .ok (.invokevirtual 332, 3) := by decide +kernel
theorem dX12_isMeant_18 : decode cX12_isMeant 18 = .ok (.istore_n 1, 1) := by decide +kernel
theorem dX12_isMeant_19 : decode cX12_isMeant 19 = .ok (.iconst 0, 1) := by decide +kernel
theorem dX12_isMeant_20 : decode cX12_isMeant 20 = .ok (.istore_n 2, 1) := by decide +kernel
theorem dX12_isMeant_21 : decode cX12_isMeant 21 = .ok (.iload_n 1, 1) := by decide +kernel
theorem dX12_isMeant_22 : decode cX12_isMeant 22 = .ok (.aload_n 0, 1) := by decide +kernel
theorem dX12_isMeant_23 : decode cX12_isMeant 23 = .ok (.iload_n 2, 1) := by decide +kernel
theorem dX12_isMeant_24 : decode cX12_isMeant 24 = .ok (.invokevirtual 351, 3) := by decide +kernel
theorem dX12_isMeant_27 : decode cX12_isMeant 27 = .ok (.if_icmp .lt 17, 3) := by decide +kernel
theorem dX12_isMeant_30 : decode cX12_isMeant 30 = .ok (.iload_n 1, 1) := by decide +kernel
theorem dX12_isMeant_31 : decode cX12_isMeant 31 = .ok (.aload_n 0, 1) := by decide +kernel
theorem dX12_isMeant_32 : decode cX12_isMeant 32 = .ok (.iload_n 2, 1) := by decide +kernel
theorem dX12_isMeant_33 : decode cX12_isMeant 33 = .ok (.invokevirtual 351, 3) := by decide +kernel
theorem dX12_isMeant_36 : decode cX12_isMeant 36 = .ok (.isub, 1) := by decide +kernel
theorem dX12_isMeant_37 : decode cX12_isMeant 37 = .ok (.istore_n 1, 1) := by decide +kernel
theorem dX12_isMeant_38 : decode cX12_isMeant 38 = .ok (.iinc 2 1, 3) := by decide +kernel
theorem dX12_isMeant_41 : decode cX12_isMeant 41 = .ok (.goto (-20), 3) := by decide +kernel
theorem dX12_isMeant_44 : decode cX12_isMeant 44 = .ok (.iload_n 2, 1) := by decide +kernel
theorem dX12_isMeant_45 : decode cX12_isMeant 45 = .ok (.ireturn, 1) := by decide +kernel
theorem dX12_birth_0 : decode cX12_birth 0 = .ok (.aload_n 0, 1) := by decide +kernel
theorem dX12_birth_1 : decode cX12_birth 1 = .ok (.iconst 0, 1) := by decide +kernel
theorem dX12_birth_2 : decode cX12_birth 2 = .ok (.putfield 3, 3) := by decide +kernel
theorem dX12_birth_5 : decode cX12_birth 5 = .ok (.aload_n 0, 1) := by decide +kernel
theorem dX12_birth_6 : decode cX12_birth 6 = .ok (.aload_n 0, 1) := by decide +kernel
theorem dX12_birth_7 : decode cX12_birth 7 = .ok (.invokevirtual 83, 3) := by decide +kernel
theorem dX12_birth_10 : decode cX12_birth 10 = .ok (.bipush 8, 2) := by decide +kernel
theorem dX12_birth_12 : decode cX12_birth 12 = .ok (.if_icmp .ne 7, 3) := by decide +kernel
theorem dX12_birth_15 : decode cX12_birth 15 = .ok (.iconst 1, 1) := by decide +kernel
theorem dX12_birth_16 : decode cX12_birth 16 = .ok (.goto 4, 3) := by decide +kernel
theorem dX12_birth_19 : decode cX12_birth 19 = .ok (.iconst 0, 1) := by decide +kernel
theorem dX12_birth_20 : decode cX12_birth 20 = .ok (.iconst 1, 1) := by decide +kernel
theorem dX12_birth_21 : decode cX12_birth 21 = .ok (.invokevirtual 266, 3) := by decide +kernel
theorem dX12_birth_24 : decode cX12_birth 24 = .ok (.ifCond .eq 5, 3) := by decide +kernel
theorem dX12_birth_27 : decode cX12_birth 27 = .ok (.iconst 0, 1) := by decide +kernel
theorem dX12_birth_28 : decode cX12_birth 28 = .ok (.ireturn, 1) := by decide +kernel
theorem dX12_birth_29 : decode cX12_birth 29 = .ok (.aload_n 0, 1) := by decide +kernel
theorem dX12_birth_30 : decode cX12_birth 30 = .ok (.invokevirtual 344, 3) := by decide +kernel
theorem dX12_birth_33 : decode cX12_birth 33 = .ok (.aload_n 0, 1) := by decide +kernel
theorem dX12_birth_34 : decode cX12_birth 34 = .ok (.aload_n 0, 1) := by decide +kernel
theorem dX12_birth_35 : decode cX12_birth 35 = .ok (.invokevirtual 357, 3) := by decide +kernel
theorem dX12_birth_38 : decode cX12_birth 38 = .ok (.invokevirtual 161, 3) := by decide +kernel
theorem dX12_birth_41 : decode cX12_birth 41 = .ok (.aload_n 0, 1) := by decide +kernel
theorem dX12_birth_42 : decode cX12_birth 42 = .ok (.invokevirtual 83, 3) := by decide +kernel
theorem dX12_birth_45 : decode cX12_birth 45 = .ok (.iconst 1, 1) := by decide +kernel
theorem dX12_birth_46 : decode cX12_birth 46 = .ok (.isub, 1) := by decide +kernel
theorem dX12_birth_47 : decode cX12_birth 47 = .ok (.ireturn, 1) := by decide +kernel
theorem dX12_move_0 : decode cX12_move 0 = .ok (.aload_n 0, 1) := by decide +kernel
theorem dX12_move_1 : decode cX12_move 1 = .ok (.iconst 0, 1) := by decide +kernel
theorem dX12_move_2 : decode cX12_move 2 = .ok (.putfield 3, 3) := by decide +kernel
theorem dX12_move_5 : decode cX12_move 5 = .ok (.aload_n 0, 1) := by decide +kernel
theorem dX12_move_6 : decode cX12_move 6 = .ok (.aload_n 0, 1) := by decide +kernel
theorem dX12_move_7 : decode cX12_move 7 = .ok (.iload_n 1, 1) := by decide +kernel
theorem dX12_move_8 : decode cX12_move 8 = .ok (.invokevirtual 299, 3) := by decide +kernel
theorem dX12_move_11 : decode cX12_move 11 = .ok (.ifCond .ne 12, 3) := by decide +kernel
theorem dX12_move_14 : decode cX12_move 14 = .ok (.iload_n 2, 1) := by decide +kernel
theorem dX12_move_15 : decode cX12_move 15 = .ok (.iconst 0, 1) := by decide +kernel
theorem dX12_move_16 : decode cX12_move 16 = .ok (.iconst 4, 1) := by decide +kernel
theorem dX12_move_17 : decode cX12_move 17 = .ok (.invokestatic 87, 3) := by decide +kernel
theorem dX12_move_20 : decode cX12_move 20 = .ok (.ifCond .ne 7, 3) := by decide +kernel
theorem dX12_move_23 : decode cX12_move 23 = .ok (.iconst 1, 1) := by decide +kernel
theorem dX12_move_24 : decode cX12_move 24 = .ok (.goto 4, 3) := by decide +kernel
theorem dX12_move_27 : decode cX12_move 27 = .ok (.iconst 0, 1) := by decide +kernel
theorem dX12_move_28 : decode cX12_move 28 = .ok (.iconst 1, 1) := by decide +kernel
theorem dX12_move_29 : decode cX12_move 29 = .ok (.invokevirtual 266, 3) := by decide +kernel
theorem dX12_move_32 : decode cX12_move 32 = .ok (.ifCond .ne 33, 3) := by decide +kernel
theorem dX12_move_35 : decode cX12_move 35 = .ok (.aload_n 0, 1) := by decide +kernel
theorem dX12_move_36 : decode cX12_move 36 = .ok (.aload_n 0, 1) := by decide +kernel
theorem dX12_move_37 : decode cX12_move 37 = .ok (.iload_n 1, 1) := by decide +kernel
theorem dX12_move_38 : decode cX12_move 38 = .ok (.invokevirtual 329, 3) := by decide +kernel
theorem dX12_move_41 : decode cX12_move 41 = .ok (.ifCond .ne 12, 3) := by decide +kernel
theorem dX12_move_44 : decode cX12_move 44 = .ok (.aload_n 0, 1) := by decide +kernel
theorem dX12_move_45 : decode cX12_move 45 = .ok (.iload_n 1, 1) := by decide +kernel
theorem dX12_move_46 : decode cX12_move 46 = .ok (.iload_n 2, 1) := by decide +kernel
theorem dX12_move_47 : decode cX12_move 47 = .ok (.invokevirtual 360, 3) := by decide +kernel
theorem dX12_move_50 : decode cX12_move 50 = .ok (.ifCond .ne 7, 3) := by decide +kernel
theorem dX12_move_53 : decode cX12_move 53 = .ok (.iconst 1, 1) := by decide +kernel
theorem dX12_move_54 : decode cX12_move 54 = .ok (.goto 4, 3) := by decide +kernel
theorem dX12_move_57 : decode cX12_move 57 = .ok (.iconst 0, 1) := by decide +kernel
theorem dX12_move_58 : decode cX12_move 58 = .ok (.iconst 2, 1) := by decide +kernel
theorem dX12_move_59 : decode cX12_move 59 = .ok (.invokevirtual 266, 3) := by decide +kernel
theorem dX12_move_62 : decode cX12_move 62 = .ok (.ifCond .eq 5, 3) := by decide +kernel
theorem dX12_move_65 : decode cX12_move 65 = .ok (.iconst 0, 1) := by decide +kernel
theorem dX12_move_66 : decode cX12_move 66 = .ok (.ireturn, 1) := by decide +kernel
theorem dX12_move_67 : decode cX12_move 67 = .ok (.aload_n 0, 1) := by decide +kernel
theorem dX12_move_68 : decode cX12_move 68 = .ok (.invokevirtual 344, 3) := by decide +kernel
theorem dX12_move_71 : decode cX12_move 71 = .ok (.aload_n 0, 1) := by decide +kernel
theorem dX12_move_72 : decode cX12_move 72 = .ok (.iload_n 1, 1) := by decide +kernel
theorem dX12_move_73 : decode cX12_move 73 = .ok (.iload_n 2, 1) := by decide +kernel
theorem dX12_move_74 : decode cX12_move 74 = .ok (.invokevirtual 338, 3) := by decide +kernel
theorem dX12_move_77 : decode cX12_move 77 = .ok (.aload_n 0, 1) := by decide +kernel
theorem dX12_move_78 : decode cX12_move 78 = .ok (.iload_n 1, 1) := by decide +kernel
theorem dX12_move_79 : decode cX12_move 79 = .ok (.iconst 2, 1) := by decide +kernel
theorem dX12_move_80 : decode cX12_move 80 = .ok (.invokevirtual 77, 3) := by decide +kernel
theorem dX12_move_83 : decode cX12_move 83 = .ok (.ireturn, 1) := by decide +kernel
theorem dX12_isNow_0 : decode cX12_isNow 0 = .ok (.aload_n 0, 1) := by decide +kernel
theorem dX12_isNow_1 : decode cX12_isNow 1 = .ok (.invokevirtual 344, 3) := by decide +kernel
theorem dX12_isNow_4 : decode cX12_isNow 4 = .ok (.aload_n 0, 1) := by decide +kernel
theorem dX12_isNow_5 : decode cX12_isNow 5 = .ok (.iload_n 1, 1) := by decide +kernel
theorem dX12_isNow_6 : decode cX12_isNow 6 = .ok (.iload_n 2, 1) := by decide +kernel
theorem dX12_isNow_7 : decode cX12_isNow 7 = .ok (.invokevirtual 77, 3) := by decide +kernel
theorem dX12_isNow_10 : decode cX12_isNow 10 = .ok (.istore 4, 2) := by decide +kernel
theorem dX12_isNow_12 : decode cX12_isNow 12 = .ok (.aload_n 0, 1) := by decide +kernel
theorem dX12_isNow_13 : decode cX12_isNow 13 = .ok (.getfield 13, 3) := by decide +kernel
theorem dX12_isNow_16 : decode cX12_isNow 16 = .ok (.iload_n 1, 1) := by decide +kernel
theorem dX12_isNow_17 : decode cX12_isNow 17 = .ok (.iload_n 2, 1) := by decide +kernel
theorem dX12_isNow_18 : decode cX12_isNow 18 = .ok (.invokestatic 74, 3) := by decide +kernel
theorem dX12_isNow_21 : decode cX12_isNow 21 = .ok (.iload_n 3, 1) := by decide +kernel
theorem dX12_isNow_22 : decode cX12_isNow 22 = .ok (.iastore, 1) := by decide +kernel
theorem dX12_isNow_23 : decode cX12_isNow 23 = .ok (.iload 4, 2) := by decide +kernel
theorem dX12_isNow_25 : decode cX12_isNow 25 = .ok (.ireturn, 1) := by decide +kernel
theorem dX12_blow_0 : decode cX12_blow 0 = .ok (.aload_n 0, 1) := by decide +kernel
theorem dX12_blow_1 : decode cX12_blow 1 = .ok (.iconst 0, 1) := by decide +kernel
theorem dX12_blow_2 : decode cX12_blow 2 = .ok (.putfield 3, 3) := by decide +kernel
theorem dX12_blow_5 : decode cX12_blow 5 = .ok (.aload_n 0, 1) := by decide +kernel
theorem dX12_blow_6 : decode cX12_blow 6 = .ok (.aload_n 0, 1) := by decide +kernel
theorem dX12_blow_7 : decode cX12_blow 7 = .ok (.iload_n 1, 1) := by decide +kernel
theorem dX12_blow_8 : decode cX12_blow 8 = .ok (.invokevirtual 299, 3) := by decide +kernel
theorem dX12_blow_11 : decode cX12_blow 11 = .ok (.iconst 1, 1) := by decide +kernel
theorem dX12_blow_12 : decode cX12_blow 12 = .ok (.invokevirtual 266, 3) := by decide +kernel
theorem dX12_blow_15 : decode cX12_blow 15 = .ok (.ifCond .ne 24, 3) := by decide +kernel
theorem dX12_blow_18 : decode cX12_blow 18 = .ok (.aload_n 0, 1) := by decide +kernel
theorem dX12_blow_19 : decode cX12_blow 19 = .ok (.aload_n 0, 1) := by decide +kernel
theorem dX12_blow_20 : decode cX12_blow 20 = .ok (.iload_n 1, 1) := by decide +kernel
theorem dX12_blow_21 : decode cX12_blow 21 = .ok (.invokevirtual 363, 3) := by decide +kernel
theorem dX12_blow_24 : decode cX12_blow 24 = .ok (.ifCond .ne 7, 3) := by decide +kernel
theorem dX12_blow_27 : decode cX12_blow 27 = .ok (.iconst 1, 1) := by decide +kernel
theorem dX12_blow_28 : decode cX12_blow 28 = .ok (.goto 4, 3) := by decide +kernel
theorem dX12_blow_31 : decode cX12_blow 31 = .ok (.iconst 0, 1) := by decide +kernel
theorem dX12_blow_32 : decode cX12_blow 32 = .ok (.iconst 2, 1) := by decide +kernel
theorem dX12_blow_33 : decode cX12_blow 33 = .ok (.invokevirtual 266, 3) := by decide +kernel
theorem dX12_blow_36 : decode cX12_blow 36 = .ok (.ifCond .eq 7, 3) := by decide +kernel
theorem dX12_blow_39 : decode cX12_blow 39 = .ok (.iconst 0, 1) := by decide +kernel
theorem dX12_blow_40 : decode cX12_blow 40 = .ok (.goto 10, 3) := by decide +kernel
theorem dX12_blow_43 : decode cX12_blow 43 = .ok (.aload_n 0, 1) := by decide +kernel
theorem dX12_blow_44 : decode cX12_blow 44 = .ok (.iload_n 1, 1) := by decide +kernel
theorem dX12_blow_45 : decode cX12_blow 45 = .ok (.iconst 5, 1) := by decide +kernel
theorem dX12_blow_46 : decode cX12_blow 46 = .ok (.iconst (-1), 1) := by decide +kernel
theorem dX12_blow_47 : decode cX12_blow 47 = .ok (.invokevirtual 366, 3) := by decide +kernel
theorem dX12_blow_50 : decode cX12_blow 50 = .ok (.ireturn, 1) := by decide +kernel
theorem dX12_wish_0 : decode cX12_wish 0 = .ok (.aload_n 0, 1) := by decide +kernel
theorem dX12_wish_1 : decode cX12_wish 1 = .ok (.iconst 0, 1) := by decide +kernel
theorem dX12_wish_2 : decode cX12_wish 2 = .ok (.putfield 3, 3) := by decide +kernel
theorem dX12_wish_5 : decode cX12_wish 5 = .ok (.aload_n 0, 1) := by decide +kernel
theorem dX12_wish_6 : decode cX12_wish 6 = .ok (.aload_n 0, 1) := by decide +kernel
theorem dX12_wish_7 : decode cX12_wish 7 = .ok (.iload_n 1, 1) := by decide +kernel
theorem dX12_wish_8 : decode cX12_wish 8 = .ok (.invokevirtual 299, 3) := by decide +kernel
theorem dX12_wish_11 : decode cX12_wish 11 = .ok (.ifCond .ne 15, 3) := by decide +kernel
theorem dX12_wish_14 : decode cX12_wish 14 = .ok (.iload_n 2, 1) := by decide +kernel
theorem dX12_wish_15 : decode cX12_wish 15 = .ok (.iconst (-1), 1) := by decide +kernel
theorem dX12_wish_16 : decode cX12_wish 16 = .ok (.if_icmp .eq 14, 3) := by decide +kernel
theorem dX12_wish_19 : decode cX12_wish 19 = .ok (.iload_n 2, 1) := by decide +kernel
theorem dX12_wish_20 : decode cX12_wish 20 = .ok (.invokestatic 293, 3) := by decide +kernel
theorem dX12_wish_23 : decode cX12_wish 23 = .ok (.ifCond .eq 7, 3) := by decide +kernel
theorem dX12_wish_26 : decode cX12_wish 26 = .ok (.iconst 1, 1) := by decide +kernel
theorem dX12_wish_27 : decode cX12_wish 27 = .ok (.goto 4, 3) := by decide +kernel
theorem dX12_wish_30 : decode cX12_wish 30 = .ok (.iconst 0, 1) := by decide +kernel
theorem dX12_wish_31 : decode cX12_wish 31 = .ok (.iconst 1, 1) := by decide +kernel
theorem dX12_wish_32 : decode cX12_wish 32 = .ok (.invokevirtual 266, 3) := by decide +kernel
theorem dX12_wish_35 : decode cX12_wish 35 = .ok (.ifCond .eq 7, 3) := by decide +kernel
theorem dX12_wish_38 : decode cX12_wish 38 = .ok (.iconst 0, 1) := by decide +kernel
theorem dX12_wish_39 : decode cX12_wish 39 = .ok (.goto 10, 3) := by decide +kernel
theorem dX12_wish_42 : decode cX12_wish 42 = .ok (.aload_n 0, 1) := by decide +kernel
theorem dX12_wish_43 : decode cX12_wish 43 = .ok (.iload_n 1, 1) := by decide +kernel
theorem dX12_wish_44 : decode cX12_wish 44 = .ok (.iconst 4, 1) := by decide +kernel
theorem dX12_wish_45 : decode cX12_wish 45 = .ok (.iload_n 2, 1) := by decide +kernel
theorem dX12_wish_46 : decode cX12_wish 46 = .ok (.invokevirtual 366, 3) := by decide +kernel
theorem dX12_wish_49 : decode cX12_wish 49 = .ok (.ireturn, 1) := by decide +kernel
theorem dX12_grip_0 : decode cX12_grip 0 = .ok (.aload_n 0, 1) := by decide +kernel
theorem dX12_grip_1 : decode cX12_grip 1 = .ok (.iconst 0, 1) := by decide +kernel
theorem dX12_grip_2 : decode cX12_grip 2 = .ok (.putfield 3, 3) := by decide +kernel
theorem dX12_grip_5 : decode cX12_grip 5 = .ok (.aload_n 0, 1) := by decide +kernel
theorem dX12_grip_6 : decode cX12_grip 6 = .ok (.aload_n 0, 1) := by decide +kernel
theorem dX12_grip_7 : decode cX12_grip 7 = .ok (.iload_n 1, 1) := by decide +kernel
theorem dX12_grip_8 : decode cX12_grip 8 = .ok (.invokevirtual 299, 3) := by decide +kernel
theorem dX12_grip_11 : decode cX12_grip 11 = .ok (.iconst 1, 1) := by decide +kernel
theorem dX12_grip_12 : decode cX12_grip 12 = .ok (.invokevirtual 266, 3) := by decide +kernel
theorem dX12_grip_15 : decode cX12_grip 15 = .ok (.ifCond .ne 26, 3) := by decide +kernel
theorem dX12_grip_18 : decode cX12_grip 18 = .ok (.aload_n 0, 1) := by decide +kernel
theorem dX12_grip_19 : decode cX12_grip 19 = .ok (.iload_n 2, 1) := by decide +kernel
theorem dX12_grip_20 : decode cX12_grip 20 = .ok (.iconst 0, 1) := by decide +kernel
theorem dX12_grip_21 : decode cX12_grip 21 = .ok (.bipush 9, 2) := by decide +kernel
theorem dX12_grip_23 : decode cX12_grip 23 = .ok (.invokestatic 87, 3) := by decide +kernel
theorem dX12_grip_26 : decode cX12_grip 26 = .ok (.ifCond .ne 7, 3) := by decide +kernel
theorem dX12_grip_29 : decode cX12_grip 29 = .ok (.iconst 1, 1) := by decide +kernel
theorem dX12_grip_30 : decode cX12_grip 30 = .ok (.goto 4, 3) := by decide +kernel
theorem dX12_grip_33 : decode cX12_grip 33 = .ok (.iconst 0, 1) := by decide +kernel
theorem dX12_grip_34 : decode cX12_grip 34 = .ok (.iconst 2, 1) := by decide +kernel
theorem dX12_grip_35 : decode cX12_grip 35 = .ok (.invokevirtual 266, 3) := by decide +kernel
theorem dX12_grip_38 : decode cX12_grip 38 = .ok (.ifCond .eq 7, 3) := by decide +kernel
theorem dX12_grip_41 : decode cX12_grip 41 = .ok (.iconst 0, 1) := by decide +kernel
theorem dX12_grip_42 : decode cX12_grip 42 = .ok (.goto 10, 3) := by decide +kernel
theorem dX12_grip_45 : decode cX12_grip 45 = .ok (.aload_n 0, 1) := by decide +kernel
theorem dX12_grip_46 : decode cX12_grip 46 = .ok (.iload_n 1, 1) := by decide +kernel
theorem dX12_grip_47 : decode cX12_grip 47 = .ok (.iconst 3, 1) := by decide +kernel
theorem dX12_grip_48 : decode cX12_grip 48 = .ok (.iload_n 2, 1) := by decide +kernel
theorem dX12_grip_49 : decode cX12_grip 49 = .ok (.invokevirtual 366, 3) := by decide +kernel
theorem dX12_grip_52 : decode cX12_grip 52 = .ok (.ireturn, 1) := by decide +kernel
theorem dX12_noTwo_0 : decode cX12_noTwo 0 = .ok (.aload_n 0, 1) := by decide +kernel
theorem dX12_noTwo_1 : decode cX12_noTwo 1 = .ok (.iconst 0, 1) := by decide +kernel
theorem dX12_noTwo_2 : decode cX12_noTwo 2 = .ok (.putfield 3, 3) := by decide +kernel
theorem dX12_noTwo_5 : decode cX12_noTwo 5 = .ok (.aload_n 0, 1) := by decide +kernel
theorem dX12_noTwo_6 : decode cX12_noTwo 6 = .ok (.aload_n 0, 1) := by decide +kernel
theorem dX12_noTwo_7 : decode cX12_noTwo 7 = .ok (.iload_n 1, 1) := by decide +kernel
theorem dX12_noTwo_8 : decode cX12_noTwo 8 = .ok (.invokevirtual 299, 3) := by decide +kernel
theorem dX12_noTwo_11 : decode cX12_noTwo 11 = .ok (.ifCond .ne 11, 3) := by decide +kernel
theorem dX12_noTwo_14 : decode cX12_noTwo 14 = .ok (.aload_n 0, 1) := by decide +kernel
theorem dX12_noTwo_15 : decode cX12_noTwo 15 = .ok (.iload_n 2, 1) := by decide +kernel
theorem dX12_noTwo_16 : decode cX12_noTwo 16 = .ok (.invokevirtual 299, 3) := by decide +kernel
theorem dX12_noTwo_19 : decode cX12_noTwo 19 = .ok (.ifCond .eq 7, 3) := by decide +kernel
theorem dX12_noTwo_22 : decode cX12_noTwo 22 = .ok (.iconst 1, 1) := by decide +kernel
theorem dX12_noTwo_23 : decode cX12_noTwo 23 = .ok (.goto 4, 3) := by decide +kernel
theorem dX12_noTwo_26 : decode cX12_noTwo 26 = .ok (.iconst 0, 1) := by decide +kernel
theorem dX12_noTwo_27 : decode cX12_noTwo 27 = .ok (.iconst 1, 1) := by decide +kernel
theorem dX12_noTwo_28 : decode cX12_noTwo 28 = .ok (.invokevirtual 266, 3) := by decide +kernel
theorem dX12_noTwo_31 : decode cX12_noTwo 31 = .ok (.ifCond .ne 21, 3) := by decide +kernel
theorem dX12_noTwo_34 : decode cX12_noTwo 34 = .ok (.aload_n 0, 1) := by decide +kernel
theorem dX12_noTwo_35 : decode cX12_noTwo 35 = .ok (.iload_n 1, 1) := by decide +kernel
theorem dX12_noTwo_36 : decode cX12_noTwo 36 = .ok (.iload_n 2, 1) := by decide +kernel
theorem dX12_noTwo_37 : decode cX12_noTwo 37 = .ok (.if_icmp .ne 7, 3) := by decide +kernel
theorem dX12_noTwo_40 : decode cX12_noTwo 40 = .ok (.iconst 1, 1) := by decide +kernel
theorem dX12_noTwo_41 : decode cX12_noTwo 41 = .ok (.goto 4, 3) := by decide +kernel
theorem dX12_noTwo_44 : decode cX12_noTwo 44 = .ok (.iconst 0, 1) := by decide +kernel
theorem dX12_noTwo_45 : decode cX12_noTwo 45 = .ok (.iconst 2, 1) := by decide +kernel
theorem dX12_noTwo_46 : decode cX12_noTwo 46 = .ok (.invokevirtual 266, 3) := by decide +kernel
theorem dX12_noTwo_49 : decode cX12_noTwo 49 = .ok (.ifCond .eq 7, 3) := by decide +kernel
theorem dX12_noTwo_52 : decode cX12_noTwo 52 = .ok (.iconst 1, 1) := by decide +kernel
theorem dX12_noTwo_53 : decode cX12_noTwo 53 = .ok (.goto 4, 3) := by decide +kernel
theorem dX12_noTwo_56 : decode cX12_noTwo 56 = .ok (.iconst 0, 1) := by decide +kernel
theorem dX12_noTwo_57 : decode cX12_noTwo 57 = .ok (.ireturn, 1) := by decide +kernel
theorem dX12_change_0 : decode cX12_change 0 = .ok (.aload_n 0, 1) := by decide +kernel
theorem dX12_change_1 : decode cX12_change 1 = .ok (.iload_n 1, 1) := by decide +kernel
theorem dX12_change_2 : decode cX12_change 2 = .ok (.iload_n 2, 1) := by decide +kernel
theorem dX12_change_3 : decode cX12_change 3 = .ok (.invokevirtual 369, 3) := by decide +kernel
theorem dX12_change_6 : decode cX12_change 6 = .ok (.ifCond .ne 32, 3) := by decide +kernel
theorem dX12_change_9 : decode cX12_change 9 = .ok (.aload_n 0, 1) := by decide +kernel
theorem dX12_change_10 : decode cX12_change 10 = .ok (.aload_n 0, 1) := by decide +kernel
theorem dX12_change_11 : decode cX12_change 11 = .ok (.iload_n 1, 1) := by decide +kernel
theorem dX12_change_12 : decode cX12_change 12 = .ok (.invokevirtual 329, 3) := by decide +kernel
theorem dX12_change_15 : decode cX12_change 15 = .ok (.ifCond .eq 11, 3) := by decide +kernel
theorem dX12_change_18 : decode cX12_change 18 = .ok (.aload_n 0, 1) := by decide +kernel
theorem dX12_change_19 : decode cX12_change 19 = .ok (.iload_n 2, 1) := by decide +kernel
theorem dX12_change_20 : decode cX12_change 20 = .ok (.invokevirtual 329, 3) := by decide +kernel
theorem dX12_change_23 : decode cX12_change 23 = .ok (.ifCond .ne 7, 3) := by decide +kernel
theorem dX12_change_26 : decode cX12_change 26 = .ok (.iconst 1, 1) := by decide +kernel
theorem dX12_change_27 : decode cX12_change 27 = .ok (.goto 4, 3) := by decide +kernel
theorem dX12_change_30 : decode cX12_change 30 = .ok (.iconst 0, 1) := by decide +kernel
theorem dX12_change_31 : decode cX12_change 31 = .ok (.iconst 3, 1) := by decide +kernel
theorem dX12_change_32 : decode cX12_change 32 = .ok (.invokevirtual 266, 3) := by decide +kernel
theorem dX12_change_35 : decode cX12_change 35 = .ok (.ifCond .eq 5, 3) := by decide +kernel
theorem dX12_change_38 : decode cX12_change 38 = .ok (.iconst 0, 1) := by decide +kernel
theorem dX12_change_39 : decode cX12_change 39 = .ok (.ireturn, 1) := by decide +kernel
theorem dX12_change_40 : decode cX12_change 40 = .ok (.aload_n 0, 1) := by decide +kernel
theorem dX12_change_41 : decode cX12_change 41 = .ok (.invokevirtual 344, 3) := by decide +kernel
theorem dX12_change_44 : decode cX12_change 44 = .ok (.aload_n 0, 1) := by decide +kernel
theorem dX12_change_45 : decode cX12_change 45 = .ok (.iload_n 1, 1) := by decide +kernel
theorem dX12_change_46 : decode cX12_change 46 = .ok (.iconst 5, 1) := by decide +kernel
theorem dX12_change_47 : decode cX12_change 47 = .ok (.invokevirtual 77, 3) := by decide +kernel
theorem dX12_change_50 : decode cX12_change 50 = .ok (.istore_n 3, 1) := by decide +kernel
theorem dX12_change_51 : decode cX12_change 51 = .ok (.aload_n 0, 1) := by decide +kernel
theorem dX12_change_52 : decode cX12_change 52 = .ok (.getfield 13, 3) := by decide +kernel
theorem dX12_change_55 : decode cX12_change 55 = .ok (.iload_n 1, 1) := by decide +kernel
theorem dX12_change_56 : decode cX12_change 56 = .ok (.iconst 5, 1) := by decide +kernel
theorem dX12_change_57 : decode cX12_change 57 = .ok (.invokestatic 74, 3) := by decide +kernel
theorem dX12_change_60 : decode cX12_change 60 = .ok (.aload_n 0, 1) := by decide +kernel
theorem dX12_change_61 : decode cX12_change 61 = .ok (.iload_n 2, 1) := by decide +kernel
theorem dX12_change_62 : decode cX12_change 62 = .ok (.iconst 5, 1) := by decide +kernel
theorem dX12_change_63 : decode cX12_change 63 = .ok (.invokevirtual 77, 3) := by decide +kernel
theorem dX12_change_66 : decode cX12_change 66 = .ok (.iastore, 1) := by decide +kernel
theorem dX12_change_67 : decode cX12_change 67 = .ok (.aload_n 0, 1) := by decide +kernel
theorem dX12_change_68 : decode cX12_change 68 = .ok (.getfield 13, 3) := by decide +kernel
theorem dX12_change_71 : decode cX12_change 71 = .ok (.iload_n 2, 1) := by decide +kernel
theorem dX12_change_72 : decode cX12_change 72 = .ok (.iconst 5, 1) := by decide +kernel
theorem dX12_change_73 : decode cX12_change 73 = .ok (.invokestatic 74, 3) := by decide +kernel
theorem dX12_change_76 : decode cX12_change 76 = .ok (.iload_n 3, 1) := by decide +kernel
theorem dX12_change_77 : decode cX12_change 77 = .ok (.iastore, 1) := by decide +kernel
theorem dX12_change_78 : decode cX12_change 78 = .ok (.aload_n 0, 1) := by decide +kernel
theorem dX12_change_79 : decode cX12_change 79 = .ok (.iload_n 1, 1) := by decide +kernel
theorem dX12_change_80 : decode cX12_change 80 = .ok (.iconst 5, 1) := by decide +kernel
theorem dX12_change_81 : decode cX12_change 81 = .ok (.invokevirtual 77, 3) := by decide +kernel
theorem dX12_change_84 : decode cX12_change 84 = .ok (.ireturn, 1) := by decide +kernel
theorem dX12_cut_0 : decode cX12_cut 0 = .ok (.aload_n 0, 1) := by decide +kernel
theorem dX12_cut_1 : decode cX12_cut 1 = .ok (.iconst 0, 1) := by decide +kernel
theorem dX12_cut_2 : decode cX12_cut 2 = .ok (.putfield 3, 3) := by decide +kernel
theorem dX12_cut_5 : decode cX12_cut 5 = .ok (.aload_n 0, 1) := by decide +kernel
theorem dX12_cut_6 : decode cX12_cut 6 = .ok (.aload_n 0, 1) := by decide +kernel
theorem dX12_cut_7 : decode cX12_cut 7 = .ok (.iload_n 1, 1) := by decide +kernel
theorem dX12_cut_8 : decode cX12_cut 8 = .ok (.invokevirtual 299, 3) := by decide +kernel
theorem dX12_cut_11 : decode cX12_cut 11 = .ok (.iconst 1, 1) := by decide +kernel
theorem dX12_cut_12 : decode cX12_cut 12 = .ok (.invokevirtual 266, 3) := by decide +kernel
theorem dX12_cut_15 : decode cX12_cut 15 = .ok (.ifCond .ne 24, 3) := by decide +kernel
theorem dX12_cut_18 : decode cX12_cut 18 = .ok (.aload_n 0, 1) := by decide +kernel
theorem dX12_cut_19 : decode cX12_cut 19 = .ok (.aload_n 0, 1) := by decide +kernel
theorem dX12_cut_20 : decode cX12_cut 20 = .ok (.iload_n 1, 1) := by decide +kernel
theorem dX12_cut_21 : decode cX12_cut 21 = .ok (.invokevirtual 165, 3) := by decide +kernel
theorem dX12_cut_24 : decode cX12_cut 24 = .ok (.ifCond .ne 7, 3) := by decide +kernel
theorem dX12_cut_27 : decode cX12_cut 27 = .ok (.iconst 1, 1) := by decide +kernel
theorem dX12_cut_28 : decode cX12_cut 28 = .ok (.goto 4, 3) := by decide +kernel
theorem dX12_cut_31 : decode cX12_cut 31 = .ok (.iconst 0, 1) := by decide +kernel
theorem dX12_cut_32 : decode cX12_cut 32 = .ok (.iconst 2, 1) := by decide +kernel
theorem dX12_cut_33 : decode cX12_cut 33 = .ok (.invokevirtual 266, 3) := by decide +kernel
theorem dX12_cut_36 : decode cX12_cut 36 = .ok (.ifCond .eq 5, 3) := by decide +kernel
theorem dX12_cut_39 : decode cX12_cut 39 = .ok (.iconst 0, 1) := by decide +kernel
theorem dX12_cut_40 : decode cX12_cut 40 = .ok (.ireturn, 1) := by decide +kernel
theorem dX12_cut_41 : decode cX12_cut 41 = .ok (.aload_n 0, 1) := by decide +kernel
theorem dX12_cut_42 : decode cX12_cut 42 = .ok (.invokevirtual 344, 3) := by decide +kernel
theorem dX12_cut_45 : decode cX12_cut 45 = .ok (.aload_n 0, 1) := by decide +kernel
theorem dX12_cut_46 : decode cX12_cut 46 = .ok (.iload_n 1, 1) := by decide +kernel
theorem dX12_cut_47 : decode cX12_cut 47 = .ok (.bipush 8, 2) := by decide +kernel
theorem dX12_cut_49 : decode cX12_cut 49 = .ok (.invokevirtual 77, 3) := by decide +kernel
theorem dX12_cut_52 : decode cX12_cut 52 = .ok (.istore_n 2, 1) := by decide +kernel
theorem dX12_cut_53 : decode cX12_cut 53 = .ok (.aload_n 0, 1) := by decide +kernel
theorem dX12_cut_54 : decode cX12_cut 54 = .ok (.iload_n 1, 1) := by decide +kernel
theorem dX12_cut_55 : decode cX12_cut 55 = .ok (.invokevirtual 314, 3) := by decide +kernel
theorem dX12_cut_58 : decode cX12_cut 58 = .ok (.iload_n 2, 1) := by decide +kernel
theorem dX12_cut_59 : decode cX12_cut 59 = .ok (.ireturn, 1) := by decide +kernel
theorem dX12_lesserOf_0 : decode cX12_lesserOf 0 = .ok (.iload_n 1, 1) := by decide +kernel
theorem dX12_lesserOf_1 : decode cX12_lesserOf 1 = .ok (.aload_n 0, 1) := by decide +kernel
theorem dX12_lesserOf_2 : decode cX12_lesserOf 2 = .ok (.iload_n 1, 1) := by decide +kernel
theorem dX12_lesserOf_3 : decode cX12_lesserOf 3 = .ok (.bipush 8, 2) := by decide +kernel
theorem dX12_lesserOf_5 : decode cX12_lesserOf 5 = .ok (.invokevirtual 77, 3) := by decide +kernel
theorem dX12_lesserOf_8 : decode cX12_lesserOf 8 = .ok (.invokestatic 311, 3) := by decide +kernel
theorem dX12_lesserOf_11 : decode cX12_lesserOf 11 = .ok (.ireturn, 1) := by decide +kernel
theorem dX12_stateOf_0 : decode cX12_stateOf 0 = .ok (.aload_n 0, 1) := by decide +kernel
theorem dX12_stateOf_1 : decode cX12_stateOf 1 = .ok (.iload_n 1, 1) := by decide +kernel
theorem dX12_stateOf_2 : decode cX12_stateOf 2 = .ok (.invokevirtual 372, 3) := by decide +kernel
theorem dX12_stateOf_5 : decode cX12_stateOf 5 = .ok (.istore_n 2, 1) := by decide +kernel
theorem dX12_stateOf_6 : decode cX12_stateOf 6 = .ok (.aload_n 0, 1) := by decide +kernel
theorem dX12_stateOf_7 : decode cX12_stateOf 7 = .ok (.iload_n 2, 1) := by decide +kernel
theorem dX12_stateOf_8 : decode cX12_stateOf 8 = .ok (.iconst 2, 1) := by decide +kernel
theorem dX12_stateOf_9 : decode cX12_stateOf 9 = .ok (.invokevirtual 77, 3) := by decide +kernel
theorem dX12_stateOf_12 : decode cX12_stateOf 12 = .ok (.aload_n 0, 1) := by decide +kernel
theorem dX12_stateOf_13 : decode cX12_stateOf 13 = .ok (.aload_n 0, 1) := by decide +kernel
theorem dX12_stateOf_14 : decode cX12_stateOf 14 = .ok (.iload_n 2, 1) := by decide +kernel
theorem dX12_stateOf_15 : decode cX12_stateOf 15 = .ok (.bipush 8, 2) := by decide +kernel
theorem dX12_stateOf_17 : decode cX12_stateOf 17 = .ok (.invokevirtual 77, 3) := by decide +kernel
theorem dX12_stateOf_20 : decode cX12_stateOf 20 = .ok (.iconst 2, 1) := by decide +kernel
theorem dX12_stateOf_21 : decode cX12_stateOf 21 = .ok (.invokevirtual 77, 3) := by decide +kernel
theorem dX12_stateOf_24 : decode cX12_stateOf 24 = .ok (.iconst 5, 1) := by decide +kernel
theorem dX12_stateOf_25 : decode cX12_stateOf 25 = .ok (.ishl, 1) := by decide +kernel
theorem dX12_stateOf_26 : decode cX12_stateOf 26 = .ok (.ior, 1) := by decide +kernel
theorem dX12_stateOf_27 : decode cX12_stateOf 27 = .ok (.ireturn, 1) := by decide +kernel
theorem dX12_mayMoveIn_0 : decode cX12_mayMoveIn 0 = .ok (.iload_n 0, 1) := by decide +kernel
theorem dX12_mayMoveIn_1 : decode cX12_mayMoveIn 1 = .ok (.bipush 31, 2) := by decide +kernel
theorem dX12_mayMoveIn_3 : decode cX12_mayMoveIn 3 = .ok (.iand, 1) := by decide +kernel
theorem dX12_mayMoveIn_4 : decode cX12_mayMoveIn 4 = .ok (.istore_n 2, 1) := by decide +kernel
theorem dX12_mayMoveIn_5 : decode cX12_mayMoveIn 5 = .ok (.iload_n 0, 1) := by decide +kernel
theorem dX12_mayMoveIn_6 : decode cX12_mayMoveIn 6 = .ok (.iconst 5, 1) := by decide +kernel
theorem dX12_mayMoveIn_7 : decode cX12_mayMoveIn 7 = .ok (.ishr, 1) := by decide +kernel
theorem dX12_mayMoveIn_8 : decode cX12_mayMoveIn 8 = .ok (.istore_n 3, 1) := by decide +kernel
theorem dX12_mayMoveIn_9 : decode cX12_mayMoveIn 9 = .ok (.iload_n 1, 1) := by decide +kernel
theorem dX12_mayMoveIn_10 : decode cX12_mayMoveIn 10 = .ok (.iconst 5, 1) := by decide +kernel
theorem dX12_mayMoveIn_11 : decode cX12_mayMoveIn 11 = .ok (.if_icmp .ge 12, 3) := by decide +kernel
theorem dX12_mayMoveIn_14 : decode cX12_mayMoveIn 14 = .ok (.iload_n 2, 1) := by decide +kernel
theorem dX12_mayMoveIn_15 : decode cX12_mayMoveIn 15 = .ok (.iload_n 3, 1) := by decide +kernel
theorem dX12_mayMoveIn_16 : decode cX12_mayMoveIn 16 = .ok (.iload_n 1, 1) := by decide +kernel
theorem dX12_mayMoveIn_17 : decode cX12_mayMoveIn 17 = .ok (.invokestatic 326, 3) := by decide +kernel
theorem dX12_mayMoveIn_20 : decode cX12_mayMoveIn 20 = .ok (.goto 11, 3) := by decide +kernel
theorem dX12_mayMoveIn_23 : decode cX12_mayMoveIn 23 = .ok (.iload_n 3, 1) := by decide +kernel
theorem dX12_mayMoveIn_24 : decode cX12_mayMoveIn 24 = .ok (.iload_n 2, 1) := by decide +kernel
theorem dX12_mayMoveIn_25 : decode cX12_mayMoveIn 25 = .ok (.iload_n 1, 1) := by decide +kernel
theorem dX12_mayMoveIn_26 : decode cX12_mayMoveIn 26 = .ok (.iconst 5, 1) := by decide +kernel
theorem dX12_mayMoveIn_27 : decode cX12_mayMoveIn 27 = .ok (.isub, 1) := by decide +kernel
theorem dX12_mayMoveIn_28 : decode cX12_mayMoveIn 28 = .ok (.invokestatic 326, 3) := by decide +kernel
theorem dX12_mayMoveIn_31 : decode cX12_mayMoveIn 31 = .ok (.ireturn, 1) := by decide +kernel
theorem dX12_isUndone_0 : decode cX12_isUndone 0 = .ok (.iload_n 0, 1) := by decide +kernel
theorem dX12_isUndone_1 : decode cX12_isUndone 1 = .ok (.bipush 31, 2) := by decide +kernel
theorem dX12_isUndone_3 : decode cX12_isUndone 3 = .ok (.iand, 1) := by decide +kernel
theorem dX12_isUndone_4 : decode cX12_isUndone 4 = .ok (.ifCond .eq 9, 3) := by decide +kernel
theorem dX12_isUndone_7 : decode cX12_isUndone 7 = .ok (.iload_n 0, 1) := by decide +kernel
theorem dX12_isUndone_8 : decode cX12_isUndone 8 = .ok (.iconst 5, 1) := by decide +kernel
theorem dX12_isUndone_9 : decode cX12_isUndone 9 = .ok (.ishr, 1) := by decide +kernel
theorem dX12_isUndone_10 : decode cX12_isUndone 10 = .ok (.ifCond .ne 7, 3) := by decide +kernel
theorem dX12_isUndone_13 : decode cX12_isUndone 13 = .ok (.iconst 1, 1) := by decide +kernel
theorem dX12_isUndone_14 : decode cX12_isUndone 14 = .ok (.goto 4, 3) := by decide +kernel
theorem dX12_isUndone_17 : decode cX12_isUndone 17 = .ok (.iconst 0, 1) := by decide +kernel
theorem dX12_isUndone_18 : decode cX12_isUndone 18 = .ok (.ireturn, 1) := by decide +kernel
theorem dX12_finds_0 : decode cX12_finds 0 = .ok (.aload_n 0, 1) := by decide +kernel
theorem dX12_finds_1 : decode cX12_finds 1 = .ok (.getfield 42, 3) := by decide +kernel
theorem dX12_finds_4 : decode cX12_finds 4 = .ok (.iload_n 1, 1) := by decide +kernel
theorem dX12_finds_5 : decode cX12_finds 5 = .ok (.iaload, 1) := by decide +kernel
theorem dX12_finds_6 : decode cX12_finds 6 = .ok (.iconst (-1), 1) := by decide +kernel
theorem dX12_finds_7 : decode cX12_finds 7 = .ok (.if_icmp .ne 40, 3) := by decide +kernel
theorem dX12_finds_10 : decode cX12_finds 10 = .ok (.aload_n 0, 1) := by decide +kernel
theorem dX12_finds_11 : decode cX12_finds 11 = .ok (.getfield 42, 3) := by decide +kernel
theorem dX12_finds_14 : decode cX12_finds 14 = .ok (.iload_n 1, 1) := by decide +kernel
theorem dX12_finds_15 : decode cX12_finds 15 = .ok (.iload_n 2, 1) := by decide +kernel
theorem dX12_finds_16 : decode cX12_finds 16 = .ok (.iastore, 1) := by decide +kernel
theorem dX12_finds_17 : decode cX12_finds 17 = .ok (.aload_n 0, 1) := by decide +kernel
theorem dX12_finds_18 : decode cX12_finds 18 = .ok (.getfield 45, 3) := by decide +kernel
theorem dX12_finds_21 : decode cX12_finds 21 = .ok (.iload_n 1, 1) := by decide +kernel
theorem dX12_finds_22 : decode cX12_finds 22 = .ok (.iload_n 3, 1) := by decide +kernel
theorem dX12_finds_23 : decode cX12_finds 23 = .ok (.iastore, 1) := by decide +kernel
theorem dX12_finds_24 : decode cX12_finds 24 = .ok (.aload_n 0, 1) := by decide +kernel
theorem dX12_finds_25 : decode cX12_finds 25 = .ok (.getfield 48, 3) := by decide +kernel
theorem dX12_finds_28 : decode cX12_finds 28 = .ok (.aload_n 0, 1) := by decide +kernel
theorem dX12_finds_29 : decode cX12_finds 29 = .ok (.getfield 375, 3) := by decide +kernel
theorem dX12_finds_32 : decode cX12_finds 32 = .ok (.iload_n 1, 1) := by decide +kernel
theorem dX12_finds_33 : decode cX12_finds 33 = .ok (.iastore, 1) := by decide +kernel
theorem dX12_finds_34 : decode cX12_finds 34 = .ok (.aload_n 0, 1) := by decide +kernel
theorem dX12_finds_35 : decode cX12_finds 35 = .ok (.dup, 1) := by decide +kernel
theorem dX12_finds_36 : decode cX12_finds 36 = .ok (.getfield 375, 3) := by decide +kernel
theorem dX12_finds_39 : decode cX12_finds 39 = .ok (.iconst 1, 1) := by decide +kernel
theorem dX12_finds_40 : decode cX12_finds 40 = .ok (.iadd, 1) := by decide +kernel
theorem dX12_finds_41 : decode cX12_finds 41 = .ok (.putfield 375, 3) := by decide +kernel
theorem dX12_finds_44 : decode cX12_finds 44 = .ok (.goto 29, 3) := by decide +kernel
theorem dX12_finds_47 : decode cX12_finds 47 = .ok (.aload_n 0, 1) := by decide +kernel
theorem dX12_finds_48 : decode cX12_finds 48 = .ok (.getfield 42, 3) := by decide +kernel
theorem dX12_finds_51 : decode cX12_finds 51 = .ok (.iload_n 1, 1) := by decide +kernel
theorem dX12_finds_52 : decode cX12_finds 52 = .ok (.iaload, 1) := by decide +kernel
theorem dX12_finds_53 : decode cX12_finds 53 = .ok (.iload_n 2, 1) := by decide +kernel
theorem dX12_finds_54 : decode cX12_finds 54 = .ok (.if_icmp .ne 19, 3) := by decide +kernel
theorem dX12_finds_57 : decode cX12_finds 57 = .ok (.aload_n 0, 1) := by decide +kernel
theorem dX12_finds_58 : decode cX12_finds 58 = .ok (.getfield 45, 3) := by decide +kernel
theorem dX12_finds_61 : decode cX12_finds 61 = .ok (.iload_n 1, 1) := by decide +kernel
theorem dX12_finds_62 : decode cX12_finds 62 = .ok (.aload_n 0, 1) := by decide +kernel
theorem dX12_finds_63 : decode cX12_finds 63 = .ok (.getfield 45, 3) := by decide +kernel
theorem dX12_finds_66 : decode cX12_finds 66 = .ok (.iload_n 1, 1) := by decide +kernel
theorem dX12_finds_67 : decode cX12_finds 67 = .ok (.iaload, 1) := by decide +kernel
theorem dX12_finds_68 : decode cX12_finds 68 = .ok (.iload_n 3, 1) := by decide +kernel
theorem dX12_finds_69 : decode cX12_finds 69 = .ok (.invokestatic 311, 3) := by decide +kernel
theorem dX12_finds_72 : decode cX12_finds 72 = .ok (.iastore, 1) := by decide +kernel
theorem dX12_finds_73 : decode cX12_finds 73 = .ok (.return_, 1) := by decide +kernel
theorem dX12_fewest_0 : decode cX12_fewest 0 = .ok (.iconst 0, 1) := by decide +kernel
theorem dX12_fewest_1 : decode cX12_fewest 1 = .ok (.istore_n 3, 1) := by decide +kernel
theorem dX12_fewest_2 : decode cX12_fewest 2 = .ok (.iload_n 3, 1) := by decide +kernel
theorem dX12_fewest_3 : decode cX12_fewest 3 = .ok (.sipush 1024, 3) := by decide +kernel
theorem dX12_fewest_6 : decode cX12_fewest 6 = .ok (.if_icmp .ge 16, 3) := by decide +kernel
theorem dX12_fewest_9 : decode cX12_fewest 9 = .ok (.aload_n 0, 1) := by decide +kernel
theorem dX12_fewest_10 : decode cX12_fewest 10 = .ok (.getfield 42, 3) := by decide +kernel
theorem dX12_fewest_13 : decode cX12_fewest 13 = .ok (.iload_n 3, 1) := by decide +kernel
theorem dX12_fewest_14 : decode cX12_fewest 14 = .ok (.iconst (-1), 1) := by decide +kernel
theorem dX12_fewest_15 : decode cX12_fewest 15 = .ok (.iastore, 1) := by decide +kernel
theorem dX12_fewest_16 : decode cX12_fewest 16 = .ok (.iinc 3 1, 3) := by decide +kernel
theorem dX12_fewest_19 : decode cX12_fewest 19 = .ok (.goto (-17), 3) := by decide +kernel
theorem dX12_fewest_22 : decode cX12_fewest 22 = .ok (.aload_n 0, 1) := by decide +kernel
theorem dX12_fewest_23 : decode cX12_fewest 23 = .ok (.iconst 0, 1) := by decide +kernel
theorem dX12_fewest_24 : decode cX12_fewest 24 = .ok (.putfield 375, 3) := by decide +kernel
theorem dX12_fewest_27 : decode cX12_fewest 27 = .ok (.aload_n 0, 1) := by decide +kernel
theorem dX12_fewest_28 : decode cX12_fewest 28 = .ok (.aload_n 0, 1) := by decide +kernel
theorem dX12_fewest_29 : decode cX12_fewest 29 = .ok (.iload_n 1, 1) := by decide +kernel
theorem dX12_fewest_30 : decode cX12_fewest 30 = .ok (.invokevirtual 378, 3) := by decide +kernel
theorem dX12_fewest_33 : decode cX12_fewest 33 = .ok (.iconst 0, 1) := by decide +kernel
theorem dX12_fewest_34 : decode cX12_fewest 34 = .ok (.iconst (-1), 1) := by decide +kernel
theorem dX12_fewest_35 : decode cX12_fewest 35 = .ok (.invokevirtual 381, 3) := by decide +kernel
theorem dX12_fewest_38 : decode cX12_fewest 38 = .ok (.iconst 0, 1) := by decide +kernel
theorem dX12_fewest_39 : decode cX12_fewest 39 = .ok (.istore_n 3, 1) := by decide +kernel
theorem dX12_fewest_40 : decode cX12_fewest 40 = .ok (.iload_n 3, 1) := by decide +kernel
theorem dX12_fewest_41 : decode cX12_fewest 41 = .ok (.aload_n 0, 1) := by decide +kernel
theorem dX12_fewest_42 : decode cX12_fewest 42 = .ok (.getfield 375, 3) := by decide +kernel
theorem dX12_fewest_45 : decode cX12_fewest 45 = .ok (.if_icmp .ge 96, 3) := by decide +kernel
theorem dX12_fewest_48 : decode cX12_fewest 48 = .ok (.aload_n 0, 1) := by decide +kernel
theorem dX12_fewest_49 : decode cX12_fewest 49 = .ok (.getfield 48, 3) := by decide +kernel
theorem dX12_fewest_52 : decode cX12_fewest 52 = .ok (.iload_n 3, 1) := by decide +kernel
theorem dX12_fewest_53 : decode cX12_fewest 53 = .ok (.iaload, 1) := by decide +kernel
theorem dX12_fewest_54 : decode cX12_fewest 54 = .ok (.istore 4, 2) := by decide +kernel
theorem dX12_fewest_56 : decode cX12_fewest 56 = .ok (.iload 4, 2) := by decide +kernel
theorem dX12_fewest_58 : decode cX12_fewest 58 = .ok (.invokestatic 385, 3) := by decide +kernel
theorem dX12_fewest_61 : decode cX12_fewest 61 = .ok (.ifCond .eq 6, 3) := by decide +kernel
theorem dX12_fewest_64 : decode cX12_fewest 64 = .ok (.goto 71, 3) := by decide +kernel
theorem dX12_fewest_67 : decode cX12_fewest 67 = .ok (.iconst 0, 1) := by decide +kernel
theorem dX12_fewest_68 : decode cX12_fewest 68 = .ok (.istore 5, 2) := by decide +kernel
theorem dX12_fewest_70 : decode cX12_fewest 70 = .ok (.iload 5, 2) := by decide +kernel
theorem dX12_fewest_72 : decode cX12_fewest 72 = .ok (.bipush 10, 2) := by decide +kernel
theorem dX12_fewest_74 : decode cX12_fewest 74 = .ok (.if_icmp .ge 61, 3) := by decide +kernel
theorem dX12_fewest_77 : decode cX12_fewest 77 = .ok (.iload 4, 2) := by decide +kernel
theorem dX12_fewest_79 : decode cX12_fewest 79 = .ok (.iload 5, 2) := by decide +kernel
theorem dX12_fewest_81 : decode cX12_fewest 81 = .ok (.invokestatic 388, 3) := by decide +kernel
theorem dX12_fewest_84 : decode cX12_fewest 84 = .ok (.ifCond .eq 45, 3) := by decide +kernel
theorem dX12_fewest_87 : decode cX12_fewest 87 = .ok (.aload_n 0, 1) := by decide +kernel
theorem dX12_fewest_88 : decode cX12_fewest 88 = .ok (.iload 4, 2) := by decide +kernel
theorem dX12_fewest_90 : decode cX12_fewest 90 = .ok (.iconst 1, 1) := by decide +kernel
theorem dX12_fewest_91 : decode cX12_fewest 91 = .ok (.iload 5, 2) := by decide +kernel
theorem dX12_fewest_93 : decode cX12_fewest 93 = .ok (.ishl, 1) := by decide +kernel
theorem dX12_fewest_94 : decode cX12_fewest 94 = .ok (.ixor, 1) := by decide +kernel
theorem dX12_fewest_95 : decode cX12_fewest 95 = .ok (.aload_n 0, 1) := by decide +kernel
theorem dX12_fewest_96 : decode cX12_fewest 96 = .ok (.getfield 42, 3) := by decide +kernel
theorem dX12_fewest_99 : decode cX12_fewest 99 = .ok (.iload 4, 2) := by decide +kernel
theorem dX12_fewest_101 : decode cX12_fewest 101 = .ok (.iaload, 1) := by decide +kernel
theorem dX12_fewest_102 : decode cX12_fewest 102 = .ok (.iconst 1, 1) := by decide +kernel
theorem dX12_fewest_103 : decode cX12_fewest 103 = .ok (.iadd, 1) := by decide +kernel
theorem dX12_fewest_104 : decode cX12_fewest 104 = .ok (.aload_n 0, 1) := by decide +kernel
theorem dX12_fewest_105 : decode cX12_fewest 105 = .ok (.getfield 42, 3) := by decide +kernel
theorem dX12_fewest_108 : decode cX12_fewest 108 = .ok (.iload 4, 2) := by decide +kernel
theorem dX12_fewest_110 : decode cX12_fewest 110 = .ok (.iaload, 1) := by decide +kernel
theorem dX12_fewest_111 : decode cX12_fewest 111 = .ok (.ifCond .ne 8, 3) := by decide +kernel
theorem dX12_fewest_114 : decode cX12_fewest 114 = .ok (.iload 5, 2) := by decide +kernel
theorem dX12_fewest_116 : decode cX12_fewest 116 = .ok (.goto 10, 3) := by decide +kernel
theorem dX12_fewest_119 : decode cX12_fewest 119 = .ok (.aload_n 0, 1) := by decide +kernel
theorem dX12_fewest_120 : decode cX12_fewest 120 = .ok (.getfield 45, 3) := by decide +kernel
theorem dX12_fewest_123 : decode cX12_fewest 123 = .ok (.iload 4, 2) := by decide +kernel
theorem dX12_fewest_125 : decode cX12_fewest 125 = .ok (.iaload, 1) := by decide +kernel
theorem dX12_fewest_126 : decode cX12_fewest 126 = .ok (.invokevirtual 381, 3) := by decide +kernel
theorem dX12_fewest_129 : decode cX12_fewest 129 = .ok (.iinc 5 1, 3) := by decide +kernel
theorem dX12_fewest_132 : decode cX12_fewest 132 = .ok (.goto (-62), 3) := by decide +kernel
theorem dX12_fewest_135 : decode cX12_fewest 135 = .ok (.iinc 3 1, 3) := by decide +kernel
theorem dX12_fewest_138 : decode cX12_fewest 138 = .ok (.goto (-98), 3) := by decide +kernel
theorem dX12_fewest_141 : decode cX12_fewest 141 = .ok (.ldc 133, 2) := by decide +kernel
theorem dX12_fewest_143 : decode cX12_fewest 143 = .ok (.istore_n 3, 1) := by decide +kernel
theorem dX12_fewest_144 : decode cX12_fewest 144 = .ok (.ldc 133, 2) := by decide +kernel
theorem dX12_fewest_146 : decode cX12_fewest 146 = .ok (.istore 4, 2) := by decide +kernel
theorem dX12_fewest_148 : decode cX12_fewest 148 = .ok (.iconst 0, 1) := by decide +kernel
theorem dX12_fewest_149 : decode cX12_fewest 149 = .ok (.istore 5, 2) := by decide +kernel
theorem dX12_fewest_151 : decode cX12_fewest 151 = .ok (.iload 5, 2) := by decide +kernel
theorem dX12_fewest_153 : decode cX12_fewest 153 = .ok (.aload_n 0, 1) := by decide +kernel
theorem dX12_fewest_154 : decode cX12_fewest 154 = .ok (.getfield 375, 3) := by decide +kernel
theorem dX12_fewest_157 : decode cX12_fewest 157 = .ok (.if_icmp .ge 83, 3) := by decide +kernel
theorem dX12_fewest_160 : decode cX12_fewest 160 = .ok (.aload_n 0, 1) := by decide +kernel
theorem dX12_fewest_161 : decode cX12_fewest 161 = .ok (.getfield 48, 3) := by decide +kernel
theorem dX12_fewest_164 : decode cX12_fewest 164 = .ok (.iload 5, 2) := by decide +kernel
theorem dX12_fewest_166 : decode cX12_fewest 166 = .ok (.iaload, 1) := by decide +kernel
theorem dX12_fewest_167 : decode cX12_fewest 167 = .ok (.istore 6, 2) := by decide +kernel
theorem dX12_fewest_169 : decode cX12_fewest 169 = .ok (.iload 6, 2) := by decide +kernel
theorem dX12_fewest_171 : decode cX12_fewest 171 = .ok (.invokestatic 385, 3) := by decide +kernel
theorem dX12_fewest_174 : decode cX12_fewest 174 = .ok (.ifCond .eq 60, 3) := by decide +kernel
theorem dX12_fewest_177 : decode cX12_fewest 177 = .ok (.aload_n 0, 1) := by decide +kernel
theorem dX12_fewest_178 : decode cX12_fewest 178 = .ok (.getfield 42, 3) := by decide +kernel
theorem dX12_fewest_181 : decode cX12_fewest 181 = .ok (.iload 6, 2) := by decide +kernel
theorem dX12_fewest_183 : decode cX12_fewest 183 = .ok (.iaload, 1) := by decide +kernel
theorem dX12_fewest_184 : decode cX12_fewest 184 = .ok (.iload_n 3, 1) := by decide +kernel
theorem dX12_fewest_185 : decode cX12_fewest 185 = .ok (.if_icmp .le 6, 3) := by decide +kernel
theorem dX12_fewest_188 : decode cX12_fewest 188 = .ok (.goto 46, 3) := by decide +kernel
theorem dX12_fewest_191 : decode cX12_fewest 191 = .ok (.aload_n 0, 1) := by decide +kernel
theorem dX12_fewest_192 : decode cX12_fewest 192 = .ok (.getfield 42, 3) := by decide +kernel
theorem dX12_fewest_195 : decode cX12_fewest 195 = .ok (.iload 6, 2) := by decide +kernel
theorem dX12_fewest_197 : decode cX12_fewest 197 = .ok (.iaload, 1) := by decide +kernel
theorem dX12_fewest_198 : decode cX12_fewest 198 = .ok (.iload_n 3, 1) := by decide +kernel
theorem dX12_fewest_199 : decode cX12_fewest 199 = .ok (.if_icmp .ge 13, 3) := by decide +kernel
theorem dX12_fewest_202 : decode cX12_fewest 202 = .ok (.aload_n 0, 1) := by decide +kernel
theorem dX12_fewest_203 : decode cX12_fewest 203 = .ok (.getfield 45, 3) := by decide +kernel
theorem dX12_fewest_206 : decode cX12_fewest 206 = .ok (.iload 6, 2) := by decide +kernel
theorem dX12_fewest_208 : decode cX12_fewest 208 = .ok (.iaload, 1) := by decide +kernel
theorem dX12_fewest_209 : decode cX12_fewest 209 = .ok (.goto 15, 3) := by decide +kernel
theorem dX12_fewest_212 : decode cX12_fewest 212 = .ok (.iload 4, 2) := by decide +kernel
theorem dX12_fewest_214 : decode cX12_fewest 214 = .ok (.aload_n 0, 1) := by decide +kernel
theorem dX12_fewest_215 : decode cX12_fewest 215 = .ok (.getfield 45, 3) := by decide +kernel
theorem dX12_fewest_218 : decode cX12_fewest 218 = .ok (.iload 6, 2) := by decide +kernel
theorem dX12_fewest_220 : decode cX12_fewest 220 = .ok (.iaload, 1) := by decide +kernel
theorem dX12_fewest_221 : decode cX12_fewest 221 = .ok (.invokestatic 311, 3) := by decide +kernel
theorem dX12_fewest_224 : decode cX12_fewest 224 = .ok (.istore 4, 2) := by decide +kernel
theorem dX12_fewest_226 : decode cX12_fewest 226 = .ok (.aload_n 0, 1) := by decide +kernel
theorem dX12_fewest_227 : decode cX12_fewest 227 = .ok (.getfield 42, 3) := by decide +kernel
theorem dX12_fewest_230 : decode cX12_fewest 230 = .ok (.iload 6, 2) := by decide +kernel
theorem dX12_fewest_232 : decode cX12_fewest 232 = .ok (.iaload, 1) := by decide +kernel
theorem dX12_fewest_233 : decode cX12_fewest 233 = .ok (.istore_n 3, 1) := by decide +kernel
theorem dX12_fewest_234 : decode cX12_fewest 234 = .ok (.iinc 5 1, 3) := by decide +kernel
theorem dX12_fewest_237 : decode cX12_fewest 237 = .ok (.goto (-86), 3) := by decide +kernel
theorem dX12_fewest_240 : decode cX12_fewest 240 = .ok (.iload_n 3, 1) := by decide +kernel
theorem dX12_fewest_241 : decode cX12_fewest 241 = .ok (.ldc 133, 2) := by decide +kernel
theorem dX12_fewest_243 : decode cX12_fewest 243 = .ok (.if_icmp .ne 7, 3) := by decide +kernel
theorem dX12_fewest_246 : decode cX12_fewest 246 = .ok (.iconst (-1), 1) := by decide +kernel
theorem dX12_fewest_247 : decode cX12_fewest 247 = .ok (.goto 13, 3) := by decide +kernel
theorem dX12_fewest_250 : decode cX12_fewest 250 = .ok (.iload_n 2, 1) := by decide +kernel
theorem dX12_fewest_251 : decode cX12_fewest 251 = .ok (.ifCond .eq 8, 3) := by decide +kernel
theorem dX12_fewest_254 : decode cX12_fewest 254 = .ok (.iload 4, 2) := by decide +kernel
theorem dX12_fewest_256 : decode cX12_fewest 256 = .ok (.goto 4, 3) := by decide +kernel
theorem dX12_fewest_259 : decode cX12_fewest 259 = .ok (.iload_n 3, 1) := by decide +kernel
theorem dX12_fewest_260 : decode cX12_fewest 260 = .ok (.ireturn, 1) := by decide +kernel
theorem dX12_moves_0 : decode cX12_moves 0 = .ok (.aload_n 0, 1) := by decide +kernel
theorem dX12_moves_1 : decode cX12_moves 1 = .ok (.iconst 0, 1) := by decide +kernel
theorem dX12_moves_2 : decode cX12_moves 2 = .ok (.putfield 3, 3) := by decide +kernel
theorem dX12_moves_5 : decode cX12_moves 5 = .ok (.aload_n 0, 1) := by decide +kernel
theorem dX12_moves_6 : decode cX12_moves 6 = .ok (.aload_n 0, 1) := by decide +kernel
theorem dX12_moves_7 : decode cX12_moves 7 = .ok (.iload_n 1, 1) := by decide +kernel
theorem dX12_moves_8 : decode cX12_moves 8 = .ok (.invokevirtual 299, 3) := by decide +kernel
theorem dX12_moves_11 : decode cX12_moves 11 = .ok (.iconst 1, 1) := by decide +kernel
theorem dX12_moves_12 : decode cX12_moves 12 = .ok (.invokevirtual 266, 3) := by decide +kernel
theorem dX12_moves_15 : decode cX12_moves 15 = .ok (.ifCond .eq 7, 3) := by decide +kernel
theorem dX12_moves_18 : decode cX12_moves 18 = .ok (.iconst 0, 1) := by decide +kernel
theorem dX12_moves_19 : decode cX12_moves 19 = .ok (.goto 21, 3) := by decide +kernel
theorem dX12_moves_22 : decode cX12_moves 22 = .ok (.aload_n 0, 1) := by decide +kernel
theorem dX12_moves_23 : decode cX12_moves 23 = .ok (.iload_n 1, 1) := by decide +kernel
theorem dX12_moves_24 : decode cX12_moves 24 = .ok (.invokevirtual 165, 3) := by decide +kernel
theorem dX12_moves_27 : decode cX12_moves 27 = .ok (.ifCond .eq 12, 3) := by decide +kernel
theorem dX12_moves_30 : decode cX12_moves 30 = .ok (.aload_n 0, 1) := by decide +kernel
theorem dX12_moves_31 : decode cX12_moves 31 = .ok (.iload_n 1, 1) := by decide +kernel
theorem dX12_moves_32 : decode cX12_moves 32 = .ok (.iconst 0, 1) := by decide +kernel
theorem dX12_moves_33 : decode cX12_moves 33 = .ok (.invokevirtual 391, 3) := by decide +kernel
theorem dX12_moves_36 : decode cX12_moves 36 = .ok (.goto 4, 3) := by decide +kernel
theorem dX12_moves_39 : decode cX12_moves 39 = .ok (.iconst (-1), 1) := by decide +kernel
theorem dX12_moves_40 : decode cX12_moves 40 = .ok (.ireturn, 1) := by decide +kernel
theorem dX12_first_0 : decode cX12_first 0 = .ok (.aload_n 0, 1) := by decide +kernel
theorem dX12_first_1 : decode cX12_first 1 = .ok (.iconst 0, 1) := by decide +kernel
theorem dX12_first_2 : decode cX12_first 2 = .ok (.putfield 3, 3) := by decide +kernel
theorem dX12_first_5 : decode cX12_first 5 = .ok (.aload_n 0, 1) := by decide +kernel
theorem dX12_first_6 : decode cX12_first 6 = .ok (.aload_n 0, 1) := by decide +kernel
theorem dX12_first_7 : decode cX12_first 7 = .ok (.iload_n 1, 1) := by decide +kernel
theorem dX12_first_8 : decode cX12_first 8 = .ok (.invokevirtual 299, 3) := by decide +kernel
theorem dX12_first_11 : decode cX12_first 11 = .ok (.iconst 1, 1) := by decide +kernel
theorem dX12_first_12 : decode cX12_first 12 = .ok (.invokevirtual 266, 3) := by decide +kernel
theorem dX12_first_15 : decode cX12_first 15 = .ok (.ifCond .eq 7, 3) := by decide +kernel
theorem dX12_first_18 : decode cX12_first 18 = .ok (.iconst 0, 1) := by decide +kernel
theorem dX12_first_19 : decode cX12_first 19 = .ok (.goto 21, 3) := by decide +kernel
theorem dX12_first_22 : decode cX12_first 22 = .ok (.aload_n 0, 1) := by decide +kernel
theorem dX12_first_23 : decode cX12_first 23 = .ok (.iload_n 1, 1) := by decide +kernel
theorem dX12_first_24 : decode cX12_first 24 = .ok (.invokevirtual 165, 3) := by decide +kernel
theorem dX12_first_27 : decode cX12_first 27 = .ok (.ifCond .eq 12, 3) := by decide +kernel
theorem dX12_first_30 : decode cX12_first 30 = .ok (.aload_n 0, 1) := by decide +kernel
theorem dX12_first_31 : decode cX12_first 31 = .ok (.iload_n 1, 1) := by decide +kernel
theorem dX12_first_32 : decode cX12_first 32 = .ok (.iconst 1, 1) := by decide +kernel
theorem dX12_first_33 : decode cX12_first 33 = .ok (.invokevirtual 391, 3) := by decide +kernel
theorem dX12_first_36 : decode cX12_first 36 = .ok (.goto 4, 3) := by decide +kernel
theorem dX12_first_39 : decode cX12_first 39 = .ok (.iconst (-1), 1) := by decide +kernel
theorem dX12_first_40 : decode cX12_first 40 = .ok (.ireturn, 1) := by decide +kernel
theorem dX12_can_0 : decode cX12_can 0 = .ok (.aload_n 0, 1) := by decide +kernel
theorem dX12_can_1 : decode cX12_can 1 = .ok (.iconst 0, 1) := by decide +kernel
theorem dX12_can_2 : decode cX12_can 2 = .ok (.putfield 3, 3) := by decide +kernel
theorem dX12_can_5 : decode cX12_can 5 = .ok (.aload_n 0, 1) := by decide +kernel
theorem dX12_can_6 : decode cX12_can 6 = .ok (.aload_n 0, 1) := by decide +kernel
theorem dX12_can_7 : decode cX12_can 7 = .ok (.iload_n 1, 1) := by decide +kernel
theorem dX12_can_8 : decode cX12_can 8 = .ok (.invokevirtual 299, 3) := by decide +kernel
theorem dX12_can_11 : decode cX12_can 11 = .ok (.iconst 1, 1) := by decide +kernel
theorem dX12_can_12 : decode cX12_can 12 = .ok (.invokevirtual 266, 3) := by decide +kernel
theorem dX12_can_15 : decode cX12_can 15 = .ok (.ifCond .ne 11, 3) := by decide +kernel
theorem dX12_can_18 : decode cX12_can 18 = .ok (.aload_n 0, 1) := by decide +kernel
theorem dX12_can_19 : decode cX12_can 19 = .ok (.iload_n 1, 1) := by decide +kernel
theorem dX12_can_20 : decode cX12_can 20 = .ok (.invokevirtual 165, 3) := by decide +kernel
theorem dX12_can_23 : decode cX12_can 23 = .ok (.ifCond .ne 5, 3) := by decide +kernel
theorem dX12_can_26 : decode cX12_can 26 = .ok (.iconst 0, 1) := by decide +kernel
theorem dX12_can_27 : decode cX12_can 27 = .ok (.ireturn, 1) := by decide +kernel
theorem dX12_can_28 : decode cX12_can 28 = .ok (.iconst 0, 1) := by decide +kernel
theorem dX12_can_29 : decode cX12_can 29 = .ok (.istore_n 2, 1) := by decide +kernel
theorem dX12_can_30 : decode cX12_can 30 = .ok (.iconst 0, 1) := by decide +kernel
theorem dX12_can_31 : decode cX12_can 31 = .ok (.istore_n 3, 1) := by decide +kernel
theorem dX12_can_32 : decode cX12_can 32 = .ok (.iload_n 3, 1) := by decide +kernel
theorem dX12_can_33 : decode cX12_can 33 = .ok (.bipush 10, 2) := by decide +kernel
theorem dX12_can_35 : decode cX12_can 35 = .ok (.if_icmp .ge 31, 3) := by decide +kernel
theorem dX12_can_38 : decode cX12_can 38 = .ok (.iload_n 2, 1) := by decide +kernel
theorem dX12_can_39 : decode cX12_can 39 = .ok (.aload_n 0, 1) := by decide +kernel
theorem dX12_can_40 : decode cX12_can 40 = .ok (.iload_n 1, 1) := by decide +kernel
theorem dX12_can_41 : decode cX12_can 41 = .ok (.invokevirtual 378, 3) := by decide +kernel
theorem dX12_can_44 : decode cX12_can 44 = .ok (.iload_n 3, 1) := by decide +kernel
theorem dX12_can_45 : decode cX12_can 45 = .ok (.invokestatic 388, 3) := by decide +kernel
theorem dX12_can_48 : decode cX12_can 48 = .ok (.ifCond .eq 9, 3) := by decide +kernel
theorem dX12_can_51 : decode cX12_can 51 = .ok (.iconst 1, 1) := by decide +kernel
theorem dX12_can_52 : decode cX12_can 52 = .ok (.iload_n 3, 1) := by decide +kernel
theorem dX12_can_53 : decode cX12_can 53 = .ok (.ishl, 1) := by decide +kernel
theorem dX12_can_54 : decode cX12_can 54 = .ok (.goto 4, 3) := by decide +kernel
theorem dX12_can_57 : decode cX12_can 57 = .ok (.iconst 0, 1) := by decide +kernel
theorem dX12_can_58 : decode cX12_can 58 = .ok (.ior, 1) := by decide +kernel
theorem dX12_can_59 : decode cX12_can 59 = .ok (.istore_n 2, 1) := by decide +kernel
theorem dX12_can_60 : decode cX12_can 60 = .ok (.iinc 3 1, 3) := by decide +kernel
theorem dX12_can_63 : decode cX12_can 63 = .ok (.goto (-31), 3) := by decide +kernel
theorem dX12_can_66 : decode cX12_can 66 = .ok (.iload_n 2, 1) := by decide +kernel
theorem dX12_can_67 : decode cX12_can 67 = .ok (.ireturn, 1) := by decide +kernel
theorem dX12_feltOf_0 : decode cX12_feltOf 0 = .ok (.iload_n 2, 1) := by decide +kernel
theorem dX12_feltOf_1 : decode cX12_feltOf 1 = .ok (.ifCond .ne 12, 3) := by decide +kernel
theorem dX12_feltOf_4 : decode cX12_feltOf 4 = .ok (.aload_n 0, 1) := by decide +kernel
theorem dX12_feltOf_5 : decode cX12_feltOf 5 = .ok (.iload_n 1, 1) := by decide +kernel
theorem dX12_feltOf_6 : decode cX12_feltOf 6 = .ok (.iconst 1, 1) := by decide +kernel
theorem dX12_feltOf_7 : decode cX12_feltOf 7 = .ok (.invokevirtual 80, 3) := by decide +kernel
theorem dX12_feltOf_10 : decode cX12_feltOf 10 = .ok (.goto 26, 3) := by decide +kernel
theorem dX12_feltOf_13 : decode cX12_feltOf 13 = .ok (.iload_n 2, 1) := by decide +kernel
theorem dX12_feltOf_14 : decode cX12_feltOf 14 = .ok (.iconst 1, 1) := by decide +kernel
theorem dX12_feltOf_15 : decode cX12_feltOf 15 = .ok (.if_icmp .ne 12, 3) := by decide +kernel
theorem dX12_feltOf_18 : decode cX12_feltOf 18 = .ok (.aload_n 0, 1) := by decide +kernel
theorem dX12_feltOf_19 : decode cX12_feltOf 19 = .ok (.iload_n 1, 1) := by decide +kernel
theorem dX12_feltOf_20 : decode cX12_feltOf 20 = .ok (.iconst 2, 1) := by decide +kernel
theorem dX12_feltOf_21 : decode cX12_feltOf 21 = .ok (.invokevirtual 80, 3) := by decide +kernel
theorem dX12_feltOf_24 : decode cX12_feltOf 24 = .ok (.goto 12, 3) := by decide +kernel
theorem dX12_feltOf_27 : decode cX12_feltOf 27 = .ok (.aload_n 0, 1) := by decide +kernel
theorem dX12_feltOf_28 : decode cX12_feltOf 28 = .ok (.iload_n 1, 1) := by decide +kernel
theorem dX12_feltOf_29 : decode cX12_feltOf 29 = .ok (.iconst 3, 1) := by decide +kernel
theorem dX12_feltOf_30 : decode cX12_feltOf 30 = .ok (.invokevirtual 80, 3) := by decide +kernel
theorem dX12_feltOf_33 : decode cX12_feltOf 33 = .ok (.bipush 10, 2) := by decide +kernel
theorem dX12_feltOf_35 : decode cX12_feltOf 35 = .ok (.idiv, 1) := by decide +kernel
theorem dX12_feltOf_36 : decode cX12_feltOf 36 = .ok (.ireturn, 1) := by decide +kernel
theorem dX12_isFelt_0 : decode cX12_isFelt 0 = .ok (.aload_n 0, 1) := by decide +kernel
theorem dX12_isFelt_1 : decode cX12_isFelt 1 = .ok (.getfield 98, 3) := by decide +kernel
theorem dX12_isFelt_4 : decode cX12_isFelt 4 = .ok (.iconst 2, 1) := by decide +kernel
theorem dX12_isFelt_5 : decode cX12_isFelt 5 = .ok (.irem, 1) := by decide +kernel
theorem dX12_isFelt_6 : decode cX12_isFelt 6 = .ok (.ifCond .ne 16, 3) := by decide +kernel
theorem dX12_isFelt_9 : decode cX12_isFelt 9 = .ok (.aload_n 0, 1) := by decide +kernel
theorem dX12_isFelt_10 : decode cX12_isFelt 10 = .ok (.getfield 98, 3) := by decide +kernel
theorem dX12_isFelt_13 : decode cX12_isFelt 13 = .ok (.bipush 40, 2) := by decide +kernel
theorem dX12_isFelt_15 : decode cX12_isFelt 15 = .ok (.if_icmp .gt 7, 3) := by decide +kernel
theorem dX12_isFelt_18 : decode cX12_isFelt 18 = .ok (.iconst 1, 1) := by decide +kernel
theorem dX12_isFelt_19 : decode cX12_isFelt 19 = .ok (.goto 4, 3) := by decide +kernel
theorem dX12_isFelt_22 : decode cX12_isFelt 22 = .ok (.iconst 0, 1) := by decide +kernel
theorem dX12_isFelt_23 : decode cX12_isFelt 23 = .ok (.istore_n 1, 1) := by decide +kernel
theorem dX12_isFelt_24 : decode cX12_isFelt 24 = .ok (.iconst 0, 1) := by decide +kernel
theorem dX12_isFelt_25 : decode cX12_isFelt 25 = .ok (.istore_n 2, 1) := by decide +kernel
theorem dX12_isFelt_26 : decode cX12_isFelt 26 = .ok (.iload_n 2, 1) := by decide +kernel
theorem dX12_isFelt_27 : decode cX12_isFelt 27 = .ok (.aload_n 0, 1) := by decide +kernel
theorem dX12_isFelt_28 : decode cX12_isFelt 28 = .ok (.getfield 98, 3) := by decide +kernel
theorem dX12_isFelt_31 : decode cX12_isFelt 31 = .ok (.if_icmp .ge 50, 3) := by decide +kernel
theorem dX12_isFelt_34 : decode cX12_isFelt 34 = .ok (.iload_n 1, 1) := by decide +kernel
theorem dX12_isFelt_35 : decode cX12_isFelt 35 = .ok (.ifCond .eq 46, 3) := by decide +kernel
theorem dX12_isFelt_38 : decode cX12_isFelt 38 = .ok (.aload_n 0, 1) := by decide +kernel
theorem dX12_isFelt_39 : decode cX12_isFelt 39 = .ok (.getfield 29, 3) := by decide +kernel
theorem dX12_isFelt_42 : decode cX12_isFelt 42 = .ok (.iload_n 2, 1) := by decide +kernel
theorem dX12_isFelt_43 : decode cX12_isFelt 43 = .ok (.baload, 1) := by decide +kernel
theorem dX12_isFelt_44 : decode cX12_isFelt 44 = .ok (.iconst 0, 1) := by decide +kernel
theorem dX12_isFelt_45 : decode cX12_isFelt 45 = .ok (.iconst 2, 1) := by decide +kernel
theorem dX12_isFelt_46 : decode cX12_isFelt 46 = .ok (.invokestatic 87, 3) := by decide +kernel
theorem dX12_isFelt_49 : decode cX12_isFelt 49 = .ok (.ifCond .eq 24, 3) := by decide +kernel
theorem dX12_isFelt_52 : decode cX12_isFelt 52 = .ok (.aload_n 0, 1) := by decide +kernel
theorem dX12_isFelt_53 : decode cX12_isFelt 53 = .ok (.getfield 29, 3) := by decide +kernel
theorem dX12_isFelt_56 : decode cX12_isFelt 56 = .ok (.iload_n 2, 1) := by decide +kernel
theorem dX12_isFelt_57 : decode cX12_isFelt 57 = .ok (.iconst 1, 1) := by decide +kernel
theorem dX12_isFelt_58 : decode cX12_isFelt 58 = .ok (.iadd, 1) := by decide +kernel
theorem dX12_isFelt_59 : decode cX12_isFelt 59 = .ok (.baload, 1) := by decide +kernel
theorem dX12_isFelt_60 : decode cX12_isFelt 60 = .ok (.iconst 0, 1) := by decide +kernel
theorem dX12_isFelt_61 : decode cX12_isFelt 61 = .ok (.bipush 10, 2) := by decide +kernel
theorem dX12_isFelt_63 : decode cX12_isFelt 63 = .ok (.invokestatic 87, 3) := by decide +kernel
theorem dX12_isFelt_66 : decode cX12_isFelt 66 = .ok (.ifCond .eq 7, 3) := by decide +kernel
theorem dX12_isFelt_69 : decode cX12_isFelt 69 = .ok (.iconst 1, 1) := by decide +kernel
theorem dX12_isFelt_70 : decode cX12_isFelt 70 = .ok (.goto 4, 3) := by decide +kernel
theorem dX12_isFelt_73 : decode cX12_isFelt 73 = .ok (.iconst 0, 1) := by decide +kernel
theorem dX12_isFelt_74 : decode cX12_isFelt 74 = .ok (.istore_n 1, 1) := by decide +kernel
theorem dX12_isFelt_75 : decode cX12_isFelt 75 = .ok (.iinc 2 2, 3) := by decide +kernel
theorem dX12_isFelt_78 : decode cX12_isFelt 78 = .ok (.goto (-52), 3) := by decide +kernel
theorem dX12_isFelt_81 : decode cX12_isFelt 81 = .ok (.iload_n 1, 1) := by decide +kernel
theorem dX12_isFelt_82 : decode cX12_isFelt 82 = .ok (.ireturn, 1) := by decide +kernel
theorem dX12_fitting_0 : decode cX12_fitting 0 = .ok (.iconst 0, 1) := by decide +kernel
theorem dX12_fitting_1 : decode cX12_fitting 1 = .ok (.istore_n 1, 1) := by decide +kernel
theorem dX12_fitting_2 : decode cX12_fitting 2 = .ok (.iconst 0, 1) := by decide +kernel
theorem dX12_fitting_3 : decode cX12_fitting 3 = .ok (.istore_n 2, 1) := by decide +kernel
theorem dX12_fitting_4 : decode cX12_fitting 4 = .ok (.iload_n 2, 1) := by decide +kernel
theorem dX12_fitting_5 : decode cX12_fitting 5 = .ok (.bipush 8, 2) := by decide +kernel
theorem dX12_fitting_7 : decode cX12_fitting 7 = .ok (.if_icmp .gt 94, 3) := by decide +kernel
theorem dX12_fitting_10 : decode cX12_fitting 10 = .ok (.aload_n 0, 1) := by decide +kernel
theorem dX12_fitting_11 : decode cX12_fitting 11 = .ok (.iload_n 2, 1) := by decide +kernel
theorem dX12_fitting_12 : decode cX12_fitting 12 = .ok (.invokevirtual 351, 3) := by decide +kernel
theorem dX12_fitting_15 : decode cX12_fitting 15 = .ok (.ifCond .le 7, 3) := by decide +kernel
theorem dX12_fitting_18 : decode cX12_fitting 18 = .ok (.iconst 1, 1) := by decide +kernel
theorem dX12_fitting_19 : decode cX12_fitting 19 = .ok (.goto 4, 3) := by decide +kernel
theorem dX12_fitting_22 : decode cX12_fitting 22 = .ok (.iconst 0, 1) := by decide +kernel
theorem dX12_fitting_23 : decode cX12_fitting 23 = .ok (.istore_n 3, 1) := by decide +kernel
theorem dX12_fitting_24 : decode cX12_fitting 24 = .ok (.iconst 0, 1) := by decide +kernel
theorem dX12_fitting_25 : decode cX12_fitting 25 = .ok (.istore 4, 2) := by decide +kernel
theorem dX12_fitting_27 : decode cX12_fitting 27 = .ok (.iload 4, 2) := by decide +kernel
theorem dX12_fitting_29 : decode cX12_fitting 29 = .ok (.aload_n 0, 1) := by decide +kernel
theorem dX12_fitting_30 : decode cX12_fitting 30 = .ok (.getfield 98, 3) := by decide +kernel
theorem dX12_fitting_33 : decode cX12_fitting 33 = .ok (.if_icmp .ge 48, 3) := by decide +kernel
theorem dX12_fitting_36 : decode cX12_fitting 36 = .ok (.iload_n 3, 1) := by decide +kernel
theorem dX12_fitting_37 : decode cX12_fitting 37 = .ok (.ifCond .eq 36, 3) := by decide +kernel
