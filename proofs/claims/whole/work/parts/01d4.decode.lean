theorem dX7_isTooBusy_4 : decode cX7_isTooBusy 4 = .ok (.bipush 25, 2) := by decide +kernel
theorem dX7_isTooBusy_6 : decode cX7_isTooBusy 6 = .ok (.iload_n 1, 1) := by decide +kernel
theorem dX7_isTooBusy_7 : decode cX7_isTooBusy 7 = .ok (.iadd, 1) := by decide +kernel
theorem dX7_isTooBusy_8 : decode cX7_isTooBusy 8 = .ok (.iaload, 1) := by decide +kernel
theorem dX7_isTooBusy_9 : decode cX7_isTooBusy 9 = .ok (.aload_n 0, 1) := by decide +kernel
theorem dX7_isTooBusy_10 : decode cX7_isTooBusy 10 = .ok (.getfield 7, 3) := by decide +kernel
theorem dX7_isTooBusy_13 : decode cX7_isTooBusy 13 = .ok (.iconst 0, 1) := by decide +kernel
theorem dX7_isTooBusy_14 : decode cX7_isTooBusy 14 = .ok (.iaload, 1) := by decide +kernel
theorem dX7_isTooBusy_15 : decode cX7_isTooBusy 15 = .ok (.isub, 1) := by decide +kernel
theorem dX7_isTooBusy_16 : decode cX7_isTooBusy 16 = .ok (.sipush 200, 3) := by decide +kernel
theorem dX7_isTooBusy_19 : decode cX7_isTooBusy 19 = .ok (.if_icmp .le 7, 3) := by decide +kernel
theorem dX7_isTooBusy_22 : decode cX7_isTooBusy 22 = .ok (.iconst 1, 1) := by decide +kernel
theorem dX7_isTooBusy_23 : decode cX7_isTooBusy 23 = .ok (.goto 4, 3) := by decide +kernel
theorem dX7_isTooBusy_26 : decode cX7_isTooBusy 26 = .ok (.iconst 0, 1) := by decide +kernel
theorem dX7_isTooBusy_27 : decode cX7_isTooBusy 27 = .ok (.ireturn, 1) := by decide +kernel
theorem dX7_endOf_0 : decode cX7_endOf 0 = .ok (.aload_n 0, 1) := by decide +kernel
theorem dX7_endOf_1 : decode cX7_endOf 1 = .ok (.getfield 7, 3) := by decide +kernel
theorem dX7_endOf_4 : decode cX7_endOf 4 = .ok (.bipush 25, 2) := by decide +kernel
theorem dX7_endOf_6 : decode cX7_endOf 6 = .ok (.iload_n 1, 1) := by decide +kernel
theorem dX7_endOf_7 : decode cX7_endOf 7 = .ok (.iadd, 1) := by decide +kernel
theorem dX7_endOf_8 : decode cX7_endOf 8 = .ok (.iaload, 1) := by decide +kernel
theorem dX7_endOf_9 : decode cX7_endOf 9 = .ok (.aload_n 0, 1) := by decide +kernel
theorem dX7_endOf_10 : decode cX7_endOf 10 = .ok (.getfield 7, 3) := by decide +kernel
theorem dX7_endOf_13 : decode cX7_endOf 13 = .ok (.iconst 0, 1) := by decide +kernel
theorem dX7_endOf_14 : decode cX7_endOf 14 = .ok (.iaload, 1) := by decide +kernel
theorem dX7_endOf_15 : decode cX7_endOf 15 = .ok (.if_icmp .le 15, 3) := by decide +kernel
theorem dX7_endOf_18 : decode cX7_endOf 18 = .ok (.aload_n 0, 1) := by decide +kernel
theorem dX7_endOf_19 : decode cX7_endOf 19 = .ok (.getfield 7, 3) := by decide +kernel
theorem dX7_endOf_22 : decode cX7_endOf 22 = .ok (.bipush 25, 2) := by decide +kernel
theorem dX7_endOf_24 : decode cX7_endOf 24 = .ok (.iload_n 1, 1) := by decide +kernel
theorem dX7_endOf_25 : decode cX7_endOf 25 = .ok (.iadd, 1) := by decide +kernel
theorem dX7_endOf_26 : decode cX7_endOf 26 = .ok (.iaload, 1) := by decide +kernel
theorem dX7_endOf_27 : decode cX7_endOf 27 = .ok (.goto 9, 3) := by decide +kernel
theorem dX7_endOf_30 : decode cX7_endOf 30 = .ok (.aload_n 0, 1) := by decide +kernel
theorem dX7_endOf_31 : decode cX7_endOf 31 = .ok (.getfield 7, 3) := by decide +kernel
theorem dX7_endOf_34 : decode cX7_endOf 34 = .ok (.iconst 0, 1) := by decide +kernel
theorem dX7_endOf_35 : decode cX7_endOf 35 = .ok (.iaload, 1) := by decide +kernel
theorem dX7_endOf_36 : decode cX7_endOf 36 = .ok (.istore_n 3, 1) := by decide +kernel
theorem dX7_endOf_37 : decode cX7_endOf 37 = .ok (.iload_n 3, 1) := by decide +kernel
theorem dX7_endOf_38 : decode cX7_endOf 38 = .ok (.iload_n 2, 1) := by decide +kernel
theorem dX7_endOf_39 : decode cX7_endOf 39 = .ok (.aload_n 0, 1) := by decide +kernel
theorem dX7_endOf_40 : decode cX7_endOf 40 = .ok (.getfield 7, 3) := by decide +kernel
theorem dX7_endOf_43 : decode cX7_endOf 43 = .ok (.bipush 13, 2) := by decide +kernel
theorem dX7_endOf_45 : decode cX7_endOf 45 = .ok (.iload_n 1, 1) := by decide +kernel
theorem dX7_endOf_46 : decode cX7_endOf 46 = .ok (.iadd, 1) := by decide +kernel
theorem dX7_endOf_47 : decode cX7_endOf 47 = .ok (.iaload, 1) := by decide +kernel
theorem dX7_endOf_48 : decode cX7_endOf 48 = .ok (.iadd, 1) := by decide +kernel
theorem dX7_endOf_49 : decode cX7_endOf 49 = .ok (.iconst 1, 1) := by decide +kernel
theorem dX7_endOf_50 : decode cX7_endOf 50 = .ok (.isub, 1) := by decide +kernel
theorem dX7_endOf_51 : decode cX7_endOf 51 = .ok (.aload_n 0, 1) := by decide +kernel
theorem dX7_endOf_52 : decode cX7_endOf 52 = .ok (.getfield 7, 3) := by decide +kernel
theorem dX7_endOf_55 : decode cX7_endOf 55 = .ok (.bipush 13, 2) := by decide +kernel
theorem dX7_endOf_57 : decode cX7_endOf 57 = .ok (.iload_n 1, 1) := by decide +kernel
theorem dX7_endOf_58 : decode cX7_endOf 58 = .ok (.iadd, 1) := by decide +kernel
theorem dX7_endOf_59 : decode cX7_endOf 59 = .ok (.iaload, 1) := by decide +kernel
theorem dX7_endOf_60 : decode cX7_endOf 60 = .ok (.idiv, 1) := by decide +kernel
theorem dX7_endOf_61 : decode cX7_endOf 61 = .ok (.iadd, 1) := by decide +kernel
theorem dX7_endOf_62 : decode cX7_endOf 62 = .ok (.ireturn, 1) := by decide +kernel
theorem dX7_transmit_0 : decode cX7_transmit 0 = .ok (.aload_n 0, 1) := by decide +kernel
theorem dX7_transmit_1 : decode cX7_transmit 1 = .ok (.iload_n 1, 1) := by decide +kernel
theorem dX7_transmit_2 : decode cX7_transmit 2 = .ok (.invokevirtual 96, 3) := by decide +kernel
theorem dX7_transmit_5 : decode cX7_transmit 5 = .ok (.istore_n 3, 1) := by decide +kernel
theorem dX7_transmit_6 : decode cX7_transmit 6 = .ok (.aload_n 0, 1) := by decide +kernel
theorem dX7_transmit_7 : decode cX7_transmit 7 = .ok (.iload_n 1, 1) := by decide +kernel
theorem dX7_transmit_8 : decode cX7_transmit 8 = .ok (.iload_n 3, 1) := by decide +kernel
theorem dX7_transmit_9 : decode cX7_transmit 9 = .ok (.invokevirtual 99, 3) := by decide +kernel
theorem dX7_transmit_12 : decode cX7_transmit 12 = .ok (.aload_n 0, 1) := by decide +kernel
theorem dX7_transmit_13 : decode cX7_transmit 13 = .ok (.iload_n 3, 1) := by decide +kernel
theorem dX7_transmit_14 : decode cX7_transmit 14 = .ok (.invokevirtual 102, 3) := by decide +kernel
theorem dX7_transmit_17 : decode cX7_transmit 17 = .ok (.ifCond .eq 21, 3) := by decide +kernel
theorem dX7_transmit_20 : decode cX7_transmit 20 = .ok (.aload_n 0, 1) := by decide +kernel
theorem dX7_transmit_21 : decode cX7_transmit 21 = .ok (.getfield 7, 3) := by decide +kernel
theorem dX7_transmit_24 : decode cX7_transmit 24 = .ok (.bipush 37, 2) := by decide +kernel
theorem dX7_transmit_26 : decode cX7_transmit 26 = .ok (.iload_n 3, 1) := by decide +kernel
theorem dX7_transmit_27 : decode cX7_transmit 27 = .ok (.iadd, 1) := by decide +kernel
theorem dX7_transmit_28 : decode cX7_transmit 28 = .ok (.dup2, 1) := by decide +kernel
theorem dX7_transmit_29 : decode cX7_transmit 29 = .ok (.iaload, 1) := by decide +kernel
theorem dX7_transmit_30 : decode cX7_transmit 30 = .ok (.iconst 1, 1) := by decide +kernel
theorem dX7_transmit_31 : decode cX7_transmit 31 = .ok (.iadd, 1) := by decide +kernel
theorem dX7_transmit_32 : decode cX7_transmit 32 = .ok (.iastore, 1) := by decide +kernel
theorem dX7_transmit_33 : decode cX7_transmit 33 = .ok (.bipush 10, 2) := by decide +kernel
theorem dX7_transmit_35 : decode cX7_transmit 35 = .ok (.iload_n 3, 1) := by decide +kernel
theorem dX7_transmit_36 : decode cX7_transmit 36 = .ok (.iadd, 1) := by decide +kernel
theorem dX7_transmit_37 : decode cX7_transmit 37 = .ok (.ireturn, 1) := by decide +kernel
theorem dX7_transmit_38 : decode cX7_transmit 38 = .ok (.aload_n 0, 1) := by decide +kernel
theorem dX7_transmit_39 : decode cX7_transmit 39 = .ok (.iload_n 3, 1) := by decide +kernel
theorem dX7_transmit_40 : decode cX7_transmit 40 = .ok (.iload_n 2, 1) := by decide +kernel
theorem dX7_transmit_41 : decode cX7_transmit 41 = .ok (.invokevirtual 105, 3) := by decide +kernel
theorem dX7_transmit_44 : decode cX7_transmit 44 = .ok (.istore 4, 2) := by decide +kernel
theorem dX7_transmit_46 : decode cX7_transmit 46 = .ok (.iload 4, 2) := by decide +kernel
theorem dX7_transmit_48 : decode cX7_transmit 48 = .ok (.aload_n 0, 1) := by decide +kernel
theorem dX7_transmit_49 : decode cX7_transmit 49 = .ok (.getfield 7, 3) := by decide +kernel
theorem dX7_transmit_52 : decode cX7_transmit 52 = .ok (.bipush 9, 2) := by decide +kernel
theorem dX7_transmit_54 : decode cX7_transmit 54 = .ok (.iload_n 3, 1) := by decide +kernel
theorem dX7_transmit_55 : decode cX7_transmit 55 = .ok (.iadd, 1) := by decide +kernel
theorem dX7_transmit_56 : decode cX7_transmit 56 = .ok (.iaload, 1) := by decide +kernel
theorem dX7_transmit_57 : decode cX7_transmit 57 = .ok (.iadd, 1) := by decide +kernel
theorem dX7_transmit_58 : decode cX7_transmit 58 = .ok (.istore 5, 2) := by decide +kernel
theorem dX7_transmit_60 : decode cX7_transmit 60 = .ok (.aload_n 0, 1) := by decide +kernel
theorem dX7_transmit_61 : decode cX7_transmit 61 = .ok (.getfield 7, 3) := by decide +kernel
theorem dX7_transmit_64 : decode cX7_transmit 64 = .ok (.bipush 25, 2) := by decide +kernel
theorem dX7_transmit_66 : decode cX7_transmit 66 = .ok (.iload_n 3, 1) := by decide +kernel
theorem dX7_transmit_67 : decode cX7_transmit 67 = .ok (.iadd, 1) := by decide +kernel
theorem dX7_transmit_68 : decode cX7_transmit 68 = .ok (.iload 4, 2) := by decide +kernel
theorem dX7_transmit_70 : decode cX7_transmit 70 = .ok (.iastore, 1) := by decide +kernel
theorem dX7_transmit_71 : decode cX7_transmit 71 = .ok (.aload_n 0, 1) := by decide +kernel
theorem dX7_transmit_72 : decode cX7_transmit 72 = .ok (.getfield 7, 3) := by decide +kernel
theorem dX7_transmit_75 : decode cX7_transmit 75 = .ok (.bipush 21, 2) := by decide +kernel
theorem dX7_transmit_77 : decode cX7_transmit 77 = .ok (.iload_n 3, 1) := by decide +kernel
theorem dX7_transmit_78 : decode cX7_transmit 78 = .ok (.iadd, 1) := by decide +kernel
theorem dX7_transmit_79 : decode cX7_transmit 79 = .ok (.dup2, 1) := by decide +kernel
theorem dX7_transmit_80 : decode cX7_transmit 80 = .ok (.iaload, 1) := by decide +kernel
theorem dX7_transmit_81 : decode cX7_transmit 81 = .ok (.iload_n 2, 1) := by decide +kernel
theorem dX7_transmit_82 : decode cX7_transmit 82 = .ok (.iadd, 1) := by decide +kernel
theorem dX7_transmit_83 : decode cX7_transmit 83 = .ok (.iastore, 1) := by decide +kernel
theorem dX7_transmit_84 : decode cX7_transmit 84 = .ok (.aload_n 0, 1) := by decide +kernel
theorem dX7_transmit_85 : decode cX7_transmit 85 = .ok (.getfield 7, 3) := by decide +kernel
theorem dX7_transmit_88 : decode cX7_transmit 88 = .ok (.bipush 29, 2) := by decide +kernel
theorem dX7_transmit_90 : decode cX7_transmit 90 = .ok (.iload_n 3, 1) := by decide +kernel
theorem dX7_transmit_91 : decode cX7_transmit 91 = .ok (.iadd, 1) := by decide +kernel
theorem dX7_transmit_92 : decode cX7_transmit 92 = .ok (.dup2, 1) := by decide +kernel
theorem dX7_transmit_93 : decode cX7_transmit 93 = .ok (.iaload, 1) := by decide +kernel
theorem dX7_transmit_94 : decode cX7_transmit 94 = .ok (.iconst 1, 1) := by decide +kernel
theorem dX7_transmit_95 : decode cX7_transmit 95 = .ok (.iadd, 1) := by decide +kernel
theorem dX7_transmit_96 : decode cX7_transmit 96 = .ok (.iastore, 1) := by decide +kernel
theorem dX7_transmit_97 : decode cX7_transmit 97 = .ok (.aload_n 0, 1) := by decide +kernel
theorem dX7_transmit_98 : decode cX7_transmit 98 = .ok (.getfield 7, 3) := by decide +kernel
theorem dX7_transmit_101 : decode cX7_transmit 101 = .ok (.bipush 33, 2) := by decide +kernel
theorem dX7_transmit_103 : decode cX7_transmit 103 = .ok (.iload_n 3, 1) := by decide +kernel
theorem dX7_transmit_104 : decode cX7_transmit 104 = .ok (.iadd, 1) := by decide +kernel
theorem dX7_transmit_105 : decode cX7_transmit 105 = .ok (.dup2, 1) := by decide +kernel
theorem dX7_transmit_106 : decode cX7_transmit 106 = .ok (.iaload, 1) := by decide +kernel
theorem dX7_transmit_107 : decode cX7_transmit 107 = .ok (.iload_n 2, 1) := by decide +kernel
theorem dX7_transmit_108 : decode cX7_transmit 108 = .ok (.iadd, 1) := by decide +kernel
theorem dX7_transmit_109 : decode cX7_transmit 109 = .ok (.iastore, 1) := by decide +kernel
theorem dX7_transmit_110 : decode cX7_transmit 110 = .ok (.aload_n 0, 1) := by decide +kernel
theorem dX7_transmit_111 : decode cX7_transmit 111 = .ok (.getfield 7, 3) := by decide +kernel
theorem dX7_transmit_114 : decode cX7_transmit 114 = .ok (.bipush 89, 2) := by decide +kernel
theorem dX7_transmit_116 : decode cX7_transmit 116 = .ok (.iload_n 1, 1) := by decide +kernel
theorem dX7_transmit_117 : decode cX7_transmit 117 = .ok (.iadd, 1) := by decide +kernel
theorem dX7_transmit_118 : decode cX7_transmit 118 = .ok (.dup2, 1) := by decide +kernel
theorem dX7_transmit_119 : decode cX7_transmit 119 = .ok (.iaload, 1) := by decide +kernel
theorem dX7_transmit_120 : decode cX7_transmit 120 = .ok (.aload_n 0, 1) := by decide +kernel
theorem dX7_transmit_121 : decode cX7_transmit 121 = .ok (.getfield 7, 3) := by decide +kernel
theorem dX7_transmit_124 : decode cX7_transmit 124 = .ok (.bipush 105, 2) := by decide +kernel
theorem dX7_transmit_126 : decode cX7_transmit 126 = .ok (.iload_n 1, 1) := by decide +kernel
theorem dX7_transmit_127 : decode cX7_transmit 127 = .ok (.iadd, 1) := by decide +kernel
theorem dX7_transmit_128 : decode cX7_transmit 128 = .ok (.iaload, 1) := by decide +kernel
theorem dX7_transmit_129 : decode cX7_transmit 129 = .ok (.bipush (-9), 2) := by decide +kernel
theorem dX7_transmit_131 : decode cX7_transmit 131 = .ok (.if_icmp .eq 20, 3) := by decide +kernel
theorem dX7_transmit_134 : decode cX7_transmit 134 = .ok (.aload_n 0, 1) := by decide +kernel
theorem dX7_transmit_135 : decode cX7_transmit 135 = .ok (.getfield 7, 3) := by decide +kernel
theorem dX7_transmit_138 : decode cX7_transmit 138 = .ok (.bipush 105, 2) := by decide +kernel
theorem dX7_transmit_140 : decode cX7_transmit 140 = .ok (.iload_n 1, 1) := by decide +kernel
theorem dX7_transmit_141 : decode cX7_transmit 141 = .ok (.iadd, 1) := by decide +kernel
theorem dX7_transmit_142 : decode cX7_transmit 142 = .ok (.iaload, 1) := by decide +kernel
theorem dX7_transmit_143 : decode cX7_transmit 143 = .ok (.iload_n 3, 1) := by decide +kernel
theorem dX7_transmit_144 : decode cX7_transmit 144 = .ok (.if_icmp .eq 7, 3) := by decide +kernel
theorem dX7_transmit_147 : decode cX7_transmit 147 = .ok (.iconst 1, 1) := by decide +kernel
theorem dX7_transmit_148 : decode cX7_transmit 148 = .ok (.goto 4, 3) := by decide +kernel
theorem dX7_transmit_151 : decode cX7_transmit 151 = .ok (.iconst 0, 1) := by decide +kernel
theorem dX7_transmit_152 : decode cX7_transmit 152 = .ok (.iadd, 1) := by decide +kernel
theorem dX7_transmit_153 : decode cX7_transmit 153 = .ok (.iastore, 1) := by decide +kernel
theorem dX7_transmit_154 : decode cX7_transmit 154 = .ok (.aload_n 0, 1) := by decide +kernel
theorem dX7_transmit_155 : decode cX7_transmit 155 = .ok (.getfield 7, 3) := by decide +kernel
theorem dX7_transmit_158 : decode cX7_transmit 158 = .ok (.bipush 105, 2) := by decide +kernel
theorem dX7_transmit_160 : decode cX7_transmit 160 = .ok (.iload_n 1, 1) := by decide +kernel
theorem dX7_transmit_161 : decode cX7_transmit 161 = .ok (.iadd, 1) := by decide +kernel
theorem dX7_transmit_162 : decode cX7_transmit 162 = .ok (.iload_n 3, 1) := by decide +kernel
theorem dX7_transmit_163 : decode cX7_transmit 163 = .ok (.iastore, 1) := by decide +kernel
theorem dX7_transmit_164 : decode cX7_transmit 164 = .ok (.aload_n 0, 1) := by decide +kernel
theorem dX7_transmit_165 : decode cX7_transmit 165 = .ok (.getfield 7, 3) := by decide +kernel
theorem dX7_transmit_168 : decode cX7_transmit 168 = .ok (.bipush 121, 2) := by decide +kernel
theorem dX7_transmit_170 : decode cX7_transmit 170 = .ok (.iload_n 1, 1) := by decide +kernel
theorem dX7_transmit_171 : decode cX7_transmit 171 = .ok (.iadd, 1) := by decide +kernel
theorem dX7_transmit_172 : decode cX7_transmit 172 = .ok (.dup2, 1) := by decide +kernel
theorem dX7_transmit_173 : decode cX7_transmit 173 = .ok (.iaload, 1) := by decide +kernel
theorem dX7_transmit_174 : decode cX7_transmit 174 = .ok (.iload 5, 2) := by decide +kernel
theorem dX7_transmit_176 : decode cX7_transmit 176 = .ok (.aload_n 0, 1) := by decide +kernel
theorem dX7_transmit_177 : decode cX7_transmit 177 = .ok (.getfield 7, 3) := by decide +kernel
theorem dX7_transmit_180 : decode cX7_transmit 180 = .ok (.sipush 137, 3) := by decide +kernel
theorem dX7_transmit_183 : decode cX7_transmit 183 = .ok (.iload_n 1, 1) := by decide +kernel
theorem dX7_transmit_184 : decode cX7_transmit 184 = .ok (.iadd, 1) := by decide +kernel
theorem dX7_transmit_185 : decode cX7_transmit 185 = .ok (.iaload, 1) := by decide +kernel
theorem dX7_transmit_186 : decode cX7_transmit 186 = .ok (.if_icmp .ge 7, 3) := by decide +kernel
theorem dX7_transmit_189 : decode cX7_transmit 189 = .ok (.iconst 1, 1) := by decide +kernel
theorem dX7_transmit_190 : decode cX7_transmit 190 = .ok (.goto 4, 3) := by decide +kernel
theorem dX7_transmit_193 : decode cX7_transmit 193 = .ok (.iconst 0, 1) := by decide +kernel
theorem dX7_transmit_194 : decode cX7_transmit 194 = .ok (.iadd, 1) := by decide +kernel
theorem dX7_transmit_195 : decode cX7_transmit 195 = .ok (.iastore, 1) := by decide +kernel
theorem dX7_transmit_196 : decode cX7_transmit 196 = .ok (.aload_n 0, 1) := by decide +kernel
theorem dX7_transmit_197 : decode cX7_transmit 197 = .ok (.getfield 7, 3) := by decide +kernel
theorem dX7_transmit_200 : decode cX7_transmit 200 = .ok (.sipush 137, 3) := by decide +kernel
theorem dX7_transmit_203 : decode cX7_transmit 203 = .ok (.iload_n 1, 1) := by decide +kernel
theorem dX7_transmit_204 : decode cX7_transmit 204 = .ok (.iadd, 1) := by decide +kernel
theorem dX7_transmit_205 : decode cX7_transmit 205 = .ok (.iload 5, 2) := by decide +kernel
theorem dX7_transmit_207 : decode cX7_transmit 207 = .ok (.aload_n 0, 1) := by decide +kernel
theorem dX7_transmit_208 : decode cX7_transmit 208 = .ok (.getfield 7, 3) := by decide +kernel
theorem dX7_transmit_211 : decode cX7_transmit 211 = .ok (.sipush 137, 3) := by decide +kernel
theorem dX7_transmit_214 : decode cX7_transmit 214 = .ok (.iload_n 1, 1) := by decide +kernel
theorem dX7_transmit_215 : decode cX7_transmit 215 = .ok (.iadd, 1) := by decide +kernel
theorem dX7_transmit_216 : decode cX7_transmit 216 = .ok (.iaload, 1) := by decide +kernel
theorem dX7_transmit_217 : decode cX7_transmit 217 = .ok (.if_icmp .le 8, 3) := by decide +kernel
theorem dX7_transmit_220 : decode cX7_transmit 220 = .ok (.iload 5, 2) := by decide +kernel
theorem dX7_transmit_222 : decode cX7_transmit 222 = .ok (.goto 13, 3) := by decide +kernel
theorem dX7_transmit_225 : decode cX7_transmit 225 = .ok (.aload_n 0, 1) := by decide +kernel
theorem dX7_transmit_226 : decode cX7_transmit 226 = .ok (.getfield 7, 3) := by decide +kernel
theorem dX7_transmit_229 : decode cX7_transmit 229 = .ok (.sipush 137, 3) := by decide +kernel
theorem dX7_transmit_232 : decode cX7_transmit 232 = .ok (.iload_n 1, 1) := by decide +kernel
theorem dX7_transmit_233 : decode cX7_transmit 233 = .ok (.iadd, 1) := by decide +kernel
theorem dX7_transmit_234 : decode cX7_transmit 234 = .ok (.iaload, 1) := by decide +kernel
theorem dX7_transmit_235 : decode cX7_transmit 235 = .ok (.iastore, 1) := by decide +kernel
theorem dX7_transmit_236 : decode cX7_transmit 236 = .ok (.iload_n 3, 1) := by decide +kernel
theorem dX7_transmit_237 : decode cX7_transmit 237 = .ok (.ireturn, 1) := by decide +kernel
theorem dX7_send_0 : decode cX7_send 0 = .ok (.iload_n 1, 1) := by decide +kernel
theorem dX7_send_1 : decode cX7_send 1 = .ok (.invokestatic 108, 3) := by decide +kernel
theorem dX7_send_4 : decode cX7_send 4 = .ok (.ifCond .eq 10, 3) := by decide +kernel
theorem dX7_send_7 : decode cX7_send 7 = .ok (.iload_n 2, 1) := by decide +kernel
theorem dX7_send_8 : decode cX7_send 8 = .ok (.invokestatic 111, 3) := by decide +kernel
theorem dX7_send_11 : decode cX7_send 11 = .ok (.ifCond .ne 5, 3) := by decide +kernel
theorem dX7_send_14 : decode cX7_send 14 = .ok (.iconst (-1), 1) := by decide +kernel
theorem dX7_send_15 : decode cX7_send 15 = .ok (.ireturn, 1) := by decide +kernel
theorem dX7_send_16 : decode cX7_send 16 = .ok (.aload_n 0, 1) := by decide +kernel
theorem dX7_send_17 : decode cX7_send 17 = .ok (.invokevirtual 44, 3) := by decide +kernel
theorem dX7_send_20 : decode cX7_send 20 = .ok (.aload_n 0, 1) := by decide +kernel
theorem dX7_send_21 : decode cX7_send 21 = .ok (.iload_n 1, 1) := by decide +kernel
theorem dX7_send_22 : decode cX7_send 22 = .ok (.iload_n 2, 1) := by decide +kernel
theorem dX7_send_23 : decode cX7_send 23 = .ok (.invokevirtual 114, 3) := by decide +kernel
theorem dX7_send_26 : decode cX7_send 26 = .ok (.ireturn, 1) := by decide +kernel
theorem dX7_now_0 : decode cX7_now 0 = .ok (.aload_n 0, 1) := by decide +kernel
theorem dX7_now_1 : decode cX7_now 1 = .ok (.getfield 7, 3) := by decide +kernel
theorem dX7_now_4 : decode cX7_now 4 = .ok (.iconst 0, 1) := by decide +kernel
theorem dX7_now_5 : decode cX7_now 5 = .ok (.iaload, 1) := by decide +kernel
theorem dX7_now_6 : decode cX7_now 6 = .ok (.ireturn, 1) := by decide +kernel
theorem dX7_entryOf_0 : decode cX7_entryOf 0 = .ok (.iload_n 1, 1) := by decide +kernel
theorem dX7_entryOf_1 : decode cX7_entryOf 1 = .ok (.invokestatic 108, 3) := by decide +kernel
theorem dX7_entryOf_4 : decode cX7_entryOf 4 = .ok (.ifCond .eq 11, 3) := by decide +kernel
theorem dX7_entryOf_7 : decode cX7_entryOf 7 = .ok (.aload_n 0, 1) := by decide +kernel
theorem dX7_entryOf_8 : decode cX7_entryOf 8 = .ok (.iload_n 1, 1) := by decide +kernel
theorem dX7_entryOf_9 : decode cX7_entryOf 9 = .ok (.invokevirtual 47, 3) := by decide +kernel
theorem dX7_entryOf_12 : decode cX7_entryOf 12 = .ok (.goto 4, 3) := by decide +kernel
theorem dX7_entryOf_15 : decode cX7_entryOf 15 = .ok (.iconst (-1), 1) := by decide +kernel
theorem dX7_entryOf_16 : decode cX7_entryOf 16 = .ok (.ireturn, 1) := by decide +kernel
theorem dX7_isActive_0 : decode cX7_isActive 0 = .ok (.aload_n 0, 1) := by decide +kernel
theorem dX7_isActive_1 : decode cX7_isActive 1 = .ok (.iload_n 1, 1) := by decide +kernel
theorem dX7_isActive_2 : decode cX7_isActive 2 = .ok (.invokevirtual 117, 3) := by decide +kernel
theorem dX7_isActive_5 : decode cX7_isActive 5 = .ok (.ifCond .ne 7, 3) := by decide +kernel
theorem dX7_isActive_8 : decode cX7_isActive 8 = .ok (.iconst (-1), 1) := by decide +kernel
theorem dX7_isActive_9 : decode cX7_isActive 9 = .ok (.goto 16, 3) := by decide +kernel
theorem dX7_isActive_12 : decode cX7_isActive 12 = .ok (.aload_n 0, 1) := by decide +kernel
theorem dX7_isActive_13 : decode cX7_isActive 13 = .ok (.iload_n 1, 1) := by decide +kernel
theorem dX7_isActive_14 : decode cX7_isActive 14 = .ok (.invokevirtual 81, 3) := by decide +kernel
theorem dX7_isActive_17 : decode cX7_isActive 17 = .ok (.ifCond .eq 7, 3) := by decide +kernel
theorem dX7_isActive_20 : decode cX7_isActive 20 = .ok (.iconst 1, 1) := by decide +kernel
theorem dX7_isActive_21 : decode cX7_isActive 21 = .ok (.goto 4, 3) := by decide +kernel
theorem dX7_isActive_24 : decode cX7_isActive 24 = .ok (.iconst 0, 1) := by decide +kernel
theorem dX7_isActive_25 : decode cX7_isActive 25 = .ok (.ireturn, 1) := by decide +kernel
theorem dX7_entryPath_0 : decode cX7_entryPath 0 = .ok (.aload_n 0, 1) := by decide +kernel
theorem dX7_entryPath_1 : decode cX7_entryPath 1 = .ok (.iload_n 1, 1) := by decide +kernel
theorem dX7_entryPath_2 : decode cX7_entryPath 2 = .ok (.invokevirtual 117, 3) := by decide +kernel
theorem dX7_entryPath_5 : decode cX7_entryPath 5 = .ok (.ifCond .eq 15, 3) := by decide +kernel
theorem dX7_entryPath_8 : decode cX7_entryPath 8 = .ok (.aload_n 0, 1) := by decide +kernel
theorem dX7_entryPath_9 : decode cX7_entryPath 9 = .ok (.getfield 7, 3) := by decide +kernel
theorem dX7_entryPath_12 : decode cX7_entryPath 12 = .ok (.bipush 49, 2) := by decide +kernel
theorem dX7_entryPath_14 : decode cX7_entryPath 14 = .ok (.iload_n 1, 1) := by decide +kernel
theorem dX7_entryPath_15 : decode cX7_entryPath 15 = .ok (.iadd, 1) := by decide +kernel
theorem dX7_entryPath_16 : decode cX7_entryPath 16 = .ok (.iaload, 1) := by decide +kernel
theorem dX7_entryPath_17 : decode cX7_entryPath 17 = .ok (.goto 4, 3) := by decide +kernel
theorem dX7_entryPath_20 : decode cX7_entryPath 20 = .ok (.iconst (-1), 1) := by decide +kernel
theorem dX7_entryPath_21 : decode cX7_entryPath 21 = .ok (.ireturn, 1) := by decide +kernel
theorem dX7_ageBit_0 : decode cX7_ageBit 0 = .ok (.aload_n 0, 1) := by decide +kernel
theorem dX7_ageBit_1 : decode cX7_ageBit 1 = .ok (.iload_n 1, 1) := by decide +kernel
theorem dX7_ageBit_2 : decode cX7_ageBit 2 = .ok (.invokevirtual 117, 3) := by decide +kernel
theorem dX7_ageBit_5 : decode cX7_ageBit 5 = .ok (.ifCond .ne 7, 3) := by decide +kernel
theorem dX7_ageBit_8 : decode cX7_ageBit 8 = .ok (.iconst (-1), 1) := by decide +kernel
theorem dX7_ageBit_9 : decode cX7_ageBit 9 = .ok (.goto 30, 3) := by decide +kernel
theorem dX7_ageBit_12 : decode cX7_ageBit 12 = .ok (.aload_n 0, 1) := by decide +kernel
theorem dX7_ageBit_13 : decode cX7_ageBit 13 = .ok (.getfield 7, 3) := by decide +kernel
theorem dX7_ageBit_16 : decode cX7_ageBit 16 = .ok (.bipush 41, 2) := by decide +kernel
theorem dX7_ageBit_18 : decode cX7_ageBit 18 = .ok (.iload_n 1, 1) := by decide +kernel
theorem dX7_ageBit_19 : decode cX7_ageBit 19 = .ok (.iadd, 1) := by decide +kernel
theorem dX7_ageBit_20 : decode cX7_ageBit 20 = .ok (.iaload, 1) := by decide +kernel
theorem dX7_ageBit_21 : decode cX7_ageBit 21 = .ok (.iconst 1, 1) := by decide +kernel
theorem dX7_ageBit_22 : decode cX7_ageBit 22 = .ok (.if_icmp .ne 15, 3) := by decide +kernel
theorem dX7_ageBit_25 : decode cX7_ageBit 25 = .ok (.aload_n 0, 1) := by decide +kernel
theorem dX7_ageBit_26 : decode cX7_ageBit 26 = .ok (.getfield 7, 3) := by decide +kernel
theorem dX7_ageBit_29 : decode cX7_ageBit 29 = .ok (.bipush 65, 2) := by decide +kernel
theorem dX7_ageBit_31 : decode cX7_ageBit 31 = .ok (.iload_n 1, 1) := by decide +kernel
theorem dX7_ageBit_32 : decode cX7_ageBit 32 = .ok (.iadd, 1) := by decide +kernel
theorem dX7_ageBit_33 : decode cX7_ageBit 33 = .ok (.iaload, 1) := by decide +kernel
theorem dX7_ageBit_34 : decode cX7_ageBit 34 = .ok (.goto 5, 3) := by decide +kernel
theorem dX7_ageBit_37 : decode cX7_ageBit 37 = .ok (.bipush (-9), 2) := by decide +kernel
theorem dX7_ageBit_39 : decode cX7_ageBit 39 = .ok (.ireturn, 1) := by decide +kernel
theorem dX7_idleTime_0 : decode cX7_idleTime 0 = .ok (.aload_n 0, 1) := by decide +kernel
theorem dX7_idleTime_1 : decode cX7_idleTime 1 = .ok (.iload_n 1, 1) := by decide +kernel
theorem dX7_idleTime_2 : decode cX7_idleTime 2 = .ok (.invokevirtual 117, 3) := by decide +kernel
theorem dX7_idleTime_5 : decode cX7_idleTime 5 = .ok (.ifCond .ne 7, 3) := by decide +kernel
theorem dX7_idleTime_8 : decode cX7_idleTime 8 = .ok (.iconst (-1), 1) := by decide +kernel
theorem dX7_idleTime_9 : decode cX7_idleTime 9 = .ok (.goto 38, 3) := by decide +kernel
theorem dX7_idleTime_12 : decode cX7_idleTime 12 = .ok (.aload_n 0, 1) := by decide +kernel
theorem dX7_idleTime_13 : decode cX7_idleTime 13 = .ok (.getfield 7, 3) := by decide +kernel
theorem dX7_idleTime_16 : decode cX7_idleTime 16 = .ok (.bipush 49, 2) := by decide +kernel
theorem dX7_idleTime_18 : decode cX7_idleTime 18 = .ok (.iload_n 1, 1) := by decide +kernel
theorem dX7_idleTime_19 : decode cX7_idleTime 19 = .ok (.iadd, 1) := by decide +kernel
theorem dX7_idleTime_20 : decode cX7_idleTime 20 = .ok (.iaload, 1) := by decide +kernel
theorem dX7_idleTime_21 : decode cX7_idleTime 21 = .ok (.bipush (-9), 2) := by decide +kernel
theorem dX7_idleTime_23 : decode cX7_idleTime 23 = .ok (.if_icmp .ne 8, 3) := by decide +kernel
theorem dX7_idleTime_26 : decode cX7_idleTime 26 = .ok (.bipush (-9), 2) := by decide +kernel
theorem dX7_idleTime_28 : decode cX7_idleTime 28 = .ok (.goto 19, 3) := by decide +kernel
theorem dX7_idleTime_31 : decode cX7_idleTime 31 = .ok (.aload_n 0, 1) := by decide +kernel
theorem dX7_idleTime_32 : decode cX7_idleTime 32 = .ok (.getfield 7, 3) := by decide +kernel
theorem dX7_idleTime_35 : decode cX7_idleTime 35 = .ok (.iconst 0, 1) := by decide +kernel
theorem dX7_idleTime_36 : decode cX7_idleTime 36 = .ok (.iaload, 1) := by decide +kernel
theorem dX7_idleTime_37 : decode cX7_idleTime 37 = .ok (.aload_n 0, 1) := by decide +kernel
theorem dX7_idleTime_38 : decode cX7_idleTime 38 = .ok (.getfield 7, 3) := by decide +kernel
theorem dX7_idleTime_41 : decode cX7_idleTime 41 = .ok (.bipush 57, 2) := by decide +kernel
theorem dX7_idleTime_43 : decode cX7_idleTime 43 = .ok (.iload_n 1, 1) := by decide +kernel
theorem dX7_idleTime_44 : decode cX7_idleTime 44 = .ok (.iadd, 1) := by decide +kernel
theorem dX7_idleTime_45 : decode cX7_idleTime 45 = .ok (.iaload, 1) := by decide +kernel
theorem dX7_idleTime_46 : decode cX7_idleTime 46 = .ok (.isub, 1) := by decide +kernel
theorem dX7_idleTime_47 : decode cX7_idleTime 47 = .ok (.ireturn, 1) := by decide +kernel
theorem dX7_activeEntries_0 : decode cX7_activeEntries 0 = .ok (.iconst 0, 1) := by decide +kernel
theorem dX7_activeEntries_1 : decode cX7_activeEntries 1 = .ok (.istore_n 1, 1) := by decide +kernel
theorem dX7_activeEntries_2 : decode cX7_activeEntries 2 = .ok (.iconst 0, 1) := by decide +kernel
theorem dX7_activeEntries_3 : decode cX7_activeEntries 3 = .ok (.istore_n 2, 1) := by decide +kernel
theorem dX7_activeEntries_4 : decode cX7_activeEntries 4 = .ok (.iload_n 2, 1) := by decide +kernel
theorem dX7_activeEntries_5 : decode cX7_activeEntries 5 = .ok (.aload_n 0, 1) := by decide +kernel
theorem dX7_activeEntries_6 : decode cX7_activeEntries 6 = .ok (.getfield 7, 3) := by decide +kernel
theorem dX7_activeEntries_9 : decode cX7_activeEntries 9 = .ok (.iconst 2, 1) := by decide +kernel
theorem dX7_activeEntries_10 : decode cX7_activeEntries 10 = .ok (.iaload, 1) := by decide +kernel
theorem dX7_activeEntries_11 : decode cX7_activeEntries 11 = .ok (.if_icmp .ge 25, 3) := by decide +kernel
theorem dX7_activeEntries_14 : decode cX7_activeEntries 14 = .ok (.iload_n 1, 1) := by decide +kernel
theorem dX7_activeEntries_15 : decode cX7_activeEntries 15 = .ok (.aload_n 0, 1) := by decide +kernel
theorem dX7_activeEntries_16 : decode cX7_activeEntries 16 = .ok (.iload_n 2, 1) := by decide +kernel
theorem dX7_activeEntries_17 : decode cX7_activeEntries 17 = .ok (.invokevirtual 81, 3) := by decide +kernel
theorem dX7_activeEntries_20 : decode cX7_activeEntries 20 = .ok (.ifCond .eq 7, 3) := by decide +kernel
theorem dX7_activeEntries_23 : decode cX7_activeEntries 23 = .ok (.iconst 1, 1) := by decide +kernel
theorem dX7_activeEntries_24 : decode cX7_activeEntries 24 = .ok (.goto 4, 3) := by decide +kernel
theorem dX7_activeEntries_27 : decode cX7_activeEntries 27 = .ok (.iconst 0, 1) := by decide +kernel
theorem dX7_activeEntries_28 : decode cX7_activeEntries 28 = .ok (.iadd, 1) := by decide +kernel
theorem dX7_activeEntries_29 : decode cX7_activeEntries 29 = .ok (.istore_n 1, 1) := by decide +kernel
theorem dX7_activeEntries_30 : decode cX7_activeEntries 30 = .ok (.iinc 2 1, 3) := by decide +kernel
theorem dX7_activeEntries_33 : decode cX7_activeEntries 33 = .ok (.goto (-29), 3) := by decide +kernel
theorem dX7_activeEntries_36 : decode cX7_activeEntries 36 = .ok (.iload_n 1, 1) := by decide +kernel
theorem dX7_activeEntries_37 : decode cX7_activeEntries 37 = .ok (.ireturn, 1) := by decide +kernel
theorem dX7_ofPath_0 : decode cX7_ofPath 0 = .ok (.aload_n 0, 1) := by decide +kernel
theorem dX7_ofPath_1 : decode cX7_ofPath 1 = .ok (.iload_n 1, 1) := by decide +kernel
theorem dX7_ofPath_2 : decode cX7_ofPath 2 = .ok (.invokevirtual 51, 3) := by decide +kernel
theorem dX7_ofPath_5 : decode cX7_ofPath 5 = .ok (.ifCond .eq 14, 3) := by decide +kernel
theorem dX7_ofPath_8 : decode cX7_ofPath 8 = .ok (.aload_n 0, 1) := by decide +kernel
theorem dX7_ofPath_9 : decode cX7_ofPath 9 = .ok (.getfield 7, 3) := by decide +kernel
theorem dX7_ofPath_12 : decode cX7_ofPath 12 = .ok (.iload_n 2, 1) := by decide +kernel
theorem dX7_ofPath_13 : decode cX7_ofPath 13 = .ok (.iload_n 1, 1) := by decide +kernel
theorem dX7_ofPath_14 : decode cX7_ofPath 14 = .ok (.iadd, 1) := by decide +kernel
theorem dX7_ofPath_15 : decode cX7_ofPath 15 = .ok (.iaload, 1) := by decide +kernel
theorem dX7_ofPath_16 : decode cX7_ofPath 16 = .ok (.goto 4, 3) := by decide +kernel
theorem dX7_ofPath_19 : decode cX7_ofPath 19 = .ok (.iconst (-1), 1) := by decide +kernel
theorem dX7_ofPath_20 : decode cX7_ofPath 20 = .ok (.ireturn, 1) := by decide +kernel
theorem dX7_load_0 : decode cX7_load 0 = .ok (.aload_n 0, 1) := by decide +kernel
theorem dX7_load_1 : decode cX7_load 1 = .ok (.iload_n 1, 1) := by decide +kernel
theorem dX7_load_2 : decode cX7_load 2 = .ok (.bipush 21, 2) := by decide +kernel
theorem dX7_load_4 : decode cX7_load 4 = .ok (.invokevirtual 120, 3) := by decide +kernel
theorem dX7_load_7 : decode cX7_load 7 = .ok (.ireturn, 1) := by decide +kernel
theorem dX7_metric_0 : decode cX7_metric 0 = .ok (.aload_n 0, 1) := by decide +kernel
theorem dX7_metric_1 : decode cX7_metric 1 = .ok (.iload_n 1, 1) := by decide +kernel
theorem dX7_metric_2 : decode cX7_metric 2 = .ok (.invokevirtual 51, 3) := by decide +kernel
theorem dX7_metric_5 : decode cX7_metric 5 = .ok (.ifCond .eq 11, 3) := by decide +kernel
theorem dX7_metric_8 : decode cX7_metric 8 = .ok (.aload_n 0, 1) := by decide +kernel
theorem dX7_metric_9 : decode cX7_metric 9 = .ok (.iload_n 1, 1) := by decide +kernel
theorem dX7_metric_10 : decode cX7_metric 10 = .ok (.invokevirtual 72, 3) := by decide +kernel
theorem dX7_metric_13 : decode cX7_metric 13 = .ok (.goto 4, 3) := by decide +kernel
theorem dX7_metric_16 : decode cX7_metric 16 = .ok (.iconst (-1), 1) := by decide +kernel
theorem dX7_metric_17 : decode cX7_metric 17 = .ok (.ireturn, 1) := by decide +kernel
theorem dX7_busyTime_0 : decode cX7_busyTime 0 = .ok (.aload_n 0, 1) := by decide +kernel
theorem dX7_busyTime_1 : decode cX7_busyTime 1 = .ok (.iload_n 1, 1) := by decide +kernel
theorem dX7_busyTime_2 : decode cX7_busyTime 2 = .ok (.invokevirtual 51, 3) := by decide +kernel
theorem dX7_busyTime_5 : decode cX7_busyTime 5 = .ok (.ifCond .ne 5, 3) := by decide +kernel
theorem dX7_busyTime_8 : decode cX7_busyTime 8 = .ok (.iconst (-1), 1) := by decide +kernel
theorem dX7_busyTime_9 : decode cX7_busyTime 9 = .ok (.ireturn, 1) := by decide +kernel
theorem dX7_busyTime_10 : decode cX7_busyTime 10 = .ok (.aload_n 0, 1) := by decide +kernel
theorem dX7_busyTime_11 : decode cX7_busyTime 11 = .ok (.getfield 7, 3) := by decide +kernel
theorem dX7_busyTime_14 : decode cX7_busyTime 14 = .ok (.bipush 25, 2) := by decide +kernel
theorem dX7_busyTime_16 : decode cX7_busyTime 16 = .ok (.iload_n 1, 1) := by decide +kernel
theorem dX7_busyTime_17 : decode cX7_busyTime 17 = .ok (.iadd, 1) := by decide +kernel
theorem dX7_busyTime_18 : decode cX7_busyTime 18 = .ok (.iaload, 1) := by decide +kernel
theorem dX7_busyTime_19 : decode cX7_busyTime 19 = .ok (.aload_n 0, 1) := by decide +kernel
theorem dX7_busyTime_20 : decode cX7_busyTime 20 = .ok (.getfield 7, 3) := by decide +kernel
theorem dX7_busyTime_23 : decode cX7_busyTime 23 = .ok (.iconst 0, 1) := by decide +kernel
theorem dX7_busyTime_24 : decode cX7_busyTime 24 = .ok (.iaload, 1) := by decide +kernel
theorem dX7_busyTime_25 : decode cX7_busyTime 25 = .ok (.isub, 1) := by decide +kernel
theorem dX7_busyTime_26 : decode cX7_busyTime 26 = .ok (.istore_n 2, 1) := by decide +kernel
theorem dX7_busyTime_27 : decode cX7_busyTime 27 = .ok (.iload_n 2, 1) := by decide +kernel
theorem dX7_busyTime_28 : decode cX7_busyTime 28 = .ok (.ifCond .le 7, 3) := by decide +kernel
theorem dX7_busyTime_31 : decode cX7_busyTime 31 = .ok (.iload_n 2, 1) := by decide +kernel
theorem dX7_busyTime_32 : decode cX7_busyTime 32 = .ok (.goto 4, 3) := by decide +kernel
theorem dX7_busyTime_35 : decode cX7_busyTime 35 = .ok (.iconst 0, 1) := by decide +kernel
theorem dX7_busyTime_36 : decode cX7_busyTime 36 = .ok (.ireturn, 1) := by decide +kernel
theorem dX7_latencyOf_0 : decode cX7_latencyOf 0 = .ok (.aload_n 0, 1) := by decide +kernel
theorem dX7_latencyOf_1 : decode cX7_latencyOf 1 = .ok (.iload_n 1, 1) := by decide +kernel
theorem dX7_latencyOf_2 : decode cX7_latencyOf 2 = .ok (.iload_n 2, 1) := by decide +kernel
theorem dX7_latencyOf_3 : decode cX7_latencyOf 3 = .ok (.invokevirtual 105, 3) := by decide +kernel
theorem dX7_latencyOf_6 : decode cX7_latencyOf 6 = .ok (.aload_n 0, 1) := by decide +kernel
theorem dX7_latencyOf_7 : decode cX7_latencyOf 7 = .ok (.getfield 7, 3) := by decide +kernel
theorem dX7_latencyOf_10 : decode cX7_latencyOf 10 = .ok (.bipush 9, 2) := by decide +kernel
theorem dX7_latencyOf_12 : decode cX7_latencyOf 12 = .ok (.iload_n 1, 1) := by decide +kernel
theorem dX7_latencyOf_13 : decode cX7_latencyOf 13 = .ok (.iadd, 1) := by decide +kernel
theorem dX7_latencyOf_14 : decode cX7_latencyOf 14 = .ok (.iaload, 1) := by decide +kernel
theorem dX7_latencyOf_15 : decode cX7_latencyOf 15 = .ok (.iadd, 1) := by decide +kernel
theorem dX7_latencyOf_16 : decode cX7_latencyOf 16 = .ok (.aload_n 0, 1) := by decide +kernel
theorem dX7_latencyOf_17 : decode cX7_latencyOf 17 = .ok (.getfield 7, 3) := by decide +kernel
theorem dX7_latencyOf_20 : decode cX7_latencyOf 20 = .ok (.iconst 0, 1) := by decide +kernel
theorem dX7_latencyOf_21 : decode cX7_latencyOf 21 = .ok (.iaload, 1) := by decide +kernel
theorem dX7_latencyOf_22 : decode cX7_latencyOf 22 = .ok (.isub, 1) := by decide +kernel
theorem dX7_latencyOf_23 : decode cX7_latencyOf 23 = .ok (.ireturn, 1) := by decide +kernel
theorem dX7_latency_0 : decode cX7_latency 0 = .ok (.aload_n 0, 1) := by decide +kernel
theorem dX7_latency_1 : decode cX7_latency 1 = .ok (.iload_n 1, 1) := by decide +kernel
theorem dX7_latency_2 : decode cX7_latency 2 = .ok (.invokevirtual 51, 3) := by decide +kernel
theorem dX7_latency_5 : decode cX7_latency 5 = .ok (.ifCond .eq 19, 3) := by decide +kernel
theorem dX7_latency_8 : decode cX7_latency 8 = .ok (.iload_n 2, 1) := by decide +kernel
theorem dX7_latency_9 : decode cX7_latency 9 = .ok (.invokestatic 111, 3) := by decide +kernel
theorem dX7_latency_12 : decode cX7_latency 12 = .ok (.ifCond .eq 12, 3) := by decide +kernel
theorem dX7_latency_15 : decode cX7_latency 15 = .ok (.aload_n 0, 1) := by decide +kernel
theorem dX7_latency_16 : decode cX7_latency 16 = .ok (.iload_n 1, 1) := by decide +kernel
theorem dX7_latency_17 : decode cX7_latency 17 = .ok (.iload_n 2, 1) := by decide +kernel
theorem dX7_latency_18 : decode cX7_latency 18 = .ok (.invokevirtual 123, 3) := by decide +kernel
theorem dX7_latency_21 : decode cX7_latency 21 = .ok (.goto 4, 3) := by decide +kernel
theorem dX7_latency_24 : decode cX7_latency 24 = .ok (.iconst (-1), 1) := by decide +kernel
theorem dX7_latency_25 : decode cX7_latency 25 = .ok (.ireturn, 1) := by decide +kernel
theorem dX7_safeGap_0 : decode cX7_safeGap 0 = .ok (.iload_n 1, 1) := by decide +kernel
theorem dX7_safeGap_1 : decode cX7_safeGap 1 = .ok (.invokestatic 111, 3) := by decide +kernel
theorem dX7_safeGap_4 : decode cX7_safeGap 4 = .ok (.ifCond .ne 5, 3) := by decide +kernel
theorem dX7_safeGap_7 : decode cX7_safeGap 7 = .ok (.iconst (-1), 1) := by decide +kernel
theorem dX7_safeGap_8 : decode cX7_safeGap 8 = .ok (.ireturn, 1) := by decide +kernel
theorem dX7_safeGap_9 : decode cX7_safeGap 9 = .ok (.aload_n 0, 1) := by decide +kernel
theorem dX7_safeGap_10 : decode cX7_safeGap 10 = .ok (.iconst 0, 1) := by decide +kernel
theorem dX7_safeGap_11 : decode cX7_safeGap 11 = .ok (.iload_n 1, 1) := by decide +kernel
theorem dX7_safeGap_12 : decode cX7_safeGap 12 = .ok (.invokevirtual 123, 3) := by decide +kernel
theorem dX7_safeGap_15 : decode cX7_safeGap 15 = .ok (.istore_n 2, 1) := by decide +kernel
theorem dX7_safeGap_16 : decode cX7_safeGap 16 = .ok (.iload_n 2, 1) := by decide +kernel
theorem dX7_safeGap_17 : decode cX7_safeGap 17 = .ok (.istore_n 3, 1) := by decide +kernel
theorem dX7_safeGap_18 : decode cX7_safeGap 18 = .ok (.iconst 1, 1) := by decide +kernel
theorem dX7_safeGap_19 : decode cX7_safeGap 19 = .ok (.istore 4, 2) := by decide +kernel
theorem dX7_safeGap_21 : decode cX7_safeGap 21 = .ok (.iload 4, 2) := by decide +kernel
theorem dX7_safeGap_23 : decode cX7_safeGap 23 = .ok (.aload_n 0, 1) := by decide +kernel
theorem dX7_safeGap_24 : decode cX7_safeGap 24 = .ok (.getfield 7, 3) := by decide +kernel
theorem dX7_safeGap_27 : decode cX7_safeGap 27 = .ok (.iconst 1, 1) := by decide +kernel
theorem dX7_safeGap_28 : decode cX7_safeGap 28 = .ok (.iaload, 1) := by decide +kernel
theorem dX7_safeGap_29 : decode cX7_safeGap 29 = .ok (.if_icmp .ge 44, 3) := by decide +kernel
theorem dX7_safeGap_32 : decode cX7_safeGap 32 = .ok (.aload_n 0, 1) := by decide +kernel
theorem dX7_safeGap_33 : decode cX7_safeGap 33 = .ok (.iload 4, 2) := by decide +kernel
theorem dX7_safeGap_35 : decode cX7_safeGap 35 = .ok (.iload_n 1, 1) := by decide +kernel
theorem dX7_safeGap_36 : decode cX7_safeGap 36 = .ok (.invokevirtual 123, 3) := by decide +kernel
theorem dX7_safeGap_39 : decode cX7_safeGap 39 = .ok (.istore 5, 2) := by decide +kernel
theorem dX7_safeGap_41 : decode cX7_safeGap 41 = .ok (.iload 5, 2) := by decide +kernel
theorem dX7_safeGap_43 : decode cX7_safeGap 43 = .ok (.iload_n 2, 1) := by decide +kernel
theorem dX7_safeGap_44 : decode cX7_safeGap 44 = .ok (.if_icmp .ge 8, 3) := by decide +kernel
theorem dX7_safeGap_47 : decode cX7_safeGap 47 = .ok (.iload 5, 2) := by decide +kernel
theorem dX7_safeGap_49 : decode cX7_safeGap 49 = .ok (.goto 4, 3) := by decide +kernel
theorem dX7_safeGap_52 : decode cX7_safeGap 52 = .ok (.iload_n 2, 1) := by decide +kernel
theorem dX7_safeGap_53 : decode cX7_safeGap 53 = .ok (.istore_n 2, 1) := by decide +kernel
theorem dX7_safeGap_54 : decode cX7_safeGap 54 = .ok (.iload 5, 2) := by decide +kernel
theorem dX7_safeGap_56 : decode cX7_safeGap 56 = .ok (.iload_n 3, 1) := by decide +kernel
theorem dX7_safeGap_57 : decode cX7_safeGap 57 = .ok (.if_icmp .le 8, 3) := by decide +kernel
theorem dX7_safeGap_60 : decode cX7_safeGap 60 = .ok (.iload 5, 2) := by decide +kernel
theorem dX7_safeGap_62 : decode cX7_safeGap 62 = .ok (.goto 4, 3) := by decide +kernel
theorem dX7_safeGap_65 : decode cX7_safeGap 65 = .ok (.iload_n 3, 1) := by decide +kernel
theorem dX7_safeGap_66 : decode cX7_safeGap 66 = .ok (.istore_n 3, 1) := by decide +kernel
theorem dX7_safeGap_67 : decode cX7_safeGap 67 = .ok (.iinc 4 1, 3) := by decide +kernel
theorem dX7_safeGap_70 : decode cX7_safeGap 70 = .ok (.goto (-49), 3) := by decide +kernel
theorem dX7_safeGap_73 : decode cX7_safeGap 73 = .ok (.iload_n 3, 1) := by decide +kernel
theorem dX7_safeGap_74 : decode cX7_safeGap 74 = .ok (.iload_n 2, 1) := by decide +kernel
theorem dX7_safeGap_75 : decode cX7_safeGap 75 = .ok (.isub, 1) := by decide +kernel
theorem dX7_safeGap_76 : decode cX7_safeGap 76 = .ok (.ireturn, 1) := by decide +kernel
theorem dX7_packets_0 : decode cX7_packets 0 = .ok (.aload_n 0, 1) := by decide +kernel
theorem dX7_packets_1 : decode cX7_packets 1 = .ok (.iload_n 1, 1) := by decide +kernel
theorem dX7_packets_2 : decode cX7_packets 2 = .ok (.bipush 29, 2) := by decide +kernel
theorem dX7_packets_4 : decode cX7_packets 4 = .ok (.invokevirtual 120, 3) := by decide +kernel
theorem dX7_packets_7 : decode cX7_packets 7 = .ok (.ireturn, 1) := by decide +kernel
theorem dX7_bytes_0 : decode cX7_bytes 0 = .ok (.aload_n 0, 1) := by decide +kernel
theorem dX7_bytes_1 : decode cX7_bytes 1 = .ok (.iload_n 1, 1) := by decide +kernel
theorem dX7_bytes_2 : decode cX7_bytes 2 = .ok (.bipush 33, 2) := by decide +kernel
theorem dX7_bytes_4 : decode cX7_bytes 4 = .ok (.invokevirtual 120, 3) := by decide +kernel
theorem dX7_bytes_7 : decode cX7_bytes 7 = .ok (.ireturn, 1) := by decide +kernel
theorem dX7_drops_0 : decode cX7_drops 0 = .ok (.aload_n 0, 1) := by decide +kernel
theorem dX7_drops_1 : decode cX7_drops 1 = .ok (.iload_n 1, 1) := by decide +kernel
theorem dX7_drops_2 : decode cX7_drops 2 = .ok (.bipush 37, 2) := by decide +kernel
theorem dX7_drops_4 : decode cX7_drops 4 = .ok (.invokevirtual 120, 3) := by decide +kernel
theorem dX7_drops_7 : decode cX7_drops 7 = .ok (.ireturn, 1) := by decide +kernel
theorem dX7_imbalance_0 : decode cX7_imbalance 0 = .ok (.aload_n 0, 1) := by decide +kernel
theorem dX7_imbalance_1 : decode cX7_imbalance 1 = .ok (.getfield 7, 3) := by decide +kernel
theorem dX7_imbalance_4 : decode cX7_imbalance 4 = .ok (.bipush 33, 2) := by decide +kernel
theorem dX7_imbalance_6 : decode cX7_imbalance 6 = .ok (.iaload, 1) := by decide +kernel
theorem dX7_imbalance_7 : decode cX7_imbalance 7 = .ok (.istore_n 1, 1) := by decide +kernel
theorem dX7_imbalance_8 : decode cX7_imbalance 8 = .ok (.iload_n 1, 1) := by decide +kernel
theorem dX7_imbalance_9 : decode cX7_imbalance 9 = .ok (.istore_n 2, 1) := by decide +kernel
theorem dX7_imbalance_10 : decode cX7_imbalance 10 = .ok (.iconst 1, 1) := by decide +kernel
theorem dX7_imbalance_11 : decode cX7_imbalance 11 = .ok (.istore_n 3, 1) := by decide +kernel
theorem dX7_imbalance_12 : decode cX7_imbalance 12 = .ok (.iload_n 3, 1) := by decide +kernel
theorem dX7_imbalance_13 : decode cX7_imbalance 13 = .ok (.aload_n 0, 1) := by decide +kernel
theorem dX7_imbalance_14 : decode cX7_imbalance 14 = .ok (.getfield 7, 3) := by decide +kernel
theorem dX7_imbalance_17 : decode cX7_imbalance 17 = .ok (.iconst 1, 1) := by decide +kernel
theorem dX7_imbalance_18 : decode cX7_imbalance 18 = .ok (.iaload, 1) := by decide +kernel
theorem dX7_imbalance_19 : decode cX7_imbalance 19 = .ok (.if_icmp .ge 46, 3) := by decide +kernel
theorem dX7_imbalance_22 : decode cX7_imbalance 22 = .ok (.aload_n 0, 1) := by decide +kernel
theorem dX7_imbalance_23 : decode cX7_imbalance 23 = .ok (.getfield 7, 3) := by decide +kernel
theorem dX7_imbalance_26 : decode cX7_imbalance 26 = .ok (.bipush 33, 2) := by decide +kernel
theorem dX7_imbalance_28 : decode cX7_imbalance 28 = .ok (.iload_n 3, 1) := by decide +kernel
theorem dX7_imbalance_29 : decode cX7_imbalance 29 = .ok (.iadd, 1) := by decide +kernel
theorem dX7_imbalance_30 : decode cX7_imbalance 30 = .ok (.iaload, 1) := by decide +kernel
theorem dX7_imbalance_31 : decode cX7_imbalance 31 = .ok (.istore 4, 2) := by decide +kernel
theorem dX7_imbalance_33 : decode cX7_imbalance 33 = .ok (.iload 4, 2) := by decide +kernel
theorem dX7_imbalance_35 : decode cX7_imbalance 35 = .ok (.iload_n 1, 1) := by decide +kernel
theorem dX7_imbalance_36 : decode cX7_imbalance 36 = .ok (.if_icmp .ge 8, 3) := by decide +kernel
theorem dX7_imbalance_39 : decode cX7_imbalance 39 = .ok (.iload 4, 2) := by decide +kernel
theorem dX7_imbalance_41 : decode cX7_imbalance 41 = .ok (.goto 4, 3) := by decide +kernel
theorem dX7_imbalance_44 : decode cX7_imbalance 44 = .ok (.iload_n 1, 1) := by decide +kernel
theorem dX7_imbalance_45 : decode cX7_imbalance 45 = .ok (.istore_n 1, 1) := by decide +kernel
theorem dX7_imbalance_46 : decode cX7_imbalance 46 = .ok (.iload 4, 2) := by decide +kernel
theorem dX7_imbalance_48 : decode cX7_imbalance 48 = .ok (.iload_n 2, 1) := by decide +kernel
theorem dX7_imbalance_49 : decode cX7_imbalance 49 = .ok (.if_icmp .le 8, 3) := by decide +kernel
theorem dX7_imbalance_52 : decode cX7_imbalance 52 = .ok (.iload 4, 2) := by decide +kernel
theorem dX7_imbalance_54 : decode cX7_imbalance 54 = .ok (.goto 4, 3) := by decide +kernel
theorem dX7_imbalance_57 : decode cX7_imbalance 57 = .ok (.iload_n 2, 1) := by decide +kernel
theorem dX7_imbalance_58 : decode cX7_imbalance 58 = .ok (.istore_n 2, 1) := by decide +kernel
theorem dX7_imbalance_59 : decode cX7_imbalance 59 = .ok (.iinc 3 1, 3) := by decide +kernel
theorem dX7_imbalance_62 : decode cX7_imbalance 62 = .ok (.goto (-50), 3) := by decide +kernel
theorem dX7_imbalance_65 : decode cX7_imbalance 65 = .ok (.iload_n 2, 1) := by decide +kernel
theorem dX7_imbalance_66 : decode cX7_imbalance 66 = .ok (.iload_n 1, 1) := by decide +kernel
theorem dX7_imbalance_67 : decode cX7_imbalance 67 = .ok (.isub, 1) := by decide +kernel
theorem dX7_imbalance_68 : decode cX7_imbalance 68 = .ok (.ireturn, 1) := by decide +kernel
theorem dX7_nextPath_0 : decode cX7_nextPath 0 = .ok (.iload_n 1, 1) := by decide +kernel
theorem dX7_nextPath_1 : decode cX7_nextPath 1 = .ok (.invokestatic 108, 3) := by decide +kernel
theorem dX7_nextPath_4 : decode cX7_nextPath 4 = .ok (.ifCond .eq 11, 3) := by decide +kernel
theorem dX7_nextPath_7 : decode cX7_nextPath 7 = .ok (.aload_n 0, 1) := by decide +kernel
theorem dX7_nextPath_8 : decode cX7_nextPath 8 = .ok (.iload_n 1, 1) := by decide +kernel
theorem dX7_nextPath_9 : decode cX7_nextPath 9 = .ok (.invokevirtual 96, 3) := by decide +kernel
theorem dX7_nextPath_12 : decode cX7_nextPath 12 = .ok (.goto 4, 3) := by decide +kernel
theorem dX7_nextPath_15 : decode cX7_nextPath 15 = .ok (.iconst (-1), 1) := by decide +kernel
theorem dX7_nextPath_16 : decode cX7_nextPath 16 = .ok (.ireturn, 1) := by decide +kernel
theorem dX7_wouldReorder_0 : decode cX7_wouldReorder 0 = .ok (.iload_n 1, 1) := by decide +kernel
theorem dX7_wouldReorder_1 : decode cX7_wouldReorder 1 = .ok (.invokestatic 108, 3) := by decide +kernel
theorem dX7_wouldReorder_4 : decode cX7_wouldReorder 4 = .ok (.ifCond .eq 10, 3) := by decide +kernel
theorem dX7_wouldReorder_7 : decode cX7_wouldReorder 7 = .ok (.iload_n 2, 1) := by decide +kernel
theorem dX7_wouldReorder_8 : decode cX7_wouldReorder 8 = .ok (.invokestatic 111, 3) := by decide +kernel
theorem dX7_wouldReorder_11 : decode cX7_wouldReorder 11 = .ok (.ifCond .ne 5, 3) := by decide +kernel
theorem dX7_wouldReorder_14 : decode cX7_wouldReorder 14 = .ok (.iconst (-1), 1) := by decide +kernel
theorem dX7_wouldReorder_15 : decode cX7_wouldReorder 15 = .ok (.ireturn, 1) := by decide +kernel
theorem dX7_wouldReorder_16 : decode cX7_wouldReorder 16 = .ok (.aload_n 0, 1) := by decide +kernel
theorem dX7_wouldReorder_17 : decode cX7_wouldReorder 17 = .ok (.iload_n 1, 1) := by decide +kernel
theorem dX7_wouldReorder_18 : decode cX7_wouldReorder 18 = .ok (.invokevirtual 96, 3) := by decide +kernel
theorem dX7_wouldReorder_21 : decode cX7_wouldReorder 21 = .ok (.istore_n 3, 1) := by decide +kernel
theorem dX7_wouldReorder_22 : decode cX7_wouldReorder 22 = .ok (.aload_n 0, 1) := by decide +kernel
theorem dX7_wouldReorder_23 : decode cX7_wouldReorder 23 = .ok (.iload_n 3, 1) := by decide +kernel
theorem dX7_wouldReorder_24 : decode cX7_wouldReorder 24 = .ok (.iload_n 2, 1) := by decide +kernel
theorem dX7_wouldReorder_25 : decode cX7_wouldReorder 25 = .ok (.invokevirtual 105, 3) := by decide +kernel
theorem dX7_wouldReorder_28 : decode cX7_wouldReorder 28 = .ok (.aload_n 0, 1) := by decide +kernel
theorem dX7_wouldReorder_29 : decode cX7_wouldReorder 29 = .ok (.getfield 7, 3) := by decide +kernel
theorem dX7_wouldReorder_32 : decode cX7_wouldReorder 32 = .ok (.bipush 9, 2) := by decide +kernel
theorem dX7_wouldReorder_34 : decode cX7_wouldReorder 34 = .ok (.iload_n 3, 1) := by decide +kernel
theorem dX7_wouldReorder_35 : decode cX7_wouldReorder 35 = .ok (.iadd, 1) := by decide +kernel
theorem dX7_wouldReorder_36 : decode cX7_wouldReorder 36 = .ok (.iaload, 1) := by decide +kernel
theorem dX7_wouldReorder_37 : decode cX7_wouldReorder 37 = .ok (.iadd, 1) := by decide +kernel
theorem dX7_wouldReorder_38 : decode cX7_wouldReorder 38 = .ok (.aload_n 0, 1) := by decide +kernel
theorem dX7_wouldReorder_39 : decode cX7_wouldReorder 39 = .ok (.getfield 7, 3) := by decide +kernel
theorem dX7_wouldReorder_42 : decode cX7_wouldReorder 42 = .ok (.sipush 137, 3) := by decide +kernel
theorem dX7_wouldReorder_45 : decode cX7_wouldReorder 45 = .ok (.iload_n 1, 1) := by decide +kernel
theorem dX7_wouldReorder_46 : decode cX7_wouldReorder 46 = .ok (.iadd, 1) := by decide +kernel
theorem dX7_wouldReorder_47 : decode cX7_wouldReorder 47 = .ok (.iaload, 1) := by decide +kernel
theorem dX7_wouldReorder_48 : decode cX7_wouldReorder 48 = .ok (.if_icmp .ge 7, 3) := by decide +kernel
theorem dX7_wouldReorder_51 : decode cX7_wouldReorder 51 = .ok (.iconst 1, 1) := by decide +kernel
theorem dX7_wouldReorder_52 : decode cX7_wouldReorder 52 = .ok (.goto 4, 3) := by decide +kernel
theorem dX7_wouldReorder_55 : decode cX7_wouldReorder 55 = .ok (.iconst 0, 1) := by decide +kernel
theorem dX7_wouldReorder_56 : decode cX7_wouldReorder 56 = .ok (.istore 4, 2) := by decide +kernel
theorem dX7_wouldReorder_58 : decode cX7_wouldReorder 58 = .ok (.iload 4, 2) := by decide +kernel
theorem dX7_wouldReorder_60 : decode cX7_wouldReorder 60 = .ok (.ifCond .eq 15, 3) := by decide +kernel
theorem dX7_wouldReorder_63 : decode cX7_wouldReorder 63 = .ok (.aload_n 0, 1) := by decide +kernel
theorem dX7_wouldReorder_64 : decode cX7_wouldReorder 64 = .ok (.iload_n 3, 1) := by decide +kernel
theorem dX7_wouldReorder_65 : decode cX7_wouldReorder 65 = .ok (.invokevirtual 102, 3) := by decide +kernel
theorem dX7_wouldReorder_68 : decode cX7_wouldReorder 68 = .ok (.ifCond .ne 7, 3) := by decide +kernel
theorem dX7_wouldReorder_71 : decode cX7_wouldReorder 71 = .ok (.iconst 1, 1) := by decide +kernel
theorem dX7_wouldReorder_72 : decode cX7_wouldReorder 72 = .ok (.goto 4, 3) := by decide +kernel
theorem dX7_wouldReorder_75 : decode cX7_wouldReorder 75 = .ok (.iconst 0, 1) := by decide +kernel
theorem dX7_wouldReorder_76 : decode cX7_wouldReorder 76 = .ok (.ireturn, 1) := by decide +kernel
theorem dX7_ofFlow_0 : decode cX7_ofFlow 0 = .ok (.iload_n 1, 1) := by decide +kernel
theorem dX7_ofFlow_1 : decode cX7_ofFlow 1 = .ok (.invokestatic 108, 3) := by decide +kernel
theorem dX7_ofFlow_4 : decode cX7_ofFlow 4 = .ok (.ifCond .eq 14, 3) := by decide +kernel
theorem dX7_ofFlow_7 : decode cX7_ofFlow 7 = .ok (.aload_n 0, 1) := by decide +kernel
theorem dX7_ofFlow_8 : decode cX7_ofFlow 8 = .ok (.getfield 7, 3) := by decide +kernel
theorem dX7_ofFlow_11 : decode cX7_ofFlow 11 = .ok (.iload_n 2, 1) := by decide +kernel
theorem dX7_ofFlow_12 : decode cX7_ofFlow 12 = .ok (.iload_n 1, 1) := by decide +kernel
theorem dX7_ofFlow_13 : decode cX7_ofFlow 13 = .ok (.iadd, 1) := by decide +kernel
theorem dX7_ofFlow_14 : decode cX7_ofFlow 14 = .ok (.iaload, 1) := by decide +kernel
theorem dX7_ofFlow_15 : decode cX7_ofFlow 15 = .ok (.goto 4, 3) := by decide +kernel
theorem dX7_ofFlow_18 : decode cX7_ofFlow 18 = .ok (.iconst (-1), 1) := by decide +kernel
theorem dX7_ofFlow_19 : decode cX7_ofFlow 19 = .ok (.ireturn, 1) := by decide +kernel
theorem dX7_flowlets_0 : decode cX7_flowlets 0 = .ok (.aload_n 0, 1) := by decide +kernel
theorem dX7_flowlets_1 : decode cX7_flowlets 1 = .ok (.iload_n 1, 1) := by decide +kernel
theorem dX7_flowlets_2 : decode cX7_flowlets 2 = .ok (.bipush 73, 2) := by decide +kernel
theorem dX7_flowlets_4 : decode cX7_flowlets 4 = .ok (.invokevirtual 126, 3) := by decide +kernel
theorem dX7_flowlets_7 : decode cX7_flowlets 7 = .ok (.ireturn, 1) := by decide +kernel
theorem dX7_pathChanges_0 : decode cX7_pathChanges 0 = .ok (.aload_n 0, 1) := by decide +kernel
theorem dX7_pathChanges_1 : decode cX7_pathChanges 1 = .ok (.iload_n 1, 1) := by decide +kernel
theorem dX7_pathChanges_2 : decode cX7_pathChanges 2 = .ok (.bipush 89, 2) := by decide +kernel
theorem dX7_pathChanges_4 : decode cX7_pathChanges 4 = .ok (.invokevirtual 126, 3) := by decide +kernel
theorem dX7_pathChanges_7 : decode cX7_pathChanges 7 = .ok (.ireturn, 1) := by decide +kernel
theorem dX7_reordered_0 : decode cX7_reordered 0 = .ok (.aload_n 0, 1) := by decide +kernel
theorem dX7_reordered_1 : decode cX7_reordered 1 = .ok (.iload_n 1, 1) := by decide +kernel
theorem dX7_reordered_2 : decode cX7_reordered 2 = .ok (.bipush 121, 2) := by decide +kernel
theorem dX7_reordered_4 : decode cX7_reordered 4 = .ok (.invokevirtual 126, 3) := by decide +kernel
theorem dX7_reordered_7 : decode cX7_reordered 7 = .ok (.ireturn, 1) := by decide +kernel
theorem dX7_lastArrival_0 : decode cX7_lastArrival 0 = .ok (.aload_n 0, 1) := by decide +kernel
theorem dX7_lastArrival_1 : decode cX7_lastArrival 1 = .ok (.iload_n 1, 1) := by decide +kernel
theorem dX7_lastArrival_2 : decode cX7_lastArrival 2 = .ok (.sipush 137, 3) := by decide +kernel
theorem dX7_lastArrival_5 : decode cX7_lastArrival 5 = .ok (.invokevirtual 126, 3) := by decide +kernel
theorem dX7_lastArrival_8 : decode cX7_lastArrival 8 = .ok (.ireturn, 1) := by decide +kernel
theorem dX7_appendCharacter_0 : decode cX7_appendCharacter 0 = .ok (.iload_n 1, 1) := by decide +kernel
theorem dX7_appendCharacter_1 : decode cX7_appendCharacter 1 = .ok (.iconst 0, 1) := by decide +kernel
theorem dX7_appendCharacter_2 : decode cX7_appendCharacter 2 = .ok (.sipush 255, 3) := by decide +kernel
theorem dX7_appendCharacter_5 : decode cX7_appendCharacter 5 = .ok (.invokestatic 36, 3) := by decide +kernel
theorem dX7_appendCharacter_8 : decode cX7_appendCharacter 8 = .ok (.ifCond .ne 5, 3) := by decide +kernel
theorem dX7_appendCharacter_11 : decode cX7_appendCharacter 11 = .ok (.iconst (-1), 1) := by decide +kernel
theorem dX7_appendCharacter_12 : decode cX7_appendCharacter 12 = .ok (.ireturn, 1) := by decide +kernel
theorem dX7_appendCharacter_13 : decode cX7_appendCharacter 13 = .ok (.aload_n 0, 1) := by decide +kernel
theorem dX7_appendCharacter_14 : decode cX7_appendCharacter 14 = .ok (.getfield 129, 3) := by decide +kernel
theorem dX7_appendCharacter_17 : decode cX7_appendCharacter 17 = .ok (.bipush 120, 2) := by decide +kernel
theorem dX7_appendCharacter_19 : decode cX7_appendCharacter 19 = .ok (.if_icmp .ne 6, 3) := by decide +kernel
theorem dX7_appendCharacter_22 : decode cX7_appendCharacter 22 = .ok (.bipush (-3), 2) := by decide +kernel
theorem dX7_appendCharacter_24 : decode cX7_appendCharacter 24 = .ok (.ireturn, 1) := by decide +kernel
theorem dX7_appendCharacter_25 : decode cX7_appendCharacter 25 = .ok (.aload_n 0, 1) := by decide +kernel
theorem dX7_appendCharacter_26 : decode cX7_appendCharacter 26 = .ok (.getfield 23, 3) := by decide +kernel
theorem dX7_appendCharacter_29 : decode cX7_appendCharacter 29 = .ok (.aload_n 0, 1) := by decide +kernel
theorem dX7_appendCharacter_30 : decode cX7_appendCharacter 30 = .ok (.getfield 129, 3) := by decide +kernel
theorem dX7_appendCharacter_33 : decode cX7_appendCharacter 33 = .ok (.iload_n 1, 1) := by decide +kernel
theorem dX7_appendCharacter_34 : decode cX7_appendCharacter 34 = .ok (.iastore, 1) := by decide +kernel
theorem dX7_appendCharacter_35 : decode cX7_appendCharacter 35 = .ok (.aload_n 0, 1) := by decide +kernel
theorem dX7_appendCharacter_36 : decode cX7_appendCharacter 36 = .ok (.dup, 1) := by decide +kernel
theorem dX7_appendCharacter_37 : decode cX7_appendCharacter 37 = .ok (.getfield 129, 3) := by decide +kernel
theorem dX7_appendCharacter_40 : decode cX7_appendCharacter 40 = .ok (.iconst 1, 1) := by decide +kernel
theorem dX7_appendCharacter_41 : decode cX7_appendCharacter 41 = .ok (.iadd, 1) := by decide +kernel
theorem dX7_appendCharacter_42 : decode cX7_appendCharacter 42 = .ok (.putfield 129, 3) := by decide +kernel
theorem dX7_appendCharacter_45 : decode cX7_appendCharacter 45 = .ok (.aload_n 0, 1) := by decide +kernel
theorem dX7_appendCharacter_46 : decode cX7_appendCharacter 46 = .ok (.getfield 129, 3) := by decide +kernel
theorem dX7_appendCharacter_49 : decode cX7_appendCharacter 49 = .ok (.ireturn, 1) := by decide +kernel
theorem dX7_clearText_0 : decode cX7_clearText 0 = .ok (.aload_n 0, 1) := by decide +kernel
theorem dX7_clearText_1 : decode cX7_clearText 1 = .ok (.getfield 129, 3) := by decide +kernel
theorem dX7_clearText_4 : decode cX7_clearText 4 = .ok (.istore_n 1, 1) := by decide +kernel
theorem dX7_clearText_5 : decode cX7_clearText 5 = .ok (.aload_n 0, 1) := by decide +kernel
theorem dX7_clearText_6 : decode cX7_clearText 6 = .ok (.iconst 0, 1) := by decide +kernel
theorem dX7_clearText_7 : decode cX7_clearText 7 = .ok (.putfield 129, 3) := by decide +kernel
theorem dX7_clearText_10 : decode cX7_clearText 10 = .ok (.iload_n 1, 1) := by decide +kernel
theorem dX7_clearText_11 : decode cX7_clearText 11 = .ok (.ireturn, 1) := by decide +kernel
theorem dX7_sign_0 : decode cX7_sign 0 = .ok (.aload_n 0, 1) := by decide +kernel
theorem dX7_sign_1 : decode cX7_sign 1 = .ok (.getfield 132, 3) := by decide +kernel
theorem dX7_sign_4 : decode cX7_sign 4 = .ok (.aload_n 0, 1) := by decide +kernel
theorem dX7_sign_5 : decode cX7_sign 5 = .ok (.getfield 129, 3) := by decide +kernel
theorem dX7_sign_8 : decode cX7_sign 8 = .ok (.if_icmp .ge 30, 3) := by decide +kernel
theorem dX7_sign_11 : decode cX7_sign 11 = .ok (.aload_n 0, 1) := by decide +kernel
theorem dX7_sign_12 : decode cX7_sign 12 = .ok (.getfield 23, 3) := by decide +kernel
theorem dX7_sign_15 : decode cX7_sign 15 = .ok (.aload_n 0, 1) := by decide +kernel
theorem dX7_sign_16 : decode cX7_sign 16 = .ok (.getfield 132, 3) := by decide +kernel
theorem dX7_sign_19 : decode cX7_sign 19 = .ok (.iaload, 1) := by decide +kernel
theorem dX7_sign_20 : decode cX7_sign 20 = .ok (.bipush 32, 2) := by decide +kernel
theorem dX7_sign_22 : decode cX7_sign 22 = .ok (.if_icmp .ne 16, 3) := by decide +kernel
theorem dX7_sign_25 : decode cX7_sign 25 = .ok (.aload_n 0, 1) := by decide +kernel
theorem dX7_sign_26 : decode cX7_sign 26 = .ok (.dup, 1) := by decide +kernel
theorem dX7_sign_27 : decode cX7_sign 27 = .ok (.getfield 132, 3) := by decide +kernel
theorem dX7_sign_30 : decode cX7_sign 30 = .ok (.iconst 1, 1) := by decide +kernel
theorem dX7_sign_31 : decode cX7_sign 31 = .ok (.iadd, 1) := by decide +kernel
theorem dX7_sign_32 : decode cX7_sign 32 = .ok (.putfield 132, 3) := by decide +kernel
theorem dX7_sign_35 : decode cX7_sign 35 = .ok (.goto (-35), 3) := by decide +kernel
theorem dX7_sign_38 : decode cX7_sign 38 = .ok (.aload_n 0, 1) := by decide +kernel
theorem dX7_sign_39 : decode cX7_sign 39 = .ok (.getfield 132, 3) := by decide +kernel
theorem dX7_sign_42 : decode cX7_sign 42 = .ok (.aload_n 0, 1) := by decide +kernel
theorem dX7_sign_43 : decode cX7_sign 43 = .ok (.getfield 129, 3) := by decide +kernel
theorem dX7_sign_46 : decode cX7_sign 46 = .ok (.if_icmp .ge 15, 3) := by decide +kernel
theorem dX7_sign_49 : decode cX7_sign 49 = .ok (.aload_n 0, 1) := by decide +kernel
theorem dX7_sign_50 : decode cX7_sign 50 = .ok (.getfield 23, 3) := by decide +kernel
theorem dX7_sign_53 : decode cX7_sign 53 = .ok (.aload_n 0, 1) := by decide +kernel
theorem dX7_sign_54 : decode cX7_sign 54 = .ok (.getfield 132, 3) := by decide +kernel
theorem dX7_sign_57 : decode cX7_sign 57 = .ok (.iaload, 1) := by decide +kernel
theorem dX7_sign_58 : decode cX7_sign 58 = .ok (.goto 5, 3) := by decide +kernel
theorem dX7_sign_61 : decode cX7_sign 61 = .ok (.bipush (-9), 2) := by decide +kernel
theorem dX7_sign_63 : decode cX7_sign 63 = .ok (.ireturn, 1) := by decide +kernel
theorem dX7_reads_0 : decode cX7_reads 0 = .ok (.aload_n 0, 1) := by decide +kernel
theorem dX7_reads_1 : decode cX7_reads 1 = .ok (.invokevirtual 135, 3) := by decide +kernel
theorem dX7_reads_4 : decode cX7_reads 4 = .ok (.iload_n 1, 1) := by decide +kernel
theorem dX7_reads_5 : decode cX7_reads 5 = .ok (.if_icmp .ne 7, 3) := by decide +kernel
theorem dX7_reads_8 : decode cX7_reads 8 = .ok (.iconst 1, 1) := by decide +kernel
theorem dX7_reads_9 : decode cX7_reads 9 = .ok (.goto 4, 3) := by decide +kernel
theorem dX7_reads_12 : decode cX7_reads 12 = .ok (.iconst 0, 1) := by decide +kernel
theorem dX7_reads_13 : decode cX7_reads 13 = .ok (.istore_n 2, 1) := by decide +kernel
theorem dX7_reads_14 : decode cX7_reads 14 = .ok (.aload_n 0, 1) := by decide +kernel
theorem dX7_reads_15 : decode cX7_reads 15 = .ok (.dup, 1) := by decide +kernel
theorem dX7_reads_16 : decode cX7_reads 16 = .ok (.getfield 132, 3) := by decide +kernel
theorem dX7_reads_19 : decode cX7_reads 19 = .ok (.iload_n 2, 1) := by decide +kernel
theorem dX7_reads_20 : decode cX7_reads 20 = .ok (.ifCond .eq 7, 3) := by decide +kernel
theorem dX7_reads_23 : decode cX7_reads 23 = .ok (.iconst 1, 1) := by decide +kernel
theorem dX7_reads_24 : decode cX7_reads 24 = .ok (.goto 4, 3) := by decide +kernel
theorem dX7_reads_27 : decode cX7_reads 27 = .ok (.iconst 0, 1) := by decide +kernel
theorem dX7_reads_28 : decode cX7_reads 28 = .ok (.iadd, 1) := by decide +kernel
theorem dX7_reads_29 : decode cX7_reads 29 = .ok (.putfield 132, 3) := by decide +kernel
theorem dX7_reads_32 : decode cX7_reads 32 = .ok (.iload_n 2, 1) := by decide +kernel
theorem dX7_reads_33 : decode cX7_reads 33 = .ok (.ireturn, 1) := by decide +kernel
theorem dX7_number_0 : decode cX7_number 0 = .ok (.aload_n 0, 1) := by decide +kernel
theorem dX7_number_1 : decode cX7_number 1 = .ok (.invokevirtual 135, 3) := by decide +kernel
theorem dX7_number_4 : decode cX7_number 4 = .ok (.bipush 48, 2) := by decide +kernel
theorem dX7_number_6 : decode cX7_number 6 = .ok (.bipush 57, 2) := by decide +kernel
theorem dX7_number_8 : decode cX7_number 8 = .ok (.invokestatic 36, 3) := by decide +kernel
theorem dX7_number_11 : decode cX7_number 11 = .ok (.ifCond .ne 6, 3) := by decide +kernel
theorem dX7_number_14 : decode cX7_number 14 = .ok (.bipush (-9), 2) := by decide +kernel
theorem dX7_number_16 : decode cX7_number 16 = .ok (.ireturn, 1) := by decide +kernel
theorem dX7_number_17 : decode cX7_number 17 = .ok (.iconst 0, 1) := by decide +kernel
theorem dX7_number_18 : decode cX7_number 18 = .ok (.istore_n 1, 1) := by decide +kernel
theorem dX7_number_19 : decode cX7_number 19 = .ok (.iconst 0, 1) := by decide +kernel
theorem dX7_number_20 : decode cX7_number 20 = .ok (.istore_n 2, 1) := by decide +kernel
theorem dX7_number_21 : decode cX7_number 21 = .ok (.aload_n 0, 1) := by decide +kernel
theorem dX7_number_22 : decode cX7_number 22 = .ok (.getfield 132, 3) := by decide +kernel
theorem dX7_number_25 : decode cX7_number 25 = .ok (.aload_n 0, 1) := by decide +kernel
theorem dX7_number_26 : decode cX7_number 26 = .ok (.getfield 129, 3) := by decide +kernel
theorem dX7_number_29 : decode cX7_number 29 = .ok (.if_icmp .ge 73, 3) := by decide +kernel
theorem dX7_number_32 : decode cX7_number 32 = .ok (.aload_n 0, 1) := by decide +kernel
theorem dX7_number_33 : decode cX7_number 33 = .ok (.getfield 23, 3) := by decide +kernel
theorem dX7_number_36 : decode cX7_number 36 = .ok (.aload_n 0, 1) := by decide +kernel
theorem dX7_number_37 : decode cX7_number 37 = .ok (.getfield 132, 3) := by decide +kernel
theorem dX7_number_40 : decode cX7_number 40 = .ok (.iaload, 1) := by decide +kernel
theorem dX7_number_41 : decode cX7_number 41 = .ok (.bipush 48, 2) := by decide +kernel
theorem dX7_number_43 : decode cX7_number 43 = .ok (.bipush 57, 2) := by decide +kernel
theorem dX7_number_45 : decode cX7_number 45 = .ok (.invokestatic 36, 3) := by decide +kernel
theorem dX7_number_48 : decode cX7_number 48 = .ok (.ifCond .eq 54, 3) := by decide +kernel
theorem dX7_number_51 : decode cX7_number 51 = .ok (.iload_n 1, 1) := by decide +kernel
theorem dX7_number_52 : decode cX7_number 52 = .ok (.iconst 4, 1) := by decide +kernel
theorem dX7_number_53 : decode cX7_number 53 = .ok (.if_icmp .eq 12, 3) := by decide +kernel
theorem dX7_number_56 : decode cX7_number 56 = .ok (.iload_n 1, 1) := by decide +kernel
theorem dX7_number_57 : decode cX7_number 57 = .ok (.iconst 1, 1) := by decide +kernel
theorem dX7_number_58 : decode cX7_number 58 = .ok (.if_icmp .ne 10, 3) := by decide +kernel
theorem dX7_number_61 : decode cX7_number 61 = .ok (.iload_n 2, 1) := by decide +kernel
theorem dX7_number_62 : decode cX7_number 62 = .ok (.ifCond .ne 6, 3) := by decide +kernel
theorem dX7_number_65 : decode cX7_number 65 = .ok (.bipush (-9), 2) := by decide +kernel
theorem dX7_number_67 : decode cX7_number 67 = .ok (.ireturn, 1) := by decide +kernel
theorem dX7_number_68 : decode cX7_number 68 = .ok (.bipush 10, 2) := by decide +kernel
theorem dX7_number_70 : decode cX7_number 70 = .ok (.iload_n 2, 1) := by decide +kernel
theorem dX7_number_71 : decode cX7_number 71 = .ok (.imul, 1) := by decide +kernel
theorem dX7_number_72 : decode cX7_number 72 = .ok (.aload_n 0, 1) := by decide +kernel
theorem dX7_number_73 : decode cX7_number 73 = .ok (.getfield 23, 3) := by decide +kernel
theorem dX7_number_76 : decode cX7_number 76 = .ok (.aload_n 0, 1) := by decide +kernel
theorem dX7_number_77 : decode cX7_number 77 = .ok (.getfield 132, 3) := by decide +kernel
theorem dX7_number_80 : decode cX7_number 80 = .ok (.iaload, 1) := by decide +kernel
theorem dX7_number_81 : decode cX7_number 81 = .ok (.iadd, 1) := by decide +kernel
theorem dX7_number_82 : decode cX7_number 82 = .ok (.bipush 48, 2) := by decide +kernel
theorem dX7_number_84 : decode cX7_number 84 = .ok (.isub, 1) := by decide +kernel
theorem dX7_number_85 : decode cX7_number 85 = .ok (.istore_n 2, 1) := by decide +kernel
theorem dX7_number_86 : decode cX7_number 86 = .ok (.iinc 1 1, 3) := by decide +kernel
theorem dX7_number_89 : decode cX7_number 89 = .ok (.aload_n 0, 1) := by decide +kernel
theorem dX7_number_90 : decode cX7_number 90 = .ok (.dup, 1) := by decide +kernel
theorem dX7_number_91 : decode cX7_number 91 = .ok (.getfield 132, 3) := by decide +kernel
theorem dX7_number_94 : decode cX7_number 94 = .ok (.iconst 1, 1) := by decide +kernel
theorem dX7_number_95 : decode cX7_number 95 = .ok (.iadd, 1) := by decide +kernel
theorem dX7_number_96 : decode cX7_number 96 = .ok (.putfield 132, 3) := by decide +kernel
theorem dX7_number_99 : decode cX7_number 99 = .ok (.goto (-78), 3) := by decide +kernel
theorem dX7_number_102 : decode cX7_number 102 = .ok (.iload_n 2, 1) := by decide +kernel
theorem dX7_number_103 : decode cX7_number 103 = .ok (.ireturn, 1) := by decide +kernel
theorem dX7_readItem_0 : decode cX7_readItem 0 = .ok (.bipush (-9), 2) := by decide +kernel
theorem dX7_readItem_2 : decode cX7_readItem 2 = .ok (.istore_n 1, 1) := by decide +kernel
theorem dX7_readItem_3 : decode cX7_readItem 3 = .ok (.aload_n 0, 1) := by decide +kernel
theorem dX7_readItem_4 : decode cX7_readItem 4 = .ok (.bipush 102, 2) := by decide +kernel
theorem dX7_readItem_6 : decode cX7_readItem 6 = .ok (.invokevirtual 138, 3) := by decide +kernel
theorem dX7_readItem_9 : decode cX7_readItem 9 = .ok (.ifCond .eq 25, 3) := by decide +kernel
theorem dX7_readItem_12 : decode cX7_readItem 12 = .ok (.aload_n 0, 1) := by decide +kernel
theorem dX7_readItem_13 : decode cX7_readItem 13 = .ok (.invokevirtual 141, 3) := by decide +kernel
theorem dX7_readItem_16 : decode cX7_readItem 16 = .ok (.istore_n 1, 1) := by decide +kernel
theorem dX7_readItem_17 : decode cX7_readItem 17 = .ok (.iload_n 1, 1) := by decide +kernel
theorem dX7_readItem_18 : decode cX7_readItem 18 = .ok (.bipush (-9), 2) := by decide +kernel
theorem dX7_readItem_20 : decode cX7_readItem 20 = .ok (.if_icmp .eq 12, 3) := by decide +kernel
theorem dX7_readItem_23 : decode cX7_readItem 23 = .ok (.aload_n 0, 1) := by decide +kernel
theorem dX7_readItem_24 : decode cX7_readItem 24 = .ok (.bipush 44, 2) := by decide +kernel
theorem dX7_readItem_26 : decode cX7_readItem 26 = .ok (.invokevirtual 138, 3) := by decide +kernel
theorem dX7_readItem_29 : decode cX7_readItem 29 = .ok (.ifCond .ne 16, 3) := by decide +kernel
theorem dX7_readItem_32 : decode cX7_readItem 32 = .ok (.iconst 0, 1) := by decide +kernel
theorem dX7_readItem_33 : decode cX7_readItem 33 = .ok (.ireturn, 1) := by decide +kernel
theorem dX7_readItem_34 : decode cX7_readItem 34 = .ok (.aload_n 0, 1) := by decide +kernel
theorem dX7_readItem_35 : decode cX7_readItem 35 = .ok (.bipush 116, 2) := by decide +kernel
theorem dX7_readItem_37 : decode cX7_readItem 37 = .ok (.invokevirtual 138, 3) := by decide +kernel
theorem dX7_readItem_40 : decode cX7_readItem 40 = .ok (.ifCond .ne 5, 3) := by decide +kernel
theorem dX7_readItem_43 : decode cX7_readItem 43 = .ok (.iconst 0, 1) := by decide +kernel
theorem dX7_readItem_44 : decode cX7_readItem 44 = .ok (.ireturn, 1) := by decide +kernel
theorem dX7_readItem_45 : decode cX7_readItem 45 = .ok (.aload_n 0, 1) := by decide +kernel
theorem dX7_readItem_46 : decode cX7_readItem 46 = .ok (.invokevirtual 141, 3) := by decide +kernel
theorem dX7_readItem_49 : decode cX7_readItem 49 = .ok (.istore_n 2, 1) := by decide +kernel
theorem dX7_readItem_50 : decode cX7_readItem 50 = .ok (.iload_n 2, 1) := by decide +kernel
theorem dX7_readItem_51 : decode cX7_readItem 51 = .ok (.bipush (-9), 2) := by decide +kernel
theorem dX7_readItem_53 : decode cX7_readItem 53 = .ok (.if_icmp .eq 12, 3) := by decide +kernel
theorem dX7_readItem_56 : decode cX7_readItem 56 = .ok (.aload_n 0, 1) := by decide +kernel
theorem dX7_readItem_57 : decode cX7_readItem 57 = .ok (.bipush 59, 2) := by decide +kernel
theorem dX7_readItem_59 : decode cX7_readItem 59 = .ok (.invokevirtual 138, 3) := by decide +kernel
theorem dX7_readItem_62 : decode cX7_readItem 62 = .ok (.ifCond .ne 5, 3) := by decide +kernel
theorem dX7_readItem_65 : decode cX7_readItem 65 = .ok (.iconst 0, 1) := by decide +kernel
theorem dX7_readItem_66 : decode cX7_readItem 66 = .ok (.ireturn, 1) := by decide +kernel
theorem dX7_readItem_67 : decode cX7_readItem 67 = .ok (.aload_n 0, 1) := by decide +kernel
theorem dX7_readItem_68 : decode cX7_readItem 68 = .ok (.getfield 26, 3) := by decide +kernel
theorem dX7_readItem_71 : decode cX7_readItem 71 = .ok (.aload_n 0, 1) := by decide +kernel
theorem dX7_readItem_72 : decode cX7_readItem 72 = .ok (.getfield 144, 3) := by decide +kernel
theorem dX7_readItem_75 : decode cX7_readItem 75 = .ok (.iload_n 1, 1) := by decide +kernel
theorem dX7_readItem_76 : decode cX7_readItem 76 = .ok (.iastore, 1) := by decide +kernel
theorem dX7_readItem_77 : decode cX7_readItem 77 = .ok (.aload_n 0, 1) := by decide +kernel
theorem dX7_readItem_78 : decode cX7_readItem 78 = .ok (.getfield 29, 3) := by decide +kernel
theorem dX7_readItem_81 : decode cX7_readItem 81 = .ok (.aload_n 0, 1) := by decide +kernel
theorem dX7_readItem_82 : decode cX7_readItem 82 = .ok (.getfield 144, 3) := by decide +kernel
theorem dX7_readItem_85 : decode cX7_readItem 85 = .ok (.iload_n 2, 1) := by decide +kernel
theorem dX7_readItem_86 : decode cX7_readItem 86 = .ok (.iastore, 1) := by decide +kernel
theorem dX7_readItem_87 : decode cX7_readItem 87 = .ok (.aload_n 0, 1) := by decide +kernel
theorem dX7_readItem_88 : decode cX7_readItem 88 = .ok (.dup, 1) := by decide +kernel
theorem dX7_readItem_89 : decode cX7_readItem 89 = .ok (.getfield 144, 3) := by decide +kernel
theorem dX7_readItem_92 : decode cX7_readItem 92 = .ok (.iconst 1, 1) := by decide +kernel
theorem dX7_readItem_93 : decode cX7_readItem 93 = .ok (.iadd, 1) := by decide +kernel
theorem dX7_readItem_94 : decode cX7_readItem 94 = .ok (.putfield 144, 3) := by decide +kernel
theorem dX7_readItem_97 : decode cX7_readItem 97 = .ok (.iconst 1, 1) := by decide +kernel
theorem dX7_readItem_98 : decode cX7_readItem 98 = .ok (.ireturn, 1) := by decide +kernel
theorem dX7_readText_0 : decode cX7_readText 0 = .ok (.aload_n 0, 1) := by decide +kernel
theorem dX7_readText_1 : decode cX7_readText 1 = .ok (.iconst 0, 1) := by decide +kernel
theorem dX7_readText_2 : decode cX7_readText 2 = .ok (.putfield 132, 3) := by decide +kernel
theorem dX7_readText_5 : decode cX7_readText 5 = .ok (.aload_n 0, 1) := by decide +kernel
theorem dX7_readText_6 : decode cX7_readText 6 = .ok (.iconst 0, 1) := by decide +kernel
theorem dX7_readText_7 : decode cX7_readText 7 = .ok (.putfield 144, 3) := by decide +kernel
theorem dX7_readText_10 : decode cX7_readText 10 = .ok (.aload_n 0, 1) := by decide +kernel
theorem dX7_readText_11 : decode cX7_readText 11 = .ok (.invokevirtual 147, 3) := by decide +kernel
theorem dX7_readText_14 : decode cX7_readText 14 = .ok (.istore_n 1, 1) := by decide +kernel
theorem dX7_readText_15 : decode cX7_readText 15 = .ok (.iload_n 1, 1) := by decide +kernel
theorem dX7_readText_16 : decode cX7_readText 16 = .ok (.ifCond .eq 20, 3) := by decide +kernel
theorem dX7_readText_19 : decode cX7_readText 19 = .ok (.aload_n 0, 1) := by decide +kernel
theorem dX7_readText_20 : decode cX7_readText 20 = .ok (.invokevirtual 135, 3) := by decide +kernel
theorem dX7_readText_23 : decode cX7_readText 23 = .ok (.bipush (-9), 2) := by decide +kernel
theorem dX7_readText_25 : decode cX7_readText 25 = .ok (.if_icmp .eq 11, 3) := by decide +kernel
theorem dX7_readText_28 : decode cX7_readText 28 = .ok (.aload_n 0, 1) := by decide +kernel
theorem dX7_readText_29 : decode cX7_readText 29 = .ok (.invokevirtual 147, 3) := by decide +kernel
theorem dX7_readText_32 : decode cX7_readText 32 = .ok (.istore_n 1, 1) := by decide +kernel
theorem dX7_readText_33 : decode cX7_readText 33 = .ok (.goto (-18), 3) := by decide +kernel
theorem dX7_readText_36 : decode cX7_readText 36 = .ok (.iload_n 1, 1) := by decide +kernel
theorem dX7_readText_37 : decode cX7_readText 37 = .ok (.ireturn, 1) := by decide +kernel
theorem dX7_execute_0 : decode cX7_execute 0 = .ok (.aload_n 0, 1) := by decide +kernel
theorem dX7_execute_1 : decode cX7_execute 1 = .ok (.getfield 26, 3) := by decide +kernel
theorem dX7_execute_4 : decode cX7_execute 4 = .ok (.iload_n 1, 1) := by decide +kernel
theorem dX7_execute_5 : decode cX7_execute 5 = .ok (.iaload, 1) := by decide +kernel
theorem dX7_execute_6 : decode cX7_execute 6 = .ok (.istore_n 2, 1) := by decide +kernel
theorem dX7_execute_7 : decode cX7_execute 7 = .ok (.aload_n 0, 1) := by decide +kernel
theorem dX7_execute_8 : decode cX7_execute 8 = .ok (.getfield 29, 3) := by decide +kernel
theorem dX7_execute_11 : decode cX7_execute 11 = .ok (.iload_n 1, 1) := by decide +kernel
theorem dX7_execute_12 : decode cX7_execute 12 = .ok (.iaload, 1) := by decide +kernel
theorem dX7_execute_13 : decode cX7_execute 13 = .ok (.istore_n 3, 1) := by decide +kernel
theorem dX7_execute_14 : decode cX7_execute 14 = .ok (.iload_n 2, 1) := by decide +kernel
theorem dX7_execute_15 : decode cX7_execute 15 = .ok (.bipush (-9), 2) := by decide +kernel
theorem dX7_execute_17 : decode cX7_execute 17 = .ok (.if_icmp .ne 37, 3) := by decide +kernel
theorem dX7_execute_20 : decode cX7_execute 20 = .ok (.aload_n 0, 1) := by decide +kernel
theorem dX7_execute_21 : decode cX7_execute 21 = .ok (.iload_n 3, 1) := by decide +kernel
theorem dX7_execute_22 : decode cX7_execute 22 = .ok (.invokevirtual 66, 3) := by decide +kernel
theorem dX7_execute_25 : decode cX7_execute 25 = .ok (.ifCond .ne 7, 3) := by decide +kernel
theorem dX7_execute_28 : decode cX7_execute 28 = .ok (.iconst 1, 1) := by decide +kernel
theorem dX7_execute_29 : decode cX7_execute 29 = .ok (.goto 4, 3) := by decide +kernel
theorem dX7_execute_32 : decode cX7_execute 32 = .ok (.iconst 0, 1) := by decide +kernel
theorem dX7_execute_33 : decode cX7_execute 33 = .ok (.istore 4, 2) := by decide +kernel
theorem dX7_execute_35 : decode cX7_execute 35 = .ok (.iload 4, 2) := by decide +kernel
theorem dX7_execute_37 : decode cX7_execute 37 = .ok (.ifCond .eq 15, 3) := by decide +kernel
theorem dX7_execute_40 : decode cX7_execute 40 = .ok (.aload_n 0, 1) := by decide +kernel
theorem dX7_execute_41 : decode cX7_execute 41 = .ok (.iload_n 3, 1) := by decide +kernel
theorem dX7_execute_42 : decode cX7_execute 42 = .ok (.invokevirtual 69, 3) := by decide +kernel
theorem dX7_execute_45 : decode cX7_execute 45 = .ok (.ifCond .le 7, 3) := by decide +kernel
theorem dX7_execute_48 : decode cX7_execute 48 = .ok (.iconst 1, 1) := by decide +kernel
theorem dX7_execute_49 : decode cX7_execute 49 = .ok (.goto 4, 3) := by decide +kernel
theorem dX7_execute_52 : decode cX7_execute 52 = .ok (.iconst 0, 1) := by decide +kernel
theorem dX7_execute_53 : decode cX7_execute 53 = .ok (.ireturn, 1) := by decide +kernel
theorem dX7_execute_54 : decode cX7_execute 54 = .ok (.iload_n 2, 1) := by decide +kernel
theorem dX7_execute_55 : decode cX7_execute 55 = .ok (.invokestatic 108, 3) := by decide +kernel
theorem dX7_execute_58 : decode cX7_execute 58 = .ok (.ifCond .eq 14, 3) := by decide +kernel
theorem dX7_execute_61 : decode cX7_execute 61 = .ok (.iload_n 3, 1) := by decide +kernel
theorem dX7_execute_62 : decode cX7_execute 62 = .ok (.invokestatic 111, 3) := by decide +kernel
theorem dX7_execute_65 : decode cX7_execute 65 = .ok (.ifCond .eq 7, 3) := by decide +kernel
theorem dX7_execute_68 : decode cX7_execute 68 = .ok (.iconst 1, 1) := by decide +kernel
theorem dX7_execute_69 : decode cX7_execute 69 = .ok (.goto 4, 3) := by decide +kernel
theorem dX7_execute_72 : decode cX7_execute 72 = .ok (.iconst 0, 1) := by decide +kernel
theorem dX7_execute_73 : decode cX7_execute 73 = .ok (.istore 4, 2) := by decide +kernel
theorem dX7_execute_75 : decode cX7_execute 75 = .ok (.iload 4, 2) := by decide +kernel
theorem dX7_execute_77 : decode cX7_execute 77 = .ok (.ifCond .eq 16, 3) := by decide +kernel
theorem dX7_execute_80 : decode cX7_execute 80 = .ok (.aload_n 0, 1) := by decide +kernel
theorem dX7_execute_81 : decode cX7_execute 81 = .ok (.iload_n 2, 1) := by decide +kernel
theorem dX7_execute_82 : decode cX7_execute 82 = .ok (.iload_n 3, 1) := by decide +kernel
theorem dX7_execute_83 : decode cX7_execute 83 = .ok (.invokevirtual 114, 3) := by decide +kernel
theorem dX7_execute_86 : decode cX7_execute 86 = .ok (.ifCond .lt 7, 3) := by decide +kernel
theorem dX7_execute_89 : decode cX7_execute 89 = .ok (.iconst 1, 1) := by decide +kernel
theorem dX7_execute_90 : decode cX7_execute 90 = .ok (.goto 4, 3) := by decide +kernel
theorem dX7_execute_93 : decode cX7_execute 93 = .ok (.iconst 0, 1) := by decide +kernel
theorem dX7_execute_94 : decode cX7_execute 94 = .ok (.ireturn, 1) := by decide +kernel
theorem dX7_runTrace_0 : decode cX7_runTrace 0 = .ok (.aload_n 0, 1) := by decide +kernel
theorem dX7_runTrace_1 : decode cX7_runTrace 1 = .ok (.invokevirtual 150, 3) := by decide +kernel
theorem dX7_runTrace_4 : decode cX7_runTrace 4 = .ok (.ifCond .ne 11, 3) := by decide +kernel
theorem dX7_runTrace_7 : decode cX7_runTrace 7 = .ok (.bipush (-10), 2) := by decide +kernel
theorem dX7_runTrace_9 : decode cX7_runTrace 9 = .ok (.aload_n 0, 1) := by decide +kernel
theorem dX7_runTrace_10 : decode cX7_runTrace 10 = .ok (.getfield 132, 3) := by decide +kernel
theorem dX7_runTrace_13 : decode cX7_runTrace 13 = .ok (.isub, 1) := by decide +kernel
theorem dX7_runTrace_14 : decode cX7_runTrace 14 = .ok (.ireturn, 1) := by decide +kernel
theorem dX7_runTrace_15 : decode cX7_runTrace 15 = .ok (.aload_n 0, 1) := by decide +kernel
theorem dX7_runTrace_16 : decode cX7_runTrace 16 = .ok (.invokevirtual 44, 3) := by decide +kernel
theorem dX7_runTrace_19 : decode cX7_runTrace 19 = .ok (.iconst 0, 1) := by decide +kernel
theorem dX7_runTrace_20 : decode cX7_runTrace 20 = .ok (.istore_n 1, 1) := by decide +kernel
theorem dX7_runTrace_21 : decode cX7_runTrace 21 = .ok (.iconst 0, 1) := by decide +kernel
theorem dX7_runTrace_22 : decode cX7_runTrace 22 = .ok (.istore_n 2, 1) := by decide +kernel
theorem dX7_runTrace_23 : decode cX7_runTrace 23 = .ok (.iload_n 2, 1) := by decide +kernel
theorem dX7_runTrace_24 : decode cX7_runTrace 24 = .ok (.aload_n 0, 1) := by decide +kernel
theorem dX7_runTrace_25 : decode cX7_runTrace 25 = .ok (.getfield 144, 3) := by decide +kernel
theorem dX7_runTrace_28 : decode cX7_runTrace 28 = .ok (.if_icmp .ge 25, 3) := by decide +kernel
theorem dX7_runTrace_31 : decode cX7_runTrace 31 = .ok (.iload_n 1, 1) := by decide +kernel
theorem dX7_runTrace_32 : decode cX7_runTrace 32 = .ok (.aload_n 0, 1) := by decide +kernel
theorem dX7_runTrace_33 : decode cX7_runTrace 33 = .ok (.iload_n 2, 1) := by decide +kernel
theorem dX7_runTrace_34 : decode cX7_runTrace 34 = .ok (.invokevirtual 153, 3) := by decide +kernel
theorem dX7_runTrace_37 : decode cX7_runTrace 37 = .ok (.ifCond .eq 7, 3) := by decide +kernel
theorem dX7_runTrace_40 : decode cX7_runTrace 40 = .ok (.iconst 1, 1) := by decide +kernel
theorem dX7_runTrace_41 : decode cX7_runTrace 41 = .ok (.goto 4, 3) := by decide +kernel
theorem dX7_runTrace_44 : decode cX7_runTrace 44 = .ok (.iconst 0, 1) := by decide +kernel
theorem dX7_runTrace_45 : decode cX7_runTrace 45 = .ok (.iadd, 1) := by decide +kernel
theorem dX7_runTrace_46 : decode cX7_runTrace 46 = .ok (.istore_n 1, 1) := by decide +kernel
theorem dX7_runTrace_47 : decode cX7_runTrace 47 = .ok (.iinc 2 1, 3) := by decide +kernel
theorem dX7_runTrace_50 : decode cX7_runTrace 50 = .ok (.goto (-27), 3) := by decide +kernel
theorem dX7_runTrace_53 : decode cX7_runTrace 53 = .ok (.aload_n 0, 1) := by decide +kernel
theorem dX7_runTrace_54 : decode cX7_runTrace 54 = .ok (.iconst 0, 1) := by decide +kernel
theorem dX7_runTrace_55 : decode cX7_runTrace 55 = .ok (.putfield 129, 3) := by decide +kernel
theorem dX7_runTrace_58 : decode cX7_runTrace 58 = .ok (.iload_n 1, 1) := by decide +kernel
theorem dX7_runTrace_59 : decode cX7_runTrace 59 = .ok (.ireturn, 1) := by decide +kernel
theorem dX7_undo_0 : decode cX7_undo 0 = .ok (.aload_n 0, 1) := by decide +kernel
theorem dX7_undo_1 : decode cX7_undo 1 = .ok (.getfield 40, 3) := by decide +kernel
theorem dX7_undo_4 : decode cX7_undo 4 = .ok (.ifCond .ne 6, 3) := by decide +kernel
theorem dX7_undo_7 : decode cX7_undo 7 = .ok (.bipush (-2), 2) := by decide +kernel
theorem dX7_undo_9 : decode cX7_undo 9 = .ok (.ireturn, 1) := by decide +kernel
theorem dX7_undo_10 : decode cX7_undo 10 = .ok (.aload_n 0, 1) := by decide +kernel
theorem dX7_undo_11 : decode cX7_undo 11 = .ok (.dup, 1) := by decide +kernel
theorem dX7_undo_12 : decode cX7_undo 12 = .ok (.getfield 40, 3) := by decide +kernel
theorem dX7_undo_15 : decode cX7_undo 15 = .ok (.iconst 1, 1) := by decide +kernel
theorem dX7_undo_16 : decode cX7_undo 16 = .ok (.isub, 1) := by decide +kernel
theorem dX7_undo_17 : decode cX7_undo 17 = .ok (.putfield 40, 3) := by decide +kernel
theorem dX7_undo_20 : decode cX7_undo 20 = .ok (.iconst 0, 1) := by decide +kernel
theorem dX7_undo_21 : decode cX7_undo 21 = .ok (.istore_n 1, 1) := by decide +kernel
theorem dX7_undo_22 : decode cX7_undo 22 = .ok (.iload_n 1, 1) := by decide +kernel
theorem dX7_undo_23 : decode cX7_undo 23 = .ok (.sipush 153, 3) := by decide +kernel
theorem dX7_undo_26 : decode cX7_undo 26 = .ok (.if_icmp .ge 30, 3) := by decide +kernel
theorem dX7_undo_29 : decode cX7_undo 29 = .ok (.aload_n 0, 1) := by decide +kernel
theorem dX7_undo_30 : decode cX7_undo 30 = .ok (.getfield 7, 3) := by decide +kernel
theorem dX7_undo_33 : decode cX7_undo 33 = .ok (.iload_n 1, 1) := by decide +kernel
theorem dX7_undo_34 : decode cX7_undo 34 = .ok (.aload_n 0, 1) := by decide +kernel
theorem dX7_undo_35 : decode cX7_undo 35 = .ok (.getfield 13, 3) := by decide +kernel
theorem dX7_undo_38 : decode cX7_undo 38 = .ok (.sipush 153, 3) := by decide +kernel
theorem dX7_undo_41 : decode cX7_undo 41 = .ok (.aload_n 0, 1) := by decide +kernel
theorem dX7_undo_42 : decode cX7_undo 42 = .ok (.getfield 40, 3) := by decide +kernel
theorem dX7_undo_45 : decode cX7_undo 45 = .ok (.imul, 1) := by decide +kernel
theorem dX7_undo_46 : decode cX7_undo 46 = .ok (.iload_n 1, 1) := by decide +kernel
theorem dX7_undo_47 : decode cX7_undo 47 = .ok (.iadd, 1) := by decide +kernel
theorem dX7_undo_48 : decode cX7_undo 48 = .ok (.iaload, 1) := by decide +kernel
theorem dX7_undo_49 : decode cX7_undo 49 = .ok (.iastore, 1) := by decide +kernel
theorem dX7_undo_50 : decode cX7_undo 50 = .ok (.iinc 1 1, 3) := by decide +kernel
theorem dX7_undo_53 : decode cX7_undo 53 = .ok (.goto (-31), 3) := by decide +kernel
theorem dX7_undo_56 : decode cX7_undo 56 = .ok (.aload_n 0, 1) := by decide +kernel
theorem dX7_undo_57 : decode cX7_undo 57 = .ok (.getfield 40, 3) := by decide +kernel
theorem dX7_undo_60 : decode cX7_undo 60 = .ok (.ireturn, 1) := by decide +kernel
theorem dX7_save_0 : decode cX7_save 0 = .ok (.iload_n 1, 1) := by decide +kernel
theorem dX7_save_1 : decode cX7_save 1 = .ok (.iconst 0, 1) := by decide +kernel
theorem dX7_save_2 : decode cX7_save 2 = .ok (.iconst 1, 1) := by decide +kernel
theorem dX7_save_3 : decode cX7_save 3 = .ok (.invokestatic 36, 3) := by decide +kernel
theorem dX7_save_6 : decode cX7_save 6 = .ok (.ifCond .ne 5, 3) := by decide +kernel
theorem dX7_save_9 : decode cX7_save 9 = .ok (.iconst (-1), 1) := by decide +kernel
theorem dX7_save_10 : decode cX7_save 10 = .ok (.ireturn, 1) := by decide +kernel
theorem dX7_save_11 : decode cX7_save 11 = .ok (.iconst 0, 1) := by decide +kernel
theorem dX7_save_12 : decode cX7_save 12 = .ok (.istore_n 2, 1) := by decide +kernel
theorem dX7_save_13 : decode cX7_save 13 = .ok (.iload_n 2, 1) := by decide +kernel
theorem dX7_save_14 : decode cX7_save 14 = .ok (.sipush 153, 3) := by decide +kernel
theorem dX7_save_17 : decode cX7_save 17 = .ok (.if_icmp .ge 27, 3) := by decide +kernel
theorem dX7_save_20 : decode cX7_save 20 = .ok (.aload_n 0, 1) := by decide +kernel
theorem dX7_save_21 : decode cX7_save 21 = .ok (.getfield 16, 3) := by decide +kernel
theorem dX7_save_24 : decode cX7_save 24 = .ok (.sipush 153, 3) := by decide +kernel
theorem dX7_save_27 : decode cX7_save 27 = .ok (.iload_n 1, 1) := by decide +kernel
theorem dX7_save_28 : decode cX7_save 28 = .ok (.imul, 1) := by decide +kernel
theorem dX7_save_29 : decode cX7_save 29 = .ok (.iload_n 2, 1) := by decide +kernel
theorem dX7_save_30 : decode cX7_save 30 = .ok (.iadd, 1) := by decide +kernel
theorem dX7_save_31 : decode cX7_save 31 = .ok (.aload_n 0, 1) := by decide +kernel
theorem dX7_save_32 : decode cX7_save 32 = .ok (.getfield 7, 3) := by decide +kernel
theorem dX7_save_35 : decode cX7_save 35 = .ok (.iload_n 2, 1) := by decide +kernel
theorem dX7_save_36 : decode cX7_save 36 = .ok (.iaload, 1) := by decide +kernel
theorem dX7_save_37 : decode cX7_save 37 = .ok (.iastore, 1) := by decide +kernel
theorem dX7_save_38 : decode cX7_save 38 = .ok (.iinc 2 1, 3) := by decide +kernel
theorem dX7_save_41 : decode cX7_save 41 = .ok (.goto (-28), 3) := by decide +kernel
theorem dX7_save_44 : decode cX7_save 44 = .ok (.aload_n 0, 1) := by decide +kernel
theorem dX7_save_45 : decode cX7_save 45 = .ok (.getfield 19, 3) := by decide +kernel
theorem dX7_save_48 : decode cX7_save 48 = .ok (.iload_n 1, 1) := by decide +kernel
theorem dX7_save_49 : decode cX7_save 49 = .ok (.iconst 1, 1) := by decide +kernel
theorem dX7_save_50 : decode cX7_save 50 = .ok (.bastore, 1) := by decide +kernel
theorem dX7_save_51 : decode cX7_save 51 = .ok (.aload_n 0, 1) := by decide +kernel
theorem dX7_save_52 : decode cX7_save 52 = .ok (.getfield 7, 3) := by decide +kernel
theorem dX7_save_55 : decode cX7_save 55 = .ok (.iconst 0, 1) := by decide +kernel
theorem dX7_save_56 : decode cX7_save 56 = .ok (.iaload, 1) := by decide +kernel
theorem dX7_save_57 : decode cX7_save 57 = .ok (.ireturn, 1) := by decide +kernel
theorem dX7_restore_0 : decode cX7_restore 0 = .ok (.iload_n 1, 1) := by decide +kernel
theorem dX7_restore_1 : decode cX7_restore 1 = .ok (.iconst 0, 1) := by decide +kernel
theorem dX7_restore_2 : decode cX7_restore 2 = .ok (.iconst 1, 1) := by decide +kernel
theorem dX7_restore_3 : decode cX7_restore 3 = .ok (.invokestatic 36, 3) := by decide +kernel
theorem dX7_restore_6 : decode cX7_restore 6 = .ok (.ifCond .ne 5, 3) := by decide +kernel
