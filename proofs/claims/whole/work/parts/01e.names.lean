theorem dX7_job_178 : decode cX7_job 178 = .ok (.bipush 10, 2) := by decide +kernel
theorem dX7_job_180 : decode cX7_job 180 = .ok (.irem, 1) := by decide +kernel
theorem dX7_job_181 : decode cX7_job 181 = .ok (.iastore, 1) := by decide +kernel
theorem dX7_job_182 : decode cX7_job 182 = .ok (.aload_n 0, 1) := by decide +kernel
theorem dX7_job_183 : decode cX7_job 183 = .ok (.getfield 26, 3) := by decide +kernel
theorem dX7_job_186 : decode cX7_job 186 = .ok (.aload_n 0, 1) := by decide +kernel
theorem dX7_job_187 : decode cX7_job 187 = .ok (.getfield 109, 3) := by decide +kernel
theorem dX7_job_190 : decode cX7_job 190 = .ok (.iload_n 2, 1) := by decide +kernel
theorem dX7_job_191 : decode cX7_job 191 = .ok (.iastore, 1) := by decide +kernel
theorem dX7_job_192 : decode cX7_job 192 = .ok (.aload_n 0, 1) := by decide +kernel
theorem dX7_job_193 : decode cX7_job 193 = .ok (.getfield 29, 3) := by decide +kernel
theorem dX7_job_196 : decode cX7_job 196 = .ok (.aload_n 0, 1) := by decide +kernel
theorem dX7_job_197 : decode cX7_job 197 = .ok (.getfield 109, 3) := by decide +kernel
theorem dX7_job_200 : decode cX7_job 200 = .ok (.iload_n 3, 1) := by decide +kernel
theorem dX7_job_201 : decode cX7_job 201 = .ok (.iastore, 1) := by decide +kernel
theorem dX7_job_202 : decode cX7_job 202 = .ok (.aload_n 0, 1) := by decide +kernel
theorem dX7_job_203 : decode cX7_job 203 = .ok (.getfield 38, 3) := by decide +kernel
theorem dX7_job_206 : decode cX7_job 206 = .ok (.aload_n 0, 1) := by decide +kernel
theorem dX7_job_207 : decode cX7_job 207 = .ok (.getfield 109, 3) := by decide +kernel
theorem dX7_job_210 : decode cX7_job 210 = .ok (.aload_n 0, 1) := by decide +kernel
theorem dX7_job_211 : decode cX7_job 211 = .ok (.getfield 116, 3) := by decide +kernel
theorem dX7_job_214 : decode cX7_job 214 = .ok (.iastore, 1) := by decide +kernel
theorem dX7_job_215 : decode cX7_job 215 = .ok (.aload_n 0, 1) := by decide +kernel
theorem dX7_job_216 : decode cX7_job 216 = .ok (.getfield 71, 3) := by decide +kernel
theorem dX7_job_219 : decode cX7_job 219 = .ok (.aload_n 0, 1) := by decide +kernel
theorem dX7_job_220 : decode cX7_job 220 = .ok (.getfield 109, 3) := by decide +kernel
theorem dX7_job_223 : decode cX7_job 223 = .ok (.iconst (-1), 1) := by decide +kernel
theorem dX7_job_224 : decode cX7_job 224 = .ok (.iastore, 1) := by decide +kernel
theorem dX7_job_225 : decode cX7_job 225 = .ok (.aload_n 0, 1) := by decide +kernel
theorem dX7_job_226 : decode cX7_job 226 = .ok (.dup, 1) := by decide +kernel
theorem dX7_job_227 : decode cX7_job 227 = .ok (.getfield 109, 3) := by decide +kernel
theorem dX7_job_230 : decode cX7_job 230 = .ok (.iconst 1, 1) := by decide +kernel
theorem dX7_job_231 : decode cX7_job 231 = .ok (.iadd, 1) := by decide +kernel
theorem dX7_job_232 : decode cX7_job 232 = .ok (.putfield 109, 3) := by decide +kernel
theorem dX7_job_235 : decode cX7_job 235 = .ok (.aload_n 0, 1) := by decide +kernel
theorem dX7_job_236 : decode cX7_job 236 = .ok (.getfield 109, 3) := by decide +kernel
theorem dX7_job_239 : decode cX7_job 239 = .ok (.iconst 1, 1) := by decide +kernel
theorem dX7_job_240 : decode cX7_job 240 = .ok (.isub, 1) := by decide +kernel
theorem dX7_job_241 : decode cX7_job 241 = .ok (.ireturn, 1) := by decide +kernel
theorem dX7_need_0 : decode cX7_need 0 = .ok (.aload_n 0, 1) := by decide +kernel
theorem dX7_need_1 : decode cX7_need 1 = .ok (.getfield 41, 3) := by decide +kernel
theorem dX7_need_4 : decode cX7_need 4 = .ok (.iload_n 1, 1) := by decide +kernel
theorem dX7_need_5 : decode cX7_need 5 = .ok (.iaload, 1) := by decide +kernel
theorem dX7_need_6 : decode cX7_need 6 = .ok (.aload_n 0, 1) := by decide +kernel
theorem dX7_need_7 : decode cX7_need 7 = .ok (.getfield 35, 3) := by decide +kernel
theorem dX7_need_10 : decode cX7_need 10 = .ok (.iload_n 1, 1) := by decide +kernel
theorem dX7_need_11 : decode cX7_need 11 = .ok (.iaload, 1) := by decide +kernel
theorem dX7_need_12 : decode cX7_need 12 = .ok (.if_icmp .le 26, 3) := by decide +kernel
theorem dX7_need_15 : decode cX7_need 15 = .ok (.aload_n 0, 1) := by decide +kernel
theorem dX7_need_16 : decode cX7_need 16 = .ok (.getfield 17, 3) := by decide +kernel
theorem dX7_need_19 : decode cX7_need 19 = .ok (.iload_n 1, 1) := by decide +kernel
theorem dX7_need_20 : decode cX7_need 20 = .ok (.iaload, 1) := by decide +kernel
theorem dX7_need_21 : decode cX7_need 21 = .ok (.aload_n 0, 1) := by decide +kernel
theorem dX7_need_22 : decode cX7_need 22 = .ok (.getfield 41, 3) := by decide +kernel
theorem dX7_need_25 : decode cX7_need 25 = .ok (.iload_n 1, 1) := by decide +kernel
theorem dX7_need_26 : decode cX7_need 26 = .ok (.iaload, 1) := by decide +kernel
theorem dX7_need_27 : decode cX7_need 27 = .ok (.isub, 1) := by decide +kernel
theorem dX7_need_28 : decode cX7_need 28 = .ok (.aload_n 0, 1) := by decide +kernel
theorem dX7_need_29 : decode cX7_need 29 = .ok (.getfield 35, 3) := by decide +kernel
theorem dX7_need_32 : decode cX7_need 32 = .ok (.iload_n 1, 1) := by decide +kernel
theorem dX7_need_33 : decode cX7_need 33 = .ok (.iaload, 1) := by decide +kernel
theorem dX7_need_34 : decode cX7_need 34 = .ok (.iadd, 1) := by decide +kernel
theorem dX7_need_35 : decode cX7_need 35 = .ok (.goto 9, 3) := by decide +kernel
theorem dX7_need_38 : decode cX7_need 38 = .ok (.aload_n 0, 1) := by decide +kernel
theorem dX7_need_39 : decode cX7_need 39 = .ok (.getfield 17, 3) := by decide +kernel
theorem dX7_need_42 : decode cX7_need 42 = .ok (.iload_n 1, 1) := by decide +kernel
theorem dX7_need_43 : decode cX7_need 43 = .ok (.iaload, 1) := by decide +kernel
theorem dX7_need_44 : decode cX7_need 44 = .ok (.ireturn, 1) := by decide +kernel
theorem dX7_loses_0 : decode cX7_loses 0 = .ok (.aload_n 0, 1) := by decide +kernel
theorem dX7_loses_1 : decode cX7_loses 1 = .ok (.getfield 47, 3) := by decide +kernel
theorem dX7_loses_4 : decode cX7_loses 4 = .ok (.iload_n 1, 1) := by decide +kernel
theorem dX7_loses_5 : decode cX7_loses 5 = .ok (.dup2, 1) := by decide +kernel
theorem dX7_loses_6 : decode cX7_loses 6 = .ok (.iaload, 1) := by decide +kernel
theorem dX7_loses_7 : decode cX7_loses 7 = .ok (.aload_n 0, 1) := by decide +kernel
theorem dX7_loses_8 : decode cX7_loses 8 = .ok (.getfield 44, 3) := by decide +kernel
theorem dX7_loses_11 : decode cX7_loses 11 = .ok (.iload_n 1, 1) := by decide +kernel
theorem dX7_loses_12 : decode cX7_loses 12 = .ok (.iaload, 1) := by decide +kernel
theorem dX7_loses_13 : decode cX7_loses 13 = .ok (.iadd, 1) := by decide +kernel
theorem dX7_loses_14 : decode cX7_loses 14 = .ok (.iastore, 1) := by decide +kernel
theorem dX7_loses_15 : decode cX7_loses 15 = .ok (.aload_n 0, 1) := by decide +kernel
theorem dX7_loses_16 : decode cX7_loses 16 = .ok (.getfield 44, 3) := by decide +kernel
theorem dX7_loses_19 : decode cX7_loses 19 = .ok (.iload_n 1, 1) := by decide +kernel
theorem dX7_loses_20 : decode cX7_loses 20 = .ok (.iconst 0, 1) := by decide +kernel
theorem dX7_loses_21 : decode cX7_loses 21 = .ok (.iastore, 1) := by decide +kernel
theorem dX7_loses_22 : decode cX7_loses 22 = .ok (.aload_n 0, 1) := by decide +kernel
theorem dX7_loses_23 : decode cX7_loses 23 = .ok (.getfield 80, 3) := by decide +kernel
theorem dX7_loses_26 : decode cX7_loses 26 = .ok (.iload_n 1, 1) := by decide +kernel
theorem dX7_loses_27 : decode cX7_loses 27 = .ok (.iconst 0, 1) := by decide +kernel
theorem dX7_loses_28 : decode cX7_loses 28 = .ok (.iastore, 1) := by decide +kernel
theorem dX7_loses_29 : decode cX7_loses 29 = .ok (.aload_n 0, 1) := by decide +kernel
theorem dX7_loses_30 : decode cX7_loses 30 = .ok (.getfield 77, 3) := by decide +kernel
theorem dX7_loses_33 : decode cX7_loses 33 = .ok (.iload_n 1, 1) := by decide +kernel
theorem dX7_loses_34 : decode cX7_loses 34 = .ok (.iconst 0, 1) := by decide +kernel
theorem dX7_loses_35 : decode cX7_loses 35 = .ok (.iastore, 1) := by decide +kernel
theorem dX7_loses_36 : decode cX7_loses 36 = .ok (.aload_n 0, 1) := by decide +kernel
theorem dX7_loses_37 : decode cX7_loses 37 = .ok (.getfield 83, 3) := by decide +kernel
theorem dX7_loses_40 : decode cX7_loses 40 = .ok (.iload_n 1, 1) := by decide +kernel
theorem dX7_loses_41 : decode cX7_loses 41 = .ok (.iconst 0, 1) := by decide +kernel
theorem dX7_loses_42 : decode cX7_loses 42 = .ok (.iastore, 1) := by decide +kernel
theorem dX7_loses_43 : decode cX7_loses 43 = .ok (.return_, 1) := by decide +kernel
set_option maxRecDepth 20000 in
theorem ggX7_atFull_X7_loses : GoodIn wsX7_atFull wsX7_loses := goodIn_r _ [15, 5, 16, 17, 4, 18, 19, 20, 21, 22, 23, 24, 25, 26, 27, 28, 29, 30, 31, 32, 33, 34, 35, 36, 37, 38, 39, 40, 41, 42, 43, 44, 45, 46, 47, 48, 49, 50, 51, 52, 53] (by decide +kernel) (by decide +kernel)
set_option maxRecDepth 20000 in
theorem gX7_atFull_X7_loses : GoodIn wsX7_atFull (wsV RX7 120 RX7 yX7_loses wsX7_loses) := goodIn_app (goodIn_of _ (by decide +kernel)) ggX7_atFull_X7_loses
theorem dX7_atFull_0 : decode cX7_atFull 0 = .ok (.aload_n 0, 1) := by decide +kernel
theorem dX7_atFull_1 : decode cX7_atFull 1 = .ok (.getfield 68, 3) := by decide +kernel
theorem dX7_atFull_4 : decode cX7_atFull 4 = .ok (.iload_n 1, 1) := by decide +kernel
theorem dX7_atFull_5 : decode cX7_atFull 5 = .ok (.iaload, 1) := by decide +kernel
theorem dX7_atFull_6 : decode cX7_atFull 6 = .ok (.iconst 2, 1) := by decide +kernel
theorem dX7_atFull_7 : decode cX7_atFull 7 = .ok (.if_icmp .eq 67, 3) := by decide +kernel
theorem dX7_atFull_10 : decode cX7_atFull 10 = .ok (.aload_n 0, 1) := by decide +kernel
theorem dX7_atFull_11 : decode cX7_atFull 11 = .ok (.iload_n 1, 1) := by decide +kernel
theorem dX7_atFull_12 : decode cX7_atFull 12 = .ok (.invokevirtual 120, 3) := by decide +kernel
theorem dX7_atFull_15 : decode cX7_atFull 15 = .ok (.aload_n 0, 1) := by decide +kernel
theorem dX7_atFull_16 : decode cX7_atFull 16 = .ok (.getfield 68, 3) := by decide +kernel
theorem dX7_atFull_19 : decode cX7_atFull 19 = .ok (.iload_n 1, 1) := by decide +kernel
theorem dX7_atFull_20 : decode cX7_atFull 20 = .ok (.iconst 2, 1) := by decide +kernel
theorem dX7_atFull_21 : decode cX7_atFull 21 = .ok (.iastore, 1) := by decide +kernel
theorem dX7_atFull_22 : decode cX7_atFull 22 = .ok (.aload_n 0, 1) := by decide +kernel
theorem dX7_atFull_23 : decode cX7_atFull 23 = .ok (.getfield 41, 3) := by decide +kernel
theorem dX7_atFull_26 : decode cX7_atFull 26 = .ok (.iload_n 1, 1) := by decide +kernel
theorem dX7_atFull_27 : decode cX7_atFull 27 = .ok (.iaload, 1) := by decide +kernel
theorem dX7_atFull_28 : decode cX7_atFull 28 = .ok (.aload_n 0, 1) := by decide +kernel
theorem dX7_atFull_29 : decode cX7_atFull 29 = .ok (.getfield 35, 3) := by decide +kernel
theorem dX7_atFull_32 : decode cX7_atFull 32 = .ok (.iload_n 1, 1) := by decide +kernel
theorem dX7_atFull_33 : decode cX7_atFull 33 = .ok (.iaload, 1) := by decide +kernel
theorem dX7_atFull_34 : decode cX7_atFull 34 = .ok (.if_icmp .le 18, 3) := by decide +kernel
theorem dX7_atFull_37 : decode cX7_atFull 37 = .ok (.aload_n 0, 1) := by decide +kernel
theorem dX7_atFull_38 : decode cX7_atFull 38 = .ok (.getfield 77, 3) := by decide +kernel
theorem dX7_atFull_41 : decode cX7_atFull 41 = .ok (.iload_n 1, 1) := by decide +kernel
theorem dX7_atFull_42 : decode cX7_atFull 42 = .ok (.aload_n 0, 1) := by decide +kernel
theorem dX7_atFull_43 : decode cX7_atFull 43 = .ok (.getfield 35, 3) := by decide +kernel
theorem dX7_atFull_46 : decode cX7_atFull 46 = .ok (.iload_n 1, 1) := by decide +kernel
theorem dX7_atFull_47 : decode cX7_atFull 47 = .ok (.iaload, 1) := by decide +kernel
theorem dX7_atFull_48 : decode cX7_atFull 48 = .ok (.iastore, 1) := by decide +kernel
theorem dX7_atFull_49 : decode cX7_atFull 49 = .ok (.goto 25, 3) := by decide +kernel
theorem dX7_atFull_52 : decode cX7_atFull 52 = .ok (.aload_n 0, 1) := by decide +kernel
theorem dX7_atFull_53 : decode cX7_atFull 53 = .ok (.getfield 47, 3) := by decide +kernel
theorem dX7_atFull_56 : decode cX7_atFull 56 = .ok (.iload_n 1, 1) := by decide +kernel
theorem dX7_atFull_57 : decode cX7_atFull 57 = .ok (.dup2, 1) := by decide +kernel
theorem dX7_atFull_58 : decode cX7_atFull 58 = .ok (.iaload, 1) := by decide +kernel
theorem dX7_atFull_59 : decode cX7_atFull 59 = .ok (.aload_n 0, 1) := by decide +kernel
theorem dX7_atFull_60 : decode cX7_atFull 60 = .ok (.getfield 41, 3) := by decide +kernel
theorem dX7_atFull_63 : decode cX7_atFull 63 = .ok (.iload_n 1, 1) := by decide +kernel
theorem dX7_atFull_64 : decode cX7_atFull 64 = .ok (.iaload, 1) := by decide +kernel
theorem dX7_atFull_65 : decode cX7_atFull 65 = .ok (.iadd, 1) := by decide +kernel
theorem dX7_atFull_66 : decode cX7_atFull 66 = .ok (.iastore, 1) := by decide +kernel
theorem dX7_atFull_67 : decode cX7_atFull 67 = .ok (.aload_n 0, 1) := by decide +kernel
theorem dX7_atFull_68 : decode cX7_atFull 68 = .ok (.getfield 41, 3) := by decide +kernel
theorem dX7_atFull_71 : decode cX7_atFull 71 = .ok (.iload_n 1, 1) := by decide +kernel
theorem dX7_atFull_72 : decode cX7_atFull 72 = .ok (.iconst 0, 1) := by decide +kernel
theorem dX7_atFull_73 : decode cX7_atFull 73 = .ok (.iastore, 1) := by decide +kernel
theorem dX7_atFull_74 : decode cX7_atFull 74 = .ok (.aload_n 0, 1) := by decide +kernel
theorem dX7_atFull_75 : decode cX7_atFull 75 = .ok (.getfield 62, 3) := by decide +kernel
theorem dX7_atFull_78 : decode cX7_atFull 78 = .ok (.iload_n 1, 1) := by decide +kernel
theorem dX7_atFull_79 : decode cX7_atFull 79 = .ok (.dup2, 1) := by decide +kernel
theorem dX7_atFull_80 : decode cX7_atFull 80 = .ok (.iaload, 1) := by decide +kernel
theorem dX7_atFull_81 : decode cX7_atFull 81 = .ok (.aload_n 0, 1) := by decide +kernel
theorem dX7_atFull_82 : decode cX7_atFull 82 = .ok (.getfield 7, 3) := by decide +kernel
theorem dX7_atFull_85 : decode cX7_atFull 85 = .ok (.iadd, 1) := by decide +kernel
theorem dX7_atFull_86 : decode cX7_atFull 86 = .ok (.iastore, 1) := by decide +kernel
theorem dX7_atFull_87 : decode cX7_atFull 87 = .ok (.aload_n 0, 1) := by decide +kernel
theorem dX7_atFull_88 : decode cX7_atFull 88 = .ok (.getfield 65, 3) := by decide +kernel
theorem dX7_atFull_91 : decode cX7_atFull 91 = .ok (.iload_n 1, 1) := by decide +kernel
theorem dX7_atFull_92 : decode cX7_atFull 92 = .ok (.dup2, 1) := by decide +kernel
theorem dX7_atFull_93 : decode cX7_atFull 93 = .ok (.iaload, 1) := by decide +kernel
theorem dX7_atFull_94 : decode cX7_atFull 94 = .ok (.iconst 1, 1) := by decide +kernel
theorem dX7_atFull_95 : decode cX7_atFull 95 = .ok (.iadd, 1) := by decide +kernel
theorem dX7_atFull_96 : decode cX7_atFull 96 = .ok (.iastore, 1) := by decide +kernel
theorem dX7_atFull_97 : decode cX7_atFull 97 = .ok (.aload_n 0, 1) := by decide +kernel
theorem dX7_atFull_98 : decode cX7_atFull 98 = .ok (.getfield 77, 3) := by decide +kernel
theorem dX7_atFull_101 : decode cX7_atFull 101 = .ok (.iload_n 1, 1) := by decide +kernel
theorem dX7_atFull_102 : decode cX7_atFull 102 = .ok (.iaload, 1) := by decide +kernel
theorem dX7_atFull_103 : decode cX7_atFull 103 = .ok (.ifCond .le 26, 3) := by decide +kernel
theorem dX7_atFull_106 : decode cX7_atFull 106 = .ok (.aload_n 0, 1) := by decide +kernel
theorem dX7_atFull_107 : decode cX7_atFull 107 = .ok (.getfield 77, 3) := by decide +kernel
theorem dX7_atFull_110 : decode cX7_atFull 110 = .ok (.iload_n 1, 1) := by decide +kernel
theorem dX7_atFull_111 : decode cX7_atFull 111 = .ok (.dup2, 1) := by decide +kernel
theorem dX7_atFull_112 : decode cX7_atFull 112 = .ok (.iaload, 1) := by decide +kernel
theorem dX7_atFull_113 : decode cX7_atFull 113 = .ok (.iconst 1, 1) := by decide +kernel
theorem dX7_atFull_114 : decode cX7_atFull 114 = .ok (.isub, 1) := by decide +kernel
theorem dX7_atFull_115 : decode cX7_atFull 115 = .ok (.iastore, 1) := by decide +kernel
theorem dX7_atFull_116 : decode cX7_atFull 116 = .ok (.aload_n 0, 1) := by decide +kernel
theorem dX7_atFull_117 : decode cX7_atFull 117 = .ok (.getfield 53, 3) := by decide +kernel
theorem dX7_atFull_120 : decode cX7_atFull 120 = .ok (.iload_n 1, 1) := by decide +kernel
theorem dX7_atFull_121 : decode cX7_atFull 121 = .ok (.dup2, 1) := by decide +kernel
theorem dX7_atFull_122 : decode cX7_atFull 122 = .ok (.iaload, 1) := by decide +kernel
theorem dX7_atFull_123 : decode cX7_atFull 123 = .ok (.iconst 1, 1) := by decide +kernel
theorem dX7_atFull_124 : decode cX7_atFull 124 = .ok (.iadd, 1) := by decide +kernel
theorem dX7_atFull_125 : decode cX7_atFull 125 = .ok (.iastore, 1) := by decide +kernel
theorem dX7_atFull_126 : decode cX7_atFull 126 = .ok (.goto 23, 3) := by decide +kernel
theorem dX7_atFull_129 : decode cX7_atFull 129 = .ok (.aload_n 0, 1) := by decide +kernel
theorem dX7_atFull_130 : decode cX7_atFull 130 = .ok (.getfield 50, 3) := by decide +kernel
theorem dX7_atFull_133 : decode cX7_atFull 133 = .ok (.iload_n 1, 1) := by decide +kernel
theorem dX7_atFull_134 : decode cX7_atFull 134 = .ok (.dup2, 1) := by decide +kernel
theorem dX7_atFull_135 : decode cX7_atFull 135 = .ok (.iaload, 1) := by decide +kernel
theorem dX7_atFull_136 : decode cX7_atFull 136 = .ok (.iconst 1, 1) := by decide +kernel
theorem dX7_atFull_137 : decode cX7_atFull 137 = .ok (.iadd, 1) := by decide +kernel
theorem dX7_atFull_138 : decode cX7_atFull 138 = .ok (.iastore, 1) := by decide +kernel
theorem dX7_atFull_139 : decode cX7_atFull 139 = .ok (.aload_n 0, 1) := by decide +kernel
theorem dX7_atFull_140 : decode cX7_atFull 140 = .ok (.getfield 41, 3) := by decide +kernel
theorem dX7_atFull_143 : decode cX7_atFull 143 = .ok (.iload_n 1, 1) := by decide +kernel
theorem dX7_atFull_144 : decode cX7_atFull 144 = .ok (.dup2, 1) := by decide +kernel
theorem dX7_atFull_145 : decode cX7_atFull 145 = .ok (.iaload, 1) := by decide +kernel
theorem dX7_atFull_146 : decode cX7_atFull 146 = .ok (.iconst 1, 1) := by decide +kernel
theorem dX7_atFull_147 : decode cX7_atFull 147 = .ok (.iadd, 1) := by decide +kernel
theorem dX7_atFull_148 : decode cX7_atFull 148 = .ok (.iastore, 1) := by decide +kernel
theorem dX7_atFull_149 : decode cX7_atFull 149 = .ok (.return_, 1) := by decide +kernel
set_option maxRecDepth 20000 in
theorem ggX7_atMarket_X7_keeps : GoodIn wsX7_atMarket wsX7_keeps := goodIn_r _ [19, 4, 11, 2, 20, 21, 22, 23, 24, 25, 26, 27, 28, 29, 30, 31, 32, 33, 34, 35, 36, 37, 38, 39, 40, 41, 42, 43, 44, 45, 46, 47, 48, 49, 50, 51, 52, 53, 54] (by decide +kernel) (by decide +kernel)
set_option maxRecDepth 20000 in
theorem gX7_atMarket_X7_keeps : GoodIn wsX7_atMarket (wsV RX7 124 RX7 yX7_keeps wsX7_keeps) := goodIn_app (goodIn_of _ (by decide +kernel)) ggX7_atMarket_X7_keeps
theorem dX7_atMarket_0 : decode cX7_atMarket 0 = .ok (.aload_n 0, 1) := by decide +kernel
theorem dX7_atMarket_1 : decode cX7_atMarket 1 = .ok (.getfield 68, 3) := by decide +kernel
theorem dX7_atMarket_4 : decode cX7_atMarket 4 = .ok (.iload_n 1, 1) := by decide +kernel
theorem dX7_atMarket_5 : decode cX7_atMarket 5 = .ok (.iaload, 1) := by decide +kernel
theorem dX7_atMarket_6 : decode cX7_atMarket 6 = .ok (.iconst 1, 1) := by decide +kernel
theorem dX7_atMarket_7 : decode cX7_atMarket 7 = .ok (.if_icmp .eq 42, 3) := by decide +kernel
theorem dX7_atMarket_10 : decode cX7_atMarket 10 = .ok (.aload_n 0, 1) := by decide +kernel
theorem dX7_atMarket_11 : decode cX7_atMarket 11 = .ok (.getfield 68, 3) := by decide +kernel
theorem dX7_atMarket_14 : decode cX7_atMarket 14 = .ok (.iload_n 1, 1) := by decide +kernel
theorem dX7_atMarket_15 : decode cX7_atMarket 15 = .ok (.iconst 1, 1) := by decide +kernel
theorem dX7_atMarket_16 : decode cX7_atMarket 16 = .ok (.iastore, 1) := by decide +kernel
theorem dX7_atMarket_17 : decode cX7_atMarket 17 = .ok (.aload_n 0, 1) := by decide +kernel
theorem dX7_atMarket_18 : decode cX7_atMarket 18 = .ok (.getfield 83, 3) := by decide +kernel
theorem dX7_atMarket_21 : decode cX7_atMarket 21 = .ok (.iload_n 1, 1) := by decide +kernel
theorem dX7_atMarket_22 : decode cX7_atMarket 22 = .ok (.iconst 0, 1) := by decide +kernel
theorem dX7_atMarket_23 : decode cX7_atMarket 23 = .ok (.iastore, 1) := by decide +kernel
theorem dX7_atMarket_24 : decode cX7_atMarket 24 = .ok (.aload_n 0, 1) := by decide +kernel
theorem dX7_atMarket_25 : decode cX7_atMarket 25 = .ok (.getfield 77, 3) := by decide +kernel
theorem dX7_atMarket_28 : decode cX7_atMarket 28 = .ok (.iload_n 1, 1) := by decide +kernel
theorem dX7_atMarket_29 : decode cX7_atMarket 29 = .ok (.aload_n 0, 1) := by decide +kernel
theorem dX7_atMarket_30 : decode cX7_atMarket 30 = .ok (.getfield 41, 3) := by decide +kernel
theorem dX7_atMarket_33 : decode cX7_atMarket 33 = .ok (.iload_n 1, 1) := by decide +kernel
theorem dX7_atMarket_34 : decode cX7_atMarket 34 = .ok (.iaload, 1) := by decide +kernel
theorem dX7_atMarket_35 : decode cX7_atMarket 35 = .ok (.ifCond .le 12, 3) := by decide +kernel
theorem dX7_atMarket_38 : decode cX7_atMarket 38 = .ok (.aload_n 0, 1) := by decide +kernel
theorem dX7_atMarket_39 : decode cX7_atMarket 39 = .ok (.getfield 35, 3) := by decide +kernel
theorem dX7_atMarket_42 : decode cX7_atMarket 42 = .ok (.iload_n 1, 1) := by decide +kernel
theorem dX7_atMarket_43 : decode cX7_atMarket 43 = .ok (.iaload, 1) := by decide +kernel
theorem dX7_atMarket_44 : decode cX7_atMarket 44 = .ok (.goto 4, 3) := by decide +kernel
theorem dX7_atMarket_47 : decode cX7_atMarket 47 = .ok (.iconst 0, 1) := by decide +kernel
theorem dX7_atMarket_48 : decode cX7_atMarket 48 = .ok (.iastore, 1) := by decide +kernel
theorem dX7_atMarket_49 : decode cX7_atMarket 49 = .ok (.aload_n 0, 1) := by decide +kernel
theorem dX7_atMarket_50 : decode cX7_atMarket 50 = .ok (.getfield 62, 3) := by decide +kernel
theorem dX7_atMarket_53 : decode cX7_atMarket 53 = .ok (.iload_n 1, 1) := by decide +kernel
theorem dX7_atMarket_54 : decode cX7_atMarket 54 = .ok (.dup2, 1) := by decide +kernel
theorem dX7_atMarket_55 : decode cX7_atMarket 55 = .ok (.iaload, 1) := by decide +kernel
theorem dX7_atMarket_56 : decode cX7_atMarket 56 = .ok (.iload_n 2, 1) := by decide +kernel
theorem dX7_atMarket_57 : decode cX7_atMarket 57 = .ok (.iadd, 1) := by decide +kernel
theorem dX7_atMarket_58 : decode cX7_atMarket 58 = .ok (.iastore, 1) := by decide +kernel
theorem dX7_atMarket_59 : decode cX7_atMarket 59 = .ok (.aload_n 0, 1) := by decide +kernel
theorem dX7_atMarket_60 : decode cX7_atMarket 60 = .ok (.getfield 77, 3) := by decide +kernel
theorem dX7_atMarket_63 : decode cX7_atMarket 63 = .ok (.iload_n 1, 1) := by decide +kernel
theorem dX7_atMarket_64 : decode cX7_atMarket 64 = .ok (.iaload, 1) := by decide +kernel
theorem dX7_atMarket_65 : decode cX7_atMarket 65 = .ok (.ifCond .le 24, 3) := by decide +kernel
theorem dX7_atMarket_68 : decode cX7_atMarket 68 = .ok (.aload_n 0, 1) := by decide +kernel
theorem dX7_atMarket_69 : decode cX7_atMarket 69 = .ok (.getfield 77, 3) := by decide +kernel
theorem dX7_atMarket_72 : decode cX7_atMarket 72 = .ok (.iload_n 1, 1) := by decide +kernel
theorem dX7_atMarket_73 : decode cX7_atMarket 73 = .ok (.dup2, 1) := by decide +kernel
theorem dX7_atMarket_74 : decode cX7_atMarket 74 = .ok (.iaload, 1) := by decide +kernel
theorem dX7_atMarket_75 : decode cX7_atMarket 75 = .ok (.iconst 1, 1) := by decide +kernel
theorem dX7_atMarket_76 : decode cX7_atMarket 76 = .ok (.isub, 1) := by decide +kernel
theorem dX7_atMarket_77 : decode cX7_atMarket 77 = .ok (.iastore, 1) := by decide +kernel
theorem dX7_atMarket_78 : decode cX7_atMarket 78 = .ok (.aload_n 0, 1) := by decide +kernel
theorem dX7_atMarket_79 : decode cX7_atMarket 79 = .ok (.getfield 53, 3) := by decide +kernel
theorem dX7_atMarket_82 : decode cX7_atMarket 82 = .ok (.iload_n 1, 1) := by decide +kernel
theorem dX7_atMarket_83 : decode cX7_atMarket 83 = .ok (.dup2, 1) := by decide +kernel
theorem dX7_atMarket_84 : decode cX7_atMarket 84 = .ok (.iaload, 1) := by decide +kernel
theorem dX7_atMarket_85 : decode cX7_atMarket 85 = .ok (.iconst 1, 1) := by decide +kernel
theorem dX7_atMarket_86 : decode cX7_atMarket 86 = .ok (.iadd, 1) := by decide +kernel
theorem dX7_atMarket_87 : decode cX7_atMarket 87 = .ok (.iastore, 1) := by decide +kernel
theorem dX7_atMarket_88 : decode cX7_atMarket 88 = .ok (.return_, 1) := by decide +kernel
theorem dX7_atMarket_89 : decode cX7_atMarket 89 = .ok (.aload_n 0, 1) := by decide +kernel
theorem dX7_atMarket_90 : decode cX7_atMarket 90 = .ok (.getfield 80, 3) := by decide +kernel
theorem dX7_atMarket_93 : decode cX7_atMarket 93 = .ok (.iload_n 1, 1) := by decide +kernel
theorem dX7_atMarket_94 : decode cX7_atMarket 94 = .ok (.iaload, 1) := by decide +kernel
theorem dX7_atMarket_95 : decode cX7_atMarket 95 = .ok (.ifCond .le 38, 3) := by decide +kernel
theorem dX7_atMarket_98 : decode cX7_atMarket 98 = .ok (.aload_n 0, 1) := by decide +kernel
theorem dX7_atMarket_99 : decode cX7_atMarket 99 = .ok (.getfield 80, 3) := by decide +kernel
theorem dX7_atMarket_102 : decode cX7_atMarket 102 = .ok (.iload_n 1, 1) := by decide +kernel
theorem dX7_atMarket_103 : decode cX7_atMarket 103 = .ok (.dup2, 1) := by decide +kernel
theorem dX7_atMarket_104 : decode cX7_atMarket 104 = .ok (.iaload, 1) := by decide +kernel
theorem dX7_atMarket_105 : decode cX7_atMarket 105 = .ok (.iconst 1, 1) := by decide +kernel
theorem dX7_atMarket_106 : decode cX7_atMarket 106 = .ok (.isub, 1) := by decide +kernel
theorem dX7_atMarket_107 : decode cX7_atMarket 107 = .ok (.iastore, 1) := by decide +kernel
theorem dX7_atMarket_108 : decode cX7_atMarket 108 = .ok (.aload_n 0, 1) := by decide +kernel
theorem dX7_atMarket_109 : decode cX7_atMarket 109 = .ok (.getfield 56, 3) := by decide +kernel
theorem dX7_atMarket_112 : decode cX7_atMarket 112 = .ok (.iload_n 1, 1) := by decide +kernel
theorem dX7_atMarket_113 : decode cX7_atMarket 113 = .ok (.dup2, 1) := by decide +kernel
theorem dX7_atMarket_114 : decode cX7_atMarket 114 = .ok (.iaload, 1) := by decide +kernel
theorem dX7_atMarket_115 : decode cX7_atMarket 115 = .ok (.iconst 1, 1) := by decide +kernel
theorem dX7_atMarket_116 : decode cX7_atMarket 116 = .ok (.iadd, 1) := by decide +kernel
theorem dX7_atMarket_117 : decode cX7_atMarket 117 = .ok (.iastore, 1) := by decide +kernel
theorem dX7_atMarket_118 : decode cX7_atMarket 118 = .ok (.aload_n 0, 1) := by decide +kernel
theorem dX7_atMarket_119 : decode cX7_atMarket 119 = .ok (.getfield 80, 3) := by decide +kernel
theorem dX7_atMarket_122 : decode cX7_atMarket 122 = .ok (.iload_n 1, 1) := by decide +kernel
theorem dX7_atMarket_123 : decode cX7_atMarket 123 = .ok (.iaload, 1) := by decide +kernel
theorem dX7_atMarket_124 : decode cX7_atMarket 124 = .ok (.ifCond .ne 8, 3) := by decide +kernel
theorem dX7_atMarket_127 : decode cX7_atMarket 127 = .ok (.aload_n 0, 1) := by decide +kernel
theorem dX7_atMarket_128 : decode cX7_atMarket 128 = .ok (.iload_n 1, 1) := by decide +kernel
theorem dX7_atMarket_129 : decode cX7_atMarket 129 = .ok (.invokevirtual 124, 3) := by decide +kernel
theorem dX7_atMarket_132 : decode cX7_atMarket 132 = .ok (.return_, 1) := by decide +kernel
theorem dX7_atMarket_133 : decode cX7_atMarket 133 = .ok (.aload_n 0, 1) := by decide +kernel
theorem dX7_atMarket_134 : decode cX7_atMarket 134 = .ok (.getfield 50, 3) := by decide +kernel
theorem dX7_atMarket_137 : decode cX7_atMarket 137 = .ok (.iload_n 1, 1) := by decide +kernel
theorem dX7_atMarket_138 : decode cX7_atMarket 138 = .ok (.dup2, 1) := by decide +kernel
theorem dX7_atMarket_139 : decode cX7_atMarket 139 = .ok (.iaload, 1) := by decide +kernel
theorem dX7_atMarket_140 : decode cX7_atMarket 140 = .ok (.iconst 1, 1) := by decide +kernel
theorem dX7_atMarket_141 : decode cX7_atMarket 141 = .ok (.iadd, 1) := by decide +kernel
theorem dX7_atMarket_142 : decode cX7_atMarket 142 = .ok (.iastore, 1) := by decide +kernel
theorem dX7_atMarket_143 : decode cX7_atMarket 143 = .ok (.aload_n 0, 1) := by decide +kernel
theorem dX7_atMarket_144 : decode cX7_atMarket 144 = .ok (.getfield 44, 3) := by decide +kernel
theorem dX7_atMarket_147 : decode cX7_atMarket 147 = .ok (.iload_n 1, 1) := by decide +kernel
theorem dX7_atMarket_148 : decode cX7_atMarket 148 = .ok (.dup2, 1) := by decide +kernel
theorem dX7_atMarket_149 : decode cX7_atMarket 149 = .ok (.iaload, 1) := by decide +kernel
theorem dX7_atMarket_150 : decode cX7_atMarket 150 = .ok (.iconst 1, 1) := by decide +kernel
theorem dX7_atMarket_151 : decode cX7_atMarket 151 = .ok (.iadd, 1) := by decide +kernel
theorem dX7_atMarket_152 : decode cX7_atMarket 152 = .ok (.iastore, 1) := by decide +kernel
theorem dX7_atMarket_153 : decode cX7_atMarket 153 = .ok (.aload_n 0, 1) := by decide +kernel
theorem dX7_atMarket_154 : decode cX7_atMarket 154 = .ok (.getfield 83, 3) := by decide +kernel
theorem dX7_atMarket_157 : decode cX7_atMarket 157 = .ok (.iload_n 1, 1) := by decide +kernel
theorem dX7_atMarket_158 : decode cX7_atMarket 158 = .ok (.dup2, 1) := by decide +kernel
theorem dX7_atMarket_159 : decode cX7_atMarket 159 = .ok (.iaload, 1) := by decide +kernel
theorem dX7_atMarket_160 : decode cX7_atMarket 160 = .ok (.iconst 1, 1) := by decide +kernel
theorem dX7_atMarket_161 : decode cX7_atMarket 161 = .ok (.iadd, 1) := by decide +kernel
theorem dX7_atMarket_162 : decode cX7_atMarket 162 = .ok (.iastore, 1) := by decide +kernel
theorem dX7_atMarket_163 : decode cX7_atMarket 163 = .ok (.aload_n 0, 1) := by decide +kernel
theorem dX7_atMarket_164 : decode cX7_atMarket 164 = .ok (.getfield 83, 3) := by decide +kernel
theorem dX7_atMarket_167 : decode cX7_atMarket 167 = .ok (.iload_n 1, 1) := by decide +kernel
theorem dX7_atMarket_168 : decode cX7_atMarket 168 = .ok (.iaload, 1) := by decide +kernel
theorem dX7_atMarket_169 : decode cX7_atMarket 169 = .ok (.aload_n 0, 1) := by decide +kernel
theorem dX7_atMarket_170 : decode cX7_atMarket 170 = .ok (.getfield 29, 3) := by decide +kernel
theorem dX7_atMarket_173 : decode cX7_atMarket 173 = .ok (.iload_n 1, 1) := by decide +kernel
theorem dX7_atMarket_174 : decode cX7_atMarket 174 = .ok (.iaload, 1) := by decide +kernel
theorem dX7_atMarket_175 : decode cX7_atMarket 175 = .ok (.if_icmp .ge 26, 3) := by decide +kernel
theorem dX7_atMarket_178 : decode cX7_atMarket 178 = .ok (.aload_n 0, 1) := by decide +kernel
theorem dX7_atMarket_179 : decode cX7_atMarket 179 = .ok (.getfield 41, 3) := by decide +kernel
theorem dX7_atMarket_182 : decode cX7_atMarket 182 = .ok (.iload_n 1, 1) := by decide +kernel
theorem dX7_atMarket_183 : decode cX7_atMarket 183 = .ok (.iaload, 1) := by decide +kernel
theorem dX7_atMarket_184 : decode cX7_atMarket 184 = .ok (.aload_n 0, 1) := by decide +kernel
theorem dX7_atMarket_185 : decode cX7_atMarket 185 = .ok (.getfield 44, 3) := by decide +kernel
theorem dX7_atMarket_188 : decode cX7_atMarket 188 = .ok (.iload_n 1, 1) := by decide +kernel
theorem dX7_atMarket_189 : decode cX7_atMarket 189 = .ok (.iaload, 1) := by decide +kernel
theorem dX7_atMarket_190 : decode cX7_atMarket 190 = .ok (.iadd, 1) := by decide +kernel
theorem dX7_atMarket_191 : decode cX7_atMarket 191 = .ok (.aload_n 0, 1) := by decide +kernel
theorem dX7_atMarket_192 : decode cX7_atMarket 192 = .ok (.getfield 17, 3) := by decide +kernel
theorem dX7_atMarket_195 : decode cX7_atMarket 195 = .ok (.iload_n 1, 1) := by decide +kernel
theorem dX7_atMarket_196 : decode cX7_atMarket 196 = .ok (.iaload, 1) := by decide +kernel
theorem dX7_atMarket_197 : decode cX7_atMarket 197 = .ok (.if_icmp .ge 4, 3) := by decide +kernel
theorem dX7_atMarket_200 : decode cX7_atMarket 200 = .ok (.return_, 1) := by decide +kernel
theorem dX7_atMarket_201 : decode cX7_atMarket 201 = .ok (.aload_n 0, 1) := by decide +kernel
theorem dX7_atMarket_202 : decode cX7_atMarket 202 = .ok (.getfield 80, 3) := by decide +kernel
theorem dX7_atMarket_205 : decode cX7_atMarket 205 = .ok (.iload_n 1, 1) := by decide +kernel
theorem dX7_atMarket_206 : decode cX7_atMarket 206 = .ok (.aload_n 0, 1) := by decide +kernel
theorem dX7_atMarket_207 : decode cX7_atMarket 207 = .ok (.getfield 32, 3) := by decide +kernel
theorem dX7_atMarket_210 : decode cX7_atMarket 210 = .ok (.iload_n 1, 1) := by decide +kernel
theorem dX7_atMarket_211 : decode cX7_atMarket 211 = .ok (.iaload, 1) := by decide +kernel
theorem dX7_atMarket_212 : decode cX7_atMarket 212 = .ok (.iastore, 1) := by decide +kernel
theorem dX7_atMarket_213 : decode cX7_atMarket 213 = .ok (.aload_n 0, 1) := by decide +kernel
theorem dX7_atMarket_214 : decode cX7_atMarket 214 = .ok (.getfield 80, 3) := by decide +kernel
theorem dX7_atMarket_217 : decode cX7_atMarket 217 = .ok (.iload_n 1, 1) := by decide +kernel
theorem dX7_atMarket_218 : decode cX7_atMarket 218 = .ok (.iaload, 1) := by decide +kernel
theorem dX7_atMarket_219 : decode cX7_atMarket 219 = .ok (.ifCond .ne 8, 3) := by decide +kernel
theorem dX7_atMarket_222 : decode cX7_atMarket 222 = .ok (.aload_n 0, 1) := by decide +kernel
theorem dX7_atMarket_223 : decode cX7_atMarket 223 = .ok (.iload_n 1, 1) := by decide +kernel
theorem dX7_atMarket_224 : decode cX7_atMarket 224 = .ok (.invokevirtual 124, 3) := by decide +kernel
theorem dX7_atMarket_227 : decode cX7_atMarket 227 = .ok (.return_, 1) := by decide +kernel
theorem dX7_keeps_0 : decode cX7_keeps 0 = .ok (.aload_n 0, 1) := by decide +kernel
theorem dX7_keeps_1 : decode cX7_keeps 1 = .ok (.getfield 41, 3) := by decide +kernel
theorem dX7_keeps_4 : decode cX7_keeps 4 = .ok (.iload_n 1, 1) := by decide +kernel
theorem dX7_keeps_5 : decode cX7_keeps 5 = .ok (.dup2, 1) := by decide +kernel
theorem dX7_keeps_6 : decode cX7_keeps 6 = .ok (.iaload, 1) := by decide +kernel
theorem dX7_keeps_7 : decode cX7_keeps 7 = .ok (.aload_n 0, 1) := by decide +kernel
theorem dX7_keeps_8 : decode cX7_keeps 8 = .ok (.getfield 44, 3) := by decide +kernel
theorem dX7_keeps_11 : decode cX7_keeps 11 = .ok (.iload_n 1, 1) := by decide +kernel
theorem dX7_keeps_12 : decode cX7_keeps 12 = .ok (.iaload, 1) := by decide +kernel
theorem dX7_keeps_13 : decode cX7_keeps 13 = .ok (.iadd, 1) := by decide +kernel
theorem dX7_keeps_14 : decode cX7_keeps 14 = .ok (.iastore, 1) := by decide +kernel
theorem dX7_keeps_15 : decode cX7_keeps 15 = .ok (.aload_n 0, 1) := by decide +kernel
theorem dX7_keeps_16 : decode cX7_keeps 16 = .ok (.getfield 44, 3) := by decide +kernel
theorem dX7_keeps_19 : decode cX7_keeps 19 = .ok (.iload_n 1, 1) := by decide +kernel
theorem dX7_keeps_20 : decode cX7_keeps 20 = .ok (.iconst 0, 1) := by decide +kernel
theorem dX7_keeps_21 : decode cX7_keeps 21 = .ok (.iastore, 1) := by decide +kernel
theorem dX7_keeps_22 : decode cX7_keeps 22 = .ok (.aload_n 0, 1) := by decide +kernel
theorem dX7_keeps_23 : decode cX7_keeps 23 = .ok (.getfield 83, 3) := by decide +kernel
theorem dX7_keeps_26 : decode cX7_keeps 26 = .ok (.iload_n 1, 1) := by decide +kernel
theorem dX7_keeps_27 : decode cX7_keeps 27 = .ok (.iconst 0, 1) := by decide +kernel
theorem dX7_keeps_28 : decode cX7_keeps 28 = .ok (.iastore, 1) := by decide +kernel
theorem dX7_keeps_29 : decode cX7_keeps 29 = .ok (.return_, 1) := by decide +kernel
set_option maxRecDepth 20000 in
theorem ggX7_hour_X7_need : GoodIn wsX7_hour wsX7_need := goodIn_r _ [17, 10, 18, 11, 48, 49, 50, 51, 52, 53, 54, 55, 56, 57, 58, 59, 60, 61, 62, 63, 64, 65, 66, 67, 68, 69, 70, 71, 72, 73, 74, 75, 76, 77, 78, 79, 80, 81, 82] (by decide +kernel) (by decide +kernel)
set_option maxRecDepth 20000 in
theorem gX7_hour_X7_need : GoodIn wsX7_hour (wsV RX7 127 RX7 yX7_need wsX7_need) := goodIn_app (goodIn_of _ (by decide +kernel)) ggX7_hour_X7_need
set_option maxRecDepth 20000 in
theorem ggX7_hour_X7_atFull : GoodIn wsX7_hour wsX7_atFull := goodIn_r _ [22, 7, 10, 18, 23, 24, 25, 26, 27, 28, 29, 30, 31, 32, 16, 33, 34, 35, 36, 48, 49, 50, 51, 52, 53, 54, 55, 56, 57, 58, 59, 60, 61, 62, 63, 64, 65, 66, 67, 68, 69, 70, 71, 72, 73, 74, 75, 76, 77, 78, 79, 80, 81, 82] (by decide +kernel) (by decide +kernel)
set_option maxRecDepth 20000 in
theorem gX7_hour_X7_atFull : GoodIn wsX7_hour (wsV RX7 131 RX7 yX7_atFull wsX7_atFull) := goodIn_app (goodIn_of _ (by decide +kernel)) ggX7_hour_X7_atFull
set_option maxRecDepth 20000 in
theorem ggX7_hour_X7_loses : GoodIn wsX7_hour wsX7_loses := goodIn_r _ [33, 24, 34, 35, 23, 36, 48, 49, 50, 51, 52, 53, 54, 55, 56, 57, 58, 59, 60, 61, 62, 63, 64, 65, 66, 67, 68, 69, 70, 71, 72, 73, 74, 75, 76, 77, 78, 79, 80, 81, 82] (by decide +kernel) (by decide +kernel)
set_option maxRecDepth 20000 in
theorem gX7_hour_X7_loses : GoodIn wsX7_hour (wsV RX7 120 RX7 yX7_loses wsX7_loses) := goodIn_app (goodIn_of _ (by decide +kernel)) ggX7_hour_X7_loses
set_option maxRecDepth 20000 in
theorem ggX7_hour_X7_atMarket : GoodIn wsX7_hour wsX7_atMarket := goodIn_r _ [40, 7, 36, 23, 10, 18, 25, 28, 35, 41, 29, 34, 42, 11, 43, 44, 45, 46, 16, 47, 48, 49, 50, 51, 52, 53, 54, 55, 56, 57, 58, 59, 60, 61, 62, 63, 64, 65, 66, 67, 68, 69, 70, 71, 72, 73, 74, 75, 76, 77, 78, 79, 80, 81, 82] (by decide +kernel) (by decide +kernel)
set_option maxRecDepth 20000 in
theorem gX7_hour_X7_atMarket : GoodIn wsX7_hour (wsV RX7 134 RX7 yX7_atMarket wsX7_atMarket) := goodIn_app (goodIn_of _ (by decide +kernel)) ggX7_hour_X7_atMarket
theorem dX7_hour_0 : decode cX7_hour 0 = .ok (.aload_n 0, 1) := by decide +kernel
theorem dX7_hour_1 : decode cX7_hour 1 = .ok (.getfield 86, 3) := by decide +kernel
theorem dX7_hour_4 : decode cX7_hour 4 = .ok (.iload_n 1, 1) := by decide +kernel
theorem dX7_hour_5 : decode cX7_hour 5 = .ok (.aload_n 0, 1) := by decide +kernel
theorem dX7_hour_6 : decode cX7_hour 6 = .ok (.getfield 86, 3) := by decide +kernel
theorem dX7_hour_9 : decode cX7_hour 9 = .ok (.iload_n 1, 1) := by decide +kernel
theorem dX7_hour_10 : decode cX7_hour 10 = .ok (.baload, 1) := by decide +kernel
theorem dX7_hour_11 : decode cX7_hour 11 = .ok (.ifCond .ne 22, 3) := by decide +kernel
theorem dX7_hour_14 : decode cX7_hour 14 = .ok (.aload_n 0, 1) := by decide +kernel
theorem dX7_hour_15 : decode cX7_hour 15 = .ok (.getfield 20, 3) := by decide +kernel
theorem dX7_hour_18 : decode cX7_hour 18 = .ok (.iload_n 1, 1) := by decide +kernel
theorem dX7_hour_19 : decode cX7_hour 19 = .ok (.iaload, 1) := by decide +kernel
theorem dX7_hour_20 : decode cX7_hour 20 = .ok (.aload_n 0, 1) := by decide +kernel
theorem dX7_hour_21 : decode cX7_hour 21 = .ok (.getfield 116, 3) := by decide +kernel
theorem dX7_hour_24 : decode cX7_hour 24 = .ok (.isub, 1) := by decide +kernel
theorem dX7_hour_25 : decode cX7_hour 25 = .ok (.aload_n 0, 1) := by decide +kernel
theorem dX7_hour_26 : decode cX7_hour 26 = .ok (.iload_n 1, 1) := by decide +kernel
theorem dX7_hour_27 : decode cX7_hour 27 = .ok (.invokevirtual 127, 3) := by decide +kernel
theorem dX7_hour_30 : decode cX7_hour 30 = .ok (.if_icmp .gt 7, 3) := by decide +kernel
theorem dX7_hour_33 : decode cX7_hour 33 = .ok (.iconst 1, 1) := by decide +kernel
theorem dX7_hour_34 : decode cX7_hour 34 = .ok (.goto 4, 3) := by decide +kernel
theorem dX7_hour_37 : decode cX7_hour 37 = .ok (.iconst 0, 1) := by decide +kernel
theorem dX7_hour_38 : decode cX7_hour 38 = .ok (.bastore, 1) := by decide +kernel
theorem dX7_hour_39 : decode cX7_hour 39 = .ok (.aload_n 0, 1) := by decide +kernel
theorem dX7_hour_40 : decode cX7_hour 40 = .ok (.getfield 13, 3) := by decide +kernel
theorem dX7_hour_43 : decode cX7_hour 43 = .ok (.sipush 200, 3) := by decide +kernel
theorem dX7_hour_46 : decode cX7_hour 46 = .ok (.aload_n 0, 1) := by decide +kernel
theorem dX7_hour_47 : decode cX7_hour 47 = .ok (.getfield 23, 3) := by decide +kernel
theorem dX7_hour_50 : decode cX7_hour 50 = .ok (.iload_n 1, 1) := by decide +kernel
theorem dX7_hour_51 : decode cX7_hour 51 = .ok (.iaload, 1) := by decide +kernel
theorem dX7_hour_52 : decode cX7_hour 52 = .ok (.imul, 1) := by decide +kernel
theorem dX7_hour_53 : decode cX7_hour 53 = .ok (.aload_n 0, 1) := by decide +kernel
theorem dX7_hour_54 : decode cX7_hour 54 = .ok (.getfield 116, 3) := by decide +kernel
theorem dX7_hour_57 : decode cX7_hour 57 = .ok (.iadd, 1) := by decide +kernel
theorem dX7_hour_58 : decode cX7_hour 58 = .ok (.iaload, 1) := by decide +kernel
theorem dX7_hour_59 : decode cX7_hour 59 = .ok (.istore_n 2, 1) := by decide +kernel
theorem dX7_hour_60 : decode cX7_hour 60 = .ok (.aload_n 0, 1) := by decide +kernel
theorem dX7_hour_61 : decode cX7_hour 61 = .ok (.getfield 86, 3) := by decide +kernel
theorem dX7_hour_64 : decode cX7_hour 64 = .ok (.iload_n 1, 1) := by decide +kernel
theorem dX7_hour_65 : decode cX7_hour 65 = .ok (.baload, 1) := by decide +kernel
theorem dX7_hour_66 : decode cX7_hour 66 = .ok (.ifCond .eq 11, 3) := by decide +kernel
theorem dX7_hour_69 : decode cX7_hour 69 = .ok (.aload_n 0, 1) := by decide +kernel
theorem dX7_hour_70 : decode cX7_hour 70 = .ok (.iload_n 1, 1) := by decide +kernel
theorem dX7_hour_71 : decode cX7_hour 71 = .ok (.invokevirtual 131, 3) := by decide +kernel
theorem dX7_hour_74 : decode cX7_hour 74 = .ok (.goto 69, 3) := by decide +kernel
theorem dX7_hour_77 : decode cX7_hour 77 = .ok (.iload_n 2, 1) := by decide +kernel
theorem dX7_hour_78 : decode cX7_hour 78 = .ok (.iconst (-1), 1) := by decide +kernel
theorem dX7_hour_79 : decode cX7_hour 79 = .ok (.if_icmp .eq 13, 3) := by decide +kernel
theorem dX7_hour_82 : decode cX7_hour 82 = .ok (.iload_n 2, 1) := by decide +kernel
theorem dX7_hour_83 : decode cX7_hour 83 = .ok (.aload_n 0, 1) := by decide +kernel
theorem dX7_hour_84 : decode cX7_hour 84 = .ok (.getfield 26, 3) := by decide +kernel
theorem dX7_hour_87 : decode cX7_hour 87 = .ok (.iload_n 1, 1) := by decide +kernel
theorem dX7_hour_88 : decode cX7_hour 88 = .ok (.iaload, 1) := by decide +kernel
theorem dX7_hour_89 : decode cX7_hour 89 = .ok (.if_icmp .le 48, 3) := by decide +kernel
theorem dX7_hour_92 : decode cX7_hour 92 = .ok (.aload_n 0, 1) := by decide +kernel
theorem dX7_hour_93 : decode cX7_hour 93 = .ok (.getfield 68, 3) := by decide +kernel
theorem dX7_hour_96 : decode cX7_hour 96 = .ok (.iload_n 1, 1) := by decide +kernel
theorem dX7_hour_97 : decode cX7_hour 97 = .ok (.iaload, 1) := by decide +kernel
theorem dX7_hour_98 : decode cX7_hour 98 = .ok (.iconst 1, 1) := by decide +kernel
theorem dX7_hour_99 : decode cX7_hour 99 = .ok (.if_icmp .ne 25, 3) := by decide +kernel
theorem dX7_hour_102 : decode cX7_hour 102 = .ok (.aload_n 0, 1) := by decide +kernel
theorem dX7_hour_103 : decode cX7_hour 103 = .ok (.getfield 74, 3) := by decide +kernel
theorem dX7_hour_106 : decode cX7_hour 106 = .ok (.iload_n 1, 1) := by decide +kernel
theorem dX7_hour_107 : decode cX7_hour 107 = .ok (.dup2, 1) := by decide +kernel
theorem dX7_hour_108 : decode cX7_hour 108 = .ok (.iaload, 1) := by decide +kernel
theorem dX7_hour_109 : decode cX7_hour 109 = .ok (.iconst 1, 1) := by decide +kernel
theorem dX7_hour_110 : decode cX7_hour 110 = .ok (.iadd, 1) := by decide +kernel
theorem dX7_hour_111 : decode cX7_hour 111 = .ok (.iastore, 1) := by decide +kernel
theorem dX7_hour_112 : decode cX7_hour 112 = .ok (.aload_n 0, 1) := by decide +kernel
theorem dX7_hour_113 : decode cX7_hour 113 = .ok (.iload_n 1, 1) := by decide +kernel
theorem dX7_hour_114 : decode cX7_hour 114 = .ok (.invokevirtual 120, 3) := by decide +kernel
theorem dX7_hour_117 : decode cX7_hour 117 = .ok (.aload_n 0, 1) := by decide +kernel
theorem dX7_hour_118 : decode cX7_hour 118 = .ok (.getfield 68, 3) := by decide +kernel
theorem dX7_hour_121 : decode cX7_hour 121 = .ok (.iload_n 1, 1) := by decide +kernel
theorem dX7_hour_122 : decode cX7_hour 122 = .ok (.iconst 0, 1) := by decide +kernel
theorem dX7_hour_123 : decode cX7_hour 123 = .ok (.iastore, 1) := by decide +kernel
theorem dX7_hour_124 : decode cX7_hour 124 = .ok (.aload_n 0, 1) := by decide +kernel
theorem dX7_hour_125 : decode cX7_hour 125 = .ok (.getfield 59, 3) := by decide +kernel
theorem dX7_hour_128 : decode cX7_hour 128 = .ok (.iload_n 1, 1) := by decide +kernel
theorem dX7_hour_129 : decode cX7_hour 129 = .ok (.dup2, 1) := by decide +kernel
theorem dX7_hour_130 : decode cX7_hour 130 = .ok (.iaload, 1) := by decide +kernel
theorem dX7_hour_131 : decode cX7_hour 131 = .ok (.iconst 1, 1) := by decide +kernel
theorem dX7_hour_132 : decode cX7_hour 132 = .ok (.iadd, 1) := by decide +kernel
theorem dX7_hour_133 : decode cX7_hour 133 = .ok (.iastore, 1) := by decide +kernel
theorem dX7_hour_134 : decode cX7_hour 134 = .ok (.goto 9, 3) := by decide +kernel
theorem dX7_hour_137 : decode cX7_hour 137 = .ok (.aload_n 0, 1) := by decide +kernel
theorem dX7_hour_138 : decode cX7_hour 138 = .ok (.iload_n 1, 1) := by decide +kernel
theorem dX7_hour_139 : decode cX7_hour 139 = .ok (.iload_n 2, 1) := by decide +kernel
theorem dX7_hour_140 : decode cX7_hour 140 = .ok (.invokevirtual 134, 3) := by decide +kernel
theorem dX7_hour_143 : decode cX7_hour 143 = .ok (.aload_n 0, 1) := by decide +kernel
theorem dX7_hour_144 : decode cX7_hour 144 = .ok (.getfield 41, 3) := by decide +kernel
theorem dX7_hour_147 : decode cX7_hour 147 = .ok (.iload_n 1, 1) := by decide +kernel
theorem dX7_hour_148 : decode cX7_hour 148 = .ok (.iaload, 1) := by decide +kernel
theorem dX7_hour_149 : decode cX7_hour 149 = .ok (.aload_n 0, 1) := by decide +kernel
theorem dX7_hour_150 : decode cX7_hour 150 = .ok (.getfield 17, 3) := by decide +kernel
theorem dX7_hour_153 : decode cX7_hour 153 = .ok (.iload_n 1, 1) := by decide +kernel
theorem dX7_hour_154 : decode cX7_hour 154 = .ok (.iaload, 1) := by decide +kernel
theorem dX7_hour_155 : decode cX7_hour 155 = .ok (.if_icmp .ge 4, 3) := by decide +kernel
theorem dX7_hour_158 : decode cX7_hour 158 = .ok (.return_, 1) := by decide +kernel
theorem dX7_hour_159 : decode cX7_hour 159 = .ok (.aload_n 0, 1) := by decide +kernel
theorem dX7_hour_160 : decode cX7_hour 160 = .ok (.getfield 71, 3) := by decide +kernel
theorem dX7_hour_163 : decode cX7_hour 163 = .ok (.iload_n 1, 1) := by decide +kernel
theorem dX7_hour_164 : decode cX7_hour 164 = .ok (.aload_n 0, 1) := by decide +kernel
theorem dX7_hour_165 : decode cX7_hour 165 = .ok (.getfield 116, 3) := by decide +kernel
theorem dX7_hour_168 : decode cX7_hour 168 = .ok (.iconst 1, 1) := by decide +kernel
theorem dX7_hour_169 : decode cX7_hour 169 = .ok (.iadd, 1) := by decide +kernel
theorem dX7_hour_170 : decode cX7_hour 170 = .ok (.iastore, 1) := by decide +kernel
theorem dX7_hour_171 : decode cX7_hour 171 = .ok (.aload_n 0, 1) := by decide +kernel
theorem dX7_hour_172 : decode cX7_hour 172 = .ok (.getfield 68, 3) := by decide +kernel
theorem dX7_hour_175 : decode cX7_hour 175 = .ok (.iload_n 1, 1) := by decide +kernel
theorem dX7_hour_176 : decode cX7_hour 176 = .ok (.iconst 0, 1) := by decide +kernel
theorem dX7_hour_177 : decode cX7_hour 177 = .ok (.iastore, 1) := by decide +kernel
theorem dX7_hour_178 : decode cX7_hour 178 = .ok (.return_, 1) := by decide +kernel
set_option maxRecDepth 20000 in
theorem ggX7_go_X7_in : GoodIn wsX7_go wsX7_in := goodIn_r _ [7] (by decide +kernel) (by decide +kernel)
set_option maxRecDepth 20000 in
theorem gX7_go_X7_in : GoodIn wsX7_go (va_wsS RX7 112 yX7_in wsX7_in) := goodIn_app (goodIn_of _ (by decide +kernel)) ggX7_go_X7_in
set_option maxRecDepth 20000 in
theorem ggX7_go_X7_hour : GoodIn wsX7_go wsX7_hour := goodIn_r _ [11, 12, 13, 1, 14, 15, 16, 17, 18, 19, 20, 21, 3, 22, 23, 24, 6, 25, 26, 27, 28, 29, 30, 31, 32, 33, 34, 35, 36, 37, 38, 39, 40, 41, 42, 43, 44, 45, 46, 47, 48, 49, 50, 51, 52, 53, 54, 55, 56, 57, 58, 59, 60, 61, 62, 63, 64, 65, 66, 67, 68, 69, 70, 71, 72, 73, 74, 75, 76, 77, 78, 79, 80, 81, 82, 83, 84, 85, 86, 87, 88, 89, 90] (by decide +kernel) (by decide +kernel)
set_option maxRecDepth 20000 in
theorem gX7_go_X7_hour : GoodIn wsX7_go (wsV RX7 138 RX7 yX7_hour wsX7_hour) := goodIn_app (goodIn_of _ (by decide +kernel)) ggX7_go_X7_hour
theorem dX7_go_0 : decode cX7_go 0 = .ok (.iload_n 1, 1) := by decide +kernel
theorem dX7_go_1 : decode cX7_go 1 = .ok (.iconst 0, 1) := by decide +kernel
theorem dX7_go_2 : decode cX7_go 2 = .ok (.sipush 200, 3) := by decide +kernel
theorem dX7_go_5 : decode cX7_go 5 = .ok (.invokestatic 112, 3) := by decide +kernel
theorem dX7_go_8 : decode cX7_go 8 = .ok (.ifCond .ne 5, 3) := by decide +kernel
theorem dX7_go_11 : decode cX7_go 11 = .ok (.iconst (-1), 1) := by decide +kernel
theorem dX7_go_12 : decode cX7_go 12 = .ok (.ireturn, 1) := by decide +kernel
theorem dX7_go_13 : decode cX7_go 13 = .ok (.iconst 0, 1) := by decide +kernel
theorem dX7_go_14 : decode cX7_go 14 = .ok (.istore_n 2, 1) := by decide +kernel
theorem dX7_go_15 : decode cX7_go 15 = .ok (.iload_n 2, 1) := by decide +kernel
theorem dX7_go_16 : decode cX7_go 16 = .ok (.iload_n 1, 1) := by decide +kernel
theorem dX7_go_17 : decode cX7_go 17 = .ok (.if_icmp .ge 60, 3) := by decide +kernel
theorem dX7_go_20 : decode cX7_go 20 = .ok (.aload_n 0, 1) := by decide +kernel
theorem dX7_go_21 : decode cX7_go 21 = .ok (.getfield 116, 3) := by decide +kernel
theorem dX7_go_24 : decode cX7_go 24 = .ok (.sipush 200, 3) := by decide +kernel
theorem dX7_go_27 : decode cX7_go 27 = .ok (.if_icmp .ge 50, 3) := by decide +kernel
theorem dX7_go_30 : decode cX7_go 30 = .ok (.iconst 0, 1) := by decide +kernel
theorem dX7_go_31 : decode cX7_go 31 = .ok (.istore_n 3, 1) := by decide +kernel
theorem dX7_go_32 : decode cX7_go 32 = .ok (.iload_n 3, 1) := by decide +kernel
theorem dX7_go_33 : decode cX7_go 33 = .ok (.aload_n 0, 1) := by decide +kernel
theorem dX7_go_34 : decode cX7_go 34 = .ok (.getfield 109, 3) := by decide +kernel
theorem dX7_go_37 : decode cX7_go 37 = .ok (.if_icmp .ge 24, 3) := by decide +kernel
theorem dX7_go_40 : decode cX7_go 40 = .ok (.aload_n 0, 1) := by decide +kernel
theorem dX7_go_41 : decode cX7_go 41 = .ok (.getfield 71, 3) := by decide +kernel
theorem dX7_go_44 : decode cX7_go 44 = .ok (.iload_n 3, 1) := by decide +kernel
theorem dX7_go_45 : decode cX7_go 45 = .ok (.iaload, 1) := by decide +kernel
theorem dX7_go_46 : decode cX7_go 46 = .ok (.iconst (-1), 1) := by decide +kernel
theorem dX7_go_47 : decode cX7_go 47 = .ok (.if_icmp .ne 8, 3) := by decide +kernel
theorem dX7_go_50 : decode cX7_go 50 = .ok (.aload_n 0, 1) := by decide +kernel
theorem dX7_go_51 : decode cX7_go 51 = .ok (.iload_n 3, 1) := by decide +kernel
theorem dX7_go_52 : decode cX7_go 52 = .ok (.invokevirtual 138, 3) := by decide +kernel
theorem dX7_go_55 : decode cX7_go 55 = .ok (.iinc 3 1, 3) := by decide +kernel
theorem dX7_go_58 : decode cX7_go 58 = .ok (.goto (-26), 3) := by decide +kernel
theorem dX7_go_61 : decode cX7_go 61 = .ok (.aload_n 0, 1) := by decide +kernel
theorem dX7_go_62 : decode cX7_go 62 = .ok (.dup, 1) := by decide +kernel
theorem dX7_go_63 : decode cX7_go 63 = .ok (.getfield 116, 3) := by decide +kernel
theorem dX7_go_66 : decode cX7_go 66 = .ok (.iconst 1, 1) := by decide +kernel
theorem dX7_go_67 : decode cX7_go 67 = .ok (.iadd, 1) := by decide +kernel
theorem dX7_go_68 : decode cX7_go 68 = .ok (.putfield 116, 3) := by decide +kernel
theorem dX7_go_71 : decode cX7_go 71 = .ok (.iinc 2 1, 3) := by decide +kernel
theorem dX7_go_74 : decode cX7_go 74 = .ok (.goto (-59), 3) := by decide +kernel
theorem dX7_go_77 : decode cX7_go 77 = .ok (.aload_n 0, 1) := by decide +kernel
theorem dX7_go_78 : decode cX7_go 78 = .ok (.getfield 116, 3) := by decide +kernel
theorem dX7_go_81 : decode cX7_go 81 = .ok (.ireturn, 1) := by decide +kernel
set_option maxRecDepth 20000 in
theorem ggX7_told_X7_isJob : GoodIn wsX7_told wsX7_isJob := goodIn_r _ [17, 18, 19, 20, 16, 21, 28, 29, 30, 31, 32, 33, 34, 35, 36, 37, 38, 39, 40, 41, 42, 43, 44, 45, 46, 47, 48, 49, 50, 51, 52, 53, 54, 55, 56, 57, 58, 59, 60, 61, 62] (by decide +kernel) (by decide +kernel)
set_option maxRecDepth 20000 in
theorem gX7_told_X7_isJob : GoodIn wsX7_told (wsV RX7 141 RX7 yX7_isJob wsX7_isJob) := goodIn_app (goodIn_of _ (by decide +kernel)) ggX7_told_X7_isJob
set_option maxRecDepth 20000 in
theorem ggX7_told_X7_need : GoodIn wsX7_told wsX7_need := goodIn_r _ [25, 1, 26, 27, 28, 29, 30, 31, 32, 33, 34, 35, 36, 37, 38, 39, 40, 41, 42, 43, 44, 45, 46, 47, 48, 49, 50, 51, 52, 53, 54, 55, 56, 57, 58, 59, 60, 61, 62] (by decide +kernel) (by decide +kernel)
set_option maxRecDepth 20000 in
theorem gX7_told_X7_need : GoodIn wsX7_told (wsV RX7 127 RX7 yX7_need wsX7_need) := goodIn_app (goodIn_of _ (by decide +kernel)) ggX7_told_X7_need
theorem dX7_told_0 : decode cX7_told 0 = .ok (.aload_n 0, 1) := by decide +kernel
theorem dX7_told_1 : decode cX7_told 1 = .ok (.iload_n 1, 1) := by decide +kernel
theorem dX7_told_2 : decode cX7_told 2 = .ok (.invokevirtual 141, 3) := by decide +kernel
theorem dX7_told_5 : decode cX7_told 5 = .ok (.ifCond .ne 5, 3) := by decide +kernel
theorem dX7_told_8 : decode cX7_told 8 = .ok (.iconst (-1), 1) := by decide +kernel
theorem dX7_told_9 : decode cX7_told 9 = .ok (.ireturn, 1) := by decide +kernel
theorem dX7_told_10 : decode cX7_told 10 = .ok (.iload_n 2, 1) := by decide +kernel
theorem dX7_told_11 : decode cX7_told 11 = .ok (.tableswitch 155 0 12 #[65, 72, 79, 86, 93, 100, 107, 114, 121, 128, 135, 142, 148], 65) := by decide +kernel
theorem dX7_told_76 : decode cX7_told 76 = .ok (.aload_n 0, 1) := by decide +kernel
theorem dX7_told_77 : decode cX7_told 77 = .ok (.getfield 41, 3) := by decide +kernel
theorem dX7_told_80 : decode cX7_told 80 = .ok (.iload_n 1, 1) := by decide +kernel
theorem dX7_told_81 : decode cX7_told 81 = .ok (.iaload, 1) := by decide +kernel
theorem dX7_told_82 : decode cX7_told 82 = .ok (.ireturn, 1) := by decide +kernel
theorem dX7_told_83 : decode cX7_told 83 = .ok (.aload_n 0, 1) := by decide +kernel
theorem dX7_told_84 : decode cX7_told 84 = .ok (.getfield 44, 3) := by decide +kernel
theorem dX7_told_87 : decode cX7_told 87 = .ok (.iload_n 1, 1) := by decide +kernel
theorem dX7_told_88 : decode cX7_told 88 = .ok (.iaload, 1) := by decide +kernel
theorem dX7_told_89 : decode cX7_told 89 = .ok (.ireturn, 1) := by decide +kernel
theorem dX7_told_90 : decode cX7_told 90 = .ok (.aload_n 0, 1) := by decide +kernel
theorem dX7_told_91 : decode cX7_told 91 = .ok (.getfield 47, 3) := by decide +kernel
theorem dX7_told_94 : decode cX7_told 94 = .ok (.iload_n 1, 1) := by decide +kernel
theorem dX7_told_95 : decode cX7_told 95 = .ok (.iaload, 1) := by decide +kernel
theorem dX7_told_96 : decode cX7_told 96 = .ok (.ireturn, 1) := by decide +kernel
theorem dX7_told_97 : decode cX7_told 97 = .ok (.aload_n 0, 1) := by decide +kernel
theorem dX7_told_98 : decode cX7_told 98 = .ok (.getfield 50, 3) := by decide +kernel
theorem dX7_told_101 : decode cX7_told 101 = .ok (.iload_n 1, 1) := by decide +kernel
theorem dX7_told_102 : decode cX7_told 102 = .ok (.iaload, 1) := by decide +kernel
theorem dX7_told_103 : decode cX7_told 103 = .ok (.ireturn, 1) := by decide +kernel
theorem dX7_told_104 : decode cX7_told 104 = .ok (.aload_n 0, 1) := by decide +kernel
theorem dX7_told_105 : decode cX7_told 105 = .ok (.getfield 53, 3) := by decide +kernel
theorem dX7_told_108 : decode cX7_told 108 = .ok (.iload_n 1, 1) := by decide +kernel
theorem dX7_told_109 : decode cX7_told 109 = .ok (.iaload, 1) := by decide +kernel
theorem dX7_told_110 : decode cX7_told 110 = .ok (.ireturn, 1) := by decide +kernel
theorem dX7_told_111 : decode cX7_told 111 = .ok (.aload_n 0, 1) := by decide +kernel
theorem dX7_told_112 : decode cX7_told 112 = .ok (.getfield 56, 3) := by decide +kernel
theorem dX7_told_115 : decode cX7_told 115 = .ok (.iload_n 1, 1) := by decide +kernel
theorem dX7_told_116 : decode cX7_told 116 = .ok (.iaload, 1) := by decide +kernel
theorem dX7_told_117 : decode cX7_told 117 = .ok (.ireturn, 1) := by decide +kernel
theorem dX7_told_118 : decode cX7_told 118 = .ok (.aload_n 0, 1) := by decide +kernel
theorem dX7_told_119 : decode cX7_told 119 = .ok (.getfield 59, 3) := by decide +kernel
theorem dX7_told_122 : decode cX7_told 122 = .ok (.iload_n 1, 1) := by decide +kernel
theorem dX7_told_123 : decode cX7_told 123 = .ok (.iaload, 1) := by decide +kernel
theorem dX7_told_124 : decode cX7_told 124 = .ok (.ireturn, 1) := by decide +kernel
theorem dX7_told_125 : decode cX7_told 125 = .ok (.aload_n 0, 1) := by decide +kernel
theorem dX7_told_126 : decode cX7_told 126 = .ok (.getfield 62, 3) := by decide +kernel
theorem dX7_told_129 : decode cX7_told 129 = .ok (.iload_n 1, 1) := by decide +kernel
theorem dX7_told_130 : decode cX7_told 130 = .ok (.iaload, 1) := by decide +kernel
theorem dX7_told_131 : decode cX7_told 131 = .ok (.ireturn, 1) := by decide +kernel
theorem dX7_told_132 : decode cX7_told 132 = .ok (.aload_n 0, 1) := by decide +kernel
theorem dX7_told_133 : decode cX7_told 133 = .ok (.getfield 65, 3) := by decide +kernel
theorem dX7_told_136 : decode cX7_told 136 = .ok (.iload_n 1, 1) := by decide +kernel
theorem dX7_told_137 : decode cX7_told 137 = .ok (.iaload, 1) := by decide +kernel
theorem dX7_told_138 : decode cX7_told 138 = .ok (.ireturn, 1) := by decide +kernel
theorem dX7_told_139 : decode cX7_told 139 = .ok (.aload_n 0, 1) := by decide +kernel
theorem dX7_told_140 : decode cX7_told 140 = .ok (.getfield 68, 3) := by decide +kernel
theorem dX7_told_143 : decode cX7_told 143 = .ok (.iload_n 1, 1) := by decide +kernel
theorem dX7_told_144 : decode cX7_told 144 = .ok (.iaload, 1) := by decide +kernel
theorem dX7_told_145 : decode cX7_told 145 = .ok (.ireturn, 1) := by decide +kernel
theorem dX7_told_146 : decode cX7_told 146 = .ok (.aload_n 0, 1) := by decide +kernel
theorem dX7_told_147 : decode cX7_told 147 = .ok (.getfield 71, 3) := by decide +kernel
theorem dX7_told_150 : decode cX7_told 150 = .ok (.iload_n 1, 1) := by decide +kernel
theorem dX7_told_151 : decode cX7_told 151 = .ok (.iaload, 1) := by decide +kernel
theorem dX7_told_152 : decode cX7_told 152 = .ok (.ireturn, 1) := by decide +kernel
theorem dX7_told_153 : decode cX7_told 153 = .ok (.aload_n 0, 1) := by decide +kernel
theorem dX7_told_154 : decode cX7_told 154 = .ok (.iload_n 1, 1) := by decide +kernel
theorem dX7_told_155 : decode cX7_told 155 = .ok (.invokevirtual 127, 3) := by decide +kernel
theorem dX7_told_158 : decode cX7_told 158 = .ok (.ireturn, 1) := by decide +kernel
theorem dX7_told_159 : decode cX7_told 159 = .ok (.aload_n 0, 1) := by decide +kernel
theorem dX7_told_160 : decode cX7_told 160 = .ok (.getfield 74, 3) := by decide +kernel
theorem dX7_told_163 : decode cX7_told 163 = .ok (.iload_n 1, 1) := by decide +kernel
theorem dX7_told_164 : decode cX7_told 164 = .ok (.iaload, 1) := by decide +kernel
theorem dX7_told_165 : decode cX7_told 165 = .ok (.ireturn, 1) := by decide +kernel
theorem dX7_told_166 : decode cX7_told 166 = .ok (.iconst (-1), 1) := by decide +kernel
theorem dX7_told_167 : decode cX7_told 167 = .ok (.ireturn, 1) := by decide +kernel
set_option maxRecDepth 20000 in
theorem ggX7_isTry_X7_in : GoodIn wsX7_isTry wsX7_in := goodIn_r _ [4] (by decide +kernel) (by decide +kernel)
set_option maxRecDepth 20000 in
theorem gX7_isTry_X7_in : GoodIn wsX7_isTry (va_wsS RX7 112 yX7_in wsX7_in) := goodIn_app (goodIn_of _ (by decide +kernel)) ggX7_isTry_X7_in
theorem dX7_isTry_0 : decode cX7_isTry 0 = .ok (.iload_n 0, 1) := by decide +kernel
theorem dX7_isTry_1 : decode cX7_isTry 1 = .ok (.iconst 1, 1) := by decide +kernel
theorem dX7_isTry_2 : decode cX7_isTry 2 = .ok (.bipush 10, 2) := by decide +kernel
theorem dX7_isTry_4 : decode cX7_isTry 4 = .ok (.invokestatic 112, 3) := by decide +kernel
theorem dX7_isTry_7 : decode cX7_isTry 7 = .ok (.ifCond .eq 26, 3) := by decide +kernel
theorem dX7_isTry_10 : decode cX7_isTry 10 = .ok (.iload_n 1, 1) := by decide +kernel
theorem dX7_isTry_11 : decode cX7_isTry 11 = .ok (.iconst 0, 1) := by decide +kernel
theorem dX7_isTry_12 : decode cX7_isTry 12 = .ok (.iconst 2, 1) := by decide +kernel
theorem dX7_isTry_13 : decode cX7_isTry 13 = .ok (.invokestatic 112, 3) := by decide +kernel
theorem dX7_isTry_16 : decode cX7_isTry 16 = .ok (.ifCond .eq 17, 3) := by decide +kernel
theorem dX7_isTry_19 : decode cX7_isTry 19 = .ok (.iload_n 2, 1) := by decide +kernel
theorem dX7_isTry_20 : decode cX7_isTry 20 = .ok (.iconst 2, 1) := by decide +kernel
theorem dX7_isTry_21 : decode cX7_isTry 21 = .ok (.bipush 10, 2) := by decide +kernel
theorem dX7_isTry_23 : decode cX7_isTry 23 = .ok (.invokestatic 112, 3) := by decide +kernel
theorem dX7_isTry_26 : decode cX7_isTry 26 = .ok (.ifCond .eq 7, 3) := by decide +kernel
theorem dX7_isTry_29 : decode cX7_isTry 29 = .ok (.iconst 1, 1) := by decide +kernel
theorem dX7_isTry_30 : decode cX7_isTry 30 = .ok (.goto 4, 3) := by decide +kernel
theorem dX7_isTry_33 : decode cX7_isTry 33 = .ok (.iconst 0, 1) := by decide +kernel
theorem dX7_isTry_34 : decode cX7_isTry 34 = .ok (.ireturn, 1) := by decide +kernel
theorem dX7_power_0 : decode cX7_power 0 = .ok (.lconst 1, 1) := by decide +kernel
theorem dX7_power_1 : decode cX7_power 1 = .ok (.lstore_n 2, 1) := by decide +kernel
theorem dX7_power_2 : decode cX7_power 2 = .ok (.iconst 0, 1) := by decide +kernel
theorem dX7_power_3 : decode cX7_power 3 = .ok (.istore 4, 2) := by decide +kernel
theorem dX7_power_5 : decode cX7_power 5 = .ok (.iload 4, 2) := by decide +kernel
theorem dX7_power_7 : decode cX7_power 7 = .ok (.iload_n 1, 1) := by decide +kernel
theorem dX7_power_8 : decode cX7_power 8 = .ok (.if_icmp .ge 14, 3) := by decide +kernel
theorem dX7_power_11 : decode cX7_power 11 = .ok (.lload_n 2, 1) := by decide +kernel
theorem dX7_power_12 : decode cX7_power 12 = .ok (.iload_n 0, 1) := by decide +kernel
theorem dX7_power_13 : decode cX7_power 13 = .ok (.i2l, 1) := by decide +kernel
theorem dX7_power_14 : decode cX7_power 14 = .ok (.lmul, 1) := by decide +kernel
theorem dX7_power_15 : decode cX7_power 15 = .ok (.lstore_n 2, 1) := by decide +kernel
theorem dX7_power_16 : decode cX7_power 16 = .ok (.iinc 4 1, 3) := by decide +kernel
theorem dX7_power_19 : decode cX7_power 19 = .ok (.goto (-14), 3) := by decide +kernel
theorem dX7_power_22 : decode cX7_power 22 = .ok (.lload_n 2, 1) := by decide +kernel
theorem dX7_power_23 : decode cX7_power 23 = .ok (.lreturn, 1) := by decide +kernel
set_option maxRecDepth 20000 in
theorem ggX7_tries_X7_power : GoodIn wsX7_tries wsX7_power := goodIn_r _ [4] (by decide +kernel) (by decide +kernel)
set_option maxRecDepth 20000 in
theorem gX7_tries_X7_power : GoodIn wsX7_tries (va_wsS RX7 145 yX7_power wsX7_power) := goodIn_app (goodIn_of _ (by decide +kernel)) ggX7_tries_X7_power
theorem dX7_tries_0 : decode cX7_tries 0 = .ok (.iload_n 1, 1) := by decide +kernel
theorem dX7_tries_1 : decode cX7_tries 1 = .ok (.i2l, 1) := by decide +kernel
theorem dX7_tries_2 : decode cX7_tries 2 = .ok (.iload_n 1, 1) := by decide +kernel
theorem dX7_tries_3 : decode cX7_tries 3 = .ok (.iload_n 0, 1) := by decide +kernel
theorem dX7_tries_4 : decode cX7_tries 4 = .ok (.invokestatic 145, 3) := by decide +kernel
theorem dX7_tries_7 : decode cX7_tries 7 = .ok (.iload_n 1, 1) := by decide +kernel
theorem dX7_tries_8 : decode cX7_tries 8 = .ok (.iconst 1, 1) := by decide +kernel
theorem dX7_tries_9 : decode cX7_tries 9 = .ok (.isub, 1) := by decide +kernel
theorem dX7_tries_10 : decode cX7_tries 10 = .ok (.iload_n 0, 1) := by decide +kernel
theorem dX7_tries_11 : decode cX7_tries 11 = .ok (.invokestatic 145, 3) := by decide +kernel
theorem dX7_tries_14 : decode cX7_tries 14 = .ok (.lsub, 1) := by decide +kernel
theorem dX7_tries_15 : decode cX7_tries 15 = .ok (.lmul, 1) := by decide +kernel
theorem dX7_tries_16 : decode cX7_tries 16 = .ok (.iload_n 1, 1) := by decide +kernel
theorem dX7_tries_17 : decode cX7_tries 17 = .ok (.iconst 1, 1) := by decide +kernel
theorem dX7_tries_18 : decode cX7_tries 18 = .ok (.isub, 1) := by decide +kernel
theorem dX7_tries_19 : decode cX7_tries 19 = .ok (.iload_n 2, 1) := by decide +kernel
theorem dX7_tries_20 : decode cX7_tries 20 = .ok (.iload_n 0, 1) := by decide +kernel
theorem dX7_tries_21 : decode cX7_tries 21 = .ok (.isub, 1) := by decide +kernel
theorem dX7_tries_22 : decode cX7_tries 22 = .ok (.invokestatic 145, 3) := by decide +kernel
theorem dX7_tries_25 : decode cX7_tries 25 = .ok (.lmul, 1) := by decide +kernel
theorem dX7_tries_26 : decode cX7_tries 26 = .ok (.lreturn, 1) := by decide +kernel
set_option maxRecDepth 20000 in
theorem ggX7_pieces_X7_tries : GoodIn wsX7_pieces wsX7_tries := goodIn_r _ [4, 5, 6, 3, 7] (by decide +kernel) (by decide +kernel)
set_option maxRecDepth 20000 in
theorem gX7_pieces_X7_tries : GoodIn wsX7_pieces (va_wsS RX7 149 yX7_tries wsX7_tries) := goodIn_app (goodIn_of _ (by decide +kernel)) ggX7_pieces_X7_tries
theorem dX7_pieces_0 : decode cX7_pieces 0 = .ok (.iload_n 0, 1) := by decide +kernel
theorem dX7_pieces_1 : decode cX7_pieces 1 = .ok (.iload_n 1, 1) := by decide +kernel
theorem dX7_pieces_2 : decode cX7_pieces 2 = .ok (.iadd, 1) := by decide +kernel
theorem dX7_pieces_3 : decode cX7_pieces 3 = .ok (.istore 4, 2) := by decide +kernel
theorem dX7_pieces_5 : decode cX7_pieces 5 = .ok (.lconst 0, 1) := by decide +kernel
theorem dX7_pieces_6 : decode cX7_pieces 6 = .ok (.lstore 5, 2) := by decide +kernel
theorem dX7_pieces_8 : decode cX7_pieces 8 = .ok (.iload_n 0, 1) := by decide +kernel
theorem dX7_pieces_9 : decode cX7_pieces 9 = .ok (.istore 7, 2) := by decide +kernel
theorem dX7_pieces_11 : decode cX7_pieces 11 = .ok (.iload 7, 2) := by decide +kernel
theorem dX7_pieces_13 : decode cX7_pieces 13 = .ok (.ifCond .le 37, 3) := by decide +kernel
theorem dX7_pieces_16 : decode cX7_pieces 16 = .ok (.lload 5, 2) := by decide +kernel
theorem dX7_pieces_18 : decode cX7_pieces 18 = .ok (.iload 7, 2) := by decide +kernel
theorem dX7_pieces_20 : decode cX7_pieces 20 = .ok (.iload_n 3, 1) := by decide +kernel
theorem dX7_pieces_21 : decode cX7_pieces 21 = .ok (.if_icmp .ge 8, 3) := by decide +kernel
theorem dX7_pieces_24 : decode cX7_pieces 24 = .ok (.iload 7, 2) := by decide +kernel
theorem dX7_pieces_26 : decode cX7_pieces 26 = .ok (.goto 4, 3) := by decide +kernel
theorem dX7_pieces_29 : decode cX7_pieces 29 = .ok (.iload_n 3, 1) := by decide +kernel
theorem dX7_pieces_30 : decode cX7_pieces 30 = .ok (.iload_n 1, 1) := by decide +kernel
theorem dX7_pieces_31 : decode cX7_pieces 31 = .ok (.iadd, 1) := by decide +kernel
theorem dX7_pieces_32 : decode cX7_pieces 32 = .ok (.iload_n 2, 1) := by decide +kernel
theorem dX7_pieces_33 : decode cX7_pieces 33 = .ok (.iload 4, 2) := by decide +kernel
theorem dX7_pieces_35 : decode cX7_pieces 35 = .ok (.invokestatic 149, 3) := by decide +kernel
theorem dX7_pieces_38 : decode cX7_pieces 38 = .ok (.ladd, 1) := by decide +kernel
theorem dX7_pieces_39 : decode cX7_pieces 39 = .ok (.lstore 5, 2) := by decide +kernel
theorem dX7_pieces_41 : decode cX7_pieces 41 = .ok (.iload 7, 2) := by decide +kernel
theorem dX7_pieces_43 : decode cX7_pieces 43 = .ok (.iload_n 3, 1) := by decide +kernel
theorem dX7_pieces_44 : decode cX7_pieces 44 = .ok (.isub, 1) := by decide +kernel
theorem dX7_pieces_45 : decode cX7_pieces 45 = .ok (.istore 7, 2) := by decide +kernel
theorem dX7_pieces_47 : decode cX7_pieces 47 = .ok (.goto (-36), 3) := by decide +kernel
theorem dX7_pieces_50 : decode cX7_pieces 50 = .ok (.lload 5, 2) := by decide +kernel
theorem dX7_pieces_52 : decode cX7_pieces 52 = .ok (.lreturn, 1) := by decide +kernel
set_option maxRecDepth 20000 in
theorem ggX7_span_X7_isTry : GoodIn wsX7_span wsX7_isTry := goodIn_r _ [4, 5, 6, 3, 7] (by decide +kernel) (by decide +kernel)
set_option maxRecDepth 20000 in
theorem gX7_span_X7_isTry : GoodIn wsX7_span (va_wsS RX7 153 yX7_isTry wsX7_isTry) := goodIn_app (goodIn_of _ (by decide +kernel)) ggX7_span_X7_isTry
set_option maxRecDepth 20000 in
theorem ggX7_span_X7_pieces : GoodIn wsX7_span wsX7_pieces := goodIn_r _ [10, 11, 12, 3, 13, 14, 15, 16] (by decide +kernel) (by decide +kernel)
set_option maxRecDepth 20000 in
theorem gX7_span_X7_pieces : GoodIn wsX7_span (va_wsS RX7 156 yX7_pieces wsX7_pieces) := goodIn_app (goodIn_of _ (by decide +kernel)) ggX7_span_X7_pieces
theorem dX7_span_0 : decode cX7_span 0 = .ok (.iload_n 1, 1) := by decide +kernel
theorem dX7_span_1 : decode cX7_span 1 = .ok (.iload_n 2, 1) := by decide +kernel
theorem dX7_span_2 : decode cX7_span 2 = .ok (.iload_n 3, 1) := by decide +kernel
theorem dX7_span_3 : decode cX7_span 3 = .ok (.invokestatic 153, 3) := by decide +kernel
theorem dX7_span_6 : decode cX7_span 6 = .ok (.ifCond .ne 5, 3) := by decide +kernel
theorem dX7_span_9 : decode cX7_span 9 = .ok (.iconst (-1), 1) := by decide +kernel
theorem dX7_span_10 : decode cX7_span 10 = .ok (.ireturn, 1) := by decide +kernel
theorem dX7_span_11 : decode cX7_span 11 = .ok (.iconst 1, 1) := by decide +kernel
theorem dX7_span_12 : decode cX7_span 12 = .ok (.istore 4, 2) := by decide +kernel
theorem dX7_span_14 : decode cX7_span 14 = .ok (.iconst 2, 1) := by decide +kernel
theorem dX7_span_15 : decode cX7_span 15 = .ok (.istore 5, 2) := by decide +kernel
theorem dX7_span_17 : decode cX7_span 17 = .ok (.iload 5, 2) := by decide +kernel
theorem dX7_span_19 : decode cX7_span 19 = .ok (.iload_n 1, 1) := by decide +kernel
theorem dX7_span_20 : decode cX7_span 20 = .ok (.if_icmp .gt 33, 3) := by decide +kernel
theorem dX7_span_23 : decode cX7_span 23 = .ok (.iload_n 1, 1) := by decide +kernel
theorem dX7_span_24 : decode cX7_span 24 = .ok (.iload_n 2, 1) := by decide +kernel
theorem dX7_span_25 : decode cX7_span 25 = .ok (.iload_n 3, 1) := by decide +kernel
theorem dX7_span_26 : decode cX7_span 26 = .ok (.iload 5, 2) := by decide +kernel
theorem dX7_span_28 : decode cX7_span 28 = .ok (.invokestatic 156, 3) := by decide +kernel
theorem dX7_span_31 : decode cX7_span 31 = .ok (.iload_n 1, 1) := by decide +kernel
theorem dX7_span_32 : decode cX7_span 32 = .ok (.iload_n 2, 1) := by decide +kernel
theorem dX7_span_33 : decode cX7_span 33 = .ok (.iload_n 3, 1) := by decide +kernel
theorem dX7_span_34 : decode cX7_span 34 = .ok (.iload 4, 2) := by decide +kernel
theorem dX7_span_36 : decode cX7_span 36 = .ok (.invokestatic 156, 3) := by decide +kernel
theorem dX7_span_39 : decode cX7_span 39 = .ok (.lcmp, 1) := by decide +kernel
theorem dX7_span_40 : decode cX7_span 40 = .ok (.ifCond .ge 7, 3) := by decide +kernel
theorem dX7_span_43 : decode cX7_span 43 = .ok (.iload 5, 2) := by decide +kernel
theorem dX7_span_45 : decode cX7_span 45 = .ok (.istore 4, 2) := by decide +kernel
theorem dX7_span_47 : decode cX7_span 47 = .ok (.iinc 5 1, 3) := by decide +kernel
theorem dX7_span_50 : decode cX7_span 50 = .ok (.goto (-33), 3) := by decide +kernel
theorem dX7_span_53 : decode cX7_span 53 = .ok (.iload 4, 2) := by decide +kernel
theorem dX7_span_55 : decode cX7_span 55 = .ok (.ireturn, 1) := by decide +kernel
set_option maxRecDepth 20000 in
theorem ggX7_mean_X7_isTry : GoodIn wsX7_mean wsX7_isTry := goodIn_r _ [5, 6, 7, 4, 8] (by decide +kernel) (by decide +kernel)
set_option maxRecDepth 20000 in
theorem gX7_mean_X7_isTry : GoodIn wsX7_mean (va_wsS RX7 153 yX7_isTry wsX7_isTry) := goodIn_app (goodIn_of _ (by decide +kernel)) ggX7_mean_X7_isTry
set_option maxRecDepth 20000 in
theorem ggX7_mean_X7_in : GoodIn wsX7_mean wsX7_in := goodIn_r _ [8] (by decide +kernel) (by decide +kernel)
set_option maxRecDepth 20000 in
theorem gX7_mean_X7_in : GoodIn wsX7_mean (va_wsS RX7 112 yX7_in wsX7_in) := goodIn_app (goodIn_of _ (by decide +kernel)) ggX7_mean_X7_in
set_option maxRecDepth 20000 in
theorem ggX7_mean_X7_pieces : GoodIn wsX7_mean wsX7_pieces := goodIn_r _ [11, 12, 13, 4, 14, 15, 16, 17] (by decide +kernel) (by decide +kernel)
set_option maxRecDepth 20000 in
theorem gX7_mean_X7_pieces : GoodIn wsX7_mean (va_wsS RX7 156 yX7_pieces wsX7_pieces) := goodIn_app (goodIn_of _ (by decide +kernel)) ggX7_mean_X7_pieces
set_option maxRecDepth 20000 in
theorem ggX7_mean_X7_power : GoodIn wsX7_mean wsX7_power := goodIn_r _ [17] (by decide +kernel) (by decide +kernel)
set_option maxRecDepth 20000 in
theorem gX7_mean_X7_power : GoodIn wsX7_mean (va_wsS RX7 145 yX7_power wsX7_power) := goodIn_app (goodIn_of _ (by decide +kernel)) ggX7_mean_X7_power
theorem dX7_mean_0 : decode cX7_mean 0 = .ok (.iload_n 1, 1) := by decide +kernel
theorem dX7_mean_1 : decode cX7_mean 1 = .ok (.iload_n 2, 1) := by decide +kernel
theorem dX7_mean_2 : decode cX7_mean 2 = .ok (.iload_n 3, 1) := by decide +kernel
theorem dX7_mean_3 : decode cX7_mean 3 = .ok (.invokestatic 153, 3) := by decide +kernel
theorem dX7_mean_6 : decode cX7_mean 6 = .ok (.ifCond .eq 23, 3) := by decide +kernel
theorem dX7_mean_9 : decode cX7_mean 9 = .ok (.iload 4, 2) := by decide +kernel
theorem dX7_mean_11 : decode cX7_mean 11 = .ok (.iconst 1, 1) := by decide +kernel
theorem dX7_mean_12 : decode cX7_mean 12 = .ok (.iload_n 1, 1) := by decide +kernel
theorem dX7_mean_13 : decode cX7_mean 13 = .ok (.invokestatic 112, 3) := by decide +kernel
theorem dX7_mean_16 : decode cX7_mean 16 = .ok (.ifCond .eq 13, 3) := by decide +kernel
theorem dX7_mean_19 : decode cX7_mean 19 = .ok (.iload 5, 2) := by decide +kernel
theorem dX7_mean_21 : decode cX7_mean 21 = .ok (.iconst 0, 1) := by decide +kernel
theorem dX7_mean_22 : decode cX7_mean 22 = .ok (.iconst 1, 1) := by decide +kernel
theorem dX7_mean_23 : decode cX7_mean 23 = .ok (.invokestatic 112, 3) := by decide +kernel
theorem dX7_mean_26 : decode cX7_mean 26 = .ok (.ifCond .ne 7, 3) := by decide +kernel
theorem dX7_mean_29 : decode cX7_mean 29 = .ok (.ldc2_w 160, 3) := by decide +kernel
theorem dX7_mean_32 : decode cX7_mean 32 = .ok (.lreturn, 1) := by decide +kernel
theorem dX7_mean_33 : decode cX7_mean 33 = .ok (.iload_n 1, 1) := by decide +kernel
theorem dX7_mean_34 : decode cX7_mean 34 = .ok (.iload_n 2, 1) := by decide +kernel
theorem dX7_mean_35 : decode cX7_mean 35 = .ok (.iload_n 3, 1) := by decide +kernel
theorem dX7_mean_36 : decode cX7_mean 36 = .ok (.iload 4, 2) := by decide +kernel
theorem dX7_mean_38 : decode cX7_mean 38 = .ok (.invokestatic 156, 3) := by decide +kernel
theorem dX7_mean_41 : decode cX7_mean 41 = .ok (.lstore 6, 2) := by decide +kernel
theorem dX7_mean_43 : decode cX7_mean 43 = .ok (.iload_n 3, 1) := by decide +kernel
theorem dX7_mean_44 : decode cX7_mean 44 = .ok (.iconst 1, 1) := by decide +kernel
theorem dX7_mean_45 : decode cX7_mean 45 = .ok (.isub, 1) := by decide +kernel
theorem dX7_mean_46 : decode cX7_mean 46 = .ok (.iload_n 1, 1) := by decide +kernel
theorem dX7_mean_47 : decode cX7_mean 47 = .ok (.iload_n 2, 1) := by decide +kernel
theorem dX7_mean_48 : decode cX7_mean 48 = .ok (.iadd, 1) := by decide +kernel
theorem dX7_mean_49 : decode cX7_mean 49 = .ok (.invokestatic 145, 3) := by decide +kernel
theorem dX7_mean_52 : decode cX7_mean 52 = .ok (.lstore 8, 2) := by decide +kernel
theorem dX7_mean_54 : decode cX7_mean 54 = .ok (.lload 6, 2) := by decide +kernel
theorem dX7_mean_56 : decode cX7_mean 56 = .ok (.lstore 10, 2) := by decide +kernel
theorem dX7_mean_58 : decode cX7_mean 58 = .ok (.lload 8, 2) := by decide +kernel
theorem dX7_mean_60 : decode cX7_mean 60 = .ok (.lstore 12, 2) := by decide +kernel
theorem dX7_mean_62 : decode cX7_mean 62 = .ok (.lload 12, 2) := by decide +kernel
theorem dX7_mean_64 : decode cX7_mean 64 = .ok (.lconst 0, 1) := by decide +kernel
theorem dX7_mean_65 : decode cX7_mean 65 = .ok (.lcmp, 1) := by decide +kernel
theorem dX7_mean_66 : decode cX7_mean 66 = .ok (.ifCond .eq 21, 3) := by decide +kernel
theorem dX7_mean_69 : decode cX7_mean 69 = .ok (.lload 10, 2) := by decide +kernel
theorem dX7_mean_71 : decode cX7_mean 71 = .ok (.lload 12, 2) := by decide +kernel
theorem dX7_mean_73 : decode cX7_mean 73 = .ok (.lrem, 1) := by decide +kernel
theorem dX7_mean_74 : decode cX7_mean 74 = .ok (.lstore 14, 2) := by decide +kernel
theorem dX7_mean_76 : decode cX7_mean 76 = .ok (.lload 12, 2) := by decide +kernel
theorem dX7_mean_78 : decode cX7_mean 78 = .ok (.lstore 10, 2) := by decide +kernel
theorem dX7_mean_80 : decode cX7_mean 80 = .ok (.lload 14, 2) := by decide +kernel
theorem dX7_mean_82 : decode cX7_mean 82 = .ok (.lstore 12, 2) := by decide +kernel
theorem dX7_mean_84 : decode cX7_mean 84 = .ok (.goto (-22), 3) := by decide +kernel
theorem dX7_mean_87 : decode cX7_mean 87 = .ok (.iload 5, 2) := by decide +kernel
theorem dX7_mean_89 : decode cX7_mean 89 = .ok (.ifCond .ne 11, 3) := by decide +kernel
theorem dX7_mean_92 : decode cX7_mean 92 = .ok (.lload 6, 2) := by decide +kernel
theorem dX7_mean_94 : decode cX7_mean 94 = .ok (.lload 10, 2) := by decide +kernel
theorem dX7_mean_96 : decode cX7_mean 96 = .ok (.ldiv, 1) := by decide +kernel
theorem dX7_mean_97 : decode cX7_mean 97 = .ok (.goto 8, 3) := by decide +kernel
theorem dX7_mean_100 : decode cX7_mean 100 = .ok (.lload 8, 2) := by decide +kernel
theorem dX7_mean_102 : decode cX7_mean 102 = .ok (.lload 10, 2) := by decide +kernel
theorem dX7_mean_104 : decode cX7_mean 104 = .ok (.ldiv, 1) := by decide +kernel
theorem dX7_mean_105 : decode cX7_mean 105 = .ok (.lreturn, 1) := by decide +kernel
set_option maxRecDepth 20000 in
theorem ggX7_levels_X7_in : GoodIn wsX7_levels wsX7_in := goodIn_r _ [7] (by decide +kernel) (by decide +kernel)
set_option maxRecDepth 20000 in
theorem gX7_levels_X7_in : GoodIn wsX7_levels (va_wsS RX7 112 yX7_in wsX7_in) := goodIn_app (goodIn_of _ (by decide +kernel)) ggX7_levels_X7_in
theorem dX7_levels_0 : decode cX7_levels 0 = .ok (.iload_n 1, 1) := by decide +kernel
theorem dX7_levels_1 : decode cX7_levels 1 = .ok (.iconst 1, 1) := by decide +kernel
theorem dX7_levels_2 : decode cX7_levels 2 = .ok (.bipush 6, 2) := by decide +kernel
theorem dX7_levels_4 : decode cX7_levels 4 = .ok (.invokestatic 112, 3) := by decide +kernel
theorem dX7_levels_7 : decode cX7_levels 7 = .ok (.ifCond .ne 5, 3) := by decide +kernel
theorem dX7_levels_10 : decode cX7_levels 10 = .ok (.iconst 0, 1) := by decide +kernel
theorem dX7_levels_11 : decode cX7_levels 11 = .ok (.ireturn, 1) := by decide +kernel
theorem dX7_levels_12 : decode cX7_levels 12 = .ok (.aload_n 0, 1) := by decide +kernel
theorem dX7_levels_13 : decode cX7_levels 13 = .ok (.iload_n 1, 1) := by decide +kernel
theorem dX7_levels_14 : decode cX7_levels 14 = .ok (.putfield 162, 3) := by decide +kernel
theorem dX7_levels_17 : decode cX7_levels 17 = .ok (.iconst 0, 1) := by decide +kernel
theorem dX7_levels_18 : decode cX7_levels 18 = .ok (.istore_n 2, 1) := by decide +kernel
theorem dX7_levels_19 : decode cX7_levels 19 = .ok (.iload_n 2, 1) := by decide +kernel
theorem dX7_levels_20 : decode cX7_levels 20 = .ok (.bipush 36, 2) := by decide +kernel
theorem dX7_levels_22 : decode cX7_levels 22 = .ok (.if_icmp .ge 28, 3) := by decide +kernel
theorem dX7_levels_25 : decode cX7_levels 25 = .ok (.aload_n 0, 1) := by decide +kernel
theorem dX7_levels_26 : decode cX7_levels 26 = .ok (.getfield 93, 3) := by decide +kernel
theorem dX7_levels_29 : decode cX7_levels 29 = .ok (.iload_n 2, 1) := by decide +kernel
theorem dX7_levels_30 : decode cX7_levels 30 = .ok (.iload_n 2, 1) := by decide +kernel
theorem dX7_levels_31 : decode cX7_levels 31 = .ok (.bipush 6, 2) := by decide +kernel
theorem dX7_levels_33 : decode cX7_levels 33 = .ok (.irem, 1) := by decide +kernel
theorem dX7_levels_34 : decode cX7_levels 34 = .ok (.ifCond .ne 8, 3) := by decide +kernel
theorem dX7_levels_37 : decode cX7_levels 37 = .ok (.bipush 10, 2) := by decide +kernel
theorem dX7_levels_39 : decode cX7_levels 39 = .ok (.goto 4, 3) := by decide +kernel
theorem dX7_levels_42 : decode cX7_levels 42 = .ok (.iconst 0, 1) := by decide +kernel
theorem dX7_levels_43 : decode cX7_levels 43 = .ok (.iastore, 1) := by decide +kernel
theorem dX7_levels_44 : decode cX7_levels 44 = .ok (.iinc 2 1, 3) := by decide +kernel
theorem dX7_levels_47 : decode cX7_levels 47 = .ok (.goto (-28), 3) := by decide +kernel
theorem dX7_levels_50 : decode cX7_levels 50 = .ok (.iconst 0, 1) := by decide +kernel
theorem dX7_levels_51 : decode cX7_levels 51 = .ok (.istore_n 2, 1) := by decide +kernel
theorem dX7_levels_52 : decode cX7_levels 52 = .ok (.iload_n 2, 1) := by decide +kernel
theorem dX7_levels_53 : decode cX7_levels 53 = .ok (.bipush 6, 2) := by decide +kernel
theorem dX7_levels_55 : decode cX7_levels 55 = .ok (.if_icmp .ge 16, 3) := by decide +kernel
theorem dX7_levels_58 : decode cX7_levels 58 = .ok (.aload_n 0, 1) := by decide +kernel
theorem dX7_levels_59 : decode cX7_levels 59 = .ok (.getfield 90, 3) := by decide +kernel
theorem dX7_levels_62 : decode cX7_levels 62 = .ok (.iload_n 2, 1) := by decide +kernel
theorem dX7_levels_63 : decode cX7_levels 63 = .ok (.iconst 0, 1) := by decide +kernel
theorem dX7_levels_64 : decode cX7_levels 64 = .ok (.iastore, 1) := by decide +kernel
theorem dX7_levels_65 : decode cX7_levels 65 = .ok (.iinc 2 1, 3) := by decide +kernel
theorem dX7_levels_68 : decode cX7_levels 68 = .ok (.goto (-16), 3) := by decide +kernel
theorem dX7_levels_71 : decode cX7_levels 71 = .ok (.iconst 1, 1) := by decide +kernel
theorem dX7_levels_72 : decode cX7_levels 72 = .ok (.ireturn, 1) := by decide +kernel
set_option maxRecDepth 20000 in
theorem ggX7_level_X7_in : GoodIn wsX7_level wsX7_in := goodIn_r _ [7] (by decide +kernel) (by decide +kernel)
set_option maxRecDepth 20000 in
theorem gX7_level_X7_in : GoodIn wsX7_level (va_wsS RX7 112 yX7_in wsX7_in) := goodIn_app (goodIn_of _ (by decide +kernel)) ggX7_level_X7_in
theorem dX7_level_0 : decode cX7_level 0 = .ok (.iload_n 1, 1) := by decide +kernel
theorem dX7_level_1 : decode cX7_level 1 = .ok (.iconst 0, 1) := by decide +kernel
theorem dX7_level_2 : decode cX7_level 2 = .ok (.aload_n 0, 1) := by decide +kernel
theorem dX7_level_3 : decode cX7_level 3 = .ok (.getfield 162, 3) := by decide +kernel
theorem dX7_level_6 : decode cX7_level 6 = .ok (.iconst 1, 1) := by decide +kernel
theorem dX7_level_7 : decode cX7_level 7 = .ok (.isub, 1) := by decide +kernel
theorem dX7_level_8 : decode cX7_level 8 = .ok (.invokestatic 112, 3) := by decide +kernel
theorem dX7_level_11 : decode cX7_level 11 = .ok (.ifCond .eq 18, 3) := by decide +kernel
theorem dX7_level_14 : decode cX7_level 14 = .ok (.iload_n 2, 1) := by decide +kernel
theorem dX7_level_15 : decode cX7_level 15 = .ok (.iconst 0, 1) := by decide +kernel
theorem dX7_level_16 : decode cX7_level 16 = .ok (.sipush 999, 3) := by decide +kernel
theorem dX7_level_19 : decode cX7_level 19 = .ok (.invokestatic 112, 3) := by decide +kernel
theorem dX7_level_22 : decode cX7_level 22 = .ok (.ifCond .eq 7, 3) := by decide +kernel
theorem dX7_level_25 : decode cX7_level 25 = .ok (.iload_n 3, 1) := by decide +kernel
theorem dX7_level_26 : decode cX7_level 26 = .ok (.ifCond .ge 5, 3) := by decide +kernel
theorem dX7_level_29 : decode cX7_level 29 = .ok (.iconst 0, 1) := by decide +kernel
theorem dX7_level_30 : decode cX7_level 30 = .ok (.ireturn, 1) := by decide +kernel
theorem dX7_level_31 : decode cX7_level 31 = .ok (.iload_n 3, 1) := by decide +kernel
theorem dX7_level_32 : decode cX7_level 32 = .ok (.istore 4, 2) := by decide +kernel
theorem dX7_level_34 : decode cX7_level 34 = .ok (.iconst 0, 1) := by decide +kernel
theorem dX7_level_35 : decode cX7_level 35 = .ok (.istore 5, 2) := by decide +kernel
theorem dX7_level_37 : decode cX7_level 37 = .ok (.iconst 0, 1) := by decide +kernel
theorem dX7_level_38 : decode cX7_level 38 = .ok (.istore 6, 2) := by decide +kernel
theorem dX7_level_40 : decode cX7_level 40 = .ok (.iload 6, 2) := by decide +kernel
theorem dX7_level_42 : decode cX7_level 42 = .ok (.aload_n 0, 1) := by decide +kernel
theorem dX7_level_43 : decode cX7_level 43 = .ok (.getfield 162, 3) := by decide +kernel
theorem dX7_level_46 : decode cX7_level 46 = .ok (.if_icmp .ge 26, 3) := by decide +kernel
theorem dX7_level_49 : decode cX7_level 49 = .ok (.iload 5, 2) := by decide +kernel
theorem dX7_level_51 : decode cX7_level 51 = .ok (.iload 4, 2) := by decide +kernel
theorem dX7_level_53 : decode cX7_level 53 = .ok (.bipush 10, 2) := by decide +kernel
theorem dX7_level_55 : decode cX7_level 55 = .ok (.irem, 1) := by decide +kernel
theorem dX7_level_56 : decode cX7_level 56 = .ok (.iadd, 1) := by decide +kernel
theorem dX7_level_57 : decode cX7_level 57 = .ok (.istore 5, 2) := by decide +kernel
theorem dX7_level_59 : decode cX7_level 59 = .ok (.iload 4, 2) := by decide +kernel
theorem dX7_level_61 : decode cX7_level 61 = .ok (.bipush 10, 2) := by decide +kernel
theorem dX7_level_63 : decode cX7_level 63 = .ok (.idiv, 1) := by decide +kernel
theorem dX7_level_64 : decode cX7_level 64 = .ok (.istore 4, 2) := by decide +kernel
theorem dX7_level_66 : decode cX7_level 66 = .ok (.iinc 6 1, 3) := by decide +kernel
theorem dX7_level_69 : decode cX7_level 69 = .ok (.goto (-29), 3) := by decide +kernel
theorem dX7_level_72 : decode cX7_level 72 = .ok (.iload 4, 2) := by decide +kernel
theorem dX7_level_74 : decode cX7_level 74 = .ok (.ifCond .gt 10, 3) := by decide +kernel
theorem dX7_level_77 : decode cX7_level 77 = .ok (.iload 5, 2) := by decide +kernel
theorem dX7_level_79 : decode cX7_level 79 = .ok (.bipush 10, 2) := by decide +kernel
theorem dX7_level_81 : decode cX7_level 81 = .ok (.if_icmp .le 5, 3) := by decide +kernel
theorem dX7_level_84 : decode cX7_level 84 = .ok (.iconst 0, 1) := by decide +kernel
theorem dX7_level_85 : decode cX7_level 85 = .ok (.ireturn, 1) := by decide +kernel
theorem dX7_level_86 : decode cX7_level 86 = .ok (.iload_n 3, 1) := by decide +kernel
theorem dX7_level_87 : decode cX7_level 87 = .ok (.istore 4, 2) := by decide +kernel
theorem dX7_level_89 : decode cX7_level 89 = .ok (.iconst 0, 1) := by decide +kernel
theorem dX7_level_90 : decode cX7_level 90 = .ok (.istore 6, 2) := by decide +kernel
theorem dX7_level_92 : decode cX7_level 92 = .ok (.iload 6, 2) := by decide +kernel
theorem dX7_level_94 : decode cX7_level 94 = .ok (.aload_n 0, 1) := by decide +kernel
theorem dX7_level_95 : decode cX7_level 95 = .ok (.getfield 162, 3) := by decide +kernel
theorem dX7_level_98 : decode cX7_level 98 = .ok (.if_icmp .ge 48, 3) := by decide +kernel
theorem dX7_level_101 : decode cX7_level 101 = .ok (.aload_n 0, 1) := by decide +kernel
theorem dX7_level_102 : decode cX7_level 102 = .ok (.getfield 93, 3) := by decide +kernel
theorem dX7_level_105 : decode cX7_level 105 = .ok (.bipush 6, 2) := by decide +kernel
theorem dX7_level_107 : decode cX7_level 107 = .ok (.iload_n 1, 1) := by decide +kernel
theorem dX7_level_108 : decode cX7_level 108 = .ok (.imul, 1) := by decide +kernel
theorem dX7_level_109 : decode cX7_level 109 = .ok (.iload 6, 2) := by decide +kernel
theorem dX7_level_111 : decode cX7_level 111 = .ok (.iadd, 1) := by decide +kernel
theorem dX7_level_112 : decode cX7_level 112 = .ok (.iload 4, 2) := by decide +kernel
theorem dX7_level_114 : decode cX7_level 114 = .ok (.bipush 10, 2) := by decide +kernel
theorem dX7_level_116 : decode cX7_level 116 = .ok (.irem, 1) := by decide +kernel
theorem dX7_level_117 : decode cX7_level 117 = .ok (.iload 6, 2) := by decide +kernel
theorem dX7_level_119 : decode cX7_level 119 = .ok (.ifCond .ne 11, 3) := by decide +kernel
theorem dX7_level_122 : decode cX7_level 122 = .ok (.bipush 10, 2) := by decide +kernel
theorem dX7_level_124 : decode cX7_level 124 = .ok (.iload 5, 2) := by decide +kernel
theorem dX7_level_126 : decode cX7_level 126 = .ok (.isub, 1) := by decide +kernel
theorem dX7_level_127 : decode cX7_level 127 = .ok (.goto 4, 3) := by decide +kernel
theorem dX7_level_130 : decode cX7_level 130 = .ok (.iconst 0, 1) := by decide +kernel
theorem dX7_level_131 : decode cX7_level 131 = .ok (.iadd, 1) := by decide +kernel
theorem dX7_level_132 : decode cX7_level 132 = .ok (.iastore, 1) := by decide +kernel
theorem dX7_level_133 : decode cX7_level 133 = .ok (.iload 4, 2) := by decide +kernel
theorem dX7_level_135 : decode cX7_level 135 = .ok (.bipush 10, 2) := by decide +kernel
theorem dX7_level_137 : decode cX7_level 137 = .ok (.idiv, 1) := by decide +kernel
theorem dX7_level_138 : decode cX7_level 138 = .ok (.istore 4, 2) := by decide +kernel
theorem dX7_level_140 : decode cX7_level 140 = .ok (.iinc 6 1, 3) := by decide +kernel
theorem dX7_level_143 : decode cX7_level 143 = .ok (.goto (-51), 3) := by decide +kernel
theorem dX7_level_146 : decode cX7_level 146 = .ok (.aload_n 0, 1) := by decide +kernel
theorem dX7_level_147 : decode cX7_level 147 = .ok (.getfield 90, 3) := by decide +kernel
theorem dX7_level_150 : decode cX7_level 150 = .ok (.iload_n 1, 1) := by decide +kernel
theorem dX7_level_151 : decode cX7_level 151 = .ok (.iload_n 2, 1) := by decide +kernel
theorem dX7_level_152 : decode cX7_level 152 = .ok (.iastore, 1) := by decide +kernel
