theorem dX9_init_0 : decode cX9_init 0 = .ok (.aload_n 0, 1) := by decide +kernel
theorem dX9_init_1 : decode cX9_init 1 = .ok (.invokespecial 1, 3) := by decide +kernel
theorem dX9_init_4 : decode cX9_init 4 = .ok (.aload_n 0, 1) := by decide +kernel
theorem dX9_init_5 : decode cX9_init 5 = .ok (.iconst (-1), 1) := by decide +kernel
theorem dX9_init_6 : decode cX9_init 6 = .ok (.putfield 9, 3) := by decide +kernel
theorem dX9_init_9 : decode cX9_init 9 = .ok (.aload_n 0, 1) := by decide +kernel
theorem dX9_init_10 : decode cX9_init 10 = .ok (.sipush 500, 3) := by decide +kernel
theorem dX9_init_13 : decode cX9_init 13 = .ok (.newarray .int, 2) := by decide +kernel
theorem dX9_init_15 : decode cX9_init 15 = .ok (.putfield 13, 3) := by decide +kernel
theorem dX9_init_18 : decode cX9_init 18 = .ok (.aload_n 0, 1) := by decide +kernel
theorem dX9_init_19 : decode cX9_init 19 = .ok (.sipush 600, 3) := by decide +kernel
theorem dX9_init_22 : decode cX9_init 22 = .ok (.newarray .int, 2) := by decide +kernel
theorem dX9_init_24 : decode cX9_init 24 = .ok (.putfield 17, 3) := by decide +kernel
theorem dX9_init_27 : decode cX9_init 27 = .ok (.aload_n 0, 1) := by decide +kernel
theorem dX9_init_28 : decode cX9_init 28 = .ok (.bipush 6, 2) := by decide +kernel
theorem dX9_init_30 : decode cX9_init 30 = .ok (.newarray .int, 2) := by decide +kernel
theorem dX9_init_32 : decode cX9_init 32 = .ok (.putfield 20, 3) := by decide +kernel
theorem dX9_init_35 : decode cX9_init 35 = .ok (.aload_n 0, 1) := by decide +kernel
theorem dX9_init_36 : decode cX9_init 36 = .ok (.bipush 6, 2) := by decide +kernel
theorem dX9_init_38 : decode cX9_init 38 = .ok (.newarray .int, 2) := by decide +kernel
theorem dX9_init_40 : decode cX9_init 40 = .ok (.putfield 23, 3) := by decide +kernel
theorem dX9_init_43 : decode cX9_init 43 = .ok (.aload_n 0, 1) := by decide +kernel
theorem dX9_init_44 : decode cX9_init 44 = .ok (.bipush 8, 2) := by decide +kernel
theorem dX9_init_46 : decode cX9_init 46 = .ok (.bipush 6, 2) := by decide +kernel
theorem dX9_init_48 : decode cX9_init 48 = .ok (.multianewarray 26 2, 4) := by decide +kernel
theorem dX9_init_52 : decode cX9_init 52 = .ok (.putfield 28, 3) := by decide +kernel
theorem dX9_init_55 : decode cX9_init 55 = .ok (.aload_n 0, 1) := by decide +kernel
theorem dX9_init_56 : decode cX9_init 56 = .ok (.bipush 9, 2) := by decide +kernel
theorem dX9_init_58 : decode cX9_init 58 = .ok (.bipush 6, 2) := by decide +kernel
theorem dX9_init_60 : decode cX9_init 60 = .ok (.multianewarray 26 2, 4) := by decide +kernel
theorem dX9_init_64 : decode cX9_init 64 = .ok (.putfield 31, 3) := by decide +kernel
theorem dX9_init_67 : decode cX9_init 67 = .ok (.aload_n 0, 1) := by decide +kernel
theorem dX9_init_68 : decode cX9_init 68 = .ok (.bipush 10, 2) := by decide +kernel
theorem dX9_init_70 : decode cX9_init 70 = .ok (.iconst 4, 1) := by decide +kernel
theorem dX9_init_71 : decode cX9_init 71 = .ok (.multianewarray 26 2, 4) := by decide +kernel
theorem dX9_init_75 : decode cX9_init 75 = .ok (.putfield 34, 3) := by decide +kernel
theorem dX9_init_78 : decode cX9_init 78 = .ok (.aload_n 0, 1) := by decide +kernel
theorem dX9_init_79 : decode cX9_init 79 = .ok (.bipush 10, 2) := by decide +kernel
theorem dX9_init_81 : decode cX9_init 81 = .ok (.iconst 4, 1) := by decide +kernel
theorem dX9_init_82 : decode cX9_init 82 = .ok (.multianewarray 26 2, 4) := by decide +kernel
theorem dX9_init_86 : decode cX9_init 86 = .ok (.putfield 37, 3) := by decide +kernel
theorem dX9_init_89 : decode cX9_init 89 = .ok (.aload_n 0, 1) := by decide +kernel
theorem dX9_init_90 : decode cX9_init 90 = .ok (.bipush 7, 2) := by decide +kernel
theorem dX9_init_92 : decode cX9_init 92 = .ok (.newarray .int, 2) := by decide +kernel
theorem dX9_init_94 : decode cX9_init 94 = .ok (.putfield 40, 3) := by decide +kernel
theorem dX9_init_97 : decode cX9_init 97 = .ok (.aload_n 0, 1) := by decide +kernel
theorem dX9_init_98 : decode cX9_init 98 = .ok (.bipush 7, 2) := by decide +kernel
theorem dX9_init_100 : decode cX9_init 100 = .ok (.newarray .int, 2) := by decide +kernel
theorem dX9_init_102 : decode cX9_init 102 = .ok (.putfield 43, 3) := by decide +kernel
theorem dX9_init_105 : decode cX9_init 105 = .ok (.aload_n 0, 1) := by decide +kernel
theorem dX9_init_106 : decode cX9_init 106 = .ok (.bipush 8, 2) := by decide +kernel
theorem dX9_init_108 : decode cX9_init 108 = .ok (.newarray .int, 2) := by decide +kernel
theorem dX9_init_110 : decode cX9_init 110 = .ok (.putfield 46, 3) := by decide +kernel
theorem dX9_init_113 : decode cX9_init 113 = .ok (.aload_n 0, 1) := by decide +kernel
theorem dX9_init_114 : decode cX9_init 114 = .ok (.bipush 9, 2) := by decide +kernel
theorem dX9_init_116 : decode cX9_init 116 = .ok (.newarray .int, 2) := by decide +kernel
theorem dX9_init_118 : decode cX9_init 118 = .ok (.putfield 49, 3) := by decide +kernel
theorem dX9_init_121 : decode cX9_init 121 = .ok (.aload_n 0, 1) := by decide +kernel
theorem dX9_init_122 : decode cX9_init 122 = .ok (.bipush 9, 2) := by decide +kernel
theorem dX9_init_124 : decode cX9_init 124 = .ok (.iconst 4, 1) := by decide +kernel
theorem dX9_init_125 : decode cX9_init 125 = .ok (.multianewarray 26 2, 4) := by decide +kernel
theorem dX9_init_129 : decode cX9_init 129 = .ok (.putfield 52, 3) := by decide +kernel
theorem dX9_init_132 : decode cX9_init 132 = .ok (.aload_n 0, 1) := by decide +kernel
theorem dX9_init_133 : decode cX9_init 133 = .ok (.bipush 30, 2) := by decide +kernel
theorem dX9_init_135 : decode cX9_init 135 = .ok (.iconst 4, 1) := by decide +kernel
theorem dX9_init_136 : decode cX9_init 136 = .ok (.multianewarray 26 2, 4) := by decide +kernel
theorem dX9_init_140 : decode cX9_init 140 = .ok (.putfield 55, 3) := by decide +kernel
theorem dX9_init_143 : decode cX9_init 143 = .ok (.aload_n 0, 1) := by decide +kernel
theorem dX9_init_144 : decode cX9_init 144 = .ok (.bipush 9, 2) := by decide +kernel
theorem dX9_init_146 : decode cX9_init 146 = .ok (.newarray .int, 2) := by decide +kernel
theorem dX9_init_148 : decode cX9_init 148 = .ok (.putfield 58, 3) := by decide +kernel
theorem dX9_init_151 : decode cX9_init 151 = .ok (.aload_n 0, 1) := by decide +kernel
theorem dX9_init_152 : decode cX9_init 152 = .ok (.bipush 10, 2) := by decide +kernel
theorem dX9_init_154 : decode cX9_init 154 = .ok (.newarray .int, 2) := by decide +kernel
theorem dX9_init_156 : decode cX9_init 156 = .ok (.putfield 61, 3) := by decide +kernel
theorem dX9_init_159 : decode cX9_init 159 = .ok (.aload_n 0, 1) := by decide +kernel
theorem dX9_init_160 : decode cX9_init 160 = .ok (.iconst 3, 1) := by decide +kernel
theorem dX9_init_161 : decode cX9_init 161 = .ok (.sipush 190, 3) := by decide +kernel
theorem dX9_init_164 : decode cX9_init 164 = .ok (.multianewarray 26 2, 4) := by decide +kernel
theorem dX9_init_168 : decode cX9_init 168 = .ok (.putfield 64, 3) := by decide +kernel
theorem dX9_init_171 : decode cX9_init 171 = .ok (.aload_n 0, 1) := by decide +kernel
theorem dX9_init_172 : decode cX9_init 172 = .ok (.iconst 2, 1) := by decide +kernel
theorem dX9_init_173 : decode cX9_init 173 = .ok (.sipush 190, 3) := by decide +kernel
theorem dX9_init_176 : decode cX9_init 176 = .ok (.multianewarray 26 2, 4) := by decide +kernel
theorem dX9_init_180 : decode cX9_init 180 = .ok (.putfield 67, 3) := by decide +kernel
theorem dX9_init_183 : decode cX9_init 183 = .ok (.aload_n 0, 1) := by decide +kernel
theorem dX9_init_184 : decode cX9_init 184 = .ok (.iconst (-1), 1) := by decide +kernel
theorem dX9_init_185 : decode cX9_init 185 = .ok (.putfield 70, 3) := by decide +kernel
theorem dX9_init_188 : decode cX9_init 188 = .ok (.aload_n 0, 1) := by decide +kernel
theorem dX9_init_189 : decode cX9_init 189 = .ok (.sipush 1024, 3) := by decide +kernel
theorem dX9_init_192 : decode cX9_init 192 = .ok (.sipush 512, 3) := by decide +kernel
theorem dX9_init_195 : decode cX9_init 195 = .ok (.multianewarray 73 2, 4) := by decide +kernel
theorem dX9_init_199 : decode cX9_init 199 = .ok (.putfield 75, 3) := by decide +kernel
theorem dX9_init_202 : decode cX9_init 202 = .ok (.aload_n 0, 1) := by decide +kernel
theorem dX9_init_203 : decode cX9_init 203 = .ok (.bipush 10, 2) := by decide +kernel
theorem dX9_init_205 : decode cX9_init 205 = .ok (.newarray .boolean, 2) := by decide +kernel
theorem dX9_init_207 : decode cX9_init 207 = .ok (.putfield 78, 3) := by decide +kernel
theorem dX9_init_210 : decode cX9_init 210 = .ok (.aload_n 0, 1) := by decide +kernel
theorem dX9_init_211 : decode cX9_init 211 = .ok (.bipush 10, 2) := by decide +kernel
theorem dX9_init_213 : decode cX9_init 213 = .ok (.newarray .int, 2) := by decide +kernel
theorem dX9_init_215 : decode cX9_init 215 = .ok (.putfield 82, 3) := by decide +kernel
theorem dX9_init_218 : decode cX9_init 218 = .ok (.aload_n 0, 1) := by decide +kernel
theorem dX9_init_219 : decode cX9_init 219 = .ok (.iconst 2, 1) := by decide +kernel
theorem dX9_init_220 : decode cX9_init 220 = .ok (.newarray .int, 2) := by decide +kernel
theorem dX9_init_222 : decode cX9_init 222 = .ok (.putfield 85, 3) := by decide +kernel
theorem dX9_init_225 : decode cX9_init 225 = .ok (.aload_n 0, 1) := by decide +kernel
theorem dX9_init_226 : decode cX9_init 226 = .ok (.iconst 4, 1) := by decide +kernel
theorem dX9_init_227 : decode cX9_init 227 = .ok (.newarray .int, 2) := by decide +kernel
theorem dX9_init_229 : decode cX9_init 229 = .ok (.putfield 88, 3) := by decide +kernel
theorem dX9_init_232 : decode cX9_init 232 = .ok (.aload_n 0, 1) := by decide +kernel
theorem dX9_init_233 : decode cX9_init 233 = .ok (.iconst 4, 1) := by decide +kernel
theorem dX9_init_234 : decode cX9_init 234 = .ok (.newarray .int, 2) := by decide +kernel
theorem dX9_init_236 : decode cX9_init 236 = .ok (.putfield 91, 3) := by decide +kernel
theorem dX9_init_239 : decode cX9_init 239 = .ok (.aload_n 0, 1) := by decide +kernel
theorem dX9_init_240 : decode cX9_init 240 = .ok (.sipush 6561, 3) := by decide +kernel
theorem dX9_init_243 : decode cX9_init 243 = .ok (.newarray .int, 2) := by decide +kernel
theorem dX9_init_245 : decode cX9_init 245 = .ok (.putfield 94, 3) := by decide +kernel
theorem dX9_init_248 : decode cX9_init 248 = .ok (.aload_n 0, 1) := by decide +kernel
theorem dX9_init_249 : decode cX9_init 249 = .ok (.sipush 6561, 3) := by decide +kernel
theorem dX9_init_252 : decode cX9_init 252 = .ok (.newarray .int, 2) := by decide +kernel
theorem dX9_init_254 : decode cX9_init 254 = .ok (.putfield 97, 3) := by decide +kernel
theorem dX9_init_257 : decode cX9_init 257 = .ok (.aload_n 0, 1) := by decide +kernel
theorem dX9_init_258 : decode cX9_init 258 = .ok (.sipush 6561, 3) := by decide +kernel
theorem dX9_init_261 : decode cX9_init 261 = .ok (.newarray .int, 2) := by decide +kernel
theorem dX9_init_263 : decode cX9_init 263 = .ok (.putfield 100, 3) := by decide +kernel
theorem dX9_init_266 : decode cX9_init 266 = .ok (.aload_n 0, 1) := by decide +kernel
theorem dX9_init_267 : decode cX9_init 267 = .ok (.sipush 6561, 3) := by decide +kernel
theorem dX9_init_270 : decode cX9_init 270 = .ok (.newarray .int, 2) := by decide +kernel
theorem dX9_init_272 : decode cX9_init 272 = .ok (.putfield 103, 3) := by decide +kernel
theorem dX9_init_275 : decode cX9_init 275 = .ok (.return_, 1) := by decide +kernel
def cS9 (k n : Nat) (S : Nat → zSh) : Nat → zSh := (zupS (zupS (zupS (zupS (zupS (zupS (zupS (zupS (zupS (zupS (zupS (zupS (zupS (zupS (zupS (zupS (zupS (zupS (zupS (zupM (zupS (zupM (zupS (zupM (zupS (zupS (zupS (zupS (zupS (zupM (zupS (zupM (zupS (zupS (zupS (zupS (zupS (zupS (zupS (zupS (zupS (zupM (zupS (zupM (zupS (zupM (zupS (zupM (zupS (zupS (zupS (zupS (zupS (zupS (zupS (zupS S n (1, 0, 500, zn)) k (0, 9, 0, (fun i => if i = 8 then some n else zn i))) (n + 1) (1, 0, 600, zn)) k (0, 9, 0, (fun i => if i = 9 then some (n + 1) else (fun i => if i = 8 then some n else zn i) i))) (n + 2) (1, 0, 6, zn)) k (0, 9, 0, (fun i => if i = 10 then some (n + 2) else (fun i => if i = 9 then some (n + 1) else (fun i => if i = 8 then some n else zn i) i) i))) (n + 3) (1, 0, 6, zn)) k (0, 9, 0, (fun i => if i = 11 then some (n + 3) else (fun i => if i = 10 then some (n + 2) else (fun i => if i = 9 then some (n + 1) else (fun i => if i = 8 then some n else zn i) i) i) i))) (n + 4) 8 2 0 6) k (0, 9, 0, (fun i => if i = 12 then some (n + 4) else (fun i => if i = 11 then some (n + 3) else (fun i => if i = 10 then some (n + 2) else (fun i => if i = 9 then some (n + 1) else (fun i => if i = 8 then some n else zn i) i) i) i) i))) (n + 13) 9 2 0 6) k (0, 9, 0, (fun i => if i = 13 then some (n + 13) else (fun i => if i = 12 then some (n + 4) else (fun i => if i = 11 then some (n + 3) else (fun i => if i = 10 then some (n + 2) else (fun i => if i = 9 then some (n + 1) else (fun i => if i = 8 then some n else zn i) i) i) i) i) i))) (n + 23) 10 2 0 4) k (0, 9, 0, (fun i => if i = 14 then some (n + 23) else (fun i => if i = 13 then some (n + 13) else (fun i => if i = 12 then some (n + 4) else (fun i => if i = 11 then some (n + 3) else (fun i => if i = 10 then some (n + 2) else (fun i => if i = 9 then some (n + 1) else (fun i => if i = 8 then some n else zn i) i) i) i) i) i) i))) (n + 34) 10 2 0 4) k (0, 9, 0, (fun i => if i = 15 then some (n + 34) else (fun i => if i = 14 then some (n + 23) else (fun i => if i = 13 then some (n + 13) else (fun i => if i = 12 then some (n + 4) else (fun i => if i = 11 then some (n + 3) else (fun i => if i = 10 then some (n + 2) else (fun i => if i = 9 then some (n + 1) else (fun i => if i = 8 then some n else zn i) i) i) i) i) i) i) i))) (n + 45) (1, 0, 7, zn)) k (0, 9, 0, (fun i => if i = 16 then some (n + 45) else (fun i => if i = 15 then some (n + 34) else (fun i => if i = 14 then some (n + 23) else (fun i => if i = 13 then some (n + 13) else (fun i => if i = 12 then some (n + 4) else (fun i => if i = 11 then some (n + 3) else (fun i => if i = 10 then some (n + 2) else (fun i => if i = 9 then some (n + 1) else (fun i => if i = 8 then some n else zn i) i) i) i) i) i) i) i) i))) (n + 46) (1, 0, 7, zn)) k (0, 9, 0, (fun i => if i = 17 then some (n + 46) else (fun i => if i = 16 then some (n + 45) else (fun i => if i = 15 then some (n + 34) else (fun i => if i = 14 then some (n + 23) else (fun i => if i = 13 then some (n + 13) else (fun i => if i = 12 then some (n + 4) else (fun i => if i = 11 then some (n + 3) else (fun i => if i = 10 then some (n + 2) else (fun i => if i = 9 then some (n + 1) else (fun i => if i = 8 then some n else zn i) i) i) i) i) i) i) i) i) i))) (n + 47) (1, 0, 8, zn)) k (0, 9, 0, (fun i => if i = 18 then some (n + 47) else (fun i => if i = 17 then some (n + 46) else (fun i => if i = 16 then some (n + 45) else (fun i => if i = 15 then some (n + 34) else (fun i => if i = 14 then some (n + 23) else (fun i => if i = 13 then some (n + 13) else (fun i => if i = 12 then some (n + 4) else (fun i => if i = 11 then some (n + 3) else (fun i => if i = 10 then some (n + 2) else (fun i => if i = 9 then some (n + 1) else (fun i => if i = 8 then some n else zn i) i) i) i) i) i) i) i) i) i) i))) (n + 48) (1, 0, 9, zn)) k (0, 9, 0, (fun i => if i = 19 then some (n + 48) else (fun i => if i = 18 then some (n + 47) else (fun i => if i = 17 then some (n + 46) else (fun i => if i = 16 then some (n + 45) else (fun i => if i = 15 then some (n + 34) else (fun i => if i = 14 then some (n + 23) else (fun i => if i = 13 then some (n + 13) else (fun i => if i = 12 then some (n + 4) else (fun i => if i = 11 then some (n + 3) else (fun i => if i = 10 then some (n + 2) else (fun i => if i = 9 then some (n + 1) else (fun i => if i = 8 then some n else zn i) i) i) i) i) i) i) i) i) i) i) i))) (n + 49) 9 2 0 4) k (0, 9, 0, (fun i => if i = 23 then some (n + 49) else (fun i => if i = 19 then some (n + 48) else (fun i => if i = 18 then some (n + 47) else (fun i => if i = 17 then some (n + 46) else (fun i => if i = 16 then some (n + 45) else (fun i => if i = 15 then some (n + 34) else (fun i => if i = 14 then some (n + 23) else (fun i => if i = 13 then some (n + 13) else (fun i => if i = 12 then some (n + 4) else (fun i => if i = 11 then some (n + 3) else (fun i => if i = 10 then some (n + 2) else (fun i => if i = 9 then some (n + 1) else (fun i => if i = 8 then some n else zn i) i) i) i) i) i) i) i) i) i) i) i) i))) (n + 59) 30 2 0 4) k (0, 9, 0, (fun i => if i = 24 then some (n + 59) else (fun i => if i = 23 then some (n + 49) else (fun i => if i = 19 then some (n + 48) else (fun i => if i = 18 then some (n + 47) else (fun i => if i = 17 then some (n + 46) else (fun i => if i = 16 then some (n + 45) else (fun i => if i = 15 then some (n + 34) else (fun i => if i = 14 then some (n + 23) else (fun i => if i = 13 then some (n + 13) else (fun i => if i = 12 then some (n + 4) else (fun i => if i = 11 then some (n + 3) else (fun i => if i = 10 then some (n + 2) else (fun i => if i = 9 then some (n + 1) else (fun i => if i = 8 then some n else zn i) i) i) i) i) i) i) i) i) i) i) i) i) i))) (n + 90) (1, 0, 9, zn)) k (0, 9, 0, (fun i => if i = 25 then some (n + 90) else (fun i => if i = 24 then some (n + 59) else (fun i => if i = 23 then some (n + 49) else (fun i => if i = 19 then some (n + 48) else (fun i => if i = 18 then some (n + 47) else (fun i => if i = 17 then some (n + 46) else (fun i => if i = 16 then some (n + 45) else (fun i => if i = 15 then some (n + 34) else (fun i => if i = 14 then some (n + 23) else (fun i => if i = 13 then some (n + 13) else (fun i => if i = 12 then some (n + 4) else (fun i => if i = 11 then some (n + 3) else (fun i => if i = 10 then some (n + 2) else (fun i => if i = 9 then some (n + 1) else (fun i => if i = 8 then some n else zn i) i) i) i) i) i) i) i) i) i) i) i) i) i) i))) (n + 91) (1, 0, 10, zn)) k (0, 9, 0, (fun i => if i = 26 then some (n + 91) else (fun i => if i = 25 then some (n + 90) else (fun i => if i = 24 then some (n + 59) else (fun i => if i = 23 then some (n + 49) else (fun i => if i = 19 then some (n + 48) else (fun i => if i = 18 then some (n + 47) else (fun i => if i = 17 then some (n + 46) else (fun i => if i = 16 then some (n + 45) else (fun i => if i = 15 then some (n + 34) else (fun i => if i = 14 then some (n + 23) else (fun i => if i = 13 then some (n + 13) else (fun i => if i = 12 then some (n + 4) else (fun i => if i = 11 then some (n + 3) else (fun i => if i = 10 then some (n + 2) else (fun i => if i = 9 then some (n + 1) else (fun i => if i = 8 then some n else zn i) i) i) i) i) i) i) i) i) i) i) i) i) i) i) i))) (n + 92) 3 2 0 190) k (0, 9, 0, (fun i => if i = 27 then some (n + 92) else (fun i => if i = 26 then some (n + 91) else (fun i => if i = 25 then some (n + 90) else (fun i => if i = 24 then some (n + 59) else (fun i => if i = 23 then some (n + 49) else (fun i => if i = 19 then some (n + 48) else (fun i => if i = 18 then some (n + 47) else (fun i => if i = 17 then some (n + 46) else (fun i => if i = 16 then some (n + 45) else (fun i => if i = 15 then some (n + 34) else (fun i => if i = 14 then some (n + 23) else (fun i => if i = 13 then some (n + 13) else (fun i => if i = 12 then some (n + 4) else (fun i => if i = 11 then some (n + 3) else (fun i => if i = 10 then some (n + 2) else (fun i => if i = 9 then some (n + 1) else (fun i => if i = 8 then some n else zn i) i) i) i) i) i) i) i) i) i) i) i) i) i) i) i) i))) (n + 96) 2 2 0 190) k (0, 9, 0, (fun i => if i = 28 then some (n + 96) else (fun i => if i = 27 then some (n + 92) else (fun i => if i = 26 then some (n + 91) else (fun i => if i = 25 then some (n + 90) else (fun i => if i = 24 then some (n + 59) else (fun i => if i = 23 then some (n + 49) else (fun i => if i = 19 then some (n + 48) else (fun i => if i = 18 then some (n + 47) else (fun i => if i = 17 then some (n + 46) else (fun i => if i = 16 then some (n + 45) else (fun i => if i = 15 then some (n + 34) else (fun i => if i = 14 then some (n + 23) else (fun i => if i = 13 then some (n + 13) else (fun i => if i = 12 then some (n + 4) else (fun i => if i = 11 then some (n + 3) else (fun i => if i = 10 then some (n + 2) else (fun i => if i = 9 then some (n + 1) else (fun i => if i = 8 then some n else zn i) i) i) i) i) i) i) i) i) i) i) i) i) i) i) i) i) i))) (n + 99) 1024 3 1 512) k (0, 9, 0, (fun i => if i = 32 then some (n + 99) else (fun i => if i = 28 then some (n + 96) else (fun i => if i = 27 then some (n + 92) else (fun i => if i = 26 then some (n + 91) else (fun i => if i = 25 then some (n + 90) else (fun i => if i = 24 then some (n + 59) else (fun i => if i = 23 then some (n + 49) else (fun i => if i = 19 then some (n + 48) else (fun i => if i = 18 then some (n + 47) else (fun i => if i = 17 then some (n + 46) else (fun i => if i = 16 then some (n + 45) else (fun i => if i = 15 then some (n + 34) else (fun i => if i = 14 then some (n + 23) else (fun i => if i = 13 then some (n + 13) else (fun i => if i = 12 then some (n + 4) else (fun i => if i = 11 then some (n + 3) else (fun i => if i = 10 then some (n + 2) else (fun i => if i = 9 then some (n + 1) else (fun i => if i = 8 then some n else zn i) i) i) i) i) i) i) i) i) i) i) i) i) i) i) i) i) i) i))) (n + 1124) (1, 1, 10, zn)) k (0, 9, 0, (fun i => if i = 33 then some (n + 1124) else (fun i => if i = 32 then some (n + 99) else (fun i => if i = 28 then some (n + 96) else (fun i => if i = 27 then some (n + 92) else (fun i => if i = 26 then some (n + 91) else (fun i => if i = 25 then some (n + 90) else (fun i => if i = 24 then some (n + 59) else (fun i => if i = 23 then some (n + 49) else (fun i => if i = 19 then some (n + 48) else (fun i => if i = 18 then some (n + 47) else (fun i => if i = 17 then some (n + 46) else (fun i => if i = 16 then some (n + 45) else (fun i => if i = 15 then some (n + 34) else (fun i => if i = 14 then some (n + 23) else (fun i => if i = 13 then some (n + 13) else (fun i => if i = 12 then some (n + 4) else (fun i => if i = 11 then some (n + 3) else (fun i => if i = 10 then some (n + 2) else (fun i => if i = 9 then some (n + 1) else (fun i => if i = 8 then some n else zn i) i) i) i) i) i) i) i) i) i) i) i) i) i) i) i) i) i) i) i))) (n + 1125) (1, 0, 10, zn)) k (0, 9, 0, (fun i => if i = 36 then some (n + 1125) else (fun i => if i = 33 then some (n + 1124) else (fun i => if i = 32 then some (n + 99) else (fun i => if i = 28 then some (n + 96) else (fun i => if i = 27 then some (n + 92) else (fun i => if i = 26 then some (n + 91) else (fun i => if i = 25 then some (n + 90) else (fun i => if i = 24 then some (n + 59) else (fun i => if i = 23 then some (n + 49) else (fun i => if i = 19 then some (n + 48) else (fun i => if i = 18 then some (n + 47) else (fun i => if i = 17 then some (n + 46) else (fun i => if i = 16 then some (n + 45) else (fun i => if i = 15 then some (n + 34) else (fun i => if i = 14 then some (n + 23) else (fun i => if i = 13 then some (n + 13) else (fun i => if i = 12 then some (n + 4) else (fun i => if i = 11 then some (n + 3) else (fun i => if i = 10 then some (n + 2) else (fun i => if i = 9 then some (n + 1) else (fun i => if i = 8 then some n else zn i) i) i) i) i) i) i) i) i) i) i) i) i) i) i) i) i) i) i) i) i))) (n + 1126) (1, 0, 2, zn)) k (0, 9, 0, (fun i => if i = 37 then some (n + 1126) else (fun i => if i = 36 then some (n + 1125) else (fun i => if i = 33 then some (n + 1124) else (fun i => if i = 32 then some (n + 99) else (fun i => if i = 28 then some (n + 96) else (fun i => if i = 27 then some (n + 92) else (fun i => if i = 26 then some (n + 91) else (fun i => if i = 25 then some (n + 90) else (fun i => if i = 24 then some (n + 59) else (fun i => if i = 23 then some (n + 49) else (fun i => if i = 19 then some (n + 48) else (fun i => if i = 18 then some (n + 47) else (fun i => if i = 17 then some (n + 46) else (fun i => if i = 16 then some (n + 45) else (fun i => if i = 15 then some (n + 34) else (fun i => if i = 14 then some (n + 23) else (fun i => if i = 13 then some (n + 13) else (fun i => if i = 12 then some (n + 4) else (fun i => if i = 11 then some (n + 3) else (fun i => if i = 10 then some (n + 2) else (fun i => if i = 9 then some (n + 1) else (fun i => if i = 8 then some n else zn i) i) i) i) i) i) i) i) i) i) i) i) i) i) i) i) i) i) i) i) i) i))) (n + 1127) (1, 0, 4, zn)) k (0, 9, 0, (fun i => if i = 38 then some (n + 1127) else (fun i => if i = 37 then some (n + 1126) else (fun i => if i = 36 then some (n + 1125) else (fun i => if i = 33 then some (n + 1124) else (fun i => if i = 32 then some (n + 99) else (fun i => if i = 28 then some (n + 96) else (fun i => if i = 27 then some (n + 92) else (fun i => if i = 26 then some (n + 91) else (fun i => if i = 25 then some (n + 90) else (fun i => if i = 24 then some (n + 59) else (fun i => if i = 23 then some (n + 49) else (fun i => if i = 19 then some (n + 48) else (fun i => if i = 18 then some (n + 47) else (fun i => if i = 17 then some (n + 46) else (fun i => if i = 16 then some (n + 45) else (fun i => if i = 15 then some (n + 34) else (fun i => if i = 14 then some (n + 23) else (fun i => if i = 13 then some (n + 13) else (fun i => if i = 12 then some (n + 4) else (fun i => if i = 11 then some (n + 3) else (fun i => if i = 10 then some (n + 2) else (fun i => if i = 9 then some (n + 1) else (fun i => if i = 8 then some n else zn i) i) i) i) i) i) i) i) i) i) i) i) i) i) i) i) i) i) i) i) i) i) i))) (n + 1128) (1, 0, 4, zn)) k (0, 9, 0, (fun i => if i = 39 then some (n + 1128) else (fun i => if i = 38 then some (n + 1127) else (fun i => if i = 37 then some (n + 1126) else (fun i => if i = 36 then some (n + 1125) else (fun i => if i = 33 then some (n + 1124) else (fun i => if i = 32 then some (n + 99) else (fun i => if i = 28 then some (n + 96) else (fun i => if i = 27 then some (n + 92) else (fun i => if i = 26 then some (n + 91) else (fun i => if i = 25 then some (n + 90) else (fun i => if i = 24 then some (n + 59) else (fun i => if i = 23 then some (n + 49) else (fun i => if i = 19 then some (n + 48) else (fun i => if i = 18 then some (n + 47) else (fun i => if i = 17 then some (n + 46) else (fun i => if i = 16 then some (n + 45) else (fun i => if i = 15 then some (n + 34) else (fun i => if i = 14 then some (n + 23) else (fun i => if i = 13 then some (n + 13) else (fun i => if i = 12 then some (n + 4) else (fun i => if i = 11 then some (n + 3) else (fun i => if i = 10 then some (n + 2) else (fun i => if i = 9 then some (n + 1) else (fun i => if i = 8 then some n else zn i) i) i) i) i) i) i) i) i) i) i) i) i) i) i) i) i) i) i) i) i) i) i) i))) (n + 1129) (1, 0, 6561, zn)) k (0, 9, 0, (fun i => if i = 41 then some (n + 1129) else (fun i => if i = 39 then some (n + 1128) else (fun i => if i = 38 then some (n + 1127) else (fun i => if i = 37 then some (n + 1126) else (fun i => if i = 36 then some (n + 1125) else (fun i => if i = 33 then some (n + 1124) else (fun i => if i = 32 then some (n + 99) else (fun i => if i = 28 then some (n + 96) else (fun i => if i = 27 then some (n + 92) else (fun i => if i = 26 then some (n + 91) else (fun i => if i = 25 then some (n + 90) else (fun i => if i = 24 then some (n + 59) else (fun i => if i = 23 then some (n + 49) else (fun i => if i = 19 then some (n + 48) else (fun i => if i = 18 then some (n + 47) else (fun i => if i = 17 then some (n + 46) else (fun i => if i = 16 then some (n + 45) else (fun i => if i = 15 then some (n + 34) else (fun i => if i = 14 then some (n + 23) else (fun i => if i = 13 then some (n + 13) else (fun i => if i = 12 then some (n + 4) else (fun i => if i = 11 then some (n + 3) else (fun i => if i = 10 then some (n + 2) else (fun i => if i = 9 then some (n + 1) else (fun i => if i = 8 then some n else zn i) i) i) i) i) i) i) i) i) i) i) i) i) i) i) i) i) i) i) i) i) i) i) i) i))) (n + 1130) (1, 0, 6561, zn)) k (0, 9, 0, (fun i => if i = 42 then some (n + 1130) else (fun i => if i = 41 then some (n + 1129) else (fun i => if i = 39 then some (n + 1128) else (fun i => if i = 38 then some (n + 1127) else (fun i => if i = 37 then some (n + 1126) else (fun i => if i = 36 then some (n + 1125) else (fun i => if i = 33 then some (n + 1124) else (fun i => if i = 32 then some (n + 99) else (fun i => if i = 28 then some (n + 96) else (fun i => if i = 27 then some (n + 92) else (fun i => if i = 26 then some (n + 91) else (fun i => if i = 25 then some (n + 90) else (fun i => if i = 24 then some (n + 59) else (fun i => if i = 23 then some (n + 49) else (fun i => if i = 19 then some (n + 48) else (fun i => if i = 18 then some (n + 47) else (fun i => if i = 17 then some (n + 46) else (fun i => if i = 16 then some (n + 45) else (fun i => if i = 15 then some (n + 34) else (fun i => if i = 14 then some (n + 23) else (fun i => if i = 13 then some (n + 13) else (fun i => if i = 12 then some (n + 4) else (fun i => if i = 11 then some (n + 3) else (fun i => if i = 10 then some (n + 2) else (fun i => if i = 9 then some (n + 1) else (fun i => if i = 8 then some n else zn i) i) i) i) i) i) i) i) i) i) i) i) i) i) i) i) i) i) i) i) i) i) i) i) i) i))) (n + 1131) (1, 0, 6561, zn)) k (0, 9, 0, (fun i => if i = 43 then some (n + 1131) else (fun i => if i = 42 then some (n + 1130) else (fun i => if i = 41 then some (n + 1129) else (fun i => if i = 39 then some (n + 1128) else (fun i => if i = 38 then some (n + 1127) else (fun i => if i = 37 then some (n + 1126) else (fun i => if i = 36 then some (n + 1125) else (fun i => if i = 33 then some (n + 1124) else (fun i => if i = 32 then some (n + 99) else (fun i => if i = 28 then some (n + 96) else (fun i => if i = 27 then some (n + 92) else (fun i => if i = 26 then some (n + 91) else (fun i => if i = 25 then some (n + 90) else (fun i => if i = 24 then some (n + 59) else (fun i => if i = 23 then some (n + 49) else (fun i => if i = 19 then some (n + 48) else (fun i => if i = 18 then some (n + 47) else (fun i => if i = 17 then some (n + 46) else (fun i => if i = 16 then some (n + 45) else (fun i => if i = 15 then some (n + 34) else (fun i => if i = 14 then some (n + 23) else (fun i => if i = 13 then some (n + 13) else (fun i => if i = 12 then some (n + 4) else (fun i => if i = 11 then some (n + 3) else (fun i => if i = 10 then some (n + 2) else (fun i => if i = 9 then some (n + 1) else (fun i => if i = 8 then some n else zn i) i) i) i) i) i) i) i) i) i) i) i) i) i) i) i) i) i) i) i) i) i) i) i) i) i) i))) (n + 1132) (1, 0, 6561, zn)) k (0, 9, 0, (fun i => if i = 44 then some (n + 1132) else (fun i => if i = 43 then some (n + 1131) else (fun i => if i = 42 then some (n + 1130) else (fun i => if i = 41 then some (n + 1129) else (fun i => if i = 39 then some (n + 1128) else (fun i => if i = 38 then some (n + 1127) else (fun i => if i = 37 then some (n + 1126) else (fun i => if i = 36 then some (n + 1125) else (fun i => if i = 33 then some (n + 1124) else (fun i => if i = 32 then some (n + 99) else (fun i => if i = 28 then some (n + 96) else (fun i => if i = 27 then some (n + 92) else (fun i => if i = 26 then some (n + 91) else (fun i => if i = 25 then some (n + 90) else (fun i => if i = 24 then some (n + 59) else (fun i => if i = 23 then some (n + 49) else (fun i => if i = 19 then some (n + 48) else (fun i => if i = 18 then some (n + 47) else (fun i => if i = 17 then some (n + 46) else (fun i => if i = 16 then some (n + 45) else (fun i => if i = 15 then some (n + 34) else (fun i => if i = 14 then some (n + 23) else (fun i => if i = 13 then some (n + 13) else (fun i => if i = 12 then some (n + 4) else (fun i => if i = 11 then some (n + 3) else (fun i => if i = 10 then some (n + 2) else (fun i => if i = 9 then some (n + 1) else (fun i => if i = 8 then some n else zn i) i) i) i) i) i) i) i) i) i) i) i) i) i) i) i) i) i) i) i) i) i) i) i) i) i) i) i)))
def cM9 (k n : Nat) (μ : zMem) : zMem := (zup (zup (zup (zup (zup (zup (zup (zup (zup (zupN (zset (zupN (zupN (zup (zup (zupN (zupN (zup (zup (zup (zup (zupN (zupN (zupN (zupN (zup (zup (zup (zup (zset μ k 3 (-1 : Int32)) n (fun _ => 0)) (n + 1) (fun _ => 0)) (n + 2) (fun _ => 0)) (n + 3) (fun _ => 0)) (n + 4) 8) (n + 13) 9) (n + 23) 10) (n + 34) 10) (n + 45) (fun _ => 0)) (n + 46) (fun _ => 0)) (n + 47) (fun _ => 0)) (n + 48) (fun _ => 0)) (n + 49) 9) (n + 59) 30) (n + 90) (fun _ => 0)) (n + 91) (fun _ => 0)) (n + 92) 3) (n + 96) 2) k 30 (-1 : Int32)) (n + 99) 1024) (n + 1124) (fun _ => 0)) (n + 1125) (fun _ => 0)) (n + 1126) (fun _ => 0)) (n + 1127) (fun _ => 0)) (n + 1128) (fun _ => 0)) (n + 1129) (fun _ => 0)) (n + 1130) (fun _ => 0)) (n + 1131) (fun _ => 0)) (n + 1132) (fun _ => 0))
set_option maxHeartbeats 4000000 in
theorem tc9 {k n : Nat} {S : Nat → zSh} {μ : zMem} (hwf : zWf n S) (hb : k < n) (hs : S k = (0, 9, 0, zn)) (hn : n + 1133 ≤ 1000000) : zM yX9_init cX9_init 1 none 2 [.ref k] n S μ (.inl none, n + 1133, cS9 k n S, cM9 k n μ, 1133, 554117) := by
  refine zM_of (by decide +kernel) (by simp [Value.category]) (by simp) (Nat.le_of_ble_eq_true rfl) ?_
  show zAW _ _ _ _ _ _ [.ref k] _ _ _ _ _
  unfold cS9 cM9
  refine zA_aload_n (pc := 0) dX9_init_0 rfl ?_
  refine zA_objInit (pc := 1) koX9_1 zoi zoc (by decide) (Nat.le_of_ble_eq_true rfl) dX9_init_1 ?_
  refine zA_aload_n (pc := 4) dX9_init_4 rfl ?_
  refine zA_iconst (pc := 5) (-1 : Int32) dX9_init_5 (by decide) ?_
  refine zA_puti (pc := 6) fdX9_9 hb hs rfl rfl dX9_init_6 ?_
  refine zA_aload_n (pc := 9) dX9_init_9 rfl ?_
  refine zA_sipush (pc := 10) (500 : Int32) dX9_init_10 (by decide) ?_
  refine zA_newi (pc := 13) (N := 500) (w := (500 : Int32)) hwf hs hb (by omega) (by simp only [List.mem_cons, List.not_mem_nil, or_false, forall_eq_or_imp, forall_eq, ne_eq, zrefEq, reduceCtorEq, not_false_eq_true, and_true, true_and, false_implies, implies_true] <;> omega) (by simp only [List.mem_cons, List.not_mem_nil, or_false, forall_eq_or_imp, forall_eq, ne_eq, zrefEq, reduceCtorEq, not_false_eq_true, and_true, true_and, false_implies, implies_true] <;> omega) zai (by decide) (by decide) (by decide) dX9_init_13 (fun hwf hs => ?_)
  have hb := Nat.lt_succ_of_lt hb
  refine zA_putr (pc := 15) fdX9_13 hwf hb (by omega) hs rfl (Or.inr ⟨rfl, rfl, rfl, TX9, 46, rfl, flX9_13⟩) dX9_init_15 (fun hwf hs => ?_)
  refine zA_aload_n (pc := 18) dX9_init_18 rfl ?_
  refine zA_sipush (pc := 19) (600 : Int32) dX9_init_19 (by decide) ?_
  refine zA_newi (pc := 22) (N := 600) (w := (600 : Int32)) hwf hs hb (by omega) (by simp only [List.mem_cons, List.not_mem_nil, or_false, forall_eq_or_imp, forall_eq, ne_eq, zrefEq, reduceCtorEq, not_false_eq_true, and_true, true_and, false_implies, implies_true] <;> omega) (by simp only [List.mem_cons, List.not_mem_nil, or_false, forall_eq_or_imp, forall_eq, ne_eq, zrefEq, reduceCtorEq, not_false_eq_true, and_true, true_and, false_implies, implies_true] <;> omega) zai (by decide) (by decide) (by decide) dX9_init_22 (fun hwf hs => ?_)
  have hb := Nat.lt_succ_of_lt hb
  refine zA_putr (pc := 24) fdX9_17 hwf hb (by omega) hs rfl (Or.inr ⟨rfl, rfl, rfl, TX9, 46, rfl, flX9_17⟩) dX9_init_24 (fun hwf hs => ?_)
  refine zA_aload_n (pc := 27) dX9_init_27 rfl ?_
  refine zA_bipush (pc := 28) (6 : Int32) dX9_init_28 (by decide) ?_
  refine zA_newi (pc := 30) (N := 6) (w := (6 : Int32)) hwf hs hb (by omega) (by simp only [List.mem_cons, List.not_mem_nil, or_false, forall_eq_or_imp, forall_eq, ne_eq, zrefEq, reduceCtorEq, not_false_eq_true, and_true, true_and, false_implies, implies_true] <;> omega) (by simp only [List.mem_cons, List.not_mem_nil, or_false, forall_eq_or_imp, forall_eq, ne_eq, zrefEq, reduceCtorEq, not_false_eq_true, and_true, true_and, false_implies, implies_true] <;> omega) zai (by decide) (by decide) (by decide) dX9_init_30 (fun hwf hs => ?_)
  have hb := Nat.lt_succ_of_lt hb
  refine zA_putr (pc := 32) fdX9_20 hwf hb (by omega) hs rfl (Or.inr ⟨rfl, rfl, rfl, TX9, 46, rfl, flX9_20⟩) dX9_init_32 (fun hwf hs => ?_)
  refine zA_aload_n (pc := 35) dX9_init_35 rfl ?_
  refine zA_bipush (pc := 36) (6 : Int32) dX9_init_36 (by decide) ?_
  refine zA_newi (pc := 38) (N := 6) (w := (6 : Int32)) hwf hs hb (by omega) (by simp only [List.mem_cons, List.not_mem_nil, or_false, forall_eq_or_imp, forall_eq, ne_eq, zrefEq, reduceCtorEq, not_false_eq_true, and_true, true_and, false_implies, implies_true] <;> omega) (by simp only [List.mem_cons, List.not_mem_nil, or_false, forall_eq_or_imp, forall_eq, ne_eq, zrefEq, reduceCtorEq, not_false_eq_true, and_true, true_and, false_implies, implies_true] <;> omega) zai (by decide) (by decide) (by decide) dX9_init_38 (fun hwf hs => ?_)
  have hb := Nat.lt_succ_of_lt hb
  refine zA_putr (pc := 40) fdX9_23 hwf hb (by omega) hs rfl (Or.inr ⟨rfl, rfl, rfl, TX9, 46, rfl, flX9_23⟩) dX9_init_40 (fun hwf hs => ?_)
  refine zA_aload_n (pc := 43) dX9_init_43 rfl ?_
  refine zA_bipush (pc := 44) (8 : Int32) dX9_init_44 (by decide) ?_
  refine zA_bipush (pc := 46) (6 : Int32) dX9_init_46 (by decide) ?_
  refine zA_mna (pc := 48) (t0 := 0) (t := 2) (N := 8) (M := 6) (w := (8 : Int32)) (v := (6 : Int32)) hwf hs hb (by omega) (by simp only [List.mem_cons, List.not_mem_nil, or_false, forall_eq_or_imp, forall_eq, zltEq, reduceCtorEq, false_implies, implies_true, and_true, true_and] <;> omega) (by simp only [List.mem_cons, List.not_mem_nil, or_false, forall_eq_or_imp, forall_eq, zltEq, reduceCtorEq, false_implies, implies_true, and_true, true_and] <;> omega) kmX9_26 zov0 zai (Or.inl ⟨rfl, rfl, rfl⟩) (by decide) (by decide) (by decide) (by decide) (by decide) dX9_init_48 (fun hwf hs => ?_)
  have hb : k < n + 13 := by omega
  refine zA_putr (pc := 52) fdX9_28 hwf hb (by omega) hs rfl (Or.inr ⟨rfl, rfl, rfl, TX9, 46, rfl, flX9_28⟩) dX9_init_52 (fun hwf hs => ?_)
  refine zA_aload_n (pc := 55) dX9_init_55 rfl ?_
  refine zA_bipush (pc := 56) (9 : Int32) dX9_init_56 (by decide) ?_
  refine zA_bipush (pc := 58) (6 : Int32) dX9_init_58 (by decide) ?_
  refine zA_mna (pc := 60) (t0 := 0) (t := 2) (N := 9) (M := 6) (w := (9 : Int32)) (v := (6 : Int32)) hwf hs hb (by omega) (by simp only [List.mem_cons, List.not_mem_nil, or_false, forall_eq_or_imp, forall_eq, zltEq, reduceCtorEq, false_implies, implies_true, and_true, true_and] <;> omega) (by simp only [List.mem_cons, List.not_mem_nil, or_false, forall_eq_or_imp, forall_eq, zltEq, reduceCtorEq, false_implies, implies_true, and_true, true_and] <;> omega) kmX9_26 zov0 zai (Or.inl ⟨rfl, rfl, rfl⟩) (by decide) (by decide) (by decide) (by decide) (by decide) dX9_init_60 (fun hwf hs => ?_)
  have hb : k < n + 23 := by omega
  refine zA_putr (pc := 64) fdX9_31 hwf hb (by omega) hs rfl (Or.inr ⟨rfl, rfl, rfl, TX9, 46, rfl, flX9_31⟩) dX9_init_64 (fun hwf hs => ?_)
  refine zA_aload_n (pc := 67) dX9_init_67 rfl ?_
  refine zA_bipush (pc := 68) (10 : Int32) dX9_init_68 (by decide) ?_
  refine zA_iconst (pc := 70) (4 : Int32) dX9_init_70 (by decide) ?_
  refine zA_mna (pc := 71) (t0 := 0) (t := 2) (N := 10) (M := 4) (w := (10 : Int32)) (v := (4 : Int32)) hwf hs hb (by omega) (by simp only [List.mem_cons, List.not_mem_nil, or_false, forall_eq_or_imp, forall_eq, zltEq, reduceCtorEq, false_implies, implies_true, and_true, true_and] <;> omega) (by simp only [List.mem_cons, List.not_mem_nil, or_false, forall_eq_or_imp, forall_eq, zltEq, reduceCtorEq, false_implies, implies_true, and_true, true_and] <;> omega) kmX9_26 zov0 zai (Or.inl ⟨rfl, rfl, rfl⟩) (by decide) (by decide) (by decide) (by decide) (by decide) dX9_init_71 (fun hwf hs => ?_)
  have hb : k < n + 34 := by omega
  refine zA_putr (pc := 75) fdX9_34 hwf hb (by omega) hs rfl (Or.inr ⟨rfl, rfl, rfl, TX9, 46, rfl, flX9_34⟩) dX9_init_75 (fun hwf hs => ?_)
  refine zA_aload_n (pc := 78) dX9_init_78 rfl ?_
  refine zA_bipush (pc := 79) (10 : Int32) dX9_init_79 (by decide) ?_
  refine zA_iconst (pc := 81) (4 : Int32) dX9_init_81 (by decide) ?_
  refine zA_mna (pc := 82) (t0 := 0) (t := 2) (N := 10) (M := 4) (w := (10 : Int32)) (v := (4 : Int32)) hwf hs hb (by omega) (by simp only [List.mem_cons, List.not_mem_nil, or_false, forall_eq_or_imp, forall_eq, zltEq, reduceCtorEq, false_implies, implies_true, and_true, true_and] <;> omega) (by simp only [List.mem_cons, List.not_mem_nil, or_false, forall_eq_or_imp, forall_eq, zltEq, reduceCtorEq, false_implies, implies_true, and_true, true_and] <;> omega) kmX9_26 zov0 zai (Or.inl ⟨rfl, rfl, rfl⟩) (by decide) (by decide) (by decide) (by decide) (by decide) dX9_init_82 (fun hwf hs => ?_)
  have hb : k < n + 45 := by omega
  refine zA_putr (pc := 86) fdX9_37 hwf hb (by omega) hs rfl (Or.inr ⟨rfl, rfl, rfl, TX9, 46, rfl, flX9_37⟩) dX9_init_86 (fun hwf hs => ?_)
  refine zA_aload_n (pc := 89) dX9_init_89 rfl ?_
  refine zA_bipush (pc := 90) (7 : Int32) dX9_init_90 (by decide) ?_
  refine zA_newi (pc := 92) (N := 7) (w := (7 : Int32)) hwf hs hb (by omega) (by simp only [List.mem_cons, List.not_mem_nil, or_false, forall_eq_or_imp, forall_eq, ne_eq, zrefEq, reduceCtorEq, not_false_eq_true, and_true, true_and, false_implies, implies_true] <;> omega) (by simp only [List.mem_cons, List.not_mem_nil, or_false, forall_eq_or_imp, forall_eq, ne_eq, zrefEq, reduceCtorEq, not_false_eq_true, and_true, true_and, false_implies, implies_true] <;> omega) zai (by decide) (by decide) (by decide) dX9_init_92 (fun hwf hs => ?_)
  have hb := Nat.lt_succ_of_lt hb
  refine zA_putr (pc := 94) fdX9_40 hwf hb (by omega) hs rfl (Or.inr ⟨rfl, rfl, rfl, TX9, 46, rfl, flX9_40⟩) dX9_init_94 (fun hwf hs => ?_)
  refine zA_aload_n (pc := 97) dX9_init_97 rfl ?_
  refine zA_bipush (pc := 98) (7 : Int32) dX9_init_98 (by decide) ?_
  refine zA_newi (pc := 100) (N := 7) (w := (7 : Int32)) hwf hs hb (by omega) (by simp only [List.mem_cons, List.not_mem_nil, or_false, forall_eq_or_imp, forall_eq, ne_eq, zrefEq, reduceCtorEq, not_false_eq_true, and_true, true_and, false_implies, implies_true] <;> omega) (by simp only [List.mem_cons, List.not_mem_nil, or_false, forall_eq_or_imp, forall_eq, ne_eq, zrefEq, reduceCtorEq, not_false_eq_true, and_true, true_and, false_implies, implies_true] <;> omega) zai (by decide) (by decide) (by decide) dX9_init_100 (fun hwf hs => ?_)
  have hb := Nat.lt_succ_of_lt hb
  refine zA_putr (pc := 102) fdX9_43 hwf hb (by omega) hs rfl (Or.inr ⟨rfl, rfl, rfl, TX9, 46, rfl, flX9_43⟩) dX9_init_102 (fun hwf hs => ?_)
  refine zA_aload_n (pc := 105) dX9_init_105 rfl ?_
  refine zA_bipush (pc := 106) (8 : Int32) dX9_init_106 (by decide) ?_
  refine zA_newi (pc := 108) (N := 8) (w := (8 : Int32)) hwf hs hb (by omega) (by simp only [List.mem_cons, List.not_mem_nil, or_false, forall_eq_or_imp, forall_eq, ne_eq, zrefEq, reduceCtorEq, not_false_eq_true, and_true, true_and, false_implies, implies_true] <;> omega) (by simp only [List.mem_cons, List.not_mem_nil, or_false, forall_eq_or_imp, forall_eq, ne_eq, zrefEq, reduceCtorEq, not_false_eq_true, and_true, true_and, false_implies, implies_true] <;> omega) zai (by decide) (by decide) (by decide) dX9_init_108 (fun hwf hs => ?_)
  have hb := Nat.lt_succ_of_lt hb
  refine zA_putr (pc := 110) fdX9_46 hwf hb (by omega) hs rfl (Or.inr ⟨rfl, rfl, rfl, TX9, 46, rfl, flX9_46⟩) dX9_init_110 (fun hwf hs => ?_)
  refine zA_aload_n (pc := 113) dX9_init_113 rfl ?_
  refine zA_bipush (pc := 114) (9 : Int32) dX9_init_114 (by decide) ?_
  refine zA_newi (pc := 116) (N := 9) (w := (9 : Int32)) hwf hs hb (by omega) (by simp only [List.mem_cons, List.not_mem_nil, or_false, forall_eq_or_imp, forall_eq, ne_eq, zrefEq, reduceCtorEq, not_false_eq_true, and_true, true_and, false_implies, implies_true] <;> omega) (by simp only [List.mem_cons, List.not_mem_nil, or_false, forall_eq_or_imp, forall_eq, ne_eq, zrefEq, reduceCtorEq, not_false_eq_true, and_true, true_and, false_implies, implies_true] <;> omega) zai (by decide) (by decide) (by decide) dX9_init_116 (fun hwf hs => ?_)
  have hb := Nat.lt_succ_of_lt hb
  refine zA_putr (pc := 118) fdX9_49 hwf hb (by omega) hs rfl (Or.inr ⟨rfl, rfl, rfl, TX9, 46, rfl, flX9_49⟩) dX9_init_118 (fun hwf hs => ?_)
  refine zA_aload_n (pc := 121) dX9_init_121 rfl ?_
  refine zA_bipush (pc := 122) (9 : Int32) dX9_init_122 (by decide) ?_
  refine zA_iconst (pc := 124) (4 : Int32) dX9_init_124 (by decide) ?_
  refine zA_mna (pc := 125) (t0 := 0) (t := 2) (N := 9) (M := 4) (w := (9 : Int32)) (v := (4 : Int32)) hwf hs hb (by omega) (by simp only [List.mem_cons, List.not_mem_nil, or_false, forall_eq_or_imp, forall_eq, zltEq, reduceCtorEq, false_implies, implies_true, and_true, true_and] <;> omega) (by simp only [List.mem_cons, List.not_mem_nil, or_false, forall_eq_or_imp, forall_eq, zltEq, reduceCtorEq, false_implies, implies_true, and_true, true_and] <;> omega) kmX9_26 zov0 zai (Or.inl ⟨rfl, rfl, rfl⟩) (by decide) (by decide) (by decide) (by decide) (by decide) dX9_init_125 (fun hwf hs => ?_)
  have hb : k < n + 59 := by omega
  refine zA_putr (pc := 129) fdX9_52 hwf hb (by omega) hs rfl (Or.inr ⟨rfl, rfl, rfl, TX9, 46, rfl, flX9_52⟩) dX9_init_129 (fun hwf hs => ?_)
  refine zA_aload_n (pc := 132) dX9_init_132 rfl ?_
  refine zA_bipush (pc := 133) (30 : Int32) dX9_init_133 (by decide) ?_
  refine zA_iconst (pc := 135) (4 : Int32) dX9_init_135 (by decide) ?_
  refine zA_mna (pc := 136) (t0 := 0) (t := 2) (N := 30) (M := 4) (w := (30 : Int32)) (v := (4 : Int32)) hwf hs hb (by omega) (by simp only [List.mem_cons, List.not_mem_nil, or_false, forall_eq_or_imp, forall_eq, zltEq, reduceCtorEq, false_implies, implies_true, and_true, true_and] <;> omega) (by simp only [List.mem_cons, List.not_mem_nil, or_false, forall_eq_or_imp, forall_eq, zltEq, reduceCtorEq, false_implies, implies_true, and_true, true_and] <;> omega) kmX9_26 zov0 zai (Or.inl ⟨rfl, rfl, rfl⟩) (by decide) (by decide) (by decide) (by decide) (by decide) dX9_init_136 (fun hwf hs => ?_)
  have hb : k < n + 90 := by omega
  refine zA_putr (pc := 140) fdX9_55 hwf hb (by omega) hs rfl (Or.inr ⟨rfl, rfl, rfl, TX9, 46, rfl, flX9_55⟩) dX9_init_140 (fun hwf hs => ?_)
  refine zA_aload_n (pc := 143) dX9_init_143 rfl ?_
  refine zA_bipush (pc := 144) (9 : Int32) dX9_init_144 (by decide) ?_
  refine zA_newi (pc := 146) (N := 9) (w := (9 : Int32)) hwf hs hb (by omega) (by simp only [List.mem_cons, List.not_mem_nil, or_false, forall_eq_or_imp, forall_eq, ne_eq, zrefEq, reduceCtorEq, not_false_eq_true, and_true, true_and, false_implies, implies_true] <;> omega) (by simp only [List.mem_cons, List.not_mem_nil, or_false, forall_eq_or_imp, forall_eq, ne_eq, zrefEq, reduceCtorEq, not_false_eq_true, and_true, true_and, false_implies, implies_true] <;> omega) zai (by decide) (by decide) (by decide) dX9_init_146 (fun hwf hs => ?_)
  have hb := Nat.lt_succ_of_lt hb
  refine zA_putr (pc := 148) fdX9_58 hwf hb (by omega) hs rfl (Or.inr ⟨rfl, rfl, rfl, TX9, 46, rfl, flX9_58⟩) dX9_init_148 (fun hwf hs => ?_)
  refine zA_aload_n (pc := 151) dX9_init_151 rfl ?_
  refine zA_bipush (pc := 152) (10 : Int32) dX9_init_152 (by decide) ?_
  refine zA_newi (pc := 154) (N := 10) (w := (10 : Int32)) hwf hs hb (by omega) (by simp only [List.mem_cons, List.not_mem_nil, or_false, forall_eq_or_imp, forall_eq, ne_eq, zrefEq, reduceCtorEq, not_false_eq_true, and_true, true_and, false_implies, implies_true] <;> omega) (by simp only [List.mem_cons, List.not_mem_nil, or_false, forall_eq_or_imp, forall_eq, ne_eq, zrefEq, reduceCtorEq, not_false_eq_true, and_true, true_and, false_implies, implies_true] <;> omega) zai (by decide) (by decide) (by decide) dX9_init_154 (fun hwf hs => ?_)
  have hb := Nat.lt_succ_of_lt hb
  refine zA_putr (pc := 156) fdX9_61 hwf hb (by omega) hs rfl (Or.inr ⟨rfl, rfl, rfl, TX9, 46, rfl, flX9_61⟩) dX9_init_156 (fun hwf hs => ?_)
  refine zA_aload_n (pc := 159) dX9_init_159 rfl ?_
  refine zA_iconst (pc := 160) (3 : Int32) dX9_init_160 (by decide) ?_
  refine zA_sipush (pc := 161) (190 : Int32) dX9_init_161 (by decide) ?_
  refine zA_mna (pc := 164) (t0 := 0) (t := 2) (N := 3) (M := 190) (w := (3 : Int32)) (v := (190 : Int32)) hwf hs hb (by omega) (by simp only [List.mem_cons, List.not_mem_nil, or_false, forall_eq_or_imp, forall_eq, zltEq, reduceCtorEq, false_implies, implies_true, and_true, true_and] <;> omega) (by simp only [List.mem_cons, List.not_mem_nil, or_false, forall_eq_or_imp, forall_eq, zltEq, reduceCtorEq, false_implies, implies_true, and_true, true_and] <;> omega) kmX9_26 zov0 zai (Or.inl ⟨rfl, rfl, rfl⟩) (by decide) (by decide) (by decide) (by decide) (by decide) dX9_init_164 (fun hwf hs => ?_)
  have hb : k < n + 96 := by omega
  refine zA_putr (pc := 168) fdX9_64 hwf hb (by omega) hs rfl (Or.inr ⟨rfl, rfl, rfl, TX9, 46, rfl, flX9_64⟩) dX9_init_168 (fun hwf hs => ?_)
  refine zA_aload_n (pc := 171) dX9_init_171 rfl ?_
  refine zA_iconst (pc := 172) (2 : Int32) dX9_init_172 (by decide) ?_
  refine zA_sipush (pc := 173) (190 : Int32) dX9_init_173 (by decide) ?_
  refine zA_mna (pc := 176) (t0 := 0) (t := 2) (N := 2) (M := 190) (w := (2 : Int32)) (v := (190 : Int32)) hwf hs hb (by omega) (by simp only [List.mem_cons, List.not_mem_nil, or_false, forall_eq_or_imp, forall_eq, zltEq, reduceCtorEq, false_implies, implies_true, and_true, true_and] <;> omega) (by simp only [List.mem_cons, List.not_mem_nil, or_false, forall_eq_or_imp, forall_eq, zltEq, reduceCtorEq, false_implies, implies_true, and_true, true_and] <;> omega) kmX9_26 zov0 zai (Or.inl ⟨rfl, rfl, rfl⟩) (by decide) (by decide) (by decide) (by decide) (by decide) dX9_init_176 (fun hwf hs => ?_)
  have hb : k < n + 99 := by omega
  refine zA_putr (pc := 180) fdX9_67 hwf hb (by omega) hs rfl (Or.inr ⟨rfl, rfl, rfl, TX9, 46, rfl, flX9_67⟩) dX9_init_180 (fun hwf hs => ?_)
  refine zA_aload_n (pc := 183) dX9_init_183 rfl ?_
  refine zA_iconst (pc := 184) (-1 : Int32) dX9_init_184 (by decide) ?_
  refine zA_puti (pc := 185) fdX9_70 hb hs rfl rfl dX9_init_185 ?_
  refine zA_aload_n (pc := 188) dX9_init_188 rfl ?_
  refine zA_sipush (pc := 189) (1024 : Int32) dX9_init_189 (by decide) ?_
  refine zA_sipush (pc := 192) (512 : Int32) dX9_init_192 (by decide) ?_
  refine zA_mna (pc := 195) (t0 := 1) (t := 3) (N := 1024) (M := 512) (w := (1024 : Int32)) (v := (512 : Int32)) hwf hs hb (by omega) (by simp only [List.mem_cons, List.not_mem_nil, or_false, forall_eq_or_imp, forall_eq, zltEq, reduceCtorEq, false_implies, implies_true, and_true, true_and] <;> omega) (by simp only [List.mem_cons, List.not_mem_nil, or_false, forall_eq_or_imp, forall_eq, zltEq, reduceCtorEq, false_implies, implies_true, and_true, true_and] <;> omega) kmX9_73 zov1 zaz (Or.inr ⟨rfl, rfl, rfl⟩) (by decide) (by decide) (by decide) (by decide) (by decide) dX9_init_195 (fun hwf hs => ?_)
  have hb : k < n + 1124 := by omega
  refine zA_putr (pc := 199) fdX9_75 hwf hb (by omega) hs rfl (Or.inr ⟨rfl, rfl, rfl, TX9, 46, rfl, flX9_75⟩) dX9_init_199 (fun hwf hs => ?_)
  refine zA_aload_n (pc := 202) dX9_init_202 rfl ?_
  refine zA_bipush (pc := 203) (10 : Int32) dX9_init_203 (by decide) ?_
  refine zA_newz (pc := 205) (N := 10) (w := (10 : Int32)) hwf hs hb (by omega) (by simp only [List.mem_cons, List.not_mem_nil, or_false, forall_eq_or_imp, forall_eq, ne_eq, zrefEq, reduceCtorEq, not_false_eq_true, and_true, true_and, false_implies, implies_true] <;> omega) (by simp only [List.mem_cons, List.not_mem_nil, or_false, forall_eq_or_imp, forall_eq, ne_eq, zrefEq, reduceCtorEq, not_false_eq_true, and_true, true_and, false_implies, implies_true] <;> omega) zaz (by decide) (by decide) (by decide) dX9_init_205 (fun hwf hs => ?_)
  have hb := Nat.lt_succ_of_lt hb
  refine zA_putr (pc := 207) fdX9_78 hwf hb (by omega) hs rfl (Or.inr ⟨rfl, rfl, rfl, TX9, 46, rfl, flX9_78⟩) dX9_init_207 (fun hwf hs => ?_)
  refine zA_aload_n (pc := 210) dX9_init_210 rfl ?_
  refine zA_bipush (pc := 211) (10 : Int32) dX9_init_211 (by decide) ?_
  refine zA_newi (pc := 213) (N := 10) (w := (10 : Int32)) hwf hs hb (by omega) (by simp only [List.mem_cons, List.not_mem_nil, or_false, forall_eq_or_imp, forall_eq, ne_eq, zrefEq, reduceCtorEq, not_false_eq_true, and_true, true_and, false_implies, implies_true] <;> omega) (by simp only [List.mem_cons, List.not_mem_nil, or_false, forall_eq_or_imp, forall_eq, ne_eq, zrefEq, reduceCtorEq, not_false_eq_true, and_true, true_and, false_implies, implies_true] <;> omega) zai (by decide) (by decide) (by decide) dX9_init_213 (fun hwf hs => ?_)
  have hb := Nat.lt_succ_of_lt hb
  refine zA_putr (pc := 215) fdX9_82 hwf hb (by omega) hs rfl (Or.inr ⟨rfl, rfl, rfl, TX9, 46, rfl, flX9_82⟩) dX9_init_215 (fun hwf hs => ?_)
  refine zA_aload_n (pc := 218) dX9_init_218 rfl ?_
  refine zA_iconst (pc := 219) (2 : Int32) dX9_init_219 (by decide) ?_
  refine zA_newi (pc := 220) (N := 2) (w := (2 : Int32)) hwf hs hb (by omega) (by simp only [List.mem_cons, List.not_mem_nil, or_false, forall_eq_or_imp, forall_eq, ne_eq, zrefEq, reduceCtorEq, not_false_eq_true, and_true, true_and, false_implies, implies_true] <;> omega) (by simp only [List.mem_cons, List.not_mem_nil, or_false, forall_eq_or_imp, forall_eq, ne_eq, zrefEq, reduceCtorEq, not_false_eq_true, and_true, true_and, false_implies, implies_true] <;> omega) zai (by decide) (by decide) (by decide) dX9_init_220 (fun hwf hs => ?_)
  have hb := Nat.lt_succ_of_lt hb
  refine zA_putr (pc := 222) fdX9_85 hwf hb (by omega) hs rfl (Or.inr ⟨rfl, rfl, rfl, TX9, 46, rfl, flX9_85⟩) dX9_init_222 (fun hwf hs => ?_)
  refine zA_aload_n (pc := 225) dX9_init_225 rfl ?_
  refine zA_iconst (pc := 226) (4 : Int32) dX9_init_226 (by decide) ?_
  refine zA_newi (pc := 227) (N := 4) (w := (4 : Int32)) hwf hs hb (by omega) (by simp only [List.mem_cons, List.not_mem_nil, or_false, forall_eq_or_imp, forall_eq, ne_eq, zrefEq, reduceCtorEq, not_false_eq_true, and_true, true_and, false_implies, implies_true] <;> omega) (by simp only [List.mem_cons, List.not_mem_nil, or_false, forall_eq_or_imp, forall_eq, ne_eq, zrefEq, reduceCtorEq, not_false_eq_true, and_true, true_and, false_implies, implies_true] <;> omega) zai (by decide) (by decide) (by decide) dX9_init_227 (fun hwf hs => ?_)
  have hb := Nat.lt_succ_of_lt hb
  refine zA_putr (pc := 229) fdX9_88 hwf hb (by omega) hs rfl (Or.inr ⟨rfl, rfl, rfl, TX9, 46, rfl, flX9_88⟩) dX9_init_229 (fun hwf hs => ?_)
  refine zA_aload_n (pc := 232) dX9_init_232 rfl ?_
  refine zA_iconst (pc := 233) (4 : Int32) dX9_init_233 (by decide) ?_
  refine zA_newi (pc := 234) (N := 4) (w := (4 : Int32)) hwf hs hb (by omega) (by simp only [List.mem_cons, List.not_mem_nil, or_false, forall_eq_or_imp, forall_eq, ne_eq, zrefEq, reduceCtorEq, not_false_eq_true, and_true, true_and, false_implies, implies_true] <;> omega) (by simp only [List.mem_cons, List.not_mem_nil, or_false, forall_eq_or_imp, forall_eq, ne_eq, zrefEq, reduceCtorEq, not_false_eq_true, and_true, true_and, false_implies, implies_true] <;> omega) zai (by decide) (by decide) (by decide) dX9_init_234 (fun hwf hs => ?_)
  have hb := Nat.lt_succ_of_lt hb
  refine zA_putr (pc := 236) fdX9_91 hwf hb (by omega) hs rfl (Or.inr ⟨rfl, rfl, rfl, TX9, 46, rfl, flX9_91⟩) dX9_init_236 (fun hwf hs => ?_)
  refine zA_aload_n (pc := 239) dX9_init_239 rfl ?_
  refine zA_sipush (pc := 240) (6561 : Int32) dX9_init_240 (by decide) ?_
  refine zA_newi (pc := 243) (N := 6561) (w := (6561 : Int32)) hwf hs hb (by omega) (by simp only [List.mem_cons, List.not_mem_nil, or_false, forall_eq_or_imp, forall_eq, ne_eq, zrefEq, reduceCtorEq, not_false_eq_true, and_true, true_and, false_implies, implies_true] <;> omega) (by simp only [List.mem_cons, List.not_mem_nil, or_false, forall_eq_or_imp, forall_eq, ne_eq, zrefEq, reduceCtorEq, not_false_eq_true, and_true, true_and, false_implies, implies_true] <;> omega) zai (by decide) (by decide) (by decide) dX9_init_243 (fun hwf hs => ?_)
  have hb := Nat.lt_succ_of_lt hb
  refine zA_putr (pc := 245) fdX9_94 hwf hb (by omega) hs rfl (Or.inr ⟨rfl, rfl, rfl, TX9, 46, rfl, flX9_94⟩) dX9_init_245 (fun hwf hs => ?_)
  refine zA_aload_n (pc := 248) dX9_init_248 rfl ?_
  refine zA_sipush (pc := 249) (6561 : Int32) dX9_init_249 (by decide) ?_
  refine zA_newi (pc := 252) (N := 6561) (w := (6561 : Int32)) hwf hs hb (by omega) (by simp only [List.mem_cons, List.not_mem_nil, or_false, forall_eq_or_imp, forall_eq, ne_eq, zrefEq, reduceCtorEq, not_false_eq_true, and_true, true_and, false_implies, implies_true] <;> omega) (by simp only [List.mem_cons, List.not_mem_nil, or_false, forall_eq_or_imp, forall_eq, ne_eq, zrefEq, reduceCtorEq, not_false_eq_true, and_true, true_and, false_implies, implies_true] <;> omega) zai (by decide) (by decide) (by decide) dX9_init_252 (fun hwf hs => ?_)
  have hb := Nat.lt_succ_of_lt hb
  refine zA_putr (pc := 254) fdX9_97 hwf hb (by omega) hs rfl (Or.inr ⟨rfl, rfl, rfl, TX9, 46, rfl, flX9_97⟩) dX9_init_254 (fun hwf hs => ?_)
  refine zA_aload_n (pc := 257) dX9_init_257 rfl ?_
  refine zA_sipush (pc := 258) (6561 : Int32) dX9_init_258 (by decide) ?_
  refine zA_newi (pc := 261) (N := 6561) (w := (6561 : Int32)) hwf hs hb (by omega) (by simp only [List.mem_cons, List.not_mem_nil, or_false, forall_eq_or_imp, forall_eq, ne_eq, zrefEq, reduceCtorEq, not_false_eq_true, and_true, true_and, false_implies, implies_true] <;> omega) (by simp only [List.mem_cons, List.not_mem_nil, or_false, forall_eq_or_imp, forall_eq, ne_eq, zrefEq, reduceCtorEq, not_false_eq_true, and_true, true_and, false_implies, implies_true] <;> omega) zai (by decide) (by decide) (by decide) dX9_init_261 (fun hwf hs => ?_)
  have hb := Nat.lt_succ_of_lt hb
  refine zA_putr (pc := 263) fdX9_100 hwf hb (by omega) hs rfl (Or.inr ⟨rfl, rfl, rfl, TX9, 46, rfl, flX9_100⟩) dX9_init_263 (fun hwf hs => ?_)
  refine zA_aload_n (pc := 266) dX9_init_266 rfl ?_
  refine zA_sipush (pc := 267) (6561 : Int32) dX9_init_267 (by decide) ?_
  refine zA_newi (pc := 270) (N := 6561) (w := (6561 : Int32)) hwf hs hb (by omega) (by simp only [List.mem_cons, List.not_mem_nil, or_false, forall_eq_or_imp, forall_eq, ne_eq, zrefEq, reduceCtorEq, not_false_eq_true, and_true, true_and, false_implies, implies_true] <;> omega) (by simp only [List.mem_cons, List.not_mem_nil, or_false, forall_eq_or_imp, forall_eq, ne_eq, zrefEq, reduceCtorEq, not_false_eq_true, and_true, true_and, false_implies, implies_true] <;> omega) zai (by decide) (by decide) (by decide) dX9_init_270 (fun hwf hs => ?_)
  have hb := Nat.lt_succ_of_lt hb
  refine zA_putr (pc := 272) fdX9_103 hwf hb (by omega) hs rfl (Or.inr ⟨rfl, rfl, rfl, TX9, 46, rfl, flX9_103⟩) dX9_init_272 (fun hwf hs => ?_)
  exact zA_vret (pc := 275) rfl dX9_init_275
theorem cS9_old {k n : Nat} {S : Nat → zSh} {q : Nat} (h1 : q ≠ k) (h2 : q < n) : cS9 k n S q = S q := by
  unfold cS9
  rw [zupS_ne (by omega), zupS_ne (by omega), zupS_ne (by omega), zupS_ne (by omega), zupS_ne (by omega), zupS_ne (by omega), zupS_ne (by omega), zupS_ne (by omega), zupS_ne (by omega), zupS_ne (by omega), zupS_ne (by omega), zupS_ne (by omega), zupS_ne (by omega), zupS_ne (by omega), zupS_ne (by omega), zupS_ne (by omega), zupS_ne (by omega), zupS_ne (by omega), zupS_ne (by omega), zupM_old (by omega), zupS_ne (by omega), zupM_old (by omega), zupS_ne (by omega), zupM_old (by omega), zupS_ne (by omega), zupS_ne (by omega), zupS_ne (by omega), zupS_ne (by omega), zupS_ne (by omega), zupM_old (by omega), zupS_ne (by omega), zupM_old (by omega), zupS_ne (by omega), zupS_ne (by omega), zupS_ne (by omega), zupS_ne (by omega), zupS_ne (by omega), zupS_ne (by omega), zupS_ne (by omega), zupS_ne (by omega), zupS_ne (by omega), zupM_old (by omega), zupS_ne (by omega), zupM_old (by omega), zupS_ne (by omega), zupM_old (by omega), zupS_ne (by omega), zupM_old (by omega), zupS_ne (by omega), zupS_ne (by omega), zupS_ne (by omega), zupS_ne (by omega), zupS_ne (by omega), zupS_ne (by omega), zupS_ne (by omega), zupS_ne (by omega)]
theorem cS9_wf {k n : Nat} {S : Nat → zSh} (hwf : zWf n S) (hb : k < n) (hs : S k = (0, 9, 0, zn)) : zWf (n + 1133) (cS9 k n S) := by
  unfold cS9
  have hwf := zWf_new (sh := (1, 0, 500, zn)) hwf (fun j r h => by cases (show (none : Option Nat) = some r from h))
  have hs := (zupS_ne (k := n) (sh := (1, 0, 500, zn)) (q := k) (by omega)).trans hs
  have hs9 := hs
  have hwf := zWf_put (i := 8) hwf (by omega) hs9 (show n < _ by omega)
  have hs : _ = _ := zupS_put (i := 8) (x := n) hs9
  have hwf := zWf_new (sh := (1, 0, 600, zn)) hwf (fun j r h => by cases (show (none : Option Nat) = some r from h))
  have hs := (zupS_ne (k := (n + 1)) (sh := (1, 0, 600, zn)) (q := k) (by omega)).trans hs
  have hs9 := hs
  have hwf := zWf_put (i := 9) hwf (by omega) hs9 (show (n + 1) < _ by omega)
  have hs : _ = _ := zupS_put (i := 9) (x := (n + 1)) hs9
  have hwf := zWf_new (sh := (1, 0, 6, zn)) hwf (fun j r h => by cases (show (none : Option Nat) = some r from h))
  have hs := (zupS_ne (k := (n + 2)) (sh := (1, 0, 6, zn)) (q := k) (by omega)).trans hs
  have hs9 := hs
  have hwf := zWf_put (i := 10) hwf (by omega) hs9 (show (n + 2) < _ by omega)
  have hs : _ = _ := zupS_put (i := 10) (x := (n + 2)) hs9
  have hwf := zWf_new (sh := (1, 0, 6, zn)) hwf (fun j r h => by cases (show (none : Option Nat) = some r from h))
  have hs := (zupS_ne (k := (n + 3)) (sh := (1, 0, 6, zn)) (q := k) (by omega)).trans hs
  have hs9 := hs
  have hwf := zWf_put (i := 11) hwf (by omega) hs9 (show (n + 3) < _ by omega)
  have hs : _ = _ := zupS_put (i := 11) (x := (n + 3)) hs9
  have hwf := zWf_mat (N := 8) (t := 2) (t0 := 0) (M := 6) hwf
  have hs := (zupM_old (n := (n + 4)) (N := 8) (t := 2) (t0 := 0) (M := 6) (k := k) (by omega)).trans hs
  have hs9 := hs
  have hwf := zWf_put (i := 12) hwf (by omega) hs9 (show (n + 4) < _ by omega)
  have hs : _ = _ := zupS_put (i := 12) (x := (n + 4)) hs9
  have hwf := zWf_mat (N := 9) (t := 2) (t0 := 0) (M := 6) hwf
  have hs := (zupM_old (n := (n + 13)) (N := 9) (t := 2) (t0 := 0) (M := 6) (k := k) (by omega)).trans hs
  have hs9 := hs
  have hwf := zWf_put (i := 13) hwf (by omega) hs9 (show (n + 13) < _ by omega)
  have hs : _ = _ := zupS_put (i := 13) (x := (n + 13)) hs9
  have hwf := zWf_mat (N := 10) (t := 2) (t0 := 0) (M := 4) hwf
  have hs := (zupM_old (n := (n + 23)) (N := 10) (t := 2) (t0 := 0) (M := 4) (k := k) (by omega)).trans hs
  have hs9 := hs
  have hwf := zWf_put (i := 14) hwf (by omega) hs9 (show (n + 23) < _ by omega)
  have hs : _ = _ := zupS_put (i := 14) (x := (n + 23)) hs9
  have hwf := zWf_mat (N := 10) (t := 2) (t0 := 0) (M := 4) hwf
  have hs := (zupM_old (n := (n + 34)) (N := 10) (t := 2) (t0 := 0) (M := 4) (k := k) (by omega)).trans hs
  have hs9 := hs
  have hwf := zWf_put (i := 15) hwf (by omega) hs9 (show (n + 34) < _ by omega)
  have hs : _ = _ := zupS_put (i := 15) (x := (n + 34)) hs9
  have hwf := zWf_new (sh := (1, 0, 7, zn)) hwf (fun j r h => by cases (show (none : Option Nat) = some r from h))
  have hs := (zupS_ne (k := (n + 45)) (sh := (1, 0, 7, zn)) (q := k) (by omega)).trans hs
  have hs9 := hs
  have hwf := zWf_put (i := 16) hwf (by omega) hs9 (show (n + 45) < _ by omega)
  have hs : _ = _ := zupS_put (i := 16) (x := (n + 45)) hs9
  have hwf := zWf_new (sh := (1, 0, 7, zn)) hwf (fun j r h => by cases (show (none : Option Nat) = some r from h))
  have hs := (zupS_ne (k := (n + 46)) (sh := (1, 0, 7, zn)) (q := k) (by omega)).trans hs
  have hs9 := hs
  have hwf := zWf_put (i := 17) hwf (by omega) hs9 (show (n + 46) < _ by omega)
  have hs : _ = _ := zupS_put (i := 17) (x := (n + 46)) hs9
  have hwf := zWf_new (sh := (1, 0, 8, zn)) hwf (fun j r h => by cases (show (none : Option Nat) = some r from h))
  have hs := (zupS_ne (k := (n + 47)) (sh := (1, 0, 8, zn)) (q := k) (by omega)).trans hs
  have hs9 := hs
  have hwf := zWf_put (i := 18) hwf (by omega) hs9 (show (n + 47) < _ by omega)
  have hs : _ = _ := zupS_put (i := 18) (x := (n + 47)) hs9
  have hwf := zWf_new (sh := (1, 0, 9, zn)) hwf (fun j r h => by cases (show (none : Option Nat) = some r from h))
  have hs := (zupS_ne (k := (n + 48)) (sh := (1, 0, 9, zn)) (q := k) (by omega)).trans hs
  have hs9 := hs
  have hwf := zWf_put (i := 19) hwf (by omega) hs9 (show (n + 48) < _ by omega)
  have hs : _ = _ := zupS_put (i := 19) (x := (n + 48)) hs9
  have hwf := zWf_mat (N := 9) (t := 2) (t0 := 0) (M := 4) hwf
  have hs := (zupM_old (n := (n + 49)) (N := 9) (t := 2) (t0 := 0) (M := 4) (k := k) (by omega)).trans hs
  have hs9 := hs
  have hwf := zWf_put (i := 23) hwf (by omega) hs9 (show (n + 49) < _ by omega)
  have hs : _ = _ := zupS_put (i := 23) (x := (n + 49)) hs9
  have hwf := zWf_mat (N := 30) (t := 2) (t0 := 0) (M := 4) hwf
  have hs := (zupM_old (n := (n + 59)) (N := 30) (t := 2) (t0 := 0) (M := 4) (k := k) (by omega)).trans hs
  have hs9 := hs
  have hwf := zWf_put (i := 24) hwf (by omega) hs9 (show (n + 59) < _ by omega)
  have hs : _ = _ := zupS_put (i := 24) (x := (n + 59)) hs9
  have hwf := zWf_new (sh := (1, 0, 9, zn)) hwf (fun j r h => by cases (show (none : Option Nat) = some r from h))
  have hs := (zupS_ne (k := (n + 90)) (sh := (1, 0, 9, zn)) (q := k) (by omega)).trans hs
  have hs9 := hs
  have hwf := zWf_put (i := 25) hwf (by omega) hs9 (show (n + 90) < _ by omega)
  have hs : _ = _ := zupS_put (i := 25) (x := (n + 90)) hs9
  have hwf := zWf_new (sh := (1, 0, 10, zn)) hwf (fun j r h => by cases (show (none : Option Nat) = some r from h))
  have hs := (zupS_ne (k := (n + 91)) (sh := (1, 0, 10, zn)) (q := k) (by omega)).trans hs
  have hs9 := hs
  have hwf := zWf_put (i := 26) hwf (by omega) hs9 (show (n + 91) < _ by omega)
  have hs : _ = _ := zupS_put (i := 26) (x := (n + 91)) hs9
  have hwf := zWf_mat (N := 3) (t := 2) (t0 := 0) (M := 190) hwf
  have hs := (zupM_old (n := (n + 92)) (N := 3) (t := 2) (t0 := 0) (M := 190) (k := k) (by omega)).trans hs
  have hs9 := hs
  have hwf := zWf_put (i := 27) hwf (by omega) hs9 (show (n + 92) < _ by omega)
  have hs : _ = _ := zupS_put (i := 27) (x := (n + 92)) hs9
  have hwf := zWf_mat (N := 2) (t := 2) (t0 := 0) (M := 190) hwf
  have hs := (zupM_old (n := (n + 96)) (N := 2) (t := 2) (t0 := 0) (M := 190) (k := k) (by omega)).trans hs
  have hs9 := hs
  have hwf := zWf_put (i := 28) hwf (by omega) hs9 (show (n + 96) < _ by omega)
  have hs : _ = _ := zupS_put (i := 28) (x := (n + 96)) hs9
  have hwf := zWf_mat (N := 1024) (t := 3) (t0 := 1) (M := 512) hwf
  have hs := (zupM_old (n := (n + 99)) (N := 1024) (t := 3) (t0 := 1) (M := 512) (k := k) (by omega)).trans hs
  have hs9 := hs
  have hwf := zWf_put (i := 32) hwf (by omega) hs9 (show (n + 99) < _ by omega)
  have hs : _ = _ := zupS_put (i := 32) (x := (n + 99)) hs9
  have hwf := zWf_new (sh := (1, 1, 10, zn)) hwf (fun j r h => by cases (show (none : Option Nat) = some r from h))
  have hs := (zupS_ne (k := (n + 1124)) (sh := (1, 1, 10, zn)) (q := k) (by omega)).trans hs
  have hs9 := hs
  have hwf := zWf_put (i := 33) hwf (by omega) hs9 (show (n + 1124) < _ by omega)
  have hs : _ = _ := zupS_put (i := 33) (x := (n + 1124)) hs9
  have hwf := zWf_new (sh := (1, 0, 10, zn)) hwf (fun j r h => by cases (show (none : Option Nat) = some r from h))
  have hs := (zupS_ne (k := (n + 1125)) (sh := (1, 0, 10, zn)) (q := k) (by omega)).trans hs
  have hs9 := hs
  have hwf := zWf_put (i := 36) hwf (by omega) hs9 (show (n + 1125) < _ by omega)
  have hs : _ = _ := zupS_put (i := 36) (x := (n + 1125)) hs9
  have hwf := zWf_new (sh := (1, 0, 2, zn)) hwf (fun j r h => by cases (show (none : Option Nat) = some r from h))
  have hs := (zupS_ne (k := (n + 1126)) (sh := (1, 0, 2, zn)) (q := k) (by omega)).trans hs
  have hs9 := hs
  have hwf := zWf_put (i := 37) hwf (by omega) hs9 (show (n + 1126) < _ by omega)
  have hs : _ = _ := zupS_put (i := 37) (x := (n + 1126)) hs9
  have hwf := zWf_new (sh := (1, 0, 4, zn)) hwf (fun j r h => by cases (show (none : Option Nat) = some r from h))
  have hs := (zupS_ne (k := (n + 1127)) (sh := (1, 0, 4, zn)) (q := k) (by omega)).trans hs
  have hs9 := hs
  have hwf := zWf_put (i := 38) hwf (by omega) hs9 (show (n + 1127) < _ by omega)
  have hs : _ = _ := zupS_put (i := 38) (x := (n + 1127)) hs9
  have hwf := zWf_new (sh := (1, 0, 4, zn)) hwf (fun j r h => by cases (show (none : Option Nat) = some r from h))
  have hs := (zupS_ne (k := (n + 1128)) (sh := (1, 0, 4, zn)) (q := k) (by omega)).trans hs
  have hs9 := hs
  have hwf := zWf_put (i := 39) hwf (by omega) hs9 (show (n + 1128) < _ by omega)
  have hs : _ = _ := zupS_put (i := 39) (x := (n + 1128)) hs9
  have hwf := zWf_new (sh := (1, 0, 6561, zn)) hwf (fun j r h => by cases (show (none : Option Nat) = some r from h))
  have hs := (zupS_ne (k := (n + 1129)) (sh := (1, 0, 6561, zn)) (q := k) (by omega)).trans hs
  have hs9 := hs
  have hwf := zWf_put (i := 41) hwf (by omega) hs9 (show (n + 1129) < _ by omega)
  have hs : _ = _ := zupS_put (i := 41) (x := (n + 1129)) hs9
  have hwf := zWf_new (sh := (1, 0, 6561, zn)) hwf (fun j r h => by cases (show (none : Option Nat) = some r from h))
  have hs := (zupS_ne (k := (n + 1130)) (sh := (1, 0, 6561, zn)) (q := k) (by omega)).trans hs
  have hs9 := hs
  have hwf := zWf_put (i := 42) hwf (by omega) hs9 (show (n + 1130) < _ by omega)
  have hs : _ = _ := zupS_put (i := 42) (x := (n + 1130)) hs9
  have hwf := zWf_new (sh := (1, 0, 6561, zn)) hwf (fun j r h => by cases (show (none : Option Nat) = some r from h))
  have hs := (zupS_ne (k := (n + 1131)) (sh := (1, 0, 6561, zn)) (q := k) (by omega)).trans hs
  have hs9 := hs
  have hwf := zWf_put (i := 43) hwf (by omega) hs9 (show (n + 1131) < _ by omega)
  have hs : _ = _ := zupS_put (i := 43) (x := (n + 1131)) hs9
  have hwf := zWf_new (sh := (1, 0, 6561, zn)) hwf (fun j r h => by cases (show (none : Option Nat) = some r from h))
  have hs := (zupS_ne (k := (n + 1132)) (sh := (1, 0, 6561, zn)) (q := k) (by omega)).trans hs
  have hs9 := hs
  have hwf := zWf_put (i := 44) hwf (by omega) hs9 (show (n + 1132) < _ by omega)
  have hs : _ = _ := zupS_put (i := 44) (x := (n + 1132)) hs9
  exact hwf
