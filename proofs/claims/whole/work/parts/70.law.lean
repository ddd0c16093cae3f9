/-! The law: every case of its loop, the loop. Printed by wip/whole/law.py. -/
abbrev Y_law : YT := (code, "BodyAccountsLaw", 4, 7)
theorem R_sld {Z : ZT} {Y : YT} {hp : HP} {pc : Nat} {Lv : List (Nat × Value)} {st : List Value} (X : CX Z Y) {b L : Nat} {xs : Nat → Int32} (hX : va_X b L xs (zs Z) (zs Z).heap) (hbl : b < (zs Z).heap.size) (hbA : ¬ zA Z b) {i : Int32} (hin : vp_in i L) (hd : decode Y.1 pc = .ok (.iaload, 1)) (kk : V Z Y hp (pc + 1) Lv (.int (xs i.toNatClampNeg) :: st)) : V Z Y hp pc Lv (.int i :: .ref b :: st) := fun H locs ls hP hS h => va_sld X.1 X.2.1 hX hbl hbA hS hin hd (kk H locs ls hP hS h)
theorem R_slen {Z : ZT} {Y : YT} {hp : HP} {pc : Nat} {Lv : List (Nat × Value)} {st : List Value} (X : CX Z Y) {b L : Nat} {xs : Nat → Int32} (hX : va_X b L xs (zs Z) (zs Z).heap) (hbl : b < (zs Z).heap.size) (hbA : ¬ zA Z b) (hd : decode Y.1 pc = .ok (.arraylength, 1)) (kk : V Z Y hp (pc + 1) Lv (.int (nI L) :: st)) : V Z Y hp pc Lv (.ref b :: st) := fun H locs ls hP hS h => va_slen X.1 X.2.1 hX hbl hbA hS hd (kk H locs ls hP hS h)
theorem len_lt {L i : Nat} (hL : L ≤ 256) (hi : i ≤ 260) (h : L < i + 4) : nI L - 4 < nI i := by
  have e4 : (4 : Int32).toInt = 4 := rfl
  have e1 : (nI L).toInt = L := nI_toInt (by omega)
  have e2 : (nI i).toInt = i := nI_toInt (by omega)
  rw [lt_i, sub_i (by rw [e1, e4]; omega), e1, e2, e4]
  omega
theorem aw_271 : Cond.methodLink "BodyAccountsLaw" 13 ⟨"BodyAccounts", "feed", "(I)I"⟩ ∈ TB := TB_at 271 (by decide +kernel) rfl
theorem aw_284 : Cond.methodLink "BodyAccountsLaw" 18 ⟨"BodyAccounts", "branch", "()I"⟩ ∈ TB := TB_at 284 (by decide +kernel) rfl
theorem aw_363 : Cond.methodLink "BodyAccountsLaw" 23 ⟨"BodyAccounts", "fault", "()I"⟩ ∈ TB := TB_at 363 (by decide +kernel) rfl
theorem aw_367 : Cond.methodLink "BodyAccountsLaw" 27 ⟨"BodyAccounts", "told", "(I)I"⟩ ∈ TB := TB_at 367 (by decide +kernel) rfl
theorem aw_405 : Cond.methodLink "BodyAccountsLaw" 31 ⟨"BodyAccounts", "part", "(I)I"⟩ ∈ TB := TB_at 405 (by decide +kernel) rfl
theorem aw_415 : Cond.methodLink "BodyAccountsLaw" 35 ⟨"BodyAccounts", "customer", "(II)I"⟩ ∈ TB := TB_at 415 (by decide +kernel) rfl
theorem aw_424 : Cond.methodLink "BodyAccountsLaw" 40 ⟨"BodyAccounts", "owes", "(II)I"⟩ ∈ TB := TB_at 424 (by decide +kernel) rfl
theorem aw_433 : Cond.methodLink "BodyAccountsLaw" 44 ⟨"BodyAccounts", "can", "(II)I"⟩ ∈ TB := TB_at 433 (by decide +kernel) rfl
theorem aw_451 : Cond.methodLink "BodyAccountsLaw" 48 ⟨"BodyAccounts", "month", "(I)I"⟩ ∈ TB := TB_at 451 (by decide +kernel) rfl
theorem aw_478 : Cond.methodLink "BodyAccountsLaw" 52 ⟨"BodyAccounts", "spend", "(II)I"⟩ ∈ TB := TB_at 478 (by decide +kernel) rfl
theorem aw_487 : Cond.methodLink "BodyAccountsLaw" 56 ⟨"BodyAccounts", "lend", "(III)I"⟩ ∈ TB := TB_at 487 (by decide +kernel) rfl
theorem aw_496 : Cond.methodLink "BodyAccountsLaw" 61 ⟨"BodyAccounts", "payBack", "(III)I"⟩ ∈ TB := TB_at 496 (by decide +kernel) rfl
theorem aw_500 : Cond.methodLink "BodyAccountsLaw" 65 ⟨"BodyAccounts", "drift", "(I)I"⟩ ∈ TB := TB_at 500 (by decide +kernel) rfl
theorem aw_516 : Cond.methodLink "BodyAccountsLaw" 69 ⟨"BodyAccounts", "undo", "()I"⟩ ∈ TB := TB_at 516 (by decide +kernel) rfl
theorem aw_524 : Cond.methodLink "BodyAccountsLaw" 73 ⟨"BodyAccounts", "hat", "(I)I"⟩ ∈ TB := TB_at 524 (by decide +kernel) rfl
theorem aw_529 : Cond.methodLink "BodyAccountsLaw" 77 ⟨"BodyAccounts", "able", "(III)I"⟩ ∈ TB := TB_at 529 (by decide +kernel) rfl
theorem aw_533 : Cond.methodLink "BodyAccountsLaw" 81 ⟨"BodyAccounts", "spending", "(I)I"⟩ ∈ TB := TB_at 533 (by decide +kernel) rfl
theorem aw_541 : Cond.methodLink "BodyAccountsLaw" 85 ⟨"BodyAccounts", "must", "(II)I"⟩ ∈ TB := TB_at 541 (by decide +kernel) rfl
theorem aw_549 : Cond.methodLink "BodyAccountsLaw" 89 ⟨"BodyAccounts", "plan", "(III)I"⟩ ∈ TB := TB_at 549 (by decide +kernel) rfl
theorem aw_580 : Cond.methodLink "BodyAccountsLaw" 93 ⟨"BodyAccounts", "asOne", "(II)I"⟩ ∈ TB := TB_at 580 (by decide +kernel) rfl
theorem aw_588 : Cond.methodLink "BodyAccountsLaw" 97 ⟨"BodyAccounts", "loan", "(III)I"⟩ ∈ TB := TB_at 588 (by decide +kernel) rfl
theorem aw_593 : Cond.methodLink "BodyAccountsLaw" 101 ⟨"BodyAccounts", "order", "(I)I"⟩ ∈ TB := TB_at 593 (by decide +kernel) rfl
theorem aw_601 : Cond.methodLink "BodyAccountsLaw" 105 ⟨"BodyAccounts", "wage", "(II)I"⟩ ∈ TB := TB_at 601 (by decide +kernel) rfl
theorem aw_607 : Cond.methodLink "BodyAccountsLaw" 109 ⟨"BodyAccounts", "see", "(IZ)I"⟩ ∈ TB := TB_at 607 (by decide +kernel) rfl
theorem aw_615 : Cond.methodLink "BodyAccountsLaw" 114 ⟨"BodyAccounts", "has", "(I)I"⟩ ∈ TB := TB_at 615 (by decide +kernel) rfl
theorem aw_628 : Cond.methodLink "BodyAccountsLaw" 118 ⟨"BodyAccounts", "look", "()I"⟩ ∈ TB := TB_at 628 (by decide +kernel) rfl
theorem aw_632 : Cond.methodLink "BodyAccountsLaw" 122 ⟨"BodyAccounts", "write", "(II)I"⟩ ∈ TB := TB_at 632 (by decide +kernel) rfl
theorem aw_640 : Cond.methodLink "BodyAccountsLaw" 126 ⟨"BodyAccounts", "tear", "()I"⟩ ∈ TB := TB_at 640 (by decide +kernel) rfl
theorem aw_648 : Cond.methodLink "BodyAccountsLaw" 130 ⟨"BodyAccounts", "judge", "()I"⟩ ∈ TB := TB_at 648 (by decide +kernel) rfl
theorem aw_652 : Cond.methodLink "BodyAccountsLaw" 134 ⟨"BodyAccounts", "seed", "(I)I"⟩ ∈ TB := TB_at 652 (by decide +kernel) rfl
theorem aw_656 : Cond.methodLink "BodyAccountsLaw" 138 ⟨"BodyAccounts", "keep", "(I)I"⟩ ∈ TB := TB_at 656 (by decide +kernel) rfl
theorem aw_661 : Cond.methodLink "BodyAccountsLaw" 142 ⟨"BodyAccounts", "goBack", "(I)I"⟩ ∈ TB := TB_at 661 (by decide +kernel) rfl
theorem aw_777 : Cond.methodLink "BodyAccountsLaw" 17 ⟨"BodyAccountsModel", "feed", "(I)I"⟩ ∈ TB := TB_at 777 (by decide +kernel) rfl
theorem aw_787 : Cond.methodLink "BodyAccountsLaw" 22 ⟨"BodyAccountsModel", "branch", "()I"⟩ ∈ TB := TB_at 787 (by decide +kernel) rfl
theorem aw_829 : Cond.methodLink "BodyAccountsLaw" 26 ⟨"BodyAccountsModel", "fault", "()I"⟩ ∈ TB := TB_at 829 (by decide +kernel) rfl
theorem aw_833 : Cond.methodLink "BodyAccountsLaw" 30 ⟨"BodyAccountsModel", "told", "(I)I"⟩ ∈ TB := TB_at 833 (by decide +kernel) rfl
theorem aw_865 : Cond.methodLink "BodyAccountsLaw" 34 ⟨"BodyAccountsModel", "part", "(I)I"⟩ ∈ TB := TB_at 865 (by decide +kernel) rfl
theorem aw_874 : Cond.methodLink "BodyAccountsLaw" 39 ⟨"BodyAccountsModel", "customer", "(II)I"⟩ ∈ TB := TB_at 874 (by decide +kernel) rfl
theorem aw_883 : Cond.methodLink "BodyAccountsLaw" 43 ⟨"BodyAccountsModel", "owes", "(II)I"⟩ ∈ TB := TB_at 883 (by decide +kernel) rfl
theorem aw_891 : Cond.methodLink "BodyAccountsLaw" 47 ⟨"BodyAccountsModel", "can", "(II)I"⟩ ∈ TB := TB_at 891 (by decide +kernel) rfl
theorem aw_903 : Cond.methodLink "BodyAccountsLaw" 72 ⟨"BodyAccountsModel", "undo", "()I"⟩ ∈ TB := TB_at 903 (by decide +kernel) rfl
theorem aw_912 : Cond.methodLink "BodyAccountsLaw" 51 ⟨"BodyAccountsModel", "month", "(I)I"⟩ ∈ TB := TB_at 912 (by decide +kernel) rfl
theorem aw_928 : Cond.methodLink "BodyAccountsLaw" 55 ⟨"BodyAccountsModel", "spend", "(II)I"⟩ ∈ TB := TB_at 928 (by decide +kernel) rfl
theorem aw_937 : Cond.methodLink "BodyAccountsLaw" 60 ⟨"BodyAccountsModel", "lend", "(III)I"⟩ ∈ TB := TB_at 937 (by decide +kernel) rfl
theorem aw_945 : Cond.methodLink "BodyAccountsLaw" 64 ⟨"BodyAccountsModel", "payBack", "(III)I"⟩ ∈ TB := TB_at 945 (by decide +kernel) rfl
theorem aw_949 : Cond.methodLink "BodyAccountsLaw" 68 ⟨"BodyAccountsModel", "drift", "(I)I"⟩ ∈ TB := TB_at 949 (by decide +kernel) rfl
theorem aw_961 : Cond.methodLink "BodyAccountsLaw" 76 ⟨"BodyAccountsModel", "hat", "(I)I"⟩ ∈ TB := TB_at 961 (by decide +kernel) rfl
theorem aw_965 : Cond.methodLink "BodyAccountsLaw" 80 ⟨"BodyAccountsModel", "able", "(III)I"⟩ ∈ TB := TB_at 965 (by decide +kernel) rfl
theorem aw_969 : Cond.methodLink "BodyAccountsLaw" 84 ⟨"BodyAccountsModel", "spending", "(I)I"⟩ ∈ TB := TB_at 969 (by decide +kernel) rfl
theorem aw_973 : Cond.methodLink "BodyAccountsLaw" 88 ⟨"BodyAccountsModel", "must", "(II)I"⟩ ∈ TB := TB_at 973 (by decide +kernel) rfl
theorem aw_978 : Cond.methodLink "BodyAccountsLaw" 92 ⟨"BodyAccountsModel", "plan", "(III)I"⟩ ∈ TB := TB_at 978 (by decide +kernel) rfl
theorem aw_987 : Cond.methodLink "BodyAccountsLaw" 96 ⟨"BodyAccountsModel", "asOne", "(II)I"⟩ ∈ TB := TB_at 987 (by decide +kernel) rfl
theorem aw_991 : Cond.methodLink "BodyAccountsLaw" 100 ⟨"BodyAccountsModel", "loan", "(III)I"⟩ ∈ TB := TB_at 991 (by decide +kernel) rfl
theorem aw_999 : Cond.methodLink "BodyAccountsLaw" 104 ⟨"BodyAccountsModel", "order", "(I)I"⟩ ∈ TB := TB_at 999 (by decide +kernel) rfl
theorem aw_1003 : Cond.methodLink "BodyAccountsLaw" 108 ⟨"BodyAccountsModel", "wage", "(II)I"⟩ ∈ TB := TB_at 1003 (by decide +kernel) rfl
theorem aw_1009 : Cond.methodLink "BodyAccountsLaw" 113 ⟨"BodyAccountsModel", "see", "(IZ)I"⟩ ∈ TB := TB_at 1009 (by decide +kernel) rfl
theorem aw_1013 : Cond.methodLink "BodyAccountsLaw" 117 ⟨"BodyAccountsModel", "has", "(I)I"⟩ ∈ TB := TB_at 1013 (by decide +kernel) rfl
theorem aw_1022 : Cond.methodLink "BodyAccountsLaw" 121 ⟨"BodyAccountsModel", "look", "()I"⟩ ∈ TB := TB_at 1022 (by decide +kernel) rfl
theorem aw_1027 : Cond.methodLink "BodyAccountsLaw" 125 ⟨"BodyAccountsModel", "write", "(II)I"⟩ ∈ TB := TB_at 1027 (by decide +kernel) rfl
theorem aw_1032 : Cond.methodLink "BodyAccountsLaw" 129 ⟨"BodyAccountsModel", "tear", "()I"⟩ ∈ TB := TB_at 1032 (by decide +kernel) rfl
theorem aw_1036 : Cond.methodLink "BodyAccountsLaw" 133 ⟨"BodyAccountsModel", "judge", "()I"⟩ ∈ TB := TB_at 1036 (by decide +kernel) rfl
theorem aw_1040 : Cond.methodLink "BodyAccountsLaw" 137 ⟨"BodyAccountsModel", "seed", "(I)I"⟩ ∈ TB := TB_at 1040 (by decide +kernel) rfl
theorem aw_1044 : Cond.methodLink "BodyAccountsLaw" 141 ⟨"BodyAccountsModel", "keep", "(I)I"⟩ ∈ TB := TB_at 1044 (by decide +kernel) rfl
theorem aw_1048 : Cond.methodLink "BodyAccountsLaw" 145 ⟨"BodyAccountsModel", "goBack", "(I)I"⟩ ∈ TB := TB_at 1048 (by decide +kernel) rfl
theorem d_law_18 : decode code 18 = .ok (.iload_n 3, 1) := by decide +kernel
theorem d_law_19 : decode code 19 = .ok (.aload_n 0, 1) := by decide +kernel
theorem d_law_20 : decode code 20 = .ok (.arraylength, 1) := by decide +kernel
theorem d_law_21 : decode code 21 = .ok (.iconst 4, 1) := by decide +kernel
theorem d_law_22 : decode code 22 = .ok (.isub, 1) := by decide +kernel
theorem d_law_23 : decode code 23 = .ok (.if_icmp .gt (1041), 3) := by decide +kernel
theorem d_law_26 : decode code 26 = .ok (.aload_n 0, 1) := by decide +kernel
theorem d_law_27 : decode code 27 = .ok (.iload_n 3, 1) := by decide +kernel
theorem d_law_28 : decode code 28 = .ok (.iaload, 1) := by decide +kernel
theorem d_law_29 : decode code 29 = .ok (.bipush (31), 2) := by decide +kernel
theorem d_law_31 : decode code 31 = .ok (.iand, 1) := by decide +kernel
theorem d_law_32 : decode code 32 = .ok (.tableswitch 1026 0 31 #[144, 167, 180, 193, 216, 239, 272, 305, 338, 361, 394, 437, 480, 503, 516, 539, 582, 605, 638, 681, 714, 757, 780, 813, 862, 885, 898, 931, 944, 957, 980, 1003], 144) := by decide +kernel
theorem d_law_176 : decode code 176 = .ok (.aload_n 1, 1) := by decide +kernel
theorem d_law_177 : decode code 177 = .ok (.aload_n 0, 1) := by decide +kernel
theorem d_law_178 : decode code 178 = .ok (.iload_n 3, 1) := by decide +kernel
theorem d_law_179 : decode code 179 = .ok (.iconst 1, 1) := by decide +kernel
theorem d_law_180 : decode code 180 = .ok (.iadd, 1) := by decide +kernel
theorem d_law_181 : decode code 181 = .ok (.iaload, 1) := by decide +kernel
theorem d_law_182 : decode code 182 = .ok (.invokevirtual 13, 3) := by decide +kernel
theorem d_law_185 : decode code 185 = .ok (.aload_n 2, 1) := by decide +kernel
theorem d_law_186 : decode code 186 = .ok (.aload_n 0, 1) := by decide +kernel
theorem d_law_187 : decode code 187 = .ok (.iload_n 3, 1) := by decide +kernel
theorem d_law_188 : decode code 188 = .ok (.iconst 1, 1) := by decide +kernel
theorem d_law_189 : decode code 189 = .ok (.iadd, 1) := by decide +kernel
theorem d_law_190 : decode code 190 = .ok (.iaload, 1) := by decide +kernel
theorem d_law_191 : decode code 191 = .ok (.invokevirtual 17, 3) := by decide +kernel
theorem d_law_194 : decode code 194 = .ok (.if_icmp .eq (864), 3) := by decide +kernel
theorem d_law_199 : decode code 199 = .ok (.aload_n 1, 1) := by decide +kernel
theorem d_law_200 : decode code 200 = .ok (.invokevirtual 18, 3) := by decide +kernel
theorem d_law_203 : decode code 203 = .ok (.aload_n 2, 1) := by decide +kernel
theorem d_law_204 : decode code 204 = .ok (.invokevirtual 22, 3) := by decide +kernel
theorem d_law_207 : decode code 207 = .ok (.if_icmp .eq (851), 3) := by decide +kernel
theorem d_law_212 : decode code 212 = .ok (.aload_n 1, 1) := by decide +kernel
theorem d_law_213 : decode code 213 = .ok (.invokevirtual 23, 3) := by decide +kernel
theorem d_law_216 : decode code 216 = .ok (.aload_n 2, 1) := by decide +kernel
theorem d_law_217 : decode code 217 = .ok (.invokevirtual 26, 3) := by decide +kernel
theorem d_law_220 : decode code 220 = .ok (.if_icmp .eq (838), 3) := by decide +kernel
theorem d_law_225 : decode code 225 = .ok (.aload_n 1, 1) := by decide +kernel
theorem d_law_226 : decode code 226 = .ok (.aload_n 0, 1) := by decide +kernel
theorem d_law_227 : decode code 227 = .ok (.iload_n 3, 1) := by decide +kernel
theorem d_law_228 : decode code 228 = .ok (.iconst 1, 1) := by decide +kernel
theorem d_law_229 : decode code 229 = .ok (.iadd, 1) := by decide +kernel
theorem d_law_230 : decode code 230 = .ok (.iaload, 1) := by decide +kernel
theorem d_law_231 : decode code 231 = .ok (.invokevirtual 27, 3) := by decide +kernel
theorem d_law_234 : decode code 234 = .ok (.aload_n 2, 1) := by decide +kernel
theorem d_law_235 : decode code 235 = .ok (.aload_n 0, 1) := by decide +kernel
theorem d_law_236 : decode code 236 = .ok (.iload_n 3, 1) := by decide +kernel
theorem d_law_237 : decode code 237 = .ok (.iconst 1, 1) := by decide +kernel
theorem d_law_238 : decode code 238 = .ok (.iadd, 1) := by decide +kernel
theorem d_law_239 : decode code 239 = .ok (.iaload, 1) := by decide +kernel
theorem d_law_240 : decode code 240 = .ok (.invokevirtual 30, 3) := by decide +kernel
theorem d_law_243 : decode code 243 = .ok (.if_icmp .eq (815), 3) := by decide +kernel
theorem d_law_248 : decode code 248 = .ok (.aload_n 1, 1) := by decide +kernel
theorem d_law_249 : decode code 249 = .ok (.aload_n 0, 1) := by decide +kernel
theorem d_law_250 : decode code 250 = .ok (.iload_n 3, 1) := by decide +kernel
theorem d_law_251 : decode code 251 = .ok (.iconst 1, 1) := by decide +kernel
theorem d_law_252 : decode code 252 = .ok (.iadd, 1) := by decide +kernel
theorem d_law_253 : decode code 253 = .ok (.iaload, 1) := by decide +kernel
theorem d_law_254 : decode code 254 = .ok (.invokevirtual 31, 3) := by decide +kernel
theorem d_law_257 : decode code 257 = .ok (.aload_n 2, 1) := by decide +kernel
theorem d_law_258 : decode code 258 = .ok (.aload_n 0, 1) := by decide +kernel
theorem d_law_259 : decode code 259 = .ok (.iload_n 3, 1) := by decide +kernel
theorem d_law_260 : decode code 260 = .ok (.iconst 1, 1) := by decide +kernel
theorem d_law_261 : decode code 261 = .ok (.iadd, 1) := by decide +kernel
theorem d_law_262 : decode code 262 = .ok (.iaload, 1) := by decide +kernel
theorem d_law_263 : decode code 263 = .ok (.invokevirtual 34, 3) := by decide +kernel
theorem d_law_266 : decode code 266 = .ok (.if_icmp .eq (792), 3) := by decide +kernel
theorem d_law_271 : decode code 271 = .ok (.aload_n 1, 1) := by decide +kernel
theorem d_law_272 : decode code 272 = .ok (.aload_n 0, 1) := by decide +kernel
theorem d_law_273 : decode code 273 = .ok (.iload_n 3, 1) := by decide +kernel
theorem d_law_274 : decode code 274 = .ok (.iconst 1, 1) := by decide +kernel
theorem d_law_275 : decode code 275 = .ok (.iadd, 1) := by decide +kernel
theorem d_law_276 : decode code 276 = .ok (.iaload, 1) := by decide +kernel
theorem d_law_277 : decode code 277 = .ok (.aload_n 0, 1) := by decide +kernel
theorem d_law_278 : decode code 278 = .ok (.iload_n 3, 1) := by decide +kernel
theorem d_law_279 : decode code 279 = .ok (.iconst 2, 1) := by decide +kernel
theorem d_law_280 : decode code 280 = .ok (.iadd, 1) := by decide +kernel
theorem d_law_281 : decode code 281 = .ok (.iaload, 1) := by decide +kernel
theorem d_law_282 : decode code 282 = .ok (.invokevirtual 35, 3) := by decide +kernel
theorem d_law_285 : decode code 285 = .ok (.aload_n 2, 1) := by decide +kernel
theorem d_law_286 : decode code 286 = .ok (.aload_n 0, 1) := by decide +kernel
theorem d_law_287 : decode code 287 = .ok (.iload_n 3, 1) := by decide +kernel
theorem d_law_288 : decode code 288 = .ok (.iconst 1, 1) := by decide +kernel
theorem d_law_289 : decode code 289 = .ok (.iadd, 1) := by decide +kernel
theorem d_law_290 : decode code 290 = .ok (.iaload, 1) := by decide +kernel
theorem d_law_291 : decode code 291 = .ok (.aload_n 0, 1) := by decide +kernel
theorem d_law_292 : decode code 292 = .ok (.iload_n 3, 1) := by decide +kernel
theorem d_law_293 : decode code 293 = .ok (.iconst 2, 1) := by decide +kernel
theorem d_law_294 : decode code 294 = .ok (.iadd, 1) := by decide +kernel
theorem d_law_295 : decode code 295 = .ok (.iaload, 1) := by decide +kernel
theorem d_law_296 : decode code 296 = .ok (.invokevirtual 39, 3) := by decide +kernel
theorem d_law_299 : decode code 299 = .ok (.if_icmp .eq (759), 3) := by decide +kernel
theorem d_law_304 : decode code 304 = .ok (.aload_n 1, 1) := by decide +kernel
theorem d_law_305 : decode code 305 = .ok (.aload_n 0, 1) := by decide +kernel
theorem d_law_306 : decode code 306 = .ok (.iload_n 3, 1) := by decide +kernel
theorem d_law_307 : decode code 307 = .ok (.iconst 1, 1) := by decide +kernel
theorem d_law_308 : decode code 308 = .ok (.iadd, 1) := by decide +kernel
theorem d_law_309 : decode code 309 = .ok (.iaload, 1) := by decide +kernel
theorem d_law_310 : decode code 310 = .ok (.aload_n 0, 1) := by decide +kernel
theorem d_law_311 : decode code 311 = .ok (.iload_n 3, 1) := by decide +kernel
theorem d_law_312 : decode code 312 = .ok (.iconst 2, 1) := by decide +kernel
theorem d_law_313 : decode code 313 = .ok (.iadd, 1) := by decide +kernel
theorem d_law_314 : decode code 314 = .ok (.iaload, 1) := by decide +kernel
theorem d_law_315 : decode code 315 = .ok (.invokevirtual 40, 3) := by decide +kernel
theorem d_law_318 : decode code 318 = .ok (.aload_n 2, 1) := by decide +kernel
theorem d_law_319 : decode code 319 = .ok (.aload_n 0, 1) := by decide +kernel
theorem d_law_320 : decode code 320 = .ok (.iload_n 3, 1) := by decide +kernel
theorem d_law_321 : decode code 321 = .ok (.iconst 1, 1) := by decide +kernel
theorem d_law_322 : decode code 322 = .ok (.iadd, 1) := by decide +kernel
theorem d_law_323 : decode code 323 = .ok (.iaload, 1) := by decide +kernel
theorem d_law_324 : decode code 324 = .ok (.aload_n 0, 1) := by decide +kernel
theorem d_law_325 : decode code 325 = .ok (.iload_n 3, 1) := by decide +kernel
theorem d_law_326 : decode code 326 = .ok (.iconst 2, 1) := by decide +kernel
theorem d_law_327 : decode code 327 = .ok (.iadd, 1) := by decide +kernel
theorem d_law_328 : decode code 328 = .ok (.iaload, 1) := by decide +kernel
theorem d_law_329 : decode code 329 = .ok (.invokevirtual 43, 3) := by decide +kernel
theorem d_law_332 : decode code 332 = .ok (.if_icmp .eq (726), 3) := by decide +kernel
theorem d_law_337 : decode code 337 = .ok (.aload_n 1, 1) := by decide +kernel
theorem d_law_338 : decode code 338 = .ok (.aload_n 0, 1) := by decide +kernel
theorem d_law_339 : decode code 339 = .ok (.iload_n 3, 1) := by decide +kernel
theorem d_law_340 : decode code 340 = .ok (.iconst 1, 1) := by decide +kernel
theorem d_law_341 : decode code 341 = .ok (.iadd, 1) := by decide +kernel
theorem d_law_342 : decode code 342 = .ok (.iaload, 1) := by decide +kernel
theorem d_law_343 : decode code 343 = .ok (.aload_n 0, 1) := by decide +kernel
theorem d_law_344 : decode code 344 = .ok (.iload_n 3, 1) := by decide +kernel
theorem d_law_345 : decode code 345 = .ok (.iconst 2, 1) := by decide +kernel
theorem d_law_346 : decode code 346 = .ok (.iadd, 1) := by decide +kernel
theorem d_law_347 : decode code 347 = .ok (.iaload, 1) := by decide +kernel
theorem d_law_348 : decode code 348 = .ok (.invokevirtual 44, 3) := by decide +kernel
theorem d_law_351 : decode code 351 = .ok (.aload_n 2, 1) := by decide +kernel
theorem d_law_352 : decode code 352 = .ok (.aload_n 0, 1) := by decide +kernel
theorem d_law_353 : decode code 353 = .ok (.iload_n 3, 1) := by decide +kernel
theorem d_law_354 : decode code 354 = .ok (.iconst 1, 1) := by decide +kernel
theorem d_law_355 : decode code 355 = .ok (.iadd, 1) := by decide +kernel
theorem d_law_356 : decode code 356 = .ok (.iaload, 1) := by decide +kernel
theorem d_law_357 : decode code 357 = .ok (.aload_n 0, 1) := by decide +kernel
theorem d_law_358 : decode code 358 = .ok (.iload_n 3, 1) := by decide +kernel
theorem d_law_359 : decode code 359 = .ok (.iconst 2, 1) := by decide +kernel
theorem d_law_360 : decode code 360 = .ok (.iadd, 1) := by decide +kernel
theorem d_law_361 : decode code 361 = .ok (.iaload, 1) := by decide +kernel
theorem d_law_362 : decode code 362 = .ok (.invokevirtual 47, 3) := by decide +kernel
theorem d_law_365 : decode code 365 = .ok (.if_icmp .eq (693), 3) := by decide +kernel
theorem d_law_370 : decode code 370 = .ok (.aload_n 1, 1) := by decide +kernel
theorem d_law_371 : decode code 371 = .ok (.aload_n 0, 1) := by decide +kernel
theorem d_law_372 : decode code 372 = .ok (.iload_n 3, 1) := by decide +kernel
theorem d_law_373 : decode code 373 = .ok (.iconst 1, 1) := by decide +kernel
theorem d_law_374 : decode code 374 = .ok (.iadd, 1) := by decide +kernel
theorem d_law_375 : decode code 375 = .ok (.iaload, 1) := by decide +kernel
theorem d_law_376 : decode code 376 = .ok (.invokevirtual 48, 3) := by decide +kernel
theorem d_law_379 : decode code 379 = .ok (.aload_n 2, 1) := by decide +kernel
theorem d_law_380 : decode code 380 = .ok (.aload_n 0, 1) := by decide +kernel
theorem d_law_381 : decode code 381 = .ok (.iload_n 3, 1) := by decide +kernel
theorem d_law_382 : decode code 382 = .ok (.iconst 1, 1) := by decide +kernel
theorem d_law_383 : decode code 383 = .ok (.iadd, 1) := by decide +kernel
theorem d_law_384 : decode code 384 = .ok (.iaload, 1) := by decide +kernel
theorem d_law_385 : decode code 385 = .ok (.invokevirtual 51, 3) := by decide +kernel
theorem d_law_388 : decode code 388 = .ok (.if_icmp .eq (670), 3) := by decide +kernel
theorem d_law_393 : decode code 393 = .ok (.aload_n 1, 1) := by decide +kernel
theorem d_law_394 : decode code 394 = .ok (.aload_n 0, 1) := by decide +kernel
theorem d_law_395 : decode code 395 = .ok (.iload_n 3, 1) := by decide +kernel
theorem d_law_396 : decode code 396 = .ok (.iconst 1, 1) := by decide +kernel
theorem d_law_397 : decode code 397 = .ok (.iadd, 1) := by decide +kernel
theorem d_law_398 : decode code 398 = .ok (.iaload, 1) := by decide +kernel
theorem d_law_399 : decode code 399 = .ok (.aload_n 0, 1) := by decide +kernel
theorem d_law_400 : decode code 400 = .ok (.iload_n 3, 1) := by decide +kernel
theorem d_law_401 : decode code 401 = .ok (.iconst 2, 1) := by decide +kernel
theorem d_law_402 : decode code 402 = .ok (.iadd, 1) := by decide +kernel
theorem d_law_403 : decode code 403 = .ok (.iaload, 1) := by decide +kernel
theorem d_law_404 : decode code 404 = .ok (.invokevirtual 52, 3) := by decide +kernel
theorem d_law_407 : decode code 407 = .ok (.aload_n 2, 1) := by decide +kernel
theorem d_law_408 : decode code 408 = .ok (.aload_n 0, 1) := by decide +kernel
theorem d_law_409 : decode code 409 = .ok (.iload_n 3, 1) := by decide +kernel
theorem d_law_410 : decode code 410 = .ok (.iconst 1, 1) := by decide +kernel
theorem d_law_411 : decode code 411 = .ok (.iadd, 1) := by decide +kernel
theorem d_law_412 : decode code 412 = .ok (.iaload, 1) := by decide +kernel
theorem d_law_413 : decode code 413 = .ok (.aload_n 0, 1) := by decide +kernel
theorem d_law_414 : decode code 414 = .ok (.iload_n 3, 1) := by decide +kernel
theorem d_law_415 : decode code 415 = .ok (.iconst 2, 1) := by decide +kernel
theorem d_law_416 : decode code 416 = .ok (.iadd, 1) := by decide +kernel
theorem d_law_417 : decode code 417 = .ok (.iaload, 1) := by decide +kernel
theorem d_law_418 : decode code 418 = .ok (.invokevirtual 55, 3) := by decide +kernel
theorem d_law_421 : decode code 421 = .ok (.if_icmp .eq (637), 3) := by decide +kernel
theorem d_law_426 : decode code 426 = .ok (.aload_n 1, 1) := by decide +kernel
theorem d_law_427 : decode code 427 = .ok (.aload_n 0, 1) := by decide +kernel
theorem d_law_428 : decode code 428 = .ok (.iload_n 3, 1) := by decide +kernel
theorem d_law_429 : decode code 429 = .ok (.iconst 1, 1) := by decide +kernel
theorem d_law_430 : decode code 430 = .ok (.iadd, 1) := by decide +kernel
theorem d_law_431 : decode code 431 = .ok (.iaload, 1) := by decide +kernel
theorem d_law_432 : decode code 432 = .ok (.aload_n 0, 1) := by decide +kernel
theorem d_law_433 : decode code 433 = .ok (.iload_n 3, 1) := by decide +kernel
theorem d_law_434 : decode code 434 = .ok (.iconst 2, 1) := by decide +kernel
theorem d_law_435 : decode code 435 = .ok (.iadd, 1) := by decide +kernel
theorem d_law_436 : decode code 436 = .ok (.iaload, 1) := by decide +kernel
theorem d_law_437 : decode code 437 = .ok (.aload_n 0, 1) := by decide +kernel
theorem d_law_438 : decode code 438 = .ok (.iload_n 3, 1) := by decide +kernel
theorem d_law_439 : decode code 439 = .ok (.iconst 3, 1) := by decide +kernel
theorem d_law_440 : decode code 440 = .ok (.iadd, 1) := by decide +kernel
theorem d_law_441 : decode code 441 = .ok (.iaload, 1) := by decide +kernel
theorem d_law_442 : decode code 442 = .ok (.invokevirtual 56, 3) := by decide +kernel
theorem d_law_445 : decode code 445 = .ok (.aload_n 2, 1) := by decide +kernel
theorem d_law_446 : decode code 446 = .ok (.aload_n 0, 1) := by decide +kernel
theorem d_law_447 : decode code 447 = .ok (.iload_n 3, 1) := by decide +kernel
theorem d_law_448 : decode code 448 = .ok (.iconst 1, 1) := by decide +kernel
theorem d_law_449 : decode code 449 = .ok (.iadd, 1) := by decide +kernel
theorem d_law_450 : decode code 450 = .ok (.iaload, 1) := by decide +kernel
theorem d_law_451 : decode code 451 = .ok (.aload_n 0, 1) := by decide +kernel
theorem d_law_452 : decode code 452 = .ok (.iload_n 3, 1) := by decide +kernel
theorem d_law_453 : decode code 453 = .ok (.iconst 2, 1) := by decide +kernel
theorem d_law_454 : decode code 454 = .ok (.iadd, 1) := by decide +kernel
theorem d_law_455 : decode code 455 = .ok (.iaload, 1) := by decide +kernel
theorem d_law_456 : decode code 456 = .ok (.aload_n 0, 1) := by decide +kernel
theorem d_law_457 : decode code 457 = .ok (.iload_n 3, 1) := by decide +kernel
theorem d_law_458 : decode code 458 = .ok (.iconst 3, 1) := by decide +kernel
theorem d_law_459 : decode code 459 = .ok (.iadd, 1) := by decide +kernel
theorem d_law_460 : decode code 460 = .ok (.iaload, 1) := by decide +kernel
theorem d_law_461 : decode code 461 = .ok (.invokevirtual 60, 3) := by decide +kernel
theorem d_law_464 : decode code 464 = .ok (.if_icmp .eq (594), 3) := by decide +kernel
theorem d_law_469 : decode code 469 = .ok (.aload_n 1, 1) := by decide +kernel
theorem d_law_470 : decode code 470 = .ok (.aload_n 0, 1) := by decide +kernel
theorem d_law_471 : decode code 471 = .ok (.iload_n 3, 1) := by decide +kernel
theorem d_law_472 : decode code 472 = .ok (.iconst 1, 1) := by decide +kernel
theorem d_law_473 : decode code 473 = .ok (.iadd, 1) := by decide +kernel
theorem d_law_474 : decode code 474 = .ok (.iaload, 1) := by decide +kernel
theorem d_law_475 : decode code 475 = .ok (.aload_n 0, 1) := by decide +kernel
theorem d_law_476 : decode code 476 = .ok (.iload_n 3, 1) := by decide +kernel
theorem d_law_477 : decode code 477 = .ok (.iconst 2, 1) := by decide +kernel
theorem d_law_478 : decode code 478 = .ok (.iadd, 1) := by decide +kernel
theorem d_law_479 : decode code 479 = .ok (.iaload, 1) := by decide +kernel
theorem d_law_480 : decode code 480 = .ok (.aload_n 0, 1) := by decide +kernel
theorem d_law_481 : decode code 481 = .ok (.iload_n 3, 1) := by decide +kernel
theorem d_law_482 : decode code 482 = .ok (.iconst 3, 1) := by decide +kernel
theorem d_law_483 : decode code 483 = .ok (.iadd, 1) := by decide +kernel
theorem d_law_484 : decode code 484 = .ok (.iaload, 1) := by decide +kernel
theorem d_law_485 : decode code 485 = .ok (.invokevirtual 61, 3) := by decide +kernel
theorem d_law_488 : decode code 488 = .ok (.aload_n 2, 1) := by decide +kernel
theorem d_law_489 : decode code 489 = .ok (.aload_n 0, 1) := by decide +kernel
theorem d_law_490 : decode code 490 = .ok (.iload_n 3, 1) := by decide +kernel
theorem d_law_491 : decode code 491 = .ok (.iconst 1, 1) := by decide +kernel
theorem d_law_492 : decode code 492 = .ok (.iadd, 1) := by decide +kernel
theorem d_law_493 : decode code 493 = .ok (.iaload, 1) := by decide +kernel
theorem d_law_494 : decode code 494 = .ok (.aload_n 0, 1) := by decide +kernel
theorem d_law_495 : decode code 495 = .ok (.iload_n 3, 1) := by decide +kernel
theorem d_law_496 : decode code 496 = .ok (.iconst 2, 1) := by decide +kernel
theorem d_law_497 : decode code 497 = .ok (.iadd, 1) := by decide +kernel
theorem d_law_498 : decode code 498 = .ok (.iaload, 1) := by decide +kernel
theorem d_law_499 : decode code 499 = .ok (.aload_n 0, 1) := by decide +kernel
theorem d_law_500 : decode code 500 = .ok (.iload_n 3, 1) := by decide +kernel
theorem d_law_501 : decode code 501 = .ok (.iconst 3, 1) := by decide +kernel
theorem d_law_502 : decode code 502 = .ok (.iadd, 1) := by decide +kernel
theorem d_law_503 : decode code 503 = .ok (.iaload, 1) := by decide +kernel
theorem d_law_504 : decode code 504 = .ok (.invokevirtual 64, 3) := by decide +kernel
theorem d_law_507 : decode code 507 = .ok (.if_icmp .eq (551), 3) := by decide +kernel
theorem d_law_512 : decode code 512 = .ok (.aload_n 1, 1) := by decide +kernel
theorem d_law_513 : decode code 513 = .ok (.aload_n 0, 1) := by decide +kernel
theorem d_law_514 : decode code 514 = .ok (.iload_n 3, 1) := by decide +kernel
theorem d_law_515 : decode code 515 = .ok (.iconst 1, 1) := by decide +kernel
theorem d_law_516 : decode code 516 = .ok (.iadd, 1) := by decide +kernel
theorem d_law_517 : decode code 517 = .ok (.iaload, 1) := by decide +kernel
theorem d_law_518 : decode code 518 = .ok (.invokevirtual 65, 3) := by decide +kernel
theorem d_law_521 : decode code 521 = .ok (.aload_n 2, 1) := by decide +kernel
theorem d_law_522 : decode code 522 = .ok (.aload_n 0, 1) := by decide +kernel
theorem d_law_523 : decode code 523 = .ok (.iload_n 3, 1) := by decide +kernel
theorem d_law_524 : decode code 524 = .ok (.iconst 1, 1) := by decide +kernel
theorem d_law_525 : decode code 525 = .ok (.iadd, 1) := by decide +kernel
theorem d_law_526 : decode code 526 = .ok (.iaload, 1) := by decide +kernel
theorem d_law_527 : decode code 527 = .ok (.invokevirtual 68, 3) := by decide +kernel
theorem d_law_530 : decode code 530 = .ok (.if_icmp .eq (528), 3) := by decide +kernel
theorem d_law_535 : decode code 535 = .ok (.aload_n 1, 1) := by decide +kernel
theorem d_law_536 : decode code 536 = .ok (.invokevirtual 69, 3) := by decide +kernel
theorem d_law_539 : decode code 539 = .ok (.aload_n 2, 1) := by decide +kernel
theorem d_law_540 : decode code 540 = .ok (.invokevirtual 72, 3) := by decide +kernel
theorem d_law_543 : decode code 543 = .ok (.if_icmp .eq (515), 3) := by decide +kernel
theorem d_law_548 : decode code 548 = .ok (.aload_n 1, 1) := by decide +kernel
theorem d_law_549 : decode code 549 = .ok (.aload_n 0, 1) := by decide +kernel
theorem d_law_550 : decode code 550 = .ok (.iload_n 3, 1) := by decide +kernel
theorem d_law_551 : decode code 551 = .ok (.iconst 1, 1) := by decide +kernel
theorem d_law_552 : decode code 552 = .ok (.iadd, 1) := by decide +kernel
theorem d_law_553 : decode code 553 = .ok (.iaload, 1) := by decide +kernel
theorem d_law_554 : decode code 554 = .ok (.invokevirtual 73, 3) := by decide +kernel
theorem d_law_557 : decode code 557 = .ok (.aload_n 2, 1) := by decide +kernel
theorem d_law_558 : decode code 558 = .ok (.aload_n 0, 1) := by decide +kernel
theorem d_law_559 : decode code 559 = .ok (.iload_n 3, 1) := by decide +kernel
theorem d_law_560 : decode code 560 = .ok (.iconst 1, 1) := by decide +kernel
theorem d_law_561 : decode code 561 = .ok (.iadd, 1) := by decide +kernel
theorem d_law_562 : decode code 562 = .ok (.iaload, 1) := by decide +kernel
theorem d_law_563 : decode code 563 = .ok (.invokevirtual 76, 3) := by decide +kernel
theorem d_law_566 : decode code 566 = .ok (.if_icmp .eq (492), 3) := by decide +kernel
theorem d_law_571 : decode code 571 = .ok (.aload_n 1, 1) := by decide +kernel
theorem d_law_572 : decode code 572 = .ok (.aload_n 0, 1) := by decide +kernel
theorem d_law_573 : decode code 573 = .ok (.iload_n 3, 1) := by decide +kernel
theorem d_law_574 : decode code 574 = .ok (.iconst 1, 1) := by decide +kernel
theorem d_law_575 : decode code 575 = .ok (.iadd, 1) := by decide +kernel
theorem d_law_576 : decode code 576 = .ok (.iaload, 1) := by decide +kernel
theorem d_law_577 : decode code 577 = .ok (.aload_n 0, 1) := by decide +kernel
theorem d_law_578 : decode code 578 = .ok (.iload_n 3, 1) := by decide +kernel
theorem d_law_579 : decode code 579 = .ok (.iconst 2, 1) := by decide +kernel
theorem d_law_580 : decode code 580 = .ok (.iadd, 1) := by decide +kernel
theorem d_law_581 : decode code 581 = .ok (.iaload, 1) := by decide +kernel
theorem d_law_582 : decode code 582 = .ok (.aload_n 0, 1) := by decide +kernel
theorem d_law_583 : decode code 583 = .ok (.iload_n 3, 1) := by decide +kernel
theorem d_law_584 : decode code 584 = .ok (.iconst 3, 1) := by decide +kernel
theorem d_law_585 : decode code 585 = .ok (.iadd, 1) := by decide +kernel
theorem d_law_586 : decode code 586 = .ok (.iaload, 1) := by decide +kernel
theorem d_law_587 : decode code 587 = .ok (.invokevirtual 77, 3) := by decide +kernel
theorem d_law_590 : decode code 590 = .ok (.aload_n 2, 1) := by decide +kernel
theorem d_law_591 : decode code 591 = .ok (.aload_n 0, 1) := by decide +kernel
theorem d_law_592 : decode code 592 = .ok (.iload_n 3, 1) := by decide +kernel
theorem d_law_593 : decode code 593 = .ok (.iconst 1, 1) := by decide +kernel
theorem d_law_594 : decode code 594 = .ok (.iadd, 1) := by decide +kernel
theorem d_law_595 : decode code 595 = .ok (.iaload, 1) := by decide +kernel
theorem d_law_596 : decode code 596 = .ok (.aload_n 0, 1) := by decide +kernel
theorem d_law_597 : decode code 597 = .ok (.iload_n 3, 1) := by decide +kernel
theorem d_law_598 : decode code 598 = .ok (.iconst 2, 1) := by decide +kernel
theorem d_law_599 : decode code 599 = .ok (.iadd, 1) := by decide +kernel
theorem d_law_600 : decode code 600 = .ok (.iaload, 1) := by decide +kernel
theorem d_law_601 : decode code 601 = .ok (.aload_n 0, 1) := by decide +kernel
theorem d_law_602 : decode code 602 = .ok (.iload_n 3, 1) := by decide +kernel
theorem d_law_603 : decode code 603 = .ok (.iconst 3, 1) := by decide +kernel
theorem d_law_604 : decode code 604 = .ok (.iadd, 1) := by decide +kernel
theorem d_law_605 : decode code 605 = .ok (.iaload, 1) := by decide +kernel
theorem d_law_606 : decode code 606 = .ok (.invokevirtual 80, 3) := by decide +kernel
theorem d_law_609 : decode code 609 = .ok (.if_icmp .eq (449), 3) := by decide +kernel
theorem d_law_614 : decode code 614 = .ok (.aload_n 1, 1) := by decide +kernel
theorem d_law_615 : decode code 615 = .ok (.aload_n 0, 1) := by decide +kernel
theorem d_law_616 : decode code 616 = .ok (.iload_n 3, 1) := by decide +kernel
theorem d_law_617 : decode code 617 = .ok (.iconst 1, 1) := by decide +kernel
theorem d_law_618 : decode code 618 = .ok (.iadd, 1) := by decide +kernel
theorem d_law_619 : decode code 619 = .ok (.iaload, 1) := by decide +kernel
theorem d_law_620 : decode code 620 = .ok (.invokevirtual 81, 3) := by decide +kernel
theorem d_law_623 : decode code 623 = .ok (.aload_n 2, 1) := by decide +kernel
theorem d_law_624 : decode code 624 = .ok (.aload_n 0, 1) := by decide +kernel
theorem d_law_625 : decode code 625 = .ok (.iload_n 3, 1) := by decide +kernel
theorem d_law_626 : decode code 626 = .ok (.iconst 1, 1) := by decide +kernel
theorem d_law_627 : decode code 627 = .ok (.iadd, 1) := by decide +kernel
theorem d_law_628 : decode code 628 = .ok (.iaload, 1) := by decide +kernel
theorem d_law_629 : decode code 629 = .ok (.invokevirtual 84, 3) := by decide +kernel
theorem d_law_632 : decode code 632 = .ok (.if_icmp .eq (426), 3) := by decide +kernel
theorem d_law_637 : decode code 637 = .ok (.aload_n 1, 1) := by decide +kernel
theorem d_law_638 : decode code 638 = .ok (.aload_n 0, 1) := by decide +kernel
theorem d_law_639 : decode code 639 = .ok (.iload_n 3, 1) := by decide +kernel
theorem d_law_640 : decode code 640 = .ok (.iconst 1, 1) := by decide +kernel
theorem d_law_641 : decode code 641 = .ok (.iadd, 1) := by decide +kernel
theorem d_law_642 : decode code 642 = .ok (.iaload, 1) := by decide +kernel
theorem d_law_643 : decode code 643 = .ok (.aload_n 0, 1) := by decide +kernel
theorem d_law_644 : decode code 644 = .ok (.iload_n 3, 1) := by decide +kernel
theorem d_law_645 : decode code 645 = .ok (.iconst 2, 1) := by decide +kernel
theorem d_law_646 : decode code 646 = .ok (.iadd, 1) := by decide +kernel
theorem d_law_647 : decode code 647 = .ok (.iaload, 1) := by decide +kernel
theorem d_law_648 : decode code 648 = .ok (.invokevirtual 85, 3) := by decide +kernel
theorem d_law_651 : decode code 651 = .ok (.aload_n 2, 1) := by decide +kernel
theorem d_law_652 : decode code 652 = .ok (.aload_n 0, 1) := by decide +kernel
theorem d_law_653 : decode code 653 = .ok (.iload_n 3, 1) := by decide +kernel
theorem d_law_654 : decode code 654 = .ok (.iconst 1, 1) := by decide +kernel
theorem d_law_655 : decode code 655 = .ok (.iadd, 1) := by decide +kernel
theorem d_law_656 : decode code 656 = .ok (.iaload, 1) := by decide +kernel
theorem d_law_657 : decode code 657 = .ok (.aload_n 0, 1) := by decide +kernel
theorem d_law_658 : decode code 658 = .ok (.iload_n 3, 1) := by decide +kernel
theorem d_law_659 : decode code 659 = .ok (.iconst 2, 1) := by decide +kernel
theorem d_law_660 : decode code 660 = .ok (.iadd, 1) := by decide +kernel
theorem d_law_661 : decode code 661 = .ok (.iaload, 1) := by decide +kernel
theorem d_law_662 : decode code 662 = .ok (.invokevirtual 88, 3) := by decide +kernel
theorem d_law_665 : decode code 665 = .ok (.if_icmp .eq (393), 3) := by decide +kernel
theorem d_law_670 : decode code 670 = .ok (.aload_n 1, 1) := by decide +kernel
theorem d_law_671 : decode code 671 = .ok (.aload_n 0, 1) := by decide +kernel
theorem d_law_672 : decode code 672 = .ok (.iload_n 3, 1) := by decide +kernel
theorem d_law_673 : decode code 673 = .ok (.iconst 1, 1) := by decide +kernel
theorem d_law_674 : decode code 674 = .ok (.iadd, 1) := by decide +kernel
theorem d_law_675 : decode code 675 = .ok (.iaload, 1) := by decide +kernel
theorem d_law_676 : decode code 676 = .ok (.aload_n 0, 1) := by decide +kernel
theorem d_law_677 : decode code 677 = .ok (.iload_n 3, 1) := by decide +kernel
theorem d_law_678 : decode code 678 = .ok (.iconst 2, 1) := by decide +kernel
theorem d_law_679 : decode code 679 = .ok (.iadd, 1) := by decide +kernel
theorem d_law_680 : decode code 680 = .ok (.iaload, 1) := by decide +kernel
theorem d_law_681 : decode code 681 = .ok (.aload_n 0, 1) := by decide +kernel
theorem d_law_682 : decode code 682 = .ok (.iload_n 3, 1) := by decide +kernel
theorem d_law_683 : decode code 683 = .ok (.iconst 3, 1) := by decide +kernel
theorem d_law_684 : decode code 684 = .ok (.iadd, 1) := by decide +kernel
theorem d_law_685 : decode code 685 = .ok (.iaload, 1) := by decide +kernel
theorem d_law_686 : decode code 686 = .ok (.invokevirtual 89, 3) := by decide +kernel
theorem d_law_689 : decode code 689 = .ok (.aload_n 2, 1) := by decide +kernel
theorem d_law_690 : decode code 690 = .ok (.aload_n 0, 1) := by decide +kernel
theorem d_law_691 : decode code 691 = .ok (.iload_n 3, 1) := by decide +kernel
theorem d_law_692 : decode code 692 = .ok (.iconst 1, 1) := by decide +kernel
theorem d_law_693 : decode code 693 = .ok (.iadd, 1) := by decide +kernel
theorem d_law_694 : decode code 694 = .ok (.iaload, 1) := by decide +kernel
theorem d_law_695 : decode code 695 = .ok (.aload_n 0, 1) := by decide +kernel
theorem d_law_696 : decode code 696 = .ok (.iload_n 3, 1) := by decide +kernel
theorem d_law_697 : decode code 697 = .ok (.iconst 2, 1) := by decide +kernel
theorem d_law_698 : decode code 698 = .ok (.iadd, 1) := by decide +kernel
theorem d_law_699 : decode code 699 = .ok (.iaload, 1) := by decide +kernel
theorem d_law_700 : decode code 700 = .ok (.aload_n 0, 1) := by decide +kernel
theorem d_law_701 : decode code 701 = .ok (.iload_n 3, 1) := by decide +kernel
theorem d_law_702 : decode code 702 = .ok (.iconst 3, 1) := by decide +kernel
theorem d_law_703 : decode code 703 = .ok (.iadd, 1) := by decide +kernel
theorem d_law_704 : decode code 704 = .ok (.iaload, 1) := by decide +kernel
theorem d_law_705 : decode code 705 = .ok (.invokevirtual 92, 3) := by decide +kernel
theorem d_law_708 : decode code 708 = .ok (.if_icmp .eq (350), 3) := by decide +kernel
theorem d_law_713 : decode code 713 = .ok (.aload_n 1, 1) := by decide +kernel
theorem d_law_714 : decode code 714 = .ok (.aload_n 0, 1) := by decide +kernel
theorem d_law_715 : decode code 715 = .ok (.iload_n 3, 1) := by decide +kernel
theorem d_law_716 : decode code 716 = .ok (.iconst 1, 1) := by decide +kernel
theorem d_law_717 : decode code 717 = .ok (.iadd, 1) := by decide +kernel
theorem d_law_718 : decode code 718 = .ok (.iaload, 1) := by decide +kernel
theorem d_law_719 : decode code 719 = .ok (.aload_n 0, 1) := by decide +kernel
theorem d_law_720 : decode code 720 = .ok (.iload_n 3, 1) := by decide +kernel
theorem d_law_721 : decode code 721 = .ok (.iconst 2, 1) := by decide +kernel
theorem d_law_722 : decode code 722 = .ok (.iadd, 1) := by decide +kernel
theorem d_law_723 : decode code 723 = .ok (.iaload, 1) := by decide +kernel
theorem d_law_724 : decode code 724 = .ok (.invokevirtual 93, 3) := by decide +kernel
theorem d_law_727 : decode code 727 = .ok (.aload_n 2, 1) := by decide +kernel
theorem d_law_728 : decode code 728 = .ok (.aload_n 0, 1) := by decide +kernel
theorem d_law_729 : decode code 729 = .ok (.iload_n 3, 1) := by decide +kernel
theorem d_law_730 : decode code 730 = .ok (.iconst 1, 1) := by decide +kernel
theorem d_law_731 : decode code 731 = .ok (.iadd, 1) := by decide +kernel
theorem d_law_732 : decode code 732 = .ok (.iaload, 1) := by decide +kernel
theorem d_law_733 : decode code 733 = .ok (.aload_n 0, 1) := by decide +kernel
theorem d_law_734 : decode code 734 = .ok (.iload_n 3, 1) := by decide +kernel
theorem d_law_735 : decode code 735 = .ok (.iconst 2, 1) := by decide +kernel
theorem d_law_736 : decode code 736 = .ok (.iadd, 1) := by decide +kernel
theorem d_law_737 : decode code 737 = .ok (.iaload, 1) := by decide +kernel
theorem d_law_738 : decode code 738 = .ok (.invokevirtual 96, 3) := by decide +kernel
theorem d_law_741 : decode code 741 = .ok (.if_icmp .eq (317), 3) := by decide +kernel
theorem d_law_746 : decode code 746 = .ok (.aload_n 1, 1) := by decide +kernel
theorem d_law_747 : decode code 747 = .ok (.aload_n 0, 1) := by decide +kernel
theorem d_law_748 : decode code 748 = .ok (.iload_n 3, 1) := by decide +kernel
theorem d_law_749 : decode code 749 = .ok (.iconst 1, 1) := by decide +kernel
theorem d_law_750 : decode code 750 = .ok (.iadd, 1) := by decide +kernel
theorem d_law_751 : decode code 751 = .ok (.iaload, 1) := by decide +kernel
theorem d_law_752 : decode code 752 = .ok (.aload_n 0, 1) := by decide +kernel
theorem d_law_753 : decode code 753 = .ok (.iload_n 3, 1) := by decide +kernel
theorem d_law_754 : decode code 754 = .ok (.iconst 2, 1) := by decide +kernel
theorem d_law_755 : decode code 755 = .ok (.iadd, 1) := by decide +kernel
theorem d_law_756 : decode code 756 = .ok (.iaload, 1) := by decide +kernel
theorem d_law_757 : decode code 757 = .ok (.aload_n 0, 1) := by decide +kernel
theorem d_law_758 : decode code 758 = .ok (.iload_n 3, 1) := by decide +kernel
theorem d_law_759 : decode code 759 = .ok (.iconst 3, 1) := by decide +kernel
theorem d_law_760 : decode code 760 = .ok (.iadd, 1) := by decide +kernel
theorem d_law_761 : decode code 761 = .ok (.iaload, 1) := by decide +kernel
theorem d_law_762 : decode code 762 = .ok (.invokevirtual 97, 3) := by decide +kernel
theorem d_law_765 : decode code 765 = .ok (.aload_n 2, 1) := by decide +kernel
theorem d_law_766 : decode code 766 = .ok (.aload_n 0, 1) := by decide +kernel
theorem d_law_767 : decode code 767 = .ok (.iload_n 3, 1) := by decide +kernel
theorem d_law_768 : decode code 768 = .ok (.iconst 1, 1) := by decide +kernel
theorem d_law_769 : decode code 769 = .ok (.iadd, 1) := by decide +kernel
theorem d_law_770 : decode code 770 = .ok (.iaload, 1) := by decide +kernel
theorem d_law_771 : decode code 771 = .ok (.aload_n 0, 1) := by decide +kernel
theorem d_law_772 : decode code 772 = .ok (.iload_n 3, 1) := by decide +kernel
theorem d_law_773 : decode code 773 = .ok (.iconst 2, 1) := by decide +kernel
theorem d_law_774 : decode code 774 = .ok (.iadd, 1) := by decide +kernel
theorem d_law_775 : decode code 775 = .ok (.iaload, 1) := by decide +kernel
theorem d_law_776 : decode code 776 = .ok (.aload_n 0, 1) := by decide +kernel
theorem d_law_777 : decode code 777 = .ok (.iload_n 3, 1) := by decide +kernel
theorem d_law_778 : decode code 778 = .ok (.iconst 3, 1) := by decide +kernel
theorem d_law_779 : decode code 779 = .ok (.iadd, 1) := by decide +kernel
theorem d_law_780 : decode code 780 = .ok (.iaload, 1) := by decide +kernel
theorem d_law_781 : decode code 781 = .ok (.invokevirtual 100, 3) := by decide +kernel
theorem d_law_784 : decode code 784 = .ok (.if_icmp .eq (274), 3) := by decide +kernel
theorem d_law_789 : decode code 789 = .ok (.aload_n 1, 1) := by decide +kernel
theorem d_law_790 : decode code 790 = .ok (.aload_n 0, 1) := by decide +kernel
theorem d_law_791 : decode code 791 = .ok (.iload_n 3, 1) := by decide +kernel
theorem d_law_792 : decode code 792 = .ok (.iconst 1, 1) := by decide +kernel
theorem d_law_793 : decode code 793 = .ok (.iadd, 1) := by decide +kernel
theorem d_law_794 : decode code 794 = .ok (.iaload, 1) := by decide +kernel
theorem d_law_795 : decode code 795 = .ok (.invokevirtual 101, 3) := by decide +kernel
theorem d_law_798 : decode code 798 = .ok (.aload_n 2, 1) := by decide +kernel
theorem d_law_799 : decode code 799 = .ok (.aload_n 0, 1) := by decide +kernel
theorem d_law_800 : decode code 800 = .ok (.iload_n 3, 1) := by decide +kernel
theorem d_law_801 : decode code 801 = .ok (.iconst 1, 1) := by decide +kernel
theorem d_law_802 : decode code 802 = .ok (.iadd, 1) := by decide +kernel
theorem d_law_803 : decode code 803 = .ok (.iaload, 1) := by decide +kernel
theorem d_law_804 : decode code 804 = .ok (.invokevirtual 104, 3) := by decide +kernel
theorem d_law_807 : decode code 807 = .ok (.if_icmp .eq (251), 3) := by decide +kernel
theorem d_law_812 : decode code 812 = .ok (.aload_n 1, 1) := by decide +kernel
theorem d_law_813 : decode code 813 = .ok (.aload_n 0, 1) := by decide +kernel
theorem d_law_814 : decode code 814 = .ok (.iload_n 3, 1) := by decide +kernel
theorem d_law_815 : decode code 815 = .ok (.iconst 1, 1) := by decide +kernel
theorem d_law_816 : decode code 816 = .ok (.iadd, 1) := by decide +kernel
theorem d_law_817 : decode code 817 = .ok (.iaload, 1) := by decide +kernel
theorem d_law_818 : decode code 818 = .ok (.aload_n 0, 1) := by decide +kernel
theorem d_law_819 : decode code 819 = .ok (.iload_n 3, 1) := by decide +kernel
theorem d_law_820 : decode code 820 = .ok (.iconst 2, 1) := by decide +kernel
theorem d_law_821 : decode code 821 = .ok (.iadd, 1) := by decide +kernel
theorem d_law_822 : decode code 822 = .ok (.iaload, 1) := by decide +kernel
theorem d_law_823 : decode code 823 = .ok (.invokevirtual 105, 3) := by decide +kernel
theorem d_law_826 : decode code 826 = .ok (.aload_n 2, 1) := by decide +kernel
theorem d_law_827 : decode code 827 = .ok (.aload_n 0, 1) := by decide +kernel
theorem d_law_828 : decode code 828 = .ok (.iload_n 3, 1) := by decide +kernel
theorem d_law_829 : decode code 829 = .ok (.iconst 1, 1) := by decide +kernel
theorem d_law_830 : decode code 830 = .ok (.iadd, 1) := by decide +kernel
theorem d_law_831 : decode code 831 = .ok (.iaload, 1) := by decide +kernel
theorem d_law_832 : decode code 832 = .ok (.aload_n 0, 1) := by decide +kernel
theorem d_law_833 : decode code 833 = .ok (.iload_n 3, 1) := by decide +kernel
theorem d_law_834 : decode code 834 = .ok (.iconst 2, 1) := by decide +kernel
theorem d_law_835 : decode code 835 = .ok (.iadd, 1) := by decide +kernel
theorem d_law_836 : decode code 836 = .ok (.iaload, 1) := by decide +kernel
theorem d_law_837 : decode code 837 = .ok (.invokevirtual 108, 3) := by decide +kernel
theorem d_law_840 : decode code 840 = .ok (.if_icmp .eq (218), 3) := by decide +kernel
theorem d_law_845 : decode code 845 = .ok (.aload_n 1, 1) := by decide +kernel
theorem d_law_846 : decode code 846 = .ok (.aload_n 0, 1) := by decide +kernel
theorem d_law_847 : decode code 847 = .ok (.iload_n 3, 1) := by decide +kernel
theorem d_law_848 : decode code 848 = .ok (.iconst 1, 1) := by decide +kernel
theorem d_law_849 : decode code 849 = .ok (.iadd, 1) := by decide +kernel
theorem d_law_850 : decode code 850 = .ok (.iaload, 1) := by decide +kernel
theorem d_law_851 : decode code 851 = .ok (.aload_n 0, 1) := by decide +kernel
theorem d_law_852 : decode code 852 = .ok (.iload_n 3, 1) := by decide +kernel
theorem d_law_853 : decode code 853 = .ok (.iconst 2, 1) := by decide +kernel
theorem d_law_854 : decode code 854 = .ok (.iadd, 1) := by decide +kernel
theorem d_law_855 : decode code 855 = .ok (.iaload, 1) := by decide +kernel
theorem d_law_856 : decode code 856 = .ok (.ifCond .eq (7), 3) := by decide +kernel
theorem d_law_859 : decode code 859 = .ok (.iconst 1, 1) := by decide +kernel
theorem d_law_860 : decode code 860 = .ok (.goto (4), 3) := by decide +kernel
theorem d_law_863 : decode code 863 = .ok (.iconst 0, 1) := by decide +kernel
theorem d_law_864 : decode code 864 = .ok (.invokevirtual 109, 3) := by decide +kernel
theorem d_law_867 : decode code 867 = .ok (.aload_n 2, 1) := by decide +kernel
theorem d_law_868 : decode code 868 = .ok (.aload_n 0, 1) := by decide +kernel
theorem d_law_869 : decode code 869 = .ok (.iload_n 3, 1) := by decide +kernel
theorem d_law_870 : decode code 870 = .ok (.iconst 1, 1) := by decide +kernel
theorem d_law_871 : decode code 871 = .ok (.iadd, 1) := by decide +kernel
theorem d_law_872 : decode code 872 = .ok (.iaload, 1) := by decide +kernel
theorem d_law_873 : decode code 873 = .ok (.aload_n 0, 1) := by decide +kernel
theorem d_law_874 : decode code 874 = .ok (.iload_n 3, 1) := by decide +kernel
theorem d_law_875 : decode code 875 = .ok (.iconst 2, 1) := by decide +kernel
theorem d_law_876 : decode code 876 = .ok (.iadd, 1) := by decide +kernel
theorem d_law_877 : decode code 877 = .ok (.iaload, 1) := by decide +kernel
theorem d_law_878 : decode code 878 = .ok (.ifCond .eq (7), 3) := by decide +kernel
theorem d_law_881 : decode code 881 = .ok (.iconst 1, 1) := by decide +kernel
theorem d_law_882 : decode code 882 = .ok (.goto (4), 3) := by decide +kernel
theorem d_law_885 : decode code 885 = .ok (.iconst 0, 1) := by decide +kernel
theorem d_law_886 : decode code 886 = .ok (.invokevirtual 113, 3) := by decide +kernel
theorem d_law_889 : decode code 889 = .ok (.if_icmp .eq (169), 3) := by decide +kernel
theorem d_law_894 : decode code 894 = .ok (.aload_n 1, 1) := by decide +kernel
theorem d_law_895 : decode code 895 = .ok (.aload_n 0, 1) := by decide +kernel
theorem d_law_896 : decode code 896 = .ok (.iload_n 3, 1) := by decide +kernel
theorem d_law_897 : decode code 897 = .ok (.iconst 1, 1) := by decide +kernel
theorem d_law_898 : decode code 898 = .ok (.iadd, 1) := by decide +kernel
theorem d_law_899 : decode code 899 = .ok (.iaload, 1) := by decide +kernel
theorem d_law_900 : decode code 900 = .ok (.invokevirtual 114, 3) := by decide +kernel
theorem d_law_903 : decode code 903 = .ok (.aload_n 2, 1) := by decide +kernel
theorem d_law_904 : decode code 904 = .ok (.aload_n 0, 1) := by decide +kernel
theorem d_law_905 : decode code 905 = .ok (.iload_n 3, 1) := by decide +kernel
theorem d_law_906 : decode code 906 = .ok (.iconst 1, 1) := by decide +kernel
theorem d_law_907 : decode code 907 = .ok (.iadd, 1) := by decide +kernel
theorem d_law_908 : decode code 908 = .ok (.iaload, 1) := by decide +kernel
theorem d_law_909 : decode code 909 = .ok (.invokevirtual 117, 3) := by decide +kernel
theorem d_law_912 : decode code 912 = .ok (.if_icmp .eq (146), 3) := by decide +kernel
theorem d_law_917 : decode code 917 = .ok (.aload_n 1, 1) := by decide +kernel
theorem d_law_918 : decode code 918 = .ok (.invokevirtual 118, 3) := by decide +kernel
theorem d_law_921 : decode code 921 = .ok (.aload_n 2, 1) := by decide +kernel
theorem d_law_922 : decode code 922 = .ok (.invokevirtual 121, 3) := by decide +kernel
theorem d_law_925 : decode code 925 = .ok (.if_icmp .eq (133), 3) := by decide +kernel
theorem d_law_930 : decode code 930 = .ok (.aload_n 1, 1) := by decide +kernel
theorem d_law_931 : decode code 931 = .ok (.aload_n 0, 1) := by decide +kernel
theorem d_law_932 : decode code 932 = .ok (.iload_n 3, 1) := by decide +kernel
theorem d_law_933 : decode code 933 = .ok (.iconst 1, 1) := by decide +kernel
theorem d_law_934 : decode code 934 = .ok (.iadd, 1) := by decide +kernel
theorem d_law_935 : decode code 935 = .ok (.iaload, 1) := by decide +kernel
theorem d_law_936 : decode code 936 = .ok (.aload_n 0, 1) := by decide +kernel
theorem d_law_937 : decode code 937 = .ok (.iload_n 3, 1) := by decide +kernel
theorem d_law_938 : decode code 938 = .ok (.iconst 2, 1) := by decide +kernel
theorem d_law_939 : decode code 939 = .ok (.iadd, 1) := by decide +kernel
theorem d_law_940 : decode code 940 = .ok (.iaload, 1) := by decide +kernel
theorem d_law_941 : decode code 941 = .ok (.invokevirtual 122, 3) := by decide +kernel
theorem d_law_944 : decode code 944 = .ok (.aload_n 2, 1) := by decide +kernel
theorem d_law_945 : decode code 945 = .ok (.aload_n 0, 1) := by decide +kernel
theorem d_law_946 : decode code 946 = .ok (.iload_n 3, 1) := by decide +kernel
theorem d_law_947 : decode code 947 = .ok (.iconst 1, 1) := by decide +kernel
theorem d_law_948 : decode code 948 = .ok (.iadd, 1) := by decide +kernel
theorem d_law_949 : decode code 949 = .ok (.iaload, 1) := by decide +kernel
theorem d_law_950 : decode code 950 = .ok (.aload_n 0, 1) := by decide +kernel
theorem d_law_951 : decode code 951 = .ok (.iload_n 3, 1) := by decide +kernel
theorem d_law_952 : decode code 952 = .ok (.iconst 2, 1) := by decide +kernel
theorem d_law_953 : decode code 953 = .ok (.iadd, 1) := by decide +kernel
theorem d_law_954 : decode code 954 = .ok (.iaload, 1) := by decide +kernel
theorem d_law_955 : decode code 955 = .ok (.invokevirtual 125, 3) := by decide +kernel
theorem d_law_958 : decode code 958 = .ok (.if_icmp .eq (100), 3) := by decide +kernel
theorem d_law_963 : decode code 963 = .ok (.aload_n 1, 1) := by decide +kernel
theorem d_law_964 : decode code 964 = .ok (.invokevirtual 126, 3) := by decide +kernel
theorem d_law_967 : decode code 967 = .ok (.aload_n 2, 1) := by decide +kernel
theorem d_law_968 : decode code 968 = .ok (.invokevirtual 129, 3) := by decide +kernel
theorem d_law_971 : decode code 971 = .ok (.if_icmp .eq (87), 3) := by decide +kernel
theorem d_law_976 : decode code 976 = .ok (.aload_n 1, 1) := by decide +kernel
theorem d_law_977 : decode code 977 = .ok (.invokevirtual 130, 3) := by decide +kernel
theorem d_law_980 : decode code 980 = .ok (.aload_n 2, 1) := by decide +kernel
theorem d_law_981 : decode code 981 = .ok (.invokevirtual 133, 3) := by decide +kernel
theorem d_law_984 : decode code 984 = .ok (.if_icmp .eq (74), 3) := by decide +kernel
theorem d_law_989 : decode code 989 = .ok (.aload_n 1, 1) := by decide +kernel
theorem d_law_990 : decode code 990 = .ok (.aload_n 0, 1) := by decide +kernel
theorem d_law_991 : decode code 991 = .ok (.iload_n 3, 1) := by decide +kernel
theorem d_law_992 : decode code 992 = .ok (.iconst 1, 1) := by decide +kernel
theorem d_law_993 : decode code 993 = .ok (.iadd, 1) := by decide +kernel
theorem d_law_994 : decode code 994 = .ok (.iaload, 1) := by decide +kernel
theorem d_law_995 : decode code 995 = .ok (.invokevirtual 134, 3) := by decide +kernel
theorem d_law_998 : decode code 998 = .ok (.aload_n 2, 1) := by decide +kernel
theorem d_law_999 : decode code 999 = .ok (.aload_n 0, 1) := by decide +kernel
theorem d_law_1000 : decode code 1000 = .ok (.iload_n 3, 1) := by decide +kernel
theorem d_law_1001 : decode code 1001 = .ok (.iconst 1, 1) := by decide +kernel
theorem d_law_1002 : decode code 1002 = .ok (.iadd, 1) := by decide +kernel
theorem d_law_1003 : decode code 1003 = .ok (.iaload, 1) := by decide +kernel
theorem d_law_1004 : decode code 1004 = .ok (.invokevirtual 137, 3) := by decide +kernel
theorem d_law_1007 : decode code 1007 = .ok (.if_icmp .eq (51), 3) := by decide +kernel
theorem d_law_1012 : decode code 1012 = .ok (.aload_n 1, 1) := by decide +kernel
theorem d_law_1013 : decode code 1013 = .ok (.aload_n 0, 1) := by decide +kernel
theorem d_law_1014 : decode code 1014 = .ok (.iload_n 3, 1) := by decide +kernel
theorem d_law_1015 : decode code 1015 = .ok (.iconst 1, 1) := by decide +kernel
theorem d_law_1016 : decode code 1016 = .ok (.iadd, 1) := by decide +kernel
theorem d_law_1017 : decode code 1017 = .ok (.iaload, 1) := by decide +kernel
theorem d_law_1018 : decode code 1018 = .ok (.invokevirtual 138, 3) := by decide +kernel
theorem d_law_1021 : decode code 1021 = .ok (.aload_n 2, 1) := by decide +kernel
theorem d_law_1022 : decode code 1022 = .ok (.aload_n 0, 1) := by decide +kernel
theorem d_law_1023 : decode code 1023 = .ok (.iload_n 3, 1) := by decide +kernel
theorem d_law_1024 : decode code 1024 = .ok (.iconst 1, 1) := by decide +kernel
theorem d_law_1025 : decode code 1025 = .ok (.iadd, 1) := by decide +kernel
theorem d_law_1026 : decode code 1026 = .ok (.iaload, 1) := by decide +kernel
theorem d_law_1027 : decode code 1027 = .ok (.invokevirtual 141, 3) := by decide +kernel
theorem d_law_1030 : decode code 1030 = .ok (.if_icmp .eq (28), 3) := by decide +kernel
theorem d_law_1035 : decode code 1035 = .ok (.aload_n 1, 1) := by decide +kernel
theorem d_law_1036 : decode code 1036 = .ok (.aload_n 0, 1) := by decide +kernel
theorem d_law_1037 : decode code 1037 = .ok (.iload_n 3, 1) := by decide +kernel
theorem d_law_1038 : decode code 1038 = .ok (.iconst 1, 1) := by decide +kernel
theorem d_law_1039 : decode code 1039 = .ok (.iadd, 1) := by decide +kernel
theorem d_law_1040 : decode code 1040 = .ok (.iaload, 1) := by decide +kernel
theorem d_law_1041 : decode code 1041 = .ok (.invokevirtual 142, 3) := by decide +kernel
theorem d_law_1044 : decode code 1044 = .ok (.aload_n 2, 1) := by decide +kernel
theorem d_law_1045 : decode code 1045 = .ok (.aload_n 0, 1) := by decide +kernel
theorem d_law_1046 : decode code 1046 = .ok (.iload_n 3, 1) := by decide +kernel
theorem d_law_1047 : decode code 1047 = .ok (.iconst 1, 1) := by decide +kernel
theorem d_law_1048 : decode code 1048 = .ok (.iadd, 1) := by decide +kernel
theorem d_law_1049 : decode code 1049 = .ok (.iaload, 1) := by decide +kernel
theorem d_law_1050 : decode code 1050 = .ok (.invokevirtual 145, 3) := by decide +kernel
theorem d_law_1053 : decode code 1053 = .ok (.if_icmp .eq (5), 3) := by decide +kernel
theorem d_law_1058 : decode code 1058 = .ok (.iinc 3 (4), 3) := by decide +kernel
theorem d_law_1061 : decode code 1061 = .ok (.goto (-1043), 3) := by decide +kernel
theorem d_law_1064 : decode code 1064 = .ok (.iconst 1, 1) := by decide +kernel
theorem d_law_1065 : decode code 1065 = .ok (.ireturn, 1) := by decide +kernel
set_option maxRecDepth 20000 in
set_option maxHeartbeats 2000000 in
theorem law_c0 {Z : ZT} (X : CX Z Y_law) {b L i : Nat} {xs : Nat → Int32} (hX : va_X b L xs (zs Z) (zs Z).heap) (hbl : b < (zs Z).heap.size) (hbA : ¬ zA Z b) (h1 : vp_in (nI i + 1) L) (h2 : vp_in (nI i + 2) L) (h3 : vp_in (nI i + 3) L) {hp : HP} (hR : R hp) (kk : ∀ hp2, R hp2 → V Z Y_law hp2 1058 [(3, .int (nI i)), (2, .ref (gA (zG Z) 99)), (1, .ref (gA (zG Z) 0)), (0, .ref b)] []) : V Z Y_law hp 176 [(3, .int (nI i)), (2, .ref (gA (zG Z) 99)), (1, .ref (gA (zG Z) 0)), (0, .ref b)] [] := by
  refine R_aload_n X 2 d_law_176 rfl ?_
  refine R_aload_n X 3 d_law_177 rfl ?_
  refine R_iload_n X 0 d_law_178 rfl ?_
  refine R_iconst (v := (1 : Int32)) X d_law_179 rfl ?_
  refine R_iadd X d_law_180 ?_
  refine V_pc (pc' := 181) rfl ?_
  refine R_sld X hX hbl hbA h1 d_law_181 ?_
  obtain ⟨v, hp1, hp2, e1, e2, hR2⟩ := S_feed hR (xs (nI i + 1).toNatClampNeg)
  refine R_vcall (ci := 6) (k := 0) (r := v) (hp1 := hp1) (As := [.int (xs (nI i + 1).toNatClampNeg)]) (st := []) X (M_BA_feed e1) aw_271 cf_BA_feed (of_decide_eq_true rfl) rfl rfl rfl rfl rfl d_law_182 ?_
  refine V_pc (pc' := 185) rfl ?_
  refine R_aload_n X 1 d_law_185 rfl ?_
  refine R_aload_n X 3 d_law_186 rfl ?_
  refine R_iload_n X 0 d_law_187 rfl ?_
  refine R_iconst (v := (1 : Int32)) X d_law_188 rfl ?_
  refine V_pc (pc' := 189) rfl ?_
  refine R_iadd X d_law_189 ?_
  refine R_sld X hX hbl hbA h1 d_law_190 ?_
  refine R_vcall (ci := 7) (k := 99) (r := v) (hp1 := hp2) (As := [.int (xs (nI i + 1).toNatClampNeg)]) (st := [.int v]) X (M_Mo_feed e2) aw_777 cf_Mo_feed (of_decide_eq_true rfl) rfl rfl rfl rfl rfl d_law_191 ?_
  refine V_pc (pc' := 194) rfl ?_
  refine R_icmp_eq (tgt := 1058) X d_law_194 rfl (fun _ => ?_) (fun c => absurd rfl c)
  exact kk hp2 hR2
set_option maxRecDepth 20000 in
set_option maxHeartbeats 2000000 in
theorem law_c1 {Z : ZT} (X : CX Z Y_law) {b L i : Nat} {xs : Nat → Int32} (hX : va_X b L xs (zs Z) (zs Z).heap) (hbl : b < (zs Z).heap.size) (hbA : ¬ zA Z b) (h1 : vp_in (nI i + 1) L) (h2 : vp_in (nI i + 2) L) (h3 : vp_in (nI i + 3) L) {hp : HP} (hR : R hp) (kk : ∀ hp2, R hp2 → V Z Y_law hp2 1058 [(3, .int (nI i)), (2, .ref (gA (zG Z) 99)), (1, .ref (gA (zG Z) 0)), (0, .ref b)] []) : V Z Y_law hp 199 [(3, .int (nI i)), (2, .ref (gA (zG Z) 99)), (1, .ref (gA (zG Z) 0)), (0, .ref b)] [] := by
  refine R_aload_n X 2 d_law_199 rfl ?_
  obtain ⟨v, hp1, hp2, e1, e2, hR2⟩ := S_branch hR
  refine R_vcall (ci := 6) (k := 0) (r := v) (hp1 := hp1) (As := []) (st := []) X (M_BA_branch e1) aw_284 cf_BA_branch (of_decide_eq_true rfl) rfl rfl rfl rfl rfl d_law_200 ?_
  refine V_pc (pc' := 203) rfl ?_
  refine R_aload_n X 1 d_law_203 rfl ?_
  refine R_vcall (ci := 7) (k := 99) (r := v) (hp1 := hp2) (As := []) (st := [.int v]) X (M_Mo_branch e2) aw_787 cf_Mo_branch (of_decide_eq_true rfl) rfl rfl rfl rfl rfl d_law_204 ?_
  refine V_pc (pc' := 207) rfl ?_
  refine R_icmp_eq (tgt := 1058) X d_law_207 rfl (fun _ => ?_) (fun c => absurd rfl c)
  exact kk hp2 hR2
set_option maxRecDepth 20000 in
set_option maxHeartbeats 2000000 in
theorem law_c2 {Z : ZT} (X : CX Z Y_law) {b L i : Nat} {xs : Nat → Int32} (hX : va_X b L xs (zs Z) (zs Z).heap) (hbl : b < (zs Z).heap.size) (hbA : ¬ zA Z b) (h1 : vp_in (nI i + 1) L) (h2 : vp_in (nI i + 2) L) (h3 : vp_in (nI i + 3) L) {hp : HP} (hR : R hp) (kk : ∀ hp2, R hp2 → V Z Y_law hp2 1058 [(3, .int (nI i)), (2, .ref (gA (zG Z) 99)), (1, .ref (gA (zG Z) 0)), (0, .ref b)] []) : V Z Y_law hp 212 [(3, .int (nI i)), (2, .ref (gA (zG Z) 99)), (1, .ref (gA (zG Z) 0)), (0, .ref b)] [] := by
  refine R_aload_n X 2 d_law_212 rfl ?_
  obtain ⟨v, hp1, hp2, e1, e2, hR2⟩ := S_fault hR
  refine R_vcall (ci := 6) (k := 0) (r := v) (hp1 := hp1) (As := []) (st := []) X (M_BA_fault e1) aw_363 cf_BA_fault (of_decide_eq_true rfl) rfl rfl rfl rfl rfl d_law_213 ?_
  refine V_pc (pc' := 216) rfl ?_
  refine R_aload_n X 1 d_law_216 rfl ?_
  refine R_vcall (ci := 7) (k := 99) (r := v) (hp1 := hp2) (As := []) (st := [.int v]) X (M_Mo_fault e2) aw_829 cf_Mo_fault (of_decide_eq_true rfl) rfl rfl rfl rfl rfl d_law_217 ?_
  refine V_pc (pc' := 220) rfl ?_
  refine R_icmp_eq (tgt := 1058) X d_law_220 rfl (fun _ => ?_) (fun c => absurd rfl c)
  exact kk hp2 hR2
set_option maxRecDepth 20000 in
set_option maxHeartbeats 2000000 in
theorem law_c3 {Z : ZT} (X : CX Z Y_law) {b L i : Nat} {xs : Nat → Int32} (hX : va_X b L xs (zs Z) (zs Z).heap) (hbl : b < (zs Z).heap.size) (hbA : ¬ zA Z b) (h1 : vp_in (nI i + 1) L) (h2 : vp_in (nI i + 2) L) (h3 : vp_in (nI i + 3) L) {hp : HP} (hR : R hp) (kk : ∀ hp2, R hp2 → V Z Y_law hp2 1058 [(3, .int (nI i)), (2, .ref (gA (zG Z) 99)), (1, .ref (gA (zG Z) 0)), (0, .ref b)] []) : V Z Y_law hp 225 [(3, .int (nI i)), (2, .ref (gA (zG Z) 99)), (1, .ref (gA (zG Z) 0)), (0, .ref b)] [] := by
  refine R_aload_n X 2 d_law_225 rfl ?_
  refine R_aload_n X 3 d_law_226 rfl ?_
  refine R_iload_n X 0 d_law_227 rfl ?_
  refine R_iconst (v := (1 : Int32)) X d_law_228 rfl ?_
  refine R_iadd X d_law_229 ?_
  refine V_pc (pc' := 230) rfl ?_
  refine R_sld X hX hbl hbA h1 d_law_230 ?_
  obtain ⟨v, hp1, hp2, e1, e2, hR2⟩ := S_told hR (xs (nI i + 1).toNatClampNeg)
  refine R_vcall (ci := 6) (k := 0) (r := v) (hp1 := hp1) (As := [.int (xs (nI i + 1).toNatClampNeg)]) (st := []) X (M_BA_told e1) aw_367 cf_BA_told (of_decide_eq_true rfl) rfl rfl rfl rfl rfl d_law_231 ?_
  refine V_pc (pc' := 234) rfl ?_
  refine R_aload_n X 1 d_law_234 rfl ?_
  refine R_aload_n X 3 d_law_235 rfl ?_
  refine R_iload_n X 0 d_law_236 rfl ?_
  refine R_iconst (v := (1 : Int32)) X d_law_237 rfl ?_
  refine V_pc (pc' := 238) rfl ?_
  refine R_iadd X d_law_238 ?_
  refine R_sld X hX hbl hbA h1 d_law_239 ?_
  refine R_vcall (ci := 7) (k := 99) (r := v) (hp1 := hp2) (As := [.int (xs (nI i + 1).toNatClampNeg)]) (st := [.int v]) X (M_Mo_told e2) aw_833 cf_Mo_told (of_decide_eq_true rfl) rfl rfl rfl rfl rfl d_law_240 ?_
  refine V_pc (pc' := 243) rfl ?_
  refine R_icmp_eq (tgt := 1058) X d_law_243 rfl (fun _ => ?_) (fun c => absurd rfl c)
  exact kk hp2 hR2
set_option maxRecDepth 20000 in
set_option maxHeartbeats 2000000 in
theorem law_c4 {Z : ZT} (X : CX Z Y_law) {b L i : Nat} {xs : Nat → Int32} (hX : va_X b L xs (zs Z) (zs Z).heap) (hbl : b < (zs Z).heap.size) (hbA : ¬ zA Z b) (h1 : vp_in (nI i + 1) L) (h2 : vp_in (nI i + 2) L) (h3 : vp_in (nI i + 3) L) {hp : HP} (hR : R hp) (kk : ∀ hp2, R hp2 → V Z Y_law hp2 1058 [(3, .int (nI i)), (2, .ref (gA (zG Z) 99)), (1, .ref (gA (zG Z) 0)), (0, .ref b)] []) : V Z Y_law hp 248 [(3, .int (nI i)), (2, .ref (gA (zG Z) 99)), (1, .ref (gA (zG Z) 0)), (0, .ref b)] [] := by
  refine R_aload_n X 2 d_law_248 rfl ?_
  refine R_aload_n X 3 d_law_249 rfl ?_
  refine R_iload_n X 0 d_law_250 rfl ?_
  refine R_iconst (v := (1 : Int32)) X d_law_251 rfl ?_
  refine R_iadd X d_law_252 ?_
  refine V_pc (pc' := 253) rfl ?_
  refine R_sld X hX hbl hbA h1 d_law_253 ?_
  obtain ⟨v, hp1, hp2, e1, e2, hR2⟩ := S_part hR (xs (nI i + 1).toNatClampNeg)
  refine R_vcall (ci := 6) (k := 0) (r := v) (hp1 := hp1) (As := [.int (xs (nI i + 1).toNatClampNeg)]) (st := []) X (M_BA_part e1) aw_405 cf_BA_part (of_decide_eq_true rfl) rfl rfl rfl rfl rfl d_law_254 ?_
  refine V_pc (pc' := 257) rfl ?_
  refine R_aload_n X 1 d_law_257 rfl ?_
  refine R_aload_n X 3 d_law_258 rfl ?_
  refine R_iload_n X 0 d_law_259 rfl ?_
  refine R_iconst (v := (1 : Int32)) X d_law_260 rfl ?_
  refine V_pc (pc' := 261) rfl ?_
  refine R_iadd X d_law_261 ?_
  refine R_sld X hX hbl hbA h1 d_law_262 ?_
  refine R_vcall (ci := 7) (k := 99) (r := v) (hp1 := hp2) (As := [.int (xs (nI i + 1).toNatClampNeg)]) (st := [.int v]) X (M_Mo_part e2) aw_865 cf_Mo_part (of_decide_eq_true rfl) rfl rfl rfl rfl rfl d_law_263 ?_
  refine V_pc (pc' := 266) rfl ?_
  refine R_icmp_eq (tgt := 1058) X d_law_266 rfl (fun _ => ?_) (fun c => absurd rfl c)
  exact kk hp2 hR2
set_option maxRecDepth 20000 in
set_option maxHeartbeats 2000000 in
theorem law_c5 {Z : ZT} (X : CX Z Y_law) {b L i : Nat} {xs : Nat → Int32} (hX : va_X b L xs (zs Z) (zs Z).heap) (hbl : b < (zs Z).heap.size) (hbA : ¬ zA Z b) (h1 : vp_in (nI i + 1) L) (h2 : vp_in (nI i + 2) L) (h3 : vp_in (nI i + 3) L) {hp : HP} (hR : R hp) (kk : ∀ hp2, R hp2 → V Z Y_law hp2 1058 [(3, .int (nI i)), (2, .ref (gA (zG Z) 99)), (1, .ref (gA (zG Z) 0)), (0, .ref b)] []) : V Z Y_law hp 271 [(3, .int (nI i)), (2, .ref (gA (zG Z) 99)), (1, .ref (gA (zG Z) 0)), (0, .ref b)] [] := by
  refine R_aload_n X 2 d_law_271 rfl ?_
  refine R_aload_n X 3 d_law_272 rfl ?_
  refine R_iload_n X 0 d_law_273 rfl ?_
  refine R_iconst (v := (1 : Int32)) X d_law_274 rfl ?_
  refine R_iadd X d_law_275 ?_
  refine V_pc (pc' := 276) rfl ?_
  refine R_sld X hX hbl hbA h1 d_law_276 ?_
  refine R_aload_n X 3 d_law_277 rfl ?_
  refine R_iload_n X 0 d_law_278 rfl ?_
  refine R_iconst (v := (2 : Int32)) X d_law_279 rfl ?_
  refine R_iadd X d_law_280 ?_
  refine R_sld X hX hbl hbA h2 d_law_281 ?_
  refine V_pc (pc' := 282) rfl ?_
  obtain ⟨v, hp1, hp2, e1, e2, hR2⟩ := S_customer hR (xs (nI i + 1).toNatClampNeg) (xs (nI i + 2).toNatClampNeg)
  refine R_vcall (ci := 6) (k := 0) (r := v) (hp1 := hp1) (As := [.int (xs (nI i + 1).toNatClampNeg), .int (xs (nI i + 2).toNatClampNeg)]) (st := []) X (M_BA_customer e1) aw_415 cf_BA_customer (of_decide_eq_true rfl) rfl rfl rfl rfl rfl d_law_282 ?_
  refine V_pc (pc' := 285) rfl ?_
  refine R_aload_n X 1 d_law_285 rfl ?_
  refine R_aload_n X 3 d_law_286 rfl ?_
  refine R_iload_n X 0 d_law_287 rfl ?_
  refine R_iconst (v := (1 : Int32)) X d_law_288 rfl ?_
  refine R_iadd X d_law_289 ?_
  refine V_pc (pc' := 290) rfl ?_
  refine R_sld X hX hbl hbA h1 d_law_290 ?_
  refine R_aload_n X 3 d_law_291 rfl ?_
  refine R_iload_n X 0 d_law_292 rfl ?_
  refine R_iconst (v := (2 : Int32)) X d_law_293 rfl ?_
  refine R_iadd X d_law_294 ?_
  refine R_sld X hX hbl hbA h2 d_law_295 ?_
  refine V_pc (pc' := 296) rfl ?_
  refine R_vcall (ci := 7) (k := 99) (r := v) (hp1 := hp2) (As := [.int (xs (nI i + 1).toNatClampNeg), .int (xs (nI i + 2).toNatClampNeg)]) (st := [.int v]) X (M_Mo_customer e2) aw_874 cf_Mo_customer (of_decide_eq_true rfl) rfl rfl rfl rfl rfl d_law_296 ?_
  refine V_pc (pc' := 299) rfl ?_
  refine R_icmp_eq (tgt := 1058) X d_law_299 rfl (fun _ => ?_) (fun c => absurd rfl c)
  exact kk hp2 hR2
set_option maxRecDepth 20000 in
set_option maxHeartbeats 2000000 in
theorem law_c6 {Z : ZT} (X : CX Z Y_law) {b L i : Nat} {xs : Nat → Int32} (hX : va_X b L xs (zs Z) (zs Z).heap) (hbl : b < (zs Z).heap.size) (hbA : ¬ zA Z b) (h1 : vp_in (nI i + 1) L) (h2 : vp_in (nI i + 2) L) (h3 : vp_in (nI i + 3) L) {hp : HP} (hR : R hp) (kk : ∀ hp2, R hp2 → V Z Y_law hp2 1058 [(3, .int (nI i)), (2, .ref (gA (zG Z) 99)), (1, .ref (gA (zG Z) 0)), (0, .ref b)] []) : V Z Y_law hp 304 [(3, .int (nI i)), (2, .ref (gA (zG Z) 99)), (1, .ref (gA (zG Z) 0)), (0, .ref b)] [] := by
  refine R_aload_n X 2 d_law_304 rfl ?_
  refine R_aload_n X 3 d_law_305 rfl ?_
  refine R_iload_n X 0 d_law_306 rfl ?_
  refine R_iconst (v := (1 : Int32)) X d_law_307 rfl ?_
  refine R_iadd X d_law_308 ?_
  refine V_pc (pc' := 309) rfl ?_
  refine R_sld X hX hbl hbA h1 d_law_309 ?_
  refine R_aload_n X 3 d_law_310 rfl ?_
  refine R_iload_n X 0 d_law_311 rfl ?_
  refine R_iconst (v := (2 : Int32)) X d_law_312 rfl ?_
  refine R_iadd X d_law_313 ?_
  refine R_sld X hX hbl hbA h2 d_law_314 ?_
  refine V_pc (pc' := 315) rfl ?_
  obtain ⟨v, hp1, hp2, e1, e2, hR2⟩ := S_owes hR (xs (nI i + 1).toNatClampNeg) (xs (nI i + 2).toNatClampNeg)
  refine R_vcall (ci := 6) (k := 0) (r := v) (hp1 := hp1) (As := [.int (xs (nI i + 1).toNatClampNeg), .int (xs (nI i + 2).toNatClampNeg)]) (st := []) X (M_BA_owes e1) aw_424 cf_BA_owes (of_decide_eq_true rfl) rfl rfl rfl rfl rfl d_law_315 ?_
  refine V_pc (pc' := 318) rfl ?_
  refine R_aload_n X 1 d_law_318 rfl ?_
  refine R_aload_n X 3 d_law_319 rfl ?_
  refine R_iload_n X 0 d_law_320 rfl ?_
  refine R_iconst (v := (1 : Int32)) X d_law_321 rfl ?_
  refine R_iadd X d_law_322 ?_
  refine V_pc (pc' := 323) rfl ?_
  refine R_sld X hX hbl hbA h1 d_law_323 ?_
  refine R_aload_n X 3 d_law_324 rfl ?_
  refine R_iload_n X 0 d_law_325 rfl ?_
  refine R_iconst (v := (2 : Int32)) X d_law_326 rfl ?_
  refine R_iadd X d_law_327 ?_
  refine R_sld X hX hbl hbA h2 d_law_328 ?_
  refine V_pc (pc' := 329) rfl ?_
  refine R_vcall (ci := 7) (k := 99) (r := v) (hp1 := hp2) (As := [.int (xs (nI i + 1).toNatClampNeg), .int (xs (nI i + 2).toNatClampNeg)]) (st := [.int v]) X (M_Mo_owes e2) aw_883 cf_Mo_owes (of_decide_eq_true rfl) rfl rfl rfl rfl rfl d_law_329 ?_
  refine V_pc (pc' := 332) rfl ?_
  refine R_icmp_eq (tgt := 1058) X d_law_332 rfl (fun _ => ?_) (fun c => absurd rfl c)
  exact kk hp2 hR2
set_option maxRecDepth 20000 in
set_option maxHeartbeats 2000000 in
theorem law_c7 {Z : ZT} (X : CX Z Y_law) {b L i : Nat} {xs : Nat → Int32} (hX : va_X b L xs (zs Z) (zs Z).heap) (hbl : b < (zs Z).heap.size) (hbA : ¬ zA Z b) (h1 : vp_in (nI i + 1) L) (h2 : vp_in (nI i + 2) L) (h3 : vp_in (nI i + 3) L) {hp : HP} (hR : R hp) (kk : ∀ hp2, R hp2 → V Z Y_law hp2 1058 [(3, .int (nI i)), (2, .ref (gA (zG Z) 99)), (1, .ref (gA (zG Z) 0)), (0, .ref b)] []) : V Z Y_law hp 337 [(3, .int (nI i)), (2, .ref (gA (zG Z) 99)), (1, .ref (gA (zG Z) 0)), (0, .ref b)] [] := by
  refine R_aload_n X 2 d_law_337 rfl ?_
  refine R_aload_n X 3 d_law_338 rfl ?_
  refine R_iload_n X 0 d_law_339 rfl ?_
  refine R_iconst (v := (1 : Int32)) X d_law_340 rfl ?_
  refine R_iadd X d_law_341 ?_
  refine V_pc (pc' := 342) rfl ?_
  refine R_sld X hX hbl hbA h1 d_law_342 ?_
  refine R_aload_n X 3 d_law_343 rfl ?_
  refine R_iload_n X 0 d_law_344 rfl ?_
  refine R_iconst (v := (2 : Int32)) X d_law_345 rfl ?_
  refine R_iadd X d_law_346 ?_
  refine R_sld X hX hbl hbA h2 d_law_347 ?_
  refine V_pc (pc' := 348) rfl ?_
  obtain ⟨v, hp1, hp2, e1, e2, hR2⟩ := S_can hR (xs (nI i + 1).toNatClampNeg) (xs (nI i + 2).toNatClampNeg)
  refine R_vcall (ci := 6) (k := 0) (r := v) (hp1 := hp1) (As := [.int (xs (nI i + 1).toNatClampNeg), .int (xs (nI i + 2).toNatClampNeg)]) (st := []) X (M_BA_can e1) aw_433 cf_BA_can (of_decide_eq_true rfl) rfl rfl rfl rfl rfl d_law_348 ?_
  refine V_pc (pc' := 351) rfl ?_
  refine R_aload_n X 1 d_law_351 rfl ?_
  refine R_aload_n X 3 d_law_352 rfl ?_
  refine R_iload_n X 0 d_law_353 rfl ?_
  refine R_iconst (v := (1 : Int32)) X d_law_354 rfl ?_
  refine R_iadd X d_law_355 ?_
  refine V_pc (pc' := 356) rfl ?_
  refine R_sld X hX hbl hbA h1 d_law_356 ?_
  refine R_aload_n X 3 d_law_357 rfl ?_
  refine R_iload_n X 0 d_law_358 rfl ?_
  refine R_iconst (v := (2 : Int32)) X d_law_359 rfl ?_
  refine R_iadd X d_law_360 ?_
  refine R_sld X hX hbl hbA h2 d_law_361 ?_
  refine V_pc (pc' := 362) rfl ?_
  refine R_vcall (ci := 7) (k := 99) (r := v) (hp1 := hp2) (As := [.int (xs (nI i + 1).toNatClampNeg), .int (xs (nI i + 2).toNatClampNeg)]) (st := [.int v]) X (M_Mo_can e2) aw_891 cf_Mo_can (of_decide_eq_true rfl) rfl rfl rfl rfl rfl d_law_362 ?_
  refine V_pc (pc' := 365) rfl ?_
  refine R_icmp_eq (tgt := 1058) X d_law_365 rfl (fun _ => ?_) (fun c => absurd rfl c)
  exact kk hp2 hR2
set_option maxRecDepth 20000 in
set_option maxHeartbeats 2000000 in
theorem law_c8 {Z : ZT} (X : CX Z Y_law) {b L i : Nat} {xs : Nat → Int32} (hX : va_X b L xs (zs Z) (zs Z).heap) (hbl : b < (zs Z).heap.size) (hbA : ¬ zA Z b) (h1 : vp_in (nI i + 1) L) (h2 : vp_in (nI i + 2) L) (h3 : vp_in (nI i + 3) L) {hp : HP} (hR : R hp) (kk : ∀ hp2, R hp2 → V Z Y_law hp2 1058 [(3, .int (nI i)), (2, .ref (gA (zG Z) 99)), (1, .ref (gA (zG Z) 0)), (0, .ref b)] []) : V Z Y_law hp 370 [(3, .int (nI i)), (2, .ref (gA (zG Z) 99)), (1, .ref (gA (zG Z) 0)), (0, .ref b)] [] := by
  refine R_aload_n X 2 d_law_370 rfl ?_
  refine R_aload_n X 3 d_law_371 rfl ?_
  refine R_iload_n X 0 d_law_372 rfl ?_
  refine R_iconst (v := (1 : Int32)) X d_law_373 rfl ?_
  refine R_iadd X d_law_374 ?_
  refine V_pc (pc' := 375) rfl ?_
  refine R_sld X hX hbl hbA h1 d_law_375 ?_
  obtain ⟨v, hp1, hp2, e1, e2, hR2⟩ := S_month hR (xs (nI i + 1).toNatClampNeg)
  refine R_vcall (ci := 6) (k := 0) (r := v) (hp1 := hp1) (As := [.int (xs (nI i + 1).toNatClampNeg)]) (st := []) X (M_BA_month e1) aw_451 cf_BA_month (of_decide_eq_true rfl) rfl rfl rfl rfl rfl d_law_376 ?_
  refine V_pc (pc' := 379) rfl ?_
  refine R_aload_n X 1 d_law_379 rfl ?_
  refine R_aload_n X 3 d_law_380 rfl ?_
  refine R_iload_n X 0 d_law_381 rfl ?_
  refine R_iconst (v := (1 : Int32)) X d_law_382 rfl ?_
  refine V_pc (pc' := 383) rfl ?_
  refine R_iadd X d_law_383 ?_
  refine R_sld X hX hbl hbA h1 d_law_384 ?_
  refine R_vcall (ci := 7) (k := 99) (r := v) (hp1 := hp2) (As := [.int (xs (nI i + 1).toNatClampNeg)]) (st := [.int v]) X (M_Mo_month e2) aw_912 cf_Mo_month (of_decide_eq_true rfl) rfl rfl rfl rfl rfl d_law_385 ?_
  refine V_pc (pc' := 388) rfl ?_
  refine R_icmp_eq (tgt := 1058) X d_law_388 rfl (fun _ => ?_) (fun c => absurd rfl c)
  exact kk hp2 hR2
set_option maxRecDepth 20000 in
set_option maxHeartbeats 2000000 in
theorem law_c9 {Z : ZT} (X : CX Z Y_law) {b L i : Nat} {xs : Nat → Int32} (hX : va_X b L xs (zs Z) (zs Z).heap) (hbl : b < (zs Z).heap.size) (hbA : ¬ zA Z b) (h1 : vp_in (nI i + 1) L) (h2 : vp_in (nI i + 2) L) (h3 : vp_in (nI i + 3) L) {hp : HP} (hR : R hp) (kk : ∀ hp2, R hp2 → V Z Y_law hp2 1058 [(3, .int (nI i)), (2, .ref (gA (zG Z) 99)), (1, .ref (gA (zG Z) 0)), (0, .ref b)] []) : V Z Y_law hp 393 [(3, .int (nI i)), (2, .ref (gA (zG Z) 99)), (1, .ref (gA (zG Z) 0)), (0, .ref b)] [] := by
  refine R_aload_n X 2 d_law_393 rfl ?_
  refine R_aload_n X 3 d_law_394 rfl ?_
  refine R_iload_n X 0 d_law_395 rfl ?_
  refine R_iconst (v := (1 : Int32)) X d_law_396 rfl ?_
  refine R_iadd X d_law_397 ?_
  refine V_pc (pc' := 398) rfl ?_
  refine R_sld X hX hbl hbA h1 d_law_398 ?_
  refine R_aload_n X 3 d_law_399 rfl ?_
  refine R_iload_n X 0 d_law_400 rfl ?_
  refine R_iconst (v := (2 : Int32)) X d_law_401 rfl ?_
  refine R_iadd X d_law_402 ?_
  refine R_sld X hX hbl hbA h2 d_law_403 ?_
  refine V_pc (pc' := 404) rfl ?_
  obtain ⟨v, hp1, hp2, e1, e2, hR2⟩ := S_spend hR (xs (nI i + 1).toNatClampNeg) (xs (nI i + 2).toNatClampNeg)
  refine R_vcall (ci := 6) (k := 0) (r := v) (hp1 := hp1) (As := [.int (xs (nI i + 1).toNatClampNeg), .int (xs (nI i + 2).toNatClampNeg)]) (st := []) X (M_BA_spend e1) aw_478 cf_BA_spend (of_decide_eq_true rfl) rfl rfl rfl rfl rfl d_law_404 ?_
  refine V_pc (pc' := 407) rfl ?_
  refine R_aload_n X 1 d_law_407 rfl ?_
  refine R_aload_n X 3 d_law_408 rfl ?_
  refine R_iload_n X 0 d_law_409 rfl ?_
  refine R_iconst (v := (1 : Int32)) X d_law_410 rfl ?_
  refine R_iadd X d_law_411 ?_
  refine V_pc (pc' := 412) rfl ?_
  refine R_sld X hX hbl hbA h1 d_law_412 ?_
  refine R_aload_n X 3 d_law_413 rfl ?_
  refine R_iload_n X 0 d_law_414 rfl ?_
  refine R_iconst (v := (2 : Int32)) X d_law_415 rfl ?_
  refine R_iadd X d_law_416 ?_
  refine R_sld X hX hbl hbA h2 d_law_417 ?_
  refine V_pc (pc' := 418) rfl ?_
  refine R_vcall (ci := 7) (k := 99) (r := v) (hp1 := hp2) (As := [.int (xs (nI i + 1).toNatClampNeg), .int (xs (nI i + 2).toNatClampNeg)]) (st := [.int v]) X (M_Mo_spend e2) aw_928 cf_Mo_spend (of_decide_eq_true rfl) rfl rfl rfl rfl rfl d_law_418 ?_
  refine V_pc (pc' := 421) rfl ?_
  refine R_icmp_eq (tgt := 1058) X d_law_421 rfl (fun _ => ?_) (fun c => absurd rfl c)
  exact kk hp2 hR2
set_option maxRecDepth 20000 in
set_option maxHeartbeats 2000000 in
theorem law_c10 {Z : ZT} (X : CX Z Y_law) {b L i : Nat} {xs : Nat → Int32} (hX : va_X b L xs (zs Z) (zs Z).heap) (hbl : b < (zs Z).heap.size) (hbA : ¬ zA Z b) (h1 : vp_in (nI i + 1) L) (h2 : vp_in (nI i + 2) L) (h3 : vp_in (nI i + 3) L) {hp : HP} (hR : R hp) (kk : ∀ hp2, R hp2 → V Z Y_law hp2 1058 [(3, .int (nI i)), (2, .ref (gA (zG Z) 99)), (1, .ref (gA (zG Z) 0)), (0, .ref b)] []) : V Z Y_law hp 426 [(3, .int (nI i)), (2, .ref (gA (zG Z) 99)), (1, .ref (gA (zG Z) 0)), (0, .ref b)] [] := by
  refine R_aload_n X 2 d_law_426 rfl ?_
  refine R_aload_n X 3 d_law_427 rfl ?_
  refine R_iload_n X 0 d_law_428 rfl ?_
  refine R_iconst (v := (1 : Int32)) X d_law_429 rfl ?_
  refine R_iadd X d_law_430 ?_
  refine V_pc (pc' := 431) rfl ?_
  refine R_sld X hX hbl hbA h1 d_law_431 ?_
  refine R_aload_n X 3 d_law_432 rfl ?_
  refine R_iload_n X 0 d_law_433 rfl ?_
  refine R_iconst (v := (2 : Int32)) X d_law_434 rfl ?_
  refine R_iadd X d_law_435 ?_
  refine R_sld X hX hbl hbA h2 d_law_436 ?_
  refine V_pc (pc' := 437) rfl ?_
  refine R_aload_n X 3 d_law_437 rfl ?_
  refine R_iload_n X 0 d_law_438 rfl ?_
  refine R_iconst (v := (3 : Int32)) X d_law_439 rfl ?_
  refine R_iadd X d_law_440 ?_
  refine R_sld X hX hbl hbA h3 d_law_441 ?_
  obtain ⟨v, hp1, hp2, e1, e2, hR2⟩ := S_lend hR (xs (nI i + 1).toNatClampNeg) (xs (nI i + 2).toNatClampNeg) (xs (nI i + 3).toNatClampNeg)
  refine R_vcall (ci := 6) (k := 0) (r := v) (hp1 := hp1) (As := [.int (xs (nI i + 1).toNatClampNeg), .int (xs (nI i + 2).toNatClampNeg), .int (xs (nI i + 3).toNatClampNeg)]) (st := []) X (M_BA_lend e1) aw_487 cf_BA_lend (of_decide_eq_true rfl) rfl rfl rfl rfl rfl d_law_442 ?_
  refine V_pc (pc' := 445) rfl ?_
  refine V_pc (pc' := 445) rfl ?_
  refine R_aload_n X 1 d_law_445 rfl ?_
  refine R_aload_n X 3 d_law_446 rfl ?_
  refine R_iload_n X 0 d_law_447 rfl ?_
  refine R_iconst (v := (1 : Int32)) X d_law_448 rfl ?_
  refine R_iadd X d_law_449 ?_
  refine R_sld X hX hbl hbA h1 d_law_450 ?_
  refine V_pc (pc' := 451) rfl ?_
  refine R_aload_n X 3 d_law_451 rfl ?_
  refine R_iload_n X 0 d_law_452 rfl ?_
  refine R_iconst (v := (2 : Int32)) X d_law_453 rfl ?_
  refine R_iadd X d_law_454 ?_
  refine R_sld X hX hbl hbA h2 d_law_455 ?_
  refine R_aload_n X 3 d_law_456 rfl ?_
  refine V_pc (pc' := 457) rfl ?_
  refine R_iload_n X 0 d_law_457 rfl ?_
  refine R_iconst (v := (3 : Int32)) X d_law_458 rfl ?_
  refine R_iadd X d_law_459 ?_
  refine R_sld X hX hbl hbA h3 d_law_460 ?_
  refine R_vcall (ci := 7) (k := 99) (r := v) (hp1 := hp2) (As := [.int (xs (nI i + 1).toNatClampNeg), .int (xs (nI i + 2).toNatClampNeg), .int (xs (nI i + 3).toNatClampNeg)]) (st := [.int v]) X (M_Mo_lend e2) aw_937 cf_Mo_lend (of_decide_eq_true rfl) rfl rfl rfl rfl rfl d_law_461 ?_
  refine V_pc (pc' := 464) rfl ?_
  refine R_icmp_eq (tgt := 1058) X d_law_464 rfl (fun _ => ?_) (fun c => absurd rfl c)
  exact kk hp2 hR2
set_option maxRecDepth 20000 in
set_option maxHeartbeats 2000000 in
theorem law_c11 {Z : ZT} (X : CX Z Y_law) {b L i : Nat} {xs : Nat → Int32} (hX : va_X b L xs (zs Z) (zs Z).heap) (hbl : b < (zs Z).heap.size) (hbA : ¬ zA Z b) (h1 : vp_in (nI i + 1) L) (h2 : vp_in (nI i + 2) L) (h3 : vp_in (nI i + 3) L) {hp : HP} (hR : R hp) (kk : ∀ hp2, R hp2 → V Z Y_law hp2 1058 [(3, .int (nI i)), (2, .ref (gA (zG Z) 99)), (1, .ref (gA (zG Z) 0)), (0, .ref b)] []) : V Z Y_law hp 469 [(3, .int (nI i)), (2, .ref (gA (zG Z) 99)), (1, .ref (gA (zG Z) 0)), (0, .ref b)] [] := by
  refine R_aload_n X 2 d_law_469 rfl ?_
  refine R_aload_n X 3 d_law_470 rfl ?_
  refine R_iload_n X 0 d_law_471 rfl ?_
  refine R_iconst (v := (1 : Int32)) X d_law_472 rfl ?_
  refine R_iadd X d_law_473 ?_
  refine V_pc (pc' := 474) rfl ?_
  refine R_sld X hX hbl hbA h1 d_law_474 ?_
  refine R_aload_n X 3 d_law_475 rfl ?_
  refine R_iload_n X 0 d_law_476 rfl ?_
  refine R_iconst (v := (2 : Int32)) X d_law_477 rfl ?_
  refine R_iadd X d_law_478 ?_
  refine R_sld X hX hbl hbA h2 d_law_479 ?_
  refine V_pc (pc' := 480) rfl ?_
  refine R_aload_n X 3 d_law_480 rfl ?_
  refine R_iload_n X 0 d_law_481 rfl ?_
  refine R_iconst (v := (3 : Int32)) X d_law_482 rfl ?_
  refine R_iadd X d_law_483 ?_
  refine R_sld X hX hbl hbA h3 d_law_484 ?_
  obtain ⟨v, hp1, hp2, e1, e2, hR2⟩ := S_payBack hR (xs (nI i + 1).toNatClampNeg) (xs (nI i + 2).toNatClampNeg) (xs (nI i + 3).toNatClampNeg)
  refine R_vcall (ci := 6) (k := 0) (r := v) (hp1 := hp1) (As := [.int (xs (nI i + 1).toNatClampNeg), .int (xs (nI i + 2).toNatClampNeg), .int (xs (nI i + 3).toNatClampNeg)]) (st := []) X (M_BA_payBack e1) aw_496 cf_BA_payBack (of_decide_eq_true rfl) rfl rfl rfl rfl rfl d_law_485 ?_
  refine V_pc (pc' := 488) rfl ?_
  refine V_pc (pc' := 488) rfl ?_
  refine R_aload_n X 1 d_law_488 rfl ?_
  refine R_aload_n X 3 d_law_489 rfl ?_
  refine R_iload_n X 0 d_law_490 rfl ?_
  refine R_iconst (v := (1 : Int32)) X d_law_491 rfl ?_
  refine R_iadd X d_law_492 ?_
  refine R_sld X hX hbl hbA h1 d_law_493 ?_
  refine V_pc (pc' := 494) rfl ?_
  refine R_aload_n X 3 d_law_494 rfl ?_
  refine R_iload_n X 0 d_law_495 rfl ?_
  refine R_iconst (v := (2 : Int32)) X d_law_496 rfl ?_
  refine R_iadd X d_law_497 ?_
  refine R_sld X hX hbl hbA h2 d_law_498 ?_
  refine R_aload_n X 3 d_law_499 rfl ?_
  refine V_pc (pc' := 500) rfl ?_
  refine R_iload_n X 0 d_law_500 rfl ?_
  refine R_iconst (v := (3 : Int32)) X d_law_501 rfl ?_
  refine R_iadd X d_law_502 ?_
  refine R_sld X hX hbl hbA h3 d_law_503 ?_
  refine R_vcall (ci := 7) (k := 99) (r := v) (hp1 := hp2) (As := [.int (xs (nI i + 1).toNatClampNeg), .int (xs (nI i + 2).toNatClampNeg), .int (xs (nI i + 3).toNatClampNeg)]) (st := [.int v]) X (M_Mo_payBack e2) aw_945 cf_Mo_payBack (of_decide_eq_true rfl) rfl rfl rfl rfl rfl d_law_504 ?_
  refine V_pc (pc' := 507) rfl ?_
  refine R_icmp_eq (tgt := 1058) X d_law_507 rfl (fun _ => ?_) (fun c => absurd rfl c)
  exact kk hp2 hR2
set_option maxRecDepth 20000 in
set_option maxHeartbeats 2000000 in
theorem law_c12 {Z : ZT} (X : CX Z Y_law) {b L i : Nat} {xs : Nat → Int32} (hX : va_X b L xs (zs Z) (zs Z).heap) (hbl : b < (zs Z).heap.size) (hbA : ¬ zA Z b) (h1 : vp_in (nI i + 1) L) (h2 : vp_in (nI i + 2) L) (h3 : vp_in (nI i + 3) L) {hp : HP} (hR : R hp) (kk : ∀ hp2, R hp2 → V Z Y_law hp2 1058 [(3, .int (nI i)), (2, .ref (gA (zG Z) 99)), (1, .ref (gA (zG Z) 0)), (0, .ref b)] []) : V Z Y_law hp 512 [(3, .int (nI i)), (2, .ref (gA (zG Z) 99)), (1, .ref (gA (zG Z) 0)), (0, .ref b)] [] := by
  refine R_aload_n X 2 d_law_512 rfl ?_
  refine R_aload_n X 3 d_law_513 rfl ?_
  refine R_iload_n X 0 d_law_514 rfl ?_
  refine R_iconst (v := (1 : Int32)) X d_law_515 rfl ?_
  refine R_iadd X d_law_516 ?_
  refine V_pc (pc' := 517) rfl ?_
  refine R_sld X hX hbl hbA h1 d_law_517 ?_
  obtain ⟨v, hp1, hp2, e1, e2, hR2⟩ := S_drift hR (xs (nI i + 1).toNatClampNeg)
  refine R_vcall (ci := 6) (k := 0) (r := v) (hp1 := hp1) (As := [.int (xs (nI i + 1).toNatClampNeg)]) (st := []) X (M_BA_drift e1) aw_500 cf_BA_drift (of_decide_eq_true rfl) rfl rfl rfl rfl rfl d_law_518 ?_
  refine V_pc (pc' := 521) rfl ?_
  refine R_aload_n X 1 d_law_521 rfl ?_
  refine R_aload_n X 3 d_law_522 rfl ?_
  refine R_iload_n X 0 d_law_523 rfl ?_
  refine R_iconst (v := (1 : Int32)) X d_law_524 rfl ?_
  refine V_pc (pc' := 525) rfl ?_
  refine R_iadd X d_law_525 ?_
  refine R_sld X hX hbl hbA h1 d_law_526 ?_
  refine R_vcall (ci := 7) (k := 99) (r := v) (hp1 := hp2) (As := [.int (xs (nI i + 1).toNatClampNeg)]) (st := [.int v]) X (M_Mo_drift e2) aw_949 cf_Mo_drift (of_decide_eq_true rfl) rfl rfl rfl rfl rfl d_law_527 ?_
  refine V_pc (pc' := 530) rfl ?_
  refine R_icmp_eq (tgt := 1058) X d_law_530 rfl (fun _ => ?_) (fun c => absurd rfl c)
  exact kk hp2 hR2
set_option maxRecDepth 20000 in
set_option maxHeartbeats 2000000 in
theorem law_c13 {Z : ZT} (X : CX Z Y_law) {b L i : Nat} {xs : Nat → Int32} (hX : va_X b L xs (zs Z) (zs Z).heap) (hbl : b < (zs Z).heap.size) (hbA : ¬ zA Z b) (h1 : vp_in (nI i + 1) L) (h2 : vp_in (nI i + 2) L) (h3 : vp_in (nI i + 3) L) {hp : HP} (hR : R hp) (kk : ∀ hp2, R hp2 → V Z Y_law hp2 1058 [(3, .int (nI i)), (2, .ref (gA (zG Z) 99)), (1, .ref (gA (zG Z) 0)), (0, .ref b)] []) : V Z Y_law hp 535 [(3, .int (nI i)), (2, .ref (gA (zG Z) 99)), (1, .ref (gA (zG Z) 0)), (0, .ref b)] [] := by
  refine R_aload_n X 2 d_law_535 rfl ?_
  obtain ⟨v, hp1, hp2, e1, e2, hR2⟩ := S_undo hR
  refine R_vcall (ci := 6) (k := 0) (r := v) (hp1 := hp1) (As := []) (st := []) X (M_BA_undo e1) aw_516 cf_BA_undo (of_decide_eq_true rfl) rfl rfl rfl rfl rfl d_law_536 ?_
  refine V_pc (pc' := 539) rfl ?_
  refine R_aload_n X 1 d_law_539 rfl ?_
  refine R_vcall (ci := 7) (k := 99) (r := v) (hp1 := hp2) (As := []) (st := [.int v]) X (M_Mo_undo e2) aw_903 cf_Mo_undo (of_decide_eq_true rfl) rfl rfl rfl rfl rfl d_law_540 ?_
  refine V_pc (pc' := 543) rfl ?_
  refine R_icmp_eq (tgt := 1058) X d_law_543 rfl (fun _ => ?_) (fun c => absurd rfl c)
  exact kk hp2 hR2
set_option maxRecDepth 20000 in
set_option maxHeartbeats 2000000 in
theorem law_c14 {Z : ZT} (X : CX Z Y_law) {b L i : Nat} {xs : Nat → Int32} (hX : va_X b L xs (zs Z) (zs Z).heap) (hbl : b < (zs Z).heap.size) (hbA : ¬ zA Z b) (h1 : vp_in (nI i + 1) L) (h2 : vp_in (nI i + 2) L) (h3 : vp_in (nI i + 3) L) {hp : HP} (hR : R hp) (kk : ∀ hp2, R hp2 → V Z Y_law hp2 1058 [(3, .int (nI i)), (2, .ref (gA (zG Z) 99)), (1, .ref (gA (zG Z) 0)), (0, .ref b)] []) : V Z Y_law hp 548 [(3, .int (nI i)), (2, .ref (gA (zG Z) 99)), (1, .ref (gA (zG Z) 0)), (0, .ref b)] [] := by
  refine R_aload_n X 2 d_law_548 rfl ?_
  refine R_aload_n X 3 d_law_549 rfl ?_
  refine R_iload_n X 0 d_law_550 rfl ?_
  refine R_iconst (v := (1 : Int32)) X d_law_551 rfl ?_
  refine R_iadd X d_law_552 ?_
  refine V_pc (pc' := 553) rfl ?_
  refine R_sld X hX hbl hbA h1 d_law_553 ?_
  obtain ⟨v, hp1, hp2, e1, e2, hR2⟩ := S_hat hR (xs (nI i + 1).toNatClampNeg)
  refine R_vcall (ci := 6) (k := 0) (r := v) (hp1 := hp1) (As := [.int (xs (nI i + 1).toNatClampNeg)]) (st := []) X (M_BA_hat e1) aw_524 cf_BA_hat (of_decide_eq_true rfl) rfl rfl rfl rfl rfl d_law_554 ?_
  refine V_pc (pc' := 557) rfl ?_
  refine R_aload_n X 1 d_law_557 rfl ?_
  refine R_aload_n X 3 d_law_558 rfl ?_
  refine R_iload_n X 0 d_law_559 rfl ?_
  refine R_iconst (v := (1 : Int32)) X d_law_560 rfl ?_
  refine V_pc (pc' := 561) rfl ?_
  refine R_iadd X d_law_561 ?_
  refine R_sld X hX hbl hbA h1 d_law_562 ?_
  refine R_vcall (ci := 7) (k := 99) (r := v) (hp1 := hp2) (As := [.int (xs (nI i + 1).toNatClampNeg)]) (st := [.int v]) X (M_Mo_hat e2) aw_961 cf_Mo_hat (of_decide_eq_true rfl) rfl rfl rfl rfl rfl d_law_563 ?_
  refine V_pc (pc' := 566) rfl ?_
  refine R_icmp_eq (tgt := 1058) X d_law_566 rfl (fun _ => ?_) (fun c => absurd rfl c)
  exact kk hp2 hR2
set_option maxRecDepth 20000 in
set_option maxHeartbeats 2000000 in
theorem law_c15 {Z : ZT} (X : CX Z Y_law) {b L i : Nat} {xs : Nat → Int32} (hX : va_X b L xs (zs Z) (zs Z).heap) (hbl : b < (zs Z).heap.size) (hbA : ¬ zA Z b) (h1 : vp_in (nI i + 1) L) (h2 : vp_in (nI i + 2) L) (h3 : vp_in (nI i + 3) L) {hp : HP} (hR : R hp) (kk : ∀ hp2, R hp2 → V Z Y_law hp2 1058 [(3, .int (nI i)), (2, .ref (gA (zG Z) 99)), (1, .ref (gA (zG Z) 0)), (0, .ref b)] []) : V Z Y_law hp 571 [(3, .int (nI i)), (2, .ref (gA (zG Z) 99)), (1, .ref (gA (zG Z) 0)), (0, .ref b)] [] := by
  refine R_aload_n X 2 d_law_571 rfl ?_
  refine R_aload_n X 3 d_law_572 rfl ?_
  refine R_iload_n X 0 d_law_573 rfl ?_
  refine R_iconst (v := (1 : Int32)) X d_law_574 rfl ?_
  refine R_iadd X d_law_575 ?_
  refine V_pc (pc' := 576) rfl ?_
  refine R_sld X hX hbl hbA h1 d_law_576 ?_
  refine R_aload_n X 3 d_law_577 rfl ?_
  refine R_iload_n X 0 d_law_578 rfl ?_
  refine R_iconst (v := (2 : Int32)) X d_law_579 rfl ?_
  refine R_iadd X d_law_580 ?_
  refine R_sld X hX hbl hbA h2 d_law_581 ?_
  refine V_pc (pc' := 582) rfl ?_
  refine R_aload_n X 3 d_law_582 rfl ?_
  refine R_iload_n X 0 d_law_583 rfl ?_
  refine R_iconst (v := (3 : Int32)) X d_law_584 rfl ?_
  refine R_iadd X d_law_585 ?_
  refine R_sld X hX hbl hbA h3 d_law_586 ?_
  obtain ⟨v, hp1, hp2, e1, e2, hR2⟩ := S_able hR (xs (nI i + 1).toNatClampNeg) (xs (nI i + 2).toNatClampNeg) (xs (nI i + 3).toNatClampNeg)
  refine R_vcall (ci := 6) (k := 0) (r := v) (hp1 := hp1) (As := [.int (xs (nI i + 1).toNatClampNeg), .int (xs (nI i + 2).toNatClampNeg), .int (xs (nI i + 3).toNatClampNeg)]) (st := []) X (M_BA_able e1) aw_529 cf_BA_able (of_decide_eq_true rfl) rfl rfl rfl rfl rfl d_law_587 ?_
  refine V_pc (pc' := 590) rfl ?_
  refine V_pc (pc' := 590) rfl ?_
  refine R_aload_n X 1 d_law_590 rfl ?_
  refine R_aload_n X 3 d_law_591 rfl ?_
  refine R_iload_n X 0 d_law_592 rfl ?_
  refine R_iconst (v := (1 : Int32)) X d_law_593 rfl ?_
  refine R_iadd X d_law_594 ?_
  refine R_sld X hX hbl hbA h1 d_law_595 ?_
  refine V_pc (pc' := 596) rfl ?_
  refine R_aload_n X 3 d_law_596 rfl ?_
  refine R_iload_n X 0 d_law_597 rfl ?_
  refine R_iconst (v := (2 : Int32)) X d_law_598 rfl ?_
  refine R_iadd X d_law_599 ?_
  refine R_sld X hX hbl hbA h2 d_law_600 ?_
  refine R_aload_n X 3 d_law_601 rfl ?_
  refine V_pc (pc' := 602) rfl ?_
  refine R_iload_n X 0 d_law_602 rfl ?_
  refine R_iconst (v := (3 : Int32)) X d_law_603 rfl ?_
  refine R_iadd X d_law_604 ?_
  refine R_sld X hX hbl hbA h3 d_law_605 ?_
  refine R_vcall (ci := 7) (k := 99) (r := v) (hp1 := hp2) (As := [.int (xs (nI i + 1).toNatClampNeg), .int (xs (nI i + 2).toNatClampNeg), .int (xs (nI i + 3).toNatClampNeg)]) (st := [.int v]) X (M_Mo_able e2) aw_965 cf_Mo_able (of_decide_eq_true rfl) rfl rfl rfl rfl rfl d_law_606 ?_
  refine V_pc (pc' := 609) rfl ?_
  refine R_icmp_eq (tgt := 1058) X d_law_609 rfl (fun _ => ?_) (fun c => absurd rfl c)
  exact kk hp2 hR2
set_option maxRecDepth 20000 in
set_option maxHeartbeats 2000000 in
theorem law_c16 {Z : ZT} (X : CX Z Y_law) {b L i : Nat} {xs : Nat → Int32} (hX : va_X b L xs (zs Z) (zs Z).heap) (hbl : b < (zs Z).heap.size) (hbA : ¬ zA Z b) (h1 : vp_in (nI i + 1) L) (h2 : vp_in (nI i + 2) L) (h3 : vp_in (nI i + 3) L) {hp : HP} (hR : R hp) (kk : ∀ hp2, R hp2 → V Z Y_law hp2 1058 [(3, .int (nI i)), (2, .ref (gA (zG Z) 99)), (1, .ref (gA (zG Z) 0)), (0, .ref b)] []) : V Z Y_law hp 614 [(3, .int (nI i)), (2, .ref (gA (zG Z) 99)), (1, .ref (gA (zG Z) 0)), (0, .ref b)] [] := by
  refine R_aload_n X 2 d_law_614 rfl ?_
  refine R_aload_n X 3 d_law_615 rfl ?_
  refine R_iload_n X 0 d_law_616 rfl ?_
  refine R_iconst (v := (1 : Int32)) X d_law_617 rfl ?_
  refine R_iadd X d_law_618 ?_
  refine V_pc (pc' := 619) rfl ?_
  refine R_sld X hX hbl hbA h1 d_law_619 ?_
  obtain ⟨v, hp1, hp2, e1, e2, hR2⟩ := S_spending hR (xs (nI i + 1).toNatClampNeg)
  refine R_vcall (ci := 6) (k := 0) (r := v) (hp1 := hp1) (As := [.int (xs (nI i + 1).toNatClampNeg)]) (st := []) X (M_BA_spending e1) aw_533 cf_BA_spending (of_decide_eq_true rfl) rfl rfl rfl rfl rfl d_law_620 ?_
  refine V_pc (pc' := 623) rfl ?_
  refine R_aload_n X 1 d_law_623 rfl ?_
  refine R_aload_n X 3 d_law_624 rfl ?_
  refine R_iload_n X 0 d_law_625 rfl ?_
  refine R_iconst (v := (1 : Int32)) X d_law_626 rfl ?_
  refine V_pc (pc' := 627) rfl ?_
  refine R_iadd X d_law_627 ?_
  refine R_sld X hX hbl hbA h1 d_law_628 ?_
  refine R_vcall (ci := 7) (k := 99) (r := v) (hp1 := hp2) (As := [.int (xs (nI i + 1).toNatClampNeg)]) (st := [.int v]) X (M_Mo_spending e2) aw_969 cf_Mo_spending (of_decide_eq_true rfl) rfl rfl rfl rfl rfl d_law_629 ?_
  refine V_pc (pc' := 632) rfl ?_
  refine R_icmp_eq (tgt := 1058) X d_law_632 rfl (fun _ => ?_) (fun c => absurd rfl c)
  exact kk hp2 hR2
set_option maxRecDepth 20000 in
set_option maxHeartbeats 2000000 in
theorem law_c17 {Z : ZT} (X : CX Z Y_law) {b L i : Nat} {xs : Nat → Int32} (hX : va_X b L xs (zs Z) (zs Z).heap) (hbl : b < (zs Z).heap.size) (hbA : ¬ zA Z b) (h1 : vp_in (nI i + 1) L) (h2 : vp_in (nI i + 2) L) (h3 : vp_in (nI i + 3) L) {hp : HP} (hR : R hp) (kk : ∀ hp2, R hp2 → V Z Y_law hp2 1058 [(3, .int (nI i)), (2, .ref (gA (zG Z) 99)), (1, .ref (gA (zG Z) 0)), (0, .ref b)] []) : V Z Y_law hp 637 [(3, .int (nI i)), (2, .ref (gA (zG Z) 99)), (1, .ref (gA (zG Z) 0)), (0, .ref b)] [] := by
  refine R_aload_n X 2 d_law_637 rfl ?_
  refine R_aload_n X 3 d_law_638 rfl ?_
  refine R_iload_n X 0 d_law_639 rfl ?_
  refine R_iconst (v := (1 : Int32)) X d_law_640 rfl ?_
  refine R_iadd X d_law_641 ?_
  refine V_pc (pc' := 642) rfl ?_
  refine R_sld X hX hbl hbA h1 d_law_642 ?_
  refine R_aload_n X 3 d_law_643 rfl ?_
  refine R_iload_n X 0 d_law_644 rfl ?_
  refine R_iconst (v := (2 : Int32)) X d_law_645 rfl ?_
  refine R_iadd X d_law_646 ?_
  refine R_sld X hX hbl hbA h2 d_law_647 ?_
  refine V_pc (pc' := 648) rfl ?_
  obtain ⟨v, hp1, hp2, e1, e2, hR2⟩ := S_must hR (xs (nI i + 1).toNatClampNeg) (xs (nI i + 2).toNatClampNeg)
  refine R_vcall (ci := 6) (k := 0) (r := v) (hp1 := hp1) (As := [.int (xs (nI i + 1).toNatClampNeg), .int (xs (nI i + 2).toNatClampNeg)]) (st := []) X (M_BA_must e1) aw_541 cf_BA_must (of_decide_eq_true rfl) rfl rfl rfl rfl rfl d_law_648 ?_
  refine V_pc (pc' := 651) rfl ?_
  refine R_aload_n X 1 d_law_651 rfl ?_
  refine R_aload_n X 3 d_law_652 rfl ?_
  refine R_iload_n X 0 d_law_653 rfl ?_
  refine R_iconst (v := (1 : Int32)) X d_law_654 rfl ?_
  refine R_iadd X d_law_655 ?_
  refine V_pc (pc' := 656) rfl ?_
  refine R_sld X hX hbl hbA h1 d_law_656 ?_
  refine R_aload_n X 3 d_law_657 rfl ?_
  refine R_iload_n X 0 d_law_658 rfl ?_
  refine R_iconst (v := (2 : Int32)) X d_law_659 rfl ?_
  refine R_iadd X d_law_660 ?_
  refine R_sld X hX hbl hbA h2 d_law_661 ?_
  refine V_pc (pc' := 662) rfl ?_
  refine R_vcall (ci := 7) (k := 99) (r := v) (hp1 := hp2) (As := [.int (xs (nI i + 1).toNatClampNeg), .int (xs (nI i + 2).toNatClampNeg)]) (st := [.int v]) X (M_Mo_must e2) aw_973 cf_Mo_must (of_decide_eq_true rfl) rfl rfl rfl rfl rfl d_law_662 ?_
  refine V_pc (pc' := 665) rfl ?_
  refine R_icmp_eq (tgt := 1058) X d_law_665 rfl (fun _ => ?_) (fun c => absurd rfl c)
  exact kk hp2 hR2
set_option maxRecDepth 20000 in
set_option maxHeartbeats 2000000 in
theorem law_c18 {Z : ZT} (X : CX Z Y_law) {b L i : Nat} {xs : Nat → Int32} (hX : va_X b L xs (zs Z) (zs Z).heap) (hbl : b < (zs Z).heap.size) (hbA : ¬ zA Z b) (h1 : vp_in (nI i + 1) L) (h2 : vp_in (nI i + 2) L) (h3 : vp_in (nI i + 3) L) {hp : HP} (hR : R hp) (kk : ∀ hp2, R hp2 → V Z Y_law hp2 1058 [(3, .int (nI i)), (2, .ref (gA (zG Z) 99)), (1, .ref (gA (zG Z) 0)), (0, .ref b)] []) : V Z Y_law hp 670 [(3, .int (nI i)), (2, .ref (gA (zG Z) 99)), (1, .ref (gA (zG Z) 0)), (0, .ref b)] [] := by
  refine R_aload_n X 2 d_law_670 rfl ?_
  refine R_aload_n X 3 d_law_671 rfl ?_
  refine R_iload_n X 0 d_law_672 rfl ?_
  refine R_iconst (v := (1 : Int32)) X d_law_673 rfl ?_
  refine R_iadd X d_law_674 ?_
  refine V_pc (pc' := 675) rfl ?_
  refine R_sld X hX hbl hbA h1 d_law_675 ?_
  refine R_aload_n X 3 d_law_676 rfl ?_
  refine R_iload_n X 0 d_law_677 rfl ?_
  refine R_iconst (v := (2 : Int32)) X d_law_678 rfl ?_
  refine R_iadd X d_law_679 ?_
  refine R_sld X hX hbl hbA h2 d_law_680 ?_
  refine V_pc (pc' := 681) rfl ?_
  refine R_aload_n X 3 d_law_681 rfl ?_
  refine R_iload_n X 0 d_law_682 rfl ?_
  refine R_iconst (v := (3 : Int32)) X d_law_683 rfl ?_
  refine R_iadd X d_law_684 ?_
  refine R_sld X hX hbl hbA h3 d_law_685 ?_
  obtain ⟨v, hp1, hp2, e1, e2, hR2⟩ := S_plan hR (xs (nI i + 1).toNatClampNeg) (xs (nI i + 2).toNatClampNeg) (xs (nI i + 3).toNatClampNeg)
  refine R_vcall (ci := 6) (k := 0) (r := v) (hp1 := hp1) (As := [.int (xs (nI i + 1).toNatClampNeg), .int (xs (nI i + 2).toNatClampNeg), .int (xs (nI i + 3).toNatClampNeg)]) (st := []) X (M_BA_plan e1) aw_549 cf_BA_plan (of_decide_eq_true rfl) rfl rfl rfl rfl rfl d_law_686 ?_
  refine V_pc (pc' := 689) rfl ?_
  refine V_pc (pc' := 689) rfl ?_
  refine R_aload_n X 1 d_law_689 rfl ?_
  refine R_aload_n X 3 d_law_690 rfl ?_
  refine R_iload_n X 0 d_law_691 rfl ?_
  refine R_iconst (v := (1 : Int32)) X d_law_692 rfl ?_
  refine R_iadd X d_law_693 ?_
  refine R_sld X hX hbl hbA h1 d_law_694 ?_
  refine V_pc (pc' := 695) rfl ?_
  refine R_aload_n X 3 d_law_695 rfl ?_
  refine R_iload_n X 0 d_law_696 rfl ?_
  refine R_iconst (v := (2 : Int32)) X d_law_697 rfl ?_
  refine R_iadd X d_law_698 ?_
  refine R_sld X hX hbl hbA h2 d_law_699 ?_
  refine R_aload_n X 3 d_law_700 rfl ?_
  refine V_pc (pc' := 701) rfl ?_
  refine R_iload_n X 0 d_law_701 rfl ?_
  refine R_iconst (v := (3 : Int32)) X d_law_702 rfl ?_
  refine R_iadd X d_law_703 ?_
  refine R_sld X hX hbl hbA h3 d_law_704 ?_
  refine R_vcall (ci := 7) (k := 99) (r := v) (hp1 := hp2) (As := [.int (xs (nI i + 1).toNatClampNeg), .int (xs (nI i + 2).toNatClampNeg), .int (xs (nI i + 3).toNatClampNeg)]) (st := [.int v]) X (M_Mo_plan e2) aw_978 cf_Mo_plan (of_decide_eq_true rfl) rfl rfl rfl rfl rfl d_law_705 ?_
  refine V_pc (pc' := 708) rfl ?_
  refine R_icmp_eq (tgt := 1058) X d_law_708 rfl (fun _ => ?_) (fun c => absurd rfl c)
  exact kk hp2 hR2
set_option maxRecDepth 20000 in
set_option maxHeartbeats 2000000 in
theorem law_c19 {Z : ZT} (X : CX Z Y_law) {b L i : Nat} {xs : Nat → Int32} (hX : va_X b L xs (zs Z) (zs Z).heap) (hbl : b < (zs Z).heap.size) (hbA : ¬ zA Z b) (h1 : vp_in (nI i + 1) L) (h2 : vp_in (nI i + 2) L) (h3 : vp_in (nI i + 3) L) {hp : HP} (hR : R hp) (kk : ∀ hp2, R hp2 → V Z Y_law hp2 1058 [(3, .int (nI i)), (2, .ref (gA (zG Z) 99)), (1, .ref (gA (zG Z) 0)), (0, .ref b)] []) : V Z Y_law hp 713 [(3, .int (nI i)), (2, .ref (gA (zG Z) 99)), (1, .ref (gA (zG Z) 0)), (0, .ref b)] [] := by
  refine R_aload_n X 2 d_law_713 rfl ?_
  refine R_aload_n X 3 d_law_714 rfl ?_
  refine R_iload_n X 0 d_law_715 rfl ?_
  refine R_iconst (v := (1 : Int32)) X d_law_716 rfl ?_
  refine R_iadd X d_law_717 ?_
  refine V_pc (pc' := 718) rfl ?_
  refine R_sld X hX hbl hbA h1 d_law_718 ?_
  refine R_aload_n X 3 d_law_719 rfl ?_
  refine R_iload_n X 0 d_law_720 rfl ?_
  refine R_iconst (v := (2 : Int32)) X d_law_721 rfl ?_
  refine R_iadd X d_law_722 ?_
  refine R_sld X hX hbl hbA h2 d_law_723 ?_
  refine V_pc (pc' := 724) rfl ?_
  obtain ⟨v, hp1, hp2, e1, e2, hR2⟩ := S_asOne hR (xs (nI i + 1).toNatClampNeg) (xs (nI i + 2).toNatClampNeg)
  refine R_vcall (ci := 6) (k := 0) (r := v) (hp1 := hp1) (As := [.int (xs (nI i + 1).toNatClampNeg), .int (xs (nI i + 2).toNatClampNeg)]) (st := []) X (M_BA_asOne e1) aw_580 cf_BA_asOne (of_decide_eq_true rfl) rfl rfl rfl rfl rfl d_law_724 ?_
  refine V_pc (pc' := 727) rfl ?_
  refine R_aload_n X 1 d_law_727 rfl ?_
  refine R_aload_n X 3 d_law_728 rfl ?_
  refine R_iload_n X 0 d_law_729 rfl ?_
  refine R_iconst (v := (1 : Int32)) X d_law_730 rfl ?_
  refine R_iadd X d_law_731 ?_
  refine V_pc (pc' := 732) rfl ?_
  refine R_sld X hX hbl hbA h1 d_law_732 ?_
  refine R_aload_n X 3 d_law_733 rfl ?_
  refine R_iload_n X 0 d_law_734 rfl ?_
  refine R_iconst (v := (2 : Int32)) X d_law_735 rfl ?_
  refine R_iadd X d_law_736 ?_
  refine R_sld X hX hbl hbA h2 d_law_737 ?_
  refine V_pc (pc' := 738) rfl ?_
  refine R_vcall (ci := 7) (k := 99) (r := v) (hp1 := hp2) (As := [.int (xs (nI i + 1).toNatClampNeg), .int (xs (nI i + 2).toNatClampNeg)]) (st := [.int v]) X (M_Mo_asOne e2) aw_987 cf_Mo_asOne (of_decide_eq_true rfl) rfl rfl rfl rfl rfl d_law_738 ?_
  refine V_pc (pc' := 741) rfl ?_
  refine R_icmp_eq (tgt := 1058) X d_law_741 rfl (fun _ => ?_) (fun c => absurd rfl c)
  exact kk hp2 hR2
set_option maxRecDepth 20000 in
set_option maxHeartbeats 2000000 in
theorem law_c20 {Z : ZT} (X : CX Z Y_law) {b L i : Nat} {xs : Nat → Int32} (hX : va_X b L xs (zs Z) (zs Z).heap) (hbl : b < (zs Z).heap.size) (hbA : ¬ zA Z b) (h1 : vp_in (nI i + 1) L) (h2 : vp_in (nI i + 2) L) (h3 : vp_in (nI i + 3) L) {hp : HP} (hR : R hp) (kk : ∀ hp2, R hp2 → V Z Y_law hp2 1058 [(3, .int (nI i)), (2, .ref (gA (zG Z) 99)), (1, .ref (gA (zG Z) 0)), (0, .ref b)] []) : V Z Y_law hp 746 [(3, .int (nI i)), (2, .ref (gA (zG Z) 99)), (1, .ref (gA (zG Z) 0)), (0, .ref b)] [] := by
  refine R_aload_n X 2 d_law_746 rfl ?_
  refine R_aload_n X 3 d_law_747 rfl ?_
  refine R_iload_n X 0 d_law_748 rfl ?_
  refine R_iconst (v := (1 : Int32)) X d_law_749 rfl ?_
  refine R_iadd X d_law_750 ?_
  refine V_pc (pc' := 751) rfl ?_
  refine R_sld X hX hbl hbA h1 d_law_751 ?_
  refine R_aload_n X 3 d_law_752 rfl ?_
  refine R_iload_n X 0 d_law_753 rfl ?_
  refine R_iconst (v := (2 : Int32)) X d_law_754 rfl ?_
  refine R_iadd X d_law_755 ?_
  refine R_sld X hX hbl hbA h2 d_law_756 ?_
  refine V_pc (pc' := 757) rfl ?_
  refine R_aload_n X 3 d_law_757 rfl ?_
  refine R_iload_n X 0 d_law_758 rfl ?_
  refine R_iconst (v := (3 : Int32)) X d_law_759 rfl ?_
  refine R_iadd X d_law_760 ?_
  refine R_sld X hX hbl hbA h3 d_law_761 ?_
  obtain ⟨v, hp1, hp2, e1, e2, hR2⟩ := S_loan hR (xs (nI i + 1).toNatClampNeg) (xs (nI i + 2).toNatClampNeg) (xs (nI i + 3).toNatClampNeg)
  refine R_vcall (ci := 6) (k := 0) (r := v) (hp1 := hp1) (As := [.int (xs (nI i + 1).toNatClampNeg), .int (xs (nI i + 2).toNatClampNeg), .int (xs (nI i + 3).toNatClampNeg)]) (st := []) X (M_BA_loan e1) aw_588 cf_BA_loan (of_decide_eq_true rfl) rfl rfl rfl rfl rfl d_law_762 ?_
  refine V_pc (pc' := 765) rfl ?_
  refine V_pc (pc' := 765) rfl ?_
  refine R_aload_n X 1 d_law_765 rfl ?_
  refine R_aload_n X 3 d_law_766 rfl ?_
  refine R_iload_n X 0 d_law_767 rfl ?_
  refine R_iconst (v := (1 : Int32)) X d_law_768 rfl ?_
  refine R_iadd X d_law_769 ?_
  refine R_sld X hX hbl hbA h1 d_law_770 ?_
  refine V_pc (pc' := 771) rfl ?_
  refine R_aload_n X 3 d_law_771 rfl ?_
  refine R_iload_n X 0 d_law_772 rfl ?_
  refine R_iconst (v := (2 : Int32)) X d_law_773 rfl ?_
  refine R_iadd X d_law_774 ?_
  refine R_sld X hX hbl hbA h2 d_law_775 ?_
  refine R_aload_n X 3 d_law_776 rfl ?_
  refine V_pc (pc' := 777) rfl ?_
  refine R_iload_n X 0 d_law_777 rfl ?_
  refine R_iconst (v := (3 : Int32)) X d_law_778 rfl ?_
  refine R_iadd X d_law_779 ?_
  refine R_sld X hX hbl hbA h3 d_law_780 ?_
  refine R_vcall (ci := 7) (k := 99) (r := v) (hp1 := hp2) (As := [.int (xs (nI i + 1).toNatClampNeg), .int (xs (nI i + 2).toNatClampNeg), .int (xs (nI i + 3).toNatClampNeg)]) (st := [.int v]) X (M_Mo_loan e2) aw_991 cf_Mo_loan (of_decide_eq_true rfl) rfl rfl rfl rfl rfl d_law_781 ?_
  refine V_pc (pc' := 784) rfl ?_
  refine R_icmp_eq (tgt := 1058) X d_law_784 rfl (fun _ => ?_) (fun c => absurd rfl c)
  exact kk hp2 hR2
set_option maxRecDepth 20000 in
set_option maxHeartbeats 2000000 in
theorem law_c21 {Z : ZT} (X : CX Z Y_law) {b L i : Nat} {xs : Nat → Int32} (hX : va_X b L xs (zs Z) (zs Z).heap) (hbl : b < (zs Z).heap.size) (hbA : ¬ zA Z b) (h1 : vp_in (nI i + 1) L) (h2 : vp_in (nI i + 2) L) (h3 : vp_in (nI i + 3) L) {hp : HP} (hR : R hp) (kk : ∀ hp2, R hp2 → V Z Y_law hp2 1058 [(3, .int (nI i)), (2, .ref (gA (zG Z) 99)), (1, .ref (gA (zG Z) 0)), (0, .ref b)] []) : V Z Y_law hp 789 [(3, .int (nI i)), (2, .ref (gA (zG Z) 99)), (1, .ref (gA (zG Z) 0)), (0, .ref b)] [] := by
  refine R_aload_n X 2 d_law_789 rfl ?_
  refine R_aload_n X 3 d_law_790 rfl ?_
  refine R_iload_n X 0 d_law_791 rfl ?_
  refine R_iconst (v := (1 : Int32)) X d_law_792 rfl ?_
  refine R_iadd X d_law_793 ?_
  refine V_pc (pc' := 794) rfl ?_
  refine R_sld X hX hbl hbA h1 d_law_794 ?_
  obtain ⟨v, hp1, hp2, e1, e2, hR2⟩ := S_order hR (xs (nI i + 1).toNatClampNeg)
  refine R_vcall (ci := 6) (k := 0) (r := v) (hp1 := hp1) (As := [.int (xs (nI i + 1).toNatClampNeg)]) (st := []) X (M_BA_order e1) aw_593 cf_BA_order (of_decide_eq_true rfl) rfl rfl rfl rfl rfl d_law_795 ?_
  refine V_pc (pc' := 798) rfl ?_
  refine R_aload_n X 1 d_law_798 rfl ?_
  refine R_aload_n X 3 d_law_799 rfl ?_
  refine R_iload_n X 0 d_law_800 rfl ?_
  refine R_iconst (v := (1 : Int32)) X d_law_801 rfl ?_
  refine V_pc (pc' := 802) rfl ?_
  refine R_iadd X d_law_802 ?_
  refine R_sld X hX hbl hbA h1 d_law_803 ?_
  refine R_vcall (ci := 7) (k := 99) (r := v) (hp1 := hp2) (As := [.int (xs (nI i + 1).toNatClampNeg)]) (st := [.int v]) X (M_Mo_order e2) aw_999 cf_Mo_order (of_decide_eq_true rfl) rfl rfl rfl rfl rfl d_law_804 ?_
  refine V_pc (pc' := 807) rfl ?_
  refine R_icmp_eq (tgt := 1058) X d_law_807 rfl (fun _ => ?_) (fun c => absurd rfl c)
  exact kk hp2 hR2
set_option maxRecDepth 20000 in
set_option maxHeartbeats 2000000 in
theorem law_c22 {Z : ZT} (X : CX Z Y_law) {b L i : Nat} {xs : Nat → Int32} (hX : va_X b L xs (zs Z) (zs Z).heap) (hbl : b < (zs Z).heap.size) (hbA : ¬ zA Z b) (h1 : vp_in (nI i + 1) L) (h2 : vp_in (nI i + 2) L) (h3 : vp_in (nI i + 3) L) {hp : HP} (hR : R hp) (kk : ∀ hp2, R hp2 → V Z Y_law hp2 1058 [(3, .int (nI i)), (2, .ref (gA (zG Z) 99)), (1, .ref (gA (zG Z) 0)), (0, .ref b)] []) : V Z Y_law hp 812 [(3, .int (nI i)), (2, .ref (gA (zG Z) 99)), (1, .ref (gA (zG Z) 0)), (0, .ref b)] [] := by
  refine R_aload_n X 2 d_law_812 rfl ?_
  refine R_aload_n X 3 d_law_813 rfl ?_
  refine R_iload_n X 0 d_law_814 rfl ?_
  refine R_iconst (v := (1 : Int32)) X d_law_815 rfl ?_
  refine R_iadd X d_law_816 ?_
  refine V_pc (pc' := 817) rfl ?_
  refine R_sld X hX hbl hbA h1 d_law_817 ?_
  refine R_aload_n X 3 d_law_818 rfl ?_
  refine R_iload_n X 0 d_law_819 rfl ?_
  refine R_iconst (v := (2 : Int32)) X d_law_820 rfl ?_
  refine R_iadd X d_law_821 ?_
  refine R_sld X hX hbl hbA h2 d_law_822 ?_
  refine V_pc (pc' := 823) rfl ?_
  obtain ⟨v, hp1, hp2, e1, e2, hR2⟩ := S_wage hR (xs (nI i + 1).toNatClampNeg) (xs (nI i + 2).toNatClampNeg)
  refine R_vcall (ci := 6) (k := 0) (r := v) (hp1 := hp1) (As := [.int (xs (nI i + 1).toNatClampNeg), .int (xs (nI i + 2).toNatClampNeg)]) (st := []) X (M_BA_wage e1) aw_601 cf_BA_wage (of_decide_eq_true rfl) rfl rfl rfl rfl rfl d_law_823 ?_
  refine V_pc (pc' := 826) rfl ?_
  refine R_aload_n X 1 d_law_826 rfl ?_
  refine R_aload_n X 3 d_law_827 rfl ?_
  refine R_iload_n X 0 d_law_828 rfl ?_
  refine R_iconst (v := (1 : Int32)) X d_law_829 rfl ?_
  refine R_iadd X d_law_830 ?_
  refine V_pc (pc' := 831) rfl ?_
  refine R_sld X hX hbl hbA h1 d_law_831 ?_
  refine R_aload_n X 3 d_law_832 rfl ?_
  refine R_iload_n X 0 d_law_833 rfl ?_
  refine R_iconst (v := (2 : Int32)) X d_law_834 rfl ?_
  refine R_iadd X d_law_835 ?_
  refine R_sld X hX hbl hbA h2 d_law_836 ?_
  refine V_pc (pc' := 837) rfl ?_
  refine R_vcall (ci := 7) (k := 99) (r := v) (hp1 := hp2) (As := [.int (xs (nI i + 1).toNatClampNeg), .int (xs (nI i + 2).toNatClampNeg)]) (st := [.int v]) X (M_Mo_wage e2) aw_1003 cf_Mo_wage (of_decide_eq_true rfl) rfl rfl rfl rfl rfl d_law_837 ?_
  refine V_pc (pc' := 840) rfl ?_
  refine R_icmp_eq (tgt := 1058) X d_law_840 rfl (fun _ => ?_) (fun c => absurd rfl c)
  exact kk hp2 hR2
set_option maxRecDepth 20000 in
set_option maxHeartbeats 2000000 in
theorem law_c23 {Z : ZT} (X : CX Z Y_law) {b L i : Nat} {xs : Nat → Int32} (hX : va_X b L xs (zs Z) (zs Z).heap) (hbl : b < (zs Z).heap.size) (hbA : ¬ zA Z b) (h1 : vp_in (nI i + 1) L) (h2 : vp_in (nI i + 2) L) (h3 : vp_in (nI i + 3) L) {hp : HP} (hR : R hp) (kk : ∀ hp2, R hp2 → V Z Y_law hp2 1058 [(3, .int (nI i)), (2, .ref (gA (zG Z) 99)), (1, .ref (gA (zG Z) 0)), (0, .ref b)] []) : V Z Y_law hp 845 [(3, .int (nI i)), (2, .ref (gA (zG Z) 99)), (1, .ref (gA (zG Z) 0)), (0, .ref b)] [] := by
  refine R_aload_n X 2 d_law_845 rfl ?_
  refine R_aload_n X 3 d_law_846 rfl ?_
  refine R_iload_n X 0 d_law_847 rfl ?_
  refine R_iconst (v := (1 : Int32)) X d_law_848 rfl ?_
  refine R_iadd X d_law_849 ?_
  refine V_pc (pc' := 850) rfl ?_
  refine R_sld X hX hbl hbA h1 d_law_850 ?_
  refine R_aload_n X 3 d_law_851 rfl ?_
  refine R_iload_n X 0 d_law_852 rfl ?_
  refine R_iconst (v := (2 : Int32)) X d_law_853 rfl ?_
  refine R_iadd X d_law_854 ?_
  refine R_sld X hX hbl hbA h2 d_law_855 ?_
  refine V_pc (pc' := 856) rfl ?_
  refine R_ifeq (tgt := 863) X d_law_856 rfl (fun c => ?_) (fun c => ?_)
  · refine R_iconst (v := (0 : Int32)) X d_law_863 rfl ?_
    obtain ⟨v, hp1, hp2, e1, e2, hR2⟩ := S_see hR (xs (nI i + 1).toNatClampNeg) 0 (Or.inl rfl)
    refine R_vcall (ci := 6) (k := 0) (r := v) (hp1 := hp1) (As := [.int (xs (nI i + 1).toNatClampNeg), .int 0]) (st := []) X (M_BA_see e1) aw_607 cf_BA_see (of_decide_eq_true rfl) rfl rfl rfl rfl rfl d_law_864 ?_
    refine V_pc (pc' := 867) rfl ?_
    refine R_aload_n X 1 d_law_867 rfl ?_
    refine R_aload_n X 3 d_law_868 rfl ?_
    refine R_iload_n X 0 d_law_869 rfl ?_
    refine V_pc (pc' := 870) rfl ?_
    refine R_iconst (v := (1 : Int32)) X d_law_870 rfl ?_
    refine R_iadd X d_law_871 ?_
    refine R_sld X hX hbl hbA h1 d_law_872 ?_
    refine R_aload_n X 3 d_law_873 rfl ?_
    refine R_iload_n X 0 d_law_874 rfl ?_
    refine R_iconst (v := (2 : Int32)) X d_law_875 rfl ?_
    refine V_pc (pc' := 876) rfl ?_
    refine R_iadd X d_law_876 ?_
    refine R_sld X hX hbl hbA h2 d_law_877 ?_
    refine R_ifeq (tgt := 885) X d_law_878 rfl (fun _ => ?_) (fun c2 => absurd c c2)
    refine R_iconst (v := (0 : Int32)) X d_law_885 rfl ?_
    refine R_vcall (ci := 7) (k := 99) (r := v) (hp1 := hp2) (As := [.int (xs (nI i + 1).toNatClampNeg), .int 0]) (st := [.int v]) X (M_Mo_see e2) aw_1009 cf_Mo_see (of_decide_eq_true rfl) rfl rfl rfl rfl rfl d_law_886 ?_
    refine V_pc (pc' := 889) rfl ?_
    refine R_icmp_eq (tgt := 1058) X d_law_889 rfl (fun _ => ?_) (fun c => absurd rfl c)
    exact kk hp2 hR2
  · refine R_iconst (v := (1 : Int32)) X d_law_859 rfl ?_
    refine R_goto (tgt := 864) X d_law_860 rfl ?_
    obtain ⟨v, hp1, hp2, e1, e2, hR2⟩ := S_see hR (xs (nI i + 1).toNatClampNeg) 1 (Or.inr rfl)
    refine R_vcall (ci := 6) (k := 0) (r := v) (hp1 := hp1) (As := [.int (xs (nI i + 1).toNatClampNeg), .int 1]) (st := []) X (M_BA_see e1) aw_607 cf_BA_see (of_decide_eq_true rfl) rfl rfl rfl rfl rfl d_law_864 ?_
    refine V_pc (pc' := 867) rfl ?_
    refine R_aload_n X 1 d_law_867 rfl ?_
    refine R_aload_n X 3 d_law_868 rfl ?_
    refine V_pc (pc' := 869) rfl ?_
    refine R_iload_n X 0 d_law_869 rfl ?_
    refine R_iconst (v := (1 : Int32)) X d_law_870 rfl ?_
    refine R_iadd X d_law_871 ?_
    refine R_sld X hX hbl hbA h1 d_law_872 ?_
    refine R_aload_n X 3 d_law_873 rfl ?_
    refine R_iload_n X 0 d_law_874 rfl ?_
    refine V_pc (pc' := 875) rfl ?_
    refine R_iconst (v := (2 : Int32)) X d_law_875 rfl ?_
    refine R_iadd X d_law_876 ?_
    refine R_sld X hX hbl hbA h2 d_law_877 ?_
    refine R_ifeq (tgt := 885) X d_law_878 rfl (fun c2 => absurd c2 c) (fun _ => ?_)
    refine R_iconst (v := (1 : Int32)) X d_law_881 rfl ?_
    refine R_goto (tgt := 886) X d_law_882 rfl ?_
    refine V_pc (pc' := 886) rfl ?_
    refine R_vcall (ci := 7) (k := 99) (r := v) (hp1 := hp2) (As := [.int (xs (nI i + 1).toNatClampNeg), .int 1]) (st := [.int v]) X (M_Mo_see e2) aw_1009 cf_Mo_see (of_decide_eq_true rfl) rfl rfl rfl rfl rfl d_law_886 ?_
    refine V_pc (pc' := 889) rfl ?_
    refine R_icmp_eq (tgt := 1058) X d_law_889 rfl (fun _ => ?_) (fun c => absurd rfl c)
    exact kk hp2 hR2
set_option maxRecDepth 20000 in
set_option maxHeartbeats 2000000 in
theorem law_c24 {Z : ZT} (X : CX Z Y_law) {b L i : Nat} {xs : Nat → Int32} (hX : va_X b L xs (zs Z) (zs Z).heap) (hbl : b < (zs Z).heap.size) (hbA : ¬ zA Z b) (h1 : vp_in (nI i + 1) L) (h2 : vp_in (nI i + 2) L) (h3 : vp_in (nI i + 3) L) {hp : HP} (hR : R hp) (kk : ∀ hp2, R hp2 → V Z Y_law hp2 1058 [(3, .int (nI i)), (2, .ref (gA (zG Z) 99)), (1, .ref (gA (zG Z) 0)), (0, .ref b)] []) : V Z Y_law hp 894 [(3, .int (nI i)), (2, .ref (gA (zG Z) 99)), (1, .ref (gA (zG Z) 0)), (0, .ref b)] [] := by
  refine R_aload_n X 2 d_law_894 rfl ?_
  refine R_aload_n X 3 d_law_895 rfl ?_
  refine R_iload_n X 0 d_law_896 rfl ?_
  refine R_iconst (v := (1 : Int32)) X d_law_897 rfl ?_
  refine R_iadd X d_law_898 ?_
  refine V_pc (pc' := 899) rfl ?_
  refine R_sld X hX hbl hbA h1 d_law_899 ?_
  obtain ⟨v, hp1, hp2, e1, e2, hR2⟩ := S_has hR (xs (nI i + 1).toNatClampNeg)
  refine R_vcall (ci := 6) (k := 0) (r := v) (hp1 := hp1) (As := [.int (xs (nI i + 1).toNatClampNeg)]) (st := []) X (M_BA_has e1) aw_615 cf_BA_has (of_decide_eq_true rfl) rfl rfl rfl rfl rfl d_law_900 ?_
  refine V_pc (pc' := 903) rfl ?_
  refine R_aload_n X 1 d_law_903 rfl ?_
  refine R_aload_n X 3 d_law_904 rfl ?_
  refine R_iload_n X 0 d_law_905 rfl ?_
  refine R_iconst (v := (1 : Int32)) X d_law_906 rfl ?_
  refine V_pc (pc' := 907) rfl ?_
  refine R_iadd X d_law_907 ?_
  refine R_sld X hX hbl hbA h1 d_law_908 ?_
  refine R_vcall (ci := 7) (k := 99) (r := v) (hp1 := hp2) (As := [.int (xs (nI i + 1).toNatClampNeg)]) (st := [.int v]) X (M_Mo_has e2) aw_1013 cf_Mo_has (of_decide_eq_true rfl) rfl rfl rfl rfl rfl d_law_909 ?_
  refine V_pc (pc' := 912) rfl ?_
  refine R_icmp_eq (tgt := 1058) X d_law_912 rfl (fun _ => ?_) (fun c => absurd rfl c)
  exact kk hp2 hR2
set_option maxRecDepth 20000 in
set_option maxHeartbeats 2000000 in
theorem law_c25 {Z : ZT} (X : CX Z Y_law) {b L i : Nat} {xs : Nat → Int32} (hX : va_X b L xs (zs Z) (zs Z).heap) (hbl : b < (zs Z).heap.size) (hbA : ¬ zA Z b) (h1 : vp_in (nI i + 1) L) (h2 : vp_in (nI i + 2) L) (h3 : vp_in (nI i + 3) L) {hp : HP} (hR : R hp) (kk : ∀ hp2, R hp2 → V Z Y_law hp2 1058 [(3, .int (nI i)), (2, .ref (gA (zG Z) 99)), (1, .ref (gA (zG Z) 0)), (0, .ref b)] []) : V Z Y_law hp 917 [(3, .int (nI i)), (2, .ref (gA (zG Z) 99)), (1, .ref (gA (zG Z) 0)), (0, .ref b)] [] := by
  refine R_aload_n X 2 d_law_917 rfl ?_
  obtain ⟨v, hp1, hp2, e1, e2, hR2⟩ := S_look hR
  refine R_vcall (ci := 6) (k := 0) (r := v) (hp1 := hp1) (As := []) (st := []) X (M_BA_look e1) aw_628 cf_BA_look (of_decide_eq_true rfl) rfl rfl rfl rfl rfl d_law_918 ?_
  refine V_pc (pc' := 921) rfl ?_
  refine R_aload_n X 1 d_law_921 rfl ?_
  refine R_vcall (ci := 7) (k := 99) (r := v) (hp1 := hp2) (As := []) (st := [.int v]) X (M_Mo_look e2) aw_1022 cf_Mo_look (of_decide_eq_true rfl) rfl rfl rfl rfl rfl d_law_922 ?_
  refine V_pc (pc' := 925) rfl ?_
  refine R_icmp_eq (tgt := 1058) X d_law_925 rfl (fun _ => ?_) (fun c => absurd rfl c)
  exact kk hp2 hR2
set_option maxRecDepth 20000 in
set_option maxHeartbeats 2000000 in
theorem law_c26 {Z : ZT} (X : CX Z Y_law) {b L i : Nat} {xs : Nat → Int32} (hX : va_X b L xs (zs Z) (zs Z).heap) (hbl : b < (zs Z).heap.size) (hbA : ¬ zA Z b) (h1 : vp_in (nI i + 1) L) (h2 : vp_in (nI i + 2) L) (h3 : vp_in (nI i + 3) L) {hp : HP} (hR : R hp) (kk : ∀ hp2, R hp2 → V Z Y_law hp2 1058 [(3, .int (nI i)), (2, .ref (gA (zG Z) 99)), (1, .ref (gA (zG Z) 0)), (0, .ref b)] []) : V Z Y_law hp 930 [(3, .int (nI i)), (2, .ref (gA (zG Z) 99)), (1, .ref (gA (zG Z) 0)), (0, .ref b)] [] := by
  refine R_aload_n X 2 d_law_930 rfl ?_
  refine R_aload_n X 3 d_law_931 rfl ?_
  refine R_iload_n X 0 d_law_932 rfl ?_
  refine R_iconst (v := (1 : Int32)) X d_law_933 rfl ?_
  refine R_iadd X d_law_934 ?_
  refine V_pc (pc' := 935) rfl ?_
  refine R_sld X hX hbl hbA h1 d_law_935 ?_
  refine R_aload_n X 3 d_law_936 rfl ?_
  refine R_iload_n X 0 d_law_937 rfl ?_
  refine R_iconst (v := (2 : Int32)) X d_law_938 rfl ?_
  refine R_iadd X d_law_939 ?_
  refine R_sld X hX hbl hbA h2 d_law_940 ?_
  refine V_pc (pc' := 941) rfl ?_
  obtain ⟨v, hp1, hp2, e1, e2, hR2⟩ := S_write hR (xs (nI i + 1).toNatClampNeg) (xs (nI i + 2).toNatClampNeg)
  refine R_vcall (ci := 6) (k := 0) (r := v) (hp1 := hp1) (As := [.int (xs (nI i + 1).toNatClampNeg), .int (xs (nI i + 2).toNatClampNeg)]) (st := []) X (M_BA_write e1) aw_632 cf_BA_write (of_decide_eq_true rfl) rfl rfl rfl rfl rfl d_law_941 ?_
  refine V_pc (pc' := 944) rfl ?_
  refine R_aload_n X 1 d_law_944 rfl ?_
  refine R_aload_n X 3 d_law_945 rfl ?_
  refine R_iload_n X 0 d_law_946 rfl ?_
  refine R_iconst (v := (1 : Int32)) X d_law_947 rfl ?_
  refine R_iadd X d_law_948 ?_
  refine V_pc (pc' := 949) rfl ?_
  refine R_sld X hX hbl hbA h1 d_law_949 ?_
  refine R_aload_n X 3 d_law_950 rfl ?_
  refine R_iload_n X 0 d_law_951 rfl ?_
  refine R_iconst (v := (2 : Int32)) X d_law_952 rfl ?_
  refine R_iadd X d_law_953 ?_
  refine R_sld X hX hbl hbA h2 d_law_954 ?_
  refine V_pc (pc' := 955) rfl ?_
  refine R_vcall (ci := 7) (k := 99) (r := v) (hp1 := hp2) (As := [.int (xs (nI i + 1).toNatClampNeg), .int (xs (nI i + 2).toNatClampNeg)]) (st := [.int v]) X (M_Mo_write e2) aw_1027 cf_Mo_write (of_decide_eq_true rfl) rfl rfl rfl rfl rfl d_law_955 ?_
  refine V_pc (pc' := 958) rfl ?_
  refine R_icmp_eq (tgt := 1058) X d_law_958 rfl (fun _ => ?_) (fun c => absurd rfl c)
  exact kk hp2 hR2
set_option maxRecDepth 20000 in
set_option maxHeartbeats 2000000 in
theorem law_c27 {Z : ZT} (X : CX Z Y_law) {b L i : Nat} {xs : Nat → Int32} (hX : va_X b L xs (zs Z) (zs Z).heap) (hbl : b < (zs Z).heap.size) (hbA : ¬ zA Z b) (h1 : vp_in (nI i + 1) L) (h2 : vp_in (nI i + 2) L) (h3 : vp_in (nI i + 3) L) {hp : HP} (hR : R hp) (kk : ∀ hp2, R hp2 → V Z Y_law hp2 1058 [(3, .int (nI i)), (2, .ref (gA (zG Z) 99)), (1, .ref (gA (zG Z) 0)), (0, .ref b)] []) : V Z Y_law hp 963 [(3, .int (nI i)), (2, .ref (gA (zG Z) 99)), (1, .ref (gA (zG Z) 0)), (0, .ref b)] [] := by
  refine R_aload_n X 2 d_law_963 rfl ?_
  obtain ⟨v, hp1, hp2, e1, e2, hR2⟩ := S_tear hR
  refine R_vcall (ci := 6) (k := 0) (r := v) (hp1 := hp1) (As := []) (st := []) X (M_BA_tear e1) aw_640 cf_BA_tear (of_decide_eq_true rfl) rfl rfl rfl rfl rfl d_law_964 ?_
  refine V_pc (pc' := 967) rfl ?_
  refine R_aload_n X 1 d_law_967 rfl ?_
  refine R_vcall (ci := 7) (k := 99) (r := v) (hp1 := hp2) (As := []) (st := [.int v]) X (M_Mo_tear e2) aw_1032 cf_Mo_tear (of_decide_eq_true rfl) rfl rfl rfl rfl rfl d_law_968 ?_
  refine V_pc (pc' := 971) rfl ?_
  refine R_icmp_eq (tgt := 1058) X d_law_971 rfl (fun _ => ?_) (fun c => absurd rfl c)
  exact kk hp2 hR2
set_option maxRecDepth 20000 in
set_option maxHeartbeats 2000000 in
theorem law_c28 {Z : ZT} (X : CX Z Y_law) {b L i : Nat} {xs : Nat → Int32} (hX : va_X b L xs (zs Z) (zs Z).heap) (hbl : b < (zs Z).heap.size) (hbA : ¬ zA Z b) (h1 : vp_in (nI i + 1) L) (h2 : vp_in (nI i + 2) L) (h3 : vp_in (nI i + 3) L) {hp : HP} (hR : R hp) (kk : ∀ hp2, R hp2 → V Z Y_law hp2 1058 [(3, .int (nI i)), (2, .ref (gA (zG Z) 99)), (1, .ref (gA (zG Z) 0)), (0, .ref b)] []) : V Z Y_law hp 976 [(3, .int (nI i)), (2, .ref (gA (zG Z) 99)), (1, .ref (gA (zG Z) 0)), (0, .ref b)] [] := by
  refine R_aload_n X 2 d_law_976 rfl ?_
  obtain ⟨v, hp1, hp2, e1, e2, hR2⟩ := S_judge hR
  refine R_vcall (ci := 6) (k := 0) (r := v) (hp1 := hp1) (As := []) (st := []) X (M_BA_judge e1) aw_648 cf_BA_judge (of_decide_eq_true rfl) rfl rfl rfl rfl rfl d_law_977 ?_
  refine V_pc (pc' := 980) rfl ?_
  refine R_aload_n X 1 d_law_980 rfl ?_
  refine R_vcall (ci := 7) (k := 99) (r := v) (hp1 := hp2) (As := []) (st := [.int v]) X (M_Mo_judge e2) aw_1036 cf_Mo_judge (of_decide_eq_true rfl) rfl rfl rfl rfl rfl d_law_981 ?_
  refine V_pc (pc' := 984) rfl ?_
  refine R_icmp_eq (tgt := 1058) X d_law_984 rfl (fun _ => ?_) (fun c => absurd rfl c)
  exact kk hp2 hR2
set_option maxRecDepth 20000 in
set_option maxHeartbeats 2000000 in
theorem law_c29 {Z : ZT} (X : CX Z Y_law) {b L i : Nat} {xs : Nat → Int32} (hX : va_X b L xs (zs Z) (zs Z).heap) (hbl : b < (zs Z).heap.size) (hbA : ¬ zA Z b) (h1 : vp_in (nI i + 1) L) (h2 : vp_in (nI i + 2) L) (h3 : vp_in (nI i + 3) L) {hp : HP} (hR : R hp) (kk : ∀ hp2, R hp2 → V Z Y_law hp2 1058 [(3, .int (nI i)), (2, .ref (gA (zG Z) 99)), (1, .ref (gA (zG Z) 0)), (0, .ref b)] []) : V Z Y_law hp 989 [(3, .int (nI i)), (2, .ref (gA (zG Z) 99)), (1, .ref (gA (zG Z) 0)), (0, .ref b)] [] := by
  refine R_aload_n X 2 d_law_989 rfl ?_
  refine R_aload_n X 3 d_law_990 rfl ?_
  refine R_iload_n X 0 d_law_991 rfl ?_
  refine R_iconst (v := (1 : Int32)) X d_law_992 rfl ?_
  refine R_iadd X d_law_993 ?_
  refine V_pc (pc' := 994) rfl ?_
  refine R_sld X hX hbl hbA h1 d_law_994 ?_
  obtain ⟨v, hp1, hp2, e1, e2, hR2⟩ := S_seed hR (xs (nI i + 1).toNatClampNeg)
  refine R_vcall (ci := 6) (k := 0) (r := v) (hp1 := hp1) (As := [.int (xs (nI i + 1).toNatClampNeg)]) (st := []) X (M_BA_seed e1) aw_652 cf_BA_seed (of_decide_eq_true rfl) rfl rfl rfl rfl rfl d_law_995 ?_
  refine V_pc (pc' := 998) rfl ?_
  refine R_aload_n X 1 d_law_998 rfl ?_
  refine R_aload_n X 3 d_law_999 rfl ?_
  refine R_iload_n X 0 d_law_1000 rfl ?_
  refine R_iconst (v := (1 : Int32)) X d_law_1001 rfl ?_
  refine V_pc (pc' := 1002) rfl ?_
  refine R_iadd X d_law_1002 ?_
  refine R_sld X hX hbl hbA h1 d_law_1003 ?_
  refine R_vcall (ci := 7) (k := 99) (r := v) (hp1 := hp2) (As := [.int (xs (nI i + 1).toNatClampNeg)]) (st := [.int v]) X (M_Mo_seed e2) aw_1040 cf_Mo_seed (of_decide_eq_true rfl) rfl rfl rfl rfl rfl d_law_1004 ?_
  refine V_pc (pc' := 1007) rfl ?_
  refine R_icmp_eq (tgt := 1058) X d_law_1007 rfl (fun _ => ?_) (fun c => absurd rfl c)
  exact kk hp2 hR2
set_option maxRecDepth 20000 in
set_option maxHeartbeats 2000000 in
theorem law_c30 {Z : ZT} (X : CX Z Y_law) {b L i : Nat} {xs : Nat → Int32} (hX : va_X b L xs (zs Z) (zs Z).heap) (hbl : b < (zs Z).heap.size) (hbA : ¬ zA Z b) (h1 : vp_in (nI i + 1) L) (h2 : vp_in (nI i + 2) L) (h3 : vp_in (nI i + 3) L) {hp : HP} (hR : R hp) (kk : ∀ hp2, R hp2 → V Z Y_law hp2 1058 [(3, .int (nI i)), (2, .ref (gA (zG Z) 99)), (1, .ref (gA (zG Z) 0)), (0, .ref b)] []) : V Z Y_law hp 1012 [(3, .int (nI i)), (2, .ref (gA (zG Z) 99)), (1, .ref (gA (zG Z) 0)), (0, .ref b)] [] := by
  refine R_aload_n X 2 d_law_1012 rfl ?_
  refine R_aload_n X 3 d_law_1013 rfl ?_
  refine R_iload_n X 0 d_law_1014 rfl ?_
  refine R_iconst (v := (1 : Int32)) X d_law_1015 rfl ?_
  refine R_iadd X d_law_1016 ?_
  refine V_pc (pc' := 1017) rfl ?_
  refine R_sld X hX hbl hbA h1 d_law_1017 ?_
  obtain ⟨v, hp1, hp2, e1, e2, hR2⟩ := S_keep hR (xs (nI i + 1).toNatClampNeg)
  refine R_vcall (ci := 6) (k := 0) (r := v) (hp1 := hp1) (As := [.int (xs (nI i + 1).toNatClampNeg)]) (st := []) X (M_BA_keep e1) aw_656 cf_BA_keep (of_decide_eq_true rfl) rfl rfl rfl rfl rfl d_law_1018 ?_
  refine V_pc (pc' := 1021) rfl ?_
  refine R_aload_n X 1 d_law_1021 rfl ?_
  refine R_aload_n X 3 d_law_1022 rfl ?_
  refine R_iload_n X 0 d_law_1023 rfl ?_
  refine R_iconst (v := (1 : Int32)) X d_law_1024 rfl ?_
  refine V_pc (pc' := 1025) rfl ?_
  refine R_iadd X d_law_1025 ?_
  refine R_sld X hX hbl hbA h1 d_law_1026 ?_
  refine R_vcall (ci := 7) (k := 99) (r := v) (hp1 := hp2) (As := [.int (xs (nI i + 1).toNatClampNeg)]) (st := [.int v]) X (M_Mo_keep e2) aw_1044 cf_Mo_keep (of_decide_eq_true rfl) rfl rfl rfl rfl rfl d_law_1027 ?_
  refine V_pc (pc' := 1030) rfl ?_
  refine R_icmp_eq (tgt := 1058) X d_law_1030 rfl (fun _ => ?_) (fun c => absurd rfl c)
  exact kk hp2 hR2
set_option maxRecDepth 20000 in
set_option maxHeartbeats 2000000 in
theorem law_c31 {Z : ZT} (X : CX Z Y_law) {b L i : Nat} {xs : Nat → Int32} (hX : va_X b L xs (zs Z) (zs Z).heap) (hbl : b < (zs Z).heap.size) (hbA : ¬ zA Z b) (h1 : vp_in (nI i + 1) L) (h2 : vp_in (nI i + 2) L) (h3 : vp_in (nI i + 3) L) {hp : HP} (hR : R hp) (kk : ∀ hp2, R hp2 → V Z Y_law hp2 1058 [(3, .int (nI i)), (2, .ref (gA (zG Z) 99)), (1, .ref (gA (zG Z) 0)), (0, .ref b)] []) : V Z Y_law hp 1035 [(3, .int (nI i)), (2, .ref (gA (zG Z) 99)), (1, .ref (gA (zG Z) 0)), (0, .ref b)] [] := by
  refine R_aload_n X 2 d_law_1035 rfl ?_
  refine R_aload_n X 3 d_law_1036 rfl ?_
  refine R_iload_n X 0 d_law_1037 rfl ?_
  refine R_iconst (v := (1 : Int32)) X d_law_1038 rfl ?_
  refine R_iadd X d_law_1039 ?_
  refine V_pc (pc' := 1040) rfl ?_
  refine R_sld X hX hbl hbA h1 d_law_1040 ?_
  obtain ⟨v, hp1, hp2, e1, e2, hR2⟩ := S_goBack hR (xs (nI i + 1).toNatClampNeg)
  refine R_vcall (ci := 6) (k := 0) (r := v) (hp1 := hp1) (As := [.int (xs (nI i + 1).toNatClampNeg)]) (st := []) X (M_BA_goBack e1) aw_661 cf_BA_goBack (of_decide_eq_true rfl) rfl rfl rfl rfl rfl d_law_1041 ?_
  refine V_pc (pc' := 1044) rfl ?_
  refine R_aload_n X 1 d_law_1044 rfl ?_
  refine R_aload_n X 3 d_law_1045 rfl ?_
  refine R_iload_n X 0 d_law_1046 rfl ?_
  refine R_iconst (v := (1 : Int32)) X d_law_1047 rfl ?_
  refine V_pc (pc' := 1048) rfl ?_
  refine R_iadd X d_law_1048 ?_
  refine R_sld X hX hbl hbA h1 d_law_1049 ?_
  refine R_vcall (ci := 7) (k := 99) (r := v) (hp1 := hp2) (As := [.int (xs (nI i + 1).toNatClampNeg)]) (st := [.int v]) X (M_Mo_goBack e2) aw_1048 cf_Mo_goBack (of_decide_eq_true rfl) rfl rfl rfl rfl rfl d_law_1050 ?_
  refine V_pc (pc' := 1053) rfl ?_
  refine R_icmp_eq (tgt := 1058) X d_law_1053 rfl (fun _ => ?_) (fun c => absurd rfl c)
  exact kk hp2 hR2
set_option maxRecDepth 20000 in
set_option maxHeartbeats 4000000 in
theorem law_loop {Z : ZT} (X : CX Z Y_law) {b L : Nat} {xs : Nat → Int32} (hL : L ≤ 256) (hX : va_X b L xs (zs Z) (zs Z).heap) (hbl : b < (zs Z).heap.size) (hbA : ¬ zA Z b) (hE : ∀ (hp : HP) (pc : Nat) (Lv : List (Nat × Value)), decode code pc = .ok (.ireturn, 1) → V Z Y_law hp pc Lv [.int 1]) : ∀ (D i : Nat) (hp : HP), L + 4 - i ≤ D → i ≤ L + 4 → R hp → V Z Y_law hp 18 [(3, .int (nI i)), (2, .ref (gA (zG Z) 99)), (1, .ref (gA (zG Z) 0)), (0, .ref b)] [] := by
  intro D
  induction D with
  | zero =>
    intro i hp hD hi hR
    refine R_iload_n X 0 d_law_18 rfl ?_
    refine R_aload_n X 3 d_law_19 rfl ?_
    refine R_slen X hX hbl hbA d_law_20 ?_
    refine R_iconst (v := (4 : Int32)) X d_law_21 rfl ?_
    refine R_isub X d_law_22 ?_
    refine R_icmp_gt (tgt := 1064) X d_law_23 rfl (fun _ => ?_) (fun c => absurd (len_lt (by omega) (by omega) (by omega)) c)
    refine R_iconst (v := (1 : Int32)) X d_law_1064 rfl ?_
    exact hE hp 1065 _ d_law_1065
  | succ D ih =>
    intro i hp hD hi hR
    refine R_iload_n X 0 d_law_18 rfl ?_
    refine R_aload_n X 3 d_law_19 rfl ?_
    refine R_slen X hX hbl hbA d_law_20 ?_
    refine R_iconst (v := (4 : Int32)) X d_law_21 rfl ?_
    refine R_isub X d_law_22 ?_
    refine R_icmp_gt (tgt := 1064) X d_law_23 rfl (fun _ => ?_) (fun c => ?_)
    · refine R_iconst (v := (1 : Int32)) X d_law_1064 rfl ?_
      exact hE hp 1065 _ d_law_1065
    · have hi4 : i + 4 ≤ L := Nat.le_of_not_lt (fun z => c (len_lt (by omega) (by omega) (by omega)))
      have kk : ∀ hp2, R hp2 → V Z Y_law hp2 1058 [(3, .int (nI i)), (2, .ref (gA (zG Z) 99)), (1, .ref (gA (zG Z) 0)), (0, .ref b)] [] := by
        intro hp2 hR2
        refine R_iinc (v := nI (i + 4)) (L' := [(3, .int (nI (i + 4))), (2, .ref (gA (zG Z) 99)), (1, .ref (gA (zG Z) 0)), (0, .ref b)]) X 0 d_law_1058 rfl (by rw [← nI_add]; rfl) (by decide) rfl ?_
        refine R_goto (tgt := 18) X d_law_1061 rfl ?_
        exact ih (i + 4) hp2 (by omega) (by omega) hR2
      have h0 : vp_in (nI i) L := inb_in (inb_n (by omega) (by omega))
      have h1 : vp_in (nI i + 1) L := by rw [show nI i + 1 = nI (i + 1) from nI_1 i]; exact inb_in (inb_n (by omega) (by omega))
      have h2 : vp_in (nI i + 2) L := by rw [show nI i + 2 = nI (i + 2) from nI_add i 2]; exact inb_in (inb_n (by omega) (by omega))
      have h3 : vp_in (nI i + 3) L := by rw [show nI i + 3 = nI (i + 3) from nI_add i 3]; exact inb_in (inb_n (by omega) (by omega))
      refine V_pc (pc' := 26) rfl ?_
      refine R_aload_n X 3 d_law_26 rfl ?_
      refine R_iload_n X 0 d_law_27 rfl ?_
      refine R_sld X hX hbl hbA h0 d_law_28 ?_
      refine R_bipush (v := (31 : Int32)) X d_law_29 rfl ?_
      refine R_iand X d_law_31 ?_
      refine V_pc (pc' := 32) rfl ?_
      generalize xs (nI i).toNatClampNeg &&& 31 = key
      by_cases c0 : key = 0
      · refine R_swIn (tgt := 176) X d_law_32 0 (by rw [c0]; rfl) (by decide) (by decide) rfl rfl ?_
        exact law_c0 X hX hbl hbA h1 h2 h3 hR kk
      by_cases c1 : key = 1
      · refine R_swIn (tgt := 199) X d_law_32 1 (by rw [c1]; rfl) (by decide) (by decide) rfl rfl ?_
        exact law_c1 X hX hbl hbA h1 h2 h3 hR kk
      by_cases c2 : key = 2
      · refine R_swIn (tgt := 212) X d_law_32 2 (by rw [c2]; rfl) (by decide) (by decide) rfl rfl ?_
        exact law_c2 X hX hbl hbA h1 h2 h3 hR kk
      by_cases c3 : key = 3
      · refine R_swIn (tgt := 225) X d_law_32 3 (by rw [c3]; rfl) (by decide) (by decide) rfl rfl ?_
        exact law_c3 X hX hbl hbA h1 h2 h3 hR kk
      by_cases c4 : key = 4
      · refine R_swIn (tgt := 248) X d_law_32 4 (by rw [c4]; rfl) (by decide) (by decide) rfl rfl ?_
        exact law_c4 X hX hbl hbA h1 h2 h3 hR kk
      by_cases c5 : key = 5
      · refine R_swIn (tgt := 271) X d_law_32 5 (by rw [c5]; rfl) (by decide) (by decide) rfl rfl ?_
        exact law_c5 X hX hbl hbA h1 h2 h3 hR kk
      by_cases c6 : key = 6
      · refine R_swIn (tgt := 304) X d_law_32 6 (by rw [c6]; rfl) (by decide) (by decide) rfl rfl ?_
        exact law_c6 X hX hbl hbA h1 h2 h3 hR kk
      by_cases c7 : key = 7
      · refine R_swIn (tgt := 337) X d_law_32 7 (by rw [c7]; rfl) (by decide) (by decide) rfl rfl ?_
        exact law_c7 X hX hbl hbA h1 h2 h3 hR kk
      by_cases c8 : key = 8
      · refine R_swIn (tgt := 370) X d_law_32 8 (by rw [c8]; rfl) (by decide) (by decide) rfl rfl ?_
        exact law_c8 X hX hbl hbA h1 h2 h3 hR kk
      by_cases c9 : key = 9
      · refine R_swIn (tgt := 393) X d_law_32 9 (by rw [c9]; rfl) (by decide) (by decide) rfl rfl ?_
        exact law_c9 X hX hbl hbA h1 h2 h3 hR kk
      by_cases c10 : key = 10
      · refine R_swIn (tgt := 426) X d_law_32 10 (by rw [c10]; rfl) (by decide) (by decide) rfl rfl ?_
        exact law_c10 X hX hbl hbA h1 h2 h3 hR kk
      by_cases c11 : key = 11
      · refine R_swIn (tgt := 469) X d_law_32 11 (by rw [c11]; rfl) (by decide) (by decide) rfl rfl ?_
        exact law_c11 X hX hbl hbA h1 h2 h3 hR kk
      by_cases c12 : key = 12
      · refine R_swIn (tgt := 512) X d_law_32 12 (by rw [c12]; rfl) (by decide) (by decide) rfl rfl ?_
        exact law_c12 X hX hbl hbA h1 h2 h3 hR kk
      by_cases c13 : key = 13
      · refine R_swIn (tgt := 535) X d_law_32 13 (by rw [c13]; rfl) (by decide) (by decide) rfl rfl ?_
        exact law_c13 X hX hbl hbA h1 h2 h3 hR kk
      by_cases c14 : key = 14
      · refine R_swIn (tgt := 548) X d_law_32 14 (by rw [c14]; rfl) (by decide) (by decide) rfl rfl ?_
        exact law_c14 X hX hbl hbA h1 h2 h3 hR kk
      by_cases c15 : key = 15
      · refine R_swIn (tgt := 571) X d_law_32 15 (by rw [c15]; rfl) (by decide) (by decide) rfl rfl ?_
        exact law_c15 X hX hbl hbA h1 h2 h3 hR kk
      by_cases c16 : key = 16
      · refine R_swIn (tgt := 614) X d_law_32 16 (by rw [c16]; rfl) (by decide) (by decide) rfl rfl ?_
        exact law_c16 X hX hbl hbA h1 h2 h3 hR kk
      by_cases c17 : key = 17
      · refine R_swIn (tgt := 637) X d_law_32 17 (by rw [c17]; rfl) (by decide) (by decide) rfl rfl ?_
        exact law_c17 X hX hbl hbA h1 h2 h3 hR kk
      by_cases c18 : key = 18
      · refine R_swIn (tgt := 670) X d_law_32 18 (by rw [c18]; rfl) (by decide) (by decide) rfl rfl ?_
        exact law_c18 X hX hbl hbA h1 h2 h3 hR kk
      by_cases c19 : key = 19
      · refine R_swIn (tgt := 713) X d_law_32 19 (by rw [c19]; rfl) (by decide) (by decide) rfl rfl ?_
        exact law_c19 X hX hbl hbA h1 h2 h3 hR kk
      by_cases c20 : key = 20
      · refine R_swIn (tgt := 746) X d_law_32 20 (by rw [c20]; rfl) (by decide) (by decide) rfl rfl ?_
        exact law_c20 X hX hbl hbA h1 h2 h3 hR kk
      by_cases c21 : key = 21
      · refine R_swIn (tgt := 789) X d_law_32 21 (by rw [c21]; rfl) (by decide) (by decide) rfl rfl ?_
        exact law_c21 X hX hbl hbA h1 h2 h3 hR kk
      by_cases c22 : key = 22
      · refine R_swIn (tgt := 812) X d_law_32 22 (by rw [c22]; rfl) (by decide) (by decide) rfl rfl ?_
        exact law_c22 X hX hbl hbA h1 h2 h3 hR kk
      by_cases c23 : key = 23
      · refine R_swIn (tgt := 845) X d_law_32 23 (by rw [c23]; rfl) (by decide) (by decide) rfl rfl ?_
        exact law_c23 X hX hbl hbA h1 h2 h3 hR kk
      by_cases c24 : key = 24
      · refine R_swIn (tgt := 894) X d_law_32 24 (by rw [c24]; rfl) (by decide) (by decide) rfl rfl ?_
        exact law_c24 X hX hbl hbA h1 h2 h3 hR kk
      by_cases c25 : key = 25
      · refine R_swIn (tgt := 917) X d_law_32 25 (by rw [c25]; rfl) (by decide) (by decide) rfl rfl ?_
        exact law_c25 X hX hbl hbA h1 h2 h3 hR kk
      by_cases c26 : key = 26
      · refine R_swIn (tgt := 930) X d_law_32 26 (by rw [c26]; rfl) (by decide) (by decide) rfl rfl ?_
        exact law_c26 X hX hbl hbA h1 h2 h3 hR kk
      by_cases c27 : key = 27
      · refine R_swIn (tgt := 963) X d_law_32 27 (by rw [c27]; rfl) (by decide) (by decide) rfl rfl ?_
        exact law_c27 X hX hbl hbA h1 h2 h3 hR kk
      by_cases c28 : key = 28
      · refine R_swIn (tgt := 976) X d_law_32 28 (by rw [c28]; rfl) (by decide) (by decide) rfl rfl ?_
        exact law_c28 X hX hbl hbA h1 h2 h3 hR kk
      by_cases c29 : key = 29
      · refine R_swIn (tgt := 989) X d_law_32 29 (by rw [c29]; rfl) (by decide) (by decide) rfl rfl ?_
        exact law_c29 X hX hbl hbA h1 h2 h3 hR kk
      by_cases c30 : key = 30
      · refine R_swIn (tgt := 1012) X d_law_32 30 (by rw [c30]; rfl) (by decide) (by decide) rfl rfl ?_
        exact law_c30 X hX hbl hbA h1 h2 h3 hR kk
      by_cases c31 : key = 31
      · refine R_swIn (tgt := 1035) X d_law_32 31 (by rw [c31]; rfl) (by decide) (by decide) rfl rfl ?_
        exact law_c31 X hX hbl hbA h1 h2 h3 hR kk
      refine R_swOut (tgt := 1058) X d_law_32 (sw_def 32 (by decide) (fun k hk => by
        match k, hk with
        | 0, _ => exact c0
        | 1, _ => exact c1
        | 2, _ => exact c2
        | 3, _ => exact c3
        | 4, _ => exact c4
        | 5, _ => exact c5
        | 6, _ => exact c6
        | 7, _ => exact c7
        | 8, _ => exact c8
        | 9, _ => exact c9
        | 10, _ => exact c10
        | 11, _ => exact c11
        | 12, _ => exact c12
        | 13, _ => exact c13
        | 14, _ => exact c14
        | 15, _ => exact c15
        | 16, _ => exact c16
        | 17, _ => exact c17
        | 18, _ => exact c18
        | 19, _ => exact c19
        | 20, _ => exact c20
        | 21, _ => exact c21
        | 22, _ => exact c22
        | 23, _ => exact c23
        | 24, _ => exact c24
        | 25, _ => exact c25
        | 26, _ => exact c26
        | 27, _ => exact c27
        | 28, _ => exact c28
        | 29, _ => exact c29
        | 30, _ => exact c30
        | 31, _ => exact c31
        | k + 32, hk => exact absurd hk (by omega))) rfl ?_
      exact kk hp hR
