/-! THE JDK's OWN: String.length, String.indexOf, of the constants -/
theorem jc_J0_length_8abf5 : Cond.code yJ0_length_8abf5 cJ0_length_8abf5 1 (some .int) ∈ lw_tbl := List.mem_of_getElem? (i := 305) (by decide +kernel)
theorem ji_J0_length_8abf5 : Cond.instanceMethod yJ0_length_8abf5 ∈ lw_tbl := List.mem_of_getElem? (i := 303) (by decide +kernel)
theorem js_J0_length_8abf5 : Cond.selects RJ0 yJ0_length_8abf5 yJ0_length_8abf5 ∈ lw_tbl := List.mem_of_getElem? (i := 304) (by decide +kernel)
theorem jc_J0_indexOf_0f7a4 : Cond.code yJ0_indexOf_0f7a4 cJ0_indexOf_0f7a4 2 (some .int) ∈ lw_tbl := List.mem_of_getElem? (i := 501) (by decide +kernel)
theorem ji_J0_indexOf_0f7a4 : Cond.instanceMethod yJ0_indexOf_0f7a4 ∈ lw_tbl := List.mem_of_getElem? (i := 499) (by decide +kernel)
theorem js_J0_indexOf_0f7a4 : Cond.selects RJ0 yJ0_indexOf_0f7a4 yJ0_indexOf_0f7a4 ∈ lw_tbl := List.mem_of_getElem? (i := 500) (by decide +kernel)
theorem jc_J0_indexOf_7cf53 : Cond.code yJ0_indexOf_7cf53 cJ0_indexOf_7cf53 3 (some .int) ∈ lw_tbl := List.mem_of_getElem? (i := 505) (by decide +kernel)
theorem ji_J0_indexOf_7cf53 : Cond.instanceMethod yJ0_indexOf_7cf53 ∈ lw_tbl := List.mem_of_getElem? (i := 503) (by decide +kernel)
theorem js_J0_indexOf_7cf53 : Cond.selects RJ0 yJ0_indexOf_7cf53 yJ0_indexOf_7cf53 ∈ lw_tbl := List.mem_of_getElem? (i := 504) (by decide +kernel)
theorem jc_J0_coder_7d493 : Cond.code yJ0_coder_7d493 cJ0_coder_7d493 1 (some .byte) ∈ lw_tbl := List.mem_of_getElem? (i := 309) (by decide +kernel)
theorem ji_J0_coder_7d493 : Cond.instanceMethod yJ0_coder_7d493 ∈ lw_tbl := List.mem_of_getElem? (i := 307) (by decide +kernel)
theorem js_J0_coder_7d493 : Cond.selects RJ0 yJ0_coder_7d493 yJ0_coder_7d493 ∈ lw_tbl := List.mem_of_getElem? (i := 308) (by decide +kernel)
theorem jc_J0_isLatin1_aae02 : Cond.code yJ0_isLatin1_aae02 cJ0_isLatin1_aae02 1 (some .boolean) ∈ lw_tbl := List.mem_of_getElem? (i := 509) (by decide +kernel)
theorem ji_J0_isLatin1_aae02 : Cond.instanceMethod yJ0_isLatin1_aae02 ∈ lw_tbl := List.mem_of_getElem? (i := 507) (by decide +kernel)
theorem js_J0_isLatin1_aae02 : Cond.selects RJ0 yJ0_isLatin1_aae02 yJ0_isLatin1_aae02 ∈ lw_tbl := List.mem_of_getElem? (i := 508) (by decide +kernel)
theorem jc_J1_canEncode_9a6ad : Cond.code yJ1_canEncode_9a6ad cJ1_canEncode_9a6ad 1 (some .boolean) ∈ lw_tbl := List.mem_of_getElem? (i := 516) (by decide +kernel)
theorem jt_J1_canEncode_9a6ad : Cond.static yJ1_canEncode_9a6ad ∈ lw_tbl := List.mem_of_getElem? (i := 515) (by decide +kernel)
theorem jc_J1_indexOf_4cfef : Cond.code yJ1_indexOf_4cfef cJ1_indexOf_4cfef 4 (some .int) ∈ lw_tbl := List.mem_of_getElem? (i := 513) (by decide +kernel)
theorem jt_J1_indexOf_4cfef : Cond.static yJ1_indexOf_4cfef ∈ lw_tbl := List.mem_of_getElem? (i := 512) (by decide +kernel)
theorem jc_J1_indexOfChar_4cfef : Cond.code yJ1_indexOfChar_4cfef cJ1_indexOfChar_4cfef 6 (some .int) ∈ lw_tbl := List.mem_of_getElem? (i := 525) (by decide +kernel)
theorem jt_J1_indexOfChar_4cfef : Cond.static yJ1_indexOfChar_4cfef ∈ lw_tbl := List.mem_of_getElem? (i := 524) (by decide +kernel)
theorem jl_335 : Cond.methodLink RJ0 335 yJ0_coder_7d493 ∈ lw_tbl := List.mem_of_getElem? (i := 306) (by decide +kernel)
theorem jl_492 : Cond.methodLink RJ0 492 yJ0_isLatin1_aae02 ∈ lw_tbl := List.mem_of_getElem? (i := 506) (by decide +kernel)
theorem jl_505 : Cond.methodLink RJ0 505 yJ0_length_8abf5 ∈ lw_tbl := List.mem_of_getElem? (i := 510) (by decide +kernel)
theorem jl_633 : Cond.methodLink RJ0 633 yJ0_indexOf_7cf53 ∈ lw_tbl := List.mem_of_getElem? (i := 502) (by decide +kernel)
theorem jl_637 : Cond.methodLink RJ0 637 yJ1_indexOf_4cfef ∈ lw_tbl := List.mem_of_getElem? (i := 511) (by decide +kernel)
theorem jl_88 : Cond.methodLink RJ1 88 yJ1_canEncode_9a6ad ∈ lw_tbl := List.mem_of_getElem? (i := 514) (by decide +kernel)
theorem jl_92 : Cond.methodLink RJ1 92 Lib.Math.max.name ∈ lw_tbl := List.mem_of_getElem? (i := 517) (by decide +kernel)
theorem jl_38 : Cond.methodLink RJ1 38 Lib.Math.min.name ∈ lw_tbl := List.mem_of_getElem? (i := 520) (by decide +kernel)
theorem jl_95 : Cond.methodLink RJ1 95 yJ1_indexOfChar_4cfef ∈ lw_tbl := List.mem_of_getElem? (i := 523) (by decide +kernel)
theorem jf_38 : Cond.fieldLink RJ0 38 "java/lang/String" "COMPACT_STRINGS" "Z" ∈ lw_tbl := List.mem_of_getElem? (i := 310) (by decide +kernel)
theorem jf_9 : Cond.fieldLink RJ0 9 "java/lang/String" "value" "[B" ∈ lw_tbl := List.mem_of_getElem? (i := 2105) (by decide +kernel)
theorem jf_15 : Cond.fieldLink RJ0 15 "java/lang/String" "coder" "B" ∈ lw_tbl := List.mem_of_getElem? (i := 2106) (by decide +kernel)
theorem jn_S : Cond.initialized RJ0 ∈ lw_tbl := List.mem_of_getElem? (i := 126) (by decide +kernel)
theorem jn_L : Cond.initialized RJ1 ∈ lw_tbl := List.mem_of_getElem? (i := 130) (by decide +kernel)
theorem jn_M : Cond.initialized "java/lang/Math" ∈ lw_tbl := List.mem_of_getElem? (i := 131) (by decide +kernel)
theorem jc_Mmax : Cond.code Lib.Math.max.name Lib.Math.max.code 2 (some .int) ∈ lw_tbl := List.mem_of_getElem? (i := 519) (by decide +kernel)
theorem jt_Mmax : Cond.static Lib.Math.max.name ∈ lw_tbl := List.mem_of_getElem? (i := 518) (by decide +kernel)
theorem jc_Mmin : Cond.code Lib.Math.min.name Lib.Math.min.code 2 (some .int) ∈ lw_tbl := List.mem_of_getElem? (i := 522) (by decide +kernel)
theorem jt_Mmin : Cond.static Lib.Math.min.name ∈ lw_tbl := List.mem_of_getElem? (i := 521) (by decide +kernel)
theorem dJ0_length_8abf5_0 : decode cJ0_length_8abf5 0 = .ok (.aload_n 0, 1) := by decide +kernel
theorem dJ0_length_8abf5_1 : decode cJ0_length_8abf5 1 = .ok (.getfield 9, 3) := by decide +kernel
theorem dJ0_length_8abf5_4 : decode cJ0_length_8abf5 4 = .ok (.arraylength, 1) := by decide +kernel
theorem dJ0_length_8abf5_5 : decode cJ0_length_8abf5 5 = .ok (.aload_n 0, 1) := by decide +kernel
theorem dJ0_length_8abf5_6 : decode cJ0_length_8abf5 6 = .ok (.invokevirtual 335, 3) := by decide +kernel
theorem dJ0_length_8abf5_9 : decode cJ0_length_8abf5 9 = .ok (.ishr, 1) := by decide +kernel
theorem dJ0_length_8abf5_10 : decode cJ0_length_8abf5 10 = .ok (.ireturn, 1) := by decide +kernel
theorem dJ0_indexOf_0f7a4_0 : decode cJ0_indexOf_0f7a4 0 = .ok (.aload_n 0, 1) := by decide +kernel
theorem dJ0_indexOf_0f7a4_1 : decode cJ0_indexOf_0f7a4 1 = .ok (.iload_n 1, 1) := by decide +kernel
theorem dJ0_indexOf_0f7a4_2 : decode cJ0_indexOf_0f7a4 2 = .ok (.iconst 0, 1) := by decide +kernel
theorem dJ0_indexOf_0f7a4_3 : decode cJ0_indexOf_0f7a4 3 = .ok (.invokevirtual 633, 3) := by decide +kernel
theorem dJ0_indexOf_0f7a4_6 : decode cJ0_indexOf_0f7a4 6 = .ok (.ireturn, 1) := by decide +kernel
theorem dJ0_indexOf_7cf53_0 : decode cJ0_indexOf_7cf53 0 = .ok (.aload_n 0, 1) := by decide +kernel
theorem dJ0_indexOf_7cf53_1 : decode cJ0_indexOf_7cf53 1 = .ok (.invokevirtual 492, 3) := by decide +kernel
theorem dJ0_indexOf_7cf53_4 : decode cJ0_indexOf_7cf53 4 = .ok (.ifCond .eq 19, 3) := by decide +kernel
theorem dJ0_indexOf_7cf53_7 : decode cJ0_indexOf_7cf53 7 = .ok (.aload_n 0, 1) := by decide +kernel
theorem dJ0_indexOf_7cf53_8 : decode cJ0_indexOf_7cf53 8 = .ok (.getfield 9, 3) := by decide +kernel
theorem dJ0_indexOf_7cf53_11 : decode cJ0_indexOf_7cf53 11 = .ok (.iload_n 1, 1) := by decide +kernel
theorem dJ0_indexOf_7cf53_12 : decode cJ0_indexOf_7cf53 12 = .ok (.iload_n 2, 1) := by decide +kernel
theorem dJ0_indexOf_7cf53_13 : decode cJ0_indexOf_7cf53 13 = .ok (.aload_n 0, 1) := by decide +kernel
theorem dJ0_indexOf_7cf53_14 : decode cJ0_indexOf_7cf53 14 = .ok (.invokevirtual 505, 3) := by decide +kernel
theorem dJ0_indexOf_7cf53_17 : decode cJ0_indexOf_7cf53 17 = .ok (.invokestatic 637, 3) := by decide +kernel
theorem dJ0_indexOf_7cf53_20 : decode cJ0_indexOf_7cf53 20 = .ok (.goto 16, 3) := by decide +kernel
theorem dJ0_indexOf_7cf53_23 : decode cJ0_indexOf_7cf53 23 = .ok (.aload_n 0, 1) := by decide +kernel
theorem dJ0_indexOf_7cf53_24 : decode cJ0_indexOf_7cf53 24 = .ok (.getfield 9, 3) := by decide +kernel
theorem dJ0_indexOf_7cf53_27 : decode cJ0_indexOf_7cf53 27 = .ok (.iload_n 1, 1) := by decide +kernel
theorem dJ0_indexOf_7cf53_28 : decode cJ0_indexOf_7cf53 28 = .ok (.iload_n 2, 1) := by decide +kernel
theorem dJ0_indexOf_7cf53_29 : decode cJ0_indexOf_7cf53 29 = .ok (.aload_n 0, 1) := by decide +kernel
theorem dJ0_indexOf_7cf53_30 : decode cJ0_indexOf_7cf53 30 = .ok (.invokevirtual 505, 3) := by decide +kernel
theorem dJ0_indexOf_7cf53_33 : decode cJ0_indexOf_7cf53 33 = .ok (.invokestatic 640, 3) := by decide +kernel
theorem dJ0_indexOf_7cf53_36 : decode cJ0_indexOf_7cf53 36 = .ok (.ireturn, 1) := by decide +kernel
theorem dJ0_coder_7d493_0 : decode cJ0_coder_7d493 0 = .ok (.getstatic 38, 3) := by decide +kernel
theorem dJ0_coder_7d493_3 : decode cJ0_coder_7d493 3 = .ok (.ifCond .eq 10, 3) := by decide +kernel
theorem dJ0_coder_7d493_6 : decode cJ0_coder_7d493 6 = .ok (.aload_n 0, 1) := by decide +kernel
theorem dJ0_coder_7d493_7 : decode cJ0_coder_7d493 7 = .ok (.getfield 15, 3) := by decide +kernel
theorem dJ0_coder_7d493_10 : decode cJ0_coder_7d493 10 = .ok (.goto 4, 3) := by decide +kernel
theorem dJ0_coder_7d493_13 : decode cJ0_coder_7d493 13 = .ok (.iconst 1, 1) := by decide +kernel
theorem dJ0_coder_7d493_14 : decode cJ0_coder_7d493 14 = .ok (.ireturn, 1) := by decide +kernel
theorem dJ0_isLatin1_aae02_0 : decode cJ0_isLatin1_aae02 0 = .ok (.getstatic 38, 3) := by decide +kernel
theorem dJ0_isLatin1_aae02_3 : decode cJ0_isLatin1_aae02 3 = .ok (.ifCond .eq 14, 3) := by decide +kernel
theorem dJ0_isLatin1_aae02_6 : decode cJ0_isLatin1_aae02 6 = .ok (.aload_n 0, 1) := by decide +kernel
theorem dJ0_isLatin1_aae02_7 : decode cJ0_isLatin1_aae02 7 = .ok (.getfield 15, 3) := by decide +kernel
theorem dJ0_isLatin1_aae02_10 : decode cJ0_isLatin1_aae02 10 = .ok (.ifCond .ne 7, 3) := by decide +kernel
theorem dJ0_isLatin1_aae02_13 : decode cJ0_isLatin1_aae02 13 = .ok (.iconst 1, 1) := by decide +kernel
theorem dJ0_isLatin1_aae02_14 : decode cJ0_isLatin1_aae02 14 = .ok (.goto 4, 3) := by decide +kernel
theorem dJ0_isLatin1_aae02_17 : decode cJ0_isLatin1_aae02 17 = .ok (.iconst 0, 1) := by decide +kernel
theorem dJ0_isLatin1_aae02_18 : decode cJ0_isLatin1_aae02 18 = .ok (.ireturn, 1) := by decide +kernel
theorem dJ1_canEncode_9a6ad_0 : decode cJ1_canEncode_9a6ad 0 = .ok (.iload_n 0, 1) := by decide +kernel
theorem dJ1_canEncode_9a6ad_1 : decode cJ1_canEncode_9a6ad 1 = .ok (.ifCond .lt 14, 3) := by decide +kernel
theorem dJ1_canEncode_9a6ad_4 : decode cJ1_canEncode_9a6ad 4 = .ok (.iload_n 0, 1) := by decide +kernel
theorem dJ1_canEncode_9a6ad_5 : decode cJ1_canEncode_9a6ad 5 = .ok (.sipush 255, 3) := by decide +kernel
theorem dJ1_canEncode_9a6ad_8 : decode cJ1_canEncode_9a6ad 8 = .ok (.if_icmp .gt 7, 3) := by decide +kernel
theorem dJ1_canEncode_9a6ad_11 : decode cJ1_canEncode_9a6ad 11 = .ok (.iconst 1, 1) := by decide +kernel
theorem dJ1_canEncode_9a6ad_12 : decode cJ1_canEncode_9a6ad 12 = .ok (.goto 4, 3) := by decide +kernel
theorem dJ1_canEncode_9a6ad_15 : decode cJ1_canEncode_9a6ad 15 = .ok (.iconst 0, 1) := by decide +kernel
theorem dJ1_canEncode_9a6ad_16 : decode cJ1_canEncode_9a6ad 16 = .ok (.ireturn, 1) := by decide +kernel
theorem dJ1_indexOf_4cfef_0 : decode cJ1_indexOf_4cfef 0 = .ok (.iload_n 1, 1) := by decide +kernel
theorem dJ1_indexOf_4cfef_1 : decode cJ1_indexOf_4cfef 1 = .ok (.invokestatic 88, 3) := by decide +kernel
theorem dJ1_indexOf_4cfef_4 : decode cJ1_indexOf_4cfef 4 = .ok (.ifCond .ne 5, 3) := by decide +kernel
theorem dJ1_indexOf_4cfef_7 : decode cJ1_indexOf_4cfef 7 = .ok (.iconst (-1), 1) := by decide +kernel
theorem dJ1_indexOf_4cfef_8 : decode cJ1_indexOf_4cfef 8 = .ok (.ireturn, 1) := by decide +kernel
theorem dJ1_indexOf_4cfef_9 : decode cJ1_indexOf_4cfef 9 = .ok (.iload_n 2, 1) := by decide +kernel
theorem dJ1_indexOf_4cfef_10 : decode cJ1_indexOf_4cfef 10 = .ok (.iconst 0, 1) := by decide +kernel
theorem dJ1_indexOf_4cfef_11 : decode cJ1_indexOf_4cfef 11 = .ok (.invokestatic 92, 3) := by decide +kernel
theorem dJ1_indexOf_4cfef_14 : decode cJ1_indexOf_4cfef 14 = .ok (.istore_n 2, 1) := by decide +kernel
theorem dJ1_indexOf_4cfef_15 : decode cJ1_indexOf_4cfef 15 = .ok (.iload_n 3, 1) := by decide +kernel
theorem dJ1_indexOf_4cfef_16 : decode cJ1_indexOf_4cfef 16 = .ok (.aload_n 0, 1) := by decide +kernel
theorem dJ1_indexOf_4cfef_17 : decode cJ1_indexOf_4cfef 17 = .ok (.arraylength, 1) := by decide +kernel
theorem dJ1_indexOf_4cfef_18 : decode cJ1_indexOf_4cfef 18 = .ok (.invokestatic 38, 3) := by decide +kernel
theorem dJ1_indexOf_4cfef_21 : decode cJ1_indexOf_4cfef 21 = .ok (.istore_n 3, 1) := by decide +kernel
theorem dJ1_indexOf_4cfef_22 : decode cJ1_indexOf_4cfef 22 = .ok (.iload_n 2, 1) := by decide +kernel
theorem dJ1_indexOf_4cfef_23 : decode cJ1_indexOf_4cfef 23 = .ok (.iload_n 3, 1) := by decide +kernel
theorem dJ1_indexOf_4cfef_24 : decode cJ1_indexOf_4cfef 24 = .ok (.if_icmp .lt 5, 3) := by decide +kernel
theorem dJ1_indexOf_4cfef_27 : decode cJ1_indexOf_4cfef 27 = .ok (.iconst (-1), 1) := by decide +kernel
theorem dJ1_indexOf_4cfef_28 : decode cJ1_indexOf_4cfef 28 = .ok (.ireturn, 1) := by decide +kernel
theorem dJ1_indexOf_4cfef_29 : decode cJ1_indexOf_4cfef 29 = .ok (.aload_n 0, 1) := by decide +kernel
theorem dJ1_indexOf_4cfef_30 : decode cJ1_indexOf_4cfef 30 = .ok (.iload_n 1, 1) := by decide +kernel
theorem dJ1_indexOf_4cfef_31 : decode cJ1_indexOf_4cfef 31 = .ok (.iload_n 2, 1) := by decide +kernel
theorem dJ1_indexOf_4cfef_32 : decode cJ1_indexOf_4cfef 32 = .ok (.iload_n 3, 1) := by decide +kernel
theorem dJ1_indexOf_4cfef_33 : decode cJ1_indexOf_4cfef 33 = .ok (.invokestatic 95, 3) := by decide +kernel
theorem dJ1_indexOf_4cfef_36 : decode cJ1_indexOf_4cfef 36 = .ok (.ireturn, 1) := by decide +kernel
theorem dJ1_indexOfChar_4cfef_0 : decode cJ1_indexOfChar_4cfef 0 = .ok (.iload_n 1, 1) := by decide +kernel
theorem dJ1_indexOfChar_4cfef_1 : decode cJ1_indexOfChar_4cfef 1 = .ok (.i2b, 1) := by decide +kernel
theorem dJ1_indexOfChar_4cfef_2 : decode cJ1_indexOfChar_4cfef 2 = .ok (.istore 4, 2) := by decide +kernel
theorem dJ1_indexOfChar_4cfef_4 : decode cJ1_indexOfChar_4cfef 4 = .ok (.iload_n 2, 1) := by decide +kernel
theorem dJ1_indexOfChar_4cfef_5 : decode cJ1_indexOfChar_4cfef 5 = .ok (.istore 5, 2) := by decide +kernel
theorem dJ1_indexOfChar_4cfef_7 : decode cJ1_indexOfChar_4cfef 7 = .ok (.iload 5, 2) := by decide +kernel
theorem dJ1_indexOfChar_4cfef_9 : decode cJ1_indexOfChar_4cfef 9 = .ok (.iload_n 3, 1) := by decide +kernel
theorem dJ1_indexOfChar_4cfef_10 : decode cJ1_indexOfChar_4cfef 10 = .ok (.if_icmp .ge 21, 3) := by decide +kernel
theorem dJ1_indexOfChar_4cfef_13 : decode cJ1_indexOfChar_4cfef 13 = .ok (.aload_n 0, 1) := by decide +kernel
theorem dJ1_indexOfChar_4cfef_14 : decode cJ1_indexOfChar_4cfef 14 = .ok (.iload 5, 2) := by decide +kernel
theorem dJ1_indexOfChar_4cfef_16 : decode cJ1_indexOfChar_4cfef 16 = .ok (.baload, 1) := by decide +kernel
theorem dJ1_indexOfChar_4cfef_17 : decode cJ1_indexOfChar_4cfef 17 = .ok (.iload 4, 2) := by decide +kernel
theorem dJ1_indexOfChar_4cfef_19 : decode cJ1_indexOfChar_4cfef 19 = .ok (.if_icmp .ne 6, 3) := by decide +kernel
theorem dJ1_indexOfChar_4cfef_22 : decode cJ1_indexOfChar_4cfef 22 = .ok (.iload 5, 2) := by decide +kernel
theorem dJ1_indexOfChar_4cfef_24 : decode cJ1_indexOfChar_4cfef 24 = .ok (.ireturn, 1) := by decide +kernel
theorem dJ1_indexOfChar_4cfef_25 : decode cJ1_indexOfChar_4cfef 25 = .ok (.iinc 5 1, 3) := by decide +kernel
theorem dJ1_indexOfChar_4cfef_28 : decode cJ1_indexOfChar_4cfef 28 = .ok (.goto (-21), 3) := by decide +kernel
theorem dJ1_indexOfChar_4cfef_31 : decode cJ1_indexOfChar_4cfef 31 = .ok (.iconst (-1), 1) := by decide +kernel
theorem dJ1_indexOfChar_4cfef_32 : decode cJ1_indexOfChar_4cfef 32 = .ok (.ireturn, 1) := by decide +kernel
def jd_ws (y : MethodName) (cc : ByteArray) (n : Nat) (r : Option FieldType) : List Cond := Cond.code y cc n r :: si_gw
theorem jd_good {y : MethodName} {cc : ByteArray} {n : Nat} {r : Option FieldType} (h : Cond.code y cc n r ∈ lw_tbl) : GoodIn si_gw (jd_ws y cc n r) := by
  intro w hw
  rcases List.mem_cons.mp hw with rfl | hw
  · exact ⟨si_gw_in h rfl, good_of_word rfl⟩
  · exact ⟨hw, good_of_word (List.mem_filter.mp hw).2⟩
/-- a constant: its object, its bytes -/
def jd_X (A : Nat → Prop) (a t k : Nat) (U : State) (H : Heap) : Prop := va_Z "java/lang/String" "COMPACT_STRINGS" "Z" (.int 1) A U H ∧ va_O "java/lang/String" a A U H ∧ va_OF "java/lang/String" "coder" "B" (.int 0) a A U H ∧ va_OF "java/lang/String" "value" "[B" (.ref t) a A U H ∧ va_T .byte t (si_text k).length (fun j => .int ((si_text k).getD j 0)) A U H
theorem jd_X.moved {A : Nat → Prop} {a t k : Nat} {u U : State} {H : Heap} (hvm : u.vm.Alike U.vm) (h : jd_X A a t k u H) : jd_X A a t k U H := ⟨h.1.moved hvm, h.2.1.moved hvm, h.2.2.1.moved hvm, h.2.2.2.1.moved hvm, h.2.2.2.2.moved hvm⟩
theorem jd_X.kept {A : Nat → Prop} {a t k : Nat} {U : State} {H H1 : Heap} (h : jd_X A a t k U H) (hq : ∀ a : Nat, a < H.size → ¬ A a → H1[a]? = H[a]?) : jd_X A a t k U H1 := ⟨h.1.kept hq, h.2.1.kept hq, h.2.2.1.kept hq, h.2.2.2.1.kept hq, h.2.2.2.2.kept hq⟩
def jd_P (A : Nat → Prop) (a t k : Nat) (as : List Value) : Array Value → State → Prop := va_Pc as (fun U => jd_X A a t k U U.heap)
def jd_Q (r : Int32) : Array Value → State → Outcome → State → Prop := fun _ st oc t => oc = .returned (some (.int r)) ∧ t.heap = st.heap
def jd_M (l : Launch) (A : Nat → Prop) (a t k : Nat) (y : MethodName) (cc : ByteArray) (n : Nat) (rt : FieldType) (d : Nat) (as : List Value) (r : Int32) : Prop :=
  Met l y (jd_ws y cc n (some rt)) { frames := d, cells := 0, slots := 0, locals := 60 * d } (jd_P A a t k as) (jd_Q r) 0 0 A
theorem jd_blind {A : Nat → Prop} {a t k : Nat} {as : List Value} : FrameBlind (jd_P A a t k as) := fun b U g mk q => ⟨q.1, (show jd_X A a t k (U.calling g mk b) U.heap from jd_X.moved (u := U) (U := U.calling g mk b) (by exact Vm.Alike.refl _) q.2)⟩
section JD
variable {p : Program} {l : Launch} {e : Env} {R : Room} {s : State} {m : MethodId} {args : Array Value} {below : List Frame} {meth : Method} {c : Code} {H : Heap} {locs : List Loc} {cells slots : Nat} {Q : State → Prop}
variable {pc : Nat} {LS : Array Slot} {rest : List Value} {A : Nat → Prop} {a t k : Nat}
theorem jd_pre {as : List Value} (hX : jd_X A a t k s s.heap) (hS : va_S A s.heap H locs) : ∀ U : State, U.heap = H → s.WarmedH U.vm → jd_P A a t k as as.toArray U := fun U hU hW => ⟨rfl, by
  show jd_X A a t k U U.heap
  rw [hU]
  exact (hX.moved hW.alike).kept hS.2.1⟩
theorem jd_callG {r : Int32} {st0 : List Value} {b : Array Value} (hr : va_Run p l e R s m args below meth c H locs cells slots 0 0 (F0 m pc LS st0) rest (jd_Q r b) A) (hS : va_S A s.heap H locs)
    (kk : ∀ locs1 : List Loc, va_S A s.heap H locs1 → W p l e R s m args below meth c H locs1 cells slots Q (F0 m (pc + 3) LS (.int r :: rest))) : W p l e R s m args below meth c H locs cells slots Q (F0 m pc LS st0) := by
  intro T hT X
  obtain ⟨v, st₀, t, T', L, h0, X', hL, e1, e2, ⟨hv, hh⟩, st⟩ := hr T hT X
  cases hv
  have eH : T'.heap = H := by rw [e1, hh, h0]
  obtain ⟨t2, a1, b1⟩ := kk (locs ++ L) ⟨hS.1, hS.2.1, fun q hq => by
    rcases List.mem_append.mp hq with h | h
    · exact hS.2.2 q h
    · exact hL q h⟩ T' eH X'
  exact ⟨t2, st t2 a1, b1⟩
theorem jd_callS {d mL nL idx : Nat} {O : String} {y : MethodName} {cc : ByteArray} {rt : FieldType} {As : List Value} {r : Int32} (hM : jd_M l A a t k y cc mL rt d As r) (hx : p.tables.exec = Jvm.exec) (hml : c.maxLocals = nL) (hls : LS.size = nL) (hown : s.vm.findClass O = some m.cls) (hts : ∀ w ∈ si_gw, w.before args s = true) (hX : jd_X A a t k s s.heap) (hS : va_S A s.heap H locs) (hRf : d + 1 ≤ R.frames) (hRl : 60 * (d + 1) ≤ R.locals) (hc1 : cells ≤ R.cells) (hc2 : slots ≤ R.slots)
    (hcw : Cond.code y cc mL (some rt) ∈ lw_tbl) (hini : Cond.initialized y.cls ∈ lw_tbl) (hst : Cond.static y ∈ lw_tbl) (hlink : Cond.methodLink O idx y ∈ lw_tbl) (hno : y.cls ≠ "java/lang/invoke/MethodHandle" ∧ y.cls ≠ "java/lang/invoke/VarHandle") (hpd : (parseMethodDescriptor y.desc).map (fun d => d.parameters.length) = some As.length) (hmL : mL ≤ 41) (hwd : (rest.map fun v => v.category).sum ≤ 8) (hd : decode c.code pc = .ok (.invokestatic idx, 3))
    (kk : ∀ locs1 : List Loc, va_S A s.heap H locs1 → W p l e R s m args below meth c H locs1 cells slots Q (F0 m (pc + 3) LS (.int r :: rest))) : W p l e R s m args below meth c H locs cells slots Q (F0 m pc LS (As.reverse ++ rest)) :=
  jd_callG (va_runS (n := As.length) (As := As) (rest := rest) (index := idx) (own := O) ⟨hx, rfl, hml, hown, hts⟩ hM ⟨callB_of _ hts (jd_good hcw) rfl rfl rfl (hts _ (si_gw_in hini rfl)) (hts _ (si_gw_in hlink rfl)) ⟨hno.1, hno.2, hpd⟩ ⟨hRf, by show 8 + (mL + 11) + 60 * d ≤ R.locals; omega⟩, hts _ (si_gw_in hst rfl)⟩ ⟨jd_blind, jd_pre hX hS⟩ rfl rfl hls rfl (lv_room hwd) hd ⟨hc1, hc2⟩) hS kk
theorem jd_callV {d mL nL idx : Nat} {O : String} {y : MethodName} {cc : ByteArray} {rt : FieldType} {As : List Value} {r : Int32} (hM : jd_M l A a t k y cc mL rt d (.ref a :: As) r) (hx : p.tables.exec = Jvm.exec) (hml : c.maxLocals = nL) (hls : LS.size = nL) (hown : s.vm.findClass O = some m.cls) (hts : ∀ w ∈ si_gw, w.before args s = true) (hX : jd_X A a t k s s.heap) (hS : va_S A s.heap H locs) (hRf : d + 1 ≤ R.frames) (hRl : 60 * (d + 1) ≤ R.locals) (hc1 : cells ≤ R.cells) (hc2 : slots ≤ R.slots)
    (hy : y.cls = "java/lang/String") (hcw : Cond.code y cc mL (some rt) ∈ lw_tbl) (hini : Cond.initialized y.cls ∈ lw_tbl) (hst : Cond.instanceMethod y ∈ lw_tbl) (hsel : Cond.selects "java/lang/String" y y ∈ lw_tbl) (hlink : Cond.methodLink O idx y ∈ lw_tbl) (hpd : (parseMethodDescriptor y.desc).map (fun d => d.parameters.length) = some As.length) (hmL : mL ≤ 41) (hwd : (rest.map fun v => v.category).sum ≤ 8) (hd : decode c.code pc = .ok (.invokevirtual idx, 3))
    (kk : ∀ locs1 : List Loc, va_S A s.heap H locs1 → W p l e R s m args below meth c H locs1 cells slots Q (F0 m (pc + 3) LS (.int r :: rest))) : W p l e R s m args below meth c H locs cells slots Q (F0 m pc LS (As.reverse ++ .ref a :: rest)) := by
  have hr : ∃ cell : Cell, H[a]? = some cell ∧ cell.vm.isStatics = false ∧ s.vm.findClass "java/lang/String" = some cell.cls := by
    obtain ⟨cell, h1, h2, h3, -⟩ := hX.2.1.kept hS.2.1
    exact ⟨cell, h1, h2, h3⟩
  exact jd_callG (va_runV (n := As.length) (C := "java/lang/String") (As := As) (rest := rest) (index := idx) (own := O) ⟨hx, rfl, hml, hown, hts⟩ hM ⟨callB_of _ hts (jd_good hcw) rfl rfl rfl (hts _ (si_gw_in hini rfl)) (hts _ (si_gw_in hlink rfl)) ⟨by rw [hy]; decide, by rw [hy]; decide, hpd⟩ ⟨hRf, by show 8 + (mL + 11) + 60 * d ≤ R.locals; omega⟩, hts _ (si_gw_in hst rfl), hts _ (si_gw_in hsel rfl)⟩ ⟨jd_blind, hr, jd_pre hX hS⟩ rfl rfl hls rfl (lv_room hwd) hd ⟨hc1, hc2⟩) hS kk
theorem jd_ret {cc : ByteArray} {rt : FieldType} {r : Int32} (hx : p.tables.exec = Jvm.exec) (hb : c.code = cc) (hr : meth.sig.returnType = some rt) (hlocks : meth.locks = false) (hn : narrow rt (.int r) = .int r) (hd : decode cc pc = .ok (.ireturn, 1)) (hS : va_S A s.heap s.heap locs) : W p l e R s m args below meth c s.heap locs 0 0 (MQ below (jd_Q r) args s 0 0 A) (F0 m pc LS [.int r]) := W.zret hx hb hr hn (fun t ht _ => ⟨rfl, ht⟩) hS.2.2 hd hlocks
end JD
theorem jd_enter {l : Launch} {A : Nat → Prop} {a t k : Nat} {y : MethodName} {cc : ByteArray} {n : Nat} {rt : FieldType} {d : Nat} {as : List Value} {r : Int32} (hy : plainFor y = true) (hlen : (lg_sl as).length ≤ n)
    (body : ∀ (p : Program) (e : Env) (R : Room) (s : State) (m : MethodId) (args : Array Value) (below : List Frame) (meth : Method) (c : Code), p.tables.exec = Jvm.exec → c.code = cc → meth.sig.returnType = some rt → meth.locks = false → c.maxLocals = n → s.vm.findClass y.cls = some m.cls → (∀ w ∈ si_gw, w.before args s = true) → jd_X A a t k s s.heap → d ≤ R.frames → 60 * d ≤ R.locals → ∀ LS : Array Slot, lv_has LS n (lv_args 0 as) → va_S A s.heap s.heap [] → W p l e R s m args below meth c s.heap [] 0 0 (MQ below (jd_Q r) args s 0 0 A) (F0 m 0 LS [])) : jd_M l A a t k y cc n rt d as r := by
  refine va_MetF (cc := cc) (maxL := n) (ret := some rt) hy rfl ?_
  intro p e s m args below meth c s₁ B hml hv
  obtain ⟨rfl, hX⟩ := hv
  have hts0 := atoms_spec (ws := jd_ws y cc n (some rt)) B.pre
  rw [lg_entry_eq]
  exact body p e _ s m _ below meth c B.exec B.bytes B.returns B.notSynchronized hml (findClass_of_methodNamed B.named) (fun w hw => hts0 w (List.mem_cons_of_mem _ hw)) hX (Nat.le_refl _) (Nat.le_refl _) _ (lv_entry as hlen) va_S.rf
/-! the methods -/
theorem jd_coder (l : Launch) (A : Nat → Prop) (a t k : Nat) : jd_M l A a t k yJ0_coder_7d493 cJ0_coder_7d493 1 .byte 0 [.ref a] 0 := by
  refine jd_enter (by decide) (Nat.le_of_ble_eq_true rfl) ?_
  intro p e R s m args below meth c hx hb hr hlk hml hown hts hX hRf hRl LS hl hS
  have hl : lv_has LS 1 [(0, .ref a)] := hl
  refine va_gets (ref := "java/lang/String") (own := RJ0) hx hb hX.1 hS hown (hts _ (si_gw_in jf_38 rfl)) (fun x h => h) dJ0_coder_7d493_0 ?_
  refine lv_if_eq (tgt := 13) hx hb dJ0_coder_7d493_3 (by decide) (fun h => absurd h (by decide)) (fun _ => ?_)
  refine lv_aload_n hx hb dJ0_coder_7d493_6 rfl (lv_at hl 0 rfl) ?_
  refine vk_getf (ref := "java/lang/String") (own := RJ0) hx hb hX.2.2.1 hS hown (hts _ (si_gw_in jf_15 rfl)) (fun x h => h) dJ0_coder_7d493_7 ?_
  refine lv_goto (tgt := 14) hx hb dJ0_coder_7d493_10 (by decide) ?_
  exact jd_ret hx hb hr hlk (by decide) dJ0_coder_7d493_14 hS
theorem jd_isLatin1 (l : Launch) (A : Nat → Prop) (a t k : Nat) : jd_M l A a t k yJ0_isLatin1_aae02 cJ0_isLatin1_aae02 1 .boolean 0 [.ref a] 1 := by
  refine jd_enter (by decide) (Nat.le_of_ble_eq_true rfl) ?_
  intro p e R s m args below meth c hx hb hr hlk hml hown hts hX hRf hRl LS hl hS
  have hl : lv_has LS 1 [(0, .ref a)] := hl
  refine va_gets (ref := "java/lang/String") (own := RJ0) hx hb hX.1 hS hown (hts _ (si_gw_in jf_38 rfl)) (fun x h => h) dJ0_isLatin1_aae02_0 ?_
  refine lv_if_eq (tgt := 17) hx hb dJ0_isLatin1_aae02_3 (by decide) (fun h => absurd h (by decide)) (fun _ => ?_)
  refine lv_aload_n hx hb dJ0_isLatin1_aae02_6 rfl (lv_at hl 0 rfl) ?_
  refine vk_getf (ref := "java/lang/String") (own := RJ0) hx hb hX.2.2.1 hS hown (hts _ (si_gw_in jf_15 rfl)) (fun x h => h) dJ0_isLatin1_aae02_7 ?_
  refine lv_if_ne (tgt := 17) hx hb dJ0_isLatin1_aae02_10 (by decide) (fun h => absurd rfl h) (fun _ => ?_)
  refine lv_iconst hx hb dJ0_isLatin1_aae02_13 (v := 1) (by decide) ?_
  refine lv_goto (tgt := 18) hx hb dJ0_isLatin1_aae02_14 (by decide) ?_
  exact jd_ret hx hb hr hlk (by decide) dJ0_isLatin1_aae02_18 hS
theorem jd_len {k : Nat} : (si_text k).length = if k = 2 then 4 else 8 := by
  unfold si_text
  split <;> rfl
theorem jd_shr {k : Nat} : Int32.ofNat (si_text k).length >>> ((0 : Int32) &&& 31) = Int32.ofNat (si_text k).length := by
  rw [jd_len]
  split <;> decide
theorem jd_length (l : Launch) (A : Nat → Prop) (a t k : Nat) : jd_M l A a t k yJ0_length_8abf5 cJ0_length_8abf5 1 .int 1 [.ref a] (Int32.ofNat (si_text k).length) := by
  refine jd_enter (by decide) (Nat.le_of_ble_eq_true rfl) ?_
  intro p e R s m args below meth c hx hb hr hlk hml hown hts hX hRf hRl LS hl hS
  have hl : lv_has LS 1 [(0, .ref a)] := hl
  refine lv_aload_n hx hb dJ0_length_8abf5_0 rfl (lv_at hl 0 rfl) ?_
  refine vk_getf (ref := "java/lang/String") (own := RJ0) hx hb hX.2.2.2.1 hS hown (hts _ (si_gw_in jf_9 rfl)) (fun x h => h) dJ0_length_8abf5_1 ?_
  refine va_tlen hx hb hX.2.2.2.2 hS rfl dJ0_length_8abf5_4 ?_
  refine lv_aload_n hx hb dJ0_length_8abf5_5 rfl (lv_at hl 0 rfl) ?_
  refine jd_callV (As := []) (O := RJ0) (jd_coder l A a t k) hx hml hl.1 hown hts hX hS (by omega) (by omega) (Nat.zero_le _) (Nat.zero_le _) rfl jc_J0_coder_7d493 jn_S ji_J0_coder_7d493 js_J0_coder_7d493 jl_335 (by show _ = some 0; decide) (by decide) (Nat.le_of_ble_eq_true rfl) (by rw [hb]; exact dJ0_length_8abf5_6) (fun locs1 hS1 => ?_)
  refine lv_ishr hx hb dJ0_length_8abf5_9 ?_
  rw [jd_shr]
  exact jd_ret hx hb hr hlk rfl dJ0_length_8abf5_10 hS1
theorem jd_canEncode (l : Launch) (A : Nat → Prop) (a t k : Nat) (ch : Int32) : jd_M l A a t k yJ1_canEncode_9a6ad cJ1_canEncode_9a6ad 1 .boolean 0 [.int ch] (if ch < 0 ∨ 255 < ch then 0 else 1) := by
  refine jd_enter (by decide) (Nat.le_of_ble_eq_true rfl) ?_
  intro p e R s m args below meth c hx hb hr hlk hml hown hts hX hRf hRl LS hl hS
  have hl : lv_has LS 1 [(0, .int ch)] := hl
  refine lv_iload_n hx hb dJ1_canEncode_9a6ad_0 rfl (lv_at hl 0 rfl) ?_
  refine lv_if_lt (tgt := 15) hx hb dJ1_canEncode_9a6ad_1 (by decide) (fun h => ?_) (fun h => ?_)
  · refine lv_iconst hx hb dJ1_canEncode_9a6ad_15 (v := 0) (by decide) ?_
    rw [if_pos (Or.inl h)]
    exact jd_ret hx hb hr hlk (by decide) dJ1_canEncode_9a6ad_16 hS
  · refine lv_iload_n hx hb dJ1_canEncode_9a6ad_4 rfl (lv_at hl 0 rfl) ?_
    refine lv_sipush hx hb dJ1_canEncode_9a6ad_5 (v := 255) (by decide) ?_
    refine lv_icmp_gt (tgt := 15) hx hb dJ1_canEncode_9a6ad_8 (by decide) (fun h2 => ?_) (fun h2 => ?_)
    · refine lv_iconst hx hb dJ1_canEncode_9a6ad_15 (v := 0) (by decide) ?_
      rw [if_pos (Or.inr h2)]
      exact jd_ret hx hb hr hlk (by decide) dJ1_canEncode_9a6ad_16 hS
    · refine lv_iconst hx hb dJ1_canEncode_9a6ad_11 (v := 1) (by decide) ?_
      refine lv_goto (tgt := 16) hx hb dJ1_canEncode_9a6ad_12 (by decide) ?_
      rw [if_neg (by rintro (h3 | h3); exact h h3; exact h2 h3)]
      exact jd_ret hx hb hr hlk (by decide) dJ1_canEncode_9a6ad_16 hS
theorem jd_i1 : ∀ i, i < 9 → ((Int32.ofNat i).toNatClampNeg = i ∧ ¬ Int32.ofNat i < 0 ∧ Int32.ofNat i + Int32.ofInt 1 = Int32.ofNat (i + 1)) := by decide
theorem jd_i2 : ∀ n, n < 9 → ∀ i, i < 9 → (Int32.ofNat n ≤ Int32.ofNat i → n ≤ i) ∧ (n ≤ i → Int32.ofNat n ≤ Int32.ofNat i) := by decide
theorem jd_i3 : ∀ n, n < 256 → ∀ x ∈ [(103 : Int32), 108, 115, 120, 99, 97, 118, 107, 110, 111, 116, 119], ((Int32.ofNat n).toInt8.toInt32 = x → x = Int32.ofNat n) ∧ (x = Int32.ofNat n → (Int32.ofNat n).toInt8.toInt32 = x) := by decide +kernel
theorem jd_mem {k : Nat} {x : Int32} (h : x ∈ si_text k) : x ∈ [(103 : Int32), 108, 115, 120, 99, 97, 118, 107, 110, 111, 116, 119] := by
  unfold si_text at h
  split at h <;> simp only [List.mem_cons, List.not_mem_nil, or_false] at h ⊢
  · rcases h with h | h | h | h <;> simp [h]
  · rcases h with h | h | h | h | h | h | h | h <;> simp [h]
theorem jd_ch {ch : Int32} (h : ¬ (ch < 0 ∨ 255 < ch)) : ∃ n, n < 256 ∧ ch = Int32.ofNat n := by
  have h0 : ¬ ch < 0 := fun z => h (Or.inl z)
  have h1 : ¬ 255 < ch := fun z => h (Or.inr z)
  have a0 : (0 : Int) ≤ ch.toInt := by
    have := Int32.le_iff_toInt_le.mp (Int32.not_lt.mp h0)
    simpa using this
  have a1 : ch.toInt ≤ 255 := by
    have := Int32.le_iff_toInt_le.mp (Int32.not_lt.mp h1)
    simpa using this
  refine ⟨ch.toInt.toNat, by omega, Int32.toInt_inj.mp ?_⟩
  rw [Int32.toInt_ofNat_of_lt (by omega)]
  omega
theorem jd_out {ch : Int32} (h : ch < 0 ∨ 255 < ch) : ∀ (x : List Int32), (∀ b ∈ x, b ∈ [(103 : Int32), 108, 115, 120, 99, 97, 118, 107, 110, 111, 116, 119]) → ∀ i : Int32, si_find ch x i = -1 := by
  intro x
  induction x with
  | nil => intro _ i; rfl
  | cons b r ih =>
    intro hb i
    have hn : b ≠ ch := by
      rintro rfl
      have h1 : ∀ z ∈ [(103 : Int32), 108, 115, 120, 99, 97, 118, 107, 110, 111, 116, 119], ¬ (z < 0 ∨ 255 < z) := by decide
      exact h1 b (hb b List.mem_cons_self) h
    unfold si_find
    rw [if_neg hn]
    exact ih (fun z hz => hb z (List.mem_cons_of_mem _ hz)) (i + 1)
theorem jd_le8 {k : Nat} : (si_text k).length ≤ 8 ∧ 4 ≤ (si_text k).length := by
  rw [jd_len]
  split <;> decide
theorem jd_indexOfChar (l : Launch) (A : Nat → Prop) (a t k n : Nat) (hn : n < 256) : jd_M l A a t k yJ1_indexOfChar_4cfef cJ1_indexOfChar_4cfef 6 .int 0 [.ref t, .int (Int32.ofNat n), .int 0, .int (Int32.ofNat (si_text k).length)] (si_find (Int32.ofNat n) (si_text k) 0) := by
  refine jd_enter (by decide) (Nat.le_of_ble_eq_true rfl) ?_
  intro p e R s m args below meth c hx hb hr hlk hml hown hts hX hRf hRl LS hl hS
  have hl : lv_has LS 6 [(0, .ref t), (1, .int (Int32.ofNat n)), (2, .int 0), (3, .int (Int32.ofNat (si_text k).length))] := hl
  obtain ⟨hk8, hk4⟩ := jd_le8 (k := k)
  refine lv_iload_n hx hb dJ1_indexOfChar_4cfef_0 rfl (lv_at hl 1 rfl) ?_
  refine lv_i2b hx hb dJ1_indexOfChar_4cfef_1 rfl ?_
  refine lv_istore hx hb dJ1_indexOfChar_4cfef_2 hl (by decide) rfl (fun LS1 hl1 => ?_)
  have hl1 : lv_has LS1 6 [(4, .int (Int32.ofNat n).toInt8.toInt32), (0, .ref t), (1, .int (Int32.ofNat n)), (2, .int 0), (3, .int (Int32.ofNat (si_text k).length))] := hl1
  refine lv_iload_n hx hb dJ1_indexOfChar_4cfef_4 rfl (lv_at hl1 3 rfl) ?_
  refine lv_istore hx hb dJ1_indexOfChar_4cfef_5 hl1 (by decide) rfl (fun LS2 hl2 => ?_)
  have hl2 : lv_has LS2 6 [(5, .int (Int32.ofNat 0)), (4, .int (Int32.ofNat n).toInt8.toInt32), (0, .ref t), (1, .int (Int32.ofNat n)), (2, .int 0), (3, .int (Int32.ofNat (si_text k).length))] := hl2
  have key : ∀ (x : List Int32) (i : Nat) (LS : Array Slot), i ≤ (si_text k).length → (si_text k).drop i = x → lv_has LS 6 [(5, .int (Int32.ofNat i)), (4, .int (Int32.ofNat n).toInt8.toInt32), (0, .ref t), (1, .int (Int32.ofNat n)), (2, .int 0), (3, .int (Int32.ofNat (si_text k).length))] → W p l e R s m args below meth c s.heap [] 0 0 (MQ below (jd_Q (si_find (Int32.ofNat n) x (Int32.ofNat i))) args s 0 0 A) (F0 m 7 LS []) := by
    intro x
    induction x with
    | nil =>
      intro i LS hi hd hl
      have hi2 : (si_text k).length ≤ i := List.drop_eq_nil_iff.mp hd
      refine lv_iload hx hb dJ1_indexOfChar_4cfef_7 (lv_at hl 0 rfl) ?_
      refine lv_iload_n hx hb dJ1_indexOfChar_4cfef_9 rfl (lv_at hl 5 rfl) ?_
      refine lv_icmp_ge (tgt := 31) hx hb dJ1_indexOfChar_4cfef_10 (by decide) (fun _ => ?_) (fun h => absurd ((jd_i2 _ (by omega) _ (by omega)).2 hi2) h)
      refine lv_iconst hx hb dJ1_indexOfChar_4cfef_31 (v := -1) (by decide) ?_
      exact jd_ret hx hb hr hlk rfl dJ1_indexOfChar_4cfef_32 hS
    | cons b r ih =>
      intro i LS hi hd hl
      have hi2 : i < (si_text k).length := by
        rcases Nat.lt_or_ge i (si_text k).length with h | h
        · exact h
        · rw [List.drop_eq_nil_iff.mpr h] at hd
          cases hd
      have hdc := List.drop_eq_getElem_cons hi2
      rw [hd] at hdc
      obtain ⟨e1, e2⟩ := List.cons.inj hdc
      have hbm : b ∈ si_text k := by rw [e1]; exact List.getElem_mem hi2
      obtain ⟨c1, c2, c3⟩ := jd_i1 i (by omega)
      refine lv_iload hx hb dJ1_indexOfChar_4cfef_7 (lv_at hl 0 rfl) ?_
      refine lv_iload_n hx hb dJ1_indexOfChar_4cfef_9 rfl (lv_at hl 5 rfl) ?_
      refine lv_icmp_ge (tgt := 31) hx hb dJ1_indexOfChar_4cfef_10 (by decide) (fun h => absurd ((jd_i2 _ (by omega) _ (by omega)).1 h) (by omega)) (fun _ => ?_)
      refine lv_aload_n hx hb dJ1_indexOfChar_4cfef_13 rfl (lv_at hl 2 rfl) ?_
      refine lv_iload hx hb dJ1_indexOfChar_4cfef_14 (lv_at hl 0 rfl) ?_
      refine va_tb (v := .int b) hx hb hX.2.2.2.2 hS (by rintro (h | h); exact c2 h; rw [c1] at h; omega) (by
        rw [c1, List.getD_eq_getElem?_getD, List.getElem?_eq_getElem hi2, ← e1]
        rfl) dJ1_indexOfChar_4cfef_16 ?_
      refine lv_iload hx hb dJ1_indexOfChar_4cfef_17 (lv_at hl 1 rfl) ?_
      refine lv_icmp_ne (tgt := 25) hx hb dJ1_indexOfChar_4cfef_19 (by decide) (fun h => ?_) (fun h => ?_)
      · have hne : ¬ b = Int32.ofNat n := fun z => h ((jd_i3 n hn b (jd_mem hbm)).2 z).symm
        refine lv_iinc (k := 0) (v := Int32.ofNat (i + 1)) hx hb dJ1_indexOfChar_4cfef_25 hl rfl c3 (by decide) rfl (fun LS3 hl3 => ?_)
        refine lv_goto (tgt := 7) hx hb dJ1_indexOfChar_4cfef_28 (by decide) ?_
        have := ih (i + 1) LS3 (by omega) e2.symm hl3
        unfold si_find
        rw [if_neg hne]
        have c4 : Int32.ofNat i + 1 = Int32.ofNat (i + 1) := c3
        rw [c4]
        exact this
      · have heq : b = Int32.ofNat n := (jd_i3 n hn b (jd_mem hbm)).1 h.symm
        refine lv_iload hx hb dJ1_indexOfChar_4cfef_22 (lv_at hl 0 rfl) ?_
        unfold si_find
        rw [if_pos heq]
        exact jd_ret hx hb hr hlk rfl dJ1_indexOfChar_4cfef_24 hS
  exact key (si_text k) 0 LS2 (Nat.zero_le _) rfl hl2
theorem jd_min {k : Nat} : (if Int32.ofNat (si_text k).length < Int32.ofNat (si_text k).length then Int32.ofNat (si_text k).length else Int32.ofNat (si_text k).length) = Int32.ofNat (si_text k).length := ite_self _
theorem jd_pos {k : Nat} : (0 : Int32) < Int32.ofNat (si_text k).length := by
  rw [jd_len]
  split <;> decide
theorem jd_indexOf1 (l : Launch) (A : Nat → Prop) (a t k : Nat) (ch : Int32) : jd_M l A a t k yJ1_indexOf_4cfef cJ1_indexOf_4cfef 4 .int 1 [.ref t, .int ch, .int 0, .int (Int32.ofNat (si_text k).length)] (si_find ch (si_text k) 0) := by
  refine jd_enter (by decide) (Nat.le_of_ble_eq_true rfl) ?_
  intro p e R s m args below meth c hx hb hr hlk hml hown hts hX hRf hRl LS hl hS
  have hl : lv_has LS 4 [(0, .ref t), (1, .int ch), (2, .int 0), (3, .int (Int32.ofNat (si_text k).length))] := hl
  refine lv_iload_n hx hb dJ1_indexOf_4cfef_0 rfl (lv_at hl 1 rfl) ?_
  refine jd_callS (As := [.int ch]) (rest := []) (O := RJ1) (jd_canEncode l A a t k ch) hx hml hl.1 hown hts hX hS (by omega) (by omega) (Nat.zero_le _) (Nat.zero_le _) jc_J1_canEncode_9a6ad jn_L jt_J1_canEncode_9a6ad jl_88 ⟨by decide, by decide⟩ (by show _ = some 1; decide) (by decide) (Nat.le_of_ble_eq_true rfl) (by rw [hb]; exact dJ1_indexOf_4cfef_1) (fun locs1 hS1 => ?_)
  by_cases hc : ch < 0 ∨ 255 < ch
  · rw [if_pos hc]
    refine lv_if_ne (tgt := 9) hx hb dJ1_indexOf_4cfef_4 (by decide) (fun h => absurd rfl h) (fun _ => ?_)
    refine lv_iconst hx hb dJ1_indexOf_4cfef_7 (v := -1) (by decide) ?_
    rw [jd_out hc (si_text k) (fun b hb => jd_mem hb)]
    exact jd_ret hx hb hr hlk rfl dJ1_indexOf_4cfef_8 hS1
  · rw [if_neg hc]
    obtain ⟨n, hn, rfl⟩ := jd_ch hc
    refine lv_if_ne (tgt := 9) hx hb dJ1_indexOf_4cfef_4 (by decide) (fun _ => ?_) (fun h => absurd h (by decide))
    refine lv_iload_n hx hb dJ1_indexOf_4cfef_9 rfl (lv_at hl 2 rfl) ?_
    refine lv_iconst hx hb dJ1_indexOf_4cfef_10 (v := 0) (by decide) ?_
    refine va_mmax (own := RJ1) hx hb (hml.trans hl.1.symm) hown (hts _ (si_gw_in jl_92 rfl)) (hts _ (si_gw_in jt_Mmax rfl)) (hts _ (si_gw_in jn_M rfl)) (hts _ (si_gw_in jc_Mmax rfl)) (by omega) (by show 0 + 13 ≤ _; omega) (Nat.zero_le _) (Nat.zero_le _) dJ1_indexOf_4cfef_11 ?_
    refine lv_istore_n hx hb dJ1_indexOf_4cfef_14 rfl hl (by decide) rfl (fun LS1 hl1 => ?_)
    have hl1 : lv_has LS1 4 [(2, .int 0), (0, .ref t), (1, .int (Int32.ofNat n)), (3, .int (Int32.ofNat (si_text k).length))] := hl1
    refine lv_iload_n hx hb dJ1_indexOf_4cfef_15 rfl (lv_at hl1 3 rfl) ?_
    refine lv_aload_n hx hb dJ1_indexOf_4cfef_16 rfl (lv_at hl1 1 rfl) ?_
    refine va_tlen hx hb hX.2.2.2.2 hS1 rfl dJ1_indexOf_4cfef_17 ?_
    refine va_mmin (own := RJ1) hx hb (hml.trans hl1.1.symm) hown (hts _ (si_gw_in jl_38 rfl)) (hts _ (si_gw_in jt_Mmin rfl)) (hts _ (si_gw_in jn_M rfl)) (hts _ (si_gw_in jc_Mmin rfl)) (by omega) (by show 0 + 13 ≤ _; omega) (Nat.zero_le _) (Nat.zero_le _) dJ1_indexOf_4cfef_18 ?_
    rw [jd_min]
    refine lv_istore_n hx hb dJ1_indexOf_4cfef_21 rfl hl1 (by decide) rfl (fun LS2 hl2 => ?_)
    have hl2 : lv_has LS2 4 [(3, .int (Int32.ofNat (si_text k).length)), (2, .int 0), (0, .ref t), (1, .int (Int32.ofNat n))] := hl2
    refine lv_iload_n hx hb dJ1_indexOf_4cfef_22 rfl (lv_at hl2 1 rfl) ?_
    refine lv_iload_n hx hb dJ1_indexOf_4cfef_23 rfl (lv_at hl2 0 rfl) ?_
    refine lv_icmp_lt (tgt := 29) hx hb dJ1_indexOf_4cfef_24 (by decide) (fun _ => ?_) (fun h => absurd jd_pos h)
    refine lv_aload_n hx hb dJ1_indexOf_4cfef_29 rfl (lv_at hl2 2 rfl) ?_
    refine lv_iload_n hx hb dJ1_indexOf_4cfef_30 rfl (lv_at hl2 3 rfl) ?_
    refine lv_iload_n hx hb dJ1_indexOf_4cfef_31 rfl (lv_at hl2 1 rfl) ?_
    refine lv_iload_n hx hb dJ1_indexOf_4cfef_32 rfl (lv_at hl2 0 rfl) ?_
    refine jd_callS (As := [.ref t, .int (Int32.ofNat n), .int 0, .int (Int32.ofNat (si_text k).length)]) (rest := []) (O := RJ1) (jd_indexOfChar l A a t k n hn) hx hml hl2.1 hown hts hX hS1 (by omega) (by omega) (Nat.zero_le _) (Nat.zero_le _) jc_J1_indexOfChar_4cfef jn_L jt_J1_indexOfChar_4cfef jl_95 ⟨by decide, by decide⟩ (by show _ = some 4; decide) (by decide) (Nat.le_of_ble_eq_true rfl) (by rw [hb]; exact dJ1_indexOf_4cfef_33) (fun locs2 hS2 => ?_)
    exact jd_ret hx hb hr hlk rfl dJ1_indexOf_4cfef_36 hS2
theorem jd_indexOf2 (l : Launch) (A : Nat → Prop) (a t k : Nat) (ch : Int32) : jd_M l A a t k yJ0_indexOf_7cf53 cJ0_indexOf_7cf53 3 .int 2 [.ref a, .int ch, .int 0] (si_find ch (si_text k) 0) := by
  refine jd_enter (by decide) (Nat.le_of_ble_eq_true rfl) ?_
  intro p e R s m args below meth c hx hb hr hlk hml hown hts hX hRf hRl LS hl hS
  have hl : lv_has LS 3 [(0, .ref a), (1, .int ch), (2, .int 0)] := hl
  refine lv_aload_n hx hb dJ0_indexOf_7cf53_0 rfl (lv_at hl 0 rfl) ?_
  refine jd_callV (As := []) (rest := []) (O := RJ0) (jd_isLatin1 l A a t k) hx hml hl.1 hown hts hX hS (by omega) (by omega) (Nat.zero_le _) (Nat.zero_le _) rfl jc_J0_isLatin1_aae02 jn_S ji_J0_isLatin1_aae02 js_J0_isLatin1_aae02 jl_492 (by show _ = some 0; decide) (by decide) (Nat.le_of_ble_eq_true rfl) (by rw [hb]; exact dJ0_indexOf_7cf53_1) (fun locs1 hS1 => ?_)
  refine lv_if_eq (tgt := 23) hx hb dJ0_indexOf_7cf53_4 (by decide) (fun h => absurd h (by decide)) (fun _ => ?_)
  refine lv_aload_n hx hb dJ0_indexOf_7cf53_7 rfl (lv_at hl 0 rfl) ?_
  refine vk_getf (ref := "java/lang/String") (own := RJ0) hx hb hX.2.2.2.1 hS1 hown (hts _ (si_gw_in jf_9 rfl)) (fun x h => h) dJ0_indexOf_7cf53_8 ?_
  refine lv_iload_n hx hb dJ0_indexOf_7cf53_11 rfl (lv_at hl 1 rfl) ?_
  refine lv_iload_n hx hb dJ0_indexOf_7cf53_12 rfl (lv_at hl 2 rfl) ?_
  refine lv_aload_n hx hb dJ0_indexOf_7cf53_13 rfl (lv_at hl 0 rfl) ?_
  refine jd_callV (As := []) (rest := [.int 0, .int ch, .ref t]) (O := RJ0) (jd_length l A a t k) hx hml hl.1 hown hts hX hS1 (by omega) (by omega) (Nat.zero_le _) (Nat.zero_le _) rfl jc_J0_length_8abf5 jn_S ji_J0_length_8abf5 js_J0_length_8abf5 jl_505 (by show _ = some 0; decide) (by decide) (Nat.le_of_ble_eq_true rfl) (by rw [hb]; exact dJ0_indexOf_7cf53_14) (fun locs2 hS2 => ?_)
  refine jd_callS (As := [.ref t, .int ch, .int 0, .int (Int32.ofNat (si_text k).length)]) (rest := []) (O := RJ0) (jd_indexOf1 l A a t k ch) hx hml hl.1 hown hts hX hS2 (by omega) (by omega) (Nat.zero_le _) (Nat.zero_le _) jc_J1_indexOf_4cfef jn_L jt_J1_indexOf_4cfef jl_637 ⟨by decide, by decide⟩ (by show _ = some 4; decide) (by decide) (Nat.le_of_ble_eq_true rfl) (by rw [hb]; exact dJ0_indexOf_7cf53_17) (fun locs3 hS3 => ?_)
  refine lv_goto (tgt := 36) hx hb dJ0_indexOf_7cf53_20 (by decide) ?_
  exact jd_ret hx hb hr hlk rfl dJ0_indexOf_7cf53_36 hS3
theorem jd_indexOf (l : Launch) (A : Nat → Prop) (a t k : Nat) (ch : Int32) : jd_M l A a t k yJ0_indexOf_0f7a4 cJ0_indexOf_0f7a4 2 .int 3 [.ref a, .int ch] (si_find ch (si_text k) 0) := by
  refine jd_enter (by decide) (Nat.le_of_ble_eq_true rfl) ?_
  intro p e R s m args below meth c hx hb hr hlk hml hown hts hX hRf hRl LS hl hS
  have hl : lv_has LS 2 [(0, .ref a), (1, .int ch)] := hl
  refine lv_aload_n hx hb dJ0_indexOf_0f7a4_0 rfl (lv_at hl 0 rfl) ?_
  refine lv_iload_n hx hb dJ0_indexOf_0f7a4_1 rfl (lv_at hl 1 rfl) ?_
  refine lv_iconst hx hb dJ0_indexOf_0f7a4_2 (v := 0) (by decide) ?_
  refine jd_callV (As := [.int ch, .int 0]) (rest := []) (O := RJ0) (jd_indexOf2 l A a t k ch) hx hml hl.1 hown hts hX hS (by omega) (by omega) (Nat.zero_le _) (Nat.zero_le _) rfl jc_J0_indexOf_7cf53 jn_S ji_J0_indexOf_7cf53 js_J0_indexOf_7cf53 jl_633 (by show _ = some 2; decide) (by decide) (Nat.le_of_ble_eq_true rfl) (by rw [hb]; exact dJ0_indexOf_0f7a4_3) (fun locs1 hS1 => ?_)
  exact jd_ret hx hb hr hlk rfl dJ0_indexOf_0f7a4_6 hS1
theorem jd_of {P : si_P} {s : State} (hX : si_X P s) {k : Nat} (hk : k = 1 ∨ k = 2) : ∃ t : Nat, jd_X (si_A P) (P.2.2.2.2 k) t k s s.heap := by
  obtain ⟨h1, h2, h3, h4, h5, ⟨adV, h6⟩, h7⟩ := hX
  rcases hk with rfl | rfl
  · obtain ⟨a1, a2, a3, a4⟩ := h6.1 0 (by decide)
    exact ⟨adV 0, h7, a1, a2, a3, a4⟩
  · obtain ⟨a1, a2, a3, a4⟩ := h6.1 1 (by decide)
    exact ⟨adV 1, h7, a1, a2, a3, a4⟩
theorem si_J_ok (l : Launch) (D : va_G) (ca : FieldType → ClassId) (P : si_P) : si_J l D ca P := by
  intro p e R s m args below meth c O H locs cells slots Q pc LS rest idx hx hml hown hts hX hS hRf hRl hc1 hc2 hwd hd
  refine ⟨fun ch k hlk hk kk => ?_, fun hlk kk => ?_⟩
  · obtain ⟨t, hT⟩ := jd_of hX hk
    exact jd_callV (As := [.int ch]) (rest := rest) (O := O) (jd_indexOf l (si_A P) (P.2.2.2.2 k) t k ch) hx hml rfl hown hts hT hS (by omega) (by omega) hc1 hc2 rfl jc_J0_indexOf_0f7a4 jn_S ji_J0_indexOf_0f7a4 js_J0_indexOf_0f7a4 hlk (by show _ = some 1; decide) (by decide) hwd hd kk
  · obtain ⟨t, hT⟩ := jd_of hX (k := 1) (Or.inl rfl)
    have h3 : P.2.2.2.2 3 = P.2.2.2.2 1 := hX.2.2.2.2.1
    rw [h3]
    exact jd_callV (As := []) (rest := rest) (O := O) (jd_length l (si_A P) (P.2.2.2.2 1) t 1) hx hml rfl hown hts hT hS (by omega) (by omega) hc1 hc2 rfl jc_J0_length_8abf5 jn_S ji_J0_length_8abf5 js_J0_length_8abf5 hlk (by show _ = some 0; decide) (by decide) hwd hd kk
