theorem km_J7_150 : Cond.methodLink RJ7 150 arraycopyName ∈ TBL := tb (in4 (List.mem_of_getElem? (i := 91) (by decide +kernel))) (by decide +kernel)
theorem kd_J5_39 : Cond.constant RJ5 39 (2147483647 : Int32) ∈ TBL := tb (in4 (List.mem_of_getElem? (i := 77) (by decide +kernel))) (by decide +kernel)
theorem km_J5_138 : Cond.methodLink RJ5 138 Lib.Math.min.name ∈ TBL := tb (in4 (List.mem_of_getElem? (i := 197) (by decide +kernel))) (by decide +kernel)
theorem km_J7_304 : Cond.methodLink RJ7 304 Lib.Math.min.name ∈ TBL := tb (in4 (List.mem_of_getElem? (i := 88) (by decide +kernel))) (by decide +kernel)
theorem dJ5_isLatin1_aae02_0 : decode cJ5_isLatin1_aae02 0 = .ok (.getstatic 18, 3) := by decide +kernel
theorem dJ5_isLatin1_aae02_3 : decode cJ5_isLatin1_aae02 3 = .ok (.ifCond .eq 14, 3) := by decide +kernel
theorem dJ5_isLatin1_aae02_6 : decode cJ5_isLatin1_aae02 6 = .ok (.aload_n 0, 1) := by decide +kernel
theorem dJ5_isLatin1_aae02_7 : decode cJ5_isLatin1_aae02 7 = .ok (.getfield 22, 3) := by decide +kernel
theorem dJ5_isLatin1_aae02_10 : decode cJ5_isLatin1_aae02 10 = .ok (.ifCond .ne 7, 3) := by decide +kernel
theorem dJ5_isLatin1_aae02_13 : decode cJ5_isLatin1_aae02 13 = .ok (.iconst 1, 1) := by decide +kernel
theorem dJ5_isLatin1_aae02_14 : decode cJ5_isLatin1_aae02 14 = .ok (.goto 4, 3) := by decide +kernel
theorem dJ5_isLatin1_aae02_17 : decode cJ5_isLatin1_aae02 17 = .ok (.iconst 0, 1) := by decide +kernel
theorem dJ5_isLatin1_aae02_18 : decode cJ5_isLatin1_aae02 18 = .ok (.ireturn, 1) := by decide +kernel
theorem dJ5_newCapacity_0f7a4_0 : decode cJ5_newCapacity_0f7a4 0 = .ok (.aload_n 0, 1) := by decide +kernel
theorem dJ5_newCapacity_0f7a4_1 : decode cJ5_newCapacity_0f7a4 1 = .ok (.getfield 15, 3) := by decide +kernel
theorem dJ5_newCapacity_0f7a4_4 : decode cJ5_newCapacity_0f7a4 4 = .ok (.arraylength, 1) := by decide +kernel
theorem dJ5_newCapacity_0f7a4_5 : decode cJ5_newCapacity_0f7a4 5 = .ok (.istore_n 2, 1) := by decide +kernel
theorem dJ5_newCapacity_0f7a4_6 : decode cJ5_newCapacity_0f7a4 6 = .ok (.iload_n 1, 1) := by decide +kernel
theorem dJ5_newCapacity_0f7a4_7 : decode cJ5_newCapacity_0f7a4 7 = .ok (.aload_n 0, 1) := by decide +kernel
theorem dJ5_newCapacity_0f7a4_8 : decode cJ5_newCapacity_0f7a4 8 = .ok (.getfield 22, 3) := by decide +kernel
theorem dJ5_newCapacity_0f7a4_11 : decode cJ5_newCapacity_0f7a4 11 = .ok (.ishl, 1) := by decide +kernel
theorem dJ5_newCapacity_0f7a4_12 : decode cJ5_newCapacity_0f7a4 12 = .ok (.istore_n 3, 1) := by decide +kernel
theorem dJ5_newCapacity_0f7a4_13 : decode cJ5_newCapacity_0f7a4 13 = .ok (.iload_n 3, 1) := by decide +kernel
theorem dJ5_newCapacity_0f7a4_14 : decode cJ5_newCapacity_0f7a4 14 = .ok (.iload_n 2, 1) := by decide +kernel
theorem dJ5_newCapacity_0f7a4_15 : decode cJ5_newCapacity_0f7a4 15 = .ok (.isub, 1) := by decide +kernel
theorem dJ5_newCapacity_0f7a4_16 : decode cJ5_newCapacity_0f7a4 16 = .ok (.istore 4, 2) := by decide +kernel
theorem dJ5_newCapacity_0f7a4_18 : decode cJ5_newCapacity_0f7a4 18 = .ok (.iload_n 2, 1) := by decide +kernel
theorem dJ5_newCapacity_0f7a4_19 : decode cJ5_newCapacity_0f7a4 19 = .ok (.iload 4, 2) := by decide +kernel
theorem dJ5_newCapacity_0f7a4_21 : decode cJ5_newCapacity_0f7a4 21 = .ok (.iload_n 2, 1) := by decide +kernel
theorem dJ5_newCapacity_0f7a4_22 : decode cJ5_newCapacity_0f7a4 22 = .ok (.iconst 2, 1) := by decide +kernel
theorem dJ5_newCapacity_0f7a4_23 : decode cJ5_newCapacity_0f7a4 23 = .ok (.aload_n 0, 1) := by decide +kernel
theorem dJ5_newCapacity_0f7a4_24 : decode cJ5_newCapacity_0f7a4 24 = .ok (.getfield 22, 3) := by decide +kernel
theorem dJ5_newCapacity_0f7a4_27 : decode cJ5_newCapacity_0f7a4 27 = .ok (.ishl, 1) := by decide +kernel
theorem dJ5_newCapacity_0f7a4_28 : decode cJ5_newCapacity_0f7a4 28 = .ok (.iadd, 1) := by decide +kernel
theorem dJ5_newCapacity_0f7a4_29 : decode cJ5_newCapacity_0f7a4 29 = .ok (.invokestatic 114, 3) := by decide +kernel
theorem dJ5_newCapacity_0f7a4_32 : decode cJ5_newCapacity_0f7a4 32 = .ok (.istore 5, 2) := by decide +kernel
theorem dJ5_newCapacity_0f7a4_34 : decode cJ5_newCapacity_0f7a4 34 = .ok (.iload 5, 2) := by decide +kernel
theorem dJ5_newCapacity_0f7a4_36 : decode cJ5_newCapacity_0f7a4 36 = .ok (.ldc 39, 2) := by decide +kernel
theorem dJ5_newCapacity_0f7a4_38 : decode cJ5_newCapacity_0f7a4 38 = .ok (.if_icmp .ne 13, 3) := by decide +kernel
theorem dJ5_newCapacity_0f7a4_41 : decode cJ5_newCapacity_0f7a4 41 = .ok (.new 120, 3) := by decide +kernel
theorem dJ5_newCapacity_0f7a4_44 : decode cJ5_newCapacity_0f7a4 44 = .ok (.dup, 1) := by decide +kernel
theorem dJ5_newCapacity_0f7a4_45 : decode cJ5_newCapacity_0f7a4 45 = .ok (.ldc 122, 2) := by decide +kernel
theorem dJ5_newCapacity_0f7a4_47 : decode cJ5_newCapacity_0f7a4 47 = .ok (.invokespecial 124, 3) := by decide +kernel
theorem dJ5_newCapacity_0f7a4_50 : decode cJ5_newCapacity_0f7a4 50 = .ok (.athrow, 1) := by decide +kernel
theorem dJ5_newCapacity_0f7a4_51 : decode cJ5_newCapacity_0f7a4 51 = .ok (.iload 5, 2) := by decide +kernel
theorem dJ5_newCapacity_0f7a4_53 : decode cJ5_newCapacity_0f7a4 53 = .ok (.aload_n 0, 1) := by decide +kernel
theorem dJ5_newCapacity_0f7a4_54 : decode cJ5_newCapacity_0f7a4 54 = .ok (.getfield 22, 3) := by decide +kernel
theorem dJ5_newCapacity_0f7a4_57 : decode cJ5_newCapacity_0f7a4 57 = .ok (.ishr, 1) := by decide +kernel
theorem dJ5_newCapacity_0f7a4_58 : decode cJ5_newCapacity_0f7a4 58 = .ok (.ireturn, 1) := by decide +kernel
theorem dJ7_copyOf_9075b_0 : decode cJ7_copyOf_9075b 0 = .ok (.iload_n 1, 1) := by decide +kernel
theorem dJ7_copyOf_9075b_1 : decode cJ7_copyOf_9075b 1 = .ok (.aload_n 0, 1) := by decide +kernel
theorem dJ7_copyOf_9075b_2 : decode cJ7_copyOf_9075b 2 = .ok (.arraylength, 1) := by decide +kernel
theorem dJ7_copyOf_9075b_3 : decode cJ7_copyOf_9075b 3 = .ok (.if_icmp .ne 11, 3) := by decide +kernel
theorem dJ7_copyOf_9075b_6 : decode cJ7_copyOf_9075b 6 = .ok (.aload_n 0, 1) := by decide +kernel
theorem dJ7_copyOf_9075b_7 : decode cJ7_copyOf_9075b 7 = .ok (.invokevirtual 310, 3) := by decide +kernel
theorem dJ7_copyOf_9075b_10 : decode cJ7_copyOf_9075b 10 = .ok (.checkcast 311, 3) := by decide +kernel
theorem dJ7_copyOf_9075b_13 : decode cJ7_copyOf_9075b 13 = .ok (.areturn, 1) := by decide +kernel
theorem dJ7_copyOf_9075b_14 : decode cJ7_copyOf_9075b 14 = .ok (.iload_n 1, 1) := by decide +kernel
theorem dJ7_copyOf_9075b_15 : decode cJ7_copyOf_9075b 15 = .ok (.newarray .byte, 2) := by decide +kernel
theorem dJ7_copyOf_9075b_17 : decode cJ7_copyOf_9075b 17 = .ok (.astore_n 2, 1) := by decide +kernel
theorem dJ7_copyOf_9075b_18 : decode cJ7_copyOf_9075b 18 = .ok (.aload_n 0, 1) := by decide +kernel
theorem dJ7_copyOf_9075b_19 : decode cJ7_copyOf_9075b 19 = .ok (.iconst 0, 1) := by decide +kernel
theorem dJ7_copyOf_9075b_20 : decode cJ7_copyOf_9075b 20 = .ok (.aload_n 2, 1) := by decide +kernel
theorem dJ7_copyOf_9075b_21 : decode cJ7_copyOf_9075b 21 = .ok (.iconst 0, 1) := by decide +kernel
theorem dJ7_copyOf_9075b_22 : decode cJ7_copyOf_9075b 22 = .ok (.aload_n 0, 1) := by decide +kernel
theorem dJ7_copyOf_9075b_23 : decode cJ7_copyOf_9075b 23 = .ok (.arraylength, 1) := by decide +kernel
theorem dJ7_copyOf_9075b_24 : decode cJ7_copyOf_9075b 24 = .ok (.iload_n 1, 1) := by decide +kernel
theorem dJ7_copyOf_9075b_25 : decode cJ7_copyOf_9075b 25 = .ok (.invokestatic 304, 3) := by decide +kernel
theorem dJ7_copyOf_9075b_28 : decode cJ7_copyOf_9075b 28 = .ok (.invokestatic 150, 3) := by decide +kernel
theorem dJ7_copyOf_9075b_31 : decode cJ7_copyOf_9075b 31 = .ok (.aload_n 2, 1) := by decide +kernel
theorem dJ7_copyOf_9075b_32 : decode cJ7_copyOf_9075b 32 = .ok (.areturn, 1) := by decide +kernel
theorem dJ5_ensureCapacityInternal_d00df_0 : decode cJ5_ensureCapacityInternal_d00df 0 = .ok (.aload_n 0, 1) := by decide +kernel
theorem dJ5_ensureCapacityInternal_d00df_1 : decode cJ5_ensureCapacityInternal_d00df 1 = .ok (.getfield 15, 3) := by decide +kernel
theorem dJ5_ensureCapacityInternal_d00df_4 : decode cJ5_ensureCapacityInternal_d00df 4 = .ok (.arraylength, 1) := by decide +kernel
theorem dJ5_ensureCapacityInternal_d00df_5 : decode cJ5_ensureCapacityInternal_d00df 5 = .ok (.aload_n 0, 1) := by decide +kernel
theorem dJ5_ensureCapacityInternal_d00df_6 : decode cJ5_ensureCapacityInternal_d00df 6 = .ok (.getfield 22, 3) := by decide +kernel
theorem dJ5_ensureCapacityInternal_d00df_9 : decode cJ5_ensureCapacityInternal_d00df 9 = .ok (.ishr, 1) := by decide +kernel
theorem dJ5_ensureCapacityInternal_d00df_10 : decode cJ5_ensureCapacityInternal_d00df 10 = .ok (.istore_n 2, 1) := by decide +kernel
theorem dJ5_ensureCapacityInternal_d00df_11 : decode cJ5_ensureCapacityInternal_d00df 11 = .ok (.iload_n 1, 1) := by decide +kernel
theorem dJ5_ensureCapacityInternal_d00df_12 : decode cJ5_ensureCapacityInternal_d00df 12 = .ok (.iload_n 2, 1) := by decide +kernel
theorem dJ5_ensureCapacityInternal_d00df_13 : decode cJ5_ensureCapacityInternal_d00df 13 = .ok (.isub, 1) := by decide +kernel
theorem dJ5_ensureCapacityInternal_d00df_14 : decode cJ5_ensureCapacityInternal_d00df 14 = .ok (.ifCond .le 24, 3) := by decide +kernel
theorem dJ5_ensureCapacityInternal_d00df_17 : decode cJ5_ensureCapacityInternal_d00df 17 = .ok (.aload_n 0, 1) := by decide +kernel
theorem dJ5_ensureCapacityInternal_d00df_18 : decode cJ5_ensureCapacityInternal_d00df 18 = .ok (.aload_n 0, 1) := by decide +kernel
theorem dJ5_ensureCapacityInternal_d00df_19 : decode cJ5_ensureCapacityInternal_d00df 19 = .ok (.getfield 15, 3) := by decide +kernel
theorem dJ5_ensureCapacityInternal_d00df_22 : decode cJ5_ensureCapacityInternal_d00df 22 = .ok (.aload_n 0, 1) := by decide +kernel
theorem dJ5_ensureCapacityInternal_d00df_23 : decode cJ5_ensureCapacityInternal_d00df 23 = .ok (.iload_n 1, 1) := by decide +kernel
theorem dJ5_ensureCapacityInternal_d00df_24 : decode cJ5_ensureCapacityInternal_d00df 24 = .ok (.invokevirtual 104, 3) := by decide +kernel
theorem dJ5_ensureCapacityInternal_d00df_27 : decode cJ5_ensureCapacityInternal_d00df 27 = .ok (.aload_n 0, 1) := by decide +kernel
theorem dJ5_ensureCapacityInternal_d00df_28 : decode cJ5_ensureCapacityInternal_d00df 28 = .ok (.getfield 22, 3) := by decide +kernel
theorem dJ5_ensureCapacityInternal_d00df_31 : decode cJ5_ensureCapacityInternal_d00df 31 = .ok (.ishl, 1) := by decide +kernel
theorem dJ5_ensureCapacityInternal_d00df_32 : decode cJ5_ensureCapacityInternal_d00df 32 = .ok (.invokestatic 108, 3) := by decide +kernel
theorem dJ5_ensureCapacityInternal_d00df_35 : decode cJ5_ensureCapacityInternal_d00df 35 = .ok (.putfield 15, 3) := by decide +kernel
theorem dJ5_ensureCapacityInternal_d00df_38 : decode cJ5_ensureCapacityInternal_d00df 38 = .ok (.return_, 1) := by decide +kernel
theorem dJ5_append_3fe6f_0 : decode cJ5_append_3fe6f 0 = .ok (.aload_n 0, 1) := by decide +kernel
theorem dJ5_append_3fe6f_1 : decode cJ5_append_3fe6f 1 = .ok (.aload_n 0, 1) := by decide +kernel
theorem dJ5_append_3fe6f_2 : decode cJ5_append_3fe6f 2 = .ok (.getfield 79, 3) := by decide +kernel
theorem dJ5_append_3fe6f_5 : decode cJ5_append_3fe6f 5 = .ok (.iconst 1, 1) := by decide +kernel
theorem dJ5_append_3fe6f_6 : decode cJ5_append_3fe6f 6 = .ok (.iadd, 1) := by decide +kernel
theorem dJ5_append_3fe6f_7 : decode cJ5_append_3fe6f 7 = .ok (.invokevirtual 100, 3) := by decide +kernel
theorem dJ5_append_3fe6f_10 : decode cJ5_append_3fe6f 10 = .ok (.aload_n 0, 1) := by decide +kernel
theorem dJ5_append_3fe6f_11 : decode cJ5_append_3fe6f 11 = .ok (.invokevirtual 83, 3) := by decide +kernel
theorem dJ5_append_3fe6f_14 : decode cJ5_append_3fe6f 14 = .ok (.ifCond .eq 31, 3) := by decide +kernel
theorem dJ5_append_3fe6f_17 : decode cJ5_append_3fe6f 17 = .ok (.iload_n 1, 1) := by decide +kernel
theorem dJ5_append_3fe6f_18 : decode cJ5_append_3fe6f 18 = .ok (.invokestatic 191, 3) := by decide +kernel
theorem dJ5_append_3fe6f_21 : decode cJ5_append_3fe6f 21 = .ok (.ifCond .eq 24, 3) := by decide +kernel
theorem dJ5_append_3fe6f_24 : decode cJ5_append_3fe6f 24 = .ok (.aload_n 0, 1) := by decide +kernel
theorem dJ5_append_3fe6f_25 : decode cJ5_append_3fe6f 25 = .ok (.getfield 15, 3) := by decide +kernel
theorem dJ5_append_3fe6f_28 : decode cJ5_append_3fe6f 28 = .ok (.aload_n 0, 1) := by decide +kernel
theorem dJ5_append_3fe6f_29 : decode cJ5_append_3fe6f 29 = .ok (.dup, 1) := by decide +kernel
theorem dJ5_append_3fe6f_30 : decode cJ5_append_3fe6f 30 = .ok (.getfield 79, 3) := by decide +kernel
theorem dJ5_append_3fe6f_33 : decode cJ5_append_3fe6f 33 = .ok (.dup_x1, 1) := by decide +kernel
theorem dJ5_append_3fe6f_34 : decode cJ5_append_3fe6f 34 = .ok (.iconst 1, 1) := by decide +kernel
theorem dJ5_append_3fe6f_35 : decode cJ5_append_3fe6f 35 = .ok (.iadd, 1) := by decide +kernel
theorem dJ5_append_3fe6f_36 : decode cJ5_append_3fe6f 36 = .ok (.putfield 79, 3) := by decide +kernel
theorem dJ5_append_3fe6f_39 : decode cJ5_append_3fe6f 39 = .ok (.iload_n 1, 1) := by decide +kernel
theorem dJ5_append_3fe6f_40 : decode cJ5_append_3fe6f 40 = .ok (.i2b, 1) := by decide +kernel
theorem dJ5_append_3fe6f_41 : decode cJ5_append_3fe6f 41 = .ok (.bastore, 1) := by decide +kernel
theorem dJ5_append_3fe6f_42 : decode cJ5_append_3fe6f 42 = .ok (.goto 33, 3) := by decide +kernel
theorem dJ5_append_3fe6f_45 : decode cJ5_append_3fe6f 45 = .ok (.aload_n 0, 1) := by decide +kernel
theorem dJ5_append_3fe6f_46 : decode cJ5_append_3fe6f 46 = .ok (.invokevirtual 83, 3) := by decide +kernel
theorem dJ5_append_3fe6f_49 : decode cJ5_append_3fe6f 49 = .ok (.ifCond .eq 7, 3) := by decide +kernel
theorem dJ5_append_3fe6f_52 : decode cJ5_append_3fe6f 52 = .ok (.aload_n 0, 1) := by decide +kernel
theorem dJ5_append_3fe6f_53 : decode cJ5_append_3fe6f 53 = .ok (.invokevirtual 195, 3) := by decide +kernel
theorem dJ5_append_3fe6f_56 : decode cJ5_append_3fe6f 56 = .ok (.aload_n 0, 1) := by decide +kernel
theorem dJ5_append_3fe6f_57 : decode cJ5_append_3fe6f 57 = .ok (.getfield 15, 3) := by decide +kernel
theorem dJ5_append_3fe6f_60 : decode cJ5_append_3fe6f 60 = .ok (.aload_n 0, 1) := by decide +kernel
theorem dJ5_append_3fe6f_61 : decode cJ5_append_3fe6f 61 = .ok (.dup, 1) := by decide +kernel
theorem dJ5_append_3fe6f_62 : decode cJ5_append_3fe6f 62 = .ok (.getfield 79, 3) := by decide +kernel
theorem dJ5_append_3fe6f_65 : decode cJ5_append_3fe6f 65 = .ok (.dup_x1, 1) := by decide +kernel
theorem dJ5_append_3fe6f_66 : decode cJ5_append_3fe6f 66 = .ok (.iconst 1, 1) := by decide +kernel
theorem dJ5_append_3fe6f_67 : decode cJ5_append_3fe6f 67 = .ok (.iadd, 1) := by decide +kernel
theorem dJ5_append_3fe6f_68 : decode cJ5_append_3fe6f 68 = .ok (.putfield 79, 3) := by decide +kernel
theorem dJ5_append_3fe6f_71 : decode cJ5_append_3fe6f 71 = .ok (.iload_n 1, 1) := by decide +kernel
theorem dJ5_append_3fe6f_72 : decode cJ5_append_3fe6f 72 = .ok (.invokestatic 197, 3) := by decide +kernel
theorem dJ5_append_3fe6f_75 : decode cJ5_append_3fe6f 75 = .ok (.aload_n 0, 1) := by decide +kernel
theorem dJ5_append_3fe6f_76 : decode cJ5_append_3fe6f 76 = .ok (.areturn, 1) := by decide +kernel
theorem dJ5_append_c97b9_0 : decode cJ5_append_c97b9 0 = .ok (.aload_n 0, 1) := by decide +kernel
theorem dJ5_append_c97b9_1 : decode cJ5_append_c97b9 1 = .ok (.getfield 79, 3) := by decide +kernel
theorem dJ5_append_c97b9_4 : decode cJ5_append_c97b9 4 = .ok (.istore_n 2, 1) := by decide +kernel
theorem dJ5_append_c97b9_5 : decode cJ5_append_c97b9 5 = .ok (.iload_n 2, 1) := by decide +kernel
theorem dJ5_append_c97b9_6 : decode cJ5_append_c97b9 6 = .ok (.iload_n 1, 1) := by decide +kernel
theorem dJ5_append_c97b9_7 : decode cJ5_append_c97b9 7 = .ok (.invokestatic 245, 3) := by decide +kernel
theorem dJ5_append_c97b9_10 : decode cJ5_append_c97b9 10 = .ok (.iadd, 1) := by decide +kernel
theorem dJ5_append_c97b9_11 : decode cJ5_append_c97b9 11 = .ok (.istore_n 3, 1) := by decide +kernel
theorem dJ5_append_c97b9_12 : decode cJ5_append_c97b9 12 = .ok (.aload_n 0, 1) := by decide +kernel
theorem dJ5_append_c97b9_13 : decode cJ5_append_c97b9 13 = .ok (.iload_n 3, 1) := by decide +kernel
theorem dJ5_append_c97b9_14 : decode cJ5_append_c97b9 14 = .ok (.invokevirtual 100, 3) := by decide +kernel
theorem dJ5_append_c97b9_17 : decode cJ5_append_c97b9 17 = .ok (.aload_n 0, 1) := by decide +kernel
theorem dJ5_append_c97b9_18 : decode cJ5_append_c97b9 18 = .ok (.invokevirtual 83, 3) := by decide +kernel
theorem dJ5_append_c97b9_21 : decode cJ5_append_c97b9 21 = .ok (.ifCond .eq 16, 3) := by decide +kernel
theorem dJ5_append_c97b9_24 : decode cJ5_append_c97b9 24 = .ok (.iload_n 1, 1) := by decide +kernel
theorem dJ5_append_c97b9_25 : decode cJ5_append_c97b9 25 = .ok (.iload_n 3, 1) := by decide +kernel
theorem dJ5_append_c97b9_26 : decode cJ5_append_c97b9 26 = .ok (.aload_n 0, 1) := by decide +kernel
theorem dJ5_append_c97b9_27 : decode cJ5_append_c97b9 27 = .ok (.getfield 15, 3) := by decide +kernel
theorem dJ5_append_c97b9_30 : decode cJ5_append_c97b9 30 = .ok (.invokestatic 248, 3) := by decide +kernel
theorem dJ5_append_c97b9_33 : decode cJ5_append_c97b9 33 = .ok (.pop, 1) := by decide +kernel
theorem dJ5_append_c97b9_34 : decode cJ5_append_c97b9 34 = .ok (.goto 14, 3) := by decide +kernel
theorem dJ5_append_c97b9_37 : decode cJ5_append_c97b9 37 = .ok (.iload_n 1, 1) := by decide +kernel
theorem dJ5_append_c97b9_38 : decode cJ5_append_c97b9 38 = .ok (.iload_n 2, 1) := by decide +kernel
theorem dJ5_append_c97b9_39 : decode cJ5_append_c97b9 39 = .ok (.iload_n 3, 1) := by decide +kernel
theorem dJ5_append_c97b9_40 : decode cJ5_append_c97b9 40 = .ok (.aload_n 0, 1) := by decide +kernel
theorem dJ5_append_c97b9_41 : decode cJ5_append_c97b9 41 = .ok (.getfield 15, 3) := by decide +kernel
theorem dJ5_append_c97b9_44 : decode cJ5_append_c97b9 44 = .ok (.invokestatic 251, 3) := by decide +kernel
theorem dJ5_append_c97b9_47 : decode cJ5_append_c97b9 47 = .ok (.pop, 1) := by decide +kernel
theorem dJ5_append_c97b9_48 : decode cJ5_append_c97b9 48 = .ok (.aload_n 0, 1) := by decide +kernel
theorem dJ5_append_c97b9_49 : decode cJ5_append_c97b9 49 = .ok (.iload_n 3, 1) := by decide +kernel
theorem dJ5_append_c97b9_50 : decode cJ5_append_c97b9 50 = .ok (.putfield 79, 3) := by decide +kernel
theorem dJ5_append_c97b9_53 : decode cJ5_append_c97b9 53 = .ok (.aload_n 0, 1) := by decide +kernel
theorem dJ5_append_c97b9_54 : decode cJ5_append_c97b9 54 = .ok (.areturn, 1) := by decide +kernel
theorem dJ4_append_cf468_0 : decode cJ4_append_cf468 0 = .ok (.aload_n 0, 1) := by decide +kernel
theorem dJ4_append_cf468_1 : decode cJ4_append_cf468 1 = .ok (.iload_n 1, 1) := by decide +kernel
theorem dJ4_append_cf468_2 : decode cJ4_append_cf468 2 = .ok (.invokespecial 50, 3) := by decide +kernel
theorem dJ4_append_cf468_5 : decode cJ4_append_cf468 5 = .ok (.pop, 1) := by decide +kernel
theorem dJ4_append_cf468_6 : decode cJ4_append_cf468 6 = .ok (.aload_n 0, 1) := by decide +kernel
theorem dJ4_append_cf468_7 : decode cJ4_append_cf468 7 = .ok (.areturn, 1) := by decide +kernel
theorem dJ4_append_bf812_0 : decode cJ4_append_bf812 0 = .ok (.aload_n 0, 1) := by decide +kernel
theorem dJ4_append_bf812_1 : decode cJ4_append_bf812 1 = .ok (.iload_n 1, 1) := by decide +kernel
theorem dJ4_append_bf812_2 : decode cJ4_append_bf812 2 = .ok (.invokespecial 53, 3) := by decide +kernel
theorem dJ4_append_bf812_5 : decode cJ4_append_bf812 5 = .ok (.pop, 1) := by decide +kernel
theorem dJ4_append_bf812_6 : decode cJ4_append_bf812 6 = .ok (.aload_n 0, 1) := by decide +kernel
theorem dJ4_append_bf812_7 : decode cJ4_append_bf812 7 = .ok (.areturn, 1) := by decide +kernel
theorem dJ5_init_d00df_0 : decode cJ5_init_d00df 0 = .ok (.aload_n 0, 1) := by decide +kernel
theorem dJ5_init_d00df_1 : decode cJ5_init_d00df 1 = .ok (.invokespecial 3, 3) := by decide +kernel
theorem dJ5_init_d00df_4 : decode cJ5_init_d00df 4 = .ok (.getstatic 18, 3) := by decide +kernel
theorem dJ5_init_d00df_7 : decode cJ5_init_d00df 7 = .ok (.ifCond .eq 18, 3) := by decide +kernel
theorem dJ5_init_d00df_10 : decode cJ5_init_d00df 10 = .ok (.aload_n 0, 1) := by decide +kernel
theorem dJ5_init_d00df_11 : decode cJ5_init_d00df 11 = .ok (.iload_n 1, 1) := by decide +kernel
theorem dJ5_init_d00df_12 : decode cJ5_init_d00df 12 = .ok (.newarray .byte, 2) := by decide +kernel
theorem dJ5_init_d00df_14 : decode cJ5_init_d00df 14 = .ok (.putfield 15, 3) := by decide +kernel
theorem dJ5_init_d00df_17 : decode cJ5_init_d00df 17 = .ok (.aload_n 0, 1) := by decide +kernel
theorem dJ5_init_d00df_18 : decode cJ5_init_d00df 18 = .ok (.iconst 0, 1) := by decide +kernel
theorem dJ5_init_d00df_19 : decode cJ5_init_d00df 19 = .ok (.putfield 22, 3) := by decide +kernel
theorem dJ5_init_d00df_22 : decode cJ5_init_d00df 22 = .ok (.goto 16, 3) := by decide +kernel
theorem dJ5_init_d00df_25 : decode cJ5_init_d00df 25 = .ok (.aload_n 0, 1) := by decide +kernel
theorem dJ5_init_d00df_26 : decode cJ5_init_d00df 26 = .ok (.iload_n 1, 1) := by decide +kernel
theorem dJ5_init_d00df_27 : decode cJ5_init_d00df 27 = .ok (.invokestatic 26, 3) := by decide +kernel
theorem dJ5_init_d00df_30 : decode cJ5_init_d00df 30 = .ok (.putfield 15, 3) := by decide +kernel
theorem dJ5_init_d00df_33 : decode cJ5_init_d00df 33 = .ok (.aload_n 0, 1) := by decide +kernel
theorem dJ5_init_d00df_34 : decode cJ5_init_d00df 34 = .ok (.iconst 1, 1) := by decide +kernel
theorem dJ5_init_d00df_35 : decode cJ5_init_d00df 35 = .ok (.putfield 22, 3) := by decide +kernel
theorem dJ5_init_d00df_38 : decode cJ5_init_d00df 38 = .ok (.return_, 1) := by decide +kernel
theorem dJ4_init_da8c8_0 : decode cJ4_init_da8c8 0 = .ok (.aload_n 0, 1) := by decide +kernel
theorem dJ4_init_da8c8_1 : decode cJ4_init_da8c8 1 = .ok (.bipush 16, 2) := by decide +kernel
theorem dJ4_init_da8c8_3 : decode cJ4_init_da8c8 3 = .ok (.invokespecial 1, 3) := by decide +kernel
theorem dJ4_init_da8c8_6 : decode cJ4_init_da8c8 6 = .ok (.return_, 1) := by decide +kernel
theorem dJ5_length_8abf5_0 : decode cJ5_length_8abf5 0 = .ok (.aload_n 0, 1) := by decide +kernel
theorem dJ5_length_8abf5_1 : decode cJ5_length_8abf5 1 = .ok (.getfield 79, 3) := by decide +kernel
theorem dJ5_length_8abf5_4 : decode cJ5_length_8abf5 4 = .ok (.ireturn, 1) := by decide +kernel
theorem dJ4_length_8abf5_0 : decode cJ4_length_8abf5 0 = .ok (.aload_n 0, 1) := by decide +kernel
theorem dJ4_length_8abf5_1 : decode cJ4_length_8abf5 1 = .ok (.invokespecial 343, 3) := by decide +kernel
theorem dJ4_length_8abf5_4 : decode cJ4_length_8abf5 4 = .ok (.ireturn, 1) := by decide +kernel
theorem dJ5_charAt_5068e_0 : decode cJ5_charAt_5068e 0 = .ok (.aload_n 0, 1) := by decide +kernel
theorem dJ5_charAt_5068e_1 : decode cJ5_charAt_5068e 1 = .ok (.getfield 22, 3) := by decide +kernel
theorem dJ5_charAt_5068e_4 : decode cJ5_charAt_5068e 4 = .ok (.istore_n 2, 1) := by decide +kernel
theorem dJ5_charAt_5068e_5 : decode cJ5_charAt_5068e 5 = .ok (.aload_n 0, 1) := by decide +kernel
theorem dJ5_charAt_5068e_6 : decode cJ5_charAt_5068e 6 = .ok (.getfield 15, 3) := by decide +kernel
theorem dJ5_charAt_5068e_9 : decode cJ5_charAt_5068e 9 = .ok (.astore_n 3, 1) := by decide +kernel
theorem dJ5_charAt_5068e_10 : decode cJ5_charAt_5068e 10 = .ok (.aload_n 0, 1) := by decide +kernel
theorem dJ5_charAt_5068e_11 : decode cJ5_charAt_5068e 11 = .ok (.getfield 79, 3) := by decide +kernel
theorem dJ5_charAt_5068e_14 : decode cJ5_charAt_5068e 14 = .ok (.aload_n 3, 1) := by decide +kernel
theorem dJ5_charAt_5068e_15 : decode cJ5_charAt_5068e 15 = .ok (.arraylength, 1) := by decide +kernel
theorem dJ5_charAt_5068e_16 : decode cJ5_charAt_5068e 16 = .ok (.iload_n 2, 1) := by decide +kernel
theorem dJ5_charAt_5068e_17 : decode cJ5_charAt_5068e 17 = .ok (.ishr, 1) := by decide +kernel
theorem dJ5_charAt_5068e_18 : decode cJ5_charAt_5068e 18 = .ok (.invokestatic 138, 3) := by decide +kernel
theorem dJ5_charAt_5068e_21 : decode cJ5_charAt_5068e 21 = .ok (.istore 4, 2) := by decide +kernel
theorem dJ5_charAt_5068e_23 : decode cJ5_charAt_5068e 23 = .ok (.iload_n 1, 1) := by decide +kernel
theorem dJ5_charAt_5068e_24 : decode cJ5_charAt_5068e 24 = .ok (.iload 4, 2) := by decide +kernel
theorem dJ5_charAt_5068e_26 : decode cJ5_charAt_5068e 26 = .ok (.invokestatic 144, 3) := by decide +kernel
theorem dJ5_charAt_5068e_29 : decode cJ5_charAt_5068e 29 = .ok (.iload_n 2, 1) := by decide +kernel
theorem dJ5_charAt_5068e_30 : decode cJ5_charAt_5068e 30 = .ok (.ifCond .ne 12, 3) := by decide +kernel
theorem dJ5_charAt_5068e_33 : decode cJ5_charAt_5068e 33 = .ok (.aload_n 3, 1) := by decide +kernel
theorem dJ5_charAt_5068e_34 : decode cJ5_charAt_5068e 34 = .ok (.iload_n 1, 1) := by decide +kernel
theorem dJ5_charAt_5068e_35 : decode cJ5_charAt_5068e 35 = .ok (.baload, 1) := by decide +kernel
theorem dJ5_charAt_5068e_36 : decode cJ5_charAt_5068e 36 = .ok (.sipush 255, 3) := by decide +kernel
theorem dJ5_charAt_5068e_39 : decode cJ5_charAt_5068e 39 = .ok (.iand, 1) := by decide +kernel
theorem dJ5_charAt_5068e_40 : decode cJ5_charAt_5068e 40 = .ok (.i2c, 1) := by decide +kernel
theorem dJ5_charAt_5068e_41 : decode cJ5_charAt_5068e 41 = .ok (.ireturn, 1) := by decide +kernel
theorem dJ5_charAt_5068e_42 : decode cJ5_charAt_5068e 42 = .ok (.aload_n 3, 1) := by decide +kernel
theorem dJ5_charAt_5068e_43 : decode cJ5_charAt_5068e 43 = .ok (.iload_n 1, 1) := by decide +kernel
theorem dJ5_charAt_5068e_44 : decode cJ5_charAt_5068e 44 = .ok (.invokestatic 148, 3) := by decide +kernel
theorem dJ5_charAt_5068e_47 : decode cJ5_charAt_5068e 47 = .ok (.ireturn, 1) := by decide +kernel
theorem dJ4_charAt_5068e_0 : decode cJ4_charAt_5068e 0 = .ok (.aload_n 0, 1) := by decide +kernel
theorem dJ4_charAt_5068e_1 : decode cJ4_charAt_5068e 1 = .ok (.iload_n 1, 1) := by decide +kernel
theorem dJ4_charAt_5068e_2 : decode cJ4_charAt_5068e 2 = .ok (.invokespecial 329, 3) := by decide +kernel
theorem dJ4_charAt_5068e_5 : decode cJ4_charAt_5068e 5 = .ok (.ireturn, 1) := by decide +kernel
abbrev SB_c (g : GK) (h q N : Nat) (t : Nat → Int32) (n : Int32) : va_W := [(h, .inr (0, [.ref q, .int 0, .int 0, .int n])), (q, .inl (g.2.2.2.1, N, .inl t))]
/-- a text's bytes lie at the front of a row of 16 or 34 -/
def SBp (tx : List Int32) (N : Nat) (t : Nat → Int32) : Prop := (N = 16 ∨ N = 34) ∧ tx.length ≤ N ∧ sb_Fit t ∧ ∀ j, j < tx.length → t j = tx.getD j 0
abbrev SBX (tx : List Int32) : Type := { x : Nat × Nat × (Nat → Int32) // SBp tx x.2.1 x.2.2 }
abbrev SBw (g : GK) (h : Nat) (tx : List Int32) (x : SBX tx) : va_W := SB_c g h x.1.1 x.1.2.1 x.1.2.2 (nI tx.length)
def rmL (fr lo mc ms : Nat) : Room := { frames := fr, cells := mc, slots := ms, locals := lo }
set_option maxHeartbeats 4000000 in
set_option maxRecDepth 100000 in
theorem c_sbLat (l : Launch) (g : GK) (h q N : Nat) (t : Nat → Int32) (n : Int32) : gR l yJ5_isLatin1_aae02 cJ5_isLatin1_aae02 1 (some .boolean) (rmL 0 0 0 0) g [.ref h] (SB_c g h q N t n) (some (.int 1)) := by
  refine gR_introZ RJ5 (by decide) rfl (Nat.le_of_ble_eq_true rfl) (fun p e s m args below meth c Q H locs ls hE hP hZ hS hq hl => ?_)
  have hl : lv_has ls 1 [(0, .ref h)] := hl
  have hx := hE.1
  have hb := hE.2.1
  refine g_compact hE kf_J5_18 hZ hS dJ5_isLatin1_aae02_0 ?_
  refine lv_if_eq hx hb dJ5_isLatin1_aae02_3 (tgt := 17) rfl (fun h => absurd h (by decide)) (fun _ => ?_)
  refine lv_aload_n hx hb dJ5_isLatin1_aae02_6 rfl (lv_at hl 0 rfl) ?_
  refine g_get hE okJ4 fl_J5_22 hP 0 rfl (v := .int 0) rfl dJ5_isLatin1_aae02_7 ?_
  refine lv_if_ne hx hb dJ5_isLatin1_aae02_10 (tgt := 17) rfl (fun h => absurd rfl h) (fun _ => ?_)
  refine lv_iconst hx hb dJ5_isLatin1_aae02_13 kci_1 ?_
  refine lv_goto hx hb dJ5_isLatin1_aae02_14 (tgt := 18) rfl ?_
  exact hq (by decide) rfl dJ5_isLatin1_aae02_18
theorem sb_newLen : ∀ k, k < 35 → 17 ≤ k → f_J8_newLength_cabcc (16 : Int32) ((nI k <<< ((0 : Int32) &&& 31)) - (16 : Int32)) ((16 : Int32) + ((2 : Int32) <<< ((0 : Int32) &&& 31))) = some 34 := by decide +kernel
set_option maxHeartbeats 4000000 in
set_option maxRecDepth 100000 in
theorem c_sbCap (l : Launch) (g : GK) (h q : Nat) (t : Nat → Int32) (n : Int32) (k : Nat) (h1 : k < 35) (h2 : 17 ≤ k) : gR l yJ5_newCapacity_0f7a4 cJ5_newCapacity_0f7a4 6 (some .int) (rmL 2 44 0 0) g [.ref h, .int (nI k)] (SB_c g h q 16 t n) (some (.int 34)) := by
  refine gR_introI RJ5 (by decide) rfl (Nat.le_of_ble_eq_true rfl) (fun p e s m args below meth c Q H locs ls hE hP hZ hS hq hl => ?_)
  have hl : lv_has ls 6 [(0, .ref h), (1, .int (nI k))] := hl
  have hx := hE.1
  have hb := hE.2.1
  refine lv_aload_n hx hb dJ5_newCapacity_0f7a4_0 rfl (lv_at hl 0 rfl) ?_
  refine g_get hE okJ4 fl_J5_15 hP 0 rfl (v := .ref q) rfl dJ5_newCapacity_0f7a4_1 ?_
  refine g_alen hE hP 1 2 rfl rfl (v := 16) rfl dJ5_newCapacity_0f7a4_4 ?_
  refine lv_istore_n hx hb dJ5_newCapacity_0f7a4_5 rfl hl (by decide) (lv' := [(2, .int 16), (0, .ref h), (1, .int (nI k))]) rfl (fun ls hl => ?_)
  refine lv_iload_n hx hb dJ5_newCapacity_0f7a4_6 rfl (lv_at hl 2 rfl) ?_
  refine lv_aload_n hx hb dJ5_newCapacity_0f7a4_7 rfl (lv_at hl 1 rfl) ?_
  refine g_get hE okJ4 fl_J5_22 hP 0 rfl (v := .int 0) rfl dJ5_newCapacity_0f7a4_8 ?_
  refine lv_ishl hx hb dJ5_newCapacity_0f7a4_11 ?_
  refine lv_istore_n hx hb dJ5_newCapacity_0f7a4_12 rfl hl (by decide) (lv' := [(3, .int (nI k <<< ((0 : Int32) &&& 31))), (2, .int 16), (0, .ref h), (1, .int (nI k))]) rfl (fun ls hl => ?_)
  refine lv_iload_n hx hb dJ5_newCapacity_0f7a4_13 rfl (lv_at hl 0 rfl) ?_
  refine lv_iload_n hx hb dJ5_newCapacity_0f7a4_14 rfl (lv_at hl 1 rfl) ?_
  refine lv_isub hx hb dJ5_newCapacity_0f7a4_15 ?_
  refine lv_istore hx hb dJ5_newCapacity_0f7a4_16 hl (by decide) (lv' := [(4, .int ((nI k <<< ((0 : Int32) &&& 31)) - 16)), (3, .int (nI k <<< ((0 : Int32) &&& 31))), (2, .int 16), (0, .ref h), (1, .int (nI k))]) rfl (fun ls hl => ?_)
  refine lv_iload_n hx hb dJ5_newCapacity_0f7a4_18 rfl (lv_at hl 2 rfl) ?_
  refine lv_iload hx hb dJ5_newCapacity_0f7a4_19 (lv_at hl 0 rfl) ?_
  refine lv_iload_n hx hb dJ5_newCapacity_0f7a4_21 rfl (lv_at hl 2 rfl) ?_
  refine lv_iconst hx hb dJ5_newCapacity_0f7a4_22 kci_2 ?_
  refine lv_aload_n hx hb dJ5_newCapacity_0f7a4_23 rfl (lv_at hl 3 rfl) ?_
  refine g_get hE okJ4 fl_J5_22 hP 0 rfl (v := .int 0) rfl dJ5_newCapacity_0f7a4_24 ?_
  refine lv_ishl hx hb dJ5_newCapacity_0f7a4_27 ?_
  refine lv_iadd hx hb dJ5_newCapacity_0f7a4_28 ?_
  refine gr_callS (As := [.int 16, .int ((nI k <<< ((0 : Int32) &&& 31)) - 16), .int ((16 : Int32) + ((2 : Int32) <<< ((0 : Int32) &&& 31)))]) (rest := []) (st1 := [.int 34]) hE hl.1 ml_J5_114 (c_J8_newLength_cabcc l g _ _ _ 34 (sb_newLen k h1 h2)) hZ hS hP [] rfl rfl rfl rfl ⟨rfl, rfl⟩ ⟨Nat.le_of_ble_eq_true rfl, Nat.le_of_ble_eq_true rfl⟩ ⟨Nat.le_of_ble_eq_true rfl, Nat.le_of_ble_eq_true rfl⟩ (Nat.le_of_ble_eq_true rfl) dJ5_newCapacity_0f7a4_29 ?_
  refine lv_istore hx hb dJ5_newCapacity_0f7a4_32 hl (by decide) (lv' := [(5, .int 34), (4, .int ((nI k <<< ((0 : Int32) &&& 31)) - 16)), (3, .int (nI k <<< ((0 : Int32) &&& 31))), (2, .int 16), (0, .ref h), (1, .int (nI k))]) rfl (fun ls hl => ?_)
  refine lv_iload hx hb dJ5_newCapacity_0f7a4_34 (lv_at hl 0 rfl) ?_
  refine lv_ldc hx hb hE.2.2.2.2.2.1 (hE.2.2.2.2.2.2.1 _ kd_J5_39) dJ5_newCapacity_0f7a4_36 ?_
  refine lv_icmp_ne hx hb dJ5_newCapacity_0f7a4_38 (tgt := 51) rfl (fun _ => ?_) (fun h => absurd h (by decide))
  refine lv_iload hx hb dJ5_newCapacity_0f7a4_51 (lv_at hl 0 rfl) ?_
  refine lv_aload_n hx hb dJ5_newCapacity_0f7a4_53 rfl (lv_at hl 4 rfl) ?_
  refine g_get hE okJ4 fl_J5_22 hP 0 rfl (v := .int 0) rfl dJ5_newCapacity_0f7a4_54 ?_
  refine lv_ishr hx hb dJ5_newCapacity_0f7a4_57 ?_
  exact hq (congrArg (fun z => some (Value.int z)) (by decide : (34 : Int32) = 34 >>> ((0 : Int32) &&& 31))) dJ5_newCapacity_0f7a4_58
abbrev sb_cp (t : Nat → Int32) : Nat → Int32 := (va_cpy t (fun _ => 0) (ix 0) (ix 0) (ix (if (34 : Int32) < 16 then 34 else 16)))
set_option maxHeartbeats 4000000 in
set_option maxRecDepth 100000 in
theorem c_sbCopy (l : Launch) (g : GK) (q : Nat) (t : Nat → Int32) (ht : sb_Fit t) (nn : Int32) (hnn : nn = 34) : gM l yJ7_copyOf_9075b cJ7_copyOf_9075b 3 (some (.array .byte)) (rmL 1 40 1 34) g [.ref q, .int nn] [(q, .inl (g.2.2.2.1, 16, .inl t))] (fun x : Nat => some (.ref x)) (fun x => [(q, .inl (g.2.2.2.1, 16, .inl t)), (x, .inl (g.2.2.2.1, 34, .inl (sb_cp t)))]) 1 34 := by
  subst hnn
  refine gM_introA (.array .byte) (Or.inr ⟨_, rfl⟩) RJ7 (by decide) rfl (Nat.le_of_ble_eq_true rfl) (fun p e s m args below meth c Q H locs ls A hE hZ hA hP hD hS hq hl => ?_)
  have hl : lv_has ls 3 [(0, .ref q), (1, .int 34)] := hl
  have hx := hE.1
  have hb := hE.2.1
  refine lv_iload_n hx hb dJ7_copyOf_9075b_0 rfl (lv_at hl 1 rfl) ?_
  refine lv_aload_n hx hb dJ7_copyOf_9075b_1 rfl (lv_at hl 0 rfl) ?_
  refine g_alen hE hP 0 2 rfl rfl (v := 16) rfl dJ7_copyOf_9075b_2 ?_
  refine lv_icmp_ne hx hb dJ7_copyOf_9075b_3 (tgt := 14) rfl (fun _ => ?_) (fun h => absurd h (by decide))
  refine lv_iload_n hx hb dJ7_copyOf_9075b_14 rfl (lv_at hl 1 rfl) ?_
  refine g_newb hE hP hD hS hA (N := 34) (by decide) (by decide) (by decide) (Nat.le_of_ble_eq_true rfl) (Nat.le_of_ble_eq_true rfl) dJ7_copyOf_9075b_15 (fun x H hP hD hS => ?_)
  refine lv_astore_n hx hb dJ7_copyOf_9075b_17 rfl hl (by decide) (lv' := [(2, .ref x), (0, .ref q), (1, .int 34)]) rfl (fun ls hl => ?_)
  refine lv_aload_n hx hb dJ7_copyOf_9075b_18 rfl (lv_at hl 1 rfl) ?_
  refine lv_iconst hx hb dJ7_copyOf_9075b_19 kci_0 ?_
  refine lv_aload_n hx hb dJ7_copyOf_9075b_20 rfl (lv_at hl 0 rfl) ?_
  refine lv_iconst hx hb dJ7_copyOf_9075b_21 kci_0 ?_
  refine lv_aload_n hx hb dJ7_copyOf_9075b_22 rfl (lv_at hl 1 rfl) ?_
  refine g_alen hE hP 0 2 rfl rfl (v := 16) rfl dJ7_copyOf_9075b_23 ?_
  refine lv_iload_n hx hb dJ7_copyOf_9075b_24 rfl (lv_at hl 2 rfl) ?_
  refine g_mmin hE hl.1 km_J7_304 (Nat.le_of_ble_eq_true rfl) (rest := [.int 0, .ref x, .int 0, .ref q]) (Nat.le_of_ble_eq_true rfl) ⟨Nat.le_of_ble_eq_true rfl, Nat.le_of_ble_eq_true rfl⟩ dJ7_copyOf_9075b_25 ?_
  refine g_copyb hE hl.1 km_J7_150 hP hD hS 0 1 (f := t) (f2 := fun _ => 0) rfl rfl (by decide) ht (Nat.le_of_ble_eq_true rfl) (rest := []) (Nat.le_of_ble_eq_true rfl) [(q, .inl (g.2.2.2.1, 16, .inl t)), (x, .inl (g.2.2.2.1, 34, .inl (sb_cp t)))] rfl dJ7_copyOf_9075b_28 (fun H locs hP hD hS => ?_)
  refine lv_aload_n hx hb dJ7_copyOf_9075b_31 rfl (lv_at hl 0 rfl) ?_
  exact hq x rfl hP hD hS dJ7_copyOf_9075b_32
theorem sb_cp_in {t : Nat → Int32} {j : Nat} (h : j < 16) : sb_cp t j = t j := by
  have e1 : ix (0 : Int32) = 0 := by decide
  have e2 : ix (if (34 : Int32) < 16 then 34 else 16) = 16 := by decide
  show va_cpy t (fun _ => 0) _ _ _ j = t j
  rw [e1, e2, pk_cpy_in (by omega) (by omega)]
  congr 1; omega
theorem sb_cpP {tx : List Int32} {t : Nat → Int32} (h : SBp tx 16 t) : SBp tx 34 (sb_cp t) := ⟨Or.inr rfl, by have := h.2.1; omega, sb_fitC h.2.2.1 sb_fit0, fun j hj => by rw [sb_cp_in (by have := h.2.1; omega)]; exact h.2.2.2 j hj⟩
theorem sb_le (k N : Nat) (h1 : k < 35) (h2 : N < 35) : (nI k - (nI N >>> ((0 : Int32) &&& 31))) ≤ 0 ↔ k ≤ N := by
  rw [sb_shr0, Int32.le_iff_toInt_le, pk_sub_toInt (by omega) (by omega), Int32.toInt_zero]; omega
set_option maxHeartbeats 4000000 in
set_option maxRecDepth 100000 in
theorem c_sbEns (l : Launch) (g : GK) (h q N : Nat) (t : Nat → Int32) (n : Int32) (tx : List Int32) (hx0 : SBp tx N t) (k : Nat) (hk : k < 35) (kv : Int32) (hkv : kv = nI k) : gM l yJ5_ensureCapacityInternal_d00df cJ5_ensureCapacityInternal_d00df 3 none (rmL 3 69 1 34) g [.ref h, .int kv] (SB_c g h q N t n) (fun _ : { x : Nat × Nat × (Nat → Int32) // SBp tx x.2.1 x.2.2 ∧ k ≤ x.2.1 } => none) (fun x => SB_c g h x.1.1 x.1.2.1 x.1.2.2 n) 1 34 := by
  subst hkv
  refine gM_introV RJ5 (by decide) rfl (Nat.le_of_ble_eq_true rfl) (fun p e s m args below meth c Q H locs ls A hE hnm hZ hA hP hD hS hq hl => ?_)
  have hl : lv_has ls 3 [(0, .ref h), (1, .int (nI k))] := hl
  have hx := hE.1
  have hb := hE.2.1
  have hN : N < 35 := by rcases hx0.1 with h | h <;> omega
  refine lv_aload_n hx hb dJ5_ensureCapacityInternal_d00df_0 rfl (lv_at hl 0 rfl) ?_
  refine g_get hE okJ4 fl_J5_15 hP 0 rfl (v := .ref q) rfl dJ5_ensureCapacityInternal_d00df_1 ?_
  refine g_alen hE hP 1 2 rfl rfl (v := nI N) rfl dJ5_ensureCapacityInternal_d00df_4 ?_
  refine lv_aload_n hx hb dJ5_ensureCapacityInternal_d00df_5 rfl (lv_at hl 0 rfl) ?_
  refine g_get hE okJ4 fl_J5_22 hP 0 rfl (v := .int 0) rfl dJ5_ensureCapacityInternal_d00df_6 ?_
  refine lv_ishr hx hb dJ5_ensureCapacityInternal_d00df_9 ?_
  refine lv_istore_n hx hb dJ5_ensureCapacityInternal_d00df_10 rfl hl (by decide) (lv' := [(2, .int (nI N >>> ((0 : Int32) &&& 31))), (0, .ref h), (1, .int (nI k))]) rfl (fun ls hl => ?_)
  refine lv_iload_n hx hb dJ5_ensureCapacityInternal_d00df_11 rfl (lv_at hl 2 rfl) ?_
  refine lv_iload_n hx hb dJ5_ensureCapacityInternal_d00df_12 rfl (lv_at hl 0 rfl) ?_
  refine lv_isub hx hb dJ5_ensureCapacityInternal_d00df_13 ?_
  refine lv_if_le hx hb dJ5_ensureCapacityInternal_d00df_14 (tgt := 38) rfl (fun hc => ?_) (fun hc => ?_)
  · exact W.widen (k := 1) (n := 34) (Nat.le_of_ble_eq_true rfl) (Nat.le_of_ble_eq_true rfl) (hq ⟨(q, N, t), hx0, (sb_le k N hk hN).mp hc⟩ rfl hP hD hS dJ5_ensureCapacityInternal_d00df_38)
  · have hkN : N < k := Nat.lt_of_not_le (fun z => hc ((sb_le k N hk hN).mpr z))
    obtain rfl : N = 16 := by rcases hx0.1 with h | h <;> omega
    refine lv_aload_n hx hb dJ5_ensureCapacityInternal_d00df_17 rfl (lv_at hl 1 rfl) ?_
    refine lv_aload_n hx hb dJ5_ensureCapacityInternal_d00df_18 rfl (lv_at hl 1 rfl) ?_
    refine g_get hE okJ4 fl_J5_15 hP 0 rfl (v := .ref q) rfl dJ5_ensureCapacityInternal_d00df_19 ?_
    refine lv_aload_n hx hb dJ5_ensureCapacityInternal_d00df_22 rfl (lv_at hl 1 rfl) ?_
    refine lv_iload_n hx hb dJ5_ensureCapacityInternal_d00df_23 rfl (lv_at hl 2 rfl) ?_
    refine gr_callU (As := [.int (nI k)]) (rest := [.ref q, .ref h]) (st1 := [.int 34, .ref q, .ref h]) hE hl.1 mu_J5_104 rfl gs_cap (c_sbCap l g h q t n k hk hkN) hZ hS hP [(0, 2)] rfl rfl rfl rfl rfl ⟨rfl, rfl⟩ ⟨Nat.le_of_ble_eq_true rfl, Nat.le_of_ble_eq_true rfl⟩ ⟨Nat.le_of_ble_eq_true rfl, Nat.le_of_ble_eq_true rfl⟩ (Nat.le_of_ble_eq_true rfl) dJ5_ensureCapacityInternal_d00df_24 ?_
    refine lv_aload_n hx hb dJ5_ensureCapacityInternal_d00df_27 rfl (lv_at hl 1 rfl) ?_
    refine g_get hE okJ4 fl_J5_22 hP 0 rfl (v := .int 0) rfl dJ5_ensureCapacityInternal_d00df_28 ?_
    refine lv_ishl hx hb dJ5_ensureCapacityInternal_d00df_31 ?_
    refine gm_callS1 (As := [.ref q, .int ((34 : Int32) <<< ((0 : Int32) &&& 31))]) (rest := [.ref h]) (st1 := fun x => [.ref x, .ref h]) (ws' := fun x => [(h, .inr (0, [.ref q, .int 0, .int 0, .int n])), (q, .inl (g.2.2.2.1, 16, .inl t)), (x, .inl (g.2.2.2.1, 34, .inl (sb_cp t)))]) hE hl.1 ml_J5_108 (c_sbCopy l g q t hx0.2.2.1 ((34 : Int32) <<< ((0 : Int32) &&& 31)) (by decide)) hZ hP hD hS hA 1 2 rfl (fun _ => rfl) rfl rfl (fun _ => rfl) ⟨rfl, rfl⟩ ⟨Nat.le_of_ble_eq_true rfl, Nat.le_of_ble_eq_true rfl⟩ ⟨Nat.le_of_ble_eq_true rfl, Nat.le_of_ble_eq_true rfl⟩ (Nat.le_of_ble_eq_true rfl) dJ5_ensureCapacityInternal_d00df_32 (fun x H locs hP hD hS => ?_)
    refine g_put hE okJ4 fl_J5_15 hP hD hS 0 rfl rfl rfl rfl (Nat.le_of_ble_eq_true rfl) [(h, .inr (0, [.ref x, .int 0, .int 0, .int n])), (q, .inl (g.2.2.2.1, 16, .inl t)), (x, .inl (g.2.2.2.1, 34, .inl (sb_cp t)))] rfl dJ5_ensureCapacityInternal_d00df_35 (fun H locs hP hD hS => ?_)
    exact hq ⟨(x, 34, sb_cp t), sb_cpP hx0, (by show k ≤ 34; omega)⟩ rfl (vaP_seg hP [(0, 1), (2, 1)] rfl) (hD.sub [0, 2] rfl rfl) hS dJ5_ensureCapacityInternal_d00df_38
theorem sb_app1 {tx : List Int32} {N : Nat} {t : Nat → Int32} (h : SBp tx N t) (hl : tx.length + 1 ≤ N) (x : Int32) : SBp (tx ++ [x.toInt8.toInt32]) N (upd t (ix (nI tx.length)) (vp_nar .byte x.toInt8.toInt32)) := by
  have hN : N < 35 := by rcases h.1 with h | h <;> omega
  have e1 : ix (nI tx.length) = tx.length := nI_clamp (by omega)
  rw [e1, pk_vb]
  refine ⟨h.1, by rw [List.length_append]; exact hl, sb_fitU h.2.2.1 (pk_fb x), fun j hj => ?_⟩
  rw [List.length_append, List.length_singleton] at hj
  by_cases hjl : j = tx.length
  · subst hjl; rw [pk_us]; simp
  · rw [pk_un hjl, h.2.2.2 j (by omega)]; simp [List.getElem?_append_left (show j < tx.length by omega)]
theorem sb_inb {c N : Nat} (h : c < N) (hN : N < 35) : inb (nI c) N := vp_in_nI h (by omega)
set_option maxHeartbeats 4000000 in
set_option maxRecDepth 100000 in
theorem c_sbAppC0 (l : Launch) (g : GK) (h q N : Nat) (t : Nat → Int32) (tx : List Int32) (hx0 : SBp tx N t) (hlen : tx.length < 34) (ch : Int32) (hch : ¬ (255 : Int32) < ch) : gM l yJ5_append_3fe6f cJ5_append_3fe6f 2 (some (.object "java/lang/AbstractStringBuilder")) (rmL 4 91 1 34) g [.ref h, .int ch] (SB_c g h q N t (nI tx.length)) (fun _ : SBX (tx ++ [ch.toInt8.toInt32]) => some (.ref h)) (fun x => SBw g h (tx ++ [ch.toInt8.toInt32]) x) 1 34 := by
  refine gM_introA (.object "java/lang/AbstractStringBuilder") (Or.inl ⟨_, rfl⟩) RJ5 (by decide) rfl (Nat.le_of_ble_eq_true rfl) (fun p e s m args below meth c Q H locs ls A hE hZ hA hP hD hS hq hl => ?_)
  have hl : lv_has ls 2 [(0, .ref h), (1, .int ch)] := hl
  have hx := hE.1
  have hb := hE.2.1
  refine lv_aload_n hx hb dJ5_append_3fe6f_0 rfl (lv_at hl 0 rfl) ?_
  refine lv_aload_n hx hb dJ5_append_3fe6f_1 rfl (lv_at hl 0 rfl) ?_
  refine g_get hE okJ4 fl_J5_79 hP 0 rfl (v := .int (nI tx.length)) rfl dJ5_append_3fe6f_2 ?_
  refine lv_iconst hx hb dJ5_append_3fe6f_5 kci_1 ?_
  refine lv_iadd hx hb dJ5_append_3fe6f_6 ?_
  refine gm_callU1 (As := [.int (nI tx.length + 1)]) (rest := []) (st1 := fun _ => []) (ws' := fun x => SB_c g h x.1.1 x.1.2.1 x.1.2.2 (nI tx.length)) hE hl.1 mu_J5_100 rfl gs_ens (c_sbEns l g h q N t (nI tx.length) tx hx0 (tx.length + 1) (by omega) (nI tx.length + 1) (nI_1 _)) hZ hP hD hS hA 0 2 rfl (fun _ => rfl) rfl rfl rfl (fun _ => rfl) ⟨rfl, rfl⟩ ⟨Nat.le_of_ble_eq_true rfl, Nat.le_of_ble_eq_true rfl⟩ ⟨Nat.le_of_ble_eq_true rfl, Nat.le_of_ble_eq_true rfl⟩ (Nat.le_of_ble_eq_true rfl) dJ5_append_3fe6f_7 (fun x H locs hP hD hS => ?_)
  obtain ⟨⟨q1, N1, t1⟩, hp1, hk1⟩ := x
  dsimp only at hp1 hk1 hP hD
  have hN1 : N1 < 35 := by rcases hp1.1 with h | h <;> omega
  refine lv_aload_n hx hb dJ5_append_3fe6f_10 rfl (lv_at hl 0 rfl) ?_
  refine gr_callU (As := []) (rest := []) (st1 := [.int 1]) hE hl.1 mu_J5_83 rfl gs_lat (c_sbLat l g h q1 N1 t1 (nI tx.length)) hZ hS hP [(0, 2)] rfl rfl rfl rfl rfl ⟨rfl, rfl⟩ ⟨Nat.le_of_ble_eq_true rfl, Nat.le_of_ble_eq_true rfl⟩ ⟨Nat.le_of_ble_eq_true rfl, Nat.le_of_ble_eq_true rfl⟩ (Nat.le_of_ble_eq_true rfl) dJ5_append_3fe6f_11 ?_
  refine lv_if_eq hx hb dJ5_append_3fe6f_14 (tgt := 45) rfl (fun h => absurd h (by decide)) (fun _ => ?_)
  refine lv_iload_n hx hb dJ5_append_3fe6f_17 rfl (lv_at hl 1 rfl) ?_
  refine gr_callS (As := [.int ch]) (rest := []) (st1 := [.int 1]) hE hl.1 ml_J5_191 (c_J1_canEncode_fc78d l g ch 1 (by rw [f_J1_canEncode_fc78d]; exact if_neg hch)) hZ hS hP [] rfl rfl rfl rfl ⟨rfl, rfl⟩ ⟨Nat.le_of_ble_eq_true rfl, Nat.le_of_ble_eq_true rfl⟩ ⟨Nat.le_of_ble_eq_true rfl, Nat.le_of_ble_eq_true rfl⟩ (Nat.le_of_ble_eq_true rfl) dJ5_append_3fe6f_18 ?_
  refine lv_if_eq hx hb dJ5_append_3fe6f_21 (tgt := 45) rfl (fun h => absurd h (by decide)) (fun _ => ?_)
  refine lv_aload_n hx hb dJ5_append_3fe6f_24 rfl (lv_at hl 0 rfl) ?_
  refine g_get hE okJ4 fl_J5_15 hP 0 rfl (v := .ref q1) rfl dJ5_append_3fe6f_25 ?_
  refine lv_aload_n hx hb dJ5_append_3fe6f_28 rfl (lv_at hl 0 rfl) ?_
  refine lv_dup hx hb dJ5_append_3fe6f_29 rfl ?_
  refine g_get hE okJ4 fl_J5_79 hP 0 rfl (v := .int (nI tx.length)) rfl dJ5_append_3fe6f_30 ?_
  refine lv_dup_x1 hx hb dJ5_append_3fe6f_33 rfl rfl ?_
  refine lv_iconst hx hb dJ5_append_3fe6f_34 kci_1 ?_
  refine lv_iadd hx hb dJ5_append_3fe6f_35 ?_
  refine g_put hE okJ4 fl_J5_79 hP hD hS 0 rfl rfl rfl rfl (Nat.le_of_ble_eq_true rfl) (SB_c g h q1 N1 t1 (nI tx.length + 1)) rfl dJ5_append_3fe6f_36 (fun H locs hP hD hS => ?_)
  refine lv_iload_n hx hb dJ5_append_3fe6f_39 rfl (lv_at hl 1 rfl) ?_
  refine lv_i2b hx hb dJ5_append_3fe6f_40 rfl ?_
  refine g_bast hE hP hD hS 1 (f := t1) rfl (sb_inb (by omega) hN1) (SB_c g h q1 N1 (upd t1 (ix (nI tx.length)) (vp_nar .byte ch.toInt8.toInt32)) (nI tx.length + 1)) rfl dJ5_append_3fe6f_41 (fun H locs hP hD hS => ?_)
  refine lv_goto hx hb dJ5_append_3fe6f_42 (tgt := 75) rfl ?_
  refine lv_aload_n hx hb dJ5_append_3fe6f_75 rfl (lv_at hl 0 rfl) ?_
  have eL : nI tx.length + 1 = nI (tx ++ [ch.toInt8.toInt32]).length := by rw [List.length_append]; exact nI_1 _
  rw [eL] at hP hD
  exact hq ⟨(q1, N1, upd t1 (ix (nI tx.length)) (vp_nar .byte ch.toInt8.toInt32)), sb_app1 hp1 hk1 ch⟩ rfl hP hD hS dJ5_append_3fe6f_76
set_option maxHeartbeats 4000000 in
set_option maxRecDepth 100000 in
theorem c_sbAppC (l : Launch) (g : GK) (h : Nat) (tx : List Int32) (x0 : SBX tx) (hlen : tx.length < 34) (ch : Int32) (hch : ¬ (255 : Int32) < ch) : gM l yJ4_append_cf468 cJ4_append_cf468 2 (some (.object "java/lang/StringBuilder")) (rmL 5 112 1 34) g [.ref h, .int ch] (SBw g h tx x0) (fun _ : SBX (tx ++ [ch.toInt8.toInt32]) => some (.ref h)) (fun x => SBw g h (tx ++ [ch.toInt8.toInt32]) x) 1 34 := by
  refine gM_introA (.object "java/lang/StringBuilder") (Or.inl ⟨_, rfl⟩) RJ4 (by decide) rfl (Nat.le_of_ble_eq_true rfl) (fun p e s m args below meth c Q H locs ls A hE hZ hA hP hD hS hq hl => ?_)
  have hl : lv_has ls 2 [(0, .ref h), (1, .int ch)] := hl
  have hx := hE.1
  have hb := hE.2.1
  refine lv_aload_n hx hb dJ4_append_cf468_0 rfl (lv_at hl 0 rfl) ?_
  refine lv_iload_n hx hb dJ4_append_cf468_1 rfl (lv_at hl 1 rfl) ?_
  refine gm_callP1 (As := [.int ch]) (rest := []) (st1 := fun _ => [.ref h]) hE hl.1 mu_J4_50 rfl (by decide) (c_sbAppC0 l g h x0.1.1 x0.1.2.1 x0.1.2.2 tx x0.2 hlen ch hch) hZ hP hD hS hA rfl rfl rfl (fun _ => rfl) ⟨rfl, rfl⟩ ⟨Nat.le_of_ble_eq_true rfl, Nat.le_of_ble_eq_true rfl⟩ ⟨Nat.le_of_ble_eq_true rfl, Nat.le_of_ble_eq_true rfl⟩ (Nat.le_of_ble_eq_true rfl) dJ4_append_cf468_2 (fun x H locs hP hD hS => ?_)
  refine lv_pop hx hb dJ4_append_cf468_5 rfl ?_
  refine lv_aload_n hx hb dJ4_append_cf468_6 rfl (lv_at hl 0 rfl) ?_
  exact hq x rfl hP hD hS dJ4_append_cf468_7
/-- what the digits' writer does, as the text needs it: D the bytes of v -/
def DigOK (v : Int32) (D : List Int32) : Prop := f_J6_stringSize_0f7a4 v = some (nI D.length) ∧ D.length ≤ 11 ∧ ∀ (c N : Nat) (t : Nat → Int32), (N = 16 ∨ N = 34) → c + D.length ≤ N → sb_Fit t → ∃ (r : Int32) (t2 : Nat → Int32), f_J6_getChars_ba4f3 N t v (nI (c + D.length)) = some (r, t2) ∧ sb_Fit t2 ∧ (∀ j, j < c → t2 j = t j) ∧ ∀ j, j < D.length → t2 (c + j) = D.getD j 0
set_option maxHeartbeats 4000000 in
set_option maxRecDepth 100000 in
theorem c_sbAppI0 (l : Launch) (g : GK) (h q N : Nat) (t : Nat → Int32) (tx : List Int32) (hx0 : SBp tx N t) (v : Int32) (D : List Int32) (hD0 : DigOK v D) (hlen : tx.length + D.length < 35) : gM l yJ5_append_c97b9 cJ5_append_c97b9 4 (some (.object "java/lang/AbstractStringBuilder")) (rmL 4 91 1 34) g [.ref h, .int v] (SB_c g h q N t (nI tx.length)) (fun _ : SBX (tx ++ D) => some (.ref h)) (fun x => SBw g h (tx ++ D) x) 1 34 := by
  obtain ⟨hsz, hD11, hgc⟩ := hD0
  refine gM_introA (.object "java/lang/AbstractStringBuilder") (Or.inl ⟨_, rfl⟩) RJ5 (by decide) rfl (Nat.le_of_ble_eq_true rfl) (fun p e s m args below meth c Q H locs ls A hE hZ hA hP hD hS hq hl => ?_)
  have hl : lv_has ls 4 [(0, .ref h), (1, .int v)] := hl
  have hx := hE.1
  have hb := hE.2.1
  refine lv_aload_n hx hb dJ5_append_c97b9_0 rfl (lv_at hl 0 rfl) ?_
  refine g_get hE okJ4 fl_J5_79 hP 0 rfl (v := .int (nI tx.length)) rfl dJ5_append_c97b9_1 ?_
  refine lv_istore_n hx hb dJ5_append_c97b9_4 rfl hl (by decide) (lv' := [(2, .int (nI tx.length)), (0, .ref h), (1, .int v)]) rfl (fun ls hl => ?_)
  refine lv_iload_n hx hb dJ5_append_c97b9_5 rfl (lv_at hl 0 rfl) ?_
  refine lv_iload_n hx hb dJ5_append_c97b9_6 rfl (lv_at hl 2 rfl) ?_
  refine gr_callS (As := [.int v]) (rest := [.int (nI tx.length)]) (st1 := [.int (nI D.length), .int (nI tx.length)]) hE hl.1 ml_J5_245 (c_J6_stringSize_0f7a4 l g v (nI D.length) hsz) hZ hS hP [] rfl rfl rfl rfl ⟨rfl, rfl⟩ ⟨Nat.le_of_ble_eq_true rfl, Nat.le_of_ble_eq_true rfl⟩ ⟨Nat.le_of_ble_eq_true rfl, Nat.le_of_ble_eq_true rfl⟩ (Nat.le_of_ble_eq_true rfl) dJ5_append_c97b9_7 ?_
  refine lv_iadd hx hb dJ5_append_c97b9_10 ?_
  refine lv_istore_n hx hb dJ5_append_c97b9_11 rfl hl (by decide) (lv' := [(3, .int (nI tx.length + nI D.length)), (2, .int (nI tx.length)), (0, .ref h), (1, .int v)]) rfl (fun ls hl => ?_)
  refine lv_aload_n hx hb dJ5_append_c97b9_12 rfl (lv_at hl 2 rfl) ?_
  refine lv_iload_n hx hb dJ5_append_c97b9_13 rfl (lv_at hl 0 rfl) ?_
  refine gm_callU1 (As := [.int (nI tx.length + nI D.length)]) (rest := []) (st1 := fun _ => []) (ws' := fun x => SB_c g h x.1.1 x.1.2.1 x.1.2.2 (nI tx.length)) hE hl.1 mu_J5_100 rfl gs_ens (c_sbEns l g h q N t (nI tx.length) tx hx0 (tx.length + D.length) hlen (nI tx.length + nI D.length) (nI_add _ _)) hZ hP hD hS hA 0 2 rfl (fun _ => rfl) rfl rfl rfl (fun _ => rfl) ⟨rfl, rfl⟩ ⟨Nat.le_of_ble_eq_true rfl, Nat.le_of_ble_eq_true rfl⟩ ⟨Nat.le_of_ble_eq_true rfl, Nat.le_of_ble_eq_true rfl⟩ (Nat.le_of_ble_eq_true rfl) dJ5_append_c97b9_14 (fun x H locs hP hD hS => ?_)
  obtain ⟨⟨q1, N1, t1⟩, hp1, hk1⟩ := x
  dsimp only at hp1 hk1 hP hD
  obtain ⟨rr, t2, hgf, hfit2, hlo2, hhi2⟩ := hgc tx.length N1 t1 hp1.1 hk1 hp1.2.2.1
  refine lv_aload_n hx hb dJ5_append_c97b9_17 rfl (lv_at hl 2 rfl) ?_
  refine gr_callU (As := []) (rest := []) (st1 := [.int 1]) hE hl.1 mu_J5_83 rfl gs_lat (c_sbLat l g h q1 N1 t1 (nI tx.length)) hZ hS hP [(0, 2)] rfl rfl rfl rfl rfl ⟨rfl, rfl⟩ ⟨Nat.le_of_ble_eq_true rfl, Nat.le_of_ble_eq_true rfl⟩ ⟨Nat.le_of_ble_eq_true rfl, Nat.le_of_ble_eq_true rfl⟩ (Nat.le_of_ble_eq_true rfl) dJ5_append_c97b9_18 ?_
  refine lv_if_eq hx hb dJ5_append_c97b9_21 (tgt := 37) rfl (fun h => absurd h (by decide)) (fun _ => ?_)
  refine lv_iload_n hx hb dJ5_append_c97b9_24 rfl (lv_at hl 3 rfl) ?_
  refine lv_iload_n hx hb dJ5_append_c97b9_25 rfl (lv_at hl 0 rfl) ?_
  refine lv_aload_n hx hb dJ5_append_c97b9_26 rfl (lv_at hl 2 rfl) ?_
  refine g_get hE okJ4 fl_J5_15 hP 0 rfl (v := .ref q1) rfl dJ5_append_c97b9_27 ?_
  rw [← nI_add] at hgf
  refine gm_callS1 (As := [.int v, .int (nI tx.length + nI D.length), .ref q1]) (rest := []) (st1 := fun _ => [.int rr]) (ws' := fun _ => SB_c g h q1 N1 t2 (nI tx.length)) hE hl.1 ml_J5_248 (c_J6_getChars_ba4f3 l g q1 N1 t1 v (nI tx.length + nI D.length) (rr, t2) hgf) hZ hP hD hS hA 1 2 rfl (fun _ => rfl) rfl rfl (fun _ => rfl) ⟨rfl, rfl⟩ ⟨Nat.le_of_ble_eq_true rfl, Nat.le_of_ble_eq_true rfl⟩ ⟨Nat.le_of_ble_eq_true rfl, Nat.le_of_ble_eq_true rfl⟩ (Nat.le_of_ble_eq_true rfl) dJ5_append_c97b9_30 (fun _ H locs hP hD hS => ?_)
  refine lv_pop hx hb dJ5_append_c97b9_33 rfl ?_
  refine lv_goto hx hb dJ5_append_c97b9_34 (tgt := 48) rfl ?_
  refine lv_aload_n hx hb dJ5_append_c97b9_48 rfl (lv_at hl 2 rfl) ?_
  refine lv_iload_n hx hb dJ5_append_c97b9_49 rfl (lv_at hl 0 rfl) ?_
  refine g_put hE okJ4 fl_J5_79 hP hD hS 0 rfl rfl rfl rfl (Nat.le_of_ble_eq_true rfl) (SB_c g h q1 N1 t2 (nI tx.length + nI D.length)) rfl dJ5_append_c97b9_50 (fun H locs hP hD hS => ?_)
  refine lv_aload_n hx hb dJ5_append_c97b9_53 rfl (lv_at hl 2 rfl) ?_
  have eL : (nI tx.length + nI D.length) = nI (tx ++ D).length := by rw [List.length_append]; exact nI_add _ _
  rw [eL] at hP hD
  exact hq ⟨(q1, N1, t2), hp1.1, by rw [List.length_append]; exact hk1, hfit2, fun j hj => by
      rw [List.length_append] at hj
      by_cases hjl : j < tx.length
      · show t2 j = _
        rw [hlo2 j hjl, hp1.2.2.2 j hjl]; simp [List.getElem?_append_left hjl]
      · obtain ⟨i, rfl⟩ : ∃ i, j = tx.length + i := ⟨j - tx.length, by omega⟩
        show t2 (tx.length + i) = _
        rw [hhi2 i (by omega)]; simp [List.getElem?_append_right]⟩ rfl hP hD hS dJ5_append_c97b9_54
set_option maxHeartbeats 4000000 in
set_option maxRecDepth 100000 in
theorem c_sbAppI (l : Launch) (g : GK) (h : Nat) (tx : List Int32) (x0 : SBX tx) (v : Int32) (D : List Int32) (hD0 : DigOK v D) (hlen : tx.length + D.length < 35) : gM l yJ4_append_bf812 cJ4_append_bf812 2 (some (.object "java/lang/StringBuilder")) (rmL 5 114 1 34) g [.ref h, .int v] (SBw g h tx x0) (fun _ : SBX (tx ++ D) => some (.ref h)) (fun x => SBw g h (tx ++ D) x) 1 34 := by
  refine gM_introA (.object "java/lang/StringBuilder") (Or.inl ⟨_, rfl⟩) RJ4 (by decide) rfl (Nat.le_of_ble_eq_true rfl) (fun p e s m args below meth c Q H locs ls A hE hZ hA hP hD hS hq hl => ?_)
  have hl : lv_has ls 2 [(0, .ref h), (1, .int v)] := hl
  have hx := hE.1
  have hb := hE.2.1
  refine lv_aload_n hx hb dJ4_append_bf812_0 rfl (lv_at hl 0 rfl) ?_
  refine lv_iload_n hx hb dJ4_append_bf812_1 rfl (lv_at hl 1 rfl) ?_
  refine gm_callP1 (As := [.int v]) (rest := []) (st1 := fun _ => [.ref h]) hE hl.1 mu_J4_53 rfl (by decide) (c_sbAppI0 l g h x0.1.1 x0.1.2.1 x0.1.2.2 tx x0.2 v D hD0 hlen) hZ hP hD hS hA rfl rfl rfl (fun _ => rfl) ⟨rfl, rfl⟩ ⟨Nat.le_of_ble_eq_true rfl, Nat.le_of_ble_eq_true rfl⟩ ⟨Nat.le_of_ble_eq_true rfl, Nat.le_of_ble_eq_true rfl⟩ (Nat.le_of_ble_eq_true rfl) dJ4_append_bf812_2 (fun x H locs hP hD hS => ?_)
  refine lv_pop hx hb dJ4_append_bf812_5 rfl ?_
  refine lv_aload_n hx hb dJ4_append_bf812_6 rfl (lv_at hl 0 rfl) ?_
  exact hq x rfl hP hD hS dJ4_append_bf812_7
theorem ko_J5_3 : Cond.methodLink RJ5 3 Lib.objectInit ∈ TBL := tb (in4 (List.mem_of_getElem? (i := 27) (by decide +kernel))) (by decide +kernel)
set_option maxHeartbeats 4000000 in
set_option maxRecDepth 100000 in
theorem c_sbInit0 (l : Launch) (g : GK) (h : Nat) : gM l yJ5_init_d00df cJ5_init_d00df 2 none (rmL 1 12 1 16) g [.ref h, .int 16] [(h, .inr (0, [.null, .int 0, .int 0, .int 0]))] (fun _ : Nat => none) (fun x => SB_c g h x 16 (fun _ => 0) 0) 1 16 := by
  refine gM_introV RJ5 (by decide) rfl (Nat.le_of_ble_eq_true rfl) (fun p e s m args below meth c Q H locs ls A hE hnm hZ hA hP hD hS hq hl => ?_)
  have hl : lv_has ls 2 [(0, .ref h), (1, .int 16)] := hl
  have hx := hE.1
  have hb := hE.2.1
  refine lv_aload_n hx hb dJ5_init_d00df_0 rfl (lv_at hl 0 rfl) ?_
  refine g_obj hE hl.1 ko_J5_3 (Nat.le_of_ble_eq_true rfl) (Nat.le_of_ble_eq_true rfl) dJ5_init_d00df_1 ?_
  refine g_compact hE kf_J5_18 hZ hS dJ5_init_d00df_4 ?_
  refine lv_if_eq hx hb dJ5_init_d00df_7 (tgt := 25) rfl (fun h => absurd h (by decide)) (fun _ => ?_)
  refine lv_aload_n hx hb dJ5_init_d00df_10 rfl (lv_at hl 0 rfl) ?_
  refine lv_iload_n hx hb dJ5_init_d00df_11 rfl (lv_at hl 1 rfl) ?_
  refine g_newb hE hP hD hS hA (N := 16) (by decide) (by decide) (by decide) (Nat.le_of_ble_eq_true rfl) (Nat.le_of_ble_eq_true rfl) dJ5_init_d00df_12 (fun x H hP hD hS => ?_)
  refine g_put hE okJ4 fl_J5_15 hP hD hS 0 rfl rfl rfl rfl (Nat.le_of_ble_eq_true rfl) (SB_c g h x 16 (fun _ => 0) 0) rfl dJ5_init_d00df_14 (fun H locs hP hD hS => ?_)
  refine lv_aload_n hx hb dJ5_init_d00df_17 rfl (lv_at hl 0 rfl) ?_
  refine lv_iconst hx hb dJ5_init_d00df_18 kci_0 ?_
  refine g_put hE okJ4 fl_J5_22 hP hD hS 0 rfl rfl rfl rfl (Nat.le_of_ble_eq_true rfl) (SB_c g h x 16 (fun _ => 0) 0) rfl dJ5_init_d00df_19 (fun H locs hP hD hS => ?_)
  refine lv_goto hx hb dJ5_init_d00df_22 (tgt := 38) rfl ?_
  exact hq x rfl hP hD hS dJ5_init_d00df_38
theorem sb_nil : SBp [] 16 (fun _ => 0) := ⟨Or.inl rfl, Nat.zero_le _, sb_fit0, fun j h => absurd h (Nat.not_lt_zero j)⟩
set_option maxHeartbeats 4000000 in
set_option maxRecDepth 100000 in
theorem c_sbInit (l : Launch) (g : GK) (h : Nat) : gM l yJ4_init_da8c8 cJ4_init_da8c8 1 none (rmL 2 33 1 16) g [.ref h] [(h, .inr (0, [.null, .int 0, .int 0, .int 0]))] (fun _ : SBX [] => none) (fun x => SBw g h [] x) 1 16 := by
  refine gM_introV RJ4 (by decide) rfl (Nat.le_of_ble_eq_true rfl) (fun p e s m args below meth c Q H locs ls A hE hnm hZ hA hP hD hS hq hl => ?_)
  have hl : lv_has ls 1 [(0, .ref h)] := hl
  have hx := hE.1
  have hb := hE.2.1
  refine lv_aload_n hx hb dJ4_init_da8c8_0 rfl (lv_at hl 0 rfl) ?_
  refine lv_bipush hx hb dJ4_init_da8c8_1 kcb_16 ?_
  refine gm_callI1 (As := [.int 16]) (rest := []) (st1 := fun _ => []) (ws' := fun x => SB_c g h x 16 (fun _ => 0) 0) hE hl.1 ml_J4_1 (c_sbInit0 l g h) hZ hP hD hS hA 0 1 rfl (fun _ => rfl) rfl rfl (fun _ => rfl) ⟨rfl, rfl⟩ ⟨Nat.le_of_ble_eq_true rfl, Nat.le_of_ble_eq_true rfl⟩ ⟨Nat.le_of_ble_eq_true rfl, Nat.le_of_ble_eq_true rfl⟩ (Nat.le_of_ble_eq_true rfl) dJ4_init_da8c8_3 (fun x H locs hP hD hS => ?_)
  exact hq ⟨(x, 16, fun _ => 0), sb_nil⟩ rfl hP hD hS dJ4_init_da8c8_6
set_option maxHeartbeats 4000000 in
set_option maxRecDepth 100000 in
theorem c_sbLen0 (l : Launch) (g : GK) (h q N : Nat) (t : Nat → Int32) (n : Int32) : gR l yJ5_length_8abf5 cJ5_length_8abf5 1 (some .int) (rmL 0 0 0 0) g [.ref h] (SB_c g h q N t n) (some (.int n)) := by
  refine gR_introI RJ5 (by decide) rfl (Nat.le_of_ble_eq_true rfl) (fun p e s m args below meth c Q H locs ls hE hP hZ hS hq hl => ?_)
  have hl : lv_has ls 1 [(0, .ref h)] := hl
  have hx := hE.1
  have hb := hE.2.1
  refine lv_aload_n hx hb dJ5_length_8abf5_0 rfl (lv_at hl 0 rfl) ?_
  refine g_get hE okJ4 fl_J5_79 hP 0 rfl (v := .int n) rfl dJ5_length_8abf5_1 ?_
  exact hq rfl dJ5_length_8abf5_4
set_option maxHeartbeats 4000000 in
set_option maxRecDepth 100000 in
theorem c_sbLen (l : Launch) (g : GK) (h q N : Nat) (t : Nat → Int32) (n : Int32) : gR l yJ4_length_8abf5 cJ4_length_8abf5 1 (some .int) (rmL 1 20 0 0) g [.ref h] (SB_c g h q N t n) (some (.int n)) := by
  refine gR_introI RJ4 (by decide) rfl (Nat.le_of_ble_eq_true rfl) (fun p e s m args below meth c Q H locs ls hE hP hZ hS hq hl => ?_)
  have hl : lv_has ls 1 [(0, .ref h)] := hl
  have hx := hE.1
  have hb := hE.2.1
  refine lv_aload_n hx hb dJ4_length_8abf5_0 rfl (lv_at hl 0 rfl) ?_
  refine gr_callP (As := []) (rest := []) (st1 := [.int n]) hE hl.1 mu_J4_343 rfl (by decide) (c_sbLen0 l g h q N t n) hZ hS hP rfl rfl rfl rfl ⟨rfl, rfl⟩ ⟨Nat.le_of_ble_eq_true rfl, Nat.le_of_ble_eq_true rfl⟩ ⟨Nat.le_of_ble_eq_true rfl, Nat.le_of_ble_eq_true rfl⟩ (Nat.le_of_ble_eq_true rfl) dJ4_length_8abf5_1 ?_
  exact hq rfl dJ4_length_8abf5_4
theorem sb_min {j n N : Nat} (h1 : j < n) (h2 : n ≤ N) (h3 : N < 35) : f_J0_checkIndex_df160 (nI j) (if (nI N >>> ((0 : Int32) &&& 31)) < nI n then (nI N >>> ((0 : Int32) &&& 31)) else nI n) = some () := by
  rw [sb_shr0, if_neg (nI_nlt h2 (by omega))]
  simp only [f_J0_checkIndex_df160, f_J3_checkIndex_8e157_r]
  rw [if_neg (nI_pos (by omega)), if_pos (nI_lt h1 (by omega))]; rfl
theorem isC_i (x : Int32) : isC ((x.toUInt32 % 65536).toInt32) := by
  show (x.toUInt32 % 65536).toInt32 = (((x.toUInt32 % 65536).toInt32).toUInt32 % 65536).toInt32
  have h := pk_vc x
  rw [vp_nar_char] at h
  rw [pk_char, pk_char]
  rw [pk_tn (by omega)]
  rw [Nat.mod_mod]
set_option maxHeartbeats 4000000 in
set_option maxRecDepth 100000 in
theorem c_sbAt0 (l : Launch) (g : GK) (h q N : Nat) (t : Nat → Int32) (n j : Nat) (h1 : j < n) (h2 : n ≤ N) (h3 : N < 35) : gR l yJ5_charAt_5068e cJ5_charAt_5068e 5 (some .char) (rmL 2 43 0 0) g [.ref h, .int (nI j)] (SB_c g h q N t (nI n)) (some (.int ((t j &&& 255).toUInt32 % 65536).toInt32)) := by
  refine gR_introC RJ5 (by decide) rfl (Nat.le_of_ble_eq_true rfl) (fun p e s m args below meth c Q H locs ls hE hP hZ hS hq hl => ?_)
  have hl : lv_has ls 5 [(0, .ref h), (1, .int (nI j))] := hl
  have hx := hE.1
  have hb := hE.2.1
  refine lv_aload_n hx hb dJ5_charAt_5068e_0 rfl (lv_at hl 0 rfl) ?_
  refine g_get hE okJ4 fl_J5_22 hP 0 rfl (v := .int 0) rfl dJ5_charAt_5068e_1 ?_
  refine lv_istore_n hx hb dJ5_charAt_5068e_4 rfl hl (by decide) (lv' := [(2, .int 0), (0, .ref h), (1, .int (nI j))]) rfl (fun ls hl => ?_)
  refine lv_aload_n hx hb dJ5_charAt_5068e_5 rfl (lv_at hl 1 rfl) ?_
  refine g_get hE okJ4 fl_J5_15 hP 0 rfl (v := .ref q) rfl dJ5_charAt_5068e_6 ?_
  refine lv_astore_n hx hb dJ5_charAt_5068e_9 rfl hl (by decide) (lv' := [(3, .ref q), (2, .int 0), (0, .ref h), (1, .int (nI j))]) rfl (fun ls hl => ?_)
  refine lv_aload_n hx hb dJ5_charAt_5068e_10 rfl (lv_at hl 2 rfl) ?_
  refine g_get hE okJ4 fl_J5_79 hP 0 rfl (v := .int (nI n)) rfl dJ5_charAt_5068e_11 ?_
  refine lv_aload_n hx hb dJ5_charAt_5068e_14 rfl (lv_at hl 0 rfl) ?_
  refine g_alen hE hP 1 2 rfl rfl (v := nI N) rfl dJ5_charAt_5068e_15 ?_
  refine lv_iload_n hx hb dJ5_charAt_5068e_16 rfl (lv_at hl 1 rfl) ?_
  refine lv_ishr hx hb dJ5_charAt_5068e_17 ?_
  refine g_mmin hE hl.1 km_J5_138 (Nat.le_of_ble_eq_true rfl) (rest := []) (Nat.le_of_ble_eq_true rfl) ⟨Nat.le_of_ble_eq_true rfl, Nat.le_of_ble_eq_true rfl⟩ dJ5_charAt_5068e_18 ?_
  refine lv_istore hx hb dJ5_charAt_5068e_21 hl (by decide) (lv' := [(4, .int (if (nI N >>> ((0 : Int32) &&& 31)) < nI n then (nI N >>> ((0 : Int32) &&& 31)) else nI n)), (3, .ref q), (2, .int 0), (0, .ref h), (1, .int (nI j))]) rfl (fun ls hl => ?_)
  refine lv_iload_n hx hb dJ5_charAt_5068e_23 rfl (lv_at hl 4 rfl) ?_
  refine lv_iload hx hb dJ5_charAt_5068e_24 (lv_at hl 0 rfl) ?_
  refine gr_callS (As := [.int (nI j), .int (if (nI N >>> ((0 : Int32) &&& 31)) < nI n then (nI N >>> ((0 : Int32) &&& 31)) else nI n)]) (rest := []) (st1 := []) hE hl.1 ml_J5_144 (c_J0_checkIndex_df160 l g _ _ () (sb_min h1 h2 h3)) hZ hS hP [] rfl rfl rfl rfl ⟨rfl, rfl⟩ ⟨Nat.le_of_ble_eq_true rfl, Nat.le_of_ble_eq_true rfl⟩ ⟨Nat.le_of_ble_eq_true rfl, Nat.le_of_ble_eq_true rfl⟩ (Nat.le_of_ble_eq_true rfl) dJ5_charAt_5068e_26 ?_
  refine lv_iload_n hx hb dJ5_charAt_5068e_29 rfl (lv_at hl 2 rfl) ?_
  refine lv_if_ne hx hb dJ5_charAt_5068e_30 (tgt := 42) rfl (fun h => absurd rfl h) (fun _ => ?_)
  refine lv_aload_n hx hb dJ5_charAt_5068e_33 rfl (lv_at hl 1 rfl) ?_
  refine lv_iload_n hx hb dJ5_charAt_5068e_34 rfl (lv_at hl 4 rfl) ?_
  refine g_bald hE hP 1 (f := t) rfl (sb_inb (by omega) h3) dJ5_charAt_5068e_35 ?_
  refine lv_sipush hx hb dJ5_charAt_5068e_36 kcs_255 ?_
  refine lv_iand hx hb dJ5_charAt_5068e_39 ?_
  refine lv_i2c hx hb dJ5_charAt_5068e_40 rfl ?_
  have ej : ix (nI j) = j := nI_clamp (by omega)
  rw [ej]
  exact hq (isC_i _) rfl dJ5_charAt_5068e_41
set_option maxHeartbeats 4000000 in
set_option maxRecDepth 100000 in
theorem c_sbAt (l : Launch) (g : GK) (h q N : Nat) (t : Nat → Int32) (n j : Nat) (h1 : j < n) (h2 : n ≤ N) (h3 : N < 35) : gR l yJ4_charAt_5068e cJ4_charAt_5068e 2 (some .char) (rmL 3 67 0 0) g [.ref h, .int (nI j)] (SB_c g h q N t (nI n)) (some (.int ((t j &&& 255).toUInt32 % 65536).toInt32)) := by
  refine gR_introC RJ4 (by decide) rfl (Nat.le_of_ble_eq_true rfl) (fun p e s m args below meth c Q H locs ls hE hP hZ hS hq hl => ?_)
  have hl : lv_has ls 2 [(0, .ref h), (1, .int (nI j))] := hl
  have hx := hE.1
  have hb := hE.2.1
  refine lv_aload_n hx hb dJ4_charAt_5068e_0 rfl (lv_at hl 0 rfl) ?_
  refine lv_iload_n hx hb dJ4_charAt_5068e_1 rfl (lv_at hl 1 rfl) ?_
  refine gr_callP (As := [.int (nI j)]) (rest := []) (st1 := [.int ((t j &&& 255).toUInt32 % 65536).toInt32]) hE hl.1 mu_J4_329 rfl (by decide) (c_sbAt0 l g h q N t n j h1 h2 h3) hZ hS hP rfl rfl rfl rfl ⟨rfl, rfl⟩ ⟨Nat.le_of_ble_eq_true rfl, Nat.le_of_ble_eq_true rfl⟩ ⟨Nat.le_of_ble_eq_true rfl, Nat.le_of_ble_eq_true rfl⟩ (Nat.le_of_ble_eq_true rfl) dJ4_charAt_5068e_2 ?_
  exact hq (isC_i _) rfl dJ4_charAt_5068e_5
