theorem dX2_spansUnderBowls_13 : decode cX2_spansUnderBowls 13 = .ok (.iload 4, 2) := by decide +kernel
theorem dX2_spansUnderBowls_15 : decode cX2_spansUnderBowls 15 = .ok (.iload_n 3, 1) := by decide +kernel
theorem dX2_spansUnderBowls_16 : decode cX2_spansUnderBowls 16 = .ok (.if_icmp .ge 29, 3) := by decide +kernel
theorem dX2_spansUnderBowls_19 : decode cX2_spansUnderBowls 19 = .ok (.aload_n 2, 1) := by decide +kernel
theorem dX2_spansUnderBowls_20 : decode cX2_spansUnderBowls 20 = .ok (.iload 4, 2) := by decide +kernel
theorem dX2_spansUnderBowls_22 : decode cX2_spansUnderBowls 22 = .ok (.aaload, 1) := by decide +kernel
theorem dX2_spansUnderBowls_23 : decode cX2_spansUnderBowls 23 = .ok (.astore 5, 2) := by decide +kernel
theorem dX2_spansUnderBowls_25 : decode cX2_spansUnderBowls 25 = .ok (.iload_n 1, 1) := by decide +kernel
theorem dX2_spansUnderBowls_26 : decode cX2_spansUnderBowls 26 = .ok (.aload 5, 2) := by decide +kernel
theorem dX2_spansUnderBowls_28 : decode cX2_spansUnderBowls 28 = .ok (.getfield 104, 3) := by decide +kernel
theorem dX2_spansUnderBowls_31 : decode cX2_spansUnderBowls 31 = .ok (.aload 5, 2) := by decide +kernel
theorem dX2_spansUnderBowls_33 : decode cX2_spansUnderBowls 33 = .ok (.getfield 244, 3) := by decide +kernel
theorem dX2_spansUnderBowls_36 : decode cX2_spansUnderBowls 36 = .ok (.imul, 1) := by decide +kernel
theorem dX2_spansUnderBowls_37 : decode cX2_spansUnderBowls 37 = .ok (.iadd, 1) := by decide +kernel
theorem dX2_spansUnderBowls_38 : decode cX2_spansUnderBowls 38 = .ok (.istore_n 1, 1) := by decide +kernel
theorem dX2_spansUnderBowls_39 : decode cX2_spansUnderBowls 39 = .ok (.iinc 4 1, 3) := by decide +kernel
theorem dX2_spansUnderBowls_42 : decode cX2_spansUnderBowls 42 = .ok (.goto (-29), 3) := by decide +kernel
theorem dX2_spansUnderBowls_45 : decode cX2_spansUnderBowls 45 = .ok (.iload_n 1, 1) := by decide +kernel
theorem dX2_spansUnderBowls_46 : decode cX2_spansUnderBowls 46 = .ok (.ireturn, 1) := by decide +kernel
theorem dX2_spansOfNoPlace_0 : decode cX2_spansOfNoPlace 0 = .ok (.iconst 0, 1) := by decide +kernel
theorem dX2_spansOfNoPlace_1 : decode cX2_spansOfNoPlace 1 = .ok (.istore_n 1, 1) := by decide +kernel
theorem dX2_spansOfNoPlace_2 : decode cX2_spansOfNoPlace 2 = .ok (.aload_n 0, 1) := by decide +kernel
theorem dX2_spansOfNoPlace_3 : decode cX2_spansOfNoPlace 3 = .ok (.getfield 11, 3) := by decide +kernel
theorem dX2_spansOfNoPlace_6 : decode cX2_spansOfNoPlace 6 = .ok (.astore_n 2, 1) := by decide +kernel
theorem dX2_spansOfNoPlace_7 : decode cX2_spansOfNoPlace 7 = .ok (.aload_n 2, 1) := by decide +kernel
theorem dX2_spansOfNoPlace_8 : decode cX2_spansOfNoPlace 8 = .ok (.arraylength, 1) := by decide +kernel
theorem dX2_spansOfNoPlace_9 : decode cX2_spansOfNoPlace 9 = .ok (.istore_n 3, 1) := by decide +kernel
theorem dX2_spansOfNoPlace_10 : decode cX2_spansOfNoPlace 10 = .ok (.iconst 0, 1) := by decide +kernel
theorem dX2_spansOfNoPlace_11 : decode cX2_spansOfNoPlace 11 = .ok (.istore 4, 2) := by decide +kernel
theorem dX2_spansOfNoPlace_13 : decode cX2_spansOfNoPlace 13 = .ok (.iload 4, 2) := by decide +kernel
theorem dX2_spansOfNoPlace_15 : decode cX2_spansOfNoPlace 15 = .ok (.iload_n 3, 1) := by decide +kernel
theorem dX2_spansOfNoPlace_16 : decode cX2_spansOfNoPlace 16 = .ok (.if_icmp .ge 40, 3) := by decide +kernel
theorem dX2_spansOfNoPlace_19 : decode cX2_spansOfNoPlace 19 = .ok (.aload_n 2, 1) := by decide +kernel
theorem dX2_spansOfNoPlace_20 : decode cX2_spansOfNoPlace 20 = .ok (.iload 4, 2) := by decide +kernel
theorem dX2_spansOfNoPlace_22 : decode cX2_spansOfNoPlace 22 = .ok (.aaload, 1) := by decide +kernel
theorem dX2_spansOfNoPlace_23 : decode cX2_spansOfNoPlace 23 = .ok (.astore 5, 2) := by decide +kernel
theorem dX2_spansOfNoPlace_25 : decode cX2_spansOfNoPlace 25 = .ok (.aload 5, 2) := by decide +kernel
theorem dX2_spansOfNoPlace_27 : decode cX2_spansOfNoPlace 27 = .ok (.invokevirtual 70, 3) := by decide +kernel
theorem dX2_spansOfNoPlace_30 : decode cX2_spansOfNoPlace 30 = .ok (.ifCond .eq 20, 3) := by decide +kernel
theorem dX2_spansOfNoPlace_33 : decode cX2_spansOfNoPlace 33 = .ok (.iload_n 1, 1) := by decide +kernel
theorem dX2_spansOfNoPlace_34 : decode cX2_spansOfNoPlace 34 = .ok (.bipush 24, 2) := by decide +kernel
theorem dX2_spansOfNoPlace_36 : decode cX2_spansOfNoPlace 36 = .ok (.aload 5, 2) := by decide +kernel
theorem dX2_spansOfNoPlace_38 : decode cX2_spansOfNoPlace 38 = .ok (.getfield 245, 3) := by decide +kernel
theorem dX2_spansOfNoPlace_41 : decode cX2_spansOfNoPlace 41 = .ok (.aload 5, 2) := by decide +kernel
theorem dX2_spansOfNoPlace_43 : decode cX2_spansOfNoPlace 43 = .ok (.getfield 244, 3) := by decide +kernel
theorem dX2_spansOfNoPlace_46 : decode cX2_spansOfNoPlace 46 = .ok (.imul, 1) := by decide +kernel
theorem dX2_spansOfNoPlace_47 : decode cX2_spansOfNoPlace 47 = .ok (.isub, 1) := by decide +kernel
theorem dX2_spansOfNoPlace_48 : decode cX2_spansOfNoPlace 48 = .ok (.iadd, 1) := by decide +kernel
theorem dX2_spansOfNoPlace_49 : decode cX2_spansOfNoPlace 49 = .ok (.istore_n 1, 1) := by decide +kernel
theorem dX2_spansOfNoPlace_50 : decode cX2_spansOfNoPlace 50 = .ok (.iinc 4 1, 3) := by decide +kernel
theorem dX2_spansOfNoPlace_53 : decode cX2_spansOfNoPlace 53 = .ok (.goto (-40), 3) := by decide +kernel
theorem dX2_spansOfNoPlace_56 : decode cX2_spansOfNoPlace 56 = .ok (.iload_n 1, 1) := by decide +kernel
theorem dX2_spansOfNoPlace_57 : decode cX2_spansOfNoPlace 57 = .ok (.ireturn, 1) := by decide +kernel
theorem dX2_mixed_0 : decode cX2_mixed 0 = .ok (.lload_n 0, 1) := by decide +kernel
theorem dX2_mixed_1 : decode cX2_mixed 1 = .ok (.ldc2_w 246, 3) := by decide +kernel
theorem dX2_mixed_4 : decode cX2_mixed 4 = .ok (.lmul, 1) := by decide +kernel
theorem dX2_mixed_5 : decode cX2_mixed 5 = .ok (.lload_n 2, 1) := by decide +kernel
theorem dX2_mixed_6 : decode cX2_mixed 6 = .ok (.ladd, 1) := by decide +kernel
theorem dX2_mixed_7 : decode cX2_mixed 7 = .ok (.lreturn, 1) := by decide +kernel
theorem dX2_mixedWithShelf_0 : decode cX2_mixedWithShelf 0 = .ok (.lload_n 0, 1) := by decide +kernel
theorem dX2_mixedWithShelf_1 : decode cX2_mixedWithShelf 1 = .ok (.lstore_n 3, 1) := by decide +kernel
theorem dX2_mixedWithShelf_2 : decode cX2_mixedWithShelf 2 = .ok (.iconst 0, 1) := by decide +kernel
theorem dX2_mixedWithShelf_3 : decode cX2_mixedWithShelf 3 = .ok (.istore 5, 2) := by decide +kernel
theorem dX2_mixedWithShelf_5 : decode cX2_mixedWithShelf 5 = .ok (.iload 5, 2) := by decide +kernel
theorem dX2_mixedWithShelf_7 : decode cX2_mixedWithShelf 7 = .ok (.bipush 6, 2) := by decide +kernel
theorem dX2_mixedWithShelf_9 : decode cX2_mixedWithShelf 9 = .ok (.if_icmp .ge 21, 3) := by decide +kernel
theorem dX2_mixedWithShelf_12 : decode cX2_mixedWithShelf 12 = .ok (.lload_n 3, 1) := by decide +kernel
theorem dX2_mixedWithShelf_13 : decode cX2_mixedWithShelf 13 = .ok (.aload_n 2, 1) := by decide +kernel
theorem dX2_mixedWithShelf_14 : decode cX2_mixedWithShelf 14 = .ok (.iload 5, 2) := by decide +kernel
theorem dX2_mixedWithShelf_16 : decode cX2_mixedWithShelf 16 = .ok (.invokevirtual 124, 3) := by decide +kernel
theorem dX2_mixedWithShelf_19 : decode cX2_mixedWithShelf 19 = .ok (.i2l, 1) := by decide +kernel
theorem dX2_mixedWithShelf_20 : decode cX2_mixedWithShelf 20 = .ok (.invokestatic 175, 3) := by decide +kernel
theorem dX2_mixedWithShelf_23 : decode cX2_mixedWithShelf 23 = .ok (.lstore_n 3, 1) := by decide +kernel
theorem dX2_mixedWithShelf_24 : decode cX2_mixedWithShelf 24 = .ok (.iinc 5 1, 3) := by decide +kernel
theorem dX2_mixedWithShelf_27 : decode cX2_mixedWithShelf 27 = .ok (.goto (-22), 3) := by decide +kernel
theorem dX2_mixedWithShelf_30 : decode cX2_mixedWithShelf 30 = .ok (.iconst 0, 1) := by decide +kernel
theorem dX2_mixedWithShelf_31 : decode cX2_mixedWithShelf 31 = .ok (.istore 5, 2) := by decide +kernel
theorem dX2_mixedWithShelf_33 : decode cX2_mixedWithShelf 33 = .ok (.iload 5, 2) := by decide +kernel
theorem dX2_mixedWithShelf_35 : decode cX2_mixedWithShelf 35 = .ok (.aload_n 2, 1) := by decide +kernel
theorem dX2_mixedWithShelf_36 : decode cX2_mixedWithShelf 36 = .ok (.getfield 245, 3) := by decide +kernel
theorem dX2_mixedWithShelf_39 : decode cX2_mixedWithShelf 39 = .ok (.if_icmp .ge 28, 3) := by decide +kernel
theorem dX2_mixedWithShelf_42 : decode cX2_mixedWithShelf 42 = .ok (.lload_n 3, 1) := by decide +kernel
theorem dX2_mixedWithShelf_43 : decode cX2_mixedWithShelf 43 = .ok (.aload_n 2, 1) := by decide +kernel
theorem dX2_mixedWithShelf_44 : decode cX2_mixedWithShelf 44 = .ok (.iload 5, 2) := by decide +kernel
theorem dX2_mixedWithShelf_46 : decode cX2_mixedWithShelf 46 = .ok (.invokevirtual 95, 3) := by decide +kernel
theorem dX2_mixedWithShelf_49 : decode cX2_mixedWithShelf 49 = .ok (.ifCond .eq 7, 3) := by decide +kernel
theorem dX2_mixedWithShelf_52 : decode cX2_mixedWithShelf 52 = .ok (.lconst 1, 1) := by decide +kernel
theorem dX2_mixedWithShelf_53 : decode cX2_mixedWithShelf 53 = .ok (.goto 4, 3) := by decide +kernel
theorem dX2_mixedWithShelf_56 : decode cX2_mixedWithShelf 56 = .ok (.lconst 0, 1) := by decide +kernel
theorem dX2_mixedWithShelf_57 : decode cX2_mixedWithShelf 57 = .ok (.invokestatic 175, 3) := by decide +kernel
theorem dX2_mixedWithShelf_60 : decode cX2_mixedWithShelf 60 = .ok (.lstore_n 3, 1) := by decide +kernel
theorem dX2_mixedWithShelf_61 : decode cX2_mixedWithShelf 61 = .ok (.iinc 5 1, 3) := by decide +kernel
theorem dX2_mixedWithShelf_64 : decode cX2_mixedWithShelf 64 = .ok (.goto (-31), 3) := by decide +kernel
theorem dX2_mixedWithShelf_67 : decode cX2_mixedWithShelf 67 = .ok (.lload_n 3, 1) := by decide +kernel
theorem dX2_mixedWithShelf_68 : decode cX2_mixedWithShelf 68 = .ok (.lreturn, 1) := by decide +kernel
theorem dX2_mixedWithKind_0 : decode cX2_mixedWithKind 0 = .ok (.lload_n 1, 1) := by decide +kernel
theorem dX2_mixedWithKind_1 : decode cX2_mixedWithKind 1 = .ok (.lstore 4, 2) := by decide +kernel
theorem dX2_mixedWithKind_3 : decode cX2_mixedWithKind 3 = .ok (.iconst 0, 1) := by decide +kernel
theorem dX2_mixedWithKind_4 : decode cX2_mixedWithKind 4 = .ok (.istore 6, 2) := by decide +kernel
theorem dX2_mixedWithKind_6 : decode cX2_mixedWithKind 6 = .ok (.iload 6, 2) := by decide +kernel
theorem dX2_mixedWithKind_8 : decode cX2_mixedWithKind 8 = .ok (.bipush 9, 2) := by decide +kernel
theorem dX2_mixedWithKind_10 : decode cX2_mixedWithKind 10 = .ok (.if_icmp .ge 24, 3) := by decide +kernel
theorem dX2_mixedWithKind_13 : decode cX2_mixedWithKind 13 = .ok (.lload 4, 2) := by decide +kernel
theorem dX2_mixedWithKind_15 : decode cX2_mixedWithKind 15 = .ok (.aload_n 0, 1) := by decide +kernel
theorem dX2_mixedWithKind_16 : decode cX2_mixedWithKind 16 = .ok (.aload_n 3, 1) := by decide +kernel
theorem dX2_mixedWithKind_17 : decode cX2_mixedWithKind 17 = .ok (.iload 6, 2) := by decide +kernel
theorem dX2_mixedWithKind_19 : decode cX2_mixedWithKind 19 = .ok (.invokevirtual 127, 3) := by decide +kernel
theorem dX2_mixedWithKind_22 : decode cX2_mixedWithKind 22 = .ok (.i2l, 1) := by decide +kernel
theorem dX2_mixedWithKind_23 : decode cX2_mixedWithKind 23 = .ok (.invokestatic 175, 3) := by decide +kernel
theorem dX2_mixedWithKind_26 : decode cX2_mixedWithKind 26 = .ok (.lstore 4, 2) := by decide +kernel
theorem dX2_mixedWithKind_28 : decode cX2_mixedWithKind 28 = .ok (.iinc 6 1, 3) := by decide +kernel
theorem dX2_mixedWithKind_31 : decode cX2_mixedWithKind 31 = .ok (.goto (-25), 3) := by decide +kernel
theorem dX2_mixedWithKind_34 : decode cX2_mixedWithKind 34 = .ok (.lload 4, 2) := by decide +kernel
theorem dX2_mixedWithKind_36 : decode cX2_mixedWithKind 36 = .ok (.aload_n 0, 1) := by decide +kernel
theorem dX2_mixedWithKind_37 : decode cX2_mixedWithKind 37 = .ok (.aload_n 3, 1) := by decide +kernel
theorem dX2_mixedWithKind_38 : decode cX2_mixedWithKind 38 = .ok (.invokevirtual 149, 3) := by decide +kernel
theorem dX2_mixedWithKind_41 : decode cX2_mixedWithKind 41 = .ok (.i2l, 1) := by decide +kernel
theorem dX2_mixedWithKind_42 : decode cX2_mixedWithKind 42 = .ok (.invokestatic 175, 3) := by decide +kernel
theorem dX2_mixedWithKind_45 : decode cX2_mixedWithKind 45 = .ok (.lreturn, 1) := by decide +kernel
theorem dX3_init_0 : decode cX3_init 0 = .ok (.aload_n 0, 1) := by decide +kernel
theorem dX3_init_1 : decode cX3_init 1 = .ok (.invokespecial 1, 3) := by decide +kernel
theorem dX3_init_4 : decode cX3_init 4 = .ok (.aload_n 0, 1) := by decide +kernel
theorem dX3_init_5 : decode cX3_init 5 = .ok (.iconst 0, 1) := by decide +kernel
theorem dX3_init_6 : decode cX3_init 6 = .ok (.anewarray 7, 3) := by decide +kernel
theorem dX3_init_9 : decode cX3_init 9 = .ok (.putfield 9, 3) := by decide +kernel
theorem dX3_init_12 : decode cX3_init 12 = .ok (.aload_n 0, 1) := by decide +kernel
theorem dX3_init_13 : decode cX3_init 13 = .ok (.bipush 12, 2) := by decide +kernel
theorem dX3_init_15 : decode cX3_init 15 = .ok (.iconst 3, 1) := by decide +kernel
theorem dX3_init_16 : decode cX3_init 16 = .ok (.multianewarray 15 2, 4) := by decide +kernel
theorem dX3_init_20 : decode cX3_init 20 = .ok (.putfield 16, 3) := by decide +kernel
theorem dX3_init_23 : decode cX3_init 23 = .ok (.aload_n 0, 1) := by decide +kernel
theorem dX3_init_24 : decode cX3_init 24 = .ok (.bipush 12, 2) := by decide +kernel
theorem dX3_init_26 : decode cX3_init 26 = .ok (.iconst 0, 1) := by decide +kernel
theorem dX3_init_27 : decode cX3_init 27 = .ok (.multianewarray 19 2, 4) := by decide +kernel
theorem dX3_init_31 : decode cX3_init 31 = .ok (.putfield 21, 3) := by decide +kernel
theorem dX3_init_34 : decode cX3_init 34 = .ok (.aload_n 0, 1) := by decide +kernel
theorem dX3_init_35 : decode cX3_init 35 = .ok (.getfield 16, 3) := by decide +kernel
theorem dX3_init_38 : decode cX3_init 38 = .ok (.astore_n 1, 1) := by decide +kernel
theorem dX3_init_39 : decode cX3_init 39 = .ok (.aload_n 1, 1) := by decide +kernel
theorem dX3_init_40 : decode cX3_init 40 = .ok (.arraylength, 1) := by decide +kernel
theorem dX3_init_41 : decode cX3_init 41 = .ok (.istore_n 2, 1) := by decide +kernel
theorem dX3_init_42 : decode cX3_init 42 = .ok (.iconst 0, 1) := by decide +kernel
theorem dX3_init_43 : decode cX3_init 43 = .ok (.istore_n 3, 1) := by decide +kernel
theorem dX3_init_44 : decode cX3_init 44 = .ok (.iload_n 3, 1) := by decide +kernel
theorem dX3_init_45 : decode cX3_init 45 = .ok (.iload_n 2, 1) := by decide +kernel
theorem dX3_init_46 : decode cX3_init 46 = .ok (.if_icmp .ge 24, 3) := by decide +kernel
theorem dX3_init_49 : decode cX3_init 49 = .ok (.aload_n 1, 1) := by decide +kernel
theorem dX3_init_50 : decode cX3_init 50 = .ok (.iload_n 3, 1) := by decide +kernel
theorem dX3_init_51 : decode cX3_init 51 = .ok (.aaload, 1) := by decide +kernel
theorem dX3_init_52 : decode cX3_init 52 = .ok (.astore 4, 2) := by decide +kernel
theorem dX3_init_54 : decode cX3_init 54 = .ok (.aload 4, 2) := by decide +kernel
theorem dX3_init_56 : decode cX3_init 56 = .ok (.iconst 0, 1) := by decide +kernel
theorem dX3_init_57 : decode cX3_init 57 = .ok (.aload 4, 2) := by decide +kernel
theorem dX3_init_59 : decode cX3_init 59 = .ok (.iconst 2, 1) := by decide +kernel
theorem dX3_init_60 : decode cX3_init 60 = .ok (.iconst (-1), 1) := by decide +kernel
theorem dX3_init_61 : decode cX3_init 61 = .ok (.dup_x2, 1) := by decide +kernel
theorem dX3_init_62 : decode cX3_init 62 = .ok (.iastore, 1) := by decide +kernel
theorem dX3_init_63 : decode cX3_init 63 = .ok (.iastore, 1) := by decide +kernel
theorem dX3_init_64 : decode cX3_init 64 = .ok (.iinc 3 1, 3) := by decide +kernel
theorem dX3_init_67 : decode cX3_init 67 = .ok (.goto (-23), 3) := by decide +kernel
theorem dX3_init_70 : decode cX3_init 70 = .ok (.return_, 1) := by decide +kernel
theorem dX3_more_0 : decode cX3_more 0 = .ok (.aload_n 0, 1) := by decide +kernel
theorem dX3_more_1 : decode cX3_more 1 = .ok (.arraylength, 1) := by decide +kernel
theorem dX3_more_2 : decode cX3_more 2 = .ok (.iconst 1, 1) := by decide +kernel
theorem dX3_more_3 : decode cX3_more 3 = .ok (.iadd, 1) := by decide +kernel
theorem dX3_more_4 : decode cX3_more 4 = .ok (.anewarray 7, 3) := by decide +kernel
theorem dX3_more_7 : decode cX3_more 7 = .ok (.astore_n 2, 1) := by decide +kernel
theorem dX3_more_8 : decode cX3_more 8 = .ok (.iconst 0, 1) := by decide +kernel
theorem dX3_more_9 : decode cX3_more 9 = .ok (.istore_n 3, 1) := by decide +kernel
theorem dX3_more_10 : decode cX3_more 10 = .ok (.iload_n 3, 1) := by decide +kernel
theorem dX3_more_11 : decode cX3_more 11 = .ok (.aload_n 0, 1) := by decide +kernel
theorem dX3_more_12 : decode cX3_more 12 = .ok (.arraylength, 1) := by decide +kernel
theorem dX3_more_13 : decode cX3_more 13 = .ok (.if_icmp .ge 15, 3) := by decide +kernel
theorem dX3_more_16 : decode cX3_more 16 = .ok (.aload_n 2, 1) := by decide +kernel
theorem dX3_more_17 : decode cX3_more 17 = .ok (.iload_n 3, 1) := by decide +kernel
theorem dX3_more_18 : decode cX3_more 18 = .ok (.aload_n 0, 1) := by decide +kernel
theorem dX3_more_19 : decode cX3_more 19 = .ok (.iload_n 3, 1) := by decide +kernel
theorem dX3_more_20 : decode cX3_more 20 = .ok (.aaload, 1) := by decide +kernel
theorem dX3_more_21 : decode cX3_more 21 = .ok (.aastore, 1) := by decide +kernel
theorem dX3_more_22 : decode cX3_more 22 = .ok (.iinc 3 1, 3) := by decide +kernel
theorem dX3_more_25 : decode cX3_more 25 = .ok (.goto (-15), 3) := by decide +kernel
theorem dX3_more_28 : decode cX3_more 28 = .ok (.aload_n 2, 1) := by decide +kernel
theorem dX3_more_29 : decode cX3_more 29 = .ok (.aload_n 0, 1) := by decide +kernel
theorem dX3_more_30 : decode cX3_more 30 = .ok (.arraylength, 1) := by decide +kernel
theorem dX3_more_31 : decode cX3_more 31 = .ok (.aload_n 1, 1) := by decide +kernel
theorem dX3_more_32 : decode cX3_more 32 = .ok (.aastore, 1) := by decide +kernel
theorem dX3_more_33 : decode cX3_more 33 = .ok (.aload_n 2, 1) := by decide +kernel
theorem dX3_more_34 : decode cX3_more 34 = .ok (.areturn, 1) := by decide +kernel
theorem dX3_many_0 : decode cX3_many 0 = .ok (.iconst 0, 1) := by decide +kernel
theorem dX3_many_1 : decode cX3_many 1 = .ok (.istore_n 2, 1) := by decide +kernel
theorem dX3_many_2 : decode cX3_many 2 = .ok (.aload_n 0, 1) := by decide +kernel
theorem dX3_many_3 : decode cX3_many 3 = .ok (.getfield 21, 3) := by decide +kernel
theorem dX3_many_6 : decode cX3_many 6 = .ok (.iload_n 1, 1) := by decide +kernel
theorem dX3_many_7 : decode cX3_many 7 = .ok (.aaload, 1) := by decide +kernel
theorem dX3_many_8 : decode cX3_many 8 = .ok (.astore_n 3, 1) := by decide +kernel
theorem dX3_many_9 : decode cX3_many 9 = .ok (.aload_n 3, 1) := by decide +kernel
theorem dX3_many_10 : decode cX3_many 10 = .ok (.arraylength, 1) := by decide +kernel
theorem dX3_many_11 : decode cX3_many 11 = .ok (.istore 4, 2) := by decide +kernel
theorem dX3_many_13 : decode cX3_many 13 = .ok (.iconst 0, 1) := by decide +kernel
theorem dX3_many_14 : decode cX3_many 14 = .ok (.istore 5, 2) := by decide +kernel
theorem dX3_many_16 : decode cX3_many 16 = .ok (.iload 5, 2) := by decide +kernel
theorem dX3_many_18 : decode cX3_many 18 = .ok (.iload 4, 2) := by decide +kernel
theorem dX3_many_20 : decode cX3_many 20 = .ok (.if_icmp .ge 28, 3) := by decide +kernel
theorem dX3_many_23 : decode cX3_many 23 = .ok (.aload_n 3, 1) := by decide +kernel
theorem dX3_many_24 : decode cX3_many 24 = .ok (.iload 5, 2) := by decide +kernel
theorem dX3_many_26 : decode cX3_many 26 = .ok (.baload, 1) := by decide +kernel
theorem dX3_many_27 : decode cX3_many 27 = .ok (.istore 6, 2) := by decide +kernel
theorem dX3_many_29 : decode cX3_many 29 = .ok (.iload_n 2, 1) := by decide +kernel
theorem dX3_many_30 : decode cX3_many 30 = .ok (.iload 6, 2) := by decide +kernel
theorem dX3_many_32 : decode cX3_many 32 = .ok (.ifCond .eq 7, 3) := by decide +kernel
theorem dX3_many_35 : decode cX3_many 35 = .ok (.iconst 1, 1) := by decide +kernel
theorem dX3_many_36 : decode cX3_many 36 = .ok (.goto 4, 3) := by decide +kernel
theorem dX3_many_39 : decode cX3_many 39 = .ok (.iconst 0, 1) := by decide +kernel
theorem dX3_many_40 : decode cX3_many 40 = .ok (.iadd, 1) := by decide +kernel
theorem dX3_many_41 : decode cX3_many 41 = .ok (.istore_n 2, 1) := by decide +kernel
theorem dX3_many_42 : decode cX3_many 42 = .ok (.iinc 5 1, 3) := by decide +kernel
theorem dX3_many_45 : decode cX3_many 45 = .ok (.goto (-29), 3) := by decide +kernel
theorem dX3_many_48 : decode cX3_many 48 = .ok (.iload_n 2, 1) := by decide +kernel
theorem dX3_many_49 : decode cX3_many 49 = .ok (.ireturn, 1) := by decide +kernel
theorem dX3_isUsed_0 : decode cX3_isUsed 0 = .ok (.aload_n 0, 1) := by decide +kernel
theorem dX3_isUsed_1 : decode cX3_isUsed 1 = .ok (.getfield 16, 3) := by decide +kernel
theorem dX3_isUsed_4 : decode cX3_isUsed 4 = .ok (.iload_n 1, 1) := by decide +kernel
theorem dX3_isUsed_5 : decode cX3_isUsed 5 = .ok (.aaload, 1) := by decide +kernel
theorem dX3_isUsed_6 : decode cX3_isUsed 6 = .ok (.iconst 0, 1) := by decide +kernel
theorem dX3_isUsed_7 : decode cX3_isUsed 7 = .ok (.iaload, 1) := by decide +kernel
theorem dX3_isUsed_8 : decode cX3_isUsed 8 = .ok (.iload_n 2, 1) := by decide +kernel
theorem dX3_isUsed_9 : decode cX3_isUsed 9 = .ok (.if_icmp .ne 30, 3) := by decide +kernel
theorem dX3_isUsed_12 : decode cX3_isUsed 12 = .ok (.aload_n 0, 1) := by decide +kernel
theorem dX3_isUsed_13 : decode cX3_isUsed 13 = .ok (.iload_n 1, 1) := by decide +kernel
theorem dX3_isUsed_14 : decode cX3_isUsed 14 = .ok (.invokevirtual 45, 3) := by decide +kernel
theorem dX3_isUsed_17 : decode cX3_isUsed 17 = .ok (.ifCond .le 22, 3) := by decide +kernel
theorem dX3_isUsed_20 : decode cX3_isUsed 20 = .ok (.aload_n 0, 1) := by decide +kernel
theorem dX3_isUsed_21 : decode cX3_isUsed 21 = .ok (.iload_n 1, 1) := by decide +kernel
theorem dX3_isUsed_22 : decode cX3_isUsed 22 = .ok (.invokevirtual 45, 3) := by decide +kernel
theorem dX3_isUsed_25 : decode cX3_isUsed 25 = .ok (.aload_n 0, 1) := by decide +kernel
theorem dX3_isUsed_26 : decode cX3_isUsed 26 = .ok (.getfield 21, 3) := by decide +kernel
theorem dX3_isUsed_29 : decode cX3_isUsed 29 = .ok (.iload_n 1, 1) := by decide +kernel
theorem dX3_isUsed_30 : decode cX3_isUsed 30 = .ok (.aaload, 1) := by decide +kernel
theorem dX3_isUsed_31 : decode cX3_isUsed 31 = .ok (.arraylength, 1) := by decide +kernel
theorem dX3_isUsed_32 : decode cX3_isUsed 32 = .ok (.if_icmp .ge 7, 3) := by decide +kernel
theorem dX3_isUsed_35 : decode cX3_isUsed 35 = .ok (.iconst 1, 1) := by decide +kernel
theorem dX3_isUsed_36 : decode cX3_isUsed 36 = .ok (.goto 4, 3) := by decide +kernel
theorem dX3_isUsed_39 : decode cX3_isUsed 39 = .ok (.iconst 0, 1) := by decide +kernel
theorem dX3_isUsed_40 : decode cX3_isUsed 40 = .ok (.ireturn, 1) := by decide +kernel
theorem dX3_isEmpty_0 : decode cX3_isEmpty 0 = .ok (.aload_n 0, 1) := by decide +kernel
theorem dX3_isEmpty_1 : decode cX3_isEmpty 1 = .ok (.getfield 16, 3) := by decide +kernel
theorem dX3_isEmpty_4 : decode cX3_isEmpty 4 = .ok (.iload_n 1, 1) := by decide +kernel
theorem dX3_isEmpty_5 : decode cX3_isEmpty 5 = .ok (.aaload, 1) := by decide +kernel
theorem dX3_isEmpty_6 : decode cX3_isEmpty 6 = .ok (.iconst 0, 1) := by decide +kernel
theorem dX3_isEmpty_7 : decode cX3_isEmpty 7 = .ok (.iaload, 1) := by decide +kernel
theorem dX3_isEmpty_8 : decode cX3_isEmpty 8 = .ok (.iload_n 2, 1) := by decide +kernel
theorem dX3_isEmpty_9 : decode cX3_isEmpty 9 = .ok (.if_icmp .ne 15, 3) := by decide +kernel
theorem dX3_isEmpty_12 : decode cX3_isEmpty 12 = .ok (.aload_n 0, 1) := by decide +kernel
theorem dX3_isEmpty_13 : decode cX3_isEmpty 13 = .ok (.iload_n 1, 1) := by decide +kernel
theorem dX3_isEmpty_14 : decode cX3_isEmpty 14 = .ok (.invokevirtual 45, 3) := by decide +kernel
theorem dX3_isEmpty_17 : decode cX3_isEmpty 17 = .ok (.ifCond .ne 7, 3) := by decide +kernel
theorem dX3_isEmpty_20 : decode cX3_isEmpty 20 = .ok (.iconst 1, 1) := by decide +kernel
theorem dX3_isEmpty_21 : decode cX3_isEmpty 21 = .ok (.goto 4, 3) := by decide +kernel
theorem dX3_isEmpty_24 : decode cX3_isEmpty 24 = .ok (.iconst 0, 1) := by decide +kernel
theorem dX3_isEmpty_25 : decode cX3_isEmpty 25 = .ok (.ireturn, 1) := by decide +kernel
theorem dX3_hole_0 : decode cX3_hole 0 = .ok (.iconst 0, 1) := by decide +kernel
theorem dX3_hole_1 : decode cX3_hole 1 = .ok (.istore_n 2, 1) := by decide +kernel
theorem dX3_hole_2 : decode cX3_hole 2 = .ok (.iload_n 2, 1) := by decide +kernel
theorem dX3_hole_3 : decode cX3_hole 3 = .ok (.aload_n 0, 1) := by decide +kernel
theorem dX3_hole_4 : decode cX3_hole 4 = .ok (.getfield 21, 3) := by decide +kernel
theorem dX3_hole_7 : decode cX3_hole 7 = .ok (.iload_n 1, 1) := by decide +kernel
theorem dX3_hole_8 : decode cX3_hole 8 = .ok (.aaload, 1) := by decide +kernel
theorem dX3_hole_9 : decode cX3_hole 9 = .ok (.arraylength, 1) := by decide +kernel
theorem dX3_hole_10 : decode cX3_hole 10 = .ok (.if_icmp .ge 20, 3) := by decide +kernel
theorem dX3_hole_13 : decode cX3_hole 13 = .ok (.aload_n 0, 1) := by decide +kernel
theorem dX3_hole_14 : decode cX3_hole 14 = .ok (.getfield 21, 3) := by decide +kernel
theorem dX3_hole_17 : decode cX3_hole 17 = .ok (.iload_n 1, 1) := by decide +kernel
theorem dX3_hole_18 : decode cX3_hole 18 = .ok (.aaload, 1) := by decide +kernel
theorem dX3_hole_19 : decode cX3_hole 19 = .ok (.iload_n 2, 1) := by decide +kernel
theorem dX3_hole_20 : decode cX3_hole 20 = .ok (.baload, 1) := by decide +kernel
theorem dX3_hole_21 : decode cX3_hole 21 = .ok (.ifCond .eq 9, 3) := by decide +kernel
theorem dX3_hole_24 : decode cX3_hole 24 = .ok (.iinc 2 1, 3) := by decide +kernel
theorem dX3_hole_27 : decode cX3_hole 27 = .ok (.goto (-25), 3) := by decide +kernel
theorem dX3_hole_30 : decode cX3_hole 30 = .ok (.iload_n 2, 1) := by decide +kernel
theorem dX3_hole_31 : decode cX3_hole 31 = .ok (.aload_n 0, 1) := by decide +kernel
theorem dX3_hole_32 : decode cX3_hole 32 = .ok (.getfield 21, 3) := by decide +kernel
theorem dX3_hole_35 : decode cX3_hole 35 = .ok (.iload_n 1, 1) := by decide +kernel
theorem dX3_hole_36 : decode cX3_hole 36 = .ok (.aaload, 1) := by decide +kernel
theorem dX3_hole_37 : decode cX3_hole 37 = .ok (.arraylength, 1) := by decide +kernel
theorem dX3_hole_38 : decode cX3_hole 38 = .ok (.if_icmp .ge 7, 3) := by decide +kernel
theorem dX3_hole_41 : decode cX3_hole 41 = .ok (.iload_n 2, 1) := by decide +kernel
theorem dX3_hole_42 : decode cX3_hole 42 = .ok (.goto 4, 3) := by decide +kernel
theorem dX3_hole_45 : decode cX3_hole 45 = .ok (.iconst (-1), 1) := by decide +kernel
theorem dX3_hole_46 : decode cX3_hole 46 = .ok (.ireturn, 1) := by decide +kernel
theorem dX3_spot_0 : decode cX3_spot 0 = .ok (.bipush 24, 2) := by decide +kernel
theorem dX3_spot_2 : decode cX3_spot 2 = .ok (.iload_n 1, 1) := by decide +kernel
theorem dX3_spot_3 : decode cX3_spot 3 = .ok (.imul, 1) := by decide +kernel
theorem dX3_spot_4 : decode cX3_spot 4 = .ok (.aload_n 0, 1) := by decide +kernel
theorem dX3_spot_5 : decode cX3_spot 5 = .ok (.getfield 16, 3) := by decide +kernel
theorem dX3_spot_8 : decode cX3_spot 8 = .ok (.iload_n 1, 1) := by decide +kernel
theorem dX3_spot_9 : decode cX3_spot 9 = .ok (.aaload, 1) := by decide +kernel
theorem dX3_spot_10 : decode cX3_spot 10 = .ok (.iconst 1, 1) := by decide +kernel
theorem dX3_spot_11 : decode cX3_spot 11 = .ok (.iaload, 1) := by decide +kernel
theorem dX3_spot_12 : decode cX3_spot 12 = .ok (.iadd, 1) := by decide +kernel
theorem dX3_spot_13 : decode cX3_spot 13 = .ok (.iload_n 2, 1) := by decide +kernel
theorem dX3_spot_14 : decode cX3_spot 14 = .ok (.aload_n 0, 1) := by decide +kernel
theorem dX3_spot_15 : decode cX3_spot 15 = .ok (.getfield 9, 3) := by decide +kernel
theorem dX3_spot_18 : decode cX3_spot 18 = .ok (.aload_n 0, 1) := by decide +kernel
theorem dX3_spot_19 : decode cX3_spot 19 = .ok (.getfield 16, 3) := by decide +kernel
theorem dX3_spot_22 : decode cX3_spot 22 = .ok (.iload_n 1, 1) := by decide +kernel
theorem dX3_spot_23 : decode cX3_spot 23 = .ok (.aaload, 1) := by decide +kernel
theorem dX3_spot_24 : decode cX3_spot 24 = .ok (.iconst 0, 1) := by decide +kernel
theorem dX3_spot_25 : decode cX3_spot 25 = .ok (.iaload, 1) := by decide +kernel
theorem dX3_spot_26 : decode cX3_spot 26 = .ok (.aaload, 1) := by decide +kernel
theorem dX3_spot_27 : decode cX3_spot 27 = .ok (.iconst 0, 1) := by decide +kernel
theorem dX3_spot_28 : decode cX3_spot 28 = .ok (.iaload, 1) := by decide +kernel
theorem dX3_spot_29 : decode cX3_spot 29 = .ok (.imul, 1) := by decide +kernel
theorem dX3_spot_30 : decode cX3_spot 30 = .ok (.iadd, 1) := by decide +kernel
theorem dX3_spot_31 : decode cX3_spot 31 = .ok (.ireturn, 1) := by decide +kernel
theorem dX3_puts_0 : decode cX3_puts 0 = .ok (.iconst (-1), 1) := by decide +kernel
theorem dX3_puts_1 : decode cX3_puts 1 = .ok (.istore_n 2, 1) := by decide +kernel
theorem dX3_puts_2 : decode cX3_puts 2 = .ok (.bipush 11, 2) := by decide +kernel
theorem dX3_puts_4 : decode cX3_puts 4 = .ok (.istore_n 3, 1) := by decide +kernel
theorem dX3_puts_5 : decode cX3_puts 5 = .ok (.iload_n 3, 1) := by decide +kernel
theorem dX3_puts_6 : decode cX3_puts 6 = .ok (.ifCond .lt 78, 3) := by decide +kernel
theorem dX3_puts_9 : decode cX3_puts 9 = .ok (.aload_n 0, 1) := by decide +kernel
theorem dX3_puts_10 : decode cX3_puts 10 = .ok (.iload_n 3, 1) := by decide +kernel
theorem dX3_puts_11 : decode cX3_puts 11 = .ok (.iload_n 1, 1) := by decide +kernel
theorem dX3_puts_12 : decode cX3_puts 12 = .ok (.invokevirtual 49, 3) := by decide +kernel
theorem dX3_puts_15 : decode cX3_puts 15 = .ok (.ifCond .ne 6, 3) := by decide +kernel
theorem dX3_puts_18 : decode cX3_puts 18 = .ok (.goto 60, 3) := by decide +kernel
theorem dX3_puts_21 : decode cX3_puts 21 = .ok (.iload_n 2, 1) := by decide +kernel
theorem dX3_puts_22 : decode cX3_puts 22 = .ok (.ifCond .lt 10, 3) := by decide +kernel
theorem dX3_puts_25 : decode cX3_puts 25 = .ok (.aload_n 0, 1) := by decide +kernel
theorem dX3_puts_26 : decode cX3_puts 26 = .ok (.getfield 29, 3) := by decide +kernel
theorem dX3_puts_29 : decode cX3_puts 29 = .ok (.ifCond .ne 7, 3) := by decide +kernel
theorem dX3_puts_32 : decode cX3_puts 32 = .ok (.iconst 0, 1) := by decide +kernel
theorem dX3_puts_33 : decode cX3_puts 33 = .ok (.goto 36, 3) := by decide +kernel
theorem dX3_puts_36 : decode cX3_puts 36 = .ok (.aload_n 0, 1) := by decide +kernel
theorem dX3_puts_37 : decode cX3_puts 37 = .ok (.getfield 29, 3) := by decide +kernel
theorem dX3_puts_40 : decode cX3_puts 40 = .ok (.iconst 1, 1) := by decide +kernel
theorem dX3_puts_41 : decode cX3_puts 41 = .ok (.if_icmp .ne 17, 3) := by decide +kernel
theorem dX3_puts_44 : decode cX3_puts 44 = .ok (.aload_n 0, 1) := by decide +kernel
theorem dX3_puts_45 : decode cX3_puts 45 = .ok (.iload_n 3, 1) := by decide +kernel
theorem dX3_puts_46 : decode cX3_puts 46 = .ok (.invokevirtual 45, 3) := by decide +kernel
theorem dX3_puts_49 : decode cX3_puts 49 = .ok (.aload_n 0, 1) := by decide +kernel
theorem dX3_puts_50 : decode cX3_puts 50 = .ok (.iload_n 2, 1) := by decide +kernel
theorem dX3_puts_51 : decode cX3_puts 51 = .ok (.invokevirtual 45, 3) := by decide +kernel
theorem dX3_puts_54 : decode cX3_puts 54 = .ok (.isub, 1) := by decide +kernel
theorem dX3_puts_55 : decode cX3_puts 55 = .ok (.goto 14, 3) := by decide +kernel
theorem dX3_puts_58 : decode cX3_puts 58 = .ok (.aload_n 0, 1) := by decide +kernel
theorem dX3_puts_59 : decode cX3_puts 59 = .ok (.iload_n 2, 1) := by decide +kernel
theorem dX3_puts_60 : decode cX3_puts 60 = .ok (.invokevirtual 45, 3) := by decide +kernel
theorem dX3_puts_63 : decode cX3_puts 63 = .ok (.aload_n 0, 1) := by decide +kernel
theorem dX3_puts_64 : decode cX3_puts 64 = .ok (.iload_n 3, 1) := by decide +kernel
theorem dX3_puts_65 : decode cX3_puts 65 = .ok (.invokevirtual 45, 3) := by decide +kernel
theorem dX3_puts_68 : decode cX3_puts 68 = .ok (.isub, 1) := by decide +kernel
theorem dX3_puts_69 : decode cX3_puts 69 = .ok (.istore 4, 2) := by decide +kernel
theorem dX3_puts_71 : decode cX3_puts 71 = .ok (.iload 4, 2) := by decide +kernel
theorem dX3_puts_73 : decode cX3_puts 73 = .ok (.ifCond .lt 5, 3) := by decide +kernel
theorem dX3_puts_76 : decode cX3_puts 76 = .ok (.iload_n 3, 1) := by decide +kernel
theorem dX3_puts_77 : decode cX3_puts 77 = .ok (.istore_n 2, 1) := by decide +kernel
theorem dX3_puts_78 : decode cX3_puts 78 = .ok (.iinc 3 (-1), 3) := by decide +kernel
theorem dX3_puts_81 : decode cX3_puts 81 = .ok (.goto (-76), 3) := by decide +kernel
theorem dX3_puts_84 : decode cX3_puts 84 = .ok (.bipush 11, 2) := by decide +kernel
theorem dX3_puts_86 : decode cX3_puts 86 = .ok (.istore_n 3, 1) := by decide +kernel
theorem dX3_puts_87 : decode cX3_puts 87 = .ok (.iload_n 3, 1) := by decide +kernel
theorem dX3_puts_88 : decode cX3_puts 88 = .ok (.ifCond .lt 32, 3) := by decide +kernel
theorem dX3_puts_91 : decode cX3_puts 91 = .ok (.iload_n 2, 1) := by decide +kernel
theorem dX3_puts_92 : decode cX3_puts 92 = .ok (.ifCond .lt 11, 3) := by decide +kernel
theorem dX3_puts_95 : decode cX3_puts 95 = .ok (.aload_n 0, 1) := by decide +kernel
theorem dX3_puts_96 : decode cX3_puts 96 = .ok (.iload_n 2, 1) := by decide +kernel
theorem dX3_puts_97 : decode cX3_puts 97 = .ok (.invokevirtual 45, 3) := by decide +kernel
theorem dX3_puts_100 : decode cX3_puts 100 = .ok (.ifCond .ne 14, 3) := by decide +kernel
theorem dX3_puts_103 : decode cX3_puts 103 = .ok (.aload_n 0, 1) := by decide +kernel
theorem dX3_puts_104 : decode cX3_puts 104 = .ok (.iload_n 3, 1) := by decide +kernel
theorem dX3_puts_105 : decode cX3_puts 105 = .ok (.iload_n 1, 1) := by decide +kernel
theorem dX3_puts_106 : decode cX3_puts 106 = .ok (.invokevirtual 53, 3) := by decide +kernel
theorem dX3_puts_109 : decode cX3_puts 109 = .ok (.ifCond .eq 5, 3) := by decide +kernel
theorem dX3_puts_112 : decode cX3_puts 112 = .ok (.iload_n 3, 1) := by decide +kernel
theorem dX3_puts_113 : decode cX3_puts 113 = .ok (.istore_n 2, 1) := by decide +kernel
theorem dX3_puts_114 : decode cX3_puts 114 = .ok (.iinc 3 (-1), 3) := by decide +kernel
theorem dX3_puts_117 : decode cX3_puts 117 = .ok (.goto (-30), 3) := by decide +kernel
theorem dX3_puts_120 : decode cX3_puts 120 = .ok (.iload_n 2, 1) := by decide +kernel
theorem dX3_puts_121 : decode cX3_puts 121 = .ok (.ifCond .ge 103, 3) := by decide +kernel
theorem dX3_puts_124 : decode cX3_puts 124 = .ok (.iconst 0, 1) := by decide +kernel
theorem dX3_puts_125 : decode cX3_puts 125 = .ok (.istore_n 2, 1) := by decide +kernel
theorem dX3_puts_126 : decode cX3_puts 126 = .ok (.iload_n 2, 1) := by decide +kernel
theorem dX3_puts_127 : decode cX3_puts 127 = .ok (.bipush 12, 2) := by decide +kernel
theorem dX3_puts_129 : decode cX3_puts 129 = .ok (.if_icmp .ge 20, 3) := by decide +kernel
theorem dX3_puts_132 : decode cX3_puts 132 = .ok (.aload_n 0, 1) := by decide +kernel
theorem dX3_puts_133 : decode cX3_puts 133 = .ok (.getfield 16, 3) := by decide +kernel
theorem dX3_puts_136 : decode cX3_puts 136 = .ok (.iload_n 2, 1) := by decide +kernel
theorem dX3_puts_137 : decode cX3_puts 137 = .ok (.aaload, 1) := by decide +kernel
theorem dX3_puts_138 : decode cX3_puts 138 = .ok (.iconst 0, 1) := by decide +kernel
theorem dX3_puts_139 : decode cX3_puts 139 = .ok (.iaload, 1) := by decide +kernel
theorem dX3_puts_140 : decode cX3_puts 140 = .ok (.ifCond .lt 9, 3) := by decide +kernel
theorem dX3_puts_143 : decode cX3_puts 143 = .ok (.iinc 2 1, 3) := by decide +kernel
theorem dX3_puts_146 : decode cX3_puts 146 = .ok (.goto (-20), 3) := by decide +kernel
theorem dX3_puts_149 : decode cX3_puts 149 = .ok (.iload_n 2, 1) := by decide +kernel
theorem dX3_puts_150 : decode cX3_puts 150 = .ok (.bipush 12, 2) := by decide +kernel
theorem dX3_puts_152 : decode cX3_puts 152 = .ok (.if_icmp .ne 5, 3) := by decide +kernel
theorem dX3_puts_155 : decode cX3_puts 155 = .ok (.iconst (-1), 1) := by decide +kernel
theorem dX3_puts_156 : decode cX3_puts 156 = .ok (.ireturn, 1) := by decide +kernel
theorem dX3_puts_157 : decode cX3_puts 157 = .ok (.aload_n 0, 1) := by decide +kernel
theorem dX3_puts_158 : decode cX3_puts 158 = .ok (.getfield 9, 3) := by decide +kernel
theorem dX3_puts_161 : decode cX3_puts 161 = .ok (.iload_n 1, 1) := by decide +kernel
theorem dX3_puts_162 : decode cX3_puts 162 = .ok (.aaload, 1) := by decide +kernel
theorem dX3_puts_163 : decode cX3_puts 163 = .ok (.astore_n 3, 1) := by decide +kernel
theorem dX3_puts_164 : decode cX3_puts 164 = .ok (.aload_n 0, 1) := by decide +kernel
theorem dX3_puts_165 : decode cX3_puts 165 = .ok (.getfield 16, 3) := by decide +kernel
theorem dX3_puts_168 : decode cX3_puts 168 = .ok (.iload_n 2, 1) := by decide +kernel
theorem dX3_puts_169 : decode cX3_puts 169 = .ok (.iconst 3, 1) := by decide +kernel
theorem dX3_puts_170 : decode cX3_puts 170 = .ok (.newarray .int, 2) := by decide +kernel
theorem dX3_puts_172 : decode cX3_puts 172 = .ok (.dup, 1) := by decide +kernel
theorem dX3_puts_173 : decode cX3_puts 173 = .ok (.iconst 0, 1) := by decide +kernel
theorem dX3_puts_174 : decode cX3_puts 174 = .ok (.iload_n 1, 1) := by decide +kernel
theorem dX3_puts_175 : decode cX3_puts 175 = .ok (.iastore, 1) := by decide +kernel
theorem dX3_puts_176 : decode cX3_puts 176 = .ok (.dup, 1) := by decide +kernel
theorem dX3_puts_177 : decode cX3_puts 177 = .ok (.iconst 1, 1) := by decide +kernel
theorem dX3_puts_178 : decode cX3_puts 178 = .ok (.aload_n 3, 1) := by decide +kernel
theorem dX3_puts_179 : decode cX3_puts 179 = .ok (.iconst 1, 1) := by decide +kernel
theorem dX3_puts_180 : decode cX3_puts 180 = .ok (.iaload, 1) := by decide +kernel
theorem dX3_puts_181 : decode cX3_puts 181 = .ok (.bipush 24, 2) := by decide +kernel
theorem dX3_puts_183 : decode cX3_puts 183 = .ok (.bipush 24, 2) := by decide +kernel
theorem dX3_puts_185 : decode cX3_puts 185 = .ok (.aload_n 3, 1) := by decide +kernel
theorem dX3_puts_186 : decode cX3_puts 186 = .ok (.iconst 0, 1) := by decide +kernel
theorem dX3_puts_187 : decode cX3_puts 187 = .ok (.iaload, 1) := by decide +kernel
theorem dX3_puts_188 : decode cX3_puts 188 = .ok (.idiv, 1) := by decide +kernel
theorem dX3_puts_189 : decode cX3_puts 189 = .ok (.aload_n 3, 1) := by decide +kernel
theorem dX3_puts_190 : decode cX3_puts 190 = .ok (.iconst 0, 1) := by decide +kernel
theorem dX3_puts_191 : decode cX3_puts 191 = .ok (.iaload, 1) := by decide +kernel
theorem dX3_puts_192 : decode cX3_puts 192 = .ok (.imul, 1) := by decide +kernel
theorem dX3_puts_193 : decode cX3_puts 193 = .ok (.isub, 1) := by decide +kernel
theorem dX3_puts_194 : decode cX3_puts 194 = .ok (.iconst 1, 1) := by decide +kernel
theorem dX3_puts_195 : decode cX3_puts 195 = .ok (.iadd, 1) := by decide +kernel
theorem dX3_puts_196 : decode cX3_puts 196 = .ok (.irem, 1) := by decide +kernel
theorem dX3_puts_197 : decode cX3_puts 197 = .ok (.iastore, 1) := by decide +kernel
theorem dX3_puts_198 : decode cX3_puts 198 = .ok (.dup, 1) := by decide +kernel
theorem dX3_puts_199 : decode cX3_puts 199 = .ok (.iconst 2, 1) := by decide +kernel
theorem dX3_puts_200 : decode cX3_puts 200 = .ok (.iconst (-1), 1) := by decide +kernel
theorem dX3_puts_201 : decode cX3_puts 201 = .ok (.iastore, 1) := by decide +kernel
theorem dX3_puts_202 : decode cX3_puts 202 = .ok (.aastore, 1) := by decide +kernel
theorem dX3_puts_203 : decode cX3_puts 203 = .ok (.aload_n 0, 1) := by decide +kernel
theorem dX3_puts_204 : decode cX3_puts 204 = .ok (.getfield 21, 3) := by decide +kernel
theorem dX3_puts_207 : decode cX3_puts 207 = .ok (.iload_n 2, 1) := by decide +kernel
theorem dX3_puts_208 : decode cX3_puts 208 = .ok (.bipush 24, 2) := by decide +kernel
theorem dX3_puts_210 : decode cX3_puts 210 = .ok (.aload_n 3, 1) := by decide +kernel
theorem dX3_puts_211 : decode cX3_puts 211 = .ok (.iconst 0, 1) := by decide +kernel
theorem dX3_puts_212 : decode cX3_puts 212 = .ok (.iaload, 1) := by decide +kernel
theorem dX3_puts_213 : decode cX3_puts 213 = .ok (.idiv, 1) := by decide +kernel
theorem dX3_puts_214 : decode cX3_puts 214 = .ok (.newarray .boolean, 2) := by decide +kernel
theorem dX3_puts_216 : decode cX3_puts 216 = .ok (.aastore, 1) := by decide +kernel
theorem dX3_puts_217 : decode cX3_puts 217 = .ok (.aload_n 3, 1) := by decide +kernel
theorem dX3_puts_218 : decode cX3_puts 218 = .ok (.iconst 1, 1) := by decide +kernel
theorem dX3_puts_219 : decode cX3_puts 219 = .ok (.dup2, 1) := by decide +kernel
theorem dX3_puts_220 : decode cX3_puts 220 = .ok (.iaload, 1) := by decide +kernel
theorem dX3_puts_221 : decode cX3_puts 221 = .ok (.iconst 1, 1) := by decide +kernel
theorem dX3_puts_222 : decode cX3_puts 222 = .ok (.iadd, 1) := by decide +kernel
theorem dX3_puts_223 : decode cX3_puts 223 = .ok (.iastore, 1) := by decide +kernel
theorem dX3_puts_224 : decode cX3_puts 224 = .ok (.aload_n 0, 1) := by decide +kernel
theorem dX3_puts_225 : decode cX3_puts 225 = .ok (.iload_n 2, 1) := by decide +kernel
theorem dX3_puts_226 : decode cX3_puts 226 = .ok (.invokevirtual 56, 3) := by decide +kernel
theorem dX3_puts_229 : decode cX3_puts 229 = .ok (.istore_n 3, 1) := by decide +kernel
theorem dX3_puts_230 : decode cX3_puts 230 = .ok (.aload_n 0, 1) := by decide +kernel
theorem dX3_puts_231 : decode cX3_puts 231 = .ok (.getfield 21, 3) := by decide +kernel
theorem dX3_puts_234 : decode cX3_puts 234 = .ok (.iload_n 2, 1) := by decide +kernel
theorem dX3_puts_235 : decode cX3_puts 235 = .ok (.aaload, 1) := by decide +kernel
theorem dX3_puts_236 : decode cX3_puts 236 = .ok (.iload_n 3, 1) := by decide +kernel
theorem dX3_puts_237 : decode cX3_puts 237 = .ok (.iconst 1, 1) := by decide +kernel
theorem dX3_puts_238 : decode cX3_puts 238 = .ok (.bastore, 1) := by decide +kernel
theorem dX3_puts_239 : decode cX3_puts 239 = .ok (.aload_n 0, 1) := by decide +kernel
theorem dX3_puts_240 : decode cX3_puts 240 = .ok (.getfield 16, 3) := by decide +kernel
theorem dX3_puts_243 : decode cX3_puts 243 = .ok (.iload_n 2, 1) := by decide +kernel
theorem dX3_puts_244 : decode cX3_puts 244 = .ok (.aaload, 1) := by decide +kernel
theorem dX3_puts_245 : decode cX3_puts 245 = .ok (.iconst 2, 1) := by decide +kernel
theorem dX3_puts_246 : decode cX3_puts 246 = .ok (.iconst (-1), 1) := by decide +kernel
theorem dX3_puts_247 : decode cX3_puts 247 = .ok (.iastore, 1) := by decide +kernel
theorem dX3_puts_248 : decode cX3_puts 248 = .ok (.aload_n 0, 1) := by decide +kernel
theorem dX3_puts_249 : decode cX3_puts 249 = .ok (.dup, 1) := by decide +kernel
theorem dX3_puts_250 : decode cX3_puts 250 = .ok (.getfield 25, 3) := by decide +kernel
theorem dX3_puts_253 : decode cX3_puts 253 = .ok (.iconst 1, 1) := by decide +kernel
theorem dX3_puts_254 : decode cX3_puts 254 = .ok (.iadd, 1) := by decide +kernel
theorem dX3_puts_255 : decode cX3_puts 255 = .ok (.putfield 25, 3) := by decide +kernel
theorem dX3_puts_258 : decode cX3_puts 258 = .ok (.aload_n 0, 1) := by decide +kernel
theorem dX3_puts_259 : decode cX3_puts 259 = .ok (.dup, 1) := by decide +kernel
theorem dX3_puts_260 : decode cX3_puts 260 = .ok (.getfield 32, 3) := by decide +kernel
theorem dX3_puts_263 : decode cX3_puts 263 = .ok (.iconst 1, 1) := by decide +kernel
theorem dX3_puts_264 : decode cX3_puts 264 = .ok (.iadd, 1) := by decide +kernel
theorem dX3_puts_265 : decode cX3_puts 265 = .ok (.putfield 32, 3) := by decide +kernel
theorem dX3_puts_268 : decode cX3_puts 268 = .ok (.aload_n 0, 1) := by decide +kernel
theorem dX3_puts_269 : decode cX3_puts 269 = .ok (.iload_n 2, 1) := by decide +kernel
theorem dX3_puts_270 : decode cX3_puts 270 = .ok (.iload_n 3, 1) := by decide +kernel
theorem dX3_puts_271 : decode cX3_puts 271 = .ok (.invokevirtual 59, 3) := by decide +kernel
theorem dX3_puts_274 : decode cX3_puts 274 = .ok (.ireturn, 1) := by decide +kernel
theorem dX3_takes_0 : decode cX3_takes 0 = .ok (.iload_n 1, 1) := by decide +kernel
theorem dX3_takes_1 : decode cX3_takes 1 = .ok (.bipush 24, 2) := by decide +kernel
theorem dX3_takes_3 : decode cX3_takes 3 = .ok (.idiv, 1) := by decide +kernel
theorem dX3_takes_4 : decode cX3_takes 4 = .ok (.istore_n 2, 1) := by decide +kernel
theorem dX3_takes_5 : decode cX3_takes 5 = .ok (.iconst 0, 1) := by decide +kernel
theorem dX3_takes_6 : decode cX3_takes 6 = .ok (.istore_n 3, 1) := by decide +kernel
theorem dX3_takes_7 : decode cX3_takes 7 = .ok (.iload_n 3, 1) := by decide +kernel
theorem dX3_takes_8 : decode cX3_takes 8 = .ok (.aload_n 0, 1) := by decide +kernel
theorem dX3_takes_9 : decode cX3_takes 9 = .ok (.getfield 21, 3) := by decide +kernel
theorem dX3_takes_12 : decode cX3_takes 12 = .ok (.iload_n 2, 1) := by decide +kernel
theorem dX3_takes_13 : decode cX3_takes 13 = .ok (.aaload, 1) := by decide +kernel
theorem dX3_takes_14 : decode cX3_takes 14 = .ok (.arraylength, 1) := by decide +kernel
theorem dX3_takes_15 : decode cX3_takes 15 = .ok (.if_icmp .ge 78, 3) := by decide +kernel
theorem dX3_takes_18 : decode cX3_takes 18 = .ok (.aload_n 0, 1) := by decide +kernel
theorem dX3_takes_19 : decode cX3_takes 19 = .ok (.getfield 21, 3) := by decide +kernel
theorem dX3_takes_22 : decode cX3_takes 22 = .ok (.iload_n 2, 1) := by decide +kernel
theorem dX3_takes_23 : decode cX3_takes 23 = .ok (.aaload, 1) := by decide +kernel
theorem dX3_takes_24 : decode cX3_takes 24 = .ok (.iload_n 3, 1) := by decide +kernel
theorem dX3_takes_25 : decode cX3_takes 25 = .ok (.baload, 1) := by decide +kernel
theorem dX3_takes_26 : decode cX3_takes 26 = .ok (.ifCond .eq 61, 3) := by decide +kernel
theorem dX3_takes_29 : decode cX3_takes 29 = .ok (.aload_n 0, 1) := by decide +kernel
theorem dX3_takes_30 : decode cX3_takes 30 = .ok (.iload_n 2, 1) := by decide +kernel
theorem dX3_takes_31 : decode cX3_takes 31 = .ok (.iload_n 3, 1) := by decide +kernel
theorem dX3_takes_32 : decode cX3_takes 32 = .ok (.invokevirtual 59, 3) := by decide +kernel
theorem dX3_takes_35 : decode cX3_takes 35 = .ok (.iload_n 1, 1) := by decide +kernel
theorem dX3_takes_36 : decode cX3_takes 36 = .ok (.if_icmp .eq 6, 3) := by decide +kernel
theorem dX3_takes_39 : decode cX3_takes 39 = .ok (.goto 48, 3) := by decide +kernel
theorem dX3_takes_42 : decode cX3_takes 42 = .ok (.aload_n 0, 1) := by decide +kernel
theorem dX3_takes_43 : decode cX3_takes 43 = .ok (.getfield 21, 3) := by decide +kernel
theorem dX3_takes_46 : decode cX3_takes 46 = .ok (.iload_n 2, 1) := by decide +kernel
theorem dX3_takes_47 : decode cX3_takes 47 = .ok (.aaload, 1) := by decide +kernel
theorem dX3_takes_48 : decode cX3_takes 48 = .ok (.iload_n 3, 1) := by decide +kernel
theorem dX3_takes_49 : decode cX3_takes 49 = .ok (.iconst 0, 1) := by decide +kernel
theorem dX3_takes_50 : decode cX3_takes 50 = .ok (.bastore, 1) := by decide +kernel
theorem dX3_takes_51 : decode cX3_takes 51 = .ok (.aload_n 0, 1) := by decide +kernel
theorem dX3_takes_52 : decode cX3_takes 52 = .ok (.dup, 1) := by decide +kernel
theorem dX3_takes_53 : decode cX3_takes 53 = .ok (.getfield 25, 3) := by decide +kernel
theorem dX3_takes_56 : decode cX3_takes 56 = .ok (.iconst 1, 1) := by decide +kernel
theorem dX3_takes_57 : decode cX3_takes 57 = .ok (.iadd, 1) := by decide +kernel
theorem dX3_takes_58 : decode cX3_takes 58 = .ok (.putfield 25, 3) := by decide +kernel
theorem dX3_takes_61 : decode cX3_takes 61 = .ok (.aload_n 0, 1) := by decide +kernel
theorem dX3_takes_62 : decode cX3_takes 62 = .ok (.iload_n 2, 1) := by decide +kernel
theorem dX3_takes_63 : decode cX3_takes 63 = .ok (.invokevirtual 45, 3) := by decide +kernel
theorem dX3_takes_66 : decode cX3_takes 66 = .ok (.ifCond .ne 15, 3) := by decide +kernel
theorem dX3_takes_69 : decode cX3_takes 69 = .ok (.aload_n 0, 1) := by decide +kernel
theorem dX3_takes_70 : decode cX3_takes 70 = .ok (.getfield 16, 3) := by decide +kernel
theorem dX3_takes_73 : decode cX3_takes 73 = .ok (.iload_n 2, 1) := by decide +kernel
theorem dX3_takes_74 : decode cX3_takes 74 = .ok (.aaload, 1) := by decide +kernel
theorem dX3_takes_75 : decode cX3_takes 75 = .ok (.iconst 2, 1) := by decide +kernel
theorem dX3_takes_76 : decode cX3_takes 76 = .ok (.aload_n 0, 1) := by decide +kernel
theorem dX3_takes_77 : decode cX3_takes 77 = .ok (.getfield 25, 3) := by decide +kernel
theorem dX3_takes_80 : decode cX3_takes 80 = .ok (.iastore, 1) := by decide +kernel
theorem dX3_takes_81 : decode cX3_takes 81 = .ok (.aload_n 0, 1) := by decide +kernel
theorem dX3_takes_82 : decode cX3_takes 82 = .ok (.iload_n 2, 1) := by decide +kernel
theorem dX3_takes_83 : decode cX3_takes 83 = .ok (.invokevirtual 45, 3) := by decide +kernel
theorem dX3_takes_86 : decode cX3_takes 86 = .ok (.ireturn, 1) := by decide +kernel
theorem dX3_takes_87 : decode cX3_takes 87 = .ok (.iinc 3 1, 3) := by decide +kernel
theorem dX3_takes_90 : decode cX3_takes 90 = .ok (.goto (-83), 3) := by decide +kernel
theorem dX3_takes_93 : decode cX3_takes 93 = .ok (.iconst (-1), 1) := by decide +kernel
theorem dX3_takes_94 : decode cX3_takes 94 = .ok (.ireturn, 1) := by decide +kernel
theorem dX3_reaps_0 : decode cX3_reaps 0 = .ok (.iconst 0, 1) := by decide +kernel
theorem dX3_reaps_1 : decode cX3_reaps 1 = .ok (.istore_n 2, 1) := by decide +kernel
theorem dX3_reaps_2 : decode cX3_reaps 2 = .ok (.iconst 0, 1) := by decide +kernel
theorem dX3_reaps_3 : decode cX3_reaps 3 = .ok (.istore_n 3, 1) := by decide +kernel
theorem dX3_reaps_4 : decode cX3_reaps 4 = .ok (.iload_n 3, 1) := by decide +kernel
theorem dX3_reaps_5 : decode cX3_reaps 5 = .ok (.bipush 12, 2) := by decide +kernel
theorem dX3_reaps_7 : decode cX3_reaps 7 = .ok (.if_icmp .ge 73, 3) := by decide +kernel
theorem dX3_reaps_10 : decode cX3_reaps 10 = .ok (.aload_n 0, 1) := by decide +kernel
theorem dX3_reaps_11 : decode cX3_reaps 11 = .ok (.getfield 16, 3) := by decide +kernel
theorem dX3_reaps_14 : decode cX3_reaps 14 = .ok (.iload_n 3, 1) := by decide +kernel
theorem dX3_reaps_15 : decode cX3_reaps 15 = .ok (.aaload, 1) := by decide +kernel
theorem dX3_reaps_16 : decode cX3_reaps 16 = .ok (.iconst 2, 1) := by decide +kernel
theorem dX3_reaps_17 : decode cX3_reaps 17 = .ok (.iaload, 1) := by decide +kernel
theorem dX3_reaps_18 : decode cX3_reaps 18 = .ok (.ifCond .lt 56, 3) := by decide +kernel
theorem dX3_reaps_21 : decode cX3_reaps 21 = .ok (.aload_n 0, 1) := by decide +kernel
theorem dX3_reaps_22 : decode cX3_reaps 22 = .ok (.getfield 25, 3) := by decide +kernel
theorem dX3_reaps_25 : decode cX3_reaps 25 = .ok (.aload_n 0, 1) := by decide +kernel
theorem dX3_reaps_26 : decode cX3_reaps 26 = .ok (.getfield 16, 3) := by decide +kernel
theorem dX3_reaps_29 : decode cX3_reaps 29 = .ok (.iload_n 3, 1) := by decide +kernel
theorem dX3_reaps_30 : decode cX3_reaps 30 = .ok (.aaload, 1) := by decide +kernel
theorem dX3_reaps_31 : decode cX3_reaps 31 = .ok (.iconst 2, 1) := by decide +kernel
theorem dX3_reaps_32 : decode cX3_reaps 32 = .ok (.iaload, 1) := by decide +kernel
theorem dX3_reaps_33 : decode cX3_reaps 33 = .ok (.iload_n 1, 1) := by decide +kernel
theorem dX3_reaps_34 : decode cX3_reaps 34 = .ok (.iadd, 1) := by decide +kernel
theorem dX3_reaps_35 : decode cX3_reaps 35 = .ok (.if_icmp .ge 6, 3) := by decide +kernel
theorem dX3_reaps_38 : decode cX3_reaps 38 = .ok (.goto 36, 3) := by decide +kernel
theorem dX3_reaps_41 : decode cX3_reaps 41 = .ok (.aload_n 0, 1) := by decide +kernel
theorem dX3_reaps_42 : decode cX3_reaps 42 = .ok (.getfield 16, 3) := by decide +kernel
theorem dX3_reaps_45 : decode cX3_reaps 45 = .ok (.iload_n 3, 1) := by decide +kernel
theorem dX3_reaps_46 : decode cX3_reaps 46 = .ok (.iconst 3, 1) := by decide +kernel
theorem dX3_reaps_47 : decode cX3_reaps 47 = .ok (.newarray .int, 2) := by decide +kernel
theorem dX3_reaps_49 : decode cX3_reaps 49 = .ok (.dup, 1) := by decide +kernel
theorem dX3_reaps_50 : decode cX3_reaps 50 = .ok (.iconst 0, 1) := by decide +kernel
theorem dX3_reaps_51 : decode cX3_reaps 51 = .ok (.iconst (-1), 1) := by decide +kernel
theorem dX3_reaps_52 : decode cX3_reaps 52 = .ok (.iastore, 1) := by decide +kernel
theorem dX3_reaps_53 : decode cX3_reaps 53 = .ok (.dup, 1) := by decide +kernel
theorem dX3_reaps_54 : decode cX3_reaps 54 = .ok (.iconst 1, 1) := by decide +kernel
theorem dX3_reaps_55 : decode cX3_reaps 55 = .ok (.iconst 0, 1) := by decide +kernel
theorem dX3_reaps_56 : decode cX3_reaps 56 = .ok (.iastore, 1) := by decide +kernel
theorem dX3_reaps_57 : decode cX3_reaps 57 = .ok (.dup, 1) := by decide +kernel
theorem dX3_reaps_58 : decode cX3_reaps 58 = .ok (.iconst 2, 1) := by decide +kernel
theorem dX3_reaps_59 : decode cX3_reaps 59 = .ok (.iconst (-1), 1) := by decide +kernel
theorem dX3_reaps_60 : decode cX3_reaps 60 = .ok (.iastore, 1) := by decide +kernel
theorem dX3_reaps_61 : decode cX3_reaps 61 = .ok (.aastore, 1) := by decide +kernel
theorem dX3_reaps_62 : decode cX3_reaps 62 = .ok (.aload_n 0, 1) := by decide +kernel
theorem dX3_reaps_63 : decode cX3_reaps 63 = .ok (.getfield 21, 3) := by decide +kernel
theorem dX3_reaps_66 : decode cX3_reaps 66 = .ok (.iload_n 3, 1) := by decide +kernel
theorem dX3_reaps_67 : decode cX3_reaps 67 = .ok (.iconst 0, 1) := by decide +kernel
theorem dX3_reaps_68 : decode cX3_reaps 68 = .ok (.newarray .boolean, 2) := by decide +kernel
theorem dX3_reaps_70 : decode cX3_reaps 70 = .ok (.aastore, 1) := by decide +kernel
theorem dX3_reaps_71 : decode cX3_reaps 71 = .ok (.iinc 2 1, 3) := by decide +kernel
theorem dX3_reaps_74 : decode cX3_reaps 74 = .ok (.iinc 3 1, 3) := by decide +kernel
theorem dX3_reaps_77 : decode cX3_reaps 77 = .ok (.goto (-73), 3) := by decide +kernel
theorem dX3_reaps_80 : decode cX3_reaps 80 = .ok (.iload_n 2, 1) := by decide +kernel
theorem dX3_reaps_81 : decode cX3_reaps 81 = .ok (.ireturn, 1) := by decide +kernel
theorem dX3_packs_0 : decode cX3_packs 0 = .ok (.iconst 0, 1) := by decide +kernel
theorem dX3_packs_1 : decode cX3_packs 1 = .ok (.istore_n 2, 1) := by decide +kernel
theorem dX3_packs_2 : decode cX3_packs 2 = .ok (.iconst (-1), 1) := by decide +kernel
theorem dX3_packs_3 : decode cX3_packs 3 = .ok (.istore_n 3, 1) := by decide +kernel
theorem dX3_packs_4 : decode cX3_packs 4 = .ok (.iconst (-1), 1) := by decide +kernel
theorem dX3_packs_5 : decode cX3_packs 5 = .ok (.istore 4, 2) := by decide +kernel
theorem dX3_packs_7 : decode cX3_packs 7 = .ok (.iconst 0, 1) := by decide +kernel
theorem dX3_packs_8 : decode cX3_packs 8 = .ok (.istore 5, 2) := by decide +kernel
theorem dX3_packs_10 : decode cX3_packs 10 = .ok (.iload 5, 2) := by decide +kernel
theorem dX3_packs_12 : decode cX3_packs 12 = .ok (.bipush 12, 2) := by decide +kernel
theorem dX3_packs_14 : decode cX3_packs 14 = .ok (.if_icmp .ge 40, 3) := by decide +kernel
theorem dX3_packs_17 : decode cX3_packs 17 = .ok (.aload_n 0, 1) := by decide +kernel
theorem dX3_packs_18 : decode cX3_packs 18 = .ok (.iload 5, 2) := by decide +kernel
theorem dX3_packs_20 : decode cX3_packs 20 = .ok (.iload_n 1, 1) := by decide +kernel
theorem dX3_packs_21 : decode cX3_packs 21 = .ok (.invokevirtual 49, 3) := by decide +kernel
theorem dX3_packs_24 : decode cX3_packs 24 = .ok (.ifCond .eq 24, 3) := by decide +kernel
theorem dX3_packs_27 : decode cX3_packs 27 = .ok (.iload_n 3, 1) := by decide +kernel
theorem dX3_packs_28 : decode cX3_packs 28 = .ok (.ifCond .lt 17, 3) := by decide +kernel
theorem dX3_packs_31 : decode cX3_packs 31 = .ok (.aload_n 0, 1) := by decide +kernel
theorem dX3_packs_32 : decode cX3_packs 32 = .ok (.iload 5, 2) := by decide +kernel
theorem dX3_packs_34 : decode cX3_packs 34 = .ok (.invokevirtual 45, 3) := by decide +kernel
theorem dX3_packs_37 : decode cX3_packs 37 = .ok (.aload_n 0, 1) := by decide +kernel
theorem dX3_packs_38 : decode cX3_packs 38 = .ok (.iload_n 3, 1) := by decide +kernel
theorem dX3_packs_39 : decode cX3_packs 39 = .ok (.invokevirtual 45, 3) := by decide +kernel
theorem dX3_packs_42 : decode cX3_packs 42 = .ok (.if_icmp .gt 6, 3) := by decide +kernel
theorem dX3_packs_45 : decode cX3_packs 45 = .ok (.iload 5, 2) := by decide +kernel
theorem dX3_packs_47 : decode cX3_packs 47 = .ok (.istore_n 3, 1) := by decide +kernel
theorem dX3_packs_48 : decode cX3_packs 48 = .ok (.iinc 5 1, 3) := by decide +kernel
theorem dX3_packs_51 : decode cX3_packs 51 = .ok (.goto (-41), 3) := by decide +kernel
theorem dX3_packs_54 : decode cX3_packs 54 = .ok (.bipush 11, 2) := by decide +kernel
theorem dX3_packs_56 : decode cX3_packs 56 = .ok (.istore 5, 2) := by decide +kernel
theorem dX3_packs_58 : decode cX3_packs 58 = .ok (.iload 5, 2) := by decide +kernel
theorem dX3_packs_60 : decode cX3_packs 60 = .ok (.ifCond .lt 49, 3) := by decide +kernel
theorem dX3_packs_63 : decode cX3_packs 63 = .ok (.iload 5, 2) := by decide +kernel
theorem dX3_packs_65 : decode cX3_packs 65 = .ok (.iload_n 3, 1) := by decide +kernel
theorem dX3_packs_66 : decode cX3_packs 66 = .ok (.if_icmp .eq 37, 3) := by decide +kernel
theorem dX3_packs_69 : decode cX3_packs 69 = .ok (.aload_n 0, 1) := by decide +kernel
theorem dX3_packs_70 : decode cX3_packs 70 = .ok (.iload 5, 2) := by decide +kernel
theorem dX3_packs_72 : decode cX3_packs 72 = .ok (.iload_n 1, 1) := by decide +kernel
theorem dX3_packs_73 : decode cX3_packs 73 = .ok (.invokevirtual 49, 3) := by decide +kernel
theorem dX3_packs_76 : decode cX3_packs 76 = .ok (.ifCond .eq 27, 3) := by decide +kernel
theorem dX3_packs_79 : decode cX3_packs 79 = .ok (.iload 4, 2) := by decide +kernel
theorem dX3_packs_81 : decode cX3_packs 81 = .ok (.ifCond .lt 18, 3) := by decide +kernel
theorem dX3_packs_84 : decode cX3_packs 84 = .ok (.aload_n 0, 1) := by decide +kernel
theorem dX3_packs_85 : decode cX3_packs 85 = .ok (.iload 5, 2) := by decide +kernel
theorem dX3_packs_87 : decode cX3_packs 87 = .ok (.invokevirtual 45, 3) := by decide +kernel
theorem dX3_packs_90 : decode cX3_packs 90 = .ok (.aload_n 0, 1) := by decide +kernel
theorem dX3_packs_91 : decode cX3_packs 91 = .ok (.iload 4, 2) := by decide +kernel
theorem dX3_packs_93 : decode cX3_packs 93 = .ok (.invokevirtual 45, 3) := by decide +kernel
theorem dX3_packs_96 : decode cX3_packs 96 = .ok (.if_icmp .lt 7, 3) := by decide +kernel
theorem dX3_packs_99 : decode cX3_packs 99 = .ok (.iload 5, 2) := by decide +kernel
theorem dX3_packs_101 : decode cX3_packs 101 = .ok (.istore 4, 2) := by decide +kernel
theorem dX3_packs_103 : decode cX3_packs 103 = .ok (.iinc 5 (-1), 3) := by decide +kernel
theorem dX3_packs_106 : decode cX3_packs 106 = .ok (.goto (-48), 3) := by decide +kernel
theorem dX3_packs_109 : decode cX3_packs 109 = .ok (.iload 4, 2) := by decide +kernel
theorem dX3_packs_111 : decode cX3_packs 111 = .ok (.ifCond .ge 5, 3) := by decide +kernel
theorem dX3_packs_114 : decode cX3_packs 114 = .ok (.iload_n 2, 1) := by decide +kernel
theorem dX3_packs_115 : decode cX3_packs 115 = .ok (.ireturn, 1) := by decide +kernel
theorem dX3_packs_116 : decode cX3_packs 116 = .ok (.aload_n 0, 1) := by decide +kernel
theorem dX3_packs_117 : decode cX3_packs 117 = .ok (.getfield 21, 3) := by decide +kernel
theorem dX3_packs_120 : decode cX3_packs 120 = .ok (.iload_n 3, 1) := by decide +kernel
theorem dX3_packs_121 : decode cX3_packs 121 = .ok (.aaload, 1) := by decide +kernel
theorem dX3_packs_122 : decode cX3_packs 122 = .ok (.arraylength, 1) := by decide +kernel
theorem dX3_packs_123 : decode cX3_packs 123 = .ok (.iconst 1, 1) := by decide +kernel
theorem dX3_packs_124 : decode cX3_packs 124 = .ok (.isub, 1) := by decide +kernel
theorem dX3_packs_125 : decode cX3_packs 125 = .ok (.istore 5, 2) := by decide +kernel
theorem dX3_packs_127 : decode cX3_packs 127 = .ok (.aload_n 0, 1) := by decide +kernel
theorem dX3_packs_128 : decode cX3_packs 128 = .ok (.getfield 21, 3) := by decide +kernel
theorem dX3_packs_131 : decode cX3_packs 131 = .ok (.iload_n 3, 1) := by decide +kernel
theorem dX3_packs_132 : decode cX3_packs 132 = .ok (.aaload, 1) := by decide +kernel
theorem dX3_packs_133 : decode cX3_packs 133 = .ok (.iload 5, 2) := by decide +kernel
theorem dX3_packs_135 : decode cX3_packs 135 = .ok (.baload, 1) := by decide +kernel
theorem dX3_packs_136 : decode cX3_packs 136 = .ok (.ifCond .ne 9, 3) := by decide +kernel
theorem dX3_packs_139 : decode cX3_packs 139 = .ok (.iinc 5 (-1), 3) := by decide +kernel
theorem dX3_packs_142 : decode cX3_packs 142 = .ok (.goto (-15), 3) := by decide +kernel
theorem dX3_packs_145 : decode cX3_packs 145 = .ok (.aload_n 0, 1) := by decide +kernel
theorem dX3_packs_146 : decode cX3_packs 146 = .ok (.getfield 21, 3) := by decide +kernel
theorem dX3_packs_149 : decode cX3_packs 149 = .ok (.iload_n 3, 1) := by decide +kernel
theorem dX3_packs_150 : decode cX3_packs 150 = .ok (.aaload, 1) := by decide +kernel
theorem dX3_packs_151 : decode cX3_packs 151 = .ok (.iload 5, 2) := by decide +kernel
theorem dX3_packs_153 : decode cX3_packs 153 = .ok (.iconst 0, 1) := by decide +kernel
theorem dX3_packs_154 : decode cX3_packs 154 = .ok (.bastore, 1) := by decide +kernel
theorem dX3_packs_155 : decode cX3_packs 155 = .ok (.aload_n 0, 1) := by decide +kernel
theorem dX3_packs_156 : decode cX3_packs 156 = .ok (.getfield 21, 3) := by decide +kernel
theorem dX3_packs_159 : decode cX3_packs 159 = .ok (.iload 4, 2) := by decide +kernel
theorem dX3_packs_161 : decode cX3_packs 161 = .ok (.aaload, 1) := by decide +kernel
theorem dX3_packs_162 : decode cX3_packs 162 = .ok (.aload_n 0, 1) := by decide +kernel
theorem dX3_packs_163 : decode cX3_packs 163 = .ok (.iload 4, 2) := by decide +kernel
theorem dX3_packs_165 : decode cX3_packs 165 = .ok (.invokevirtual 56, 3) := by decide +kernel
theorem dX3_packs_168 : decode cX3_packs 168 = .ok (.iconst 1, 1) := by decide +kernel
theorem dX3_packs_169 : decode cX3_packs 169 = .ok (.bastore, 1) := by decide +kernel
theorem dX3_packs_170 : decode cX3_packs 170 = .ok (.aload_n 0, 1) := by decide +kernel
theorem dX3_packs_171 : decode cX3_packs 171 = .ok (.iload_n 3, 1) := by decide +kernel
theorem dX3_packs_172 : decode cX3_packs 172 = .ok (.invokevirtual 45, 3) := by decide +kernel
theorem dX3_packs_175 : decode cX3_packs 175 = .ok (.ifCond .ne 15, 3) := by decide +kernel
theorem dX3_packs_178 : decode cX3_packs 178 = .ok (.aload_n 0, 1) := by decide +kernel
theorem dX3_packs_179 : decode cX3_packs 179 = .ok (.getfield 16, 3) := by decide +kernel
theorem dX3_packs_182 : decode cX3_packs 182 = .ok (.iload_n 3, 1) := by decide +kernel
theorem dX3_packs_183 : decode cX3_packs 183 = .ok (.aaload, 1) := by decide +kernel
theorem dX3_packs_184 : decode cX3_packs 184 = .ok (.iconst 2, 1) := by decide +kernel
theorem dX3_packs_185 : decode cX3_packs 185 = .ok (.aload_n 0, 1) := by decide +kernel
theorem dX3_packs_186 : decode cX3_packs 186 = .ok (.getfield 25, 3) := by decide +kernel
theorem dX3_packs_189 : decode cX3_packs 189 = .ok (.iastore, 1) := by decide +kernel
theorem dX3_packs_190 : decode cX3_packs 190 = .ok (.aload_n 0, 1) := by decide +kernel
theorem dX3_packs_191 : decode cX3_packs 191 = .ok (.dup, 1) := by decide +kernel
theorem dX3_packs_192 : decode cX3_packs 192 = .ok (.getfield 35, 3) := by decide +kernel
theorem dX3_packs_195 : decode cX3_packs 195 = .ok (.iconst 1, 1) := by decide +kernel
theorem dX3_packs_196 : decode cX3_packs 196 = .ok (.iadd, 1) := by decide +kernel
theorem dX3_packs_197 : decode cX3_packs 197 = .ok (.putfield 35, 3) := by decide +kernel
theorem dX3_packs_200 : decode cX3_packs 200 = .ok (.iinc 2 1, 3) := by decide +kernel
theorem dX3_packs_203 : decode cX3_packs 203 = .ok (.goto (-201), 3) := by decide +kernel
theorem dX3_about_0 : decode cX3_about 0 = .ok (.bipush 24, 2) := by decide +kernel
theorem dX3_about_2 : decode cX3_about 2 = .ok (.aload_n 0, 1) := by decide +kernel
theorem dX3_about_3 : decode cX3_about 3 = .ok (.getfield 9, 3) := by decide +kernel
theorem dX3_about_6 : decode cX3_about 6 = .ok (.iload_n 1, 1) := by decide +kernel
theorem dX3_about_7 : decode cX3_about 7 = .ok (.aaload, 1) := by decide +kernel
theorem dX3_about_8 : decode cX3_about 8 = .ok (.iconst 0, 1) := by decide +kernel
theorem dX3_about_9 : decode cX3_about 9 = .ok (.iaload, 1) := by decide +kernel
theorem dX3_about_10 : decode cX3_about 10 = .ok (.idiv, 1) := by decide +kernel
theorem dX3_about_11 : decode cX3_about 11 = .ok (.istore_n 2, 1) := by decide +kernel
theorem dX3_about_12 : decode cX3_about 12 = .ok (.bipush 9, 2) := by decide +kernel
theorem dX3_about_14 : decode cX3_about 14 = .ok (.newarray .int, 2) := by decide +kernel
theorem dX3_about_16 : decode cX3_about 16 = .ok (.dup, 1) := by decide +kernel
theorem dX3_about_17 : decode cX3_about 17 = .ok (.iconst 0, 1) := by decide +kernel
theorem dX3_about_18 : decode cX3_about 18 = .ok (.aload_n 0, 1) := by decide +kernel
theorem dX3_about_19 : decode cX3_about 19 = .ok (.getfield 9, 3) := by decide +kernel
theorem dX3_about_22 : decode cX3_about 22 = .ok (.iload_n 1, 1) := by decide +kernel
theorem dX3_about_23 : decode cX3_about 23 = .ok (.aaload, 1) := by decide +kernel
theorem dX3_about_24 : decode cX3_about 24 = .ok (.iconst 0, 1) := by decide +kernel
theorem dX3_about_25 : decode cX3_about 25 = .ok (.iaload, 1) := by decide +kernel
theorem dX3_about_26 : decode cX3_about 26 = .ok (.iastore, 1) := by decide +kernel
theorem dX3_about_27 : decode cX3_about 27 = .ok (.dup, 1) := by decide +kernel
theorem dX3_about_28 : decode cX3_about 28 = .ok (.iconst 1, 1) := by decide +kernel
theorem dX3_about_29 : decode cX3_about 29 = .ok (.iload_n 2, 1) := by decide +kernel
theorem dX3_about_30 : decode cX3_about 30 = .ok (.iastore, 1) := by decide +kernel
theorem dX3_about_31 : decode cX3_about 31 = .ok (.dup, 1) := by decide +kernel
theorem dX3_about_32 : decode cX3_about 32 = .ok (.iconst 2, 1) := by decide +kernel
theorem dX3_about_33 : decode cX3_about 33 = .ok (.bipush 24, 2) := by decide +kernel
theorem dX3_about_35 : decode cX3_about 35 = .ok (.iload_n 2, 1) := by decide +kernel
theorem dX3_about_36 : decode cX3_about 36 = .ok (.aload_n 0, 1) := by decide +kernel
theorem dX3_about_37 : decode cX3_about 37 = .ok (.getfield 9, 3) := by decide +kernel
theorem dX3_about_40 : decode cX3_about 40 = .ok (.iload_n 1, 1) := by decide +kernel
theorem dX3_about_41 : decode cX3_about 41 = .ok (.aaload, 1) := by decide +kernel
theorem dX3_about_42 : decode cX3_about 42 = .ok (.iconst 0, 1) := by decide +kernel
theorem dX3_about_43 : decode cX3_about 43 = .ok (.iaload, 1) := by decide +kernel
theorem dX3_about_44 : decode cX3_about 44 = .ok (.imul, 1) := by decide +kernel
theorem dX3_about_45 : decode cX3_about 45 = .ok (.isub, 1) := by decide +kernel
theorem dX3_about_46 : decode cX3_about 46 = .ok (.iastore, 1) := by decide +kernel
theorem dX3_about_47 : decode cX3_about 47 = .ok (.dup, 1) := by decide +kernel
theorem dX3_about_48 : decode cX3_about 48 = .ok (.iconst 3, 1) := by decide +kernel
theorem dX3_about_49 : decode cX3_about 49 = .ok (.iconst 0, 1) := by decide +kernel
theorem dX3_about_50 : decode cX3_about 50 = .ok (.iastore, 1) := by decide +kernel
theorem dX3_about_51 : decode cX3_about 51 = .ok (.dup, 1) := by decide +kernel
theorem dX3_about_52 : decode cX3_about 52 = .ok (.iconst 4, 1) := by decide +kernel
theorem dX3_about_53 : decode cX3_about 53 = .ok (.iconst 0, 1) := by decide +kernel
theorem dX3_about_54 : decode cX3_about 54 = .ok (.iastore, 1) := by decide +kernel
theorem dX3_about_55 : decode cX3_about 55 = .ok (.dup, 1) := by decide +kernel
theorem dX3_about_56 : decode cX3_about 56 = .ok (.iconst 5, 1) := by decide +kernel
theorem dX3_about_57 : decode cX3_about 57 = .ok (.iconst 0, 1) := by decide +kernel
theorem dX3_about_58 : decode cX3_about 58 = .ok (.iastore, 1) := by decide +kernel
theorem dX3_about_59 : decode cX3_about 59 = .ok (.dup, 1) := by decide +kernel
theorem dX3_about_60 : decode cX3_about 60 = .ok (.bipush 6, 2) := by decide +kernel
theorem dX3_about_62 : decode cX3_about 62 = .ok (.iconst 0, 1) := by decide +kernel
theorem dX3_about_63 : decode cX3_about 63 = .ok (.iastore, 1) := by decide +kernel
theorem dX3_about_64 : decode cX3_about 64 = .ok (.dup, 1) := by decide +kernel
theorem dX3_about_65 : decode cX3_about 65 = .ok (.bipush 7, 2) := by decide +kernel
theorem dX3_about_67 : decode cX3_about 67 = .ok (.iconst 0, 1) := by decide +kernel
theorem dX3_about_68 : decode cX3_about 68 = .ok (.iastore, 1) := by decide +kernel
theorem dX3_about_69 : decode cX3_about 69 = .ok (.dup, 1) := by decide +kernel
theorem dX3_about_70 : decode cX3_about 70 = .ok (.bipush 8, 2) := by decide +kernel
theorem dX3_about_72 : decode cX3_about 72 = .ok (.aload_n 0, 1) := by decide +kernel
theorem dX3_about_73 : decode cX3_about 73 = .ok (.getfield 9, 3) := by decide +kernel
theorem dX3_about_76 : decode cX3_about 76 = .ok (.iload_n 1, 1) := by decide +kernel
theorem dX3_about_77 : decode cX3_about 77 = .ok (.aaload, 1) := by decide +kernel
theorem dX3_about_78 : decode cX3_about 78 = .ok (.iconst 1, 1) := by decide +kernel
theorem dX3_about_79 : decode cX3_about 79 = .ok (.iaload, 1) := by decide +kernel
theorem dX3_about_80 : decode cX3_about 80 = .ok (.iastore, 1) := by decide +kernel
theorem dX3_about_81 : decode cX3_about 81 = .ok (.astore_n 3, 1) := by decide +kernel
theorem dX3_about_82 : decode cX3_about 82 = .ok (.iconst 0, 1) := by decide +kernel
theorem dX3_about_83 : decode cX3_about 83 = .ok (.istore 4, 2) := by decide +kernel
theorem dX3_about_85 : decode cX3_about 85 = .ok (.iload 4, 2) := by decide +kernel
theorem dX3_about_87 : decode cX3_about 87 = .ok (.bipush 12, 2) := by decide +kernel
theorem dX3_about_89 : decode cX3_about 89 = .ok (.if_icmp .ge 80, 3) := by decide +kernel
theorem dX3_about_92 : decode cX3_about 92 = .ok (.aload_n 0, 1) := by decide +kernel
theorem dX3_about_93 : decode cX3_about 93 = .ok (.getfield 16, 3) := by decide +kernel
theorem dX3_about_96 : decode cX3_about 96 = .ok (.iload 4, 2) := by decide +kernel
theorem dX3_about_98 : decode cX3_about 98 = .ok (.aaload, 1) := by decide +kernel
theorem dX3_about_99 : decode cX3_about 99 = .ok (.iconst 0, 1) := by decide +kernel
theorem dX3_about_100 : decode cX3_about 100 = .ok (.iaload, 1) := by decide +kernel
theorem dX3_about_101 : decode cX3_about 101 = .ok (.iload_n 1, 1) := by decide +kernel
theorem dX3_about_102 : decode cX3_about 102 = .ok (.if_icmp .eq 6, 3) := by decide +kernel
theorem dX3_about_105 : decode cX3_about 105 = .ok (.goto 58, 3) := by decide +kernel
theorem dX3_about_108 : decode cX3_about 108 = .ok (.aload_n 3, 1) := by decide +kernel
theorem dX3_about_109 : decode cX3_about 109 = .ok (.iconst 3, 1) := by decide +kernel
theorem dX3_about_110 : decode cX3_about 110 = .ok (.dup2, 1) := by decide +kernel
theorem dX3_about_111 : decode cX3_about 111 = .ok (.iaload, 1) := by decide +kernel
theorem dX3_about_112 : decode cX3_about 112 = .ok (.iconst 1, 1) := by decide +kernel
theorem dX3_about_113 : decode cX3_about 113 = .ok (.iadd, 1) := by decide +kernel
theorem dX3_about_114 : decode cX3_about 114 = .ok (.iastore, 1) := by decide +kernel
theorem dX3_about_115 : decode cX3_about 115 = .ok (.aload_n 3, 1) := by decide +kernel
theorem dX3_about_116 : decode cX3_about 116 = .ok (.aload_n 0, 1) := by decide +kernel
theorem dX3_about_117 : decode cX3_about 117 = .ok (.iload 4, 2) := by decide +kernel
theorem dX3_about_119 : decode cX3_about 119 = .ok (.invokevirtual 45, 3) := by decide +kernel
theorem dX3_about_122 : decode cX3_about 122 = .ok (.iload_n 2, 1) := by decide +kernel
theorem dX3_about_123 : decode cX3_about 123 = .ok (.if_icmp .ne 7, 3) := by decide +kernel
theorem dX3_about_126 : decode cX3_about 126 = .ok (.iconst 4, 1) := by decide +kernel
theorem dX3_about_127 : decode cX3_about 127 = .ok (.goto 18, 3) := by decide +kernel
theorem dX3_about_130 : decode cX3_about 130 = .ok (.aload_n 0, 1) := by decide +kernel
theorem dX3_about_131 : decode cX3_about 131 = .ok (.iload 4, 2) := by decide +kernel
theorem dX3_about_133 : decode cX3_about 133 = .ok (.invokevirtual 45, 3) := by decide +kernel
theorem dX3_about_136 : decode cX3_about 136 = .ok (.ifCond .le 7, 3) := by decide +kernel
theorem dX3_about_139 : decode cX3_about 139 = .ok (.iconst 5, 1) := by decide +kernel
theorem dX3_about_140 : decode cX3_about 140 = .ok (.goto 5, 3) := by decide +kernel
theorem dX3_about_143 : decode cX3_about 143 = .ok (.bipush 6, 2) := by decide +kernel
theorem dX3_about_145 : decode cX3_about 145 = .ok (.dup2, 1) := by decide +kernel
theorem dX3_about_146 : decode cX3_about 146 = .ok (.iaload, 1) := by decide +kernel
theorem dX3_about_147 : decode cX3_about 147 = .ok (.iconst 1, 1) := by decide +kernel
theorem dX3_about_148 : decode cX3_about 148 = .ok (.iadd, 1) := by decide +kernel
theorem dX3_about_149 : decode cX3_about 149 = .ok (.iastore, 1) := by decide +kernel
theorem dX3_about_150 : decode cX3_about 150 = .ok (.aload_n 3, 1) := by decide +kernel
theorem dX3_about_151 : decode cX3_about 151 = .ok (.bipush 7, 2) := by decide +kernel
theorem dX3_about_153 : decode cX3_about 153 = .ok (.dup2, 1) := by decide +kernel
theorem dX3_about_154 : decode cX3_about 154 = .ok (.iaload, 1) := by decide +kernel
theorem dX3_about_155 : decode cX3_about 155 = .ok (.aload_n 0, 1) := by decide +kernel
theorem dX3_about_156 : decode cX3_about 156 = .ok (.iload 4, 2) := by decide +kernel
theorem dX3_about_158 : decode cX3_about 158 = .ok (.invokevirtual 45, 3) := by decide +kernel
theorem dX3_about_161 : decode cX3_about 161 = .ok (.iadd, 1) := by decide +kernel
theorem dX3_about_162 : decode cX3_about 162 = .ok (.iastore, 1) := by decide +kernel
theorem dX3_about_163 : decode cX3_about 163 = .ok (.iinc 4 1, 3) := by decide +kernel
theorem dX3_about_166 : decode cX3_about 166 = .ok (.goto (-81), 3) := by decide +kernel
theorem dX3_about_169 : decode cX3_about 169 = .ok (.aload_n 3, 1) := by decide +kernel
theorem dX3_about_170 : decode cX3_about 170 = .ok (.areturn, 1) := by decide +kernel
theorem dX3_isSame_0 : decode cX3_isSame 0 = .ok (.bipush 10, 2) := by decide +kernel
theorem dX3_isSame_2 : decode cX3_isSame 2 = .ok (.newarray .int, 2) := by decide +kernel
theorem dX3_isSame_4 : decode cX3_isSame 4 = .ok (.dup, 1) := by decide +kernel
theorem dX3_isSame_5 : decode cX3_isSame 5 = .ok (.iconst 0, 1) := by decide +kernel
theorem dX3_isSame_6 : decode cX3_isSame 6 = .ok (.aload_n 0, 1) := by decide +kernel
theorem dX3_isSame_7 : decode cX3_isSame 7 = .ok (.getfield 25, 3) := by decide +kernel
theorem dX3_isSame_10 : decode cX3_isSame 10 = .ok (.iastore, 1) := by decide +kernel
theorem dX3_isSame_11 : decode cX3_isSame 11 = .ok (.dup, 1) := by decide +kernel
theorem dX3_isSame_12 : decode cX3_isSame 12 = .ok (.iconst 1, 1) := by decide +kernel
theorem dX3_isSame_13 : decode cX3_isSame 13 = .ok (.aload_n 0, 1) := by decide +kernel
theorem dX3_isSame_14 : decode cX3_isSame 14 = .ok (.getfield 9, 3) := by decide +kernel
theorem dX3_isSame_17 : decode cX3_isSame 17 = .ok (.arraylength, 1) := by decide +kernel
theorem dX3_isSame_18 : decode cX3_isSame 18 = .ok (.iastore, 1) := by decide +kernel
theorem dX3_isSame_19 : decode cX3_isSame 19 = .ok (.dup, 1) := by decide +kernel
theorem dX3_isSame_20 : decode cX3_isSame 20 = .ok (.iconst 2, 1) := by decide +kernel
theorem dX3_isSame_21 : decode cX3_isSame 21 = .ok (.iconst 0, 1) := by decide +kernel
theorem dX3_isSame_22 : decode cX3_isSame 22 = .ok (.iastore, 1) := by decide +kernel
theorem dX3_isSame_23 : decode cX3_isSame 23 = .ok (.dup, 1) := by decide +kernel
theorem dX3_isSame_24 : decode cX3_isSame 24 = .ok (.iconst 3, 1) := by decide +kernel
theorem dX3_isSame_25 : decode cX3_isSame 25 = .ok (.iconst 0, 1) := by decide +kernel
theorem dX3_isSame_26 : decode cX3_isSame 26 = .ok (.iastore, 1) := by decide +kernel
theorem dX3_isSame_27 : decode cX3_isSame 27 = .ok (.dup, 1) := by decide +kernel
theorem dX3_isSame_28 : decode cX3_isSame 28 = .ok (.iconst 4, 1) := by decide +kernel
theorem dX3_isSame_29 : decode cX3_isSame 29 = .ok (.iconst 0, 1) := by decide +kernel
theorem dX3_isSame_30 : decode cX3_isSame 30 = .ok (.iastore, 1) := by decide +kernel
theorem dX3_isSame_31 : decode cX3_isSame 31 = .ok (.dup, 1) := by decide +kernel
theorem dX3_isSame_32 : decode cX3_isSame 32 = .ok (.iconst 5, 1) := by decide +kernel
theorem dX3_isSame_33 : decode cX3_isSame 33 = .ok (.iconst 0, 1) := by decide +kernel
theorem dX3_isSame_34 : decode cX3_isSame 34 = .ok (.iastore, 1) := by decide +kernel
theorem dX3_isSame_35 : decode cX3_isSame 35 = .ok (.dup, 1) := by decide +kernel
theorem dX3_isSame_36 : decode cX3_isSame 36 = .ok (.bipush 6, 2) := by decide +kernel
theorem dX3_isSame_38 : decode cX3_isSame 38 = .ok (.iconst 0, 1) := by decide +kernel
theorem dX3_isSame_39 : decode cX3_isSame 39 = .ok (.iastore, 1) := by decide +kernel
theorem dX3_isSame_40 : decode cX3_isSame 40 = .ok (.dup, 1) := by decide +kernel
theorem dX3_isSame_41 : decode cX3_isSame 41 = .ok (.bipush 7, 2) := by decide +kernel
theorem dX3_isSame_43 : decode cX3_isSame 43 = .ok (.aload_n 0, 1) := by decide +kernel
theorem dX3_isSame_44 : decode cX3_isSame 44 = .ok (.getfield 32, 3) := by decide +kernel
theorem dX3_isSame_47 : decode cX3_isSame 47 = .ok (.iastore, 1) := by decide +kernel
theorem dX3_isSame_48 : decode cX3_isSame 48 = .ok (.dup, 1) := by decide +kernel
theorem dX3_isSame_49 : decode cX3_isSame 49 = .ok (.bipush 8, 2) := by decide +kernel
theorem dX3_isSame_51 : decode cX3_isSame 51 = .ok (.aload_n 0, 1) := by decide +kernel
theorem dX3_isSame_52 : decode cX3_isSame 52 = .ok (.getfield 35, 3) := by decide +kernel
theorem dX3_isSame_55 : decode cX3_isSame 55 = .ok (.iastore, 1) := by decide +kernel
theorem dX3_isSame_56 : decode cX3_isSame 56 = .ok (.dup, 1) := by decide +kernel
theorem dX3_isSame_57 : decode cX3_isSame 57 = .ok (.bipush 9, 2) := by decide +kernel
theorem dX3_isSame_59 : decode cX3_isSame 59 = .ok (.aload_n 0, 1) := by decide +kernel
theorem dX3_isSame_60 : decode cX3_isSame 60 = .ok (.getfield 29, 3) := by decide +kernel
theorem dX3_isSame_63 : decode cX3_isSame 63 = .ok (.iastore, 1) := by decide +kernel
theorem dX3_isSame_64 : decode cX3_isSame 64 = .ok (.astore_n 2, 1) := by decide +kernel
theorem dX3_isSame_65 : decode cX3_isSame 65 = .ok (.iconst 0, 1) := by decide +kernel
theorem dX3_isSame_66 : decode cX3_isSame 66 = .ok (.istore_n 3, 1) := by decide +kernel
theorem dX3_isSame_67 : decode cX3_isSame 67 = .ok (.iload_n 3, 1) := by decide +kernel
theorem dX3_isSame_68 : decode cX3_isSame 68 = .ok (.bipush 12, 2) := by decide +kernel
theorem dX3_isSame_70 : decode cX3_isSame 70 = .ok (.if_icmp .ge 274, 3) := by decide +kernel
theorem dX3_isSame_73 : decode cX3_isSame 73 = .ok (.aload_n 0, 1) := by decide +kernel
theorem dX3_isSame_74 : decode cX3_isSame 74 = .ok (.getfield 16, 3) := by decide +kernel
theorem dX3_isSame_77 : decode cX3_isSame 77 = .ok (.iload_n 3, 1) := by decide +kernel
theorem dX3_isSame_78 : decode cX3_isSame 78 = .ok (.aaload, 1) := by decide +kernel
theorem dX3_isSame_79 : decode cX3_isSame 79 = .ok (.iconst 0, 1) := by decide +kernel
theorem dX3_isSame_80 : decode cX3_isSame 80 = .ok (.iaload, 1) := by decide +kernel
theorem dX3_isSame_81 : decode cX3_isSame 81 = .ok (.ifCond .ge 7, 3) := by decide +kernel
theorem dX3_isSame_84 : decode cX3_isSame 84 = .ok (.iconst 1, 1) := by decide +kernel
theorem dX3_isSame_85 : decode cX3_isSame 85 = .ok (.goto 4, 3) := by decide +kernel
theorem dX3_isSame_88 : decode cX3_isSame 88 = .ok (.iconst 0, 1) := by decide +kernel
theorem dX3_isSame_89 : decode cX3_isSame 89 = .ok (.istore 4, 2) := by decide +kernel
theorem dX3_isSame_91 : decode cX3_isSame 91 = .ok (.bipush 6, 2) := by decide +kernel
theorem dX3_isSame_93 : decode cX3_isSame 93 = .ok (.newarray .int, 2) := by decide +kernel
theorem dX3_isSame_95 : decode cX3_isSame 95 = .ok (.dup, 1) := by decide +kernel
theorem dX3_isSame_96 : decode cX3_isSame 96 = .ok (.iconst 0, 1) := by decide +kernel
theorem dX3_isSame_97 : decode cX3_isSame 97 = .ok (.aload_n 0, 1) := by decide +kernel
theorem dX3_isSame_98 : decode cX3_isSame 98 = .ok (.getfield 16, 3) := by decide +kernel
theorem dX3_isSame_101 : decode cX3_isSame 101 = .ok (.iload_n 3, 1) := by decide +kernel
theorem dX3_isSame_102 : decode cX3_isSame 102 = .ok (.aaload, 1) := by decide +kernel
theorem dX3_isSame_103 : decode cX3_isSame 103 = .ok (.iconst 0, 1) := by decide +kernel
theorem dX3_isSame_104 : decode cX3_isSame 104 = .ok (.iaload, 1) := by decide +kernel
theorem dX3_isSame_105 : decode cX3_isSame 105 = .ok (.iastore, 1) := by decide +kernel
theorem dX3_isSame_106 : decode cX3_isSame 106 = .ok (.dup, 1) := by decide +kernel
theorem dX3_isSame_107 : decode cX3_isSame 107 = .ok (.iconst 1, 1) := by decide +kernel
theorem dX3_isSame_108 : decode cX3_isSame 108 = .ok (.aload_n 0, 1) := by decide +kernel
theorem dX3_isSame_109 : decode cX3_isSame 109 = .ok (.iload_n 3, 1) := by decide +kernel
theorem dX3_isSame_110 : decode cX3_isSame 110 = .ok (.invokevirtual 45, 3) := by decide +kernel
theorem dX3_isSame_113 : decode cX3_isSame 113 = .ok (.iastore, 1) := by decide +kernel
theorem dX3_isSame_114 : decode cX3_isSame 114 = .ok (.dup, 1) := by decide +kernel
theorem dX3_isSame_115 : decode cX3_isSame 115 = .ok (.iconst 2, 1) := by decide +kernel
theorem dX3_isSame_116 : decode cX3_isSame 116 = .ok (.iload 4, 2) := by decide +kernel
theorem dX3_isSame_118 : decode cX3_isSame 118 = .ok (.ifCond .eq 7, 3) := by decide +kernel
theorem dX3_isSame_121 : decode cX3_isSame 121 = .ok (.iconst 0, 1) := by decide +kernel
theorem dX3_isSame_122 : decode cX3_isSame 122 = .ok (.goto 11, 3) := by decide +kernel
theorem dX3_isSame_125 : decode cX3_isSame 125 = .ok (.aload_n 0, 1) := by decide +kernel
theorem dX3_isSame_126 : decode cX3_isSame 126 = .ok (.getfield 16, 3) := by decide +kernel
theorem dX3_isSame_129 : decode cX3_isSame 129 = .ok (.iload_n 3, 1) := by decide +kernel
theorem dX3_isSame_130 : decode cX3_isSame 130 = .ok (.aaload, 1) := by decide +kernel
theorem dX3_isSame_131 : decode cX3_isSame 131 = .ok (.iconst 1, 1) := by decide +kernel
theorem dX3_isSame_132 : decode cX3_isSame 132 = .ok (.iaload, 1) := by decide +kernel
theorem dX3_isSame_133 : decode cX3_isSame 133 = .ok (.iastore, 1) := by decide +kernel
theorem dX3_isSame_134 : decode cX3_isSame 134 = .ok (.dup, 1) := by decide +kernel
theorem dX3_isSame_135 : decode cX3_isSame 135 = .ok (.iconst 3, 1) := by decide +kernel
theorem dX3_isSame_136 : decode cX3_isSame 136 = .ok (.aload_n 0, 1) := by decide +kernel
theorem dX3_isSame_137 : decode cX3_isSame 137 = .ok (.getfield 21, 3) := by decide +kernel
theorem dX3_isSame_140 : decode cX3_isSame 140 = .ok (.iload_n 3, 1) := by decide +kernel
theorem dX3_isSame_141 : decode cX3_isSame 141 = .ok (.aaload, 1) := by decide +kernel
theorem dX3_isSame_142 : decode cX3_isSame 142 = .ok (.arraylength, 1) := by decide +kernel
theorem dX3_isSame_143 : decode cX3_isSame 143 = .ok (.iastore, 1) := by decide +kernel
theorem dX3_isSame_144 : decode cX3_isSame 144 = .ok (.dup, 1) := by decide +kernel
theorem dX3_isSame_145 : decode cX3_isSame 145 = .ok (.iconst 4, 1) := by decide +kernel
theorem dX3_isSame_146 : decode cX3_isSame 146 = .ok (.aload_n 0, 1) := by decide +kernel
theorem dX3_isSame_147 : decode cX3_isSame 147 = .ok (.iload_n 3, 1) := by decide +kernel
theorem dX3_isSame_148 : decode cX3_isSame 148 = .ok (.invokevirtual 56, 3) := by decide +kernel
theorem dX3_isSame_151 : decode cX3_isSame 151 = .ok (.iastore, 1) := by decide +kernel
theorem dX3_isSame_152 : decode cX3_isSame 152 = .ok (.dup, 1) := by decide +kernel
theorem dX3_isSame_153 : decode cX3_isSame 153 = .ok (.iconst 5, 1) := by decide +kernel
theorem dX3_isSame_154 : decode cX3_isSame 154 = .ok (.aload_n 0, 1) := by decide +kernel
theorem dX3_isSame_155 : decode cX3_isSame 155 = .ok (.getfield 16, 3) := by decide +kernel
theorem dX3_isSame_158 : decode cX3_isSame 158 = .ok (.iload_n 3, 1) := by decide +kernel
theorem dX3_isSame_159 : decode cX3_isSame 159 = .ok (.aaload, 1) := by decide +kernel
theorem dX3_isSame_160 : decode cX3_isSame 160 = .ok (.iconst 2, 1) := by decide +kernel
theorem dX3_isSame_161 : decode cX3_isSame 161 = .ok (.iaload, 1) := by decide +kernel
theorem dX3_isSame_162 : decode cX3_isSame 162 = .ok (.iastore, 1) := by decide +kernel
theorem dX3_isSame_163 : decode cX3_isSame 163 = .ok (.astore 5, 2) := by decide +kernel
theorem dX3_isSame_165 : decode cX3_isSame 165 = .ok (.iconst 0, 1) := by decide +kernel
theorem dX3_isSame_166 : decode cX3_isSame 166 = .ok (.istore 6, 2) := by decide +kernel
theorem dX3_isSame_168 : decode cX3_isSame 168 = .ok (.iload 6, 2) := by decide +kernel
theorem dX3_isSame_170 : decode cX3_isSame 170 = .ok (.bipush 6, 2) := by decide +kernel
theorem dX3_isSame_172 : decode cX3_isSame 172 = .ok (.if_icmp .ge 26, 3) := by decide +kernel
theorem dX3_isSame_175 : decode cX3_isSame 175 = .ok (.aload_n 1, 1) := by decide +kernel
theorem dX3_isSame_176 : decode cX3_isSame 176 = .ok (.iload_n 3, 1) := by decide +kernel
theorem dX3_isSame_177 : decode cX3_isSame 177 = .ok (.iload 6, 2) := by decide +kernel
theorem dX3_isSame_179 : decode cX3_isSame 179 = .ok (.invokevirtual 63, 3) := by decide +kernel
theorem dX3_isSame_182 : decode cX3_isSame 182 = .ok (.aload 5, 2) := by decide +kernel
theorem dX3_isSame_184 : decode cX3_isSame 184 = .ok (.iload 6, 2) := by decide +kernel
theorem dX3_isSame_186 : decode cX3_isSame 186 = .ok (.iaload, 1) := by decide +kernel
theorem dX3_isSame_187 : decode cX3_isSame 187 = .ok (.if_icmp .eq 5, 3) := by decide +kernel
theorem dX3_isSame_190 : decode cX3_isSame 190 = .ok (.iconst 0, 1) := by decide +kernel
theorem dX3_isSame_191 : decode cX3_isSame 191 = .ok (.ireturn, 1) := by decide +kernel
theorem dX3_isSame_192 : decode cX3_isSame 192 = .ok (.iinc 6 1, 3) := by decide +kernel
theorem dX3_isSame_195 : decode cX3_isSame 195 = .ok (.goto (-27), 3) := by decide +kernel
theorem dX3_isSame_198 : decode cX3_isSame 198 = .ok (.aload_n 2, 1) := by decide +kernel
theorem dX3_isSame_199 : decode cX3_isSame 199 = .ok (.iconst 2, 1) := by decide +kernel
theorem dX3_isSame_200 : decode cX3_isSame 200 = .ok (.dup2, 1) := by decide +kernel
theorem dX3_isSame_201 : decode cX3_isSame 201 = .ok (.iaload, 1) := by decide +kernel
theorem dX3_isSame_202 : decode cX3_isSame 202 = .ok (.iload 4, 2) := by decide +kernel
theorem dX3_isSame_204 : decode cX3_isSame 204 = .ok (.ifCond .eq 7, 3) := by decide +kernel
theorem dX3_isSame_207 : decode cX3_isSame 207 = .ok (.iconst 1, 1) := by decide +kernel
theorem dX3_isSame_208 : decode cX3_isSame 208 = .ok (.goto 4, 3) := by decide +kernel
theorem dX3_isSame_211 : decode cX3_isSame 211 = .ok (.iconst 0, 1) := by decide +kernel
theorem dX3_isSame_212 : decode cX3_isSame 212 = .ok (.iadd, 1) := by decide +kernel
theorem dX3_isSame_213 : decode cX3_isSame 213 = .ok (.iastore, 1) := by decide +kernel
theorem dX3_isSame_214 : decode cX3_isSame 214 = .ok (.iload 4, 2) := by decide +kernel
theorem dX3_isSame_216 : decode cX3_isSame 216 = .ok (.ifCond .eq 6, 3) := by decide +kernel
theorem dX3_isSame_219 : decode cX3_isSame 219 = .ok (.goto 119, 3) := by decide +kernel
theorem dX3_isSame_222 : decode cX3_isSame 222 = .ok (.aload_n 0, 1) := by decide +kernel
theorem dX3_isSame_223 : decode cX3_isSame 223 = .ok (.getfield 9, 3) := by decide +kernel
theorem dX3_isSame_226 : decode cX3_isSame 226 = .ok (.aload 5, 2) := by decide +kernel
theorem dX3_isSame_228 : decode cX3_isSame 228 = .ok (.iconst 0, 1) := by decide +kernel
theorem dX3_isSame_229 : decode cX3_isSame 229 = .ok (.iaload, 1) := by decide +kernel
theorem dX3_isSame_230 : decode cX3_isSame 230 = .ok (.aaload, 1) := by decide +kernel
theorem dX3_isSame_231 : decode cX3_isSame 231 = .ok (.iconst 0, 1) := by decide +kernel
theorem dX3_isSame_232 : decode cX3_isSame 232 = .ok (.iaload, 1) := by decide +kernel
theorem dX3_isSame_233 : decode cX3_isSame 233 = .ok (.istore 6, 2) := by decide +kernel
theorem dX3_isSame_235 : decode cX3_isSame 235 = .ok (.aload_n 2, 1) := by decide +kernel
theorem dX3_isSame_236 : decode cX3_isSame 236 = .ok (.iconst 3, 1) := by decide +kernel
theorem dX3_isSame_237 : decode cX3_isSame 237 = .ok (.dup2, 1) := by decide +kernel
theorem dX3_isSame_238 : decode cX3_isSame 238 = .ok (.iaload, 1) := by decide +kernel
theorem dX3_isSame_239 : decode cX3_isSame 239 = .ok (.aload 5, 2) := by decide +kernel
theorem dX3_isSame_241 : decode cX3_isSame 241 = .ok (.iconst 1, 1) := by decide +kernel
theorem dX3_isSame_242 : decode cX3_isSame 242 = .ok (.iaload, 1) := by decide +kernel
theorem dX3_isSame_243 : decode cX3_isSame 243 = .ok (.iadd, 1) := by decide +kernel
theorem dX3_isSame_244 : decode cX3_isSame 244 = .ok (.iastore, 1) := by decide +kernel
theorem dX3_isSame_245 : decode cX3_isSame 245 = .ok (.aload_n 2, 1) := by decide +kernel
theorem dX3_isSame_246 : decode cX3_isSame 246 = .ok (.iconst 4, 1) := by decide +kernel
theorem dX3_isSame_247 : decode cX3_isSame 247 = .ok (.dup2, 1) := by decide +kernel
theorem dX3_isSame_248 : decode cX3_isSame 248 = .ok (.iaload, 1) := by decide +kernel
theorem dX3_isSame_249 : decode cX3_isSame 249 = .ok (.aload 5, 2) := by decide +kernel
theorem dX3_isSame_251 : decode cX3_isSame 251 = .ok (.iconst 1, 1) := by decide +kernel
theorem dX3_isSame_252 : decode cX3_isSame 252 = .ok (.iaload, 1) := by decide +kernel
theorem dX3_isSame_253 : decode cX3_isSame 253 = .ok (.iload 6, 2) := by decide +kernel
theorem dX3_isSame_255 : decode cX3_isSame 255 = .ok (.imul, 1) := by decide +kernel
theorem dX3_isSame_256 : decode cX3_isSame 256 = .ok (.iadd, 1) := by decide +kernel
theorem dX3_isSame_257 : decode cX3_isSame 257 = .ok (.iastore, 1) := by decide +kernel
theorem dX3_isSame_258 : decode cX3_isSame 258 = .ok (.aload_n 2, 1) := by decide +kernel
theorem dX3_isSame_259 : decode cX3_isSame 259 = .ok (.iconst 5, 1) := by decide +kernel
theorem dX3_isSame_260 : decode cX3_isSame 260 = .ok (.dup2, 1) := by decide +kernel
theorem dX3_isSame_261 : decode cX3_isSame 261 = .ok (.iaload, 1) := by decide +kernel
theorem dX3_isSame_262 : decode cX3_isSame 262 = .ok (.bipush 24, 2) := by decide +kernel
theorem dX3_isSame_264 : decode cX3_isSame 264 = .ok (.aload 5, 2) := by decide +kernel
theorem dX3_isSame_266 : decode cX3_isSame 266 = .ok (.iconst 1, 1) := by decide +kernel
theorem dX3_isSame_267 : decode cX3_isSame 267 = .ok (.iaload, 1) := by decide +kernel
theorem dX3_isSame_268 : decode cX3_isSame 268 = .ok (.iload 6, 2) := by decide +kernel
theorem dX3_isSame_270 : decode cX3_isSame 270 = .ok (.imul, 1) := by decide +kernel
theorem dX3_isSame_271 : decode cX3_isSame 271 = .ok (.isub, 1) := by decide +kernel
theorem dX3_isSame_272 : decode cX3_isSame 272 = .ok (.iadd, 1) := by decide +kernel
theorem dX3_isSame_273 : decode cX3_isSame 273 = .ok (.iastore, 1) := by decide +kernel
theorem dX3_isSame_274 : decode cX3_isSame 274 = .ok (.aload_n 2, 1) := by decide +kernel
theorem dX3_isSame_275 : decode cX3_isSame 275 = .ok (.bipush 6, 2) := by decide +kernel
theorem dX3_isSame_277 : decode cX3_isSame 277 = .ok (.dup2, 1) := by decide +kernel
theorem dX3_isSame_278 : decode cX3_isSame 278 = .ok (.iaload, 1) := by decide +kernel
theorem dX3_isSame_279 : decode cX3_isSame 279 = .ok (.bipush 24, 2) := by decide +kernel
theorem dX3_isSame_281 : decode cX3_isSame 281 = .ok (.iload 6, 2) := by decide +kernel
theorem dX3_isSame_283 : decode cX3_isSame 283 = .ok (.irem, 1) := by decide +kernel
theorem dX3_isSame_284 : decode cX3_isSame 284 = .ok (.iadd, 1) := by decide +kernel
theorem dX3_isSame_285 : decode cX3_isSame 285 = .ok (.iastore, 1) := by decide +kernel
theorem dX3_isSame_286 : decode cX3_isSame 286 = .ok (.iconst 0, 1) := by decide +kernel
theorem dX3_isSame_287 : decode cX3_isSame 287 = .ok (.istore 7, 2) := by decide +kernel
theorem dX3_isSame_289 : decode cX3_isSame 289 = .ok (.iload 7, 2) := by decide +kernel
theorem dX3_isSame_291 : decode cX3_isSame 291 = .ok (.aload 5, 2) := by decide +kernel
theorem dX3_isSame_293 : decode cX3_isSame 293 = .ok (.iconst 3, 1) := by decide +kernel
theorem dX3_isSame_294 : decode cX3_isSame 294 = .ok (.iaload, 1) := by decide +kernel
theorem dX3_isSame_295 : decode cX3_isSame 295 = .ok (.if_icmp .ge 43, 3) := by decide +kernel
theorem dX3_isSame_298 : decode cX3_isSame 298 = .ok (.aload_n 1, 1) := by decide +kernel
theorem dX3_isSame_299 : decode cX3_isSame 299 = .ok (.aload_n 0, 1) := by decide +kernel
theorem dX3_isSame_300 : decode cX3_isSame 300 = .ok (.iload_n 3, 1) := by decide +kernel
theorem dX3_isSame_301 : decode cX3_isSame 301 = .ok (.iload 7, 2) := by decide +kernel
theorem dX3_isSame_303 : decode cX3_isSame 303 = .ok (.invokevirtual 59, 3) := by decide +kernel
theorem dX3_isSame_306 : decode cX3_isSame 306 = .ok (.iconst 2, 1) := by decide +kernel
theorem dX3_isSame_307 : decode cX3_isSame 307 = .ok (.invokevirtual 68, 3) := by decide +kernel
theorem dX3_isSame_310 : decode cX3_isSame 310 = .ok (.aload_n 0, 1) := by decide +kernel
theorem dX3_isSame_311 : decode cX3_isSame 311 = .ok (.getfield 21, 3) := by decide +kernel
theorem dX3_isSame_314 : decode cX3_isSame 314 = .ok (.iload_n 3, 1) := by decide +kernel
theorem dX3_isSame_315 : decode cX3_isSame 315 = .ok (.aaload, 1) := by decide +kernel
theorem dX3_isSame_316 : decode cX3_isSame 316 = .ok (.iload 7, 2) := by decide +kernel
theorem dX3_isSame_318 : decode cX3_isSame 318 = .ok (.baload, 1) := by decide +kernel
theorem dX3_isSame_319 : decode cX3_isSame 319 = .ok (.ifCond .eq 7, 3) := by decide +kernel
theorem dX3_isSame_322 : decode cX3_isSame 322 = .ok (.iconst 1, 1) := by decide +kernel
theorem dX3_isSame_323 : decode cX3_isSame 323 = .ok (.goto 4, 3) := by decide +kernel
theorem dX3_isSame_326 : decode cX3_isSame 326 = .ok (.iconst 0, 1) := by decide +kernel
theorem dX3_isSame_327 : decode cX3_isSame 327 = .ok (.if_icmp .eq 5, 3) := by decide +kernel
theorem dX3_isSame_330 : decode cX3_isSame 330 = .ok (.iconst 0, 1) := by decide +kernel
theorem dX3_isSame_331 : decode cX3_isSame 331 = .ok (.ireturn, 1) := by decide +kernel
theorem dX3_isSame_332 : decode cX3_isSame 332 = .ok (.iinc 7 1, 3) := by decide +kernel
theorem dX3_isSame_335 : decode cX3_isSame 335 = .ok (.goto (-46), 3) := by decide +kernel
theorem dX3_isSame_338 : decode cX3_isSame 338 = .ok (.iinc 3 1, 3) := by decide +kernel
theorem dX3_isSame_341 : decode cX3_isSame 341 = .ok (.goto (-274), 3) := by decide +kernel
theorem dX3_isSame_344 : decode cX3_isSame 344 = .ok (.iconst 0, 1) := by decide +kernel
theorem dX3_isSame_345 : decode cX3_isSame 345 = .ok (.istore_n 3, 1) := by decide +kernel
theorem dX3_isSame_346 : decode cX3_isSame 346 = .ok (.iload_n 3, 1) := by decide +kernel
theorem dX3_isSame_347 : decode cX3_isSame 347 = .ok (.bipush 10, 2) := by decide +kernel
theorem dX3_isSame_349 : decode cX3_isSame 349 = .ok (.if_icmp .ge 22, 3) := by decide +kernel
theorem dX3_isSame_352 : decode cX3_isSame 352 = .ok (.aload_n 1, 1) := by decide +kernel
theorem dX3_isSame_353 : decode cX3_isSame 353 = .ok (.iload_n 3, 1) := by decide +kernel
theorem dX3_isSame_354 : decode cX3_isSame 354 = .ok (.invokevirtual 71, 3) := by decide +kernel
theorem dX3_isSame_357 : decode cX3_isSame 357 = .ok (.aload_n 2, 1) := by decide +kernel
theorem dX3_isSame_358 : decode cX3_isSame 358 = .ok (.iload_n 3, 1) := by decide +kernel
theorem dX3_isSame_359 : decode cX3_isSame 359 = .ok (.iaload, 1) := by decide +kernel
theorem dX3_isSame_360 : decode cX3_isSame 360 = .ok (.if_icmp .eq 5, 3) := by decide +kernel
theorem dX3_isSame_363 : decode cX3_isSame 363 = .ok (.iconst 0, 1) := by decide +kernel
theorem dX3_isSame_364 : decode cX3_isSame 364 = .ok (.ireturn, 1) := by decide +kernel
theorem dX3_isSame_365 : decode cX3_isSame 365 = .ok (.iinc 3 1, 3) := by decide +kernel
theorem dX3_isSame_368 : decode cX3_isSame 368 = .ok (.goto (-22), 3) := by decide +kernel
theorem dX3_isSame_371 : decode cX3_isSame 371 = .ok (.iconst 0, 1) := by decide +kernel
theorem dX3_isSame_372 : decode cX3_isSame 372 = .ok (.istore_n 3, 1) := by decide +kernel
theorem dX3_isSame_373 : decode cX3_isSame 373 = .ok (.iload_n 3, 1) := by decide +kernel
theorem dX3_isSame_374 : decode cX3_isSame 374 = .ok (.aload_n 0, 1) := by decide +kernel
theorem dX3_isSame_375 : decode cX3_isSame 375 = .ok (.getfield 9, 3) := by decide +kernel
theorem dX3_isSame_378 : decode cX3_isSame 378 = .ok (.arraylength, 1) := by decide +kernel
theorem dX3_isSame_379 : decode cX3_isSame 379 = .ok (.if_icmp .ge 49, 3) := by decide +kernel
theorem dX3_isSame_382 : decode cX3_isSame 382 = .ok (.aload_n 0, 1) := by decide +kernel
theorem dX3_isSame_383 : decode cX3_isSame 383 = .ok (.iload_n 3, 1) := by decide +kernel
theorem dX3_isSame_384 : decode cX3_isSame 384 = .ok (.invokevirtual 74, 3) := by decide +kernel
theorem dX3_isSame_387 : decode cX3_isSame 387 = .ok (.astore 4, 2) := by decide +kernel
theorem dX3_isSame_389 : decode cX3_isSame 389 = .ok (.iconst 0, 1) := by decide +kernel
theorem dX3_isSame_390 : decode cX3_isSame 390 = .ok (.istore 5, 2) := by decide +kernel
theorem dX3_isSame_392 : decode cX3_isSame 392 = .ok (.iload 5, 2) := by decide +kernel
theorem dX3_isSame_394 : decode cX3_isSame 394 = .ok (.bipush 9, 2) := by decide +kernel
theorem dX3_isSame_396 : decode cX3_isSame 396 = .ok (.if_icmp .ge 26, 3) := by decide +kernel
theorem dX3_isSame_399 : decode cX3_isSame 399 = .ok (.aload_n 1, 1) := by decide +kernel
theorem dX3_isSame_400 : decode cX3_isSame 400 = .ok (.iload_n 3, 1) := by decide +kernel
theorem dX3_isSame_401 : decode cX3_isSame 401 = .ok (.iload 5, 2) := by decide +kernel
theorem dX3_isSame_403 : decode cX3_isSame 403 = .ok (.invokevirtual 78, 3) := by decide +kernel
theorem dX3_isSame_406 : decode cX3_isSame 406 = .ok (.aload 4, 2) := by decide +kernel
theorem dX3_isSame_408 : decode cX3_isSame 408 = .ok (.iload 5, 2) := by decide +kernel
theorem dX3_isSame_410 : decode cX3_isSame 410 = .ok (.iaload, 1) := by decide +kernel
theorem dX3_isSame_411 : decode cX3_isSame 411 = .ok (.if_icmp .eq 5, 3) := by decide +kernel
theorem dX3_isSame_414 : decode cX3_isSame 414 = .ok (.iconst 0, 1) := by decide +kernel
theorem dX3_isSame_415 : decode cX3_isSame 415 = .ok (.ireturn, 1) := by decide +kernel
theorem dX3_isSame_416 : decode cX3_isSame 416 = .ok (.iinc 5 1, 3) := by decide +kernel
theorem dX3_isSame_419 : decode cX3_isSame 419 = .ok (.goto (-27), 3) := by decide +kernel
theorem dX3_isSame_422 : decode cX3_isSame 422 = .ok (.iinc 3 1, 3) := by decide +kernel
theorem dX3_isSame_425 : decode cX3_isSame 425 = .ok (.goto (-52), 3) := by decide +kernel
theorem dX3_isSame_428 : decode cX3_isSame 428 = .ok (.aload_n 1, 1) := by decide +kernel
theorem dX3_isSame_429 : decode cX3_isSame 429 = .ok (.invokevirtual 80, 3) := by decide +kernel
theorem dX3_isSame_432 : decode cX3_isSame 432 = .ok (.aload_n 2, 1) := by decide +kernel
theorem dX3_isSame_433 : decode cX3_isSame 433 = .ok (.iconst 2, 1) := by decide +kernel
theorem dX3_isSame_434 : decode cX3_isSame 434 = .ok (.iaload, 1) := by decide +kernel
theorem dX3_isSame_435 : decode cX3_isSame 435 = .ok (.bipush 12, 2) := by decide +kernel
theorem dX3_isSame_437 : decode cX3_isSame 437 = .ok (.if_icmp .ne 7, 3) := by decide +kernel
theorem dX3_isSame_440 : decode cX3_isSame 440 = .ok (.dconst 0, 1) := by decide +kernel
theorem dX3_isSame_441 : decode cX3_isSame 441 = .ok (.goto 15, 3) := by decide +kernel
theorem dX3_isSame_444 : decode cX3_isSame 444 = .ok (.aload_n 2, 1) := by decide +kernel
theorem dX3_isSame_445 : decode cX3_isSame 445 = .ok (.iconst 3, 1) := by decide +kernel
theorem dX3_isSame_446 : decode cX3_isSame 446 = .ok (.iaload, 1) := by decide +kernel
theorem dX3_isSame_447 : decode cX3_isSame 447 = .ok (.i2d, 1) := by decide +kernel
theorem dX3_isSame_448 : decode cX3_isSame 448 = .ok (.bipush 12, 2) := by decide +kernel
theorem dX3_isSame_450 : decode cX3_isSame 450 = .ok (.aload_n 2, 1) := by decide +kernel
theorem dX3_isSame_451 : decode cX3_isSame 451 = .ok (.iconst 2, 1) := by decide +kernel
theorem dX3_isSame_452 : decode cX3_isSame 452 = .ok (.iaload, 1) := by decide +kernel
theorem dX3_isSame_453 : decode cX3_isSame 453 = .ok (.isub, 1) := by decide +kernel
theorem dX3_isSame_454 : decode cX3_isSame 454 = .ok (.i2d, 1) := by decide +kernel
theorem dX3_isSame_455 : decode cX3_isSame 455 = .ok (.ddiv, 1) := by decide +kernel
theorem dX3_isSame_456 : decode cX3_isSame 456 = .ok (.dcmp .l, 1) := by decide +kernel
theorem dX3_isSame_457 : decode cX3_isSame 457 = .ok (.ifCond .ne 7, 3) := by decide +kernel
theorem dX3_isSame_460 : decode cX3_isSame 460 = .ok (.iconst 1, 1) := by decide +kernel
theorem dX3_isSame_461 : decode cX3_isSame 461 = .ok (.goto 4, 3) := by decide +kernel
theorem dX3_isSame_464 : decode cX3_isSame 464 = .ok (.iconst 0, 1) := by decide +kernel
theorem dX3_isSame_465 : decode cX3_isSame 465 = .ok (.ireturn, 1) := by decide +kernel
theorem dL_below_0 : decode cL_below 0 = .ok (.iload_n 0, 1) := by decide +kernel
theorem dL_below_1 : decode cL_below 1 = .ok (.ldc 7, 2) := by decide +kernel
theorem dL_below_3 : decode cL_below 3 = .ok (.iand, 1) := by decide +kernel
theorem dL_below_4 : decode cL_below 4 = .ok (.iload_n 1, 1) := by decide +kernel
theorem dL_below_5 : decode cL_below 5 = .ok (.irem, 1) := by decide +kernel
theorem dL_below_6 : decode cL_below 6 = .ok (.ireturn, 1) := by decide +kernel
theorem dL_cell_0 : decode cL_cell 0 = .ok (.iload_n 1, 1) := by decide +kernel
theorem dL_cell_1 : decode cL_cell 1 = .ok (.aload_n 0, 1) := by decide +kernel
theorem dL_cell_2 : decode cL_cell 2 = .ok (.arraylength, 1) := by decide +kernel
theorem dL_cell_3 : decode cL_cell 3 = .ok (.if_icmp .ge 9, 3) := by decide +kernel
theorem dL_cell_6 : decode cL_cell 6 = .ok (.aload_n 0, 1) := by decide +kernel
theorem dL_cell_7 : decode cL_cell 7 = .ok (.iload_n 1, 1) := by decide +kernel
theorem dL_cell_8 : decode cL_cell 8 = .ok (.iaload, 1) := by decide +kernel
theorem dL_cell_9 : decode cL_cell 9 = .ok (.goto 9, 3) := by decide +kernel
theorem dL_cell_12 : decode cL_cell 12 = .ok (.ldc 8, 2) := by decide +kernel
theorem dL_cell_14 : decode cL_cell 14 = .ok (.iload_n 1, 1) := by decide +kernel
theorem dL_cell_15 : decode cL_cell 15 = .ok (.iconst 3, 1) := by decide +kernel
theorem dL_cell_16 : decode cL_cell 16 = .ok (.iadd, 1) := by decide +kernel
theorem dL_cell_17 : decode cL_cell 17 = .ok (.imul, 1) := by decide +kernel
theorem dL_cell_18 : decode cL_cell 18 = .ok (.ireturn, 1) := by decide +kernel
theorem dL_act_0 : decode cL_act 0 = .ok (.iload_n 2, 1) := by decide +kernel
theorem dL_act_1 : decode cL_act 1 = .ok (.iconst 4, 1) := by decide +kernel
theorem dL_act_2 : decode cL_act 2 = .ok (.ishr, 1) := by decide +kernel
theorem dL_act_3 : decode cL_act 3 = .ok (.aload_n 1, 1) := by decide +kernel
theorem dL_act_4 : decode cL_act 4 = .ok (.getfield 9, 3) := by decide +kernel
theorem dL_act_7 : decode cL_act 7 = .ok (.arraylength, 1) := by decide +kernel
theorem dL_act_8 : decode cL_act 8 = .ok (.invokestatic 15, 3) := by decide +kernel
theorem dL_act_11 : decode cL_act 11 = .ok (.istore_n 3, 1) := by decide +kernel
theorem dL_act_12 : decode cL_act 12 = .ok (.iload_n 2, 1) := by decide +kernel
theorem dL_act_13 : decode cL_act 13 = .ok (.bipush 12, 2) := by decide +kernel
theorem dL_act_15 : decode cL_act 15 = .ok (.invokestatic 15, 3) := by decide +kernel
theorem dL_act_18 : decode cL_act 18 = .ok (.tableswitch 281 0 6 #[42, 78, 125, 144, 144, 144, 144], 42) := by decide +kernel
theorem dL_act_60 : decode cL_act 60 = .ok (.aload_n 1, 1) := by decide +kernel
theorem dL_act_61 : decode cL_act 61 = .ok (.getfield 21, 3) := by decide +kernel
theorem dL_act_64 : decode cL_act 64 = .ok (.istore 5, 2) := by decide +kernel
theorem dL_act_66 : decode cL_act 66 = .ok (.aload_n 1, 1) := by decide +kernel
theorem dL_act_67 : decode cL_act 67 = .ok (.iload_n 2, 1) := by decide +kernel
theorem dL_act_68 : decode cL_act 68 = .ok (.iconst 4, 1) := by decide +kernel
theorem dL_act_69 : decode cL_act 69 = .ok (.ishr, 1) := by decide +kernel
theorem dL_act_70 : decode cL_act 70 = .ok (.iconst 3, 1) := by decide +kernel
theorem dL_act_71 : decode cL_act 71 = .ok (.invokestatic 15, 3) := by decide +kernel
theorem dL_act_74 : decode cL_act 74 = .ok (.putfield 21, 3) := by decide +kernel
theorem dL_act_77 : decode cL_act 77 = .ok (.aload_n 0, 1) := by decide +kernel
theorem dL_act_78 : decode cL_act 78 = .ok (.aload_n 1, 1) := by decide +kernel
theorem dL_act_79 : decode cL_act 79 = .ok (.getfield 21, 3) := by decide +kernel
theorem dL_act_82 : decode cL_act 82 = .ok (.invokevirtual 25, 3) := by decide +kernel
theorem dL_act_85 : decode cL_act 85 = .ok (.iload 5, 2) := by decide +kernel
theorem dL_act_87 : decode cL_act 87 = .ok (.if_icmp .ne 7, 3) := by decide +kernel
theorem dL_act_90 : decode cL_act 90 = .ok (.iconst 1, 1) := by decide +kernel
theorem dL_act_91 : decode cL_act 91 = .ok (.goto 4, 3) := by decide +kernel
theorem dL_act_94 : decode cL_act 94 = .ok (.iconst 0, 1) := by decide +kernel
theorem dL_act_95 : decode cL_act 95 = .ok (.ireturn, 1) := by decide +kernel
theorem dL_act_96 : decode cL_act 96 = .ok (.iload_n 2, 1) := by decide +kernel
theorem dL_act_97 : decode cL_act 97 = .ok (.iconst 4, 1) := by decide +kernel
theorem dL_act_98 : decode cL_act 98 = .ok (.ishr, 1) := by decide +kernel
theorem dL_act_99 : decode cL_act 99 = .ok (.iload_n 2, 1) := by decide +kernel
theorem dL_act_100 : decode cL_act 100 = .ok (.bipush 7, 2) := by decide +kernel
theorem dL_act_102 : decode cL_act 102 = .ok (.ishr, 1) := by decide +kernel
theorem dL_act_103 : decode cL_act 103 = .ok (.iconst 3, 1) := by decide +kernel
theorem dL_act_104 : decode cL_act 104 = .ok (.invokestatic 15, 3) := by decide +kernel
theorem dL_act_107 : decode cL_act 107 = .ok (.ifCond .ne 8, 3) := by decide +kernel
theorem dL_act_110 : decode cL_act 110 = .ok (.bipush 100, 2) := by decide +kernel
theorem dL_act_112 : decode cL_act 112 = .ok (.goto 5, 3) := by decide +kernel
theorem dL_act_115 : decode cL_act 115 = .ok (.bipush 6, 2) := by decide +kernel
theorem dL_act_117 : decode cL_act 117 = .ok (.invokestatic 15, 3) := by decide +kernel
theorem dL_act_120 : decode cL_act 120 = .ok (.istore 5, 2) := by decide +kernel
theorem dL_act_122 : decode cL_act 122 = .ok (.aload_n 0, 1) := by decide +kernel
theorem dL_act_123 : decode cL_act 123 = .ok (.iload 5, 2) := by decide +kernel
theorem dL_act_125 : decode cL_act 125 = .ok (.invokevirtual 31, 3) := by decide +kernel
theorem dL_act_128 : decode cL_act 128 = .ok (.aload_n 1, 1) := by decide +kernel
theorem dL_act_129 : decode cL_act 129 = .ok (.iload 5, 2) := by decide +kernel
theorem dL_act_131 : decode cL_act 131 = .ok (.invokevirtual 34, 3) := by decide +kernel
theorem dL_act_134 : decode cL_act 134 = .ok (.if_icmp .ne 7, 3) := by decide +kernel
theorem dL_act_137 : decode cL_act 137 = .ok (.iconst 1, 1) := by decide +kernel
theorem dL_act_138 : decode cL_act 138 = .ok (.goto 4, 3) := by decide +kernel
theorem dL_act_141 : decode cL_act 141 = .ok (.iconst 0, 1) := by decide +kernel
theorem dL_act_142 : decode cL_act 142 = .ok (.ireturn, 1) := by decide +kernel
theorem dL_act_143 : decode cL_act 143 = .ok (.aload_n 0, 1) := by decide +kernel
theorem dL_act_144 : decode cL_act 144 = .ok (.iload_n 3, 1) := by decide +kernel
theorem dL_act_145 : decode cL_act 145 = .ok (.invokevirtual 37, 3) := by decide +kernel
theorem dL_act_148 : decode cL_act 148 = .ok (.aload_n 1, 1) := by decide +kernel
theorem dL_act_149 : decode cL_act 149 = .ok (.iload_n 3, 1) := by decide +kernel
theorem dL_act_150 : decode cL_act 150 = .ok (.invokevirtual 40, 3) := by decide +kernel
theorem dL_act_153 : decode cL_act 153 = .ok (.if_icmp .ne 7, 3) := by decide +kernel
theorem dL_act_156 : decode cL_act 156 = .ok (.iconst 1, 1) := by decide +kernel
theorem dL_act_157 : decode cL_act 157 = .ok (.goto 4, 3) := by decide +kernel
theorem dL_act_160 : decode cL_act 160 = .ok (.iconst 0, 1) := by decide +kernel
theorem dL_act_161 : decode cL_act 161 = .ok (.ireturn, 1) := by decide +kernel
theorem dL_act_162 : decode cL_act 162 = .ok (.iload_n 2, 1) := by decide +kernel
theorem dL_act_163 : decode cL_act 163 = .ok (.iconst 4, 1) := by decide +kernel
theorem dL_act_164 : decode cL_act 164 = .ok (.ishr, 1) := by decide +kernel
theorem dL_act_165 : decode cL_act 165 = .ok (.sipush 288, 3) := by decide +kernel
theorem dL_act_168 : decode cL_act 168 = .ok (.invokestatic 15, 3) := by decide +kernel
theorem dL_act_171 : decode cL_act 171 = .ok (.istore 5, 2) := by decide +kernel
theorem dL_act_173 : decode cL_act 173 = .ok (.iload_n 2, 1) := by decide +kernel
theorem dL_act_174 : decode cL_act 174 = .ok (.iconst 5, 1) := by decide +kernel
theorem dL_act_175 : decode cL_act 175 = .ok (.ishr, 1) := by decide +kernel
theorem dL_act_176 : decode cL_act 176 = .ok (.bipush 12, 2) := by decide +kernel
theorem dL_act_178 : decode cL_act 178 = .ok (.invokestatic 15, 3) := by decide +kernel
theorem dL_act_181 : decode cL_act 181 = .ok (.istore 6, 2) := by decide +kernel
theorem dL_act_183 : decode cL_act 183 = .ok (.iload_n 2, 1) := by decide +kernel
theorem dL_act_184 : decode cL_act 184 = .ok (.bipush 9, 2) := by decide +kernel
theorem dL_act_186 : decode cL_act 186 = .ok (.ishr, 1) := by decide +kernel
theorem dL_act_187 : decode cL_act 187 = .ok (.bipush 8, 2) := by decide +kernel
theorem dL_act_189 : decode cL_act 189 = .ok (.invokestatic 15, 3) := by decide +kernel
theorem dL_act_192 : decode cL_act 192 = .ok (.ifCond .le 70, 3) := by decide +kernel
theorem dL_act_195 : decode cL_act 195 = .ok (.aload_n 1, 1) := by decide +kernel
theorem dL_act_196 : decode cL_act 196 = .ok (.iload 6, 2) := by decide +kernel
theorem dL_act_198 : decode cL_act 198 = .ok (.invokevirtual 43, 3) := by decide +kernel
theorem dL_act_201 : decode cL_act 201 = .ok (.ifCond .le 61, 3) := by decide +kernel
theorem dL_act_204 : decode cL_act 204 = .ok (.iload_n 2, 1) := by decide +kernel
theorem dL_act_205 : decode cL_act 205 = .ok (.bipush 7, 2) := by decide +kernel
theorem dL_act_207 : decode cL_act 207 = .ok (.ishr, 1) := by decide +kernel
theorem dL_act_208 : decode cL_act 208 = .ok (.aload_n 1, 1) := by decide +kernel
theorem dL_act_209 : decode cL_act 209 = .ok (.getfield 46, 3) := by decide +kernel
theorem dL_act_212 : decode cL_act 212 = .ok (.iload 6, 2) := by decide +kernel
theorem dL_act_214 : decode cL_act 214 = .ok (.aaload, 1) := by decide +kernel
theorem dL_act_215 : decode cL_act 215 = .ok (.arraylength, 1) := by decide +kernel
theorem dL_act_216 : decode cL_act 216 = .ok (.invokestatic 15, 3) := by decide +kernel
theorem dL_act_219 : decode cL_act 219 = .ok (.istore 7, 2) := by decide +kernel
theorem dL_act_221 : decode cL_act 221 = .ok (.aload_n 1, 1) := by decide +kernel
theorem dL_act_222 : decode cL_act 222 = .ok (.getfield 46, 3) := by decide +kernel
theorem dL_act_225 : decode cL_act 225 = .ok (.iload 6, 2) := by decide +kernel
theorem dL_act_227 : decode cL_act 227 = .ok (.aaload, 1) := by decide +kernel
theorem dL_act_228 : decode cL_act 228 = .ok (.iload 7, 2) := by decide +kernel
theorem dL_act_230 : decode cL_act 230 = .ok (.baload, 1) := by decide +kernel
theorem dL_act_231 : decode cL_act 231 = .ok (.ifCond .ne 21, 3) := by decide +kernel
theorem dL_act_234 : decode cL_act 234 = .ok (.iload 7, 2) := by decide +kernel
theorem dL_act_236 : decode cL_act 236 = .ok (.iconst 1, 1) := by decide +kernel
theorem dL_act_237 : decode cL_act 237 = .ok (.iadd, 1) := by decide +kernel
theorem dL_act_238 : decode cL_act 238 = .ok (.aload_n 1, 1) := by decide +kernel
theorem dL_act_239 : decode cL_act 239 = .ok (.getfield 46, 3) := by decide +kernel
theorem dL_act_242 : decode cL_act 242 = .ok (.iload 6, 2) := by decide +kernel
theorem dL_act_244 : decode cL_act 244 = .ok (.aaload, 1) := by decide +kernel
theorem dL_act_245 : decode cL_act 245 = .ok (.arraylength, 1) := by decide +kernel
theorem dL_act_246 : decode cL_act 246 = .ok (.irem, 1) := by decide +kernel
theorem dL_act_247 : decode cL_act 247 = .ok (.istore 7, 2) := by decide +kernel
theorem dL_act_249 : decode cL_act 249 = .ok (.goto (-28), 3) := by decide +kernel
theorem dL_act_252 : decode cL_act 252 = .ok (.aload_n 1, 1) := by decide +kernel
theorem dL_act_253 : decode cL_act 253 = .ok (.iload 6, 2) := by decide +kernel
theorem dL_act_255 : decode cL_act 255 = .ok (.iload 7, 2) := by decide +kernel
theorem dL_act_257 : decode cL_act 257 = .ok (.invokevirtual 50, 3) := by decide +kernel
theorem dL_act_260 : decode cL_act 260 = .ok (.istore 5, 2) := by decide +kernel
theorem dL_act_262 : decode cL_act 262 = .ok (.aload_n 1, 1) := by decide +kernel
theorem dL_act_263 : decode cL_act 263 = .ok (.iload 5, 2) := by decide +kernel
theorem dL_act_265 : decode cL_act 265 = .ok (.invokevirtual 53, 3) := by decide +kernel
theorem dL_act_268 : decode cL_act 268 = .ok (.istore 7, 2) := by decide +kernel
theorem dL_act_270 : decode cL_act 270 = .ok (.aload_n 0, 1) := by decide +kernel
theorem dL_act_271 : decode cL_act 271 = .ok (.iload 5, 2) := by decide +kernel
theorem dL_act_273 : decode cL_act 273 = .ok (.invokevirtual 56, 3) := by decide +kernel
theorem dL_act_276 : decode cL_act 276 = .ok (.istore 4, 2) := by decide +kernel
theorem dL_act_278 : decode cL_act 278 = .ok (.goto 8, 3) := by decide +kernel
theorem dL_act_281 : decode cL_act 281 = .ok (.astore 8, 2) := by decide +kernel
theorem dL_act_283 : decode cL_act 283 = .ok (.iconst (-1), 1) := by decide +kernel
theorem dL_act_284 : decode cL_act 284 = .ok (.istore 4, 2) := by decide +kernel
theorem dL_act_286 : decode cL_act 286 = .ok (.iload 4, 2) := by decide +kernel
theorem dL_act_288 : decode cL_act 288 = .ok (.iload 7, 2) := by decide +kernel
theorem dL_act_290 : decode cL_act 290 = .ok (.if_icmp .ne 7, 3) := by decide +kernel
theorem dL_act_293 : decode cL_act 293 = .ok (.iconst 1, 1) := by decide +kernel
theorem dL_act_294 : decode cL_act 294 = .ok (.goto 4, 3) := by decide +kernel
theorem dL_act_297 : decode cL_act 297 = .ok (.iconst 0, 1) := by decide +kernel
theorem dL_act_298 : decode cL_act 298 = .ok (.ireturn, 1) := by decide +kernel
theorem dL_act_299 : decode cL_act 299 = .ok (.aload_n 1, 1) := by decide +kernel
theorem dL_act_300 : decode cL_act 300 = .ok (.iload_n 3, 1) := by decide +kernel
theorem dL_act_301 : decode cL_act 301 = .ok (.invokevirtual 61, 3) := by decide +kernel
theorem dL_act_304 : decode cL_act 304 = .ok (.istore 5, 2) := by decide +kernel
theorem dL_act_306 : decode cL_act 306 = .ok (.aload_n 0, 1) := by decide +kernel
theorem dL_act_307 : decode cL_act 307 = .ok (.iload_n 3, 1) := by decide +kernel
theorem dL_act_308 : decode cL_act 308 = .ok (.invokevirtual 64, 3) := by decide +kernel
theorem dL_act_311 : decode cL_act 311 = .ok (.istore 4, 2) := by decide +kernel
theorem dL_act_313 : decode cL_act 313 = .ok (.goto 8, 3) := by decide +kernel
theorem dL_act_316 : decode cL_act 316 = .ok (.astore 6, 2) := by decide +kernel
theorem dL_act_318 : decode cL_act 318 = .ok (.iconst (-1), 1) := by decide +kernel
theorem dL_act_319 : decode cL_act 319 = .ok (.istore 4, 2) := by decide +kernel
theorem dL_act_321 : decode cL_act 321 = .ok (.iload 4, 2) := by decide +kernel
theorem dL_act_323 : decode cL_act 323 = .ok (.iload 5, 2) := by decide +kernel
theorem dL_act_325 : decode cL_act 325 = .ok (.if_icmp .ne 7, 3) := by decide +kernel
theorem dL_act_328 : decode cL_act 328 = .ok (.iconst 1, 1) := by decide +kernel
theorem dL_act_329 : decode cL_act 329 = .ok (.goto 4, 3) := by decide +kernel
theorem dL_act_332 : decode cL_act 332 = .ok (.iconst 0, 1) := by decide +kernel
theorem dL_act_333 : decode cL_act 333 = .ok (.ireturn, 1) := by decide +kernel
theorem dL_build_0 : decode cL_build 0 = .ok (.new 10, 3) := by decide +kernel
theorem dL_build_3 : decode cL_build 3 = .ok (.dup, 1) := by decide +kernel
theorem dL_build_4 : decode cL_build 4 = .ok (.invokespecial 69, 3) := by decide +kernel
theorem dL_build_7 : decode cL_build 7 = .ok (.astore_n 2, 1) := by decide +kernel
theorem dL_build_8 : decode cL_build 8 = .ok (.iconst 1, 1) := by decide +kernel
theorem dL_build_9 : decode cL_build 9 = .ok (.aload_n 1, 1) := by decide +kernel
theorem dL_build_10 : decode cL_build 10 = .ok (.iconst 0, 1) := by decide +kernel
theorem dL_build_11 : decode cL_build 11 = .ok (.invokestatic 70, 3) := by decide +kernel
theorem dL_build_14 : decode cL_build 14 = .ok (.iconst 5, 1) := by decide +kernel
theorem dL_build_15 : decode cL_build 15 = .ok (.invokestatic 15, 3) := by decide +kernel
theorem dL_build_18 : decode cL_build 18 = .ok (.iadd, 1) := by decide +kernel
theorem dL_build_19 : decode cL_build 19 = .ok (.istore_n 3, 1) := by decide +kernel
theorem dL_build_20 : decode cL_build 20 = .ok (.iconst 0, 1) := by decide +kernel
theorem dL_build_21 : decode cL_build 21 = .ok (.istore 4, 2) := by decide +kernel
theorem dL_build_23 : decode cL_build 23 = .ok (.iload 4, 2) := by decide +kernel
theorem dL_build_25 : decode cL_build 25 = .ok (.iload_n 3, 1) := by decide +kernel
theorem dL_build_26 : decode cL_build 26 = .ok (.if_icmp .ge 66, 3) := by decide +kernel
theorem dL_build_29 : decode cL_build 29 = .ok (.iconst 2, 1) := by decide +kernel
theorem dL_build_30 : decode cL_build 30 = .ok (.aload_n 1, 1) := by decide +kernel
theorem dL_build_31 : decode cL_build 31 = .ok (.iconst 0, 1) := by decide +kernel
theorem dL_build_32 : decode cL_build 32 = .ok (.invokestatic 70, 3) := by decide +kernel
theorem dL_build_35 : decode cL_build 35 = .ok (.iconst 3, 1) := by decide +kernel
theorem dL_build_36 : decode cL_build 36 = .ok (.iconst 3, 1) := by decide +kernel
theorem dL_build_37 : decode cL_build 37 = .ok (.iload 4, 2) := by decide +kernel
theorem dL_build_39 : decode cL_build 39 = .ok (.imul, 1) := by decide +kernel
theorem dL_build_40 : decode cL_build 40 = .ok (.iadd, 1) := by decide +kernel
theorem dL_build_41 : decode cL_build 41 = .ok (.ishr, 1) := by decide +kernel
theorem dL_build_42 : decode cL_build 42 = .ok (.bipush 11, 2) := by decide +kernel
theorem dL_build_44 : decode cL_build 44 = .ok (.invokestatic 15, 3) := by decide +kernel
theorem dL_build_47 : decode cL_build 47 = .ok (.iadd, 1) := by decide +kernel
theorem dL_build_48 : decode cL_build 48 = .ok (.istore 5, 2) := by decide +kernel
theorem dL_build_50 : decode cL_build 50 = .ok (.aload_n 2, 1) := by decide +kernel
theorem dL_build_51 : decode cL_build 51 = .ok (.aload_n 2, 1) := by decide +kernel
theorem dL_build_52 : decode cL_build 52 = .ok (.getfield 9, 3) := by decide +kernel
theorem dL_build_55 : decode cL_build 55 = .ok (.iconst 2, 1) := by decide +kernel
theorem dL_build_56 : decode cL_build 56 = .ok (.newarray .int, 2) := by decide +kernel
theorem dL_build_58 : decode cL_build 58 = .ok (.dup, 1) := by decide +kernel
theorem dL_build_59 : decode cL_build 59 = .ok (.iconst 0, 1) := by decide +kernel
theorem dL_build_60 : decode cL_build 60 = .ok (.iload 5, 2) := by decide +kernel
theorem dL_build_62 : decode cL_build 62 = .ok (.iastore, 1) := by decide +kernel
theorem dL_build_63 : decode cL_build 63 = .ok (.dup, 1) := by decide +kernel
theorem dL_build_64 : decode cL_build 64 = .ok (.iconst 1, 1) := by decide +kernel
theorem dL_build_65 : decode cL_build 65 = .ok (.iconst 0, 1) := by decide +kernel
theorem dL_build_66 : decode cL_build 66 = .ok (.iastore, 1) := by decide +kernel
theorem dL_build_67 : decode cL_build 67 = .ok (.invokestatic 74, 3) := by decide +kernel
theorem dL_build_70 : decode cL_build 70 = .ok (.putfield 9, 3) := by decide +kernel
theorem dL_build_73 : decode cL_build 73 = .ok (.aload_n 0, 1) := by decide +kernel
theorem dL_build_74 : decode cL_build 74 = .ok (.iload 5, 2) := by decide +kernel
theorem dL_build_76 : decode cL_build 76 = .ok (.invokevirtual 78, 3) := by decide +kernel
theorem dL_build_79 : decode cL_build 79 = .ok (.iload 4, 2) := by decide +kernel
theorem dL_build_81 : decode cL_build 81 = .ok (.if_icmp .eq 5, 3) := by decide +kernel
theorem dL_build_84 : decode cL_build 84 = .ok (.aconst_null, 1) := by decide +kernel
theorem dL_build_85 : decode cL_build 85 = .ok (.areturn, 1) := by decide +kernel
theorem dL_build_86 : decode cL_build 86 = .ok (.iinc 4 1, 3) := by decide +kernel
theorem dL_build_89 : decode cL_build 89 = .ok (.goto (-66), 3) := by decide +kernel
theorem dL_build_92 : decode cL_build 92 = .ok (.aload_n 1, 1) := by decide +kernel
theorem dL_build_93 : decode cL_build 93 = .ok (.iconst 1, 1) := by decide +kernel
theorem dL_build_94 : decode cL_build 94 = .ok (.invokestatic 70, 3) := by decide +kernel
theorem dL_build_97 : decode cL_build 97 = .ok (.bipush 60, 2) := by decide +kernel
theorem dL_build_99 : decode cL_build 99 = .ok (.invokestatic 15, 3) := by decide +kernel
theorem dL_build_102 : decode cL_build 102 = .ok (.istore 4, 2) := by decide +kernel
theorem dL_build_104 : decode cL_build 104 = .ok (.iconst 0, 1) := by decide +kernel
theorem dL_build_105 : decode cL_build 105 = .ok (.istore 5, 2) := by decide +kernel
theorem dL_build_107 : decode cL_build 107 = .ok (.iload 5, 2) := by decide +kernel
theorem dL_build_109 : decode cL_build 109 = .ok (.iload 4, 2) := by decide +kernel
theorem dL_build_111 : decode cL_build 111 = .ok (.if_icmp .ge 68, 3) := by decide +kernel
theorem dL_build_114 : decode cL_build 114 = .ok (.aload_n 1, 1) := by decide +kernel
theorem dL_build_115 : decode cL_build 115 = .ok (.iconst 2, 1) := by decide +kernel
theorem dL_build_116 : decode cL_build 116 = .ok (.iload 5, 2) := by decide +kernel
theorem dL_build_118 : decode cL_build 118 = .ok (.bipush 14, 2) := by decide +kernel
theorem dL_build_120 : decode cL_build 120 = .ok (.irem, 1) := by decide +kernel
theorem dL_build_121 : decode cL_build 121 = .ok (.iadd, 1) := by decide +kernel
theorem dL_build_122 : decode cL_build 122 = .ok (.invokestatic 70, 3) := by decide +kernel
theorem dL_build_125 : decode cL_build 125 = .ok (.iload 5, 2) := by decide +kernel
theorem dL_build_127 : decode cL_build 127 = .ok (.bipush 14, 2) := by decide +kernel
theorem dL_build_129 : decode cL_build 129 = .ok (.idiv, 1) := by decide +kernel
theorem dL_build_130 : decode cL_build 130 = .ok (.iconst 5, 1) := by decide +kernel
theorem dL_build_131 : decode cL_build 131 = .ok (.imul, 1) := by decide +kernel
