theorem dX2_spansUnderBowls_13 : decode cX2_spansUnderBowls 13 = .ok (.iload 4, 2) := by decide +kernel
theorem dX2_spansUnderBowls_15 : decode cX2_spansUnderBowls 15 = .ok (.iload_n 3, 1) := by decide +kernel
theorem dX2_spansUnderBowls_16 : decode cX2_spansUnderBowls 16 = .ok (.if_icmp .ge 29, 3) := by decide +kernel
theorem dX2_spansUnderBowls_19 : decode cX2_spansUnderBowls 19 = .ok (.aload_n 2, 1) := by decide +kernel
theorem dX2_spansUnderBowls_20 : decode cX2_spansUnderBowls 20 = .ok (.iload 4, 2) := by decide +kernel
theorem dX2_spansUnderBowls_22 : decode cX2_spansUnderBowls 22 = .ok (.aaload, 1) := by decide +kernel
theorem dX2_spansUnderBowls_23 : decode cX2_spansUnderBowls 23 = .ok (.astore 5, 2) := by decide +kernel
theorem dX2_spansUnderBowls_25 : decode cX2_spansUnderBowls 25 = .ok (.iload_n 1, 1) := by decide +kernel
theorem dX2_spansUnderBowls_26 : decode cX2_spansUnderBowls 26 = .ok (.aload 5, 2) := by decide +kernel
theorem dX2_spansUnderBowls_28 : decode cX2_spansUnderBowls 28 = .ok (.getfield 104, 3) := by decide +kernel
theorem dX2_spansUnderBowls_31 : decode cX2_spansUnderBowls 31 = .ok (.aload 5, 2) := by decide +kernel
theorem dX2_spansUnderBowls_33 : decode cX2_spansUnderBowls 33 = .ok (.getfield 244, 3) := by decide +kernel
theorem dX2_spansUnderBowls_36 : decode cX2_spansUnderBowls 36 = .ok (.imul, 1) := by decide +kernel
theorem dX2_spansUnderBowls_37 : decode cX2_spansUnderBowls 37 = .ok (.iadd, 1) := by decide +kernel
theorem dX2_spansUnderBowls_38 : decode cX2_spansUnderBowls 38 = .ok (.istore_n 1, 1) := by decide +kernel
theorem dX2_spansUnderBowls_39 : decode cX2_spansUnderBowls 39 = .ok (.iinc 4 1, 3) := by decide +kernel
theorem dX2_spansUnderBowls_42 : decode cX2_spansUnderBowls 42 = .ok (.goto (-29), 3) := by decide +kernel
theorem dX2_spansUnderBowls_45 : decode cX2_spansUnderBowls 45 = .ok (.iload_n 1, 1) := by decide +kernel
theorem dX2_spansUnderBowls_46 : decode cX2_spansUnderBowls 46 = .ok (.ireturn, 1) := by decide +kernel
theorem dX2_spansOfNoPlace_0 : decode cX2_spansOfNoPlace 0 = .ok (.iconst 0, 1) := by decide +kernel
theorem dX2_spansOfNoPlace_1 : decode cX2_spansOfNoPlace 1 = .ok (.istore_n 1, 1) := by decide +kernel
theorem dX2_spansOfNoPlace_2 : decode cX2_spansOfNoPlace 2 = .ok (.aload_n 0, 1) := by decide +kernel
theorem dX2_spansOfNoPlace_3 : decode cX2_spansOfNoPlace 3 = .ok (.getfield 11, 3) := by decide +kernel
theorem dX2_spansOfNoPlace_6 : decode cX2_spansOfNoPlace 6 = .ok (.astore_n 2, 1) := by decide +kernel
theorem dX2_spansOfNoPlace_7 : decode cX2_spansOfNoPlace 7 = .ok (.aload_n 2, 1) := by decide +kernel
theorem dX2_spansOfNoPlace_8 : decode cX2_spansOfNoPlace 8 = .ok (.arraylength, 1) := by decide +kernel
theorem dX2_spansOfNoPlace_9 : decode cX2_spansOfNoPlace 9 = .ok (.istore_n 3, 1) := by decide +kernel
theorem dX2_spansOfNoPlace_10 : decode cX2_spansOfNoPlace 10 = .ok (.iconst 0, 1) := by decide +kernel
theorem dX2_spansOfNoPlace_11 : decode cX2_spansOfNoPlace 11 = .ok (.istore 4, 2) := by decide +kernel
theorem dX2_spansOfNoPlace_13 : decode cX2_spansOfNoPlace 13 = .ok (.iload 4, 2) := by decide +kernel
theorem dX2_spansOfNoPlace_15 : decode cX2_spansOfNoPlace 15 = .ok (.iload_n 3, 1) := by decide +kernel
theorem dX2_spansOfNoPlace_16 : decode cX2_spansOfNoPlace 16 = .ok (.if_icmp .ge 40, 3) := by decide +kernel
theorem dX2_spansOfNoPlace_19 : decode cX2_spansOfNoPlace 19 = .ok (.aload_n 2, 1) := by decide +kernel
theorem dX2_spansOfNoPlace_20 : decode cX2_spansOfNoPlace 20 = .ok (.iload 4, 2) := by decide +kernel
theorem dX2_spansOfNoPlace_22 : decode cX2_spansOfNoPlace 22 = .ok (.aaload, 1) := by decide +kernel
theorem dX2_spansOfNoPlace_23 : decode cX2_spansOfNoPlace 23 = .ok (.astore 5, 2) := by decide +kernel
theorem dX2_spansOfNoPlace_25 : decode cX2_spansOfNoPlace 25 = .ok (.aload 5, 2) := by decide +kernel
theorem dX2_spansOfNoPlace_27 : decode cX2_spansOfNoPlace 27 = .ok (.invokevirtual 70, 3) := by decide +kernel
theorem dX2_spansOfNoPlace_30 : decode cX2_spansOfNoPlace 30 = .ok (.ifCond .eq 20, 3) := by decide +kernel
theorem dX2_spansOfNoPlace_33 : decode cX2_spansOfNoPlace 33 = .ok (.iload_n 1, 1) := by decide +kernel
theorem dX2_spansOfNoPlace_34 : decode cX2_spansOfNoPlace 34 = .ok (.bipush 24, 2) := by decide +kernel
theorem dX2_spansOfNoPlace_36 : decode cX2_spansOfNoPlace 36 = .ok (.aload 5, 2) := by decide +kernel
theorem dX2_spansOfNoPlace_38 : decode cX2_spansOfNoPlace 38 = .ok (.getfield 245, 3) := by decide +kernel
theorem dX2_spansOfNoPlace_41 : decode cX2_spansOfNoPlace 41 = .ok (.aload 5, 2) := by decide +kernel
theorem dX2_spansOfNoPlace_43 : decode cX2_spansOfNoPlace 43 = .ok (.getfield 244, 3) := by decide +kernel
theorem dX2_spansOfNoPlace_46 : decode cX2_spansOfNoPlace 46 = .ok (.imul, 1) := by decide +kernel
theorem dX2_spansOfNoPlace_47 : decode cX2_spansOfNoPlace 47 = .ok (.isub, 1) := by decide +kernel
theorem dX2_spansOfNoPlace_48 : decode cX2_spansOfNoPlace 48 = .ok (.iadd, 1) := by decide +kernel
theorem dX2_spansOfNoPlace_49 : decode cX2_spansOfNoPlace 49 = .ok (.istore_n 1, 1) := by decide +kernel
theorem dX2_spansOfNoPlace_50 : decode cX2_spansOfNoPlace 50 = .ok (.iinc 4 1, 3) := by decide +kernel
theorem dX2_spansOfNoPlace_53 : decode cX2_spansOfNoPlace 53 = .ok (.goto (-40), 3) := by decide +kernel
theorem dX2_spansOfNoPlace_56 : decode cX2_spansOfNoPlace 56 = .ok (.iload_n 1, 1) := by decide +kernel
theorem dX2_spansOfNoPlace_57 : decode cX2_spansOfNoPlace 57 = .ok (.ireturn, 1) := by decide +kernel
theorem dX2_mixed_0 : decode cX2_mixed 0 = .ok (.lload_n 0, 1) := by decide +kernel
theorem dX2_mixed_1 : decode cX2_mixed 1 = .ok (.ldc2_w 246, 3) := by decide +kernel
theorem dX2_mixed_4 : decode cX2_mixed 4 = .ok (.lmul, 1) := by decide +kernel
theorem dX2_mixed_5 : decode cX2_mixed 5 = .ok (.lload_n 2, 1) := by decide +kernel
theorem dX2_mixed_6 : decode cX2_mixed 6 = .ok (.ladd, 1) := by decide +kernel
theorem dX2_mixed_7 : decode cX2_mixed 7 = .ok (.lreturn, 1) := by decide +kernel
theorem dX2_mixedWithShelf_0 : decode cX2_mixedWithShelf 0 = .ok (.lload_n 0, 1) := by decide +kernel
theorem dX2_mixedWithShelf_1 : decode cX2_mixedWithShelf 1 = .ok (.lstore_n 3, 1) := by decide +kernel
theorem dX2_mixedWithShelf_2 : decode cX2_mixedWithShelf 2 = .ok (.iconst 0, 1) := by decide +kernel
theorem dX2_mixedWithShelf_3 : decode cX2_mixedWithShelf 3 = .ok (.istore 5, 2) := by decide +kernel
theorem dX2_mixedWithShelf_5 : decode cX2_mixedWithShelf 5 = .ok (.iload 5, 2) := by decide +kernel
theorem dX2_mixedWithShelf_7 : decode cX2_mixedWithShelf 7 = .ok (.bipush 6, 2) := by decide +kernel
theorem dX2_mixedWithShelf_9 : decode cX2_mixedWithShelf 9 = .ok (.if_icmp .ge 21, 3) := by decide +kernel
theorem dX2_mixedWithShelf_12 : decode cX2_mixedWithShelf 12 = .ok (.lload_n 3, 1) := by decide +kernel
theorem dX2_mixedWithShelf_13 : decode cX2_mixedWithShelf 13 = .ok (.aload_n 2, 1) := by decide +kernel
theorem dX2_mixedWithShelf_14 : decode cX2_mixedWithShelf 14 = .ok (.iload 5, 2) := by decide +kernel
theorem dX2_mixedWithShelf_16 : decode cX2_mixedWithShelf 16 = .ok (.invokevirtual 124, 3) := by decide +kernel
theorem dX2_mixedWithShelf_19 : decode cX2_mixedWithShelf 19 = .ok (.i2l, 1) := by decide +kernel
theorem dX2_mixedWithShelf_20 : decode cX2_mixedWithShelf 20 = .ok (.invokestatic 175, 3) := by decide +kernel
theorem dX2_mixedWithShelf_23 : decode cX2_mixedWithShelf 23 = .ok (.lstore_n 3, 1) := by decide +kernel
theorem dX2_mixedWithShelf_24 : decode cX2_mixedWithShelf 24 = .ok (.iinc 5 1, 3) := by decide +kernel
theorem dX2_mixedWithShelf_27 : decode cX2_mixedWithShelf 27 = .ok (.goto (-22), 3) := by decide +kernel
theorem dX2_mixedWithShelf_30 : decode cX2_mixedWithShelf 30 = .ok (.iconst 0, 1) := by decide +kernel
theorem dX2_mixedWithShelf_31 : decode cX2_mixedWithShelf 31 = .ok (.istore 5, 2) := by decide +kernel
theorem dX2_mixedWithShelf_33 : decode cX2_mixedWithShelf 33 = .ok (.iload 5, 2) := by decide +kernel
theorem dX2_mixedWithShelf_35 : decode cX2_mixedWithShelf 35 = .ok (.aload_n 2, 1) := by decide +kernel
theorem dX2_mixedWithShelf_36 : decode cX2_mixedWithShelf 36 = .ok (.getfield 245, 3) := by decide +kernel
theorem dX2_mixedWithShelf_39 : decode cX2_mixedWithShelf 39 = .ok (.if_icmp .ge 28, 3) := by decide +kernel
theorem dX2_mixedWithShelf_42 : decode cX2_mixedWithShelf 42 = .ok (.lload_n 3, 1) := by decide +kernel
theorem dX2_mixedWithShelf_43 : decode cX2_mixedWithShelf 43 = .ok (.aload_n 2, 1) := by decide +kernel
theorem dX2_mixedWithShelf_44 : decode cX2_mixedWithShelf 44 = .ok (.iload 5, 2) := by decide +kernel
theorem dX2_mixedWithShelf_46 : decode cX2_mixedWithShelf 46 = .ok (.invokevirtual 95, 3) := by decide +kernel
theorem dX2_mixedWithShelf_49 : decode cX2_mixedWithShelf 49 = .ok (.ifCond .eq 7, 3) := by decide +kernel
theorem dX2_mixedWithShelf_52 : decode cX2_mixedWithShelf 52 = .ok (.lconst 1, 1) := by decide +kernel
theorem dX2_mixedWithShelf_53 : decode cX2_mixedWithShelf 53 = .ok (.goto 4, 3) := by decide +kernel
theorem dX2_mixedWithShelf_56 : decode cX2_mixedWithShelf 56 = .ok (.lconst 0, 1) := by decide +kernel
theorem dX2_mixedWithShelf_57 : decode cX2_mixedWithShelf 57 = .ok (.invokestatic 175, 3) := by decide +kernel
theorem dX2_mixedWithShelf_60 : decode cX2_mixedWithShelf 60 = .ok (.lstore_n 3, 1) := by decide +kernel
theorem dX2_mixedWithShelf_61 : decode cX2_mixedWithShelf 61 = .ok (.iinc 5 1, 3) := by decide +kernel
theorem dX2_mixedWithShelf_64 : decode cX2_mixedWithShelf 64 = .ok (.goto (-31), 3) := by decide +kernel
theorem dX2_mixedWithShelf_67 : decode cX2_mixedWithShelf 67 = .ok (.lload_n 3, 1) := by decide +kernel
theorem dX2_mixedWithShelf_68 : decode cX2_mixedWithShelf 68 = .ok (.lreturn, 1) := by decide +kernel
theorem dX2_mixedWithKind_0 : decode cX2_mixedWithKind 0 = .ok (.lload_n 1, 1) := by decide +kernel
theorem dX2_mixedWithKind_1 : decode cX2_mixedWithKind 1 = .ok (.lstore 4, 2) := by decide +kernel
theorem dX2_mixedWithKind_3 : decode cX2_mixedWithKind 3 = .ok (.iconst 0, 1) := by decide +kernel
theorem dX2_mixedWithKind_4 : decode cX2_mixedWithKind 4 = .ok (.istore 6, 2) := by decide +kernel
theorem dX2_mixedWithKind_6 : decode cX2_mixedWithKind 6 = .ok (.iload 6, 2) := by decide +kernel
theorem dX2_mixedWithKind_8 : decode cX2_mixedWithKind 8 = .ok (.bipush 9, 2) := by decide +kernel
theorem dX2_mixedWithKind_10 : decode cX2_mixedWithKind 10 = .ok (.if_icmp .ge 24, 3) := by decide +kernel
theorem dX2_mixedWithKind_13 : decode cX2_mixedWithKind 13 = .ok (.lload 4, 2) := by decide +kernel
theorem dX2_mixedWithKind_15 : decode cX2_mixedWithKind 15 = .ok (.aload_n 0, 1) := by decide +kernel
theorem dX2_mixedWithKind_16 : decode cX2_mixedWithKind 16 = .ok (.aload_n 3, 1) := by decide +kernel
theorem dX2_mixedWithKind_17 : decode cX2_mixedWithKind 17 = .ok (.iload 6, 2) := by decide +kernel
theorem dX2_mixedWithKind_19 : decode cX2_mixedWithKind 19 = .ok (.invokevirtual 127, 3) := by decide +kernel
theorem dX2_mixedWithKind_22 : decode cX2_mixedWithKind 22 = .ok (.i2l, 1) := by decide +kernel
theorem dX2_mixedWithKind_23 : decode cX2_mixedWithKind 23 = .ok (.invokestatic 175, 3) := by decide +kernel
theorem dX2_mixedWithKind_26 : decode cX2_mixedWithKind 26 = .ok (.lstore 4, 2) := by decide +kernel
theorem dX2_mixedWithKind_28 : decode cX2_mixedWithKind 28 = .ok (.iinc 6 1, 3) := by decide +kernel
theorem dX2_mixedWithKind_31 : decode cX2_mixedWithKind 31 = .ok (.goto (-25), 3) := by decide +kernel
theorem dX2_mixedWithKind_34 : decode cX2_mixedWithKind 34 = .ok (.lload 4, 2) := by decide +kernel
theorem dX2_mixedWithKind_36 : decode cX2_mixedWithKind 36 = .ok (.aload_n 0, 1) := by decide +kernel
theorem dX2_mixedWithKind_37 : decode cX2_mixedWithKind 37 = .ok (.aload_n 3, 1) := by decide +kernel
theorem dX2_mixedWithKind_38 : decode cX2_mixedWithKind 38 = .ok (.invokevirtual 149, 3) := by decide +kernel
theorem dX2_mixedWithKind_41 : decode cX2_mixedWithKind 41 = .ok (.i2l, 1) := by decide +kernel
theorem dX2_mixedWithKind_42 : decode cX2_mixedWithKind 42 = .ok (.invokestatic 175, 3) := by decide +kernel
theorem dX2_mixedWithKind_45 : decode cX2_mixedWithKind 45 = .ok (.lreturn, 1) := by decide +kernel
theorem dX3_init_0 : decode cX3_init 0 = .ok (.aload_n 0, 1) := by decide +kernel
theorem dX3_init_1 : decode cX3_init 1 = .ok (.invokespecial 1, 3) := by decide +kernel
theorem dX3_init_4 : decode cX3_init 4 = .ok (.aload_n 0, 1) := by decide +kernel
theorem dX3_init_5 : decode cX3_init 5 = .ok (.iconst 5, 1) := by decide +kernel
theorem dX3_init_6 : decode cX3_init 6 = .ok (.newarray .int, 2) := by decide +kernel
theorem dX3_init_8 : decode cX3_init 8 = .ok (.putfield 9, 3) := by decide +kernel
theorem dX3_init_11 : decode cX3_init 11 = .ok (.aload_n 0, 1) := by decide +kernel
theorem dX3_init_12 : decode cX3_init 12 = .ok (.iconst 5, 1) := by decide +kernel
theorem dX3_init_13 : decode cX3_init 13 = .ok (.newarray .int, 2) := by decide +kernel
theorem dX3_init_15 : decode cX3_init 15 = .ok (.putfield 13, 3) := by decide +kernel
theorem dX3_init_18 : decode cX3_init 18 = .ok (.aload_n 0, 1) := by decide +kernel
theorem dX3_init_19 : decode cX3_init 19 = .ok (.bipush 12, 2) := by decide +kernel
theorem dX3_init_21 : decode cX3_init 21 = .ok (.newarray .int, 2) := by decide +kernel
theorem dX3_init_23 : decode cX3_init 23 = .ok (.putfield 16, 3) := by decide +kernel
theorem dX3_init_26 : decode cX3_init 26 = .ok (.aload_n 0, 1) := by decide +kernel
theorem dX3_init_27 : decode cX3_init 27 = .ok (.bipush 12, 2) := by decide +kernel
theorem dX3_init_29 : decode cX3_init 29 = .ok (.newarray .int, 2) := by decide +kernel
theorem dX3_init_31 : decode cX3_init 31 = .ok (.putfield 19, 3) := by decide +kernel
theorem dX3_init_34 : decode cX3_init 34 = .ok (.aload_n 0, 1) := by decide +kernel
theorem dX3_init_35 : decode cX3_init 35 = .ok (.bipush 12, 2) := by decide +kernel
theorem dX3_init_37 : decode cX3_init 37 = .ok (.newarray .int, 2) := by decide +kernel
theorem dX3_init_39 : decode cX3_init 39 = .ok (.putfield 22, 3) := by decide +kernel
theorem dX3_init_42 : decode cX3_init 42 = .ok (.aload_n 0, 1) := by decide +kernel
theorem dX3_init_43 : decode cX3_init 43 = .ok (.bipush 12, 2) := by decide +kernel
theorem dX3_init_45 : decode cX3_init 45 = .ok (.newarray .int, 2) := by decide +kernel
theorem dX3_init_47 : decode cX3_init 47 = .ok (.putfield 25, 3) := by decide +kernel
theorem dX3_init_50 : decode cX3_init 50 = .ok (.aload_n 0, 1) := by decide +kernel
theorem dX3_init_51 : decode cX3_init 51 = .ok (.bipush 12, 2) := by decide +kernel
theorem dX3_init_53 : decode cX3_init 53 = .ok (.newarray .int, 2) := by decide +kernel
theorem dX3_init_55 : decode cX3_init 55 = .ok (.putfield 28, 3) := by decide +kernel
theorem dX3_init_58 : decode cX3_init 58 = .ok (.aload_n 0, 1) := by decide +kernel
theorem dX3_init_59 : decode cX3_init 59 = .ok (.bipush 12, 2) := by decide +kernel
theorem dX3_init_61 : decode cX3_init 61 = .ok (.newarray .int, 2) := by decide +kernel
theorem dX3_init_63 : decode cX3_init 63 = .ok (.putfield 31, 3) := by decide +kernel
theorem dX3_init_66 : decode cX3_init 66 = .ok (.iconst 0, 1) := by decide +kernel
theorem dX3_init_67 : decode cX3_init 67 = .ok (.istore_n 1, 1) := by decide +kernel
theorem dX3_init_68 : decode cX3_init 68 = .ok (.iload_n 1, 1) := by decide +kernel
theorem dX3_init_69 : decode cX3_init 69 = .ok (.bipush 12, 2) := by decide +kernel
theorem dX3_init_71 : decode cX3_init 71 = .ok (.if_icmp .ge 23, 3) := by decide +kernel
theorem dX3_init_74 : decode cX3_init 74 = .ok (.aload_n 0, 1) := by decide +kernel
theorem dX3_init_75 : decode cX3_init 75 = .ok (.getfield 16, 3) := by decide +kernel
theorem dX3_init_78 : decode cX3_init 78 = .ok (.iload_n 1, 1) := by decide +kernel
theorem dX3_init_79 : decode cX3_init 79 = .ok (.iconst (-1), 1) := by decide +kernel
theorem dX3_init_80 : decode cX3_init 80 = .ok (.iastore, 1) := by decide +kernel
theorem dX3_init_81 : decode cX3_init 81 = .ok (.aload_n 0, 1) := by decide +kernel
theorem dX3_init_82 : decode cX3_init 82 = .ok (.getfield 25, 3) := by decide +kernel
theorem dX3_init_85 : decode cX3_init 85 = .ok (.iload_n 1, 1) := by decide +kernel
theorem dX3_init_86 : decode cX3_init 86 = .ok (.iconst (-1), 1) := by decide +kernel
theorem dX3_init_87 : decode cX3_init 87 = .ok (.iastore, 1) := by decide +kernel
theorem dX3_init_88 : decode cX3_init 88 = .ok (.iinc 1 1, 3) := by decide +kernel
theorem dX3_init_91 : decode cX3_init 91 = .ok (.goto (-23), 3) := by decide +kernel
theorem dX3_init_94 : decode cX3_init 94 = .ok (.return_, 1) := by decide +kernel
theorem dX3_thrown_0 : decode cX3_thrown 0 = .ok (.aload_n 0, 1) := by decide +kernel
theorem dX3_thrown_1 : decode cX3_thrown 1 = .ok (.getfield 34, 3) := by decide +kernel
theorem dX3_thrown_4 : decode cX3_thrown 4 = .ok (.ireturn, 1) := by decide +kernel
theorem dX3_no_0 : decode cX3_no 0 = .ok (.aload_n 0, 1) := by decide +kernel
theorem dX3_no_1 : decode cX3_no 1 = .ok (.iload_n 1, 1) := by decide +kernel
theorem dX3_no_2 : decode cX3_no 2 = .ok (.putfield 34, 3) := by decide +kernel
theorem dX3_no_5 : decode cX3_no 5 = .ok (.iconst 0, 1) := by decide +kernel
theorem dX3_no_6 : decode cX3_no 6 = .ok (.ireturn, 1) := by decide +kernel
theorem dX3_isIn_0 : decode cX3_isIn 0 = .ok (.iload_n 0, 1) := by decide +kernel
theorem dX3_isIn_1 : decode cX3_isIn 1 = .ok (.iload_n 1, 1) := by decide +kernel
theorem dX3_isIn_2 : decode cX3_isIn 2 = .ok (.if_icmp .lt 12, 3) := by decide +kernel
theorem dX3_isIn_5 : decode cX3_isIn 5 = .ok (.iload_n 0, 1) := by decide +kernel
theorem dX3_isIn_6 : decode cX3_isIn 6 = .ok (.iload_n 2, 1) := by decide +kernel
theorem dX3_isIn_7 : decode cX3_isIn 7 = .ok (.if_icmp .gt 7, 3) := by decide +kernel
theorem dX3_isIn_10 : decode cX3_isIn 10 = .ok (.iconst 1, 1) := by decide +kernel
theorem dX3_isIn_11 : decode cX3_isIn 11 = .ok (.goto 4, 3) := by decide +kernel
theorem dX3_isIn_14 : decode cX3_isIn 14 = .ok (.iconst 0, 1) := by decide +kernel
theorem dX3_isIn_15 : decode cX3_isIn 15 = .ok (.ireturn, 1) := by decide +kernel
theorem dX3_isKind_0 : decode cX3_isKind 0 = .ok (.iload_n 1, 1) := by decide +kernel
theorem dX3_isKind_1 : decode cX3_isKind 1 = .ok (.iconst 0, 1) := by decide +kernel
theorem dX3_isKind_2 : decode cX3_isKind 2 = .ok (.aload_n 0, 1) := by decide +kernel
theorem dX3_isKind_3 : decode cX3_isKind 3 = .ok (.getfield 38, 3) := by decide +kernel
theorem dX3_isKind_6 : decode cX3_isKind 6 = .ok (.iconst 1, 1) := by decide +kernel
theorem dX3_isKind_7 : decode cX3_isKind 7 = .ok (.isub, 1) := by decide +kernel
theorem dX3_isKind_8 : decode cX3_isKind 8 = .ok (.invokestatic 41, 3) := by decide +kernel
theorem dX3_isKind_11 : decode cX3_isKind 11 = .ok (.ireturn, 1) := by decide +kernel
theorem dX3_isSpot_0 : decode cX3_isSpot 0 = .ok (.iload_n 0, 1) := by decide +kernel
theorem dX3_isSpot_1 : decode cX3_isSpot 1 = .ok (.iconst 0, 1) := by decide +kernel
theorem dX3_isSpot_2 : decode cX3_isSpot 2 = .ok (.sipush 287, 3) := by decide +kernel
theorem dX3_isSpot_5 : decode cX3_isSpot 5 = .ok (.invokestatic 41, 3) := by decide +kernel
theorem dX3_isSpot_8 : decode cX3_isSpot 8 = .ok (.ireturn, 1) := by decide +kernel
theorem dX3_places_0 : decode cX3_places 0 = .ok (.bipush 24, 2) := by decide +kernel
theorem dX3_places_2 : decode cX3_places 2 = .ok (.aload_n 0, 1) := by decide +kernel
theorem dX3_places_3 : decode cX3_places 3 = .ok (.getfield 9, 3) := by decide +kernel
theorem dX3_places_6 : decode cX3_places 6 = .ok (.iload_n 1, 1) := by decide +kernel
theorem dX3_places_7 : decode cX3_places 7 = .ok (.iaload, 1) := by decide +kernel
theorem dX3_places_8 : decode cX3_places 8 = .ok (.idiv, 1) := by decide +kernel
theorem dX3_places_9 : decode cX3_places 9 = .ok (.ireturn, 1) := by decide +kernel
theorem dX3_rest_0 : decode cX3_rest 0 = .ok (.bipush 24, 2) := by decide +kernel
theorem dX3_rest_2 : decode cX3_rest 2 = .ok (.aload_n 0, 1) := by decide +kernel
theorem dX3_rest_3 : decode cX3_rest 3 = .ok (.getfield 9, 3) := by decide +kernel
theorem dX3_rest_6 : decode cX3_rest 6 = .ok (.iload_n 1, 1) := by decide +kernel
theorem dX3_rest_7 : decode cX3_rest 7 = .ok (.iaload, 1) := by decide +kernel
theorem dX3_rest_8 : decode cX3_rest 8 = .ok (.irem, 1) := by decide +kernel
theorem dX3_rest_9 : decode cX3_rest 9 = .ok (.ireturn, 1) := by decide +kernel
theorem dX3_isFree_0 : decode cX3_isFree 0 = .ok (.aload_n 0, 1) := by decide +kernel
theorem dX3_isFree_1 : decode cX3_isFree 1 = .ok (.getfield 16, 3) := by decide +kernel
theorem dX3_isFree_4 : decode cX3_isFree 4 = .ok (.iload_n 1, 1) := by decide +kernel
theorem dX3_isFree_5 : decode cX3_isFree 5 = .ok (.iaload, 1) := by decide +kernel
theorem dX3_isFree_6 : decode cX3_isFree 6 = .ok (.iconst (-1), 1) := by decide +kernel
theorem dX3_isFree_7 : decode cX3_isFree 7 = .ok (.if_icmp .ne 7, 3) := by decide +kernel
theorem dX3_isFree_10 : decode cX3_isFree 10 = .ok (.iconst 1, 1) := by decide +kernel
theorem dX3_isFree_11 : decode cX3_isFree 11 = .ok (.goto 4, 3) := by decide +kernel
theorem dX3_isFree_14 : decode cX3_isFree 14 = .ok (.iconst 0, 1) := by decide +kernel
theorem dX3_isFree_15 : decode cX3_isFree 15 = .ok (.ireturn, 1) := by decide +kernel
theorem dX3_many_0 : decode cX3_many 0 = .ok (.aload_n 0, 1) := by decide +kernel
theorem dX3_many_1 : decode cX3_many 1 = .ok (.getfield 22, 3) := by decide +kernel
theorem dX3_many_4 : decode cX3_many 4 = .ok (.iload_n 1, 1) := by decide +kernel
theorem dX3_many_5 : decode cX3_many 5 = .ok (.iaload, 1) := by decide +kernel
theorem dX3_many_6 : decode cX3_many 6 = .ok (.invokestatic 45, 3) := by decide +kernel
theorem dX3_many_9 : decode cX3_many 9 = .ok (.ireturn, 1) := by decide +kernel
theorem dX3_isFull_0 : decode cX3_isFull 0 = .ok (.aload_n 0, 1) := by decide +kernel
theorem dX3_isFull_1 : decode cX3_isFull 1 = .ok (.iload_n 1, 1) := by decide +kernel
theorem dX3_isFull_2 : decode cX3_isFull 2 = .ok (.invokevirtual 51, 3) := by decide +kernel
theorem dX3_isFull_5 : decode cX3_isFull 5 = .ok (.aload_n 0, 1) := by decide +kernel
theorem dX3_isFull_6 : decode cX3_isFull 6 = .ok (.aload_n 0, 1) := by decide +kernel
theorem dX3_isFull_7 : decode cX3_isFull 7 = .ok (.getfield 16, 3) := by decide +kernel
theorem dX3_isFull_10 : decode cX3_isFull 10 = .ok (.iload_n 1, 1) := by decide +kernel
theorem dX3_isFull_11 : decode cX3_isFull 11 = .ok (.iaload, 1) := by decide +kernel
theorem dX3_isFull_12 : decode cX3_isFull 12 = .ok (.invokevirtual 54, 3) := by decide +kernel
theorem dX3_isFull_15 : decode cX3_isFull 15 = .ok (.if_icmp .ne 7, 3) := by decide +kernel
theorem dX3_isFull_18 : decode cX3_isFull 18 = .ok (.iconst 1, 1) := by decide +kernel
theorem dX3_isFull_19 : decode cX3_isFull 19 = .ok (.goto 4, 3) := by decide +kernel
theorem dX3_isFull_22 : decode cX3_isFull 22 = .ok (.iconst 0, 1) := by decide +kernel
theorem dX3_isFull_23 : decode cX3_isFull 23 = .ok (.ireturn, 1) := by decide +kernel
theorem dX3_isUsed_0 : decode cX3_isUsed 0 = .ok (.aload_n 0, 1) := by decide +kernel
theorem dX3_isUsed_1 : decode cX3_isUsed 1 = .ok (.getfield 16, 3) := by decide +kernel
theorem dX3_isUsed_4 : decode cX3_isUsed 4 = .ok (.iload_n 1, 1) := by decide +kernel
theorem dX3_isUsed_5 : decode cX3_isUsed 5 = .ok (.iaload, 1) := by decide +kernel
theorem dX3_isUsed_6 : decode cX3_isUsed 6 = .ok (.iload_n 2, 1) := by decide +kernel
theorem dX3_isUsed_7 : decode cX3_isUsed 7 = .ok (.if_icmp .ne 24, 3) := by decide +kernel
theorem dX3_isUsed_10 : decode cX3_isUsed 10 = .ok (.aload_n 0, 1) := by decide +kernel
theorem dX3_isUsed_11 : decode cX3_isUsed 11 = .ok (.getfield 22, 3) := by decide +kernel
theorem dX3_isUsed_14 : decode cX3_isUsed 14 = .ok (.iload_n 1, 1) := by decide +kernel
theorem dX3_isUsed_15 : decode cX3_isUsed 15 = .ok (.iaload, 1) := by decide +kernel
theorem dX3_isUsed_16 : decode cX3_isUsed 16 = .ok (.ifCond .eq 15, 3) := by decide +kernel
theorem dX3_isUsed_19 : decode cX3_isUsed 19 = .ok (.aload_n 0, 1) := by decide +kernel
theorem dX3_isUsed_20 : decode cX3_isUsed 20 = .ok (.iload_n 1, 1) := by decide +kernel
theorem dX3_isUsed_21 : decode cX3_isUsed 21 = .ok (.invokevirtual 57, 3) := by decide +kernel
theorem dX3_isUsed_24 : decode cX3_isUsed 24 = .ok (.ifCond .ne 7, 3) := by decide +kernel
theorem dX3_isUsed_27 : decode cX3_isUsed 27 = .ok (.iconst 1, 1) := by decide +kernel
theorem dX3_isUsed_28 : decode cX3_isUsed 28 = .ok (.goto 4, 3) := by decide +kernel
theorem dX3_isUsed_31 : decode cX3_isUsed 31 = .ok (.iconst 0, 1) := by decide +kernel
theorem dX3_isUsed_32 : decode cX3_isUsed 32 = .ok (.ireturn, 1) := by decide +kernel
theorem dX3_isEmpty_0 : decode cX3_isEmpty 0 = .ok (.aload_n 0, 1) := by decide +kernel
theorem dX3_isEmpty_1 : decode cX3_isEmpty 1 = .ok (.getfield 16, 3) := by decide +kernel
theorem dX3_isEmpty_4 : decode cX3_isEmpty 4 = .ok (.iload_n 1, 1) := by decide +kernel
theorem dX3_isEmpty_5 : decode cX3_isEmpty 5 = .ok (.iaload, 1) := by decide +kernel
theorem dX3_isEmpty_6 : decode cX3_isEmpty 6 = .ok (.iload_n 2, 1) := by decide +kernel
theorem dX3_isEmpty_7 : decode cX3_isEmpty 7 = .ok (.if_icmp .ne 16, 3) := by decide +kernel
theorem dX3_isEmpty_10 : decode cX3_isEmpty 10 = .ok (.aload_n 0, 1) := by decide +kernel
theorem dX3_isEmpty_11 : decode cX3_isEmpty 11 = .ok (.getfield 22, 3) := by decide +kernel
theorem dX3_isEmpty_14 : decode cX3_isEmpty 14 = .ok (.iload_n 1, 1) := by decide +kernel
theorem dX3_isEmpty_15 : decode cX3_isEmpty 15 = .ok (.iaload, 1) := by decide +kernel
theorem dX3_isEmpty_16 : decode cX3_isEmpty 16 = .ok (.ifCond .ne 7, 3) := by decide +kernel
theorem dX3_isEmpty_19 : decode cX3_isEmpty 19 = .ok (.iconst 1, 1) := by decide +kernel
theorem dX3_isEmpty_20 : decode cX3_isEmpty 20 = .ok (.goto 4, 3) := by decide +kernel
theorem dX3_isEmpty_23 : decode cX3_isEmpty 23 = .ok (.iconst 0, 1) := by decide +kernel
theorem dX3_isEmpty_24 : decode cX3_isEmpty 24 = .ok (.ireturn, 1) := by decide +kernel
theorem dX3_hole_0 : decode cX3_hole 0 = .ok (.iconst 0, 1) := by decide +kernel
theorem dX3_hole_1 : decode cX3_hole 1 = .ok (.istore_n 2, 1) := by decide +kernel
theorem dX3_hole_2 : decode cX3_hole 2 = .ok (.iload_n 2, 1) := by decide +kernel
theorem dX3_hole_3 : decode cX3_hole 3 = .ok (.aload_n 0, 1) := by decide +kernel
theorem dX3_hole_4 : decode cX3_hole 4 = .ok (.aload_n 0, 1) := by decide +kernel
theorem dX3_hole_5 : decode cX3_hole 5 = .ok (.getfield 16, 3) := by decide +kernel
theorem dX3_hole_8 : decode cX3_hole 8 = .ok (.iload_n 1, 1) := by decide +kernel
theorem dX3_hole_9 : decode cX3_hole 9 = .ok (.iaload, 1) := by decide +kernel
theorem dX3_hole_10 : decode cX3_hole 10 = .ok (.invokevirtual 54, 3) := by decide +kernel
theorem dX3_hole_13 : decode cX3_hole 13 = .ok (.if_icmp .ge 24, 3) := by decide +kernel
theorem dX3_hole_16 : decode cX3_hole 16 = .ok (.aload_n 0, 1) := by decide +kernel
theorem dX3_hole_17 : decode cX3_hole 17 = .ok (.getfield 22, 3) := by decide +kernel
theorem dX3_hole_20 : decode cX3_hole 20 = .ok (.iload_n 1, 1) := by decide +kernel
theorem dX3_hole_21 : decode cX3_hole 21 = .ok (.iaload, 1) := by decide +kernel
theorem dX3_hole_22 : decode cX3_hole 22 = .ok (.iload_n 2, 1) := by decide +kernel
theorem dX3_hole_23 : decode cX3_hole 23 = .ok (.ishr, 1) := by decide +kernel
theorem dX3_hole_24 : decode cX3_hole 24 = .ok (.iconst 1, 1) := by decide +kernel
theorem dX3_hole_25 : decode cX3_hole 25 = .ok (.iand, 1) := by decide +kernel
theorem dX3_hole_26 : decode cX3_hole 26 = .ok (.ifCond .ne 5, 3) := by decide +kernel
theorem dX3_hole_29 : decode cX3_hole 29 = .ok (.iload_n 2, 1) := by decide +kernel
theorem dX3_hole_30 : decode cX3_hole 30 = .ok (.ireturn, 1) := by decide +kernel
theorem dX3_hole_31 : decode cX3_hole 31 = .ok (.iinc 2 1, 3) := by decide +kernel
theorem dX3_hole_34 : decode cX3_hole 34 = .ok (.goto (-32), 3) := by decide +kernel
theorem dX3_hole_37 : decode cX3_hole 37 = .ok (.iconst (-1), 1) := by decide +kernel
theorem dX3_hole_38 : decode cX3_hole 38 = .ok (.ireturn, 1) := by decide +kernel
theorem dX3_spotOf_0 : decode cX3_spotOf 0 = .ok (.bipush 24, 2) := by decide +kernel
theorem dX3_spotOf_2 : decode cX3_spotOf 2 = .ok (.iload_n 1, 1) := by decide +kernel
theorem dX3_spotOf_3 : decode cX3_spotOf 3 = .ok (.imul, 1) := by decide +kernel
theorem dX3_spotOf_4 : decode cX3_spotOf 4 = .ok (.aload_n 0, 1) := by decide +kernel
theorem dX3_spotOf_5 : decode cX3_spotOf 5 = .ok (.getfield 19, 3) := by decide +kernel
theorem dX3_spotOf_8 : decode cX3_spotOf 8 = .ok (.iload_n 1, 1) := by decide +kernel
theorem dX3_spotOf_9 : decode cX3_spotOf 9 = .ok (.iaload, 1) := by decide +kernel
theorem dX3_spotOf_10 : decode cX3_spotOf 10 = .ok (.iadd, 1) := by decide +kernel
theorem dX3_spotOf_11 : decode cX3_spotOf 11 = .ok (.iload_n 2, 1) := by decide +kernel
theorem dX3_spotOf_12 : decode cX3_spotOf 12 = .ok (.aload_n 0, 1) := by decide +kernel
theorem dX3_spotOf_13 : decode cX3_spotOf 13 = .ok (.getfield 9, 3) := by decide +kernel
theorem dX3_spotOf_16 : decode cX3_spotOf 16 = .ok (.aload_n 0, 1) := by decide +kernel
theorem dX3_spotOf_17 : decode cX3_spotOf 17 = .ok (.getfield 16, 3) := by decide +kernel
theorem dX3_spotOf_20 : decode cX3_spotOf 20 = .ok (.iload_n 1, 1) := by decide +kernel
theorem dX3_spotOf_21 : decode cX3_spotOf 21 = .ok (.iaload, 1) := by decide +kernel
theorem dX3_spotOf_22 : decode cX3_spotOf 22 = .ok (.iaload, 1) := by decide +kernel
theorem dX3_spotOf_23 : decode cX3_spotOf 23 = .ok (.imul, 1) := by decide +kernel
theorem dX3_spotOf_24 : decode cX3_spotOf 24 = .ok (.iadd, 1) := by decide +kernel
theorem dX3_spotOf_25 : decode cX3_spotOf 25 = .ok (.ireturn, 1) := by decide +kernel
theorem dX3_isBetter_0 : decode cX3_isBetter 0 = .ok (.iload_n 2, 1) := by decide +kernel
theorem dX3_isBetter_1 : decode cX3_isBetter 1 = .ok (.iconst (-1), 1) := by decide +kernel
theorem dX3_isBetter_2 : decode cX3_isBetter 2 = .ok (.if_icmp .ne 5, 3) := by decide +kernel
theorem dX3_isBetter_5 : decode cX3_isBetter 5 = .ok (.iconst 1, 1) := by decide +kernel
theorem dX3_isBetter_6 : decode cX3_isBetter 6 = .ok (.ireturn, 1) := by decide +kernel
theorem dX3_isBetter_7 : decode cX3_isBetter 7 = .ok (.aload_n 0, 1) := by decide +kernel
theorem dX3_isBetter_8 : decode cX3_isBetter 8 = .ok (.getfield 61, 3) := by decide +kernel
theorem dX3_isBetter_11 : decode cX3_isBetter 11 = .ok (.iconst 1, 1) := by decide +kernel
theorem dX3_isBetter_12 : decode cX3_isBetter 12 = .ok (.if_icmp .ne 16, 3) := by decide +kernel
theorem dX3_isBetter_15 : decode cX3_isBetter 15 = .ok (.aload_n 0, 1) := by decide +kernel
theorem dX3_isBetter_16 : decode cX3_isBetter 16 = .ok (.iload_n 1, 1) := by decide +kernel
theorem dX3_isBetter_17 : decode cX3_isBetter 17 = .ok (.invokevirtual 51, 3) := by decide +kernel
theorem dX3_isBetter_20 : decode cX3_isBetter 20 = .ok (.aload_n 0, 1) := by decide +kernel
theorem dX3_isBetter_21 : decode cX3_isBetter 21 = .ok (.iload_n 2, 1) := by decide +kernel
theorem dX3_isBetter_22 : decode cX3_isBetter 22 = .ok (.invokevirtual 51, 3) := by decide +kernel
theorem dX3_isBetter_25 : decode cX3_isBetter 25 = .ok (.if_icmp .gt 24, 3) := by decide +kernel
theorem dX3_isBetter_28 : decode cX3_isBetter 28 = .ok (.aload_n 0, 1) := by decide +kernel
theorem dX3_isBetter_29 : decode cX3_isBetter 29 = .ok (.getfield 61, 3) := by decide +kernel
theorem dX3_isBetter_32 : decode cX3_isBetter 32 = .ok (.iconst 2, 1) := by decide +kernel
theorem dX3_isBetter_33 : decode cX3_isBetter 33 = .ok (.if_icmp .ne 20, 3) := by decide +kernel
theorem dX3_isBetter_36 : decode cX3_isBetter 36 = .ok (.aload_n 0, 1) := by decide +kernel
theorem dX3_isBetter_37 : decode cX3_isBetter 37 = .ok (.iload_n 1, 1) := by decide +kernel
theorem dX3_isBetter_38 : decode cX3_isBetter 38 = .ok (.invokevirtual 51, 3) := by decide +kernel
theorem dX3_isBetter_41 : decode cX3_isBetter 41 = .ok (.aload_n 0, 1) := by decide +kernel
theorem dX3_isBetter_42 : decode cX3_isBetter 42 = .ok (.iload_n 2, 1) := by decide +kernel
theorem dX3_isBetter_43 : decode cX3_isBetter 43 = .ok (.invokevirtual 51, 3) := by decide +kernel
theorem dX3_isBetter_46 : decode cX3_isBetter 46 = .ok (.if_icmp .ge 7, 3) := by decide +kernel
theorem dX3_isBetter_49 : decode cX3_isBetter 49 = .ok (.iconst 1, 1) := by decide +kernel
theorem dX3_isBetter_50 : decode cX3_isBetter 50 = .ok (.goto 4, 3) := by decide +kernel
theorem dX3_isBetter_53 : decode cX3_isBetter 53 = .ok (.iconst 0, 1) := by decide +kernel
theorem dX3_isBetter_54 : decode cX3_isBetter 54 = .ok (.ireturn, 1) := by decide +kernel
theorem dX3_shelfFor_0 : decode cX3_shelfFor 0 = .ok (.iconst (-1), 1) := by decide +kernel
theorem dX3_shelfFor_1 : decode cX3_shelfFor 1 = .ok (.istore_n 2, 1) := by decide +kernel
theorem dX3_shelfFor_2 : decode cX3_shelfFor 2 = .ok (.iconst 0, 1) := by decide +kernel
theorem dX3_shelfFor_3 : decode cX3_shelfFor 3 = .ok (.istore_n 3, 1) := by decide +kernel
theorem dX3_shelfFor_4 : decode cX3_shelfFor 4 = .ok (.iload_n 3, 1) := by decide +kernel
theorem dX3_shelfFor_5 : decode cX3_shelfFor 5 = .ok (.bipush 12, 2) := by decide +kernel
theorem dX3_shelfFor_7 : decode cX3_shelfFor 7 = .ok (.if_icmp .ge 29, 3) := by decide +kernel
theorem dX3_shelfFor_10 : decode cX3_shelfFor 10 = .ok (.aload_n 0, 1) := by decide +kernel
theorem dX3_shelfFor_11 : decode cX3_shelfFor 11 = .ok (.iload_n 3, 1) := by decide +kernel
theorem dX3_shelfFor_12 : decode cX3_shelfFor 12 = .ok (.iload_n 1, 1) := by decide +kernel
theorem dX3_shelfFor_13 : decode cX3_shelfFor 13 = .ok (.invokevirtual 64, 3) := by decide +kernel
theorem dX3_shelfFor_16 : decode cX3_shelfFor 16 = .ok (.ifCond .eq 14, 3) := by decide +kernel
theorem dX3_shelfFor_19 : decode cX3_shelfFor 19 = .ok (.aload_n 0, 1) := by decide +kernel
theorem dX3_shelfFor_20 : decode cX3_shelfFor 20 = .ok (.iload_n 3, 1) := by decide +kernel
theorem dX3_shelfFor_21 : decode cX3_shelfFor 21 = .ok (.iload_n 2, 1) := by decide +kernel
theorem dX3_shelfFor_22 : decode cX3_shelfFor 22 = .ok (.invokevirtual 68, 3) := by decide +kernel
theorem dX3_shelfFor_25 : decode cX3_shelfFor 25 = .ok (.ifCond .eq 5, 3) := by decide +kernel
theorem dX3_shelfFor_28 : decode cX3_shelfFor 28 = .ok (.iload_n 3, 1) := by decide +kernel
theorem dX3_shelfFor_29 : decode cX3_shelfFor 29 = .ok (.istore_n 2, 1) := by decide +kernel
theorem dX3_shelfFor_30 : decode cX3_shelfFor 30 = .ok (.iinc 3 1, 3) := by decide +kernel
theorem dX3_shelfFor_33 : decode cX3_shelfFor 33 = .ok (.goto (-29), 3) := by decide +kernel
theorem dX3_shelfFor_36 : decode cX3_shelfFor 36 = .ok (.iconst 0, 1) := by decide +kernel
theorem dX3_shelfFor_37 : decode cX3_shelfFor 37 = .ok (.istore_n 3, 1) := by decide +kernel
theorem dX3_shelfFor_38 : decode cX3_shelfFor 38 = .ok (.iload_n 3, 1) := by decide +kernel
theorem dX3_shelfFor_39 : decode cX3_shelfFor 39 = .ok (.bipush 12, 2) := by decide +kernel
theorem dX3_shelfFor_41 : decode cX3_shelfFor 41 = .ok (.if_icmp .ge 25, 3) := by decide +kernel
theorem dX3_shelfFor_44 : decode cX3_shelfFor 44 = .ok (.iload_n 2, 1) := by decide +kernel
theorem dX3_shelfFor_45 : decode cX3_shelfFor 45 = .ok (.iconst (-1), 1) := by decide +kernel
theorem dX3_shelfFor_46 : decode cX3_shelfFor 46 = .ok (.if_icmp .ne 20, 3) := by decide +kernel
theorem dX3_shelfFor_49 : decode cX3_shelfFor 49 = .ok (.aload_n 0, 1) := by decide +kernel
theorem dX3_shelfFor_50 : decode cX3_shelfFor 50 = .ok (.iload_n 3, 1) := by decide +kernel
theorem dX3_shelfFor_51 : decode cX3_shelfFor 51 = .ok (.iload_n 1, 1) := by decide +kernel
theorem dX3_shelfFor_52 : decode cX3_shelfFor 52 = .ok (.invokevirtual 71, 3) := by decide +kernel
theorem dX3_shelfFor_55 : decode cX3_shelfFor 55 = .ok (.ifCond .eq 5, 3) := by decide +kernel
theorem dX3_shelfFor_58 : decode cX3_shelfFor 58 = .ok (.iload_n 3, 1) := by decide +kernel
theorem dX3_shelfFor_59 : decode cX3_shelfFor 59 = .ok (.istore_n 2, 1) := by decide +kernel
theorem dX3_shelfFor_60 : decode cX3_shelfFor 60 = .ok (.iinc 3 1, 3) := by decide +kernel
theorem dX3_shelfFor_63 : decode cX3_shelfFor 63 = .ok (.goto (-25), 3) := by decide +kernel
theorem dX3_shelfFor_66 : decode cX3_shelfFor 66 = .ok (.iconst 0, 1) := by decide +kernel
theorem dX3_shelfFor_67 : decode cX3_shelfFor 67 = .ok (.istore_n 3, 1) := by decide +kernel
theorem dX3_shelfFor_68 : decode cX3_shelfFor 68 = .ok (.iload_n 3, 1) := by decide +kernel
theorem dX3_shelfFor_69 : decode cX3_shelfFor 69 = .ok (.bipush 12, 2) := by decide +kernel
theorem dX3_shelfFor_71 : decode cX3_shelfFor 71 = .ok (.if_icmp .ge 24, 3) := by decide +kernel
theorem dX3_shelfFor_74 : decode cX3_shelfFor 74 = .ok (.iload_n 2, 1) := by decide +kernel
theorem dX3_shelfFor_75 : decode cX3_shelfFor 75 = .ok (.iconst (-1), 1) := by decide +kernel
theorem dX3_shelfFor_76 : decode cX3_shelfFor 76 = .ok (.if_icmp .ne 19, 3) := by decide +kernel
theorem dX3_shelfFor_79 : decode cX3_shelfFor 79 = .ok (.aload_n 0, 1) := by decide +kernel
theorem dX3_shelfFor_80 : decode cX3_shelfFor 80 = .ok (.iload_n 3, 1) := by decide +kernel
theorem dX3_shelfFor_81 : decode cX3_shelfFor 81 = .ok (.invokevirtual 74, 3) := by decide +kernel
theorem dX3_shelfFor_84 : decode cX3_shelfFor 84 = .ok (.ifCond .eq 5, 3) := by decide +kernel
theorem dX3_shelfFor_87 : decode cX3_shelfFor 87 = .ok (.iload_n 3, 1) := by decide +kernel
theorem dX3_shelfFor_88 : decode cX3_shelfFor 88 = .ok (.istore_n 2, 1) := by decide +kernel
theorem dX3_shelfFor_89 : decode cX3_shelfFor 89 = .ok (.iinc 3 1, 3) := by decide +kernel
theorem dX3_shelfFor_92 : decode cX3_shelfFor 92 = .ok (.goto (-24), 3) := by decide +kernel
theorem dX3_shelfFor_95 : decode cX3_shelfFor 95 = .ok (.iload_n 2, 1) := by decide +kernel
theorem dX3_shelfFor_96 : decode cX3_shelfFor 96 = .ok (.ireturn, 1) := by decide +kernel
theorem dX3_nextRim_0 : decode cX3_nextRim 0 = .ok (.aload_n 0, 1) := by decide +kernel
theorem dX3_nextRim_1 : decode cX3_nextRim 1 = .ok (.getfield 13, 3) := by decide +kernel
theorem dX3_nextRim_4 : decode cX3_nextRim 4 = .ok (.iload_n 1, 1) := by decide +kernel
theorem dX3_nextRim_5 : decode cX3_nextRim 5 = .ok (.iaload, 1) := by decide +kernel
theorem dX3_nextRim_6 : decode cX3_nextRim 6 = .ok (.aload_n 0, 1) := by decide +kernel
theorem dX3_nextRim_7 : decode cX3_nextRim 7 = .ok (.iload_n 1, 1) := by decide +kernel
theorem dX3_nextRim_8 : decode cX3_nextRim 8 = .ok (.invokevirtual 77, 3) := by decide +kernel
theorem dX3_nextRim_11 : decode cX3_nextRim 11 = .ok (.iconst 1, 1) := by decide +kernel
theorem dX3_nextRim_12 : decode cX3_nextRim 12 = .ok (.iadd, 1) := by decide +kernel
theorem dX3_nextRim_13 : decode cX3_nextRim 13 = .ok (.irem, 1) := by decide +kernel
theorem dX3_nextRim_14 : decode cX3_nextRim 14 = .ok (.ireturn, 1) := by decide +kernel
theorem dX3_spotFor_0 : decode cX3_spotFor 0 = .ok (.aload_n 0, 1) := by decide +kernel
theorem dX3_spotFor_1 : decode cX3_spotFor 1 = .ok (.iload_n 1, 1) := by decide +kernel
theorem dX3_spotFor_2 : decode cX3_spotFor 2 = .ok (.invokevirtual 80, 3) := by decide +kernel
theorem dX3_spotFor_5 : decode cX3_spotFor 5 = .ok (.istore_n 2, 1) := by decide +kernel
theorem dX3_spotFor_6 : decode cX3_spotFor 6 = .ok (.iload_n 2, 1) := by decide +kernel
theorem dX3_spotFor_7 : decode cX3_spotFor 7 = .ok (.iconst (-1), 1) := by decide +kernel
theorem dX3_spotFor_8 : decode cX3_spotFor 8 = .ok (.if_icmp .ne 5, 3) := by decide +kernel
theorem dX3_spotFor_11 : decode cX3_spotFor 11 = .ok (.iconst (-1), 1) := by decide +kernel
theorem dX3_spotFor_12 : decode cX3_spotFor 12 = .ok (.ireturn, 1) := by decide +kernel
theorem dX3_spotFor_13 : decode cX3_spotFor 13 = .ok (.aload_n 0, 1) := by decide +kernel
theorem dX3_spotFor_14 : decode cX3_spotFor 14 = .ok (.iload_n 2, 1) := by decide +kernel
theorem dX3_spotFor_15 : decode cX3_spotFor 15 = .ok (.invokevirtual 74, 3) := by decide +kernel
theorem dX3_spotFor_18 : decode cX3_spotFor 18 = .ok (.ifCond .eq 16, 3) := by decide +kernel
theorem dX3_spotFor_21 : decode cX3_spotFor 21 = .ok (.bipush 24, 2) := by decide +kernel
theorem dX3_spotFor_23 : decode cX3_spotFor 23 = .ok (.iload_n 2, 1) := by decide +kernel
theorem dX3_spotFor_24 : decode cX3_spotFor 24 = .ok (.imul, 1) := by decide +kernel
theorem dX3_spotFor_25 : decode cX3_spotFor 25 = .ok (.aload_n 0, 1) := by decide +kernel
theorem dX3_spotFor_26 : decode cX3_spotFor 26 = .ok (.iload_n 1, 1) := by decide +kernel
theorem dX3_spotFor_27 : decode cX3_spotFor 27 = .ok (.invokevirtual 83, 3) := by decide +kernel
theorem dX3_spotFor_30 : decode cX3_spotFor 30 = .ok (.iadd, 1) := by decide +kernel
theorem dX3_spotFor_31 : decode cX3_spotFor 31 = .ok (.goto 13, 3) := by decide +kernel
theorem dX3_spotFor_34 : decode cX3_spotFor 34 = .ok (.aload_n 0, 1) := by decide +kernel
theorem dX3_spotFor_35 : decode cX3_spotFor 35 = .ok (.iload_n 2, 1) := by decide +kernel
theorem dX3_spotFor_36 : decode cX3_spotFor 36 = .ok (.aload_n 0, 1) := by decide +kernel
theorem dX3_spotFor_37 : decode cX3_spotFor 37 = .ok (.iload_n 2, 1) := by decide +kernel
theorem dX3_spotFor_38 : decode cX3_spotFor 38 = .ok (.invokevirtual 86, 3) := by decide +kernel
theorem dX3_spotFor_41 : decode cX3_spotFor 41 = .ok (.invokevirtual 89, 3) := by decide +kernel
theorem dX3_spotFor_44 : decode cX3_spotFor 44 = .ok (.ireturn, 1) := by decide +kernel
theorem dX3_own_0 : decode cX3_own 0 = .ok (.aload_n 0, 1) := by decide +kernel
theorem dX3_own_1 : decode cX3_own 1 = .ok (.getfield 16, 3) := by decide +kernel
theorem dX3_own_4 : decode cX3_own 4 = .ok (.iload_n 1, 1) := by decide +kernel
theorem dX3_own_5 : decode cX3_own 5 = .ok (.iload_n 2, 1) := by decide +kernel
theorem dX3_own_6 : decode cX3_own 6 = .ok (.iastore, 1) := by decide +kernel
theorem dX3_own_7 : decode cX3_own 7 = .ok (.aload_n 0, 1) := by decide +kernel
theorem dX3_own_8 : decode cX3_own 8 = .ok (.getfield 19, 3) := by decide +kernel
theorem dX3_own_11 : decode cX3_own 11 = .ok (.iload_n 1, 1) := by decide +kernel
theorem dX3_own_12 : decode cX3_own 12 = .ok (.aload_n 0, 1) := by decide +kernel
theorem dX3_own_13 : decode cX3_own 13 = .ok (.iload_n 2, 1) := by decide +kernel
theorem dX3_own_14 : decode cX3_own 14 = .ok (.invokevirtual 83, 3) := by decide +kernel
theorem dX3_own_17 : decode cX3_own 17 = .ok (.iastore, 1) := by decide +kernel
theorem dX3_own_18 : decode cX3_own 18 = .ok (.aload_n 0, 1) := by decide +kernel
theorem dX3_own_19 : decode cX3_own 19 = .ok (.getfield 13, 3) := by decide +kernel
theorem dX3_own_22 : decode cX3_own 22 = .ok (.iload_n 2, 1) := by decide +kernel
theorem dX3_own_23 : decode cX3_own 23 = .ok (.dup2, 1) := by decide +kernel
theorem dX3_own_24 : decode cX3_own 24 = .ok (.iaload, 1) := by decide +kernel
theorem dX3_own_25 : decode cX3_own 25 = .ok (.iconst 1, 1) := by decide +kernel
theorem dX3_own_26 : decode cX3_own 26 = .ok (.iadd, 1) := by decide +kernel
theorem dX3_own_27 : decode cX3_own 27 = .ok (.iastore, 1) := by decide +kernel
theorem dX3_own_28 : decode cX3_own 28 = .ok (.return_, 1) := by decide +kernel
theorem dX3_placed_0 : decode cX3_placed 0 = .ok (.aload_n 0, 1) := by decide +kernel
theorem dX3_placed_1 : decode cX3_placed 1 = .ok (.iload_n 2, 1) := by decide +kernel
theorem dX3_placed_2 : decode cX3_placed 2 = .ok (.invokevirtual 74, 3) := by decide +kernel
theorem dX3_placed_5 : decode cX3_placed 5 = .ok (.ifCond .eq 9, 3) := by decide +kernel
theorem dX3_placed_8 : decode cX3_placed 8 = .ok (.aload_n 0, 1) := by decide +kernel
theorem dX3_placed_9 : decode cX3_placed 9 = .ok (.iload_n 2, 1) := by decide +kernel
theorem dX3_placed_10 : decode cX3_placed 10 = .ok (.iload_n 1, 1) := by decide +kernel
theorem dX3_placed_11 : decode cX3_placed 11 = .ok (.invokevirtual 93, 3) := by decide +kernel
theorem dX3_placed_14 : decode cX3_placed 14 = .ok (.aload_n 0, 1) := by decide +kernel
theorem dX3_placed_15 : decode cX3_placed 15 = .ok (.iload_n 2, 1) := by decide +kernel
theorem dX3_placed_16 : decode cX3_placed 16 = .ok (.invokevirtual 86, 3) := by decide +kernel
theorem dX3_placed_19 : decode cX3_placed 19 = .ok (.istore_n 3, 1) := by decide +kernel
theorem dX3_placed_20 : decode cX3_placed 20 = .ok (.aload_n 0, 1) := by decide +kernel
theorem dX3_placed_21 : decode cX3_placed 21 = .ok (.getfield 22, 3) := by decide +kernel
theorem dX3_placed_24 : decode cX3_placed 24 = .ok (.iload_n 2, 1) := by decide +kernel
theorem dX3_placed_25 : decode cX3_placed 25 = .ok (.dup2, 1) := by decide +kernel
theorem dX3_placed_26 : decode cX3_placed 26 = .ok (.iaload, 1) := by decide +kernel
theorem dX3_placed_27 : decode cX3_placed 27 = .ok (.iconst 1, 1) := by decide +kernel
theorem dX3_placed_28 : decode cX3_placed 28 = .ok (.iload_n 3, 1) := by decide +kernel
theorem dX3_placed_29 : decode cX3_placed 29 = .ok (.ishl, 1) := by decide +kernel
theorem dX3_placed_30 : decode cX3_placed 30 = .ok (.ior, 1) := by decide +kernel
theorem dX3_placed_31 : decode cX3_placed 31 = .ok (.iastore, 1) := by decide +kernel
theorem dX3_placed_32 : decode cX3_placed 32 = .ok (.aload_n 0, 1) := by decide +kernel
theorem dX3_placed_33 : decode cX3_placed 33 = .ok (.getfield 25, 3) := by decide +kernel
theorem dX3_placed_36 : decode cX3_placed 36 = .ok (.iload_n 2, 1) := by decide +kernel
theorem dX3_placed_37 : decode cX3_placed 37 = .ok (.iconst (-1), 1) := by decide +kernel
theorem dX3_placed_38 : decode cX3_placed 38 = .ok (.iastore, 1) := by decide +kernel
theorem dX3_placed_39 : decode cX3_placed 39 = .ok (.aload_n 0, 1) := by decide +kernel
theorem dX3_placed_40 : decode cX3_placed 40 = .ok (.dup, 1) := by decide +kernel
theorem dX3_placed_41 : decode cX3_placed 41 = .ok (.getfield 97, 3) := by decide +kernel
theorem dX3_placed_44 : decode cX3_placed 44 = .ok (.iconst 1, 1) := by decide +kernel
theorem dX3_placed_45 : decode cX3_placed 45 = .ok (.iadd, 1) := by decide +kernel
theorem dX3_placed_46 : decode cX3_placed 46 = .ok (.putfield 97, 3) := by decide +kernel
theorem dX3_placed_49 : decode cX3_placed 49 = .ok (.aload_n 0, 1) := by decide +kernel
theorem dX3_placed_50 : decode cX3_placed 50 = .ok (.dup, 1) := by decide +kernel
theorem dX3_placed_51 : decode cX3_placed 51 = .ok (.getfield 100, 3) := by decide +kernel
theorem dX3_placed_54 : decode cX3_placed 54 = .ok (.iconst 1, 1) := by decide +kernel
theorem dX3_placed_55 : decode cX3_placed 55 = .ok (.iadd, 1) := by decide +kernel
theorem dX3_placed_56 : decode cX3_placed 56 = .ok (.putfield 100, 3) := by decide +kernel
theorem dX3_placed_59 : decode cX3_placed 59 = .ok (.aload_n 0, 1) := by decide +kernel
theorem dX3_placed_60 : decode cX3_placed 60 = .ok (.iload_n 2, 1) := by decide +kernel
theorem dX3_placed_61 : decode cX3_placed 61 = .ok (.iload_n 3, 1) := by decide +kernel
theorem dX3_placed_62 : decode cX3_placed 62 = .ok (.invokevirtual 89, 3) := by decide +kernel
theorem dX3_placed_65 : decode cX3_placed 65 = .ok (.ireturn, 1) := by decide +kernel
theorem dX3_placeOf_0 : decode cX3_placeOf 0 = .ok (.iload_n 1, 1) := by decide +kernel
theorem dX3_placeOf_1 : decode cX3_placeOf 1 = .ok (.bipush 24, 2) := by decide +kernel
theorem dX3_placeOf_3 : decode cX3_placeOf 3 = .ok (.idiv, 1) := by decide +kernel
theorem dX3_placeOf_4 : decode cX3_placeOf 4 = .ok (.istore_n 2, 1) := by decide +kernel
theorem dX3_placeOf_5 : decode cX3_placeOf 5 = .ok (.aload_n 0, 1) := by decide +kernel
theorem dX3_placeOf_6 : decode cX3_placeOf 6 = .ok (.iload_n 2, 1) := by decide +kernel
theorem dX3_placeOf_7 : decode cX3_placeOf 7 = .ok (.invokevirtual 74, 3) := by decide +kernel
theorem dX3_placeOf_10 : decode cX3_placeOf 10 = .ok (.ifCond .eq 5, 3) := by decide +kernel
theorem dX3_placeOf_13 : decode cX3_placeOf 13 = .ok (.iconst (-1), 1) := by decide +kernel
theorem dX3_placeOf_14 : decode cX3_placeOf 14 = .ok (.ireturn, 1) := by decide +kernel
theorem dX3_placeOf_15 : decode cX3_placeOf 15 = .ok (.iload_n 1, 1) := by decide +kernel
theorem dX3_placeOf_16 : decode cX3_placeOf 16 = .ok (.bipush 24, 2) := by decide +kernel
theorem dX3_placeOf_18 : decode cX3_placeOf 18 = .ok (.irem, 1) := by decide +kernel
theorem dX3_placeOf_19 : decode cX3_placeOf 19 = .ok (.aload_n 0, 1) := by decide +kernel
theorem dX3_placeOf_20 : decode cX3_placeOf 20 = .ok (.getfield 19, 3) := by decide +kernel
theorem dX3_placeOf_23 : decode cX3_placeOf 23 = .ok (.iload_n 2, 1) := by decide +kernel
theorem dX3_placeOf_24 : decode cX3_placeOf 24 = .ok (.iaload, 1) := by decide +kernel
theorem dX3_placeOf_25 : decode cX3_placeOf 25 = .ok (.isub, 1) := by decide +kernel
theorem dX3_placeOf_26 : decode cX3_placeOf 26 = .ok (.istore_n 3, 1) := by decide +kernel
theorem dX3_placeOf_27 : decode cX3_placeOf 27 = .ok (.iload_n 3, 1) := by decide +kernel
theorem dX3_placeOf_28 : decode cX3_placeOf 28 = .ok (.ifCond .lt 29, 3) := by decide +kernel
theorem dX3_placeOf_31 : decode cX3_placeOf 31 = .ok (.iload_n 3, 1) := by decide +kernel
theorem dX3_placeOf_32 : decode cX3_placeOf 32 = .ok (.aload_n 0, 1) := by decide +kernel
theorem dX3_placeOf_33 : decode cX3_placeOf 33 = .ok (.aload_n 0, 1) := by decide +kernel
theorem dX3_placeOf_34 : decode cX3_placeOf 34 = .ok (.getfield 16, 3) := by decide +kernel
theorem dX3_placeOf_37 : decode cX3_placeOf 37 = .ok (.iload_n 2, 1) := by decide +kernel
theorem dX3_placeOf_38 : decode cX3_placeOf 38 = .ok (.iaload, 1) := by decide +kernel
theorem dX3_placeOf_39 : decode cX3_placeOf 39 = .ok (.invokevirtual 54, 3) := by decide +kernel
theorem dX3_placeOf_42 : decode cX3_placeOf 42 = .ok (.aload_n 0, 1) := by decide +kernel
theorem dX3_placeOf_43 : decode cX3_placeOf 43 = .ok (.getfield 9, 3) := by decide +kernel
theorem dX3_placeOf_46 : decode cX3_placeOf 46 = .ok (.aload_n 0, 1) := by decide +kernel
theorem dX3_placeOf_47 : decode cX3_placeOf 47 = .ok (.getfield 16, 3) := by decide +kernel
theorem dX3_placeOf_50 : decode cX3_placeOf 50 = .ok (.iload_n 2, 1) := by decide +kernel
theorem dX3_placeOf_51 : decode cX3_placeOf 51 = .ok (.iaload, 1) := by decide +kernel
theorem dX3_placeOf_52 : decode cX3_placeOf 52 = .ok (.iaload, 1) := by decide +kernel
theorem dX3_placeOf_53 : decode cX3_placeOf 53 = .ok (.imul, 1) := by decide +kernel
theorem dX3_placeOf_54 : decode cX3_placeOf 54 = .ok (.if_icmp .lt 7, 3) := by decide +kernel
theorem dX3_placeOf_57 : decode cX3_placeOf 57 = .ok (.iconst (-1), 1) := by decide +kernel
theorem dX3_placeOf_58 : decode cX3_placeOf 58 = .ok (.goto 16, 3) := by decide +kernel
theorem dX3_placeOf_61 : decode cX3_placeOf 61 = .ok (.iload_n 3, 1) := by decide +kernel
theorem dX3_placeOf_62 : decode cX3_placeOf 62 = .ok (.aload_n 0, 1) := by decide +kernel
theorem dX3_placeOf_63 : decode cX3_placeOf 63 = .ok (.getfield 9, 3) := by decide +kernel
theorem dX3_placeOf_66 : decode cX3_placeOf 66 = .ok (.aload_n 0, 1) := by decide +kernel
theorem dX3_placeOf_67 : decode cX3_placeOf 67 = .ok (.getfield 16, 3) := by decide +kernel
theorem dX3_placeOf_70 : decode cX3_placeOf 70 = .ok (.iload_n 2, 1) := by decide +kernel
theorem dX3_placeOf_71 : decode cX3_placeOf 71 = .ok (.iaload, 1) := by decide +kernel
theorem dX3_placeOf_72 : decode cX3_placeOf 72 = .ok (.iaload, 1) := by decide +kernel
theorem dX3_placeOf_73 : decode cX3_placeOf 73 = .ok (.idiv, 1) := by decide +kernel
theorem dX3_placeOf_74 : decode cX3_placeOf 74 = .ok (.ireturn, 1) := by decide +kernel
theorem dX3_fewest_0 : decode cX3_fewest 0 = .ok (.iconst (-1), 1) := by decide +kernel
theorem dX3_fewest_1 : decode cX3_fewest 1 = .ok (.istore_n 2, 1) := by decide +kernel
theorem dX3_fewest_2 : decode cX3_fewest 2 = .ok (.iconst 0, 1) := by decide +kernel
theorem dX3_fewest_3 : decode cX3_fewest 3 = .ok (.istore_n 3, 1) := by decide +kernel
theorem dX3_fewest_4 : decode cX3_fewest 4 = .ok (.iload_n 3, 1) := by decide +kernel
theorem dX3_fewest_5 : decode cX3_fewest 5 = .ok (.bipush 12, 2) := by decide +kernel
theorem dX3_fewest_7 : decode cX3_fewest 7 = .ok (.if_icmp .ge 38, 3) := by decide +kernel
theorem dX3_fewest_10 : decode cX3_fewest 10 = .ok (.aload_n 0, 1) := by decide +kernel
theorem dX3_fewest_11 : decode cX3_fewest 11 = .ok (.iload_n 3, 1) := by decide +kernel
theorem dX3_fewest_12 : decode cX3_fewest 12 = .ok (.iload_n 1, 1) := by decide +kernel
theorem dX3_fewest_13 : decode cX3_fewest 13 = .ok (.invokevirtual 64, 3) := by decide +kernel
theorem dX3_fewest_16 : decode cX3_fewest 16 = .ok (.ifCond .eq 23, 3) := by decide +kernel
theorem dX3_fewest_19 : decode cX3_fewest 19 = .ok (.iload_n 2, 1) := by decide +kernel
theorem dX3_fewest_20 : decode cX3_fewest 20 = .ok (.iconst (-1), 1) := by decide +kernel
theorem dX3_fewest_21 : decode cX3_fewest 21 = .ok (.if_icmp .eq 16, 3) := by decide +kernel
theorem dX3_fewest_24 : decode cX3_fewest 24 = .ok (.aload_n 0, 1) := by decide +kernel
theorem dX3_fewest_25 : decode cX3_fewest 25 = .ok (.iload_n 3, 1) := by decide +kernel
theorem dX3_fewest_26 : decode cX3_fewest 26 = .ok (.invokevirtual 51, 3) := by decide +kernel
theorem dX3_fewest_29 : decode cX3_fewest 29 = .ok (.aload_n 0, 1) := by decide +kernel
theorem dX3_fewest_30 : decode cX3_fewest 30 = .ok (.iload_n 2, 1) := by decide +kernel
theorem dX3_fewest_31 : decode cX3_fewest 31 = .ok (.invokevirtual 51, 3) := by decide +kernel
theorem dX3_fewest_34 : decode cX3_fewest 34 = .ok (.if_icmp .gt 5, 3) := by decide +kernel
theorem dX3_fewest_37 : decode cX3_fewest 37 = .ok (.iload_n 3, 1) := by decide +kernel
theorem dX3_fewest_38 : decode cX3_fewest 38 = .ok (.istore_n 2, 1) := by decide +kernel
theorem dX3_fewest_39 : decode cX3_fewest 39 = .ok (.iinc 3 1, 3) := by decide +kernel
theorem dX3_fewest_42 : decode cX3_fewest 42 = .ok (.goto (-38), 3) := by decide +kernel
theorem dX3_fewest_45 : decode cX3_fewest 45 = .ok (.iload_n 2, 1) := by decide +kernel
theorem dX3_fewest_46 : decode cX3_fewest 46 = .ok (.ireturn, 1) := by decide +kernel
theorem dX3_most_0 : decode cX3_most 0 = .ok (.iconst (-1), 1) := by decide +kernel
theorem dX3_most_1 : decode cX3_most 1 = .ok (.istore_n 3, 1) := by decide +kernel
theorem dX3_most_2 : decode cX3_most 2 = .ok (.iconst 0, 1) := by decide +kernel
theorem dX3_most_3 : decode cX3_most 3 = .ok (.istore 4, 2) := by decide +kernel
theorem dX3_most_5 : decode cX3_most 5 = .ok (.iload 4, 2) := by decide +kernel
theorem dX3_most_7 : decode cX3_most 7 = .ok (.bipush 12, 2) := by decide +kernel
theorem dX3_most_9 : decode cX3_most 9 = .ok (.if_icmp .ge 47, 3) := by decide +kernel
theorem dX3_most_12 : decode cX3_most 12 = .ok (.iload 4, 2) := by decide +kernel
theorem dX3_most_14 : decode cX3_most 14 = .ok (.iload_n 2, 1) := by decide +kernel
theorem dX3_most_15 : decode cX3_most 15 = .ok (.if_icmp .eq 35, 3) := by decide +kernel
theorem dX3_most_18 : decode cX3_most 18 = .ok (.aload_n 0, 1) := by decide +kernel
theorem dX3_most_19 : decode cX3_most 19 = .ok (.iload 4, 2) := by decide +kernel
theorem dX3_most_21 : decode cX3_most 21 = .ok (.iload_n 1, 1) := by decide +kernel
theorem dX3_most_22 : decode cX3_most 22 = .ok (.invokevirtual 64, 3) := by decide +kernel
theorem dX3_most_25 : decode cX3_most 25 = .ok (.ifCond .eq 25, 3) := by decide +kernel
theorem dX3_most_28 : decode cX3_most 28 = .ok (.iload_n 3, 1) := by decide +kernel
theorem dX3_most_29 : decode cX3_most 29 = .ok (.iconst (-1), 1) := by decide +kernel
theorem dX3_most_30 : decode cX3_most 30 = .ok (.if_icmp .eq 17, 3) := by decide +kernel
theorem dX3_most_33 : decode cX3_most 33 = .ok (.aload_n 0, 1) := by decide +kernel
theorem dX3_most_34 : decode cX3_most 34 = .ok (.iload 4, 2) := by decide +kernel
theorem dX3_most_36 : decode cX3_most 36 = .ok (.invokevirtual 51, 3) := by decide +kernel
theorem dX3_most_39 : decode cX3_most 39 = .ok (.aload_n 0, 1) := by decide +kernel
theorem dX3_most_40 : decode cX3_most 40 = .ok (.iload_n 3, 1) := by decide +kernel
theorem dX3_most_41 : decode cX3_most 41 = .ok (.invokevirtual 51, 3) := by decide +kernel
theorem dX3_most_44 : decode cX3_most 44 = .ok (.if_icmp .le 6, 3) := by decide +kernel
theorem dX3_most_47 : decode cX3_most 47 = .ok (.iload 4, 2) := by decide +kernel
theorem dX3_most_49 : decode cX3_most 49 = .ok (.istore_n 3, 1) := by decide +kernel
theorem dX3_most_50 : decode cX3_most 50 = .ok (.iinc 4 1, 3) := by decide +kernel
theorem dX3_most_53 : decode cX3_most 53 = .ok (.goto (-48), 3) := by decide +kernel
theorem dX3_most_56 : decode cX3_most 56 = .ok (.iload_n 3, 1) := by decide +kernel
theorem dX3_most_57 : decode cX3_most 57 = .ok (.ireturn, 1) := by decide +kernel
theorem dX3_move_0 : decode cX3_move 0 = .ok (.aload_n 0, 1) := by decide +kernel
theorem dX3_move_1 : decode cX3_move 1 = .ok (.getfield 22, 3) := by decide +kernel
theorem dX3_move_4 : decode cX3_move 4 = .ok (.iload_n 1, 1) := by decide +kernel
theorem dX3_move_5 : decode cX3_move 5 = .ok (.iaload, 1) := by decide +kernel
theorem dX3_move_6 : decode cX3_move 6 = .ok (.invokestatic 103, 3) := by decide +kernel
theorem dX3_move_9 : decode cX3_move 9 = .ok (.istore_n 3, 1) := by decide +kernel
theorem dX3_move_10 : decode cX3_move 10 = .ok (.aload_n 0, 1) := by decide +kernel
theorem dX3_move_11 : decode cX3_move 11 = .ok (.getfield 22, 3) := by decide +kernel
theorem dX3_move_14 : decode cX3_move 14 = .ok (.iload_n 2, 1) := by decide +kernel
theorem dX3_move_15 : decode cX3_move 15 = .ok (.dup2, 1) := by decide +kernel
theorem dX3_move_16 : decode cX3_move 16 = .ok (.iaload, 1) := by decide +kernel
theorem dX3_move_17 : decode cX3_move 17 = .ok (.iconst 1, 1) := by decide +kernel
theorem dX3_move_18 : decode cX3_move 18 = .ok (.aload_n 0, 1) := by decide +kernel
theorem dX3_move_19 : decode cX3_move 19 = .ok (.iload_n 2, 1) := by decide +kernel
theorem dX3_move_20 : decode cX3_move 20 = .ok (.invokevirtual 86, 3) := by decide +kernel
theorem dX3_move_23 : decode cX3_move 23 = .ok (.ishl, 1) := by decide +kernel
theorem dX3_move_24 : decode cX3_move 24 = .ok (.ior, 1) := by decide +kernel
theorem dX3_move_25 : decode cX3_move 25 = .ok (.iastore, 1) := by decide +kernel
theorem dX3_move_26 : decode cX3_move 26 = .ok (.aload_n 0, 1) := by decide +kernel
theorem dX3_move_27 : decode cX3_move 27 = .ok (.getfield 22, 3) := by decide +kernel
theorem dX3_move_30 : decode cX3_move 30 = .ok (.iload_n 1, 1) := by decide +kernel
theorem dX3_move_31 : decode cX3_move 31 = .ok (.dup2, 1) := by decide +kernel
theorem dX3_move_32 : decode cX3_move 32 = .ok (.iaload, 1) := by decide +kernel
theorem dX3_move_33 : decode cX3_move 33 = .ok (.iload_n 3, 1) := by decide +kernel
theorem dX3_move_34 : decode cX3_move 34 = .ok (.isub, 1) := by decide +kernel
theorem dX3_move_35 : decode cX3_move 35 = .ok (.iastore, 1) := by decide +kernel
theorem dX3_move_36 : decode cX3_move 36 = .ok (.aload_n 0, 1) := by decide +kernel
theorem dX3_move_37 : decode cX3_move 37 = .ok (.getfield 22, 3) := by decide +kernel
theorem dX3_move_40 : decode cX3_move 40 = .ok (.iload_n 1, 1) := by decide +kernel
theorem dX3_move_41 : decode cX3_move 41 = .ok (.iaload, 1) := by decide +kernel
theorem dX3_move_42 : decode cX3_move 42 = .ok (.ifCond .ne 13, 3) := by decide +kernel
theorem dX3_move_45 : decode cX3_move 45 = .ok (.aload_n 0, 1) := by decide +kernel
theorem dX3_move_46 : decode cX3_move 46 = .ok (.getfield 25, 3) := by decide +kernel
theorem dX3_move_49 : decode cX3_move 49 = .ok (.iload_n 1, 1) := by decide +kernel
theorem dX3_move_50 : decode cX3_move 50 = .ok (.aload_n 0, 1) := by decide +kernel
theorem dX3_move_51 : decode cX3_move 51 = .ok (.getfield 97, 3) := by decide +kernel
theorem dX3_move_54 : decode cX3_move 54 = .ok (.iastore, 1) := by decide +kernel
theorem dX3_move_55 : decode cX3_move 55 = .ok (.return_, 1) := by decide +kernel
theorem dX3_packed_0 : decode cX3_packed 0 = .ok (.iconst 0, 1) := by decide +kernel
theorem dX3_packed_1 : decode cX3_packed 1 = .ok (.istore_n 2, 1) := by decide +kernel
theorem dX3_packed_2 : decode cX3_packed 2 = .ok (.aload_n 0, 1) := by decide +kernel
theorem dX3_packed_3 : decode cX3_packed 3 = .ok (.iload_n 1, 1) := by decide +kernel
theorem dX3_packed_4 : decode cX3_packed 4 = .ok (.invokevirtual 106, 3) := by decide +kernel
theorem dX3_packed_7 : decode cX3_packed 7 = .ok (.istore_n 3, 1) := by decide +kernel
theorem dX3_packed_8 : decode cX3_packed 8 = .ok (.aload_n 0, 1) := by decide +kernel
theorem dX3_packed_9 : decode cX3_packed 9 = .ok (.iload_n 1, 1) := by decide +kernel
theorem dX3_packed_10 : decode cX3_packed 10 = .ok (.iload_n 3, 1) := by decide +kernel
theorem dX3_packed_11 : decode cX3_packed 11 = .ok (.invokevirtual 109, 3) := by decide +kernel
theorem dX3_packed_14 : decode cX3_packed 14 = .ok (.istore 4, 2) := by decide +kernel
theorem dX3_packed_16 : decode cX3_packed 16 = .ok (.iload 4, 2) := by decide +kernel
theorem dX3_packed_18 : decode cX3_packed 18 = .ok (.iconst (-1), 1) := by decide +kernel
theorem dX3_packed_19 : decode cX3_packed 19 = .ok (.if_icmp .eq 30, 3) := by decide +kernel
theorem dX3_packed_22 : decode cX3_packed 22 = .ok (.aload_n 0, 1) := by decide +kernel
theorem dX3_packed_23 : decode cX3_packed 23 = .ok (.iload_n 3, 1) := by decide +kernel
theorem dX3_packed_24 : decode cX3_packed 24 = .ok (.iload 4, 2) := by decide +kernel
theorem dX3_packed_26 : decode cX3_packed 26 = .ok (.invokevirtual 112, 3) := by decide +kernel
theorem dX3_packed_29 : decode cX3_packed 29 = .ok (.iinc 2 1, 3) := by decide +kernel
theorem dX3_packed_32 : decode cX3_packed 32 = .ok (.aload_n 0, 1) := by decide +kernel
theorem dX3_packed_33 : decode cX3_packed 33 = .ok (.iload_n 1, 1) := by decide +kernel
theorem dX3_packed_34 : decode cX3_packed 34 = .ok (.invokevirtual 106, 3) := by decide +kernel
theorem dX3_packed_37 : decode cX3_packed 37 = .ok (.istore_n 3, 1) := by decide +kernel
theorem dX3_packed_38 : decode cX3_packed 38 = .ok (.aload_n 0, 1) := by decide +kernel
theorem dX3_packed_39 : decode cX3_packed 39 = .ok (.iload_n 1, 1) := by decide +kernel
theorem dX3_packed_40 : decode cX3_packed 40 = .ok (.iload_n 3, 1) := by decide +kernel
theorem dX3_packed_41 : decode cX3_packed 41 = .ok (.invokevirtual 109, 3) := by decide +kernel
theorem dX3_packed_44 : decode cX3_packed 44 = .ok (.istore 4, 2) := by decide +kernel
theorem dX3_packed_46 : decode cX3_packed 46 = .ok (.goto (-30), 3) := by decide +kernel
theorem dX3_packed_49 : decode cX3_packed 49 = .ok (.iload_n 2, 1) := by decide +kernel
theorem dX3_packed_50 : decode cX3_packed 50 = .ok (.ireturn, 1) := by decide +kernel
theorem dX3_shelvesOf_0 : decode cX3_shelvesOf 0 = .ok (.iconst 0, 1) := by decide +kernel
theorem dX3_shelvesOf_1 : decode cX3_shelvesOf 1 = .ok (.istore_n 3, 1) := by decide +kernel
theorem dX3_shelvesOf_2 : decode cX3_shelvesOf 2 = .ok (.iconst 0, 1) := by decide +kernel
theorem dX3_shelvesOf_3 : decode cX3_shelvesOf 3 = .ok (.istore 4, 2) := by decide +kernel
theorem dX3_shelvesOf_5 : decode cX3_shelvesOf 5 = .ok (.iload 4, 2) := by decide +kernel
theorem dX3_shelvesOf_7 : decode cX3_shelvesOf 7 = .ok (.bipush 12, 2) := by decide +kernel
theorem dX3_shelvesOf_9 : decode cX3_shelvesOf 9 = .ok (.if_icmp .ge 79, 3) := by decide +kernel
theorem dX3_shelvesOf_12 : decode cX3_shelvesOf 12 = .ok (.aload_n 0, 1) := by decide +kernel
theorem dX3_shelvesOf_13 : decode cX3_shelvesOf 13 = .ok (.getfield 16, 3) := by decide +kernel
theorem dX3_shelvesOf_16 : decode cX3_shelvesOf 16 = .ok (.iload 4, 2) := by decide +kernel
theorem dX3_shelvesOf_18 : decode cX3_shelvesOf 18 = .ok (.iaload, 1) := by decide +kernel
theorem dX3_shelvesOf_19 : decode cX3_shelvesOf 19 = .ok (.iload_n 1, 1) := by decide +kernel
theorem dX3_shelvesOf_20 : decode cX3_shelvesOf 20 = .ok (.if_icmp .eq 6, 3) := by decide +kernel
theorem dX3_shelvesOf_23 : decode cX3_shelvesOf 23 = .ok (.goto 59, 3) := by decide +kernel
theorem dX3_shelvesOf_26 : decode cX3_shelvesOf 26 = .ok (.iload_n 3, 1) := by decide +kernel
theorem dX3_shelvesOf_27 : decode cX3_shelvesOf 27 = .ok (.iload_n 2, 1) := by decide +kernel
theorem dX3_shelvesOf_28 : decode cX3_shelvesOf 28 = .ok (.ifCond .eq 47, 3) := by decide +kernel
theorem dX3_shelvesOf_31 : decode cX3_shelvesOf 31 = .ok (.iload_n 2, 1) := by decide +kernel
theorem dX3_shelvesOf_32 : decode cX3_shelvesOf 32 = .ok (.iconst 1, 1) := by decide +kernel
theorem dX3_shelvesOf_33 : decode cX3_shelvesOf 33 = .ok (.if_icmp .ne 12, 3) := by decide +kernel
theorem dX3_shelvesOf_36 : decode cX3_shelvesOf 36 = .ok (.aload_n 0, 1) := by decide +kernel
theorem dX3_shelvesOf_37 : decode cX3_shelvesOf 37 = .ok (.iload 4, 2) := by decide +kernel
theorem dX3_shelvesOf_39 : decode cX3_shelvesOf 39 = .ok (.invokevirtual 57, 3) := by decide +kernel
theorem dX3_shelvesOf_42 : decode cX3_shelvesOf 42 = .ok (.ifCond .ne 33, 3) := by decide +kernel
theorem dX3_shelvesOf_45 : decode cX3_shelvesOf 45 = .ok (.iload_n 2, 1) := by decide +kernel
theorem dX3_shelvesOf_46 : decode cX3_shelvesOf 46 = .ok (.iconst 2, 1) := by decide +kernel
theorem dX3_shelvesOf_47 : decode cX3_shelvesOf 47 = .ok (.if_icmp .ne 13, 3) := by decide +kernel
theorem dX3_shelvesOf_50 : decode cX3_shelvesOf 50 = .ok (.aload_n 0, 1) := by decide +kernel
theorem dX3_shelvesOf_51 : decode cX3_shelvesOf 51 = .ok (.iload 4, 2) := by decide +kernel
theorem dX3_shelvesOf_53 : decode cX3_shelvesOf 53 = .ok (.iload_n 1, 1) := by decide +kernel
theorem dX3_shelvesOf_54 : decode cX3_shelvesOf 54 = .ok (.invokevirtual 64, 3) := by decide +kernel
theorem dX3_shelvesOf_57 : decode cX3_shelvesOf 57 = .ok (.ifCond .ne 18, 3) := by decide +kernel
theorem dX3_shelvesOf_60 : decode cX3_shelvesOf 60 = .ok (.iload_n 2, 1) := by decide +kernel
theorem dX3_shelvesOf_61 : decode cX3_shelvesOf 61 = .ok (.iconst 3, 1) := by decide +kernel
theorem dX3_shelvesOf_62 : decode cX3_shelvesOf 62 = .ok (.if_icmp .ne 17, 3) := by decide +kernel
theorem dX3_shelvesOf_65 : decode cX3_shelvesOf 65 = .ok (.aload_n 0, 1) := by decide +kernel
theorem dX3_shelvesOf_66 : decode cX3_shelvesOf 66 = .ok (.getfield 22, 3) := by decide +kernel
theorem dX3_shelvesOf_69 : decode cX3_shelvesOf 69 = .ok (.iload 4, 2) := by decide +kernel
theorem dX3_shelvesOf_71 : decode cX3_shelvesOf 71 = .ok (.iaload, 1) := by decide +kernel
theorem dX3_shelvesOf_72 : decode cX3_shelvesOf 72 = .ok (.ifCond .ne 7, 3) := by decide +kernel
theorem dX3_shelvesOf_75 : decode cX3_shelvesOf 75 = .ok (.iconst 1, 1) := by decide +kernel
theorem dX3_shelvesOf_76 : decode cX3_shelvesOf 76 = .ok (.goto 4, 3) := by decide +kernel
theorem dX3_shelvesOf_79 : decode cX3_shelvesOf 79 = .ok (.iconst 0, 1) := by decide +kernel
theorem dX3_shelvesOf_80 : decode cX3_shelvesOf 80 = .ok (.iadd, 1) := by decide +kernel
theorem dX3_shelvesOf_81 : decode cX3_shelvesOf 81 = .ok (.istore_n 3, 1) := by decide +kernel
theorem dX3_shelvesOf_82 : decode cX3_shelvesOf 82 = .ok (.iinc 4 1, 3) := by decide +kernel
theorem dX3_shelvesOf_85 : decode cX3_shelvesOf 85 = .ok (.goto (-80), 3) := by decide +kernel
theorem dX3_shelvesOf_88 : decode cX3_shelvesOf 88 = .ok (.iload_n 3, 1) := by decide +kernel
theorem dX3_shelvesOf_89 : decode cX3_shelvesOf 89 = .ok (.ireturn, 1) := by decide +kernel
theorem dX3_gained_0 : decode cX3_gained 0 = .ok (.aload_n 0, 1) := by decide +kernel
theorem dX3_gained_1 : decode cX3_gained 1 = .ok (.getfield 22, 3) := by decide +kernel
theorem dX3_gained_4 : decode cX3_gained 4 = .ok (.iconst 0, 1) := by decide +kernel
theorem dX3_gained_5 : decode cX3_gained 5 = .ok (.aload_n 0, 1) := by decide +kernel
theorem dX3_gained_6 : decode cX3_gained 6 = .ok (.getfield 28, 3) := by decide +kernel
theorem dX3_gained_9 : decode cX3_gained 9 = .ok (.iconst 0, 1) := by decide +kernel
theorem dX3_gained_10 : decode cX3_gained 10 = .ok (.bipush 12, 2) := by decide +kernel
theorem dX3_gained_12 : decode cX3_gained 12 = .ok (.invokestatic 115, 3) := by decide +kernel
theorem dX3_gained_15 : decode cX3_gained 15 = .ok (.aload_n 0, 1) := by decide +kernel
theorem dX3_gained_16 : decode cX3_gained 16 = .ok (.getfield 25, 3) := by decide +kernel
theorem dX3_gained_19 : decode cX3_gained 19 = .ok (.iconst 0, 1) := by decide +kernel
theorem dX3_gained_20 : decode cX3_gained 20 = .ok (.aload_n 0, 1) := by decide +kernel
theorem dX3_gained_21 : decode cX3_gained 21 = .ok (.getfield 31, 3) := by decide +kernel
theorem dX3_gained_24 : decode cX3_gained 24 = .ok (.iconst 0, 1) := by decide +kernel
theorem dX3_gained_25 : decode cX3_gained 25 = .ok (.bipush 12, 2) := by decide +kernel
theorem dX3_gained_27 : decode cX3_gained 27 = .ok (.invokestatic 115, 3) := by decide +kernel
theorem dX3_gained_30 : decode cX3_gained 30 = .ok (.aload_n 0, 1) := by decide +kernel
theorem dX3_gained_31 : decode cX3_gained 31 = .ok (.iload_n 1, 1) := by decide +kernel
theorem dX3_gained_32 : decode cX3_gained 32 = .ok (.iconst 3, 1) := by decide +kernel
theorem dX3_gained_33 : decode cX3_gained 33 = .ok (.invokevirtual 121, 3) := by decide +kernel
theorem dX3_gained_36 : decode cX3_gained 36 = .ok (.istore_n 2, 1) := by decide +kernel
theorem dX3_gained_37 : decode cX3_gained 37 = .ok (.aload_n 0, 1) := by decide +kernel
theorem dX3_gained_38 : decode cX3_gained 38 = .ok (.iload_n 1, 1) := by decide +kernel
theorem dX3_gained_39 : decode cX3_gained 39 = .ok (.invokevirtual 124, 3) := by decide +kernel
theorem dX3_gained_42 : decode cX3_gained 42 = .ok (.pop, 1) := by decide +kernel
theorem dX3_gained_43 : decode cX3_gained 43 = .ok (.aload_n 0, 1) := by decide +kernel
theorem dX3_gained_44 : decode cX3_gained 44 = .ok (.iload_n 1, 1) := by decide +kernel
theorem dX3_gained_45 : decode cX3_gained 45 = .ok (.iconst 3, 1) := by decide +kernel
theorem dX3_gained_46 : decode cX3_gained 46 = .ok (.invokevirtual 121, 3) := by decide +kernel
theorem dX3_gained_49 : decode cX3_gained 49 = .ok (.iload_n 2, 1) := by decide +kernel
theorem dX3_gained_50 : decode cX3_gained 50 = .ok (.isub, 1) := by decide +kernel
theorem dX3_gained_51 : decode cX3_gained 51 = .ok (.istore_n 3, 1) := by decide +kernel
theorem dX3_gained_52 : decode cX3_gained 52 = .ok (.aload_n 0, 1) := by decide +kernel
theorem dX3_gained_53 : decode cX3_gained 53 = .ok (.getfield 28, 3) := by decide +kernel
theorem dX3_gained_56 : decode cX3_gained 56 = .ok (.iconst 0, 1) := by decide +kernel
theorem dX3_gained_57 : decode cX3_gained 57 = .ok (.aload_n 0, 1) := by decide +kernel
theorem dX3_gained_58 : decode cX3_gained 58 = .ok (.getfield 22, 3) := by decide +kernel
theorem dX3_gained_61 : decode cX3_gained 61 = .ok (.iconst 0, 1) := by decide +kernel
theorem dX3_gained_62 : decode cX3_gained 62 = .ok (.bipush 12, 2) := by decide +kernel
theorem dX3_gained_64 : decode cX3_gained 64 = .ok (.invokestatic 115, 3) := by decide +kernel
theorem dX3_gained_67 : decode cX3_gained 67 = .ok (.aload_n 0, 1) := by decide +kernel
theorem dX3_gained_68 : decode cX3_gained 68 = .ok (.getfield 31, 3) := by decide +kernel
theorem dX3_gained_71 : decode cX3_gained 71 = .ok (.iconst 0, 1) := by decide +kernel
theorem dX3_gained_72 : decode cX3_gained 72 = .ok (.aload_n 0, 1) := by decide +kernel
theorem dX3_gained_73 : decode cX3_gained 73 = .ok (.getfield 25, 3) := by decide +kernel
theorem dX3_gained_76 : decode cX3_gained 76 = .ok (.iconst 0, 1) := by decide +kernel
theorem dX3_gained_77 : decode cX3_gained 77 = .ok (.bipush 12, 2) := by decide +kernel
theorem dX3_gained_79 : decode cX3_gained 79 = .ok (.invokestatic 115, 3) := by decide +kernel
theorem dX3_gained_82 : decode cX3_gained 82 = .ok (.iload_n 3, 1) := by decide +kernel
theorem dX3_gained_83 : decode cX3_gained 83 = .ok (.ireturn, 1) := by decide +kernel
theorem dX3_kind_0 : decode cX3_kind 0 = .ok (.aload_n 0, 1) := by decide +kernel
theorem dX3_kind_1 : decode cX3_kind 1 = .ok (.iconst 0, 1) := by decide +kernel
theorem dX3_kind_2 : decode cX3_kind 2 = .ok (.putfield 34, 3) := by decide +kernel
theorem dX3_kind_5 : decode cX3_kind 5 = .ok (.iload_n 1, 1) := by decide +kernel
theorem dX3_kind_6 : decode cX3_kind 6 = .ok (.iconst 2, 1) := by decide +kernel
theorem dX3_kind_7 : decode cX3_kind 7 = .ok (.bipush 12, 2) := by decide +kernel
theorem dX3_kind_9 : decode cX3_kind 9 = .ok (.invokestatic 41, 3) := by decide +kernel
theorem dX3_kind_12 : decode cX3_kind 12 = .ok (.ifCond .ne 9, 3) := by decide +kernel
theorem dX3_kind_15 : decode cX3_kind 15 = .ok (.aload_n 0, 1) := by decide +kernel
theorem dX3_kind_16 : decode cX3_kind 16 = .ok (.iconst 1, 1) := by decide +kernel
theorem dX3_kind_17 : decode cX3_kind 17 = .ok (.invokevirtual 127, 3) := by decide +kernel
theorem dX3_kind_20 : decode cX3_kind 20 = .ok (.ireturn, 1) := by decide +kernel
theorem dX3_kind_21 : decode cX3_kind 21 = .ok (.aload_n 0, 1) := by decide +kernel
theorem dX3_kind_22 : decode cX3_kind 22 = .ok (.getfield 38, 3) := by decide +kernel
theorem dX3_kind_25 : decode cX3_kind 25 = .ok (.iconst 5, 1) := by decide +kernel
theorem dX3_kind_26 : decode cX3_kind 26 = .ok (.if_icmp .ne 9, 3) := by decide +kernel
theorem dX3_kind_29 : decode cX3_kind 29 = .ok (.aload_n 0, 1) := by decide +kernel
theorem dX3_kind_30 : decode cX3_kind 30 = .ok (.iconst 2, 1) := by decide +kernel
theorem dX3_kind_31 : decode cX3_kind 31 = .ok (.invokevirtual 127, 3) := by decide +kernel
theorem dX3_kind_34 : decode cX3_kind 34 = .ok (.ireturn, 1) := by decide +kernel
theorem dX3_kind_35 : decode cX3_kind 35 = .ok (.aload_n 0, 1) := by decide +kernel
theorem dX3_kind_36 : decode cX3_kind 36 = .ok (.getfield 9, 3) := by decide +kernel
theorem dX3_kind_39 : decode cX3_kind 39 = .ok (.aload_n 0, 1) := by decide +kernel
theorem dX3_kind_40 : decode cX3_kind 40 = .ok (.getfield 38, 3) := by decide +kernel
theorem dX3_kind_43 : decode cX3_kind 43 = .ok (.iload_n 1, 1) := by decide +kernel
theorem dX3_kind_44 : decode cX3_kind 44 = .ok (.iastore, 1) := by decide +kernel
theorem dX3_kind_45 : decode cX3_kind 45 = .ok (.aload_n 0, 1) := by decide +kernel
theorem dX3_kind_46 : decode cX3_kind 46 = .ok (.dup, 1) := by decide +kernel
theorem dX3_kind_47 : decode cX3_kind 47 = .ok (.getfield 38, 3) := by decide +kernel
theorem dX3_kind_50 : decode cX3_kind 50 = .ok (.iconst 1, 1) := by decide +kernel
theorem dX3_kind_51 : decode cX3_kind 51 = .ok (.iadd, 1) := by decide +kernel
theorem dX3_kind_52 : decode cX3_kind 52 = .ok (.putfield 38, 3) := by decide +kernel
theorem dX3_kind_55 : decode cX3_kind 55 = .ok (.aload_n 0, 1) := by decide +kernel
theorem dX3_kind_56 : decode cX3_kind 56 = .ok (.getfield 38, 3) := by decide +kernel
theorem dX3_kind_59 : decode cX3_kind 59 = .ok (.iconst 1, 1) := by decide +kernel
theorem dX3_kind_60 : decode cX3_kind 60 = .ok (.isub, 1) := by decide +kernel
theorem dX3_kind_61 : decode cX3_kind 61 = .ok (.ireturn, 1) := by decide +kernel
theorem dX3_setWay_0 : decode cX3_setWay 0 = .ok (.aload_n 0, 1) := by decide +kernel
theorem dX3_setWay_1 : decode cX3_setWay 1 = .ok (.iconst 0, 1) := by decide +kernel
theorem dX3_setWay_2 : decode cX3_setWay 2 = .ok (.putfield 34, 3) := by decide +kernel
theorem dX3_setWay_5 : decode cX3_setWay 5 = .ok (.iload_n 1, 1) := by decide +kernel
theorem dX3_setWay_6 : decode cX3_setWay 6 = .ok (.iconst 0, 1) := by decide +kernel
theorem dX3_setWay_7 : decode cX3_setWay 7 = .ok (.iconst 2, 1) := by decide +kernel
theorem dX3_setWay_8 : decode cX3_setWay 8 = .ok (.invokestatic 41, 3) := by decide +kernel
theorem dX3_setWay_11 : decode cX3_setWay 11 = .ok (.ifCond .ne 9, 3) := by decide +kernel
theorem dX3_setWay_14 : decode cX3_setWay 14 = .ok (.aload_n 0, 1) := by decide +kernel
theorem dX3_setWay_15 : decode cX3_setWay 15 = .ok (.iconst 1, 1) := by decide +kernel
theorem dX3_setWay_16 : decode cX3_setWay 16 = .ok (.invokevirtual 127, 3) := by decide +kernel
theorem dX3_setWay_19 : decode cX3_setWay 19 = .ok (.ireturn, 1) := by decide +kernel
theorem dX3_setWay_20 : decode cX3_setWay 20 = .ok (.aload_n 0, 1) := by decide +kernel
theorem dX3_setWay_21 : decode cX3_setWay 21 = .ok (.getfield 61, 3) := by decide +kernel
theorem dX3_setWay_24 : decode cX3_setWay 24 = .ok (.istore_n 2, 1) := by decide +kernel
theorem dX3_setWay_25 : decode cX3_setWay 25 = .ok (.aload_n 0, 1) := by decide +kernel
theorem dX3_setWay_26 : decode cX3_setWay 26 = .ok (.iload_n 1, 1) := by decide +kernel
theorem dX3_setWay_27 : decode cX3_setWay 27 = .ok (.putfield 61, 3) := by decide +kernel
theorem dX3_setWay_30 : decode cX3_setWay 30 = .ok (.iload_n 2, 1) := by decide +kernel
theorem dX3_setWay_31 : decode cX3_setWay 31 = .ok (.ireturn, 1) := by decide +kernel
theorem dX3_put_0 : decode cX3_put 0 = .ok (.aload_n 0, 1) := by decide +kernel
theorem dX3_put_1 : decode cX3_put 1 = .ok (.iconst 0, 1) := by decide +kernel
theorem dX3_put_2 : decode cX3_put 2 = .ok (.putfield 34, 3) := by decide +kernel
theorem dX3_put_5 : decode cX3_put 5 = .ok (.aload_n 0, 1) := by decide +kernel
theorem dX3_put_6 : decode cX3_put 6 = .ok (.iload_n 1, 1) := by decide +kernel
theorem dX3_put_7 : decode cX3_put 7 = .ok (.invokevirtual 130, 3) := by decide +kernel
theorem dX3_put_10 : decode cX3_put 10 = .ok (.ifCond .ne 9, 3) := by decide +kernel
theorem dX3_put_13 : decode cX3_put 13 = .ok (.aload_n 0, 1) := by decide +kernel
theorem dX3_put_14 : decode cX3_put 14 = .ok (.iconst 1, 1) := by decide +kernel
theorem dX3_put_15 : decode cX3_put 15 = .ok (.invokevirtual 127, 3) := by decide +kernel
theorem dX3_put_18 : decode cX3_put 18 = .ok (.ireturn, 1) := by decide +kernel
theorem dX3_put_19 : decode cX3_put 19 = .ok (.aload_n 0, 1) := by decide +kernel
theorem dX3_put_20 : decode cX3_put 20 = .ok (.iload_n 1, 1) := by decide +kernel
theorem dX3_put_21 : decode cX3_put 21 = .ok (.invokevirtual 80, 3) := by decide +kernel
theorem dX3_put_24 : decode cX3_put 24 = .ok (.istore_n 2, 1) := by decide +kernel
theorem dX3_put_25 : decode cX3_put 25 = .ok (.iload_n 2, 1) := by decide +kernel
theorem dX3_put_26 : decode cX3_put 26 = .ok (.iconst (-1), 1) := by decide +kernel
theorem dX3_put_27 : decode cX3_put 27 = .ok (.if_icmp .ne 11, 3) := by decide +kernel
theorem dX3_put_30 : decode cX3_put 30 = .ok (.aload_n 0, 1) := by decide +kernel
theorem dX3_put_31 : decode cX3_put 31 = .ok (.iconst 2, 1) := by decide +kernel
theorem dX3_put_32 : decode cX3_put 32 = .ok (.invokevirtual 127, 3) := by decide +kernel
theorem dX3_put_35 : decode cX3_put 35 = .ok (.goto 9, 3) := by decide +kernel
theorem dX3_put_38 : decode cX3_put 38 = .ok (.aload_n 0, 1) := by decide +kernel
theorem dX3_put_39 : decode cX3_put 39 = .ok (.iload_n 1, 1) := by decide +kernel
theorem dX3_put_40 : decode cX3_put 40 = .ok (.iload_n 2, 1) := by decide +kernel
theorem dX3_put_41 : decode cX3_put 41 = .ok (.invokevirtual 133, 3) := by decide +kernel
theorem dX3_put_44 : decode cX3_put 44 = .ok (.ireturn, 1) := by decide +kernel
theorem dX3_take_0 : decode cX3_take 0 = .ok (.aload_n 0, 1) := by decide +kernel
theorem dX3_take_1 : decode cX3_take 1 = .ok (.iconst 0, 1) := by decide +kernel
theorem dX3_take_2 : decode cX3_take 2 = .ok (.putfield 34, 3) := by decide +kernel
theorem dX3_take_5 : decode cX3_take 5 = .ok (.iload_n 1, 1) := by decide +kernel
theorem dX3_take_6 : decode cX3_take 6 = .ok (.invokestatic 136, 3) := by decide +kernel
theorem dX3_take_9 : decode cX3_take 9 = .ok (.ifCond .ne 9, 3) := by decide +kernel
theorem dX3_take_12 : decode cX3_take 12 = .ok (.aload_n 0, 1) := by decide +kernel
theorem dX3_take_13 : decode cX3_take 13 = .ok (.iconst 1, 1) := by decide +kernel
theorem dX3_take_14 : decode cX3_take 14 = .ok (.invokevirtual 127, 3) := by decide +kernel
theorem dX3_take_17 : decode cX3_take 17 = .ok (.ireturn, 1) := by decide +kernel
theorem dX3_take_18 : decode cX3_take 18 = .ok (.iload_n 1, 1) := by decide +kernel
theorem dX3_take_19 : decode cX3_take 19 = .ok (.bipush 24, 2) := by decide +kernel
theorem dX3_take_21 : decode cX3_take 21 = .ok (.idiv, 1) := by decide +kernel
theorem dX3_take_22 : decode cX3_take 22 = .ok (.istore_n 2, 1) := by decide +kernel
theorem dX3_take_23 : decode cX3_take 23 = .ok (.aload_n 0, 1) := by decide +kernel
theorem dX3_take_24 : decode cX3_take 24 = .ok (.iload_n 1, 1) := by decide +kernel
theorem dX3_take_25 : decode cX3_take 25 = .ok (.invokevirtual 139, 3) := by decide +kernel
theorem dX3_take_28 : decode cX3_take 28 = .ok (.istore_n 3, 1) := by decide +kernel
theorem dX3_take_29 : decode cX3_take 29 = .ok (.iload_n 3, 1) := by decide +kernel
theorem dX3_take_30 : decode cX3_take 30 = .ok (.iconst (-1), 1) := by decide +kernel
theorem dX3_take_31 : decode cX3_take 31 = .ok (.if_icmp .eq 26, 3) := by decide +kernel
theorem dX3_take_34 : decode cX3_take 34 = .ok (.aload_n 0, 1) := by decide +kernel
theorem dX3_take_35 : decode cX3_take 35 = .ok (.iload_n 2, 1) := by decide +kernel
theorem dX3_take_36 : decode cX3_take 36 = .ok (.iload_n 3, 1) := by decide +kernel
theorem dX3_take_37 : decode cX3_take 37 = .ok (.invokevirtual 89, 3) := by decide +kernel
theorem dX3_take_40 : decode cX3_take 40 = .ok (.iload_n 1, 1) := by decide +kernel
theorem dX3_take_41 : decode cX3_take 41 = .ok (.if_icmp .ne 16, 3) := by decide +kernel
theorem dX3_take_44 : decode cX3_take 44 = .ok (.aload_n 0, 1) := by decide +kernel
theorem dX3_take_45 : decode cX3_take 45 = .ok (.getfield 22, 3) := by decide +kernel
theorem dX3_take_48 : decode cX3_take 48 = .ok (.iload_n 2, 1) := by decide +kernel
theorem dX3_take_49 : decode cX3_take 49 = .ok (.iaload, 1) := by decide +kernel
theorem dX3_take_50 : decode cX3_take 50 = .ok (.iload_n 3, 1) := by decide +kernel
theorem dX3_take_51 : decode cX3_take 51 = .ok (.ishr, 1) := by decide +kernel
theorem dX3_take_52 : decode cX3_take 52 = .ok (.iconst 1, 1) := by decide +kernel
theorem dX3_take_53 : decode cX3_take 53 = .ok (.iand, 1) := by decide +kernel
theorem dX3_take_54 : decode cX3_take 54 = .ok (.ifCond .ne 9, 3) := by decide +kernel
theorem dX3_take_57 : decode cX3_take 57 = .ok (.aload_n 0, 1) := by decide +kernel
theorem dX3_take_58 : decode cX3_take 58 = .ok (.iconst 2, 1) := by decide +kernel
theorem dX3_take_59 : decode cX3_take 59 = .ok (.invokevirtual 127, 3) := by decide +kernel
theorem dX3_take_62 : decode cX3_take 62 = .ok (.ireturn, 1) := by decide +kernel
theorem dX3_take_63 : decode cX3_take 63 = .ok (.aload_n 0, 1) := by decide +kernel
theorem dX3_take_64 : decode cX3_take 64 = .ok (.getfield 22, 3) := by decide +kernel
theorem dX3_take_67 : decode cX3_take 67 = .ok (.iload_n 2, 1) := by decide +kernel
theorem dX3_take_68 : decode cX3_take 68 = .ok (.dup2, 1) := by decide +kernel
theorem dX3_take_69 : decode cX3_take 69 = .ok (.iaload, 1) := by decide +kernel
theorem dX3_take_70 : decode cX3_take 70 = .ok (.iconst 1, 1) := by decide +kernel
theorem dX3_take_71 : decode cX3_take 71 = .ok (.iload_n 3, 1) := by decide +kernel
theorem dX3_take_72 : decode cX3_take 72 = .ok (.ishl, 1) := by decide +kernel
theorem dX3_take_73 : decode cX3_take 73 = .ok (.isub, 1) := by decide +kernel
theorem dX3_take_74 : decode cX3_take 74 = .ok (.iastore, 1) := by decide +kernel
theorem dX3_take_75 : decode cX3_take 75 = .ok (.aload_n 0, 1) := by decide +kernel
theorem dX3_take_76 : decode cX3_take 76 = .ok (.dup, 1) := by decide +kernel
theorem dX3_take_77 : decode cX3_take 77 = .ok (.getfield 97, 3) := by decide +kernel
theorem dX3_take_80 : decode cX3_take 80 = .ok (.iconst 1, 1) := by decide +kernel
theorem dX3_take_81 : decode cX3_take 81 = .ok (.iadd, 1) := by decide +kernel
theorem dX3_take_82 : decode cX3_take 82 = .ok (.putfield 97, 3) := by decide +kernel
theorem dX3_take_85 : decode cX3_take 85 = .ok (.aload_n 0, 1) := by decide +kernel
theorem dX3_take_86 : decode cX3_take 86 = .ok (.getfield 22, 3) := by decide +kernel
theorem dX3_take_89 : decode cX3_take 89 = .ok (.iload_n 2, 1) := by decide +kernel
theorem dX3_take_90 : decode cX3_take 90 = .ok (.iaload, 1) := by decide +kernel
theorem dX3_take_91 : decode cX3_take 91 = .ok (.ifCond .ne 13, 3) := by decide +kernel
theorem dX3_take_94 : decode cX3_take 94 = .ok (.aload_n 0, 1) := by decide +kernel
theorem dX3_take_95 : decode cX3_take 95 = .ok (.getfield 25, 3) := by decide +kernel
theorem dX3_take_98 : decode cX3_take 98 = .ok (.iload_n 2, 1) := by decide +kernel
theorem dX3_take_99 : decode cX3_take 99 = .ok (.aload_n 0, 1) := by decide +kernel
theorem dX3_take_100 : decode cX3_take 100 = .ok (.getfield 97, 3) := by decide +kernel
theorem dX3_take_103 : decode cX3_take 103 = .ok (.iastore, 1) := by decide +kernel
theorem dX3_take_104 : decode cX3_take 104 = .ok (.aload_n 0, 1) := by decide +kernel
theorem dX3_take_105 : decode cX3_take 105 = .ok (.iload_n 2, 1) := by decide +kernel
theorem dX3_take_106 : decode cX3_take 106 = .ok (.invokevirtual 51, 3) := by decide +kernel
theorem dX3_take_109 : decode cX3_take 109 = .ok (.ireturn, 1) := by decide +kernel
theorem dX3_reap_0 : decode cX3_reap 0 = .ok (.aload_n 0, 1) := by decide +kernel
theorem dX3_reap_1 : decode cX3_reap 1 = .ok (.iconst 0, 1) := by decide +kernel
theorem dX3_reap_2 : decode cX3_reap 2 = .ok (.putfield 34, 3) := by decide +kernel
theorem dX3_reap_5 : decode cX3_reap 5 = .ok (.iload_n 1, 1) := by decide +kernel
theorem dX3_reap_6 : decode cX3_reap 6 = .ok (.iconst 0, 1) := by decide +kernel
theorem dX3_reap_7 : decode cX3_reap 7 = .ok (.bipush 99, 2) := by decide +kernel
theorem dX3_reap_9 : decode cX3_reap 9 = .ok (.invokestatic 41, 3) := by decide +kernel
theorem dX3_reap_12 : decode cX3_reap 12 = .ok (.ifCond .ne 9, 3) := by decide +kernel
theorem dX3_reap_15 : decode cX3_reap 15 = .ok (.aload_n 0, 1) := by decide +kernel
theorem dX3_reap_16 : decode cX3_reap 16 = .ok (.iconst 1, 1) := by decide +kernel
theorem dX3_reap_17 : decode cX3_reap 17 = .ok (.invokevirtual 127, 3) := by decide +kernel
theorem dX3_reap_20 : decode cX3_reap 20 = .ok (.ireturn, 1) := by decide +kernel
theorem dX3_reap_21 : decode cX3_reap 21 = .ok (.iconst 0, 1) := by decide +kernel
theorem dX3_reap_22 : decode cX3_reap 22 = .ok (.istore_n 2, 1) := by decide +kernel
theorem dX3_reap_23 : decode cX3_reap 23 = .ok (.iconst 0, 1) := by decide +kernel
theorem dX3_reap_24 : decode cX3_reap 24 = .ok (.istore_n 3, 1) := by decide +kernel
theorem dX3_reap_25 : decode cX3_reap 25 = .ok (.iload_n 3, 1) := by decide +kernel
theorem dX3_reap_26 : decode cX3_reap 26 = .ok (.bipush 12, 2) := by decide +kernel
theorem dX3_reap_28 : decode cX3_reap 28 = .ok (.if_icmp .ge 61, 3) := by decide +kernel
theorem dX3_reap_31 : decode cX3_reap 31 = .ok (.aload_n 0, 1) := by decide +kernel
theorem dX3_reap_32 : decode cX3_reap 32 = .ok (.iload_n 3, 1) := by decide +kernel
theorem dX3_reap_33 : decode cX3_reap 33 = .ok (.invokevirtual 74, 3) := by decide +kernel
theorem dX3_reap_36 : decode cX3_reap 36 = .ok (.ifCond .ne 47, 3) := by decide +kernel
theorem dX3_reap_39 : decode cX3_reap 39 = .ok (.aload_n 0, 1) := by decide +kernel
theorem dX3_reap_40 : decode cX3_reap 40 = .ok (.getfield 22, 3) := by decide +kernel
theorem dX3_reap_43 : decode cX3_reap 43 = .ok (.iload_n 3, 1) := by decide +kernel
theorem dX3_reap_44 : decode cX3_reap 44 = .ok (.iaload, 1) := by decide +kernel
theorem dX3_reap_45 : decode cX3_reap 45 = .ok (.ifCond .ne 38, 3) := by decide +kernel
theorem dX3_reap_48 : decode cX3_reap 48 = .ok (.aload_n 0, 1) := by decide +kernel
theorem dX3_reap_49 : decode cX3_reap 49 = .ok (.getfield 97, 3) := by decide +kernel
theorem dX3_reap_52 : decode cX3_reap 52 = .ok (.aload_n 0, 1) := by decide +kernel
theorem dX3_reap_53 : decode cX3_reap 53 = .ok (.getfield 25, 3) := by decide +kernel
theorem dX3_reap_56 : decode cX3_reap 56 = .ok (.iload_n 3, 1) := by decide +kernel
theorem dX3_reap_57 : decode cX3_reap 57 = .ok (.iaload, 1) := by decide +kernel
theorem dX3_reap_58 : decode cX3_reap 58 = .ok (.isub, 1) := by decide +kernel
theorem dX3_reap_59 : decode cX3_reap 59 = .ok (.iload_n 1, 1) := by decide +kernel
theorem dX3_reap_60 : decode cX3_reap 60 = .ok (.if_icmp .ge 6, 3) := by decide +kernel
theorem dX3_reap_63 : decode cX3_reap 63 = .ok (.goto 20, 3) := by decide +kernel
theorem dX3_reap_66 : decode cX3_reap 66 = .ok (.aload_n 0, 1) := by decide +kernel
theorem dX3_reap_67 : decode cX3_reap 67 = .ok (.getfield 16, 3) := by decide +kernel
theorem dX3_reap_70 : decode cX3_reap 70 = .ok (.iload_n 3, 1) := by decide +kernel
theorem dX3_reap_71 : decode cX3_reap 71 = .ok (.iconst (-1), 1) := by decide +kernel
theorem dX3_reap_72 : decode cX3_reap 72 = .ok (.iastore, 1) := by decide +kernel
theorem dX3_reap_73 : decode cX3_reap 73 = .ok (.aload_n 0, 1) := by decide +kernel
theorem dX3_reap_74 : decode cX3_reap 74 = .ok (.getfield 25, 3) := by decide +kernel
theorem dX3_reap_77 : decode cX3_reap 77 = .ok (.iload_n 3, 1) := by decide +kernel
theorem dX3_reap_78 : decode cX3_reap 78 = .ok (.iconst (-1), 1) := by decide +kernel
theorem dX3_reap_79 : decode cX3_reap 79 = .ok (.iastore, 1) := by decide +kernel
theorem dX3_reap_80 : decode cX3_reap 80 = .ok (.iinc 2 1, 3) := by decide +kernel
theorem dX3_reap_83 : decode cX3_reap 83 = .ok (.iinc 3 1, 3) := by decide +kernel
theorem dX3_reap_86 : decode cX3_reap 86 = .ok (.goto (-61), 3) := by decide +kernel
theorem dX3_reap_89 : decode cX3_reap 89 = .ok (.iload_n 2, 1) := by decide +kernel
theorem dX3_reap_90 : decode cX3_reap 90 = .ok (.ireturn, 1) := by decide +kernel
theorem dX3_pack_0 : decode cX3_pack 0 = .ok (.aload_n 0, 1) := by decide +kernel
theorem dX3_pack_1 : decode cX3_pack 1 = .ok (.iconst 0, 1) := by decide +kernel
theorem dX3_pack_2 : decode cX3_pack 2 = .ok (.putfield 34, 3) := by decide +kernel
theorem dX3_pack_5 : decode cX3_pack 5 = .ok (.aload_n 0, 1) := by decide +kernel
theorem dX3_pack_6 : decode cX3_pack 6 = .ok (.iload_n 1, 1) := by decide +kernel
theorem dX3_pack_7 : decode cX3_pack 7 = .ok (.invokevirtual 130, 3) := by decide +kernel
theorem dX3_pack_10 : decode cX3_pack 10 = .ok (.ifCond .ne 9, 3) := by decide +kernel
theorem dX3_pack_13 : decode cX3_pack 13 = .ok (.aload_n 0, 1) := by decide +kernel
theorem dX3_pack_14 : decode cX3_pack 14 = .ok (.iconst 1, 1) := by decide +kernel
theorem dX3_pack_15 : decode cX3_pack 15 = .ok (.invokevirtual 127, 3) := by decide +kernel
theorem dX3_pack_18 : decode cX3_pack 18 = .ok (.ireturn, 1) := by decide +kernel
theorem dX3_pack_19 : decode cX3_pack 19 = .ok (.aload_n 0, 1) := by decide +kernel
theorem dX3_pack_20 : decode cX3_pack 20 = .ok (.iload_n 1, 1) := by decide +kernel
theorem dX3_pack_21 : decode cX3_pack 21 = .ok (.invokevirtual 124, 3) := by decide +kernel
theorem dX3_pack_24 : decode cX3_pack 24 = .ok (.istore_n 2, 1) := by decide +kernel
theorem dX3_pack_25 : decode cX3_pack 25 = .ok (.aload_n 0, 1) := by decide +kernel
theorem dX3_pack_26 : decode cX3_pack 26 = .ok (.dup, 1) := by decide +kernel
theorem dX3_pack_27 : decode cX3_pack 27 = .ok (.getfield 142, 3) := by decide +kernel
theorem dX3_pack_30 : decode cX3_pack 30 = .ok (.iload_n 2, 1) := by decide +kernel
theorem dX3_pack_31 : decode cX3_pack 31 = .ok (.iadd, 1) := by decide +kernel
theorem dX3_pack_32 : decode cX3_pack 32 = .ok (.putfield 142, 3) := by decide +kernel
theorem dX3_pack_35 : decode cX3_pack 35 = .ok (.iload_n 2, 1) := by decide +kernel
theorem dX3_pack_36 : decode cX3_pack 36 = .ok (.ireturn, 1) := by decide +kernel
theorem dX3_shelfTold_0 : decode cX3_shelfTold 0 = .ok (.aload_n 0, 1) := by decide +kernel
theorem dX3_shelfTold_1 : decode cX3_shelfTold 1 = .ok (.iload_n 1, 1) := by decide +kernel
theorem dX3_shelfTold_2 : decode cX3_shelfTold 2 = .ok (.invokevirtual 74, 3) := by decide +kernel
theorem dX3_shelfTold_5 : decode cX3_shelfTold 5 = .ok (.ifCond .eq 18, 3) := by decide +kernel
theorem dX3_shelfTold_8 : decode cX3_shelfTold 8 = .ok (.iload_n 2, 1) := by decide +kernel
theorem dX3_shelfTold_9 : decode cX3_shelfTold 9 = .ok (.ifCond .eq 8, 3) := by decide +kernel
theorem dX3_shelfTold_12 : decode cX3_shelfTold 12 = .ok (.iload_n 2, 1) := by decide +kernel
theorem dX3_shelfTold_13 : decode cX3_shelfTold 13 = .ok (.iconst 3, 1) := by decide +kernel
theorem dX3_shelfTold_14 : decode cX3_shelfTold 14 = .ok (.if_icmp .le 7, 3) := by decide +kernel
theorem dX3_shelfTold_17 : decode cX3_shelfTold 17 = .ok (.iconst (-1), 1) := by decide +kernel
theorem dX3_shelfTold_18 : decode cX3_shelfTold 18 = .ok (.goto 4, 3) := by decide +kernel
theorem dX3_shelfTold_21 : decode cX3_shelfTold 21 = .ok (.iconst 0, 1) := by decide +kernel
theorem dX3_shelfTold_22 : decode cX3_shelfTold 22 = .ok (.ireturn, 1) := by decide +kernel
theorem dX3_shelfTold_23 : decode cX3_shelfTold 23 = .ok (.iload_n 2, 1) := by decide +kernel
theorem dX3_shelfTold_24 : decode cX3_shelfTold 24 = .ok (.tableswitch 73 0 4 #[36, 43, 49, 56, 67], 36) := by decide +kernel
theorem dX3_shelfTold_60 : decode cX3_shelfTold 60 = .ok (.aload_n 0, 1) := by decide +kernel
theorem dX3_shelfTold_61 : decode cX3_shelfTold 61 = .ok (.getfield 16, 3) := by decide +kernel
theorem dX3_shelfTold_64 : decode cX3_shelfTold 64 = .ok (.iload_n 1, 1) := by decide +kernel
theorem dX3_shelfTold_65 : decode cX3_shelfTold 65 = .ok (.iaload, 1) := by decide +kernel
theorem dX3_shelfTold_66 : decode cX3_shelfTold 66 = .ok (.ireturn, 1) := by decide +kernel
theorem dX3_shelfTold_67 : decode cX3_shelfTold 67 = .ok (.aload_n 0, 1) := by decide +kernel
theorem dX3_shelfTold_68 : decode cX3_shelfTold 68 = .ok (.iload_n 1, 1) := by decide +kernel
theorem dX3_shelfTold_69 : decode cX3_shelfTold 69 = .ok (.invokevirtual 51, 3) := by decide +kernel
theorem dX3_shelfTold_72 : decode cX3_shelfTold 72 = .ok (.ireturn, 1) := by decide +kernel
theorem dX3_shelfTold_73 : decode cX3_shelfTold 73 = .ok (.aload_n 0, 1) := by decide +kernel
theorem dX3_shelfTold_74 : decode cX3_shelfTold 74 = .ok (.getfield 19, 3) := by decide +kernel
theorem dX3_shelfTold_77 : decode cX3_shelfTold 77 = .ok (.iload_n 1, 1) := by decide +kernel
theorem dX3_shelfTold_78 : decode cX3_shelfTold 78 = .ok (.iaload, 1) := by decide +kernel
theorem dX3_shelfTold_79 : decode cX3_shelfTold 79 = .ok (.ireturn, 1) := by decide +kernel
theorem dX3_shelfTold_80 : decode cX3_shelfTold 80 = .ok (.aload_n 0, 1) := by decide +kernel
theorem dX3_shelfTold_81 : decode cX3_shelfTold 81 = .ok (.aload_n 0, 1) := by decide +kernel
theorem dX3_shelfTold_82 : decode cX3_shelfTold 82 = .ok (.getfield 16, 3) := by decide +kernel
theorem dX3_shelfTold_85 : decode cX3_shelfTold 85 = .ok (.iload_n 1, 1) := by decide +kernel
theorem dX3_shelfTold_86 : decode cX3_shelfTold 86 = .ok (.iaload, 1) := by decide +kernel
theorem dX3_shelfTold_87 : decode cX3_shelfTold 87 = .ok (.invokevirtual 54, 3) := by decide +kernel
theorem dX3_shelfTold_90 : decode cX3_shelfTold 90 = .ok (.ireturn, 1) := by decide +kernel
theorem dX3_shelfTold_91 : decode cX3_shelfTold 91 = .ok (.aload_n 0, 1) := by decide +kernel
theorem dX3_shelfTold_92 : decode cX3_shelfTold 92 = .ok (.iload_n 1, 1) := by decide +kernel
theorem dX3_shelfTold_93 : decode cX3_shelfTold 93 = .ok (.invokevirtual 86, 3) := by decide +kernel
theorem dX3_shelfTold_96 : decode cX3_shelfTold 96 = .ok (.ireturn, 1) := by decide +kernel
theorem dX3_shelfTold_97 : decode cX3_shelfTold 97 = .ok (.aload_n 0, 1) := by decide +kernel
theorem dX3_shelfTold_98 : decode cX3_shelfTold 98 = .ok (.getfield 25, 3) := by decide +kernel
theorem dX3_shelfTold_101 : decode cX3_shelfTold 101 = .ok (.iload_n 1, 1) := by decide +kernel
theorem dX3_shelfTold_102 : decode cX3_shelfTold 102 = .ok (.iaload, 1) := by decide +kernel
theorem dX3_shelfTold_103 : decode cX3_shelfTold 103 = .ok (.ireturn, 1) := by decide +kernel
theorem dX3_shelf_0 : decode cX3_shelf 0 = .ok (.aload_n 0, 1) := by decide +kernel
theorem dX3_shelf_1 : decode cX3_shelf 1 = .ok (.iconst 0, 1) := by decide +kernel
theorem dX3_shelf_2 : decode cX3_shelf 2 = .ok (.putfield 34, 3) := by decide +kernel
theorem dX3_shelf_5 : decode cX3_shelf 5 = .ok (.iload_n 1, 1) := by decide +kernel
theorem dX3_shelf_6 : decode cX3_shelf 6 = .ok (.iconst 0, 1) := by decide +kernel
theorem dX3_shelf_7 : decode cX3_shelf 7 = .ok (.bipush 11, 2) := by decide +kernel
theorem dX3_shelf_9 : decode cX3_shelf 9 = .ok (.invokestatic 41, 3) := by decide +kernel
theorem dX3_shelf_12 : decode cX3_shelf 12 = .ok (.ifCond .eq 21, 3) := by decide +kernel
theorem dX3_shelf_15 : decode cX3_shelf 15 = .ok (.iload_n 2, 1) := by decide +kernel
theorem dX3_shelf_16 : decode cX3_shelf 16 = .ok (.iconst 0, 1) := by decide +kernel
theorem dX3_shelf_17 : decode cX3_shelf 17 = .ok (.iconst 5, 1) := by decide +kernel
theorem dX3_shelf_18 : decode cX3_shelf 18 = .ok (.invokestatic 41, 3) := by decide +kernel
theorem dX3_shelf_21 : decode cX3_shelf 21 = .ok (.ifCond .eq 12, 3) := by decide +kernel
theorem dX3_shelf_24 : decode cX3_shelf 24 = .ok (.aload_n 0, 1) := by decide +kernel
theorem dX3_shelf_25 : decode cX3_shelf 25 = .ok (.iload_n 1, 1) := by decide +kernel
theorem dX3_shelf_26 : decode cX3_shelf 26 = .ok (.iload_n 2, 1) := by decide +kernel
theorem dX3_shelf_27 : decode cX3_shelf 27 = .ok (.invokevirtual 145, 3) := by decide +kernel
theorem dX3_shelf_30 : decode cX3_shelf 30 = .ok (.goto 8, 3) := by decide +kernel
theorem dX3_shelf_33 : decode cX3_shelf 33 = .ok (.aload_n 0, 1) := by decide +kernel
theorem dX3_shelf_34 : decode cX3_shelf 34 = .ok (.iconst 1, 1) := by decide +kernel
theorem dX3_shelf_35 : decode cX3_shelf 35 = .ok (.invokevirtual 127, 3) := by decide +kernel
theorem dX3_shelf_38 : decode cX3_shelf 38 = .ok (.ireturn, 1) := by decide +kernel
theorem dX3_bowlsOf_0 : decode cX3_bowlsOf 0 = .ok (.iconst 0, 1) := by decide +kernel
theorem dX3_bowlsOf_1 : decode cX3_bowlsOf 1 = .ok (.istore_n 2, 1) := by decide +kernel
theorem dX3_bowlsOf_2 : decode cX3_bowlsOf 2 = .ok (.iconst 0, 1) := by decide +kernel
theorem dX3_bowlsOf_3 : decode cX3_bowlsOf 3 = .ok (.istore_n 3, 1) := by decide +kernel
theorem dX3_bowlsOf_4 : decode cX3_bowlsOf 4 = .ok (.iload_n 3, 1) := by decide +kernel
theorem dX3_bowlsOf_5 : decode cX3_bowlsOf 5 = .ok (.bipush 12, 2) := by decide +kernel
theorem dX3_bowlsOf_7 : decode cX3_bowlsOf 7 = .ok (.if_icmp .ge 31, 3) := by decide +kernel
theorem dX3_bowlsOf_10 : decode cX3_bowlsOf 10 = .ok (.iload_n 2, 1) := by decide +kernel
theorem dX3_bowlsOf_11 : decode cX3_bowlsOf 11 = .ok (.aload_n 0, 1) := by decide +kernel
theorem dX3_bowlsOf_12 : decode cX3_bowlsOf 12 = .ok (.getfield 16, 3) := by decide +kernel
theorem dX3_bowlsOf_15 : decode cX3_bowlsOf 15 = .ok (.iload_n 3, 1) := by decide +kernel
theorem dX3_bowlsOf_16 : decode cX3_bowlsOf 16 = .ok (.iaload, 1) := by decide +kernel
theorem dX3_bowlsOf_17 : decode cX3_bowlsOf 17 = .ok (.iload_n 1, 1) := by decide +kernel
theorem dX3_bowlsOf_18 : decode cX3_bowlsOf 18 = .ok (.if_icmp .ne 11, 3) := by decide +kernel
theorem dX3_bowlsOf_21 : decode cX3_bowlsOf 21 = .ok (.aload_n 0, 1) := by decide +kernel
theorem dX3_bowlsOf_22 : decode cX3_bowlsOf 22 = .ok (.iload_n 3, 1) := by decide +kernel
theorem dX3_bowlsOf_23 : decode cX3_bowlsOf 23 = .ok (.invokevirtual 51, 3) := by decide +kernel
theorem dX3_bowlsOf_26 : decode cX3_bowlsOf 26 = .ok (.goto 4, 3) := by decide +kernel
theorem dX3_bowlsOf_29 : decode cX3_bowlsOf 29 = .ok (.iconst 0, 1) := by decide +kernel
theorem dX3_bowlsOf_30 : decode cX3_bowlsOf 30 = .ok (.iadd, 1) := by decide +kernel
theorem dX3_bowlsOf_31 : decode cX3_bowlsOf 31 = .ok (.istore_n 2, 1) := by decide +kernel
theorem dX3_bowlsOf_32 : decode cX3_bowlsOf 32 = .ok (.iinc 3 1, 3) := by decide +kernel
theorem dX3_bowlsOf_35 : decode cX3_bowlsOf 35 = .ok (.goto (-31), 3) := by decide +kernel
theorem dX3_bowlsOf_38 : decode cX3_bowlsOf 38 = .ok (.iload_n 2, 1) := by decide +kernel
theorem dX3_bowlsOf_39 : decode cX3_bowlsOf 39 = .ok (.ireturn, 1) := by decide +kernel
theorem dX3_kindTold_0 : decode cX3_kindTold 0 = .ok (.iload_n 2, 1) := by decide +kernel
theorem dX3_kindTold_1 : decode cX3_kindTold 1 = .ok (.tableswitch 83 0 8 #[51, 58, 64, 83, 83, 83, 83, 70, 76], 51) := by decide +kernel
theorem dX3_kindTold_52 : decode cX3_kindTold 52 = .ok (.aload_n 0, 1) := by decide +kernel
theorem dX3_kindTold_53 : decode cX3_kindTold 53 = .ok (.getfield 9, 3) := by decide +kernel
theorem dX3_kindTold_56 : decode cX3_kindTold 56 = .ok (.iload_n 1, 1) := by decide +kernel
theorem dX3_kindTold_57 : decode cX3_kindTold 57 = .ok (.iaload, 1) := by decide +kernel
theorem dX3_kindTold_58 : decode cX3_kindTold 58 = .ok (.ireturn, 1) := by decide +kernel
theorem dX3_kindTold_59 : decode cX3_kindTold 59 = .ok (.aload_n 0, 1) := by decide +kernel
theorem dX3_kindTold_60 : decode cX3_kindTold 60 = .ok (.iload_n 1, 1) := by decide +kernel
theorem dX3_kindTold_61 : decode cX3_kindTold 61 = .ok (.invokevirtual 54, 3) := by decide +kernel
theorem dX3_kindTold_64 : decode cX3_kindTold 64 = .ok (.ireturn, 1) := by decide +kernel
theorem dX3_kindTold_65 : decode cX3_kindTold 65 = .ok (.aload_n 0, 1) := by decide +kernel
theorem dX3_kindTold_66 : decode cX3_kindTold 66 = .ok (.iload_n 1, 1) := by decide +kernel
theorem dX3_kindTold_67 : decode cX3_kindTold 67 = .ok (.invokevirtual 77, 3) := by decide +kernel
theorem dX3_kindTold_70 : decode cX3_kindTold 70 = .ok (.ireturn, 1) := by decide +kernel
theorem dX3_kindTold_71 : decode cX3_kindTold 71 = .ok (.aload_n 0, 1) := by decide +kernel
theorem dX3_kindTold_72 : decode cX3_kindTold 72 = .ok (.iload_n 1, 1) := by decide +kernel
theorem dX3_kindTold_73 : decode cX3_kindTold 73 = .ok (.invokevirtual 148, 3) := by decide +kernel
theorem dX3_kindTold_76 : decode cX3_kindTold 76 = .ok (.ireturn, 1) := by decide +kernel
theorem dX3_kindTold_77 : decode cX3_kindTold 77 = .ok (.aload_n 0, 1) := by decide +kernel
theorem dX3_kindTold_78 : decode cX3_kindTold 78 = .ok (.getfield 13, 3) := by decide +kernel
theorem dX3_kindTold_81 : decode cX3_kindTold 81 = .ok (.iload_n 1, 1) := by decide +kernel
theorem dX3_kindTold_82 : decode cX3_kindTold 82 = .ok (.iaload, 1) := by decide +kernel
theorem dX3_kindTold_83 : decode cX3_kindTold 83 = .ok (.ireturn, 1) := by decide +kernel
theorem dX3_kindTold_84 : decode cX3_kindTold 84 = .ok (.aload_n 0, 1) := by decide +kernel
theorem dX3_kindTold_85 : decode cX3_kindTold 85 = .ok (.iload_n 1, 1) := by decide +kernel
theorem dX3_kindTold_86 : decode cX3_kindTold 86 = .ok (.iload_n 2, 1) := by decide +kernel
theorem dX3_kindTold_87 : decode cX3_kindTold 87 = .ok (.iconst 3, 1) := by decide +kernel
theorem dX3_kindTold_88 : decode cX3_kindTold 88 = .ok (.isub, 1) := by decide +kernel
theorem dX3_kindTold_89 : decode cX3_kindTold 89 = .ok (.invokevirtual 121, 3) := by decide +kernel
theorem dX3_kindTold_92 : decode cX3_kindTold 92 = .ok (.ireturn, 1) := by decide +kernel
theorem dX3_about_0 : decode cX3_about 0 = .ok (.aload_n 0, 1) := by decide +kernel
theorem dX3_about_1 : decode cX3_about 1 = .ok (.iconst 0, 1) := by decide +kernel
theorem dX3_about_2 : decode cX3_about 2 = .ok (.putfield 34, 3) := by decide +kernel
theorem dX3_about_5 : decode cX3_about 5 = .ok (.aload_n 0, 1) := by decide +kernel
theorem dX3_about_6 : decode cX3_about 6 = .ok (.iload_n 1, 1) := by decide +kernel
theorem dX3_about_7 : decode cX3_about 7 = .ok (.invokevirtual 130, 3) := by decide +kernel
theorem dX3_about_10 : decode cX3_about 10 = .ok (.ifCond .eq 22, 3) := by decide +kernel
theorem dX3_about_13 : decode cX3_about 13 = .ok (.iload_n 2, 1) := by decide +kernel
theorem dX3_about_14 : decode cX3_about 14 = .ok (.iconst 0, 1) := by decide +kernel
theorem dX3_about_15 : decode cX3_about 15 = .ok (.bipush 8, 2) := by decide +kernel
theorem dX3_about_17 : decode cX3_about 17 = .ok (.invokestatic 41, 3) := by decide +kernel
theorem dX3_about_20 : decode cX3_about 20 = .ok (.ifCond .eq 12, 3) := by decide +kernel
theorem dX3_about_23 : decode cX3_about 23 = .ok (.aload_n 0, 1) := by decide +kernel
theorem dX3_about_24 : decode cX3_about 24 = .ok (.iload_n 1, 1) := by decide +kernel
theorem dX3_about_25 : decode cX3_about 25 = .ok (.iload_n 2, 1) := by decide +kernel
theorem dX3_about_26 : decode cX3_about 26 = .ok (.invokevirtual 151, 3) := by decide +kernel
theorem dX3_about_29 : decode cX3_about 29 = .ok (.goto 8, 3) := by decide +kernel
theorem dX3_about_32 : decode cX3_about 32 = .ok (.aload_n 0, 1) := by decide +kernel
theorem dX3_about_33 : decode cX3_about 33 = .ok (.iconst 1, 1) := by decide +kernel
theorem dX3_about_34 : decode cX3_about 34 = .ok (.invokevirtual 127, 3) := by decide +kernel
theorem dX3_about_37 : decode cX3_about 37 = .ok (.ireturn, 1) := by decide +kernel
theorem dX3_placeTold_0 : decode cX3_placeTold 0 = .ok (.aload_n 0, 1) := by decide +kernel
theorem dX3_placeTold_1 : decode cX3_placeTold 1 = .ok (.iload_n 1, 1) := by decide +kernel
theorem dX3_placeTold_2 : decode cX3_placeTold 2 = .ok (.invokevirtual 139, 3) := by decide +kernel
theorem dX3_placeTold_5 : decode cX3_placeTold 5 = .ok (.istore_n 3, 1) := by decide +kernel
theorem dX3_placeTold_6 : decode cX3_placeTold 6 = .ok (.iload_n 3, 1) := by decide +kernel
theorem dX3_placeTold_7 : decode cX3_placeTold 7 = .ok (.iconst (-1), 1) := by decide +kernel
theorem dX3_placeTold_8 : decode cX3_placeTold 8 = .ok (.if_icmp .ne 5, 3) := by decide +kernel
theorem dX3_placeTold_11 : decode cX3_placeTold 11 = .ok (.iconst (-1), 1) := by decide +kernel
theorem dX3_placeTold_12 : decode cX3_placeTold 12 = .ok (.ireturn, 1) := by decide +kernel
theorem dX3_placeTold_13 : decode cX3_placeTold 13 = .ok (.iload_n 1, 1) := by decide +kernel
theorem dX3_placeTold_14 : decode cX3_placeTold 14 = .ok (.bipush 24, 2) := by decide +kernel
theorem dX3_placeTold_16 : decode cX3_placeTold 16 = .ok (.idiv, 1) := by decide +kernel
theorem dX3_placeTold_17 : decode cX3_placeTold 17 = .ok (.istore 4, 2) := by decide +kernel
theorem dX3_placeTold_19 : decode cX3_placeTold 19 = .ok (.iload_n 2, 1) := by decide +kernel
theorem dX3_placeTold_20 : decode cX3_placeTold 20 = .ok (.ifCond .ne 13, 3) := by decide +kernel
theorem dX3_placeTold_23 : decode cX3_placeTold 23 = .ok (.aload_n 0, 1) := by decide +kernel
theorem dX3_placeTold_24 : decode cX3_placeTold 24 = .ok (.getfield 16, 3) := by decide +kernel
theorem dX3_placeTold_27 : decode cX3_placeTold 27 = .ok (.iload 4, 2) := by decide +kernel
theorem dX3_placeTold_29 : decode cX3_placeTold 29 = .ok (.iaload, 1) := by decide +kernel
theorem dX3_placeTold_30 : decode cX3_placeTold 30 = .ok (.goto 38, 3) := by decide +kernel
theorem dX3_placeTold_33 : decode cX3_placeTold 33 = .ok (.iload_n 2, 1) := by decide +kernel
theorem dX3_placeTold_34 : decode cX3_placeTold 34 = .ok (.iconst 1, 1) := by decide +kernel
theorem dX3_placeTold_35 : decode cX3_placeTold 35 = .ok (.if_icmp .ne 7, 3) := by decide +kernel
theorem dX3_placeTold_38 : decode cX3_placeTold 38 = .ok (.iload_n 3, 1) := by decide +kernel
theorem dX3_placeTold_39 : decode cX3_placeTold 39 = .ok (.goto 29, 3) := by decide +kernel
theorem dX3_placeTold_42 : decode cX3_placeTold 42 = .ok (.iload_n 2, 1) := by decide +kernel
theorem dX3_placeTold_43 : decode cX3_placeTold 43 = .ok (.iconst 2, 1) := by decide +kernel
theorem dX3_placeTold_44 : decode cX3_placeTold 44 = .ok (.if_icmp .ne 17, 3) := by decide +kernel
theorem dX3_placeTold_47 : decode cX3_placeTold 47 = .ok (.aload_n 0, 1) := by decide +kernel
theorem dX3_placeTold_48 : decode cX3_placeTold 48 = .ok (.getfield 22, 3) := by decide +kernel
theorem dX3_placeTold_51 : decode cX3_placeTold 51 = .ok (.iload 4, 2) := by decide +kernel
theorem dX3_placeTold_53 : decode cX3_placeTold 53 = .ok (.iaload, 1) := by decide +kernel
theorem dX3_placeTold_54 : decode cX3_placeTold 54 = .ok (.iload_n 3, 1) := by decide +kernel
theorem dX3_placeTold_55 : decode cX3_placeTold 55 = .ok (.ishr, 1) := by decide +kernel
theorem dX3_placeTold_56 : decode cX3_placeTold 56 = .ok (.iconst 1, 1) := by decide +kernel
theorem dX3_placeTold_57 : decode cX3_placeTold 57 = .ok (.iand, 1) := by decide +kernel
theorem dX3_placeTold_58 : decode cX3_placeTold 58 = .ok (.goto 10, 3) := by decide +kernel
theorem dX3_placeTold_61 : decode cX3_placeTold 61 = .ok (.aload_n 0, 1) := by decide +kernel
theorem dX3_placeTold_62 : decode cX3_placeTold 62 = .ok (.iload 4, 2) := by decide +kernel
theorem dX3_placeTold_64 : decode cX3_placeTold 64 = .ok (.iload_n 3, 1) := by decide +kernel
theorem dX3_placeTold_65 : decode cX3_placeTold 65 = .ok (.invokevirtual 89, 3) := by decide +kernel
theorem dX3_placeTold_68 : decode cX3_placeTold 68 = .ok (.ireturn, 1) := by decide +kernel
theorem dX3_place_0 : decode cX3_place 0 = .ok (.aload_n 0, 1) := by decide +kernel
theorem dX3_place_1 : decode cX3_place 1 = .ok (.iconst 0, 1) := by decide +kernel
theorem dX3_place_2 : decode cX3_place 2 = .ok (.putfield 34, 3) := by decide +kernel
theorem dX3_place_5 : decode cX3_place 5 = .ok (.iload_n 1, 1) := by decide +kernel
theorem dX3_place_6 : decode cX3_place 6 = .ok (.invokestatic 136, 3) := by decide +kernel
theorem dX3_place_9 : decode cX3_place 9 = .ok (.ifCond .eq 21, 3) := by decide +kernel
theorem dX3_place_12 : decode cX3_place 12 = .ok (.iload_n 2, 1) := by decide +kernel
theorem dX3_place_13 : decode cX3_place 13 = .ok (.iconst 0, 1) := by decide +kernel
theorem dX3_place_14 : decode cX3_place 14 = .ok (.iconst 3, 1) := by decide +kernel
theorem dX3_place_15 : decode cX3_place 15 = .ok (.invokestatic 41, 3) := by decide +kernel
theorem dX3_place_18 : decode cX3_place 18 = .ok (.ifCond .eq 12, 3) := by decide +kernel
theorem dX3_place_21 : decode cX3_place 21 = .ok (.aload_n 0, 1) := by decide +kernel
theorem dX3_place_22 : decode cX3_place 22 = .ok (.iload_n 1, 1) := by decide +kernel
theorem dX3_place_23 : decode cX3_place 23 = .ok (.iload_n 2, 1) := by decide +kernel
theorem dX3_place_24 : decode cX3_place 24 = .ok (.invokevirtual 154, 3) := by decide +kernel
theorem dX3_place_27 : decode cX3_place 27 = .ok (.goto 8, 3) := by decide +kernel
theorem dX3_place_30 : decode cX3_place 30 = .ok (.aload_n 0, 1) := by decide +kernel
theorem dX3_place_31 : decode cX3_place 31 = .ok (.iconst 1, 1) := by decide +kernel
theorem dX3_place_32 : decode cX3_place 32 = .ok (.invokevirtual 127, 3) := by decide +kernel
theorem dX3_place_35 : decode cX3_place 35 = .ok (.ireturn, 1) := by decide +kernel
theorem dX3_sum_0 : decode cX3_sum 0 = .ok (.iconst 0, 1) := by decide +kernel
theorem dX3_sum_1 : decode cX3_sum 1 = .ok (.istore_n 2, 1) := by decide +kernel
theorem dX3_sum_2 : decode cX3_sum 2 = .ok (.iconst 0, 1) := by decide +kernel
theorem dX3_sum_3 : decode cX3_sum 3 = .ok (.istore_n 3, 1) := by decide +kernel
theorem dX3_sum_4 : decode cX3_sum 4 = .ok (.iload_n 3, 1) := by decide +kernel
theorem dX3_sum_5 : decode cX3_sum 5 = .ok (.bipush 12, 2) := by decide +kernel
theorem dX3_sum_7 : decode cX3_sum 7 = .ok (.if_icmp .ge 111, 3) := by decide +kernel
theorem dX3_sum_10 : decode cX3_sum 10 = .ok (.aload_n 0, 1) := by decide +kernel
theorem dX3_sum_11 : decode cX3_sum 11 = .ok (.iload_n 3, 1) := by decide +kernel
theorem dX3_sum_12 : decode cX3_sum 12 = .ok (.invokevirtual 74, 3) := by decide +kernel
theorem dX3_sum_15 : decode cX3_sum 15 = .ok (.ifCond .eq 19, 3) := by decide +kernel
theorem dX3_sum_18 : decode cX3_sum 18 = .ok (.iload_n 2, 1) := by decide +kernel
theorem dX3_sum_19 : decode cX3_sum 19 = .ok (.iload_n 1, 1) := by decide +kernel
theorem dX3_sum_20 : decode cX3_sum 20 = .ok (.iconst 2, 1) := by decide +kernel
theorem dX3_sum_21 : decode cX3_sum 21 = .ok (.if_icmp .ne 7, 3) := by decide +kernel
theorem dX3_sum_24 : decode cX3_sum 24 = .ok (.iconst 1, 1) := by decide +kernel
theorem dX3_sum_25 : decode cX3_sum 25 = .ok (.goto 4, 3) := by decide +kernel
theorem dX3_sum_28 : decode cX3_sum 28 = .ok (.iconst 0, 1) := by decide +kernel
theorem dX3_sum_29 : decode cX3_sum 29 = .ok (.iadd, 1) := by decide +kernel
theorem dX3_sum_30 : decode cX3_sum 30 = .ok (.istore_n 2, 1) := by decide +kernel
theorem dX3_sum_31 : decode cX3_sum 31 = .ok (.goto 81, 3) := by decide +kernel
theorem dX3_sum_34 : decode cX3_sum 34 = .ok (.aload_n 0, 1) := by decide +kernel
theorem dX3_sum_35 : decode cX3_sum 35 = .ok (.iload_n 3, 1) := by decide +kernel
theorem dX3_sum_36 : decode cX3_sum 36 = .ok (.invokevirtual 51, 3) := by decide +kernel
theorem dX3_sum_39 : decode cX3_sum 39 = .ok (.aload_n 0, 1) := by decide +kernel
theorem dX3_sum_40 : decode cX3_sum 40 = .ok (.getfield 9, 3) := by decide +kernel
theorem dX3_sum_43 : decode cX3_sum 43 = .ok (.aload_n 0, 1) := by decide +kernel
theorem dX3_sum_44 : decode cX3_sum 44 = .ok (.getfield 16, 3) := by decide +kernel
theorem dX3_sum_47 : decode cX3_sum 47 = .ok (.iload_n 3, 1) := by decide +kernel
theorem dX3_sum_48 : decode cX3_sum 48 = .ok (.iaload, 1) := by decide +kernel
theorem dX3_sum_49 : decode cX3_sum 49 = .ok (.iaload, 1) := by decide +kernel
theorem dX3_sum_50 : decode cX3_sum 50 = .ok (.imul, 1) := by decide +kernel
theorem dX3_sum_51 : decode cX3_sum 51 = .ok (.istore 4, 2) := by decide +kernel
theorem dX3_sum_53 : decode cX3_sum 53 = .ok (.iload_n 2, 1) := by decide +kernel
theorem dX3_sum_54 : decode cX3_sum 54 = .ok (.iload_n 1, 1) := by decide +kernel
theorem dX3_sum_55 : decode cX3_sum 55 = .ok (.iconst 3, 1) := by decide +kernel
theorem dX3_sum_56 : decode cX3_sum 56 = .ok (.if_icmp .ne 11, 3) := by decide +kernel
theorem dX3_sum_59 : decode cX3_sum 59 = .ok (.aload_n 0, 1) := by decide +kernel
theorem dX3_sum_60 : decode cX3_sum 60 = .ok (.iload_n 3, 1) := by decide +kernel
theorem dX3_sum_61 : decode cX3_sum 61 = .ok (.invokevirtual 51, 3) := by decide +kernel
theorem dX3_sum_64 : decode cX3_sum 64 = .ok (.goto 46, 3) := by decide +kernel
theorem dX3_sum_67 : decode cX3_sum 67 = .ok (.iload_n 1, 1) := by decide +kernel
theorem dX3_sum_68 : decode cX3_sum 68 = .ok (.iconst 4, 1) := by decide +kernel
theorem dX3_sum_69 : decode cX3_sum 69 = .ok (.if_icmp .ne 8, 3) := by decide +kernel
theorem dX3_sum_72 : decode cX3_sum 72 = .ok (.iload 4, 2) := by decide +kernel
theorem dX3_sum_74 : decode cX3_sum 74 = .ok (.goto 36, 3) := by decide +kernel
theorem dX3_sum_77 : decode cX3_sum 77 = .ok (.iload_n 1, 1) := by decide +kernel
theorem dX3_sum_78 : decode cX3_sum 78 = .ok (.iconst 5, 1) := by decide +kernel
theorem dX3_sum_79 : decode cX3_sum 79 = .ok (.if_icmp .ne 11, 3) := by decide +kernel
theorem dX3_sum_82 : decode cX3_sum 82 = .ok (.bipush 24, 2) := by decide +kernel
theorem dX3_sum_84 : decode cX3_sum 84 = .ok (.iload 4, 2) := by decide +kernel
theorem dX3_sum_86 : decode cX3_sum 86 = .ok (.isub, 1) := by decide +kernel
theorem dX3_sum_87 : decode cX3_sum 87 = .ok (.goto 23, 3) := by decide +kernel
theorem dX3_sum_90 : decode cX3_sum 90 = .ok (.iload_n 1, 1) := by decide +kernel
theorem dX3_sum_91 : decode cX3_sum 91 = .ok (.bipush 6, 2) := by decide +kernel
theorem dX3_sum_93 : decode cX3_sum 93 = .ok (.if_icmp .ne 16, 3) := by decide +kernel
theorem dX3_sum_96 : decode cX3_sum 96 = .ok (.aload_n 0, 1) := by decide +kernel
theorem dX3_sum_97 : decode cX3_sum 97 = .ok (.aload_n 0, 1) := by decide +kernel
theorem dX3_sum_98 : decode cX3_sum 98 = .ok (.getfield 16, 3) := by decide +kernel
theorem dX3_sum_101 : decode cX3_sum 101 = .ok (.iload_n 3, 1) := by decide +kernel
theorem dX3_sum_102 : decode cX3_sum 102 = .ok (.iaload, 1) := by decide +kernel
theorem dX3_sum_103 : decode cX3_sum 103 = .ok (.invokevirtual 77, 3) := by decide +kernel
theorem dX3_sum_106 : decode cX3_sum 106 = .ok (.goto 4, 3) := by decide +kernel
theorem dX3_sum_109 : decode cX3_sum 109 = .ok (.iconst 0, 1) := by decide +kernel
theorem dX3_sum_110 : decode cX3_sum 110 = .ok (.iadd, 1) := by decide +kernel
theorem dX3_sum_111 : decode cX3_sum 111 = .ok (.istore_n 2, 1) := by decide +kernel
theorem dX3_sum_112 : decode cX3_sum 112 = .ok (.iinc 3 1, 3) := by decide +kernel
theorem dX3_sum_115 : decode cX3_sum 115 = .ok (.goto (-111), 3) := by decide +kernel
theorem dX3_sum_118 : decode cX3_sum 118 = .ok (.iload_n 2, 1) := by decide +kernel
theorem dX3_sum_119 : decode cX3_sum 119 = .ok (.ireturn, 1) := by decide +kernel
theorem dX3_counted_0 : decode cX3_counted 0 = .ok (.iload_n 1, 1) := by decide +kernel
theorem dX3_counted_1 : decode cX3_counted 1 = .ok (.tableswitch 80 0 9 #[55, 60, 80, 80, 80, 80, 80, 65, 70, 75], 55) := by decide +kernel
theorem dX3_counted_56 : decode cX3_counted 56 = .ok (.aload_n 0, 1) := by decide +kernel
theorem dX3_counted_57 : decode cX3_counted 57 = .ok (.getfield 97, 3) := by decide +kernel
theorem dX3_counted_60 : decode cX3_counted 60 = .ok (.ireturn, 1) := by decide +kernel
theorem dX3_counted_61 : decode cX3_counted 61 = .ok (.aload_n 0, 1) := by decide +kernel
theorem dX3_counted_62 : decode cX3_counted 62 = .ok (.getfield 38, 3) := by decide +kernel
theorem dX3_counted_65 : decode cX3_counted 65 = .ok (.ireturn, 1) := by decide +kernel
theorem dX3_counted_66 : decode cX3_counted 66 = .ok (.aload_n 0, 1) := by decide +kernel
theorem dX3_counted_67 : decode cX3_counted 67 = .ok (.getfield 100, 3) := by decide +kernel
theorem dX3_counted_70 : decode cX3_counted 70 = .ok (.ireturn, 1) := by decide +kernel
theorem dX3_counted_71 : decode cX3_counted 71 = .ok (.aload_n 0, 1) := by decide +kernel
theorem dX3_counted_72 : decode cX3_counted 72 = .ok (.getfield 142, 3) := by decide +kernel
theorem dX3_counted_75 : decode cX3_counted 75 = .ok (.ireturn, 1) := by decide +kernel
theorem dX3_counted_76 : decode cX3_counted 76 = .ok (.aload_n 0, 1) := by decide +kernel
theorem dX3_counted_77 : decode cX3_counted 77 = .ok (.getfield 61, 3) := by decide +kernel
theorem dX3_counted_80 : decode cX3_counted 80 = .ok (.ireturn, 1) := by decide +kernel
theorem dX3_counted_81 : decode cX3_counted 81 = .ok (.aload_n 0, 1) := by decide +kernel
theorem dX3_counted_82 : decode cX3_counted 82 = .ok (.iload_n 1, 1) := by decide +kernel
theorem dX3_counted_83 : decode cX3_counted 83 = .ok (.invokevirtual 157, 3) := by decide +kernel
theorem dX3_counted_86 : decode cX3_counted 86 = .ok (.ireturn, 1) := by decide +kernel
theorem dX3_count_0 : decode cX3_count 0 = .ok (.aload_n 0, 1) := by decide +kernel
theorem dX3_count_1 : decode cX3_count 1 = .ok (.iconst 0, 1) := by decide +kernel
theorem dX3_count_2 : decode cX3_count 2 = .ok (.putfield 34, 3) := by decide +kernel
theorem dX3_count_5 : decode cX3_count 5 = .ok (.iload_n 1, 1) := by decide +kernel
theorem dX3_count_6 : decode cX3_count 6 = .ok (.iconst 0, 1) := by decide +kernel
theorem dX3_count_7 : decode cX3_count 7 = .ok (.bipush 9, 2) := by decide +kernel
theorem dX3_count_9 : decode cX3_count 9 = .ok (.invokestatic 41, 3) := by decide +kernel
theorem dX3_count_12 : decode cX3_count 12 = .ok (.ifCond .eq 11, 3) := by decide +kernel
theorem dX3_count_15 : decode cX3_count 15 = .ok (.aload_n 0, 1) := by decide +kernel
theorem dX3_count_16 : decode cX3_count 16 = .ok (.iload_n 1, 1) := by decide +kernel
theorem dX3_count_17 : decode cX3_count 17 = .ok (.invokevirtual 160, 3) := by decide +kernel
theorem dX3_count_20 : decode cX3_count 20 = .ok (.goto 8, 3) := by decide +kernel
theorem dX3_count_23 : decode cX3_count 23 = .ok (.aload_n 0, 1) := by decide +kernel
theorem dX3_count_24 : decode cX3_count 24 = .ok (.iconst 1, 1) := by decide +kernel
theorem dX3_count_25 : decode cX3_count 25 = .ok (.invokevirtual 127, 3) := by decide +kernel
theorem dX3_count_28 : decode cX3_count 28 = .ok (.ireturn, 1) := by decide +kernel
theorem dX3_next_0 : decode cX3_next 0 = .ok (.aload_n 0, 1) := by decide +kernel
theorem dX3_next_1 : decode cX3_next 1 = .ok (.iconst 0, 1) := by decide +kernel
theorem dX3_next_2 : decode cX3_next 2 = .ok (.putfield 34, 3) := by decide +kernel
theorem dX3_next_5 : decode cX3_next 5 = .ok (.aload_n 0, 1) := by decide +kernel
theorem dX3_next_6 : decode cX3_next 6 = .ok (.iload_n 1, 1) := by decide +kernel
theorem dX3_next_7 : decode cX3_next 7 = .ok (.invokevirtual 130, 3) := by decide +kernel
theorem dX3_next_10 : decode cX3_next 10 = .ok (.ifCond .eq 11, 3) := by decide +kernel
theorem dX3_next_13 : decode cX3_next 13 = .ok (.aload_n 0, 1) := by decide +kernel
theorem dX3_next_14 : decode cX3_next 14 = .ok (.iload_n 1, 1) := by decide +kernel
theorem dX3_next_15 : decode cX3_next 15 = .ok (.invokevirtual 163, 3) := by decide +kernel
theorem dX3_next_18 : decode cX3_next 18 = .ok (.goto 8, 3) := by decide +kernel
theorem dX3_next_21 : decode cX3_next 21 = .ok (.aload_n 0, 1) := by decide +kernel
theorem dX3_next_22 : decode cX3_next 22 = .ok (.iconst 1, 1) := by decide +kernel
theorem dX3_next_23 : decode cX3_next 23 = .ok (.invokevirtual 127, 3) := by decide +kernel
theorem dX3_next_26 : decode cX3_next 26 = .ok (.ireturn, 1) := by decide +kernel
theorem dX3_room_0 : decode cX3_room 0 = .ok (.aload_n 0, 1) := by decide +kernel
theorem dX3_room_1 : decode cX3_room 1 = .ok (.iload_n 1, 1) := by decide +kernel
theorem dX3_room_2 : decode cX3_room 2 = .ok (.iconst 0, 1) := by decide +kernel
theorem dX3_room_3 : decode cX3_room 3 = .ok (.invokevirtual 121, 3) := by decide +kernel
theorem dX3_room_6 : decode cX3_room 6 = .ok (.aload_n 0, 1) := by decide +kernel
theorem dX3_room_7 : decode cX3_room 7 = .ok (.iload_n 1, 1) := by decide +kernel
theorem dX3_room_8 : decode cX3_room 8 = .ok (.invokevirtual 54, 3) := by decide +kernel
theorem dX3_room_11 : decode cX3_room 11 = .ok (.imul, 1) := by decide +kernel
theorem dX3_room_12 : decode cX3_room 12 = .ok (.aload_n 0, 1) := by decide +kernel
theorem dX3_room_13 : decode cX3_room 13 = .ok (.iload_n 1, 1) := by decide +kernel
theorem dX3_room_14 : decode cX3_room 14 = .ok (.invokevirtual 148, 3) := by decide +kernel
theorem dX3_room_17 : decode cX3_room 17 = .ok (.isub, 1) := by decide +kernel
theorem dX3_room_18 : decode cX3_room 18 = .ok (.ireturn, 1) := by decide +kernel
theorem dX3_fits_0 : decode cX3_fits 0 = .ok (.aload_n 0, 1) := by decide +kernel
theorem dX3_fits_1 : decode cX3_fits 1 = .ok (.iconst 0, 1) := by decide +kernel
theorem dX3_fits_2 : decode cX3_fits 2 = .ok (.putfield 34, 3) := by decide +kernel
theorem dX3_fits_5 : decode cX3_fits 5 = .ok (.aload_n 0, 1) := by decide +kernel
theorem dX3_fits_6 : decode cX3_fits 6 = .ok (.iload_n 1, 1) := by decide +kernel
theorem dX3_fits_7 : decode cX3_fits 7 = .ok (.invokevirtual 130, 3) := by decide +kernel
theorem dX3_fits_10 : decode cX3_fits 10 = .ok (.ifCond .eq 23, 3) := by decide +kernel
theorem dX3_fits_13 : decode cX3_fits 13 = .ok (.aload_n 0, 1) := by decide +kernel
theorem dX3_fits_14 : decode cX3_fits 14 = .ok (.iload_n 1, 1) := by decide +kernel
theorem dX3_fits_15 : decode cX3_fits 15 = .ok (.invokevirtual 166, 3) := by decide +kernel
theorem dX3_fits_18 : decode cX3_fits 18 = .ok (.aload_n 0, 1) := by decide +kernel
theorem dX3_fits_19 : decode cX3_fits 19 = .ok (.iconst 2, 1) := by decide +kernel
theorem dX3_fits_20 : decode cX3_fits 20 = .ok (.invokevirtual 157, 3) := by decide +kernel
theorem dX3_fits_23 : decode cX3_fits 23 = .ok (.aload_n 0, 1) := by decide +kernel
theorem dX3_fits_24 : decode cX3_fits 24 = .ok (.iload_n 1, 1) := by decide +kernel
theorem dX3_fits_25 : decode cX3_fits 25 = .ok (.invokevirtual 54, 3) := by decide +kernel
theorem dX3_fits_28 : decode cX3_fits 28 = .ok (.imul, 1) := by decide +kernel
theorem dX3_fits_29 : decode cX3_fits 29 = .ok (.iadd, 1) := by decide +kernel
theorem dX3_fits_30 : decode cX3_fits 30 = .ok (.goto 8, 3) := by decide +kernel
theorem dX3_fits_33 : decode cX3_fits 33 = .ok (.aload_n 0, 1) := by decide +kernel
theorem dX3_fits_34 : decode cX3_fits 34 = .ok (.iconst 1, 1) := by decide +kernel
theorem dX3_fits_35 : decode cX3_fits 35 = .ok (.invokevirtual 127, 3) := by decide +kernel
theorem dX3_fits_38 : decode cX3_fits 38 = .ok (.ireturn, 1) := by decide +kernel
theorem dX3_wouldCome_0 : decode cX3_wouldCome 0 = .ok (.iconst 0, 1) := by decide +kernel
theorem dX3_wouldCome_1 : decode cX3_wouldCome 1 = .ok (.iload_n 2, 1) := by decide +kernel
theorem dX3_wouldCome_2 : decode cX3_wouldCome 2 = .ok (.aload_n 0, 1) := by decide +kernel
theorem dX3_wouldCome_3 : decode cX3_wouldCome 3 = .ok (.iload_n 1, 1) := by decide +kernel
theorem dX3_wouldCome_4 : decode cX3_wouldCome 4 = .ok (.invokevirtual 166, 3) := by decide +kernel
theorem dX3_wouldCome_7 : decode cX3_wouldCome 7 = .ok (.isub, 1) := by decide +kernel
theorem dX3_wouldCome_8 : decode cX3_wouldCome 8 = .ok (.invokestatic 169, 3) := by decide +kernel
theorem dX3_wouldCome_11 : decode cX3_wouldCome 11 = .ok (.istore_n 3, 1) := by decide +kernel
theorem dX3_wouldCome_12 : decode cX3_wouldCome 12 = .ok (.iload_n 3, 1) := by decide +kernel
theorem dX3_wouldCome_13 : decode cX3_wouldCome 13 = .ok (.aload_n 0, 1) := by decide +kernel
theorem dX3_wouldCome_14 : decode cX3_wouldCome 14 = .ok (.iload_n 1, 1) := by decide +kernel
theorem dX3_wouldCome_15 : decode cX3_wouldCome 15 = .ok (.invokevirtual 54, 3) := by decide +kernel
theorem dX3_wouldCome_18 : decode cX3_wouldCome 18 = .ok (.iadd, 1) := by decide +kernel
theorem dX3_wouldCome_19 : decode cX3_wouldCome 19 = .ok (.iconst 1, 1) := by decide +kernel
