theorem dX0_init_0 : decode cX0_init 0 = .ok (.aload_n 0, 1) := by decide +kernel
theorem dX0_init_1 : decode cX0_init 1 = .ok (.invokespecial 3, 3) := by decide +kernel
theorem dX0_init_4 : decode cX0_init 4 = .ok (.aload_n 0, 1) := by decide +kernel
theorem dX0_init_5 : decode cX0_init 5 = .ok (.iconst 0, 1) := by decide +kernel
theorem dX0_init_6 : decode cX0_init 6 = .ok (.putfield 9, 3) := by decide +kernel
theorem dX0_init_9 : decode cX0_init 9 = .ok (.aload_n 0, 1) := by decide +kernel
theorem dX0_init_10 : decode cX0_init 10 = .ok (.iconst 0, 1) := by decide +kernel
theorem dX0_init_11 : decode cX0_init 11 = .ok (.putfield 15, 3) := by decide +kernel
theorem dX0_init_14 : decode cX0_init 14 = .ok (.aload_n 0, 1) := by decide +kernel
theorem dX0_init_15 : decode cX0_init 15 = .ok (.iload_n 1, 1) := by decide +kernel
theorem dX0_init_16 : decode cX0_init 16 = .ok (.putfield 18, 3) := by decide +kernel
theorem dX0_init_19 : decode cX0_init 19 = .ok (.aload_n 0, 1) := by decide +kernel
theorem dX0_init_20 : decode cX0_init 20 = .ok (.iload_n 2, 1) := by decide +kernel
theorem dX0_init_21 : decode cX0_init 21 = .ok (.putfield 21, 3) := by decide +kernel
theorem dX0_init_24 : decode cX0_init 24 = .ok (.aload_n 0, 1) := by decide +kernel
theorem dX0_init_25 : decode cX0_init 25 = .ok (.iload_n 2, 1) := by decide +kernel
theorem dX0_init_26 : decode cX0_init 26 = .ok (.iconst 1, 1) := by decide +kernel
theorem dX0_init_27 : decode cX0_init 27 = .ok (.if_icmp .ge 7, 3) := by decide +kernel
theorem dX0_init_30 : decode cX0_init 30 = .ok (.iconst 0, 1) := by decide +kernel
theorem dX0_init_31 : decode cX0_init 31 = .ok (.goto 7, 3) := by decide +kernel
theorem dX0_init_34 : decode cX0_init 34 = .ok (.bipush 24, 2) := by decide +kernel
theorem dX0_init_36 : decode cX0_init 36 = .ok (.iload_n 2, 1) := by decide +kernel
theorem dX0_init_37 : decode cX0_init 37 = .ok (.idiv, 1) := by decide +kernel
theorem dX0_init_38 : decode cX0_init 38 = .ok (.putfield 24, 3) := by decide +kernel
theorem dX0_init_41 : decode cX0_init 41 = .ok (.aload_n 0, 1) := by decide +kernel
theorem dX0_init_42 : decode cX0_init 42 = .ok (.bipush 24, 2) := by decide +kernel
theorem dX0_init_44 : decode cX0_init 44 = .ok (.aload_n 0, 1) := by decide +kernel
theorem dX0_init_45 : decode cX0_init 45 = .ok (.getfield 24, 3) := by decide +kernel
theorem dX0_init_48 : decode cX0_init 48 = .ok (.iload_n 2, 1) := by decide +kernel
theorem dX0_init_49 : decode cX0_init 49 = .ok (.imul, 1) := by decide +kernel
theorem dX0_init_50 : decode cX0_init 50 = .ok (.isub, 1) := by decide +kernel
theorem dX0_init_51 : decode cX0_init 51 = .ok (.putfield 27, 3) := by decide +kernel
theorem dX0_init_54 : decode cX0_init 54 = .ok (.return_, 1) := by decide +kernel
theorem dX0_countShelf_0 : decode cX0_countShelf 0 = .ok (.aload_n 0, 1) := by decide +kernel
theorem dX0_countShelf_1 : decode cX0_countShelf 1 = .ok (.dup, 1) := by decide +kernel
theorem dX0_countShelf_2 : decode cX0_countShelf 2 = .ok (.getfield 9, 3) := by decide +kernel
theorem dX0_countShelf_5 : decode cX0_countShelf 5 = .ok (.iconst 1, 1) := by decide +kernel
theorem dX0_countShelf_6 : decode cX0_countShelf 6 = .ok (.iadd, 1) := by decide +kernel
theorem dX0_countShelf_7 : decode cX0_countShelf 7 = .ok (.putfield 9, 3) := by decide +kernel
theorem dX0_countShelf_10 : decode cX0_countShelf 10 = .ok (.aload_n 0, 1) := by decide +kernel
theorem dX0_countShelf_11 : decode cX0_countShelf 11 = .ok (.aload_n 0, 1) := by decide +kernel
theorem dX0_countShelf_12 : decode cX0_countShelf 12 = .ok (.getfield 15, 3) := by decide +kernel
theorem dX0_countShelf_15 : decode cX0_countShelf 15 = .ok (.aload_n 0, 1) := by decide +kernel
theorem dX0_countShelf_16 : decode cX0_countShelf 16 = .ok (.getfield 27, 3) := by decide +kernel
theorem dX0_countShelf_19 : decode cX0_countShelf 19 = .ok (.if_icmp .ge 12, 3) := by decide +kernel
theorem dX0_countShelf_22 : decode cX0_countShelf 22 = .ok (.aload_n 0, 1) := by decide +kernel
theorem dX0_countShelf_23 : decode cX0_countShelf 23 = .ok (.getfield 15, 3) := by decide +kernel
theorem dX0_countShelf_26 : decode cX0_countShelf 26 = .ok (.iconst 1, 1) := by decide +kernel
theorem dX0_countShelf_27 : decode cX0_countShelf 27 = .ok (.iadd, 1) := by decide +kernel
theorem dX0_countShelf_28 : decode cX0_countShelf 28 = .ok (.goto 4, 3) := by decide +kernel
theorem dX0_countShelf_31 : decode cX0_countShelf 31 = .ok (.iconst 0, 1) := by decide +kernel
theorem dX0_countShelf_32 : decode cX0_countShelf 32 = .ok (.putfield 15, 3) := by decide +kernel
theorem dX0_countShelf_35 : decode cX0_countShelf 35 = .ok (.return_, 1) := by decide +kernel
theorem dX0_shelvesFor_0 : decode cX0_shelvesFor 0 = .ok (.aload_n 0, 1) := by decide +kernel
theorem dX0_shelvesFor_1 : decode cX0_shelvesFor 1 = .ok (.getfield 24, 3) := by decide +kernel
theorem dX0_shelvesFor_4 : decode cX0_shelvesFor 4 = .ok (.iconst 1, 1) := by decide +kernel
theorem dX0_shelvesFor_5 : decode cX0_shelvesFor 5 = .ok (.if_icmp .ge 7, 3) := by decide +kernel
theorem dX0_shelvesFor_8 : decode cX0_shelvesFor 8 = .ok (.iconst 0, 1) := by decide +kernel
theorem dX0_shelvesFor_9 : decode cX0_shelvesFor 9 = .ok (.goto 16, 3) := by decide +kernel
theorem dX0_shelvesFor_12 : decode cX0_shelvesFor 12 = .ok (.iload_n 1, 1) := by decide +kernel
theorem dX0_shelvesFor_13 : decode cX0_shelvesFor 13 = .ok (.aload_n 0, 1) := by decide +kernel
theorem dX0_shelvesFor_14 : decode cX0_shelvesFor 14 = .ok (.getfield 24, 3) := by decide +kernel
theorem dX0_shelvesFor_17 : decode cX0_shelvesFor 17 = .ok (.iadd, 1) := by decide +kernel
theorem dX0_shelvesFor_18 : decode cX0_shelvesFor 18 = .ok (.iconst 1, 1) := by decide +kernel
theorem dX0_shelvesFor_19 : decode cX0_shelvesFor 19 = .ok (.isub, 1) := by decide +kernel
theorem dX0_shelvesFor_20 : decode cX0_shelvesFor 20 = .ok (.aload_n 0, 1) := by decide +kernel
theorem dX0_shelvesFor_21 : decode cX0_shelvesFor 21 = .ok (.getfield 24, 3) := by decide +kernel
theorem dX0_shelvesFor_24 : decode cX0_shelvesFor 24 = .ok (.idiv, 1) := by decide +kernel
theorem dX0_shelvesFor_25 : decode cX0_shelvesFor 25 = .ok (.ireturn, 1) := by decide +kernel
theorem dX1_init_0 : decode cX1_init 0 = .ok (.aload_n 0, 1) := by decide +kernel
theorem dX1_init_1 : decode cX1_init 1 = .ok (.invokespecial 3, 3) := by decide +kernel
theorem dX1_init_4 : decode cX1_init 4 = .ok (.aload_n 0, 1) := by decide +kernel
theorem dX1_init_5 : decode cX1_init 5 = .ok (.bipush 12, 2) := by decide +kernel
theorem dX1_init_7 : decode cX1_init 7 = .ok (.newarray .boolean, 2) := by decide +kernel
theorem dX1_init_9 : decode cX1_init 9 = .ok (.putfield 9, 3) := by decide +kernel
theorem dX1_init_12 : decode cX1_init 12 = .ok (.aload_n 0, 1) := by decide +kernel
theorem dX1_init_13 : decode cX1_init 13 = .ok (.iconst (-1), 1) := by decide +kernel
theorem dX1_init_14 : decode cX1_init 14 = .ok (.putfield 15, 3) := by decide +kernel
theorem dX1_init_17 : decode cX1_init 17 = .ok (.aload_n 0, 1) := by decide +kernel
theorem dX1_init_18 : decode cX1_init 18 = .ok (.iconst 0, 1) := by decide +kernel
theorem dX1_init_19 : decode cX1_init 19 = .ok (.putfield 19, 3) := by decide +kernel
theorem dX1_init_22 : decode cX1_init 22 = .ok (.aload_n 0, 1) := by decide +kernel
theorem dX1_init_23 : decode cX1_init 23 = .ok (.iconst 0, 1) := by decide +kernel
theorem dX1_init_24 : decode cX1_init 24 = .ok (.putfield 22, 3) := by decide +kernel
theorem dX1_init_27 : decode cX1_init 27 = .ok (.aload_n 0, 1) := by decide +kernel
theorem dX1_init_28 : decode cX1_init 28 = .ok (.iconst 0, 1) := by decide +kernel
theorem dX1_init_29 : decode cX1_init 29 = .ok (.putfield 25, 3) := by decide +kernel
theorem dX1_init_32 : decode cX1_init 32 = .ok (.aload_n 0, 1) := by decide +kernel
theorem dX1_init_33 : decode cX1_init 33 = .ok (.iconst 0, 1) := by decide +kernel
theorem dX1_init_34 : decode cX1_init 34 = .ok (.putfield 28, 3) := by decide +kernel
theorem dX1_init_37 : decode cX1_init 37 = .ok (.aload_n 0, 1) := by decide +kernel
theorem dX1_init_38 : decode cX1_init 38 = .ok (.iconst (-1), 1) := by decide +kernel
theorem dX1_init_39 : decode cX1_init 39 = .ok (.putfield 31, 3) := by decide +kernel
theorem dX1_init_42 : decode cX1_init 42 = .ok (.aload_n 0, 1) := by decide +kernel
theorem dX1_init_43 : decode cX1_init 43 = .ok (.iload_n 1, 1) := by decide +kernel
theorem dX1_init_44 : decode cX1_init 44 = .ok (.putfield 34, 3) := by decide +kernel
theorem dX1_init_47 : decode cX1_init 47 = .ok (.return_, 1) := by decide +kernel
theorem dX1_answer_0 : decode cX1_answer 0 = .ok (.iload_n 1, 1) := by decide +kernel
theorem dX1_answer_1 : decode cX1_answer 1 = .ok (.tableswitch 60 0 4 #[35, 40, 45, 50, 55], 35) := by decide +kernel
theorem dX1_answer_36 : decode cX1_answer 36 = .ok (.aload_n 0, 1) := by decide +kernel
theorem dX1_answer_37 : decode cX1_answer 37 = .ok (.getfield 15, 3) := by decide +kernel
theorem dX1_answer_40 : decode cX1_answer 40 = .ok (.ireturn, 1) := by decide +kernel
theorem dX1_answer_41 : decode cX1_answer 41 = .ok (.aload_n 0, 1) := by decide +kernel
theorem dX1_answer_42 : decode cX1_answer 42 = .ok (.getfield 28, 3) := by decide +kernel
theorem dX1_answer_45 : decode cX1_answer 45 = .ok (.ireturn, 1) := by decide +kernel
theorem dX1_answer_46 : decode cX1_answer 46 = .ok (.aload_n 0, 1) := by decide +kernel
theorem dX1_answer_47 : decode cX1_answer 47 = .ok (.getfield 25, 3) := by decide +kernel
theorem dX1_answer_50 : decode cX1_answer 50 = .ok (.ireturn, 1) := by decide +kernel
theorem dX1_answer_51 : decode cX1_answer 51 = .ok (.aload_n 0, 1) := by decide +kernel
theorem dX1_answer_52 : decode cX1_answer 52 = .ok (.getfield 22, 3) := by decide +kernel
theorem dX1_answer_55 : decode cX1_answer 55 = .ok (.ireturn, 1) := by decide +kernel
theorem dX1_answer_56 : decode cX1_answer 56 = .ok (.aload_n 0, 1) := by decide +kernel
theorem dX1_answer_57 : decode cX1_answer 57 = .ok (.invokevirtual 37, 3) := by decide +kernel
theorem dX1_answer_60 : decode cX1_answer 60 = .ok (.ireturn, 1) := by decide +kernel
theorem dX1_answer_61 : decode cX1_answer 61 = .ok (.aload_n 0, 1) := by decide +kernel
theorem dX1_answer_62 : decode cX1_answer 62 = .ok (.getfield 31, 3) := by decide +kernel
theorem dX1_answer_65 : decode cX1_answer 65 = .ok (.ireturn, 1) := by decide +kernel
theorem dX1_state_0 : decode cX1_state 0 = .ok (.aload_n 0, 1) := by decide +kernel
theorem dX1_state_1 : decode cX1_state 1 = .ok (.getfield 15, 3) := by decide +kernel
theorem dX1_state_4 : decode cX1_state 4 = .ok (.iconst (-1), 1) := by decide +kernel
theorem dX1_state_5 : decode cX1_state 5 = .ok (.if_icmp .ne 5, 3) := by decide +kernel
theorem dX1_state_8 : decode cX1_state 8 = .ok (.iconst 0, 1) := by decide +kernel
theorem dX1_state_9 : decode cX1_state 9 = .ok (.ireturn, 1) := by decide +kernel
theorem dX1_state_10 : decode cX1_state 10 = .ok (.aload_n 0, 1) := by decide +kernel
theorem dX1_state_11 : decode cX1_state 11 = .ok (.getfield 28, 3) := by decide +kernel
theorem dX1_state_14 : decode cX1_state 14 = .ok (.ifCond .ne 5, 3) := by decide +kernel
theorem dX1_state_17 : decode cX1_state 17 = .ok (.iconst 1, 1) := by decide +kernel
theorem dX1_state_18 : decode cX1_state 18 = .ok (.ireturn, 1) := by decide +kernel
theorem dX1_state_19 : decode cX1_state 19 = .ok (.aload_n 0, 1) := by decide +kernel
theorem dX1_state_20 : decode cX1_state 20 = .ok (.getfield 28, 3) := by decide +kernel
theorem dX1_state_23 : decode cX1_state 23 = .ok (.aload_n 0, 1) := by decide +kernel
theorem dX1_state_24 : decode cX1_state 24 = .ok (.getfield 22, 3) := by decide +kernel
theorem dX1_state_27 : decode cX1_state 27 = .ok (.if_icmp .ge 7, 3) := by decide +kernel
theorem dX1_state_30 : decode cX1_state 30 = .ok (.iconst 2, 1) := by decide +kernel
theorem dX1_state_31 : decode cX1_state 31 = .ok (.goto 4, 3) := by decide +kernel
theorem dX1_state_34 : decode cX1_state 34 = .ok (.iconst 3, 1) := by decide +kernel
theorem dX1_state_35 : decode cX1_state 35 = .ok (.ireturn, 1) := by decide +kernel
theorem dX1_isOf_0 : decode cX1_isOf 0 = .ok (.aload_n 0, 1) := by decide +kernel
theorem dX1_isOf_1 : decode cX1_isOf 1 = .ok (.getfield 15, 3) := by decide +kernel
theorem dX1_isOf_4 : decode cX1_isOf 4 = .ok (.aload_n 1, 1) := by decide +kernel
theorem dX1_isOf_5 : decode cX1_isOf 5 = .ok (.getfield 41, 3) := by decide +kernel
theorem dX1_isOf_8 : decode cX1_isOf 8 = .ok (.if_icmp .ne 7, 3) := by decide +kernel
theorem dX1_isOf_11 : decode cX1_isOf 11 = .ok (.iconst 1, 1) := by decide +kernel
theorem dX1_isOf_12 : decode cX1_isOf 12 = .ok (.goto 4, 3) := by decide +kernel
theorem dX1_isOf_15 : decode cX1_isOf 15 = .ok (.iconst 0, 1) := by decide +kernel
theorem dX1_isOf_16 : decode cX1_isOf 16 = .ok (.ireturn, 1) := by decide +kernel
theorem dX1_comeTo_0 : decode cX1_comeTo 0 = .ok (.aload_n 0, 1) := by decide +kernel
theorem dX1_comeTo_1 : decode cX1_comeTo 1 = .ok (.aload_n 1, 1) := by decide +kernel
theorem dX1_comeTo_2 : decode cX1_comeTo 2 = .ok (.getfield 41, 3) := by decide +kernel
theorem dX1_comeTo_5 : decode cX1_comeTo 5 = .ok (.putfield 15, 3) := by decide +kernel
theorem dX1_comeTo_8 : decode cX1_comeTo 8 = .ok (.aload_n 0, 1) := by decide +kernel
theorem dX1_comeTo_9 : decode cX1_comeTo 9 = .ok (.aload_n 1, 1) := by decide +kernel
theorem dX1_comeTo_10 : decode cX1_comeTo 10 = .ok (.getfield 46, 3) := by decide +kernel
theorem dX1_comeTo_13 : decode cX1_comeTo 13 = .ok (.putfield 19, 3) := by decide +kernel
theorem dX1_comeTo_16 : decode cX1_comeTo 16 = .ok (.aload_n 0, 1) := by decide +kernel
theorem dX1_comeTo_17 : decode cX1_comeTo 17 = .ok (.aload_n 1, 1) := by decide +kernel
theorem dX1_comeTo_18 : decode cX1_comeTo 18 = .ok (.getfield 47, 3) := by decide +kernel
theorem dX1_comeTo_21 : decode cX1_comeTo 21 = .ok (.putfield 22, 3) := by decide +kernel
theorem dX1_comeTo_24 : decode cX1_comeTo 24 = .ok (.aload_n 0, 1) := by decide +kernel
theorem dX1_comeTo_25 : decode cX1_comeTo 25 = .ok (.aload_n 1, 1) := by decide +kernel
theorem dX1_comeTo_26 : decode cX1_comeTo 26 = .ok (.getfield 48, 3) := by decide +kernel
theorem dX1_comeTo_29 : decode cX1_comeTo 29 = .ok (.putfield 25, 3) := by decide +kernel
theorem dX1_comeTo_32 : decode cX1_comeTo 32 = .ok (.aload_n 1, 1) := by decide +kernel
theorem dX1_comeTo_33 : decode cX1_comeTo 33 = .ok (.invokevirtual 51, 3) := by decide +kernel
theorem dX1_comeTo_36 : decode cX1_comeTo 36 = .ok (.return_, 1) := by decide +kernel
theorem dX1_becomeFree_0 : decode cX1_becomeFree 0 = .ok (.aload_n 0, 1) := by decide +kernel
theorem dX1_becomeFree_1 : decode cX1_becomeFree 1 = .ok (.iconst (-1), 1) := by decide +kernel
theorem dX1_becomeFree_2 : decode cX1_becomeFree 2 = .ok (.putfield 15, 3) := by decide +kernel
theorem dX1_becomeFree_5 : decode cX1_becomeFree 5 = .ok (.aload_n 0, 1) := by decide +kernel
theorem dX1_becomeFree_6 : decode cX1_becomeFree 6 = .ok (.iconst 0, 1) := by decide +kernel
theorem dX1_becomeFree_7 : decode cX1_becomeFree 7 = .ok (.putfield 19, 3) := by decide +kernel
theorem dX1_becomeFree_10 : decode cX1_becomeFree 10 = .ok (.aload_n 0, 1) := by decide +kernel
theorem dX1_becomeFree_11 : decode cX1_becomeFree 11 = .ok (.iconst 0, 1) := by decide +kernel
theorem dX1_becomeFree_12 : decode cX1_becomeFree 12 = .ok (.putfield 22, 3) := by decide +kernel
theorem dX1_becomeFree_15 : decode cX1_becomeFree 15 = .ok (.aload_n 0, 1) := by decide +kernel
theorem dX1_becomeFree_16 : decode cX1_becomeFree 16 = .ok (.iconst 0, 1) := by decide +kernel
theorem dX1_becomeFree_17 : decode cX1_becomeFree 17 = .ok (.putfield 25, 3) := by decide +kernel
theorem dX1_becomeFree_20 : decode cX1_becomeFree 20 = .ok (.aload_n 0, 1) := by decide +kernel
theorem dX1_becomeFree_21 : decode cX1_becomeFree 21 = .ok (.iconst (-1), 1) := by decide +kernel
theorem dX1_becomeFree_22 : decode cX1_becomeFree 22 = .ok (.putfield 31, 3) := by decide +kernel
theorem dX1_becomeFree_25 : decode cX1_becomeFree 25 = .ok (.return_, 1) := by decide +kernel
theorem dX1_standsOn_0 : decode cX1_standsOn 0 = .ok (.iload_n 1, 1) := by decide +kernel
theorem dX1_standsOn_1 : decode cX1_standsOn 1 = .ok (.ifCond .lt 25, 3) := by decide +kernel
theorem dX1_standsOn_4 : decode cX1_standsOn 4 = .ok (.iload_n 1, 1) := by decide +kernel
theorem dX1_standsOn_5 : decode cX1_standsOn 5 = .ok (.aload_n 0, 1) := by decide +kernel
theorem dX1_standsOn_6 : decode cX1_standsOn 6 = .ok (.getfield 9, 3) := by decide +kernel
theorem dX1_standsOn_9 : decode cX1_standsOn 9 = .ok (.arraylength, 1) := by decide +kernel
theorem dX1_standsOn_10 : decode cX1_standsOn 10 = .ok (.if_icmp .ge 16, 3) := by decide +kernel
theorem dX1_standsOn_13 : decode cX1_standsOn 13 = .ok (.aload_n 0, 1) := by decide +kernel
theorem dX1_standsOn_14 : decode cX1_standsOn 14 = .ok (.getfield 9, 3) := by decide +kernel
theorem dX1_standsOn_17 : decode cX1_standsOn 17 = .ok (.iload_n 1, 1) := by decide +kernel
theorem dX1_standsOn_18 : decode cX1_standsOn 18 = .ok (.baload, 1) := by decide +kernel
theorem dX1_standsOn_19 : decode cX1_standsOn 19 = .ok (.ifCond .eq 7, 3) := by decide +kernel
theorem dX1_standsOn_22 : decode cX1_standsOn 22 = .ok (.iconst 1, 1) := by decide +kernel
theorem dX1_standsOn_23 : decode cX1_standsOn 23 = .ok (.goto 4, 3) := by decide +kernel
theorem dX1_standsOn_26 : decode cX1_standsOn 26 = .ok (.iconst 0, 1) := by decide +kernel
theorem dX1_standsOn_27 : decode cX1_standsOn 27 = .ok (.ireturn, 1) := by decide +kernel
theorem dX1_addBowl_0 : decode cX1_addBowl 0 = .ok (.iload_n 1, 1) := by decide +kernel
theorem dX1_addBowl_1 : decode cX1_addBowl 1 = .ok (.ifCond .lt 34, 3) := by decide +kernel
theorem dX1_addBowl_4 : decode cX1_addBowl 4 = .ok (.iload_n 1, 1) := by decide +kernel
theorem dX1_addBowl_5 : decode cX1_addBowl 5 = .ok (.aload_n 0, 1) := by decide +kernel
theorem dX1_addBowl_6 : decode cX1_addBowl 6 = .ok (.getfield 9, 3) := by decide +kernel
theorem dX1_addBowl_9 : decode cX1_addBowl 9 = .ok (.arraylength, 1) := by decide +kernel
theorem dX1_addBowl_10 : decode cX1_addBowl 10 = .ok (.if_icmp .ge 25, 3) := by decide +kernel
theorem dX1_addBowl_13 : decode cX1_addBowl 13 = .ok (.aload_n 0, 1) := by decide +kernel
theorem dX1_addBowl_14 : decode cX1_addBowl 14 = .ok (.getfield 9, 3) := by decide +kernel
theorem dX1_addBowl_17 : decode cX1_addBowl 17 = .ok (.iload_n 1, 1) := by decide +kernel
theorem dX1_addBowl_18 : decode cX1_addBowl 18 = .ok (.iconst 1, 1) := by decide +kernel
theorem dX1_addBowl_19 : decode cX1_addBowl 19 = .ok (.bastore, 1) := by decide +kernel
theorem dX1_addBowl_20 : decode cX1_addBowl 20 = .ok (.aload_n 0, 1) := by decide +kernel
theorem dX1_addBowl_21 : decode cX1_addBowl 21 = .ok (.dup, 1) := by decide +kernel
theorem dX1_addBowl_22 : decode cX1_addBowl 22 = .ok (.getfield 28, 3) := by decide +kernel
theorem dX1_addBowl_25 : decode cX1_addBowl 25 = .ok (.iconst 1, 1) := by decide +kernel
theorem dX1_addBowl_26 : decode cX1_addBowl 26 = .ok (.iadd, 1) := by decide +kernel
theorem dX1_addBowl_27 : decode cX1_addBowl 27 = .ok (.putfield 28, 3) := by decide +kernel
theorem dX1_addBowl_30 : decode cX1_addBowl 30 = .ok (.aload_n 0, 1) := by decide +kernel
theorem dX1_addBowl_31 : decode cX1_addBowl 31 = .ok (.iconst (-1), 1) := by decide +kernel
theorem dX1_addBowl_32 : decode cX1_addBowl 32 = .ok (.putfield 31, 3) := by decide +kernel
theorem dX1_addBowl_35 : decode cX1_addBowl 35 = .ok (.return_, 1) := by decide +kernel
theorem dX1_removeBowl_0 : decode cX1_removeBowl 0 = .ok (.iload_n 1, 1) := by decide +kernel
theorem dX1_removeBowl_1 : decode cX1_removeBowl 1 = .ok (.ifCond .lt 45, 3) := by decide +kernel
theorem dX1_removeBowl_4 : decode cX1_removeBowl 4 = .ok (.iload_n 1, 1) := by decide +kernel
theorem dX1_removeBowl_5 : decode cX1_removeBowl 5 = .ok (.aload_n 0, 1) := by decide +kernel
theorem dX1_removeBowl_6 : decode cX1_removeBowl 6 = .ok (.getfield 9, 3) := by decide +kernel
theorem dX1_removeBowl_9 : decode cX1_removeBowl 9 = .ok (.arraylength, 1) := by decide +kernel
theorem dX1_removeBowl_10 : decode cX1_removeBowl 10 = .ok (.if_icmp .ge 36, 3) := by decide +kernel
theorem dX1_removeBowl_13 : decode cX1_removeBowl 13 = .ok (.aload_n 0, 1) := by decide +kernel
theorem dX1_removeBowl_14 : decode cX1_removeBowl 14 = .ok (.getfield 9, 3) := by decide +kernel
theorem dX1_removeBowl_17 : decode cX1_removeBowl 17 = .ok (.iload_n 1, 1) := by decide +kernel
theorem dX1_removeBowl_18 : decode cX1_removeBowl 18 = .ok (.iconst 0, 1) := by decide +kernel
theorem dX1_removeBowl_19 : decode cX1_removeBowl 19 = .ok (.bastore, 1) := by decide +kernel
theorem dX1_removeBowl_20 : decode cX1_removeBowl 20 = .ok (.aload_n 0, 1) := by decide +kernel
theorem dX1_removeBowl_21 : decode cX1_removeBowl 21 = .ok (.dup, 1) := by decide +kernel
theorem dX1_removeBowl_22 : decode cX1_removeBowl 22 = .ok (.getfield 28, 3) := by decide +kernel
theorem dX1_removeBowl_25 : decode cX1_removeBowl 25 = .ok (.iconst 1, 1) := by decide +kernel
theorem dX1_removeBowl_26 : decode cX1_removeBowl 26 = .ok (.isub, 1) := by decide +kernel
theorem dX1_removeBowl_27 : decode cX1_removeBowl 27 = .ok (.putfield 28, 3) := by decide +kernel
theorem dX1_removeBowl_30 : decode cX1_removeBowl 30 = .ok (.aload_n 0, 1) := by decide +kernel
theorem dX1_removeBowl_31 : decode cX1_removeBowl 31 = .ok (.aload_n 0, 1) := by decide +kernel
theorem dX1_removeBowl_32 : decode cX1_removeBowl 32 = .ok (.getfield 28, 3) := by decide +kernel
theorem dX1_removeBowl_35 : decode cX1_removeBowl 35 = .ok (.ifCond .ne 7, 3) := by decide +kernel
theorem dX1_removeBowl_38 : decode cX1_removeBowl 38 = .ok (.iload_n 2, 1) := by decide +kernel
theorem dX1_removeBowl_39 : decode cX1_removeBowl 39 = .ok (.goto 4, 3) := by decide +kernel
theorem dX1_removeBowl_42 : decode cX1_removeBowl 42 = .ok (.iconst (-1), 1) := by decide +kernel
theorem dX1_removeBowl_43 : decode cX1_removeBowl 43 = .ok (.putfield 31, 3) := by decide +kernel
theorem dX1_removeBowl_46 : decode cX1_removeBowl 46 = .ok (.return_, 1) := by decide +kernel
theorem dX1_firstGap_0 : decode cX1_firstGap 0 = .ok (.iconst 0, 1) := by decide +kernel
theorem dX1_firstGap_1 : decode cX1_firstGap 1 = .ok (.istore_n 1, 1) := by decide +kernel
theorem dX1_firstGap_2 : decode cX1_firstGap 2 = .ok (.iload_n 1, 1) := by decide +kernel
theorem dX1_firstGap_3 : decode cX1_firstGap 3 = .ok (.aload_n 0, 1) := by decide +kernel
theorem dX1_firstGap_4 : decode cX1_firstGap 4 = .ok (.getfield 22, 3) := by decide +kernel
theorem dX1_firstGap_7 : decode cX1_firstGap 7 = .ok (.if_icmp .ge 19, 3) := by decide +kernel
theorem dX1_firstGap_10 : decode cX1_firstGap 10 = .ok (.aload_n 0, 1) := by decide +kernel
theorem dX1_firstGap_11 : decode cX1_firstGap 11 = .ok (.iload_n 1, 1) := by decide +kernel
theorem dX1_firstGap_12 : decode cX1_firstGap 12 = .ok (.invokevirtual 54, 3) := by decide +kernel
theorem dX1_firstGap_15 : decode cX1_firstGap 15 = .ok (.ifCond .ne 5, 3) := by decide +kernel
theorem dX1_firstGap_18 : decode cX1_firstGap 18 = .ok (.iload_n 1, 1) := by decide +kernel
theorem dX1_firstGap_19 : decode cX1_firstGap 19 = .ok (.ireturn, 1) := by decide +kernel
theorem dX1_firstGap_20 : decode cX1_firstGap 20 = .ok (.iinc 1 1, 3) := by decide +kernel
theorem dX1_firstGap_23 : decode cX1_firstGap 23 = .ok (.goto (-21), 3) := by decide +kernel
theorem dX1_firstGap_26 : decode cX1_firstGap 26 = .ok (.iconst (-1), 1) := by decide +kernel
theorem dX1_firstGap_27 : decode cX1_firstGap 27 = .ok (.ireturn, 1) := by decide +kernel
theorem dX1_lastBowl_0 : decode cX1_lastBowl 0 = .ok (.aload_n 0, 1) := by decide +kernel
theorem dX1_lastBowl_1 : decode cX1_lastBowl 1 = .ok (.getfield 22, 3) := by decide +kernel
theorem dX1_lastBowl_4 : decode cX1_lastBowl 4 = .ok (.iconst 1, 1) := by decide +kernel
theorem dX1_lastBowl_5 : decode cX1_lastBowl 5 = .ok (.isub, 1) := by decide +kernel
theorem dX1_lastBowl_6 : decode cX1_lastBowl 6 = .ok (.istore_n 1, 1) := by decide +kernel
theorem dX1_lastBowl_7 : decode cX1_lastBowl 7 = .ok (.iload_n 1, 1) := by decide +kernel
theorem dX1_lastBowl_8 : decode cX1_lastBowl 8 = .ok (.ifCond .lt 19, 3) := by decide +kernel
theorem dX1_lastBowl_11 : decode cX1_lastBowl 11 = .ok (.aload_n 0, 1) := by decide +kernel
theorem dX1_lastBowl_12 : decode cX1_lastBowl 12 = .ok (.iload_n 1, 1) := by decide +kernel
theorem dX1_lastBowl_13 : decode cX1_lastBowl 13 = .ok (.invokevirtual 54, 3) := by decide +kernel
theorem dX1_lastBowl_16 : decode cX1_lastBowl 16 = .ok (.ifCond .eq 5, 3) := by decide +kernel
theorem dX1_lastBowl_19 : decode cX1_lastBowl 19 = .ok (.iload_n 1, 1) := by decide +kernel
theorem dX1_lastBowl_20 : decode cX1_lastBowl 20 = .ok (.ireturn, 1) := by decide +kernel
theorem dX1_lastBowl_21 : decode cX1_lastBowl 21 = .ok (.iinc 1 (-1), 3) := by decide +kernel
theorem dX1_lastBowl_24 : decode cX1_lastBowl 24 = .ok (.goto (-17), 3) := by decide +kernel
theorem dX1_lastBowl_27 : decode cX1_lastBowl 27 = .ok (.iconst (-1), 1) := by decide +kernel
theorem dX1_lastBowl_28 : decode cX1_lastBowl 28 = .ok (.ireturn, 1) := by decide +kernel
theorem dX1_beginOf_0 : decode cX1_beginOf 0 = .ok (.aload_n 0, 1) := by decide +kernel
theorem dX1_beginOf_1 : decode cX1_beginOf 1 = .ok (.getfield 34, 3) := by decide +kernel
theorem dX1_beginOf_4 : decode cX1_beginOf 4 = .ok (.aload_n 0, 1) := by decide +kernel
theorem dX1_beginOf_5 : decode cX1_beginOf 5 = .ok (.getfield 25, 3) := by decide +kernel
theorem dX1_beginOf_8 : decode cX1_beginOf 8 = .ok (.iadd, 1) := by decide +kernel
theorem dX1_beginOf_9 : decode cX1_beginOf 9 = .ok (.iload_n 1, 1) := by decide +kernel
theorem dX1_beginOf_10 : decode cX1_beginOf 10 = .ok (.aload_n 0, 1) := by decide +kernel
theorem dX1_beginOf_11 : decode cX1_beginOf 11 = .ok (.getfield 19, 3) := by decide +kernel
theorem dX1_beginOf_14 : decode cX1_beginOf 14 = .ok (.imul, 1) := by decide +kernel
theorem dX1_beginOf_15 : decode cX1_beginOf 15 = .ok (.iadd, 1) := by decide +kernel
theorem dX1_beginOf_16 : decode cX1_beginOf 16 = .ok (.ireturn, 1) := by decide +kernel
theorem dX1_placeAt_0 : decode cX1_placeAt 0 = .ok (.iload_n 1, 1) := by decide +kernel
theorem dX1_placeAt_1 : decode cX1_placeAt 1 = .ok (.aload_n 0, 1) := by decide +kernel
theorem dX1_placeAt_2 : decode cX1_placeAt 2 = .ok (.getfield 34, 3) := by decide +kernel
theorem dX1_placeAt_5 : decode cX1_placeAt 5 = .ok (.isub, 1) := by decide +kernel
theorem dX1_placeAt_6 : decode cX1_placeAt 6 = .ok (.aload_n 0, 1) := by decide +kernel
theorem dX1_placeAt_7 : decode cX1_placeAt 7 = .ok (.getfield 25, 3) := by decide +kernel
theorem dX1_placeAt_10 : decode cX1_placeAt 10 = .ok (.isub, 1) := by decide +kernel
theorem dX1_placeAt_11 : decode cX1_placeAt 11 = .ok (.istore_n 2, 1) := by decide +kernel
theorem dX1_placeAt_12 : decode cX1_placeAt 12 = .ok (.aload_n 0, 1) := by decide +kernel
theorem dX1_placeAt_13 : decode cX1_placeAt 13 = .ok (.getfield 19, 3) := by decide +kernel
theorem dX1_placeAt_16 : decode cX1_placeAt 16 = .ok (.iconst 1, 1) := by decide +kernel
theorem dX1_placeAt_17 : decode cX1_placeAt 17 = .ok (.if_icmp .lt 20, 3) := by decide +kernel
theorem dX1_placeAt_20 : decode cX1_placeAt 20 = .ok (.iload_n 2, 1) := by decide +kernel
theorem dX1_placeAt_21 : decode cX1_placeAt 21 = .ok (.ifCond .lt 16, 3) := by decide +kernel
theorem dX1_placeAt_24 : decode cX1_placeAt 24 = .ok (.iload_n 2, 1) := by decide +kernel
theorem dX1_placeAt_25 : decode cX1_placeAt 25 = .ok (.aload_n 0, 1) := by decide +kernel
theorem dX1_placeAt_26 : decode cX1_placeAt 26 = .ok (.getfield 22, 3) := by decide +kernel
theorem dX1_placeAt_29 : decode cX1_placeAt 29 = .ok (.aload_n 0, 1) := by decide +kernel
theorem dX1_placeAt_30 : decode cX1_placeAt 30 = .ok (.getfield 19, 3) := by decide +kernel
theorem dX1_placeAt_33 : decode cX1_placeAt 33 = .ok (.imul, 1) := by decide +kernel
theorem dX1_placeAt_34 : decode cX1_placeAt 34 = .ok (.if_icmp .lt 5, 3) := by decide +kernel
theorem dX1_placeAt_37 : decode cX1_placeAt 37 = .ok (.iconst (-1), 1) := by decide +kernel
theorem dX1_placeAt_38 : decode cX1_placeAt 38 = .ok (.ireturn, 1) := by decide +kernel
theorem dX1_placeAt_39 : decode cX1_placeAt 39 = .ok (.iload_n 2, 1) := by decide +kernel
theorem dX1_placeAt_40 : decode cX1_placeAt 40 = .ok (.aload_n 0, 1) := by decide +kernel
theorem dX1_placeAt_41 : decode cX1_placeAt 41 = .ok (.getfield 19, 3) := by decide +kernel
theorem dX1_placeAt_44 : decode cX1_placeAt 44 = .ok (.idiv, 1) := by decide +kernel
theorem dX1_placeAt_45 : decode cX1_placeAt 45 = .ok (.ireturn, 1) := by decide +kernel
theorem dX2_init_0 : decode cX2_init 0 = .ok (.aload_n 0, 1) := by decide +kernel
theorem dX2_init_1 : decode cX2_init 1 = .ok (.invokespecial 3, 3) := by decide +kernel
theorem dX2_init_4 : decode cX2_init 4 = .ok (.aload_n 0, 1) := by decide +kernel
theorem dX2_init_5 : decode cX2_init 5 = .ok (.bipush 12, 2) := by decide +kernel
theorem dX2_init_7 : decode cX2_init 7 = .ok (.anewarray 9, 3) := by decide +kernel
theorem dX2_init_10 : decode cX2_init 10 = .ok (.putfield 11, 3) := by decide +kernel
theorem dX2_init_13 : decode cX2_init 13 = .ok (.aload_n 0, 1) := by decide +kernel
theorem dX2_init_14 : decode cX2_init 14 = .ok (.iconst 5, 1) := by decide +kernel
theorem dX2_init_15 : decode cX2_init 15 = .ok (.anewarray 15, 3) := by decide +kernel
theorem dX2_init_18 : decode cX2_init 18 = .ok (.putfield 17, 3) := by decide +kernel
theorem dX2_init_21 : decode cX2_init 21 = .ok (.aload_n 0, 1) := by decide +kernel
theorem dX2_init_22 : decode cX2_init 22 = .ok (.iconst 0, 1) := by decide +kernel
theorem dX2_init_23 : decode cX2_init 23 = .ok (.putfield 21, 3) := by decide +kernel
theorem dX2_init_26 : decode cX2_init 26 = .ok (.aload_n 0, 1) := by decide +kernel
theorem dX2_init_27 : decode cX2_init 27 = .ok (.iconst 0, 1) := by decide +kernel
theorem dX2_init_28 : decode cX2_init 28 = .ok (.putfield 25, 3) := by decide +kernel
theorem dX2_init_31 : decode cX2_init 31 = .ok (.aload_n 0, 1) := by decide +kernel
theorem dX2_init_32 : decode cX2_init 32 = .ok (.iconst 0, 1) := by decide +kernel
theorem dX2_init_33 : decode cX2_init 33 = .ok (.putfield 28, 3) := by decide +kernel
theorem dX2_init_36 : decode cX2_init 36 = .ok (.aload_n 0, 1) := by decide +kernel
theorem dX2_init_37 : decode cX2_init 37 = .ok (.iconst 0, 1) := by decide +kernel
theorem dX2_init_38 : decode cX2_init 38 = .ok (.putfield 31, 3) := by decide +kernel
theorem dX2_init_41 : decode cX2_init 41 = .ok (.aload_n 0, 1) := by decide +kernel
theorem dX2_init_42 : decode cX2_init 42 = .ok (.iconst 0, 1) := by decide +kernel
theorem dX2_init_43 : decode cX2_init 43 = .ok (.putfield 34, 3) := by decide +kernel
theorem dX2_init_46 : decode cX2_init 46 = .ok (.iconst 0, 1) := by decide +kernel
theorem dX2_init_47 : decode cX2_init 47 = .ok (.istore_n 1, 1) := by decide +kernel
theorem dX2_init_48 : decode cX2_init 48 = .ok (.iload_n 1, 1) := by decide +kernel
theorem dX2_init_49 : decode cX2_init 49 = .ok (.aload_n 0, 1) := by decide +kernel
theorem dX2_init_50 : decode cX2_init 50 = .ok (.getfield 11, 3) := by decide +kernel
theorem dX2_init_53 : decode cX2_init 53 = .ok (.arraylength, 1) := by decide +kernel
theorem dX2_init_54 : decode cX2_init 54 = .ok (.if_icmp .ge 26, 3) := by decide +kernel
theorem dX2_init_57 : decode cX2_init 57 = .ok (.aload_n 0, 1) := by decide +kernel
theorem dX2_init_58 : decode cX2_init 58 = .ok (.getfield 11, 3) := by decide +kernel
theorem dX2_init_61 : decode cX2_init 61 = .ok (.iload_n 1, 1) := by decide +kernel
theorem dX2_init_62 : decode cX2_init 62 = .ok (.new 9, 3) := by decide +kernel
theorem dX2_init_65 : decode cX2_init 65 = .ok (.dup, 1) := by decide +kernel
theorem dX2_init_66 : decode cX2_init 66 = .ok (.iload_n 1, 1) := by decide +kernel
theorem dX2_init_67 : decode cX2_init 67 = .ok (.bipush 24, 2) := by decide +kernel
theorem dX2_init_69 : decode cX2_init 69 = .ok (.imul, 1) := by decide +kernel
theorem dX2_init_70 : decode cX2_init 70 = .ok (.invokespecial 37, 3) := by decide +kernel
theorem dX2_init_73 : decode cX2_init 73 = .ok (.aastore, 1) := by decide +kernel
theorem dX2_init_74 : decode cX2_init 74 = .ok (.iinc 1 1, 3) := by decide +kernel
theorem dX2_init_77 : decode cX2_init 77 = .ok (.goto (-29), 3) := by decide +kernel
theorem dX2_init_80 : decode cX2_init 80 = .ok (.return_, 1) := by decide +kernel
theorem dX2_kind_0 : decode cX2_kind 0 = .ok (.iload_n 1, 1) := by decide +kernel
theorem dX2_kind_1 : decode cX2_kind 1 = .ok (.iconst 2, 1) := by decide +kernel
theorem dX2_kind_2 : decode cX2_kind 2 = .ok (.if_icmp .lt 9, 3) := by decide +kernel
theorem dX2_kind_5 : decode cX2_kind 5 = .ok (.iload_n 1, 1) := by decide +kernel
theorem dX2_kind_6 : decode cX2_kind 6 = .ok (.bipush 12, 2) := by decide +kernel
theorem dX2_kind_8 : decode cX2_kind 8 = .ok (.if_icmp .le 13, 3) := by decide +kernel
theorem dX2_kind_11 : decode cX2_kind 11 = .ok (.new 40, 3) := by decide +kernel
theorem dX2_kind_14 : decode cX2_kind 14 = .ok (.dup, 1) := by decide +kernel
theorem dX2_kind_15 : decode cX2_kind 15 = .ok (.ldc 42, 2) := by decide +kernel
theorem dX2_kind_17 : decode cX2_kind 17 = .ok (.invokespecial 44, 3) := by decide +kernel
theorem dX2_kind_20 : decode cX2_kind 20 = .ok (.athrow, 1) := by decide +kernel
theorem dX2_kind_21 : decode cX2_kind 21 = .ok (.aload_n 0, 1) := by decide +kernel
theorem dX2_kind_22 : decode cX2_kind 22 = .ok (.getfield 21, 3) := by decide +kernel
theorem dX2_kind_25 : decode cX2_kind 25 = .ok (.istore_n 2, 1) := by decide +kernel
theorem dX2_kind_26 : decode cX2_kind 26 = .ok (.iload_n 2, 1) := by decide +kernel
theorem dX2_kind_27 : decode cX2_kind 27 = .ok (.aload_n 0, 1) := by decide +kernel
theorem dX2_kind_28 : decode cX2_kind 28 = .ok (.getfield 17, 3) := by decide +kernel
theorem dX2_kind_31 : decode cX2_kind 31 = .ok (.arraylength, 1) := by decide +kernel
theorem dX2_kind_32 : decode cX2_kind 32 = .ok (.if_icmp .lt 13, 3) := by decide +kernel
theorem dX2_kind_35 : decode cX2_kind 35 = .ok (.new 47, 3) := by decide +kernel
theorem dX2_kind_38 : decode cX2_kind 38 = .ok (.dup, 1) := by decide +kernel
theorem dX2_kind_39 : decode cX2_kind 39 = .ok (.ldc 49, 2) := by decide +kernel
theorem dX2_kind_41 : decode cX2_kind 41 = .ok (.invokespecial 51, 3) := by decide +kernel
theorem dX2_kind_44 : decode cX2_kind 44 = .ok (.athrow, 1) := by decide +kernel
theorem dX2_kind_45 : decode cX2_kind 45 = .ok (.aload_n 0, 1) := by decide +kernel
theorem dX2_kind_46 : decode cX2_kind 46 = .ok (.getfield 17, 3) := by decide +kernel
theorem dX2_kind_49 : decode cX2_kind 49 = .ok (.iload_n 2, 1) := by decide +kernel
theorem dX2_kind_50 : decode cX2_kind 50 = .ok (.new 15, 3) := by decide +kernel
theorem dX2_kind_53 : decode cX2_kind 53 = .ok (.dup, 1) := by decide +kernel
theorem dX2_kind_54 : decode cX2_kind 54 = .ok (.iload_n 2, 1) := by decide +kernel
theorem dX2_kind_55 : decode cX2_kind 55 = .ok (.iload_n 1, 1) := by decide +kernel
theorem dX2_kind_56 : decode cX2_kind 56 = .ok (.invokespecial 52, 3) := by decide +kernel
theorem dX2_kind_59 : decode cX2_kind 59 = .ok (.aastore, 1) := by decide +kernel
theorem dX2_kind_60 : decode cX2_kind 60 = .ok (.aload_n 0, 1) := by decide +kernel
theorem dX2_kind_61 : decode cX2_kind 61 = .ok (.dup, 1) := by decide +kernel
theorem dX2_kind_62 : decode cX2_kind 62 = .ok (.getfield 21, 3) := by decide +kernel
theorem dX2_kind_65 : decode cX2_kind 65 = .ok (.iconst 1, 1) := by decide +kernel
theorem dX2_kind_66 : decode cX2_kind 66 = .ok (.iadd, 1) := by decide +kernel
theorem dX2_kind_67 : decode cX2_kind 67 = .ok (.putfield 21, 3) := by decide +kernel
theorem dX2_kind_70 : decode cX2_kind 70 = .ok (.iload_n 2, 1) := by decide +kernel
theorem dX2_kind_71 : decode cX2_kind 71 = .ok (.ireturn, 1) := by decide +kernel
theorem dX2_setWay_0 : decode cX2_setWay 0 = .ok (.iload_n 1, 1) := by decide +kernel
theorem dX2_setWay_1 : decode cX2_setWay 1 = .ok (.ifCond .lt 8, 3) := by decide +kernel
theorem dX2_setWay_4 : decode cX2_setWay 4 = .ok (.iload_n 1, 1) := by decide +kernel
theorem dX2_setWay_5 : decode cX2_setWay 5 = .ok (.iconst 2, 1) := by decide +kernel
theorem dX2_setWay_6 : decode cX2_setWay 6 = .ok (.if_icmp .le 13, 3) := by decide +kernel
theorem dX2_setWay_9 : decode cX2_setWay 9 = .ok (.new 55, 3) := by decide +kernel
theorem dX2_setWay_12 : decode cX2_setWay 12 = .ok (.dup, 1) := by decide +kernel
theorem dX2_setWay_13 : decode cX2_setWay 13 = .ok (.ldc 57, 2) := by decide +kernel
theorem dX2_setWay_15 : decode cX2_setWay 15 = .ok (.invokespecial 59, 3) := by decide +kernel
theorem dX2_setWay_18 : decode cX2_setWay 18 = .ok (.athrow, 1) := by decide +kernel
theorem dX2_setWay_19 : decode cX2_setWay 19 = .ok (.aload_n 0, 1) := by decide +kernel
theorem dX2_setWay_20 : decode cX2_setWay 20 = .ok (.getfield 25, 3) := by decide +kernel
theorem dX2_setWay_23 : decode cX2_setWay 23 = .ok (.istore_n 2, 1) := by decide +kernel
theorem dX2_setWay_24 : decode cX2_setWay 24 = .ok (.aload_n 0, 1) := by decide +kernel
theorem dX2_setWay_25 : decode cX2_setWay 25 = .ok (.iload_n 1, 1) := by decide +kernel
theorem dX2_setWay_26 : decode cX2_setWay 26 = .ok (.putfield 25, 3) := by decide +kernel
theorem dX2_setWay_29 : decode cX2_setWay 29 = .ok (.iload_n 2, 1) := by decide +kernel
theorem dX2_setWay_30 : decode cX2_setWay 30 = .ok (.ireturn, 1) := by decide +kernel
theorem dX2_put_0 : decode cX2_put 0 = .ok (.aload_n 0, 1) := by decide +kernel
theorem dX2_put_1 : decode cX2_put 1 = .ok (.iload_n 1, 1) := by decide +kernel
theorem dX2_put_2 : decode cX2_put 2 = .ok (.invokevirtual 60, 3) := by decide +kernel
theorem dX2_put_5 : decode cX2_put 5 = .ok (.astore_n 2, 1) := by decide +kernel
theorem dX2_put_6 : decode cX2_put 6 = .ok (.aload_n 0, 1) := by decide +kernel
theorem dX2_put_7 : decode cX2_put 7 = .ok (.aload_n 2, 1) := by decide +kernel
theorem dX2_put_8 : decode cX2_put 8 = .ok (.invokevirtual 64, 3) := by decide +kernel
theorem dX2_put_11 : decode cX2_put 11 = .ok (.astore_n 3, 1) := by decide +kernel
theorem dX2_put_12 : decode cX2_put 12 = .ok (.aload_n 3, 1) := by decide +kernel
theorem dX2_put_13 : decode cX2_put 13 = .ok (.ifnonnull 13, 3) := by decide +kernel
theorem dX2_put_16 : decode cX2_put 16 = .ok (.new 47, 3) := by decide +kernel
theorem dX2_put_19 : decode cX2_put 19 = .ok (.dup, 1) := by decide +kernel
theorem dX2_put_20 : decode cX2_put 20 = .ok (.ldc 68, 2) := by decide +kernel
theorem dX2_put_22 : decode cX2_put 22 = .ok (.invokespecial 51, 3) := by decide +kernel
theorem dX2_put_25 : decode cX2_put 25 = .ok (.athrow, 1) := by decide +kernel
theorem dX2_put_26 : decode cX2_put 26 = .ok (.aload_n 3, 1) := by decide +kernel
theorem dX2_put_27 : decode cX2_put 27 = .ok (.invokevirtual 70, 3) := by decide +kernel
theorem dX2_put_30 : decode cX2_put 30 = .ok (.ifCond .ne 8, 3) := by decide +kernel
theorem dX2_put_33 : decode cX2_put 33 = .ok (.aload_n 3, 1) := by decide +kernel
theorem dX2_put_34 : decode cX2_put 34 = .ok (.aload_n 2, 1) := by decide +kernel
theorem dX2_put_35 : decode cX2_put 35 = .ok (.invokevirtual 74, 3) := by decide +kernel
theorem dX2_put_38 : decode cX2_put 38 = .ok (.aload_n 3, 1) := by decide +kernel
theorem dX2_put_39 : decode cX2_put 39 = .ok (.invokevirtual 78, 3) := by decide +kernel
theorem dX2_put_42 : decode cX2_put 42 = .ok (.istore 4, 2) := by decide +kernel
theorem dX2_put_44 : decode cX2_put 44 = .ok (.aload_n 3, 1) := by decide +kernel
theorem dX2_put_45 : decode cX2_put 45 = .ok (.iload 4, 2) := by decide +kernel
theorem dX2_put_47 : decode cX2_put 47 = .ok (.invokevirtual 81, 3) := by decide +kernel
theorem dX2_put_50 : decode cX2_put 50 = .ok (.aload_n 0, 1) := by decide +kernel
theorem dX2_put_51 : decode cX2_put 51 = .ok (.dup, 1) := by decide +kernel
theorem dX2_put_52 : decode cX2_put 52 = .ok (.getfield 28, 3) := by decide +kernel
theorem dX2_put_55 : decode cX2_put 55 = .ok (.iconst 1, 1) := by decide +kernel
theorem dX2_put_56 : decode cX2_put 56 = .ok (.iadd, 1) := by decide +kernel
theorem dX2_put_57 : decode cX2_put 57 = .ok (.putfield 28, 3) := by decide +kernel
theorem dX2_put_60 : decode cX2_put 60 = .ok (.aload_n 0, 1) := by decide +kernel
theorem dX2_put_61 : decode cX2_put 61 = .ok (.dup, 1) := by decide +kernel
theorem dX2_put_62 : decode cX2_put 62 = .ok (.getfield 31, 3) := by decide +kernel
theorem dX2_put_65 : decode cX2_put 65 = .ok (.iconst 1, 1) := by decide +kernel
theorem dX2_put_66 : decode cX2_put 66 = .ok (.iadd, 1) := by decide +kernel
theorem dX2_put_67 : decode cX2_put 67 = .ok (.putfield 31, 3) := by decide +kernel
theorem dX2_put_70 : decode cX2_put 70 = .ok (.aload_n 3, 1) := by decide +kernel
theorem dX2_put_71 : decode cX2_put 71 = .ok (.iload 4, 2) := by decide +kernel
theorem dX2_put_73 : decode cX2_put 73 = .ok (.invokevirtual 84, 3) := by decide +kernel
theorem dX2_put_76 : decode cX2_put 76 = .ok (.ireturn, 1) := by decide +kernel
theorem dX2_take_0 : decode cX2_take 0 = .ok (.aload_n 0, 1) := by decide +kernel
theorem dX2_take_1 : decode cX2_take 1 = .ok (.iload_n 1, 1) := by decide +kernel
theorem dX2_take_2 : decode cX2_take 2 = .ok (.invokevirtual 88, 3) := by decide +kernel
theorem dX2_take_5 : decode cX2_take 5 = .ok (.astore_n 2, 1) := by decide +kernel
theorem dX2_take_6 : decode cX2_take 6 = .ok (.aload_n 2, 1) := by decide +kernel
theorem dX2_take_7 : decode cX2_take 7 = .ok (.iload_n 1, 1) := by decide +kernel
theorem dX2_take_8 : decode cX2_take 8 = .ok (.invokevirtual 92, 3) := by decide +kernel
theorem dX2_take_11 : decode cX2_take 11 = .ok (.istore_n 3, 1) := by decide +kernel
theorem dX2_take_12 : decode cX2_take 12 = .ok (.aload_n 2, 1) := by decide +kernel
theorem dX2_take_13 : decode cX2_take 13 = .ok (.iload_n 3, 1) := by decide +kernel
theorem dX2_take_14 : decode cX2_take 14 = .ok (.invokevirtual 95, 3) := by decide +kernel
theorem dX2_take_17 : decode cX2_take 17 = .ok (.ifCond .eq 12, 3) := by decide +kernel
theorem dX2_take_20 : decode cX2_take 20 = .ok (.aload_n 2, 1) := by decide +kernel
theorem dX2_take_21 : decode cX2_take 21 = .ok (.iload_n 3, 1) := by decide +kernel
theorem dX2_take_22 : decode cX2_take 22 = .ok (.invokevirtual 84, 3) := by decide +kernel
theorem dX2_take_25 : decode cX2_take 25 = .ok (.iload_n 1, 1) := by decide +kernel
theorem dX2_take_26 : decode cX2_take 26 = .ok (.if_icmp .eq 13, 3) := by decide +kernel
theorem dX2_take_29 : decode cX2_take 29 = .ok (.new 40, 3) := by decide +kernel
theorem dX2_take_32 : decode cX2_take 32 = .ok (.dup, 1) := by decide +kernel
theorem dX2_take_33 : decode cX2_take 33 = .ok (.ldc 99, 2) := by decide +kernel
theorem dX2_take_35 : decode cX2_take 35 = .ok (.invokespecial 44, 3) := by decide +kernel
theorem dX2_take_38 : decode cX2_take 38 = .ok (.athrow, 1) := by decide +kernel
theorem dX2_take_39 : decode cX2_take 39 = .ok (.aload_n 0, 1) := by decide +kernel
theorem dX2_take_40 : decode cX2_take 40 = .ok (.dup, 1) := by decide +kernel
theorem dX2_take_41 : decode cX2_take 41 = .ok (.getfield 28, 3) := by decide +kernel
theorem dX2_take_44 : decode cX2_take 44 = .ok (.iconst 1, 1) := by decide +kernel
theorem dX2_take_45 : decode cX2_take 45 = .ok (.iadd, 1) := by decide +kernel
theorem dX2_take_46 : decode cX2_take 46 = .ok (.putfield 28, 3) := by decide +kernel
theorem dX2_take_49 : decode cX2_take 49 = .ok (.aload_n 2, 1) := by decide +kernel
theorem dX2_take_50 : decode cX2_take 50 = .ok (.iload_n 3, 1) := by decide +kernel
theorem dX2_take_51 : decode cX2_take 51 = .ok (.aload_n 0, 1) := by decide +kernel
theorem dX2_take_52 : decode cX2_take 52 = .ok (.getfield 28, 3) := by decide +kernel
theorem dX2_take_55 : decode cX2_take 55 = .ok (.invokevirtual 101, 3) := by decide +kernel
theorem dX2_take_58 : decode cX2_take 58 = .ok (.aload_n 2, 1) := by decide +kernel
theorem dX2_take_59 : decode cX2_take 59 = .ok (.getfield 104, 3) := by decide +kernel
theorem dX2_take_62 : decode cX2_take 62 = .ok (.ireturn, 1) := by decide +kernel
theorem dX2_reap_0 : decode cX2_reap 0 = .ok (.iload_n 1, 1) := by decide +kernel
theorem dX2_reap_1 : decode cX2_reap 1 = .ok (.ifCond .lt 9, 3) := by decide +kernel
theorem dX2_reap_4 : decode cX2_reap 4 = .ok (.iload_n 1, 1) := by decide +kernel
theorem dX2_reap_5 : decode cX2_reap 5 = .ok (.bipush 99, 2) := by decide +kernel
theorem dX2_reap_7 : decode cX2_reap 7 = .ok (.if_icmp .le 13, 3) := by decide +kernel
theorem dX2_reap_10 : decode cX2_reap 10 = .ok (.new 40, 3) := by decide +kernel
theorem dX2_reap_13 : decode cX2_reap 13 = .ok (.dup, 1) := by decide +kernel
theorem dX2_reap_14 : decode cX2_reap 14 = .ok (.ldc 107, 2) := by decide +kernel
theorem dX2_reap_16 : decode cX2_reap 16 = .ok (.invokespecial 44, 3) := by decide +kernel
theorem dX2_reap_19 : decode cX2_reap 19 = .ok (.athrow, 1) := by decide +kernel
theorem dX2_reap_20 : decode cX2_reap 20 = .ok (.iconst 0, 1) := by decide +kernel
theorem dX2_reap_21 : decode cX2_reap 21 = .ok (.istore_n 2, 1) := by decide +kernel
theorem dX2_reap_22 : decode cX2_reap 22 = .ok (.aload_n 0, 1) := by decide +kernel
theorem dX2_reap_23 : decode cX2_reap 23 = .ok (.getfield 11, 3) := by decide +kernel
theorem dX2_reap_26 : decode cX2_reap 26 = .ok (.astore_n 3, 1) := by decide +kernel
theorem dX2_reap_27 : decode cX2_reap 27 = .ok (.aload_n 3, 1) := by decide +kernel
theorem dX2_reap_28 : decode cX2_reap 28 = .ok (.arraylength, 1) := by decide +kernel
theorem dX2_reap_29 : decode cX2_reap 29 = .ok (.istore 4, 2) := by decide +kernel
theorem dX2_reap_31 : decode cX2_reap 31 = .ok (.iconst 0, 1) := by decide +kernel
theorem dX2_reap_32 : decode cX2_reap 32 = .ok (.istore 5, 2) := by decide +kernel
theorem dX2_reap_34 : decode cX2_reap 34 = .ok (.iload 5, 2) := by decide +kernel
theorem dX2_reap_36 : decode cX2_reap 36 = .ok (.iload 4, 2) := by decide +kernel
theorem dX2_reap_38 : decode cX2_reap 38 = .ok (.if_icmp .ge 46, 3) := by decide +kernel
theorem dX2_reap_41 : decode cX2_reap 41 = .ok (.aload_n 3, 1) := by decide +kernel
theorem dX2_reap_42 : decode cX2_reap 42 = .ok (.iload 5, 2) := by decide +kernel
theorem dX2_reap_44 : decode cX2_reap 44 = .ok (.aaload, 1) := by decide +kernel
theorem dX2_reap_45 : decode cX2_reap 45 = .ok (.astore 6, 2) := by decide +kernel
theorem dX2_reap_47 : decode cX2_reap 47 = .ok (.aload 6, 2) := by decide +kernel
theorem dX2_reap_49 : decode cX2_reap 49 = .ok (.invokevirtual 70, 3) := by decide +kernel
theorem dX2_reap_52 : decode cX2_reap 52 = .ok (.iconst 1, 1) := by decide +kernel
theorem dX2_reap_53 : decode cX2_reap 53 = .ok (.if_icmp .ne 25, 3) := by decide +kernel
theorem dX2_reap_56 : decode cX2_reap 56 = .ok (.aload_n 0, 1) := by decide +kernel
theorem dX2_reap_57 : decode cX2_reap 57 = .ok (.getfield 28, 3) := by decide +kernel
theorem dX2_reap_60 : decode cX2_reap 60 = .ok (.aload 6, 2) := by decide +kernel
theorem dX2_reap_62 : decode cX2_reap 62 = .ok (.getfield 109, 3) := by decide +kernel
theorem dX2_reap_65 : decode cX2_reap 65 = .ok (.isub, 1) := by decide +kernel
theorem dX2_reap_66 : decode cX2_reap 66 = .ok (.iload_n 1, 1) := by decide +kernel
theorem dX2_reap_67 : decode cX2_reap 67 = .ok (.if_icmp .lt 11, 3) := by decide +kernel
theorem dX2_reap_70 : decode cX2_reap 70 = .ok (.aload 6, 2) := by decide +kernel
theorem dX2_reap_72 : decode cX2_reap 72 = .ok (.invokevirtual 112, 3) := by decide +kernel
theorem dX2_reap_75 : decode cX2_reap 75 = .ok (.iinc 2 1, 3) := by decide +kernel
theorem dX2_reap_78 : decode cX2_reap 78 = .ok (.iinc 5 1, 3) := by decide +kernel
theorem dX2_reap_81 : decode cX2_reap 81 = .ok (.goto (-47), 3) := by decide +kernel
theorem dX2_reap_84 : decode cX2_reap 84 = .ok (.iload_n 2, 1) := by decide +kernel
theorem dX2_reap_85 : decode cX2_reap 85 = .ok (.ireturn, 1) := by decide +kernel
theorem dX2_pack_0 : decode cX2_pack 0 = .ok (.aload_n 0, 1) := by decide +kernel
theorem dX2_pack_1 : decode cX2_pack 1 = .ok (.iload_n 1, 1) := by decide +kernel
theorem dX2_pack_2 : decode cX2_pack 2 = .ok (.invokevirtual 60, 3) := by decide +kernel
theorem dX2_pack_5 : decode cX2_pack 5 = .ok (.astore_n 2, 1) := by decide +kernel
theorem dX2_pack_6 : decode cX2_pack 6 = .ok (.iconst 0, 1) := by decide +kernel
theorem dX2_pack_7 : decode cX2_pack 7 = .ok (.istore_n 3, 1) := by decide +kernel
theorem dX2_pack_8 : decode cX2_pack 8 = .ok (.iload_n 3, 1) := by decide +kernel
theorem dX2_pack_9 : decode cX2_pack 9 = .ok (.sipush 1000, 3) := by decide +kernel
theorem dX2_pack_12 : decode cX2_pack 12 = .ok (.if_icmp .ge 17, 3) := by decide +kernel
theorem dX2_pack_15 : decode cX2_pack 15 = .ok (.aload_n 0, 1) := by decide +kernel
theorem dX2_pack_16 : decode cX2_pack 16 = .ok (.aload_n 2, 1) := by decide +kernel
theorem dX2_pack_17 : decode cX2_pack 17 = .ok (.invokevirtual 115, 3) := by decide +kernel
theorem dX2_pack_20 : decode cX2_pack 20 = .ok (.ifCond .eq 9, 3) := by decide +kernel
theorem dX2_pack_23 : decode cX2_pack 23 = .ok (.iinc 3 1, 3) := by decide +kernel
theorem dX2_pack_26 : decode cX2_pack 26 = .ok (.goto (-18), 3) := by decide +kernel
theorem dX2_pack_29 : decode cX2_pack 29 = .ok (.aload_n 0, 1) := by decide +kernel
theorem dX2_pack_30 : decode cX2_pack 30 = .ok (.dup, 1) := by decide +kernel
theorem dX2_pack_31 : decode cX2_pack 31 = .ok (.getfield 34, 3) := by decide +kernel
theorem dX2_pack_34 : decode cX2_pack 34 = .ok (.iload_n 3, 1) := by decide +kernel
theorem dX2_pack_35 : decode cX2_pack 35 = .ok (.iadd, 1) := by decide +kernel
theorem dX2_pack_36 : decode cX2_pack 36 = .ok (.putfield 34, 3) := by decide +kernel
theorem dX2_pack_39 : decode cX2_pack 39 = .ok (.iload_n 3, 1) := by decide +kernel
theorem dX2_pack_40 : decode cX2_pack 40 = .ok (.ireturn, 1) := by decide +kernel
theorem dX2_shelf_0 : decode cX2_shelf 0 = .ok (.iload_n 1, 1) := by decide +kernel
theorem dX2_shelf_1 : decode cX2_shelf 1 = .ok (.ifCond .lt 12, 3) := by decide +kernel
theorem dX2_shelf_4 : decode cX2_shelf 4 = .ok (.iload_n 1, 1) := by decide +kernel
theorem dX2_shelf_5 : decode cX2_shelf 5 = .ok (.aload_n 0, 1) := by decide +kernel
theorem dX2_shelf_6 : decode cX2_shelf 6 = .ok (.getfield 11, 3) := by decide +kernel
theorem dX2_shelf_9 : decode cX2_shelf 9 = .ok (.arraylength, 1) := by decide +kernel
theorem dX2_shelf_10 : decode cX2_shelf 10 = .ok (.if_icmp .lt 13, 3) := by decide +kernel
theorem dX2_shelf_13 : decode cX2_shelf 13 = .ok (.new 55, 3) := by decide +kernel
theorem dX2_shelf_16 : decode cX2_shelf 16 = .ok (.dup, 1) := by decide +kernel
theorem dX2_shelf_17 : decode cX2_shelf 17 = .ok (.ldc 119, 2) := by decide +kernel
theorem dX2_shelf_19 : decode cX2_shelf 19 = .ok (.invokespecial 59, 3) := by decide +kernel
theorem dX2_shelf_22 : decode cX2_shelf 22 = .ok (.athrow, 1) := by decide +kernel
theorem dX2_shelf_23 : decode cX2_shelf 23 = .ok (.iload_n 2, 1) := by decide +kernel
theorem dX2_shelf_24 : decode cX2_shelf 24 = .ok (.bipush 6, 2) := by decide +kernel
theorem dX2_shelf_26 : decode cX2_shelf 26 = .ok (.invokestatic 121, 3) := by decide +kernel
theorem dX2_shelf_29 : decode cX2_shelf 29 = .ok (.aload_n 0, 1) := by decide +kernel
theorem dX2_shelf_30 : decode cX2_shelf 30 = .ok (.getfield 11, 3) := by decide +kernel
theorem dX2_shelf_33 : decode cX2_shelf 33 = .ok (.iload_n 1, 1) := by decide +kernel
theorem dX2_shelf_34 : decode cX2_shelf 34 = .ok (.aaload, 1) := by decide +kernel
theorem dX2_shelf_35 : decode cX2_shelf 35 = .ok (.iload_n 2, 1) := by decide +kernel
theorem dX2_shelf_36 : decode cX2_shelf 36 = .ok (.invokevirtual 124, 3) := by decide +kernel
theorem dX2_shelf_39 : decode cX2_shelf 39 = .ok (.ireturn, 1) := by decide +kernel
theorem dX2_about_0 : decode cX2_about 0 = .ok (.aload_n 0, 1) := by decide +kernel
theorem dX2_about_1 : decode cX2_about 1 = .ok (.iload_n 1, 1) := by decide +kernel
theorem dX2_about_2 : decode cX2_about 2 = .ok (.invokevirtual 60, 3) := by decide +kernel
theorem dX2_about_5 : decode cX2_about 5 = .ok (.astore_n 3, 1) := by decide +kernel
theorem dX2_about_6 : decode cX2_about 6 = .ok (.iload_n 2, 1) := by decide +kernel
theorem dX2_about_7 : decode cX2_about 7 = .ok (.bipush 9, 2) := by decide +kernel
theorem dX2_about_9 : decode cX2_about 9 = .ok (.invokestatic 121, 3) := by decide +kernel
theorem dX2_about_12 : decode cX2_about 12 = .ok (.aload_n 0, 1) := by decide +kernel
theorem dX2_about_13 : decode cX2_about 13 = .ok (.aload_n 3, 1) := by decide +kernel
theorem dX2_about_14 : decode cX2_about 14 = .ok (.iload_n 2, 1) := by decide +kernel
theorem dX2_about_15 : decode cX2_about 15 = .ok (.invokevirtual 127, 3) := by decide +kernel
theorem dX2_about_18 : decode cX2_about 18 = .ok (.ireturn, 1) := by decide +kernel
theorem dX2_place_0 : decode cX2_place 0 = .ok (.aload_n 0, 1) := by decide +kernel
theorem dX2_place_1 : decode cX2_place 1 = .ok (.iload_n 1, 1) := by decide +kernel
theorem dX2_place_2 : decode cX2_place 2 = .ok (.invokevirtual 88, 3) := by decide +kernel
theorem dX2_place_5 : decode cX2_place 5 = .ok (.astore_n 3, 1) := by decide +kernel
theorem dX2_place_6 : decode cX2_place 6 = .ok (.iload_n 2, 1) := by decide +kernel
theorem dX2_place_7 : decode cX2_place 7 = .ok (.iconst 4, 1) := by decide +kernel
theorem dX2_place_8 : decode cX2_place 8 = .ok (.invokestatic 121, 3) := by decide +kernel
theorem dX2_place_11 : decode cX2_place 11 = .ok (.aload_n 3, 1) := by decide +kernel
theorem dX2_place_12 : decode cX2_place 12 = .ok (.iload_n 1, 1) := by decide +kernel
theorem dX2_place_13 : decode cX2_place 13 = .ok (.invokevirtual 92, 3) := by decide +kernel
theorem dX2_place_16 : decode cX2_place 16 = .ok (.istore 4, 2) := by decide +kernel
theorem dX2_place_18 : decode cX2_place 18 = .ok (.iload 4, 2) := by decide +kernel
theorem dX2_place_20 : decode cX2_place 20 = .ok (.iconst (-1), 1) := by decide +kernel
theorem dX2_place_21 : decode cX2_place 21 = .ok (.if_icmp .ne 5, 3) := by decide +kernel
theorem dX2_place_24 : decode cX2_place 24 = .ok (.iconst (-1), 1) := by decide +kernel
theorem dX2_place_25 : decode cX2_place 25 = .ok (.ireturn, 1) := by decide +kernel
theorem dX2_place_26 : decode cX2_place 26 = .ok (.iload_n 2, 1) := by decide +kernel
theorem dX2_place_27 : decode cX2_place 27 = .ok (.tableswitch 48 0 2 #[25, 30, 33], 25) := by decide +kernel
theorem dX2_place_52 : decode cX2_place 52 = .ok (.aload_n 3, 1) := by decide +kernel
theorem dX2_place_53 : decode cX2_place 53 = .ok (.getfield 131, 3) := by decide +kernel
theorem dX2_place_56 : decode cX2_place 56 = .ok (.ireturn, 1) := by decide +kernel
theorem dX2_place_57 : decode cX2_place 57 = .ok (.iload 4, 2) := by decide +kernel
theorem dX2_place_59 : decode cX2_place 59 = .ok (.ireturn, 1) := by decide +kernel
theorem dX2_place_60 : decode cX2_place 60 = .ok (.aload_n 3, 1) := by decide +kernel
theorem dX2_place_61 : decode cX2_place 61 = .ok (.iload 4, 2) := by decide +kernel
theorem dX2_place_63 : decode cX2_place 63 = .ok (.invokevirtual 95, 3) := by decide +kernel
theorem dX2_place_66 : decode cX2_place 66 = .ok (.ifCond .eq 7, 3) := by decide +kernel
theorem dX2_place_69 : decode cX2_place 69 = .ok (.iconst 1, 1) := by decide +kernel
theorem dX2_place_70 : decode cX2_place 70 = .ok (.goto 4, 3) := by decide +kernel
theorem dX2_place_73 : decode cX2_place 73 = .ok (.iconst 0, 1) := by decide +kernel
theorem dX2_place_74 : decode cX2_place 74 = .ok (.ireturn, 1) := by decide +kernel
theorem dX2_place_75 : decode cX2_place 75 = .ok (.aload_n 3, 1) := by decide +kernel
theorem dX2_place_76 : decode cX2_place 76 = .ok (.iload 4, 2) := by decide +kernel
theorem dX2_place_78 : decode cX2_place 78 = .ok (.invokevirtual 84, 3) := by decide +kernel
theorem dX2_place_81 : decode cX2_place 81 = .ok (.ireturn, 1) := by decide +kernel
theorem dX2_count_0 : decode cX2_count 0 = .ok (.iload_n 1, 1) := by decide +kernel
theorem dX2_count_1 : decode cX2_count 1 = .ok (.bipush 10, 2) := by decide +kernel
theorem dX2_count_3 : decode cX2_count 3 = .ok (.invokestatic 121, 3) := by decide +kernel
theorem dX2_count_6 : decode cX2_count 6 = .ok (.iload_n 1, 1) := by decide +kernel
theorem dX2_count_7 : decode cX2_count 7 = .ok (.tableswitch 102 0 8 #[49, 54, 59, 64, 69, 74, 87, 92, 97], 49) := by decide +kernel
theorem dX2_count_56 : decode cX2_count 56 = .ok (.aload_n 0, 1) := by decide +kernel
theorem dX2_count_57 : decode cX2_count 57 = .ok (.getfield 28, 3) := by decide +kernel
theorem dX2_count_60 : decode cX2_count 60 = .ok (.ireturn, 1) := by decide +kernel
theorem dX2_count_61 : decode cX2_count 61 = .ok (.aload_n 0, 1) := by decide +kernel
theorem dX2_count_62 : decode cX2_count 62 = .ok (.getfield 21, 3) := by decide +kernel
theorem dX2_count_65 : decode cX2_count 65 = .ok (.ireturn, 1) := by decide +kernel
theorem dX2_count_66 : decode cX2_count 66 = .ok (.aload_n 0, 1) := by decide +kernel
theorem dX2_count_67 : decode cX2_count 67 = .ok (.invokevirtual 134, 3) := by decide +kernel
theorem dX2_count_70 : decode cX2_count 70 = .ok (.ireturn, 1) := by decide +kernel
theorem dX2_count_71 : decode cX2_count 71 = .ok (.aload_n 0, 1) := by decide +kernel
theorem dX2_count_72 : decode cX2_count 72 = .ok (.invokevirtual 137, 3) := by decide +kernel
theorem dX2_count_75 : decode cX2_count 75 = .ok (.ireturn, 1) := by decide +kernel
theorem dX2_count_76 : decode cX2_count 76 = .ok (.aload_n 0, 1) := by decide +kernel
theorem dX2_count_77 : decode cX2_count 77 = .ok (.invokevirtual 140, 3) := by decide +kernel
theorem dX2_count_80 : decode cX2_count 80 = .ok (.ireturn, 1) := by decide +kernel
theorem dX2_count_81 : decode cX2_count 81 = .ok (.aload_n 0, 1) := by decide +kernel
theorem dX2_count_82 : decode cX2_count 82 = .ok (.invokevirtual 143, 3) := by decide +kernel
theorem dX2_count_85 : decode cX2_count 85 = .ok (.bipush 24, 2) := by decide +kernel
theorem dX2_count_87 : decode cX2_count 87 = .ok (.imul, 1) := by decide +kernel
theorem dX2_count_88 : decode cX2_count 88 = .ok (.aload_n 0, 1) := by decide +kernel
theorem dX2_count_89 : decode cX2_count 89 = .ok (.invokevirtual 140, 3) := by decide +kernel
theorem dX2_count_92 : decode cX2_count 92 = .ok (.isub, 1) := by decide +kernel
theorem dX2_count_93 : decode cX2_count 93 = .ok (.ireturn, 1) := by decide +kernel
theorem dX2_count_94 : decode cX2_count 94 = .ok (.aload_n 0, 1) := by decide +kernel
theorem dX2_count_95 : decode cX2_count 95 = .ok (.invokevirtual 146, 3) := by decide +kernel
theorem dX2_count_98 : decode cX2_count 98 = .ok (.ireturn, 1) := by decide +kernel
theorem dX2_count_99 : decode cX2_count 99 = .ok (.aload_n 0, 1) := by decide +kernel
theorem dX2_count_100 : decode cX2_count 100 = .ok (.getfield 31, 3) := by decide +kernel
theorem dX2_count_103 : decode cX2_count 103 = .ok (.ireturn, 1) := by decide +kernel
theorem dX2_count_104 : decode cX2_count 104 = .ok (.aload_n 0, 1) := by decide +kernel
theorem dX2_count_105 : decode cX2_count 105 = .ok (.getfield 34, 3) := by decide +kernel
theorem dX2_count_108 : decode cX2_count 108 = .ok (.ireturn, 1) := by decide +kernel
theorem dX2_count_109 : decode cX2_count 109 = .ok (.aload_n 0, 1) := by decide +kernel
theorem dX2_count_110 : decode cX2_count 110 = .ok (.getfield 25, 3) := by decide +kernel
theorem dX2_count_113 : decode cX2_count 113 = .ok (.ireturn, 1) := by decide +kernel
theorem dX2_next_0 : decode cX2_next 0 = .ok (.aload_n 0, 1) := by decide +kernel
theorem dX2_next_1 : decode cX2_next 1 = .ok (.aload_n 0, 1) := by decide +kernel
theorem dX2_next_2 : decode cX2_next 2 = .ok (.iload_n 1, 1) := by decide +kernel
theorem dX2_next_3 : decode cX2_next 3 = .ok (.invokevirtual 60, 3) := by decide +kernel
theorem dX2_next_6 : decode cX2_next 6 = .ok (.invokevirtual 149, 3) := by decide +kernel
theorem dX2_next_9 : decode cX2_next 9 = .ok (.ireturn, 1) := by decide +kernel
theorem dX2_fits_0 : decode cX2_fits 0 = .ok (.aload_n 0, 1) := by decide +kernel
theorem dX2_fits_1 : decode cX2_fits 1 = .ok (.iload_n 1, 1) := by decide +kernel
theorem dX2_fits_2 : decode cX2_fits 2 = .ok (.invokevirtual 60, 3) := by decide +kernel
theorem dX2_fits_5 : decode cX2_fits 5 = .ok (.astore_n 2, 1) := by decide +kernel
theorem dX2_fits_6 : decode cX2_fits 6 = .ok (.aload_n 0, 1) := by decide +kernel
theorem dX2_fits_7 : decode cX2_fits 7 = .ok (.aload_n 2, 1) := by decide +kernel
theorem dX2_fits_8 : decode cX2_fits 8 = .ok (.invokevirtual 153, 3) := by decide +kernel
theorem dX2_fits_11 : decode cX2_fits 11 = .ok (.aload_n 0, 1) := by decide +kernel
theorem dX2_fits_12 : decode cX2_fits 12 = .ok (.invokevirtual 134, 3) := by decide +kernel
theorem dX2_fits_15 : decode cX2_fits 15 = .ok (.aload_n 2, 1) := by decide +kernel
theorem dX2_fits_16 : decode cX2_fits 16 = .ok (.getfield 156, 3) := by decide +kernel
theorem dX2_fits_19 : decode cX2_fits 19 = .ok (.imul, 1) := by decide +kernel
theorem dX2_fits_20 : decode cX2_fits 20 = .ok (.iadd, 1) := by decide +kernel
theorem dX2_fits_21 : decode cX2_fits 21 = .ok (.ireturn, 1) := by decide +kernel
theorem dX2_would_0 : decode cX2_would 0 = .ok (.aload_n 0, 1) := by decide +kernel
theorem dX2_would_1 : decode cX2_would 1 = .ok (.iload_n 1, 1) := by decide +kernel
theorem dX2_would_2 : decode cX2_would 2 = .ok (.invokevirtual 60, 3) := by decide +kernel
theorem dX2_would_5 : decode cX2_would 5 = .ok (.astore_n 3, 1) := by decide +kernel
theorem dX2_would_6 : decode cX2_would 6 = .ok (.iload_n 2, 1) := by decide +kernel
theorem dX2_would_7 : decode cX2_would 7 = .ok (.iconst 1, 1) := by decide +kernel
theorem dX2_would_8 : decode cX2_would 8 = .ok (.if_icmp .lt 10, 3) := by decide +kernel
theorem dX2_would_11 : decode cX2_would 11 = .ok (.iload_n 2, 1) := by decide +kernel
theorem dX2_would_12 : decode cX2_would 12 = .ok (.sipush 150, 3) := by decide +kernel
theorem dX2_would_15 : decode cX2_would 15 = .ok (.if_icmp .le 13, 3) := by decide +kernel
theorem dX2_would_18 : decode cX2_would 18 = .ok (.new 40, 3) := by decide +kernel
theorem dX2_would_21 : decode cX2_would 21 = .ok (.dup, 1) := by decide +kernel
theorem dX2_would_22 : decode cX2_would 22 = .ok (.ldc 159, 2) := by decide +kernel
theorem dX2_would_24 : decode cX2_would 24 = .ok (.invokespecial 44, 3) := by decide +kernel
theorem dX2_would_27 : decode cX2_would 27 = .ok (.athrow, 1) := by decide +kernel
theorem dX2_would_28 : decode cX2_would 28 = .ok (.iload_n 2, 1) := by decide +kernel
theorem dX2_would_29 : decode cX2_would 29 = .ok (.aload_n 0, 1) := by decide +kernel
theorem dX2_would_30 : decode cX2_would 30 = .ok (.aload_n 3, 1) := by decide +kernel
theorem dX2_would_31 : decode cX2_would 31 = .ok (.invokevirtual 153, 3) := by decide +kernel
theorem dX2_would_34 : decode cX2_would 34 = .ok (.isub, 1) := by decide +kernel
theorem dX2_would_35 : decode cX2_would 35 = .ok (.istore 4, 2) := by decide +kernel
theorem dX2_would_37 : decode cX2_would 37 = .ok (.iload 4, 2) := by decide +kernel
theorem dX2_would_39 : decode cX2_would 39 = .ok (.ifCond .gt 5, 3) := by decide +kernel
theorem dX2_would_42 : decode cX2_would 42 = .ok (.iconst 0, 1) := by decide +kernel
theorem dX2_would_43 : decode cX2_would 43 = .ok (.ireturn, 1) := by decide +kernel
theorem dX2_would_44 : decode cX2_would 44 = .ok (.aload_n 3, 1) := by decide +kernel
theorem dX2_would_45 : decode cX2_would 45 = .ok (.iload 4, 2) := by decide +kernel
theorem dX2_would_47 : decode cX2_would 47 = .ok (.invokevirtual 161, 3) := by decide +kernel
theorem dX2_would_50 : decode cX2_would 50 = .ok (.istore 5, 2) := by decide +kernel
theorem dX2_would_52 : decode cX2_would 52 = .ok (.iload 5, 2) := by decide +kernel
theorem dX2_would_54 : decode cX2_would 54 = .ok (.aload_n 0, 1) := by decide +kernel
theorem dX2_would_55 : decode cX2_would 55 = .ok (.invokevirtual 134, 3) := by decide +kernel
theorem dX2_would_58 : decode cX2_would 58 = .ok (.if_icmp .le 7, 3) := by decide +kernel
theorem dX2_would_61 : decode cX2_would 61 = .ok (.iconst (-1), 1) := by decide +kernel
theorem dX2_would_62 : decode cX2_would 62 = .ok (.goto 5, 3) := by decide +kernel
theorem dX2_would_65 : decode cX2_would 65 = .ok (.iload 5, 2) := by decide +kernel
theorem dX2_would_67 : decode cX2_would 67 = .ok (.ireturn, 1) := by decide +kernel
theorem dX2_gains_0 : decode cX2_gains 0 = .ok (.aload_n 0, 1) := by decide +kernel
theorem dX2_gains_1 : decode cX2_gains 1 = .ok (.aload_n 0, 1) := by decide +kernel
theorem dX2_gains_2 : decode cX2_gains 2 = .ok (.iload_n 1, 1) := by decide +kernel
theorem dX2_gains_3 : decode cX2_gains 3 = .ok (.invokevirtual 60, 3) := by decide +kernel
theorem dX2_gains_6 : decode cX2_gains 6 = .ok (.invokevirtual 164, 3) := by decide +kernel
theorem dX2_gains_9 : decode cX2_gains 9 = .ok (.ireturn, 1) := by decide +kernel
theorem dX2_advise_0 : decode cX2_advise 0 = .ok (.iconst (-1), 1) := by decide +kernel
theorem dX2_advise_1 : decode cX2_advise 1 = .ok (.istore_n 1, 1) := by decide +kernel
theorem dX2_advise_2 : decode cX2_advise 2 = .ok (.iconst (-1), 1) := by decide +kernel
theorem dX2_advise_3 : decode cX2_advise 3 = .ok (.istore_n 2, 1) := by decide +kernel
theorem dX2_advise_4 : decode cX2_advise 4 = .ok (.aload_n 0, 1) := by decide +kernel
theorem dX2_advise_5 : decode cX2_advise 5 = .ok (.getfield 17, 3) := by decide +kernel
theorem dX2_advise_8 : decode cX2_advise 8 = .ok (.astore_n 3, 1) := by decide +kernel
theorem dX2_advise_9 : decode cX2_advise 9 = .ok (.aload_n 3, 1) := by decide +kernel
theorem dX2_advise_10 : decode cX2_advise 10 = .ok (.arraylength, 1) := by decide +kernel
theorem dX2_advise_11 : decode cX2_advise 11 = .ok (.istore 4, 2) := by decide +kernel
theorem dX2_advise_13 : decode cX2_advise 13 = .ok (.iconst 0, 1) := by decide +kernel
theorem dX2_advise_14 : decode cX2_advise 14 = .ok (.istore 5, 2) := by decide +kernel
theorem dX2_advise_16 : decode cX2_advise 16 = .ok (.iload 5, 2) := by decide +kernel
theorem dX2_advise_18 : decode cX2_advise 18 = .ok (.iload 4, 2) := by decide +kernel
theorem dX2_advise_20 : decode cX2_advise 20 = .ok (.if_icmp .ge 43, 3) := by decide +kernel
theorem dX2_advise_23 : decode cX2_advise 23 = .ok (.aload_n 3, 1) := by decide +kernel
theorem dX2_advise_24 : decode cX2_advise 24 = .ok (.iload 5, 2) := by decide +kernel
theorem dX2_advise_26 : decode cX2_advise 26 = .ok (.aaload, 1) := by decide +kernel
theorem dX2_advise_27 : decode cX2_advise 27 = .ok (.astore 6, 2) := by decide +kernel
theorem dX2_advise_29 : decode cX2_advise 29 = .ok (.aload 6, 2) := by decide +kernel
theorem dX2_advise_31 : decode cX2_advise 31 = .ok (.ifnull 26, 3) := by decide +kernel
theorem dX2_advise_34 : decode cX2_advise 34 = .ok (.aload_n 0, 1) := by decide +kernel
theorem dX2_advise_35 : decode cX2_advise 35 = .ok (.aload 6, 2) := by decide +kernel
theorem dX2_advise_37 : decode cX2_advise 37 = .ok (.invokevirtual 164, 3) := by decide +kernel
theorem dX2_advise_40 : decode cX2_advise 40 = .ok (.iload_n 2, 1) := by decide +kernel
theorem dX2_advise_41 : decode cX2_advise 41 = .ok (.if_icmp .le 16, 3) := by decide +kernel
theorem dX2_advise_44 : decode cX2_advise 44 = .ok (.aload 6, 2) := by decide +kernel
theorem dX2_advise_46 : decode cX2_advise 46 = .ok (.getfield 167, 3) := by decide +kernel
theorem dX2_advise_49 : decode cX2_advise 49 = .ok (.istore_n 1, 1) := by decide +kernel
theorem dX2_advise_50 : decode cX2_advise 50 = .ok (.aload_n 0, 1) := by decide +kernel
theorem dX2_advise_51 : decode cX2_advise 51 = .ok (.aload 6, 2) := by decide +kernel
theorem dX2_advise_53 : decode cX2_advise 53 = .ok (.invokevirtual 164, 3) := by decide +kernel
theorem dX2_advise_56 : decode cX2_advise 56 = .ok (.istore_n 2, 1) := by decide +kernel
theorem dX2_advise_57 : decode cX2_advise 57 = .ok (.iinc 5 1, 3) := by decide +kernel
theorem dX2_advise_60 : decode cX2_advise 60 = .ok (.goto (-44), 3) := by decide +kernel
theorem dX2_advise_63 : decode cX2_advise 63 = .ok (.iload_n 1, 1) := by decide +kernel
theorem dX2_advise_64 : decode cX2_advise 64 = .ok (.ireturn, 1) := by decide +kernel
theorem dX2_mean_0 : decode cX2_mean 0 = .ok (.aload_n 0, 1) := by decide +kernel
theorem dX2_mean_1 : decode cX2_mean 1 = .ok (.invokevirtual 143, 3) := by decide +kernel
theorem dX2_mean_4 : decode cX2_mean 4 = .ok (.istore_n 1, 1) := by decide +kernel
theorem dX2_mean_5 : decode cX2_mean 5 = .ok (.iload_n 1, 1) := by decide +kernel
theorem dX2_mean_6 : decode cX2_mean 6 = .ok (.ifCond .ne 5, 3) := by decide +kernel
theorem dX2_mean_9 : decode cX2_mean 9 = .ok (.dconst 0, 1) := by decide +kernel
theorem dX2_mean_10 : decode cX2_mean 10 = .ok (.dreturn, 1) := by decide +kernel
theorem dX2_mean_11 : decode cX2_mean 11 = .ok (.aload_n 0, 1) := by decide +kernel
theorem dX2_mean_12 : decode cX2_mean 12 = .ok (.invokevirtual 137, 3) := by decide +kernel
theorem dX2_mean_15 : decode cX2_mean 15 = .ok (.i2d, 1) := by decide +kernel
theorem dX2_mean_16 : decode cX2_mean 16 = .ok (.iload_n 1, 1) := by decide +kernel
theorem dX2_mean_17 : decode cX2_mean 17 = .ok (.i2d, 1) := by decide +kernel
theorem dX2_mean_18 : decode cX2_mean 18 = .ok (.ddiv, 1) := by decide +kernel
theorem dX2_mean_19 : decode cX2_mean 19 = .ok (.dreturn, 1) := by decide +kernel
theorem dX2_digest_0 : decode cX2_digest 0 = .ok (.ldc2_w 170, 3) := by decide +kernel
theorem dX2_digest_3 : decode cX2_digest 3 = .ok (.lstore_n 1, 1) := by decide +kernel
theorem dX2_digest_4 : decode cX2_digest 4 = .ok (.iconst 0, 1) := by decide +kernel
theorem dX2_digest_5 : decode cX2_digest 5 = .ok (.istore_n 3, 1) := by decide +kernel
theorem dX2_digest_6 : decode cX2_digest 6 = .ok (.iload_n 3, 1) := by decide +kernel
theorem dX2_digest_7 : decode cX2_digest 7 = .ok (.bipush 10, 2) := by decide +kernel
theorem dX2_digest_9 : decode cX2_digest 9 = .ok (.if_icmp .ge 20, 3) := by decide +kernel
theorem dX2_digest_12 : decode cX2_digest 12 = .ok (.lload_n 1, 1) := by decide +kernel
theorem dX2_digest_13 : decode cX2_digest 13 = .ok (.aload_n 0, 1) := by decide +kernel
theorem dX2_digest_14 : decode cX2_digest 14 = .ok (.iload_n 3, 1) := by decide +kernel
theorem dX2_digest_15 : decode cX2_digest 15 = .ok (.invokevirtual 172, 3) := by decide +kernel
theorem dX2_digest_18 : decode cX2_digest 18 = .ok (.i2l, 1) := by decide +kernel
theorem dX2_digest_19 : decode cX2_digest 19 = .ok (.invokestatic 175, 3) := by decide +kernel
theorem dX2_digest_22 : decode cX2_digest 22 = .ok (.lstore_n 1, 1) := by decide +kernel
theorem dX2_digest_23 : decode cX2_digest 23 = .ok (.iinc 3 1, 3) := by decide +kernel
theorem dX2_digest_26 : decode cX2_digest 26 = .ok (.goto (-20), 3) := by decide +kernel
theorem dX2_digest_29 : decode cX2_digest 29 = .ok (.aload_n 0, 1) := by decide +kernel
theorem dX2_digest_30 : decode cX2_digest 30 = .ok (.getfield 11, 3) := by decide +kernel
theorem dX2_digest_33 : decode cX2_digest 33 = .ok (.astore_n 3, 1) := by decide +kernel
theorem dX2_digest_34 : decode cX2_digest 34 = .ok (.aload_n 3, 1) := by decide +kernel
theorem dX2_digest_35 : decode cX2_digest 35 = .ok (.arraylength, 1) := by decide +kernel
theorem dX2_digest_36 : decode cX2_digest 36 = .ok (.istore 4, 2) := by decide +kernel
theorem dX2_digest_38 : decode cX2_digest 38 = .ok (.iconst 0, 1) := by decide +kernel
theorem dX2_digest_39 : decode cX2_digest 39 = .ok (.istore 5, 2) := by decide +kernel
theorem dX2_digest_41 : decode cX2_digest 41 = .ok (.iload 5, 2) := by decide +kernel
theorem dX2_digest_43 : decode cX2_digest 43 = .ok (.iload 4, 2) := by decide +kernel
theorem dX2_digest_45 : decode cX2_digest 45 = .ok (.if_icmp .ge 22, 3) := by decide +kernel
theorem dX2_digest_48 : decode cX2_digest 48 = .ok (.aload_n 3, 1) := by decide +kernel
theorem dX2_digest_49 : decode cX2_digest 49 = .ok (.iload 5, 2) := by decide +kernel
theorem dX2_digest_51 : decode cX2_digest 51 = .ok (.aaload, 1) := by decide +kernel
theorem dX2_digest_52 : decode cX2_digest 52 = .ok (.astore 6, 2) := by decide +kernel
theorem dX2_digest_54 : decode cX2_digest 54 = .ok (.lload_n 1, 1) := by decide +kernel
theorem dX2_digest_55 : decode cX2_digest 55 = .ok (.aload 6, 2) := by decide +kernel
theorem dX2_digest_57 : decode cX2_digest 57 = .ok (.invokestatic 179, 3) := by decide +kernel
theorem dX2_digest_60 : decode cX2_digest 60 = .ok (.lstore_n 1, 1) := by decide +kernel
theorem dX2_digest_61 : decode cX2_digest 61 = .ok (.iinc 5 1, 3) := by decide +kernel
theorem dX2_digest_64 : decode cX2_digest 64 = .ok (.goto (-23), 3) := by decide +kernel
theorem dX2_digest_67 : decode cX2_digest 67 = .ok (.aload_n 0, 1) := by decide +kernel
theorem dX2_digest_68 : decode cX2_digest 68 = .ok (.getfield 17, 3) := by decide +kernel
theorem dX2_digest_71 : decode cX2_digest 71 = .ok (.astore_n 3, 1) := by decide +kernel
theorem dX2_digest_72 : decode cX2_digest 72 = .ok (.aload_n 3, 1) := by decide +kernel
theorem dX2_digest_73 : decode cX2_digest 73 = .ok (.arraylength, 1) := by decide +kernel
theorem dX2_digest_74 : decode cX2_digest 74 = .ok (.istore 4, 2) := by decide +kernel
theorem dX2_digest_76 : decode cX2_digest 76 = .ok (.iconst 0, 1) := by decide +kernel
theorem dX2_digest_77 : decode cX2_digest 77 = .ok (.istore 5, 2) := by decide +kernel
theorem dX2_digest_79 : decode cX2_digest 79 = .ok (.iload 5, 2) := by decide +kernel
theorem dX2_digest_81 : decode cX2_digest 81 = .ok (.iload 4, 2) := by decide +kernel
theorem dX2_digest_83 : decode cX2_digest 83 = .ok (.if_icmp .ge 28, 3) := by decide +kernel
theorem dX2_digest_86 : decode cX2_digest 86 = .ok (.aload_n 3, 1) := by decide +kernel
theorem dX2_digest_87 : decode cX2_digest 87 = .ok (.iload 5, 2) := by decide +kernel
theorem dX2_digest_89 : decode cX2_digest 89 = .ok (.aaload, 1) := by decide +kernel
theorem dX2_digest_90 : decode cX2_digest 90 = .ok (.astore 6, 2) := by decide +kernel
theorem dX2_digest_92 : decode cX2_digest 92 = .ok (.aload 6, 2) := by decide +kernel
theorem dX2_digest_94 : decode cX2_digest 94 = .ok (.ifnull 11, 3) := by decide +kernel
theorem dX2_digest_97 : decode cX2_digest 97 = .ok (.aload_n 0, 1) := by decide +kernel
theorem dX2_digest_98 : decode cX2_digest 98 = .ok (.lload_n 1, 1) := by decide +kernel
theorem dX2_digest_99 : decode cX2_digest 99 = .ok (.aload 6, 2) := by decide +kernel
theorem dX2_digest_101 : decode cX2_digest 101 = .ok (.invokevirtual 183, 3) := by decide +kernel
theorem dX2_digest_104 : decode cX2_digest 104 = .ok (.lstore_n 1, 1) := by decide +kernel
theorem dX2_digest_105 : decode cX2_digest 105 = .ok (.iinc 5 1, 3) := by decide +kernel
theorem dX2_digest_108 : decode cX2_digest 108 = .ok (.goto (-29), 3) := by decide +kernel
theorem dX2_digest_111 : decode cX2_digest 111 = .ok (.lload_n 1, 1) := by decide +kernel
theorem dX2_digest_112 : decode cX2_digest 112 = .ok (.lreturn, 1) := by decide +kernel
theorem dX2_kindOf_0 : decode cX2_kindOf 0 = .ok (.iload_n 1, 1) := by decide +kernel
theorem dX2_kindOf_1 : decode cX2_kindOf 1 = .ok (.ifCond .lt 21, 3) := by decide +kernel
theorem dX2_kindOf_4 : decode cX2_kindOf 4 = .ok (.iload_n 1, 1) := by decide +kernel
theorem dX2_kindOf_5 : decode cX2_kindOf 5 = .ok (.aload_n 0, 1) := by decide +kernel
theorem dX2_kindOf_6 : decode cX2_kindOf 6 = .ok (.getfield 17, 3) := by decide +kernel
theorem dX2_kindOf_9 : decode cX2_kindOf 9 = .ok (.arraylength, 1) := by decide +kernel
theorem dX2_kindOf_10 : decode cX2_kindOf 10 = .ok (.if_icmp .ge 12, 3) := by decide +kernel
theorem dX2_kindOf_13 : decode cX2_kindOf 13 = .ok (.aload_n 0, 1) := by decide +kernel
theorem dX2_kindOf_14 : decode cX2_kindOf 14 = .ok (.getfield 17, 3) := by decide +kernel
theorem dX2_kindOf_17 : decode cX2_kindOf 17 = .ok (.iload_n 1, 1) := by decide +kernel
theorem dX2_kindOf_18 : decode cX2_kindOf 18 = .ok (.aaload, 1) := by decide +kernel
theorem dX2_kindOf_19 : decode cX2_kindOf 19 = .ok (.ifnonnull 13, 3) := by decide +kernel
theorem dX2_kindOf_22 : decode cX2_kindOf 22 = .ok (.new 55, 3) := by decide +kernel
theorem dX2_kindOf_25 : decode cX2_kindOf 25 = .ok (.dup, 1) := by decide +kernel
theorem dX2_kindOf_26 : decode cX2_kindOf 26 = .ok (.ldc 187, 2) := by decide +kernel
theorem dX2_kindOf_28 : decode cX2_kindOf 28 = .ok (.invokespecial 59, 3) := by decide +kernel
theorem dX2_kindOf_31 : decode cX2_kindOf 31 = .ok (.athrow, 1) := by decide +kernel
theorem dX2_kindOf_32 : decode cX2_kindOf 32 = .ok (.aload_n 0, 1) := by decide +kernel
theorem dX2_kindOf_33 : decode cX2_kindOf 33 = .ok (.getfield 17, 3) := by decide +kernel
theorem dX2_kindOf_36 : decode cX2_kindOf 36 = .ok (.iload_n 1, 1) := by decide +kernel
theorem dX2_kindOf_37 : decode cX2_kindOf 37 = .ok (.aaload, 1) := by decide +kernel
theorem dX2_kindOf_38 : decode cX2_kindOf 38 = .ok (.areturn, 1) := by decide +kernel
theorem dX2_shelfAt_0 : decode cX2_shelfAt 0 = .ok (.iload_n 1, 1) := by decide +kernel
theorem dX2_shelfAt_1 : decode cX2_shelfAt 1 = .ok (.ifCond .lt 10, 3) := by decide +kernel
theorem dX2_shelfAt_4 : decode cX2_shelfAt 4 = .ok (.iload_n 1, 1) := by decide +kernel
theorem dX2_shelfAt_5 : decode cX2_shelfAt 5 = .ok (.sipush 288, 3) := by decide +kernel
theorem dX2_shelfAt_8 : decode cX2_shelfAt 8 = .ok (.if_icmp .lt 13, 3) := by decide +kernel
theorem dX2_shelfAt_11 : decode cX2_shelfAt 11 = .ok (.new 55, 3) := by decide +kernel
theorem dX2_shelfAt_14 : decode cX2_shelfAt 14 = .ok (.dup, 1) := by decide +kernel
theorem dX2_shelfAt_15 : decode cX2_shelfAt 15 = .ok (.ldc 189, 2) := by decide +kernel
theorem dX2_shelfAt_17 : decode cX2_shelfAt 17 = .ok (.invokespecial 59, 3) := by decide +kernel
theorem dX2_shelfAt_20 : decode cX2_shelfAt 20 = .ok (.athrow, 1) := by decide +kernel
theorem dX2_shelfAt_21 : decode cX2_shelfAt 21 = .ok (.aload_n 0, 1) := by decide +kernel
theorem dX2_shelfAt_22 : decode cX2_shelfAt 22 = .ok (.getfield 11, 3) := by decide +kernel
theorem dX2_shelfAt_25 : decode cX2_shelfAt 25 = .ok (.iload_n 1, 1) := by decide +kernel
theorem dX2_shelfAt_26 : decode cX2_shelfAt 26 = .ok (.bipush 24, 2) := by decide +kernel
theorem dX2_shelfAt_28 : decode cX2_shelfAt 28 = .ok (.idiv, 1) := by decide +kernel
theorem dX2_shelfAt_29 : decode cX2_shelfAt 29 = .ok (.aaload, 1) := by decide +kernel
theorem dX2_shelfAt_30 : decode cX2_shelfAt 30 = .ok (.areturn, 1) := by decide +kernel
theorem dX2_requireAnswer_0 : decode cX2_requireAnswer 0 = .ok (.iload_n 0, 1) := by decide +kernel
theorem dX2_requireAnswer_1 : decode cX2_requireAnswer 1 = .ok (.ifCond .lt 8, 3) := by decide +kernel
theorem dX2_requireAnswer_4 : decode cX2_requireAnswer 4 = .ok (.iload_n 0, 1) := by decide +kernel
theorem dX2_requireAnswer_5 : decode cX2_requireAnswer 5 = .ok (.iload_n 1, 1) := by decide +kernel
theorem dX2_requireAnswer_6 : decode cX2_requireAnswer 6 = .ok (.if_icmp .lt 13, 3) := by decide +kernel
theorem dX2_requireAnswer_9 : decode cX2_requireAnswer 9 = .ok (.new 55, 3) := by decide +kernel
theorem dX2_requireAnswer_12 : decode cX2_requireAnswer 12 = .ok (.dup, 1) := by decide +kernel
theorem dX2_requireAnswer_13 : decode cX2_requireAnswer 13 = .ok (.ldc 191, 2) := by decide +kernel
theorem dX2_requireAnswer_15 : decode cX2_requireAnswer 15 = .ok (.invokespecial 59, 3) := by decide +kernel
theorem dX2_requireAnswer_18 : decode cX2_requireAnswer 18 = .ok (.athrow, 1) := by decide +kernel
theorem dX2_requireAnswer_19 : decode cX2_requireAnswer 19 = .ok (.return_, 1) := by decide +kernel
theorem dX2_answerAbout_0 : decode cX2_answerAbout 0 = .ok (.iload_n 2, 1) := by decide +kernel
theorem dX2_answerAbout_1 : decode cX2_answerAbout 1 = .ok (.tableswitch 95 0 7 #[47, 52, 57, 62, 68, 75, 82, 89], 47) := by decide +kernel
theorem dX2_answerAbout_48 : decode cX2_answerAbout 48 = .ok (.aload_n 1, 1) := by decide +kernel
theorem dX2_answerAbout_49 : decode cX2_answerAbout 49 = .ok (.getfield 193, 3) := by decide +kernel
theorem dX2_answerAbout_52 : decode cX2_answerAbout 52 = .ok (.ireturn, 1) := by decide +kernel
theorem dX2_answerAbout_53 : decode cX2_answerAbout 53 = .ok (.aload_n 1, 1) := by decide +kernel
theorem dX2_answerAbout_54 : decode cX2_answerAbout 54 = .ok (.getfield 156, 3) := by decide +kernel
theorem dX2_answerAbout_57 : decode cX2_answerAbout 57 = .ok (.ireturn, 1) := by decide +kernel
theorem dX2_answerAbout_58 : decode cX2_answerAbout 58 = .ok (.aload_n 1, 1) := by decide +kernel
theorem dX2_answerAbout_59 : decode cX2_answerAbout 59 = .ok (.getfield 196, 3) := by decide +kernel
theorem dX2_answerAbout_62 : decode cX2_answerAbout 62 = .ok (.ireturn, 1) := by decide +kernel
theorem dX2_answerAbout_63 : decode cX2_answerAbout 63 = .ok (.aload_n 0, 1) := by decide +kernel
theorem dX2_answerAbout_64 : decode cX2_answerAbout 64 = .ok (.aload_n 1, 1) := by decide +kernel
theorem dX2_answerAbout_65 : decode cX2_answerAbout 65 = .ok (.invokevirtual 199, 3) := by decide +kernel
theorem dX2_answerAbout_68 : decode cX2_answerAbout 68 = .ok (.ireturn, 1) := by decide +kernel
theorem dX2_answerAbout_69 : decode cX2_answerAbout 69 = .ok (.aload_n 0, 1) := by decide +kernel
theorem dX2_answerAbout_70 : decode cX2_answerAbout 70 = .ok (.aload_n 1, 1) := by decide +kernel
theorem dX2_answerAbout_71 : decode cX2_answerAbout 71 = .ok (.iconst 3, 1) := by decide +kernel
theorem dX2_answerAbout_72 : decode cX2_answerAbout 72 = .ok (.invokevirtual 202, 3) := by decide +kernel
theorem dX2_answerAbout_75 : decode cX2_answerAbout 75 = .ok (.ireturn, 1) := by decide +kernel
theorem dX2_answerAbout_76 : decode cX2_answerAbout 76 = .ok (.aload_n 0, 1) := by decide +kernel
theorem dX2_answerAbout_77 : decode cX2_answerAbout 77 = .ok (.aload_n 1, 1) := by decide +kernel
theorem dX2_answerAbout_78 : decode cX2_answerAbout 78 = .ok (.iconst 2, 1) := by decide +kernel
theorem dX2_answerAbout_79 : decode cX2_answerAbout 79 = .ok (.invokevirtual 202, 3) := by decide +kernel
theorem dX2_answerAbout_82 : decode cX2_answerAbout 82 = .ok (.ireturn, 1) := by decide +kernel
theorem dX2_answerAbout_83 : decode cX2_answerAbout 83 = .ok (.aload_n 0, 1) := by decide +kernel
theorem dX2_answerAbout_84 : decode cX2_answerAbout 84 = .ok (.aload_n 1, 1) := by decide +kernel
theorem dX2_answerAbout_85 : decode cX2_answerAbout 85 = .ok (.iconst 1, 1) := by decide +kernel
theorem dX2_answerAbout_86 : decode cX2_answerAbout 86 = .ok (.invokevirtual 202, 3) := by decide +kernel
theorem dX2_answerAbout_89 : decode cX2_answerAbout 89 = .ok (.ireturn, 1) := by decide +kernel
theorem dX2_answerAbout_90 : decode cX2_answerAbout 90 = .ok (.aload_n 0, 1) := by decide +kernel
theorem dX2_answerAbout_91 : decode cX2_answerAbout 91 = .ok (.aload_n 1, 1) := by decide +kernel
theorem dX2_answerAbout_92 : decode cX2_answerAbout 92 = .ok (.invokevirtual 205, 3) := by decide +kernel
theorem dX2_answerAbout_95 : decode cX2_answerAbout 95 = .ok (.ireturn, 1) := by decide +kernel
theorem dX2_answerAbout_96 : decode cX2_answerAbout 96 = .ok (.aload_n 1, 1) := by decide +kernel
theorem dX2_answerAbout_97 : decode cX2_answerAbout 97 = .ok (.getfield 208, 3) := by decide +kernel
theorem dX2_answerAbout_100 : decode cX2_answerAbout 100 = .ok (.ireturn, 1) := by decide +kernel
theorem dX2_nextSpot_0 : decode cX2_nextSpot 0 = .ok (.aload_n 0, 1) := by decide +kernel
theorem dX2_nextSpot_1 : decode cX2_nextSpot 1 = .ok (.aload_n 1, 1) := by decide +kernel
theorem dX2_nextSpot_2 : decode cX2_nextSpot 2 = .ok (.invokevirtual 64, 3) := by decide +kernel
theorem dX2_nextSpot_5 : decode cX2_nextSpot 5 = .ok (.astore_n 2, 1) := by decide +kernel
theorem dX2_nextSpot_6 : decode cX2_nextSpot 6 = .ok (.aload_n 2, 1) := by decide +kernel
theorem dX2_nextSpot_7 : decode cX2_nextSpot 7 = .ok (.ifnonnull 5, 3) := by decide +kernel
theorem dX2_nextSpot_10 : decode cX2_nextSpot 10 = .ok (.iconst (-1), 1) := by decide +kernel
theorem dX2_nextSpot_11 : decode cX2_nextSpot 11 = .ok (.ireturn, 1) := by decide +kernel
theorem dX2_nextSpot_12 : decode cX2_nextSpot 12 = .ok (.aload_n 2, 1) := by decide +kernel
theorem dX2_nextSpot_13 : decode cX2_nextSpot 13 = .ok (.invokevirtual 70, 3) := by decide +kernel
theorem dX2_nextSpot_16 : decode cX2_nextSpot 16 = .ok (.ifCond .ne 13, 3) := by decide +kernel
theorem dX2_nextSpot_19 : decode cX2_nextSpot 19 = .ok (.aload_n 2, 1) := by decide +kernel
theorem dX2_nextSpot_20 : decode cX2_nextSpot 20 = .ok (.getfield 211, 3) := by decide +kernel
theorem dX2_nextSpot_23 : decode cX2_nextSpot 23 = .ok (.aload_n 1, 1) := by decide +kernel
theorem dX2_nextSpot_24 : decode cX2_nextSpot 24 = .ok (.getfield 214, 3) := by decide +kernel
theorem dX2_nextSpot_27 : decode cX2_nextSpot 27 = .ok (.iadd, 1) := by decide +kernel
theorem dX2_nextSpot_28 : decode cX2_nextSpot 28 = .ok (.ireturn, 1) := by decide +kernel
theorem dX2_nextSpot_29 : decode cX2_nextSpot 29 = .ok (.aload_n 2, 1) := by decide +kernel
theorem dX2_nextSpot_30 : decode cX2_nextSpot 30 = .ok (.aload_n 2, 1) := by decide +kernel
theorem dX2_nextSpot_31 : decode cX2_nextSpot 31 = .ok (.invokevirtual 78, 3) := by decide +kernel
theorem dX2_nextSpot_34 : decode cX2_nextSpot 34 = .ok (.invokevirtual 84, 3) := by decide +kernel
theorem dX2_nextSpot_37 : decode cX2_nextSpot 37 = .ok (.ireturn, 1) := by decide +kernel
theorem dX2_shelfToPut_0 : decode cX2_shelfToPut 0 = .ok (.aload_n 0, 1) := by decide +kernel
theorem dX2_shelfToPut_1 : decode cX2_shelfToPut 1 = .ok (.aload_n 1, 1) := by decide +kernel
theorem dX2_shelfToPut_2 : decode cX2_shelfToPut 2 = .ok (.invokevirtual 217, 3) := by decide +kernel
theorem dX2_shelfToPut_5 : decode cX2_shelfToPut 5 = .ok (.astore_n 2, 1) := by decide +kernel
theorem dX2_shelfToPut_6 : decode cX2_shelfToPut 6 = .ok (.aload_n 2, 1) := by decide +kernel
theorem dX2_shelfToPut_7 : decode cX2_shelfToPut 7 = .ok (.ifnonnull 10, 3) := by decide +kernel
theorem dX2_shelfToPut_10 : decode cX2_shelfToPut 10 = .ok (.aload_n 0, 1) := by decide +kernel
theorem dX2_shelfToPut_11 : decode cX2_shelfToPut 11 = .ok (.aload_n 1, 1) := by decide +kernel
theorem dX2_shelfToPut_12 : decode cX2_shelfToPut 12 = .ok (.iconst 1, 1) := by decide +kernel
theorem dX2_shelfToPut_13 : decode cX2_shelfToPut 13 = .ok (.invokevirtual 220, 3) := by decide +kernel
theorem dX2_shelfToPut_16 : decode cX2_shelfToPut 16 = .ok (.astore_n 2, 1) := by decide +kernel
theorem dX2_shelfToPut_17 : decode cX2_shelfToPut 17 = .ok (.aload_n 2, 1) := by decide +kernel
theorem dX2_shelfToPut_18 : decode cX2_shelfToPut 18 = .ok (.ifnonnull 10, 3) := by decide +kernel
theorem dX2_shelfToPut_21 : decode cX2_shelfToPut 21 = .ok (.aload_n 0, 1) := by decide +kernel
theorem dX2_shelfToPut_22 : decode cX2_shelfToPut 22 = .ok (.invokevirtual 224, 3) := by decide +kernel
theorem dX2_shelfToPut_25 : decode cX2_shelfToPut 25 = .ok (.goto 4, 3) := by decide +kernel
theorem dX2_shelfToPut_28 : decode cX2_shelfToPut 28 = .ok (.aload_n 2, 1) := by decide +kernel
theorem dX2_shelfToPut_29 : decode cX2_shelfToPut 29 = .ok (.areturn, 1) := by decide +kernel
theorem dX2_inUseByWay_0 : decode cX2_inUseByWay 0 = .ok (.aload_n 0, 1) := by decide +kernel
theorem dX2_inUseByWay_1 : decode cX2_inUseByWay 1 = .ok (.getfield 25, 3) := by decide +kernel
theorem dX2_inUseByWay_4 : decode cX2_inUseByWay 4 = .ok (.lookupswitch 41 #[(1, 28), (2, 35)], 28) := by decide +kernel
theorem dX2_inUseByWay_32 : decode cX2_inUseByWay 32 = .ok (.aload_n 0, 1) := by decide +kernel
theorem dX2_inUseByWay_33 : decode cX2_inUseByWay 33 = .ok (.aload_n 1, 1) := by decide +kernel
theorem dX2_inUseByWay_34 : decode cX2_inUseByWay 34 = .ok (.aconst_null, 1) := by decide +kernel
theorem dX2_inUseByWay_35 : decode cX2_inUseByWay 35 = .ok (.invokevirtual 228, 3) := by decide +kernel
theorem dX2_inUseByWay_38 : decode cX2_inUseByWay 38 = .ok (.areturn, 1) := by decide +kernel
theorem dX2_inUseByWay_39 : decode cX2_inUseByWay 39 = .ok (.aload_n 0, 1) := by decide +kernel
theorem dX2_inUseByWay_40 : decode cX2_inUseByWay 40 = .ok (.aload_n 1, 1) := by decide +kernel
theorem dX2_inUseByWay_41 : decode cX2_inUseByWay 41 = .ok (.invokevirtual 232, 3) := by decide +kernel
theorem dX2_inUseByWay_44 : decode cX2_inUseByWay 44 = .ok (.areturn, 1) := by decide +kernel
theorem dX2_inUseByWay_45 : decode cX2_inUseByWay 45 = .ok (.aload_n 0, 1) := by decide +kernel
theorem dX2_inUseByWay_46 : decode cX2_inUseByWay 46 = .ok (.aload_n 1, 1) := by decide +kernel
theorem dX2_inUseByWay_47 : decode cX2_inUseByWay 47 = .ok (.iconst 2, 1) := by decide +kernel
theorem dX2_inUseByWay_48 : decode cX2_inUseByWay 48 = .ok (.invokevirtual 220, 3) := by decide +kernel
theorem dX2_inUseByWay_51 : decode cX2_inUseByWay 51 = .ok (.areturn, 1) := by decide +kernel
theorem dX2_firstInState_0 : decode cX2_firstInState 0 = .ok (.aload_n 0, 1) := by decide +kernel
theorem dX2_firstInState_1 : decode cX2_firstInState 1 = .ok (.getfield 11, 3) := by decide +kernel
theorem dX2_firstInState_4 : decode cX2_firstInState 4 = .ok (.astore_n 3, 1) := by decide +kernel
theorem dX2_firstInState_5 : decode cX2_firstInState 5 = .ok (.aload_n 3, 1) := by decide +kernel
theorem dX2_firstInState_6 : decode cX2_firstInState 6 = .ok (.arraylength, 1) := by decide +kernel
theorem dX2_firstInState_7 : decode cX2_firstInState 7 = .ok (.istore 4, 2) := by decide +kernel
theorem dX2_firstInState_9 : decode cX2_firstInState 9 = .ok (.iconst 0, 1) := by decide +kernel
theorem dX2_firstInState_10 : decode cX2_firstInState 10 = .ok (.istore 5, 2) := by decide +kernel
theorem dX2_firstInState_12 : decode cX2_firstInState 12 = .ok (.iload 5, 2) := by decide +kernel
theorem dX2_firstInState_14 : decode cX2_firstInState 14 = .ok (.iload 4, 2) := by decide +kernel
theorem dX2_firstInState_16 : decode cX2_firstInState 16 = .ok (.if_icmp .ge 36, 3) := by decide +kernel
theorem dX2_firstInState_19 : decode cX2_firstInState 19 = .ok (.aload_n 3, 1) := by decide +kernel
theorem dX2_firstInState_20 : decode cX2_firstInState 20 = .ok (.iload 5, 2) := by decide +kernel
theorem dX2_firstInState_22 : decode cX2_firstInState 22 = .ok (.aaload, 1) := by decide +kernel
theorem dX2_firstInState_23 : decode cX2_firstInState 23 = .ok (.astore 6, 2) := by decide +kernel
theorem dX2_firstInState_25 : decode cX2_firstInState 25 = .ok (.aload 6, 2) := by decide +kernel
theorem dX2_firstInState_27 : decode cX2_firstInState 27 = .ok (.aload_n 1, 1) := by decide +kernel
theorem dX2_firstInState_28 : decode cX2_firstInState 28 = .ok (.invokevirtual 235, 3) := by decide +kernel
theorem dX2_firstInState_31 : decode cX2_firstInState 31 = .ok (.ifCond .eq 15, 3) := by decide +kernel
theorem dX2_firstInState_34 : decode cX2_firstInState 34 = .ok (.aload 6, 2) := by decide +kernel
theorem dX2_firstInState_36 : decode cX2_firstInState 36 = .ok (.invokevirtual 70, 3) := by decide +kernel
theorem dX2_firstInState_39 : decode cX2_firstInState 39 = .ok (.iload_n 2, 1) := by decide +kernel
theorem dX2_firstInState_40 : decode cX2_firstInState 40 = .ok (.if_icmp .ne 6, 3) := by decide +kernel
theorem dX2_firstInState_43 : decode cX2_firstInState 43 = .ok (.aload 6, 2) := by decide +kernel
theorem dX2_firstInState_45 : decode cX2_firstInState 45 = .ok (.areturn, 1) := by decide +kernel
theorem dX2_firstInState_46 : decode cX2_firstInState 46 = .ok (.iinc 5 1, 3) := by decide +kernel
theorem dX2_firstInState_49 : decode cX2_firstInState 49 = .ok (.goto (-37), 3) := by decide +kernel
theorem dX2_firstInState_52 : decode cX2_firstInState 52 = .ok (.aconst_null, 1) := by decide +kernel
theorem dX2_firstInState_53 : decode cX2_firstInState 53 = .ok (.areturn, 1) := by decide +kernel
theorem dX2_firstFree_0 : decode cX2_firstFree 0 = .ok (.aload_n 0, 1) := by decide +kernel
theorem dX2_firstFree_1 : decode cX2_firstFree 1 = .ok (.getfield 11, 3) := by decide +kernel
theorem dX2_firstFree_4 : decode cX2_firstFree 4 = .ok (.astore_n 1, 1) := by decide +kernel
theorem dX2_firstFree_5 : decode cX2_firstFree 5 = .ok (.aload_n 1, 1) := by decide +kernel
theorem dX2_firstFree_6 : decode cX2_firstFree 6 = .ok (.arraylength, 1) := by decide +kernel
theorem dX2_firstFree_7 : decode cX2_firstFree 7 = .ok (.istore_n 2, 1) := by decide +kernel
theorem dX2_firstFree_8 : decode cX2_firstFree 8 = .ok (.iconst 0, 1) := by decide +kernel
theorem dX2_firstFree_9 : decode cX2_firstFree 9 = .ok (.istore_n 3, 1) := by decide +kernel
theorem dX2_firstFree_10 : decode cX2_firstFree 10 = .ok (.iload_n 3, 1) := by decide +kernel
theorem dX2_firstFree_11 : decode cX2_firstFree 11 = .ok (.iload_n 2, 1) := by decide +kernel
theorem dX2_firstFree_12 : decode cX2_firstFree 12 = .ok (.if_icmp .ge 25, 3) := by decide +kernel
theorem dX2_firstFree_15 : decode cX2_firstFree 15 = .ok (.aload_n 1, 1) := by decide +kernel
theorem dX2_firstFree_16 : decode cX2_firstFree 16 = .ok (.iload_n 3, 1) := by decide +kernel
theorem dX2_firstFree_17 : decode cX2_firstFree 17 = .ok (.aaload, 1) := by decide +kernel
theorem dX2_firstFree_18 : decode cX2_firstFree 18 = .ok (.astore 4, 2) := by decide +kernel
theorem dX2_firstFree_20 : decode cX2_firstFree 20 = .ok (.aload 4, 2) := by decide +kernel
theorem dX2_firstFree_22 : decode cX2_firstFree 22 = .ok (.invokevirtual 70, 3) := by decide +kernel
theorem dX2_firstFree_25 : decode cX2_firstFree 25 = .ok (.ifCond .ne 6, 3) := by decide +kernel
theorem dX2_firstFree_28 : decode cX2_firstFree 28 = .ok (.aload 4, 2) := by decide +kernel
theorem dX2_firstFree_30 : decode cX2_firstFree 30 = .ok (.areturn, 1) := by decide +kernel
theorem dX2_firstFree_31 : decode cX2_firstFree 31 = .ok (.iinc 3 1, 3) := by decide +kernel
theorem dX2_firstFree_34 : decode cX2_firstFree 34 = .ok (.goto (-24), 3) := by decide +kernel
theorem dX2_firstFree_37 : decode cX2_firstFree 37 = .ok (.aconst_null, 1) := by decide +kernel
theorem dX2_firstFree_38 : decode cX2_firstFree 38 = .ok (.areturn, 1) := by decide +kernel
theorem dX2_mostBowls_0 : decode cX2_mostBowls 0 = .ok (.aconst_null, 1) := by decide +kernel
theorem dX2_mostBowls_1 : decode cX2_mostBowls 1 = .ok (.astore_n 3, 1) := by decide +kernel
theorem dX2_mostBowls_2 : decode cX2_mostBowls 2 = .ok (.aload_n 0, 1) := by decide +kernel
theorem dX2_mostBowls_3 : decode cX2_mostBowls 3 = .ok (.getfield 11, 3) := by decide +kernel
theorem dX2_mostBowls_6 : decode cX2_mostBowls 6 = .ok (.astore 4, 2) := by decide +kernel
theorem dX2_mostBowls_8 : decode cX2_mostBowls 8 = .ok (.aload 4, 2) := by decide +kernel
theorem dX2_mostBowls_10 : decode cX2_mostBowls 10 = .ok (.arraylength, 1) := by decide +kernel
theorem dX2_mostBowls_11 : decode cX2_mostBowls 11 = .ok (.istore 5, 2) := by decide +kernel
theorem dX2_mostBowls_13 : decode cX2_mostBowls 13 = .ok (.iconst 0, 1) := by decide +kernel
theorem dX2_mostBowls_14 : decode cX2_mostBowls 14 = .ok (.istore 6, 2) := by decide +kernel
theorem dX2_mostBowls_16 : decode cX2_mostBowls 16 = .ok (.iload 6, 2) := by decide +kernel
theorem dX2_mostBowls_18 : decode cX2_mostBowls 18 = .ok (.iload 5, 2) := by decide +kernel
theorem dX2_mostBowls_20 : decode cX2_mostBowls 20 = .ok (.if_icmp .ge 59, 3) := by decide +kernel
theorem dX2_mostBowls_23 : decode cX2_mostBowls 23 = .ok (.aload 4, 2) := by decide +kernel
theorem dX2_mostBowls_25 : decode cX2_mostBowls 25 = .ok (.iload 6, 2) := by decide +kernel
theorem dX2_mostBowls_27 : decode cX2_mostBowls 27 = .ok (.aaload, 1) := by decide +kernel
theorem dX2_mostBowls_28 : decode cX2_mostBowls 28 = .ok (.astore 7, 2) := by decide +kernel
theorem dX2_mostBowls_30 : decode cX2_mostBowls 30 = .ok (.aload 7, 2) := by decide +kernel
theorem dX2_mostBowls_32 : decode cX2_mostBowls 32 = .ok (.aload_n 2, 1) := by decide +kernel
theorem dX2_mostBowls_33 : decode cX2_mostBowls 33 = .ok (.if_acmp .eq 40, 3) := by decide +kernel
theorem dX2_mostBowls_36 : decode cX2_mostBowls 36 = .ok (.aload 7, 2) := by decide +kernel
theorem dX2_mostBowls_38 : decode cX2_mostBowls 38 = .ok (.aload_n 1, 1) := by decide +kernel
theorem dX2_mostBowls_39 : decode cX2_mostBowls 39 = .ok (.invokevirtual 235, 3) := by decide +kernel
theorem dX2_mostBowls_42 : decode cX2_mostBowls 42 = .ok (.ifCond .eq 31, 3) := by decide +kernel
theorem dX2_mostBowls_45 : decode cX2_mostBowls 45 = .ok (.aload 7, 2) := by decide +kernel
theorem dX2_mostBowls_47 : decode cX2_mostBowls 47 = .ok (.invokevirtual 70, 3) := by decide +kernel
theorem dX2_mostBowls_50 : decode cX2_mostBowls 50 = .ok (.iconst 2, 1) := by decide +kernel
theorem dX2_mostBowls_51 : decode cX2_mostBowls 51 = .ok (.if_icmp .ne 22, 3) := by decide +kernel
theorem dX2_mostBowls_54 : decode cX2_mostBowls 54 = .ok (.aload_n 3, 1) := by decide +kernel
theorem dX2_mostBowls_55 : decode cX2_mostBowls 55 = .ok (.ifnull 15, 3) := by decide +kernel
theorem dX2_mostBowls_58 : decode cX2_mostBowls 58 = .ok (.aload 7, 2) := by decide +kernel
theorem dX2_mostBowls_60 : decode cX2_mostBowls 60 = .ok (.getfield 104, 3) := by decide +kernel
theorem dX2_mostBowls_63 : decode cX2_mostBowls 63 = .ok (.aload_n 3, 1) := by decide +kernel
theorem dX2_mostBowls_64 : decode cX2_mostBowls 64 = .ok (.getfield 104, 3) := by decide +kernel
theorem dX2_mostBowls_67 : decode cX2_mostBowls 67 = .ok (.if_icmp .le 6, 3) := by decide +kernel
theorem dX2_mostBowls_70 : decode cX2_mostBowls 70 = .ok (.aload 7, 2) := by decide +kernel
theorem dX2_mostBowls_72 : decode cX2_mostBowls 72 = .ok (.astore_n 3, 1) := by decide +kernel
theorem dX2_mostBowls_73 : decode cX2_mostBowls 73 = .ok (.iinc 6 1, 3) := by decide +kernel
theorem dX2_mostBowls_76 : decode cX2_mostBowls 76 = .ok (.goto (-60), 3) := by decide +kernel
theorem dX2_mostBowls_79 : decode cX2_mostBowls 79 = .ok (.aload_n 3, 1) := by decide +kernel
theorem dX2_mostBowls_80 : decode cX2_mostBowls 80 = .ok (.areturn, 1) := by decide +kernel
theorem dX2_fewestBowls_0 : decode cX2_fewestBowls 0 = .ok (.aconst_null, 1) := by decide +kernel
theorem dX2_fewestBowls_1 : decode cX2_fewestBowls 1 = .ok (.astore_n 2, 1) := by decide +kernel
theorem dX2_fewestBowls_2 : decode cX2_fewestBowls 2 = .ok (.aload_n 0, 1) := by decide +kernel
theorem dX2_fewestBowls_3 : decode cX2_fewestBowls 3 = .ok (.getfield 11, 3) := by decide +kernel
theorem dX2_fewestBowls_6 : decode cX2_fewestBowls 6 = .ok (.astore_n 3, 1) := by decide +kernel
theorem dX2_fewestBowls_7 : decode cX2_fewestBowls 7 = .ok (.aload_n 3, 1) := by decide +kernel
theorem dX2_fewestBowls_8 : decode cX2_fewestBowls 8 = .ok (.arraylength, 1) := by decide +kernel
theorem dX2_fewestBowls_9 : decode cX2_fewestBowls 9 = .ok (.istore 4, 2) := by decide +kernel
theorem dX2_fewestBowls_11 : decode cX2_fewestBowls 11 = .ok (.iconst 0, 1) := by decide +kernel
theorem dX2_fewestBowls_12 : decode cX2_fewestBowls 12 = .ok (.istore 5, 2) := by decide +kernel
theorem dX2_fewestBowls_14 : decode cX2_fewestBowls 14 = .ok (.iload 5, 2) := by decide +kernel
theorem dX2_fewestBowls_16 : decode cX2_fewestBowls 16 = .ok (.iload 4, 2) := by decide +kernel
theorem dX2_fewestBowls_18 : decode cX2_fewestBowls 18 = .ok (.if_icmp .ge 52, 3) := by decide +kernel
theorem dX2_fewestBowls_21 : decode cX2_fewestBowls 21 = .ok (.aload_n 3, 1) := by decide +kernel
theorem dX2_fewestBowls_22 : decode cX2_fewestBowls 22 = .ok (.iload 5, 2) := by decide +kernel
theorem dX2_fewestBowls_24 : decode cX2_fewestBowls 24 = .ok (.aaload, 1) := by decide +kernel
theorem dX2_fewestBowls_25 : decode cX2_fewestBowls 25 = .ok (.astore 6, 2) := by decide +kernel
theorem dX2_fewestBowls_27 : decode cX2_fewestBowls 27 = .ok (.aload 6, 2) := by decide +kernel
theorem dX2_fewestBowls_29 : decode cX2_fewestBowls 29 = .ok (.aload_n 1, 1) := by decide +kernel
theorem dX2_fewestBowls_30 : decode cX2_fewestBowls 30 = .ok (.invokevirtual 235, 3) := by decide +kernel
theorem dX2_fewestBowls_33 : decode cX2_fewestBowls 33 = .ok (.ifCond .eq 31, 3) := by decide +kernel
theorem dX2_fewestBowls_36 : decode cX2_fewestBowls 36 = .ok (.aload 6, 2) := by decide +kernel
theorem dX2_fewestBowls_38 : decode cX2_fewestBowls 38 = .ok (.invokevirtual 70, 3) := by decide +kernel
theorem dX2_fewestBowls_41 : decode cX2_fewestBowls 41 = .ok (.iconst 2, 1) := by decide +kernel
theorem dX2_fewestBowls_42 : decode cX2_fewestBowls 42 = .ok (.if_icmp .ne 22, 3) := by decide +kernel
theorem dX2_fewestBowls_45 : decode cX2_fewestBowls 45 = .ok (.aload_n 2, 1) := by decide +kernel
theorem dX2_fewestBowls_46 : decode cX2_fewestBowls 46 = .ok (.ifnull 15, 3) := by decide +kernel
theorem dX2_fewestBowls_49 : decode cX2_fewestBowls 49 = .ok (.aload 6, 2) := by decide +kernel
theorem dX2_fewestBowls_51 : decode cX2_fewestBowls 51 = .ok (.getfield 104, 3) := by decide +kernel
theorem dX2_fewestBowls_54 : decode cX2_fewestBowls 54 = .ok (.aload_n 2, 1) := by decide +kernel
theorem dX2_fewestBowls_55 : decode cX2_fewestBowls 55 = .ok (.getfield 104, 3) := by decide +kernel
theorem dX2_fewestBowls_58 : decode cX2_fewestBowls 58 = .ok (.if_icmp .ge 6, 3) := by decide +kernel
theorem dX2_fewestBowls_61 : decode cX2_fewestBowls 61 = .ok (.aload 6, 2) := by decide +kernel
theorem dX2_fewestBowls_63 : decode cX2_fewestBowls 63 = .ok (.astore_n 2, 1) := by decide +kernel
theorem dX2_fewestBowls_64 : decode cX2_fewestBowls 64 = .ok (.iinc 5 1, 3) := by decide +kernel
theorem dX2_fewestBowls_67 : decode cX2_fewestBowls 67 = .ok (.goto (-53), 3) := by decide +kernel
theorem dX2_fewestBowls_70 : decode cX2_fewestBowls 70 = .ok (.aload_n 2, 1) := by decide +kernel
theorem dX2_fewestBowls_71 : decode cX2_fewestBowls 71 = .ok (.areturn, 1) := by decide +kernel
theorem dX2_lastFewestBowls_0 : decode cX2_lastFewestBowls 0 = .ok (.aconst_null, 1) := by decide +kernel
theorem dX2_lastFewestBowls_1 : decode cX2_lastFewestBowls 1 = .ok (.astore_n 2, 1) := by decide +kernel
theorem dX2_lastFewestBowls_2 : decode cX2_lastFewestBowls 2 = .ok (.aload_n 0, 1) := by decide +kernel
theorem dX2_lastFewestBowls_3 : decode cX2_lastFewestBowls 3 = .ok (.getfield 11, 3) := by decide +kernel
theorem dX2_lastFewestBowls_6 : decode cX2_lastFewestBowls 6 = .ok (.astore_n 3, 1) := by decide +kernel
theorem dX2_lastFewestBowls_7 : decode cX2_lastFewestBowls 7 = .ok (.aload_n 3, 1) := by decide +kernel
theorem dX2_lastFewestBowls_8 : decode cX2_lastFewestBowls 8 = .ok (.arraylength, 1) := by decide +kernel
theorem dX2_lastFewestBowls_9 : decode cX2_lastFewestBowls 9 = .ok (.istore 4, 2) := by decide +kernel
theorem dX2_lastFewestBowls_11 : decode cX2_lastFewestBowls 11 = .ok (.iconst 0, 1) := by decide +kernel
theorem dX2_lastFewestBowls_12 : decode cX2_lastFewestBowls 12 = .ok (.istore 5, 2) := by decide +kernel
theorem dX2_lastFewestBowls_14 : decode cX2_lastFewestBowls 14 = .ok (.iload 5, 2) := by decide +kernel
theorem dX2_lastFewestBowls_16 : decode cX2_lastFewestBowls 16 = .ok (.iload 4, 2) := by decide +kernel
theorem dX2_lastFewestBowls_18 : decode cX2_lastFewestBowls 18 = .ok (.if_icmp .ge 52, 3) := by decide +kernel
theorem dX2_lastFewestBowls_21 : decode cX2_lastFewestBowls 21 = .ok (.aload_n 3, 1) := by decide +kernel
theorem dX2_lastFewestBowls_22 : decode cX2_lastFewestBowls 22 = .ok (.iload 5, 2) := by decide +kernel
theorem dX2_lastFewestBowls_24 : decode cX2_lastFewestBowls 24 = .ok (.aaload, 1) := by decide +kernel
theorem dX2_lastFewestBowls_25 : decode cX2_lastFewestBowls 25 = .ok (.astore 6, 2) := by decide +kernel
theorem dX2_lastFewestBowls_27 : decode cX2_lastFewestBowls 27 = .ok (.aload 6, 2) := by decide +kernel
theorem dX2_lastFewestBowls_29 : decode cX2_lastFewestBowls 29 = .ok (.aload_n 1, 1) := by decide +kernel
theorem dX2_lastFewestBowls_30 : decode cX2_lastFewestBowls 30 = .ok (.invokevirtual 235, 3) := by decide +kernel
theorem dX2_lastFewestBowls_33 : decode cX2_lastFewestBowls 33 = .ok (.ifCond .eq 31, 3) := by decide +kernel
theorem dX2_lastFewestBowls_36 : decode cX2_lastFewestBowls 36 = .ok (.aload 6, 2) := by decide +kernel
theorem dX2_lastFewestBowls_38 : decode cX2_lastFewestBowls 38 = .ok (.invokevirtual 70, 3) := by decide +kernel
theorem dX2_lastFewestBowls_41 : decode cX2_lastFewestBowls 41 = .ok (.iconst 2, 1) := by decide +kernel
theorem dX2_lastFewestBowls_42 : decode cX2_lastFewestBowls 42 = .ok (.if_icmp .ne 22, 3) := by decide +kernel
theorem dX2_lastFewestBowls_45 : decode cX2_lastFewestBowls 45 = .ok (.aload_n 2, 1) := by decide +kernel
theorem dX2_lastFewestBowls_46 : decode cX2_lastFewestBowls 46 = .ok (.ifnull 15, 3) := by decide +kernel
theorem dX2_lastFewestBowls_49 : decode cX2_lastFewestBowls 49 = .ok (.aload 6, 2) := by decide +kernel
theorem dX2_lastFewestBowls_51 : decode cX2_lastFewestBowls 51 = .ok (.getfield 104, 3) := by decide +kernel
theorem dX2_lastFewestBowls_54 : decode cX2_lastFewestBowls 54 = .ok (.aload_n 2, 1) := by decide +kernel
theorem dX2_lastFewestBowls_55 : decode cX2_lastFewestBowls 55 = .ok (.getfield 104, 3) := by decide +kernel
theorem dX2_lastFewestBowls_58 : decode cX2_lastFewestBowls 58 = .ok (.if_icmp .gt 6, 3) := by decide +kernel
theorem dX2_lastFewestBowls_61 : decode cX2_lastFewestBowls 61 = .ok (.aload 6, 2) := by decide +kernel
theorem dX2_lastFewestBowls_63 : decode cX2_lastFewestBowls 63 = .ok (.astore_n 2, 1) := by decide +kernel
theorem dX2_lastFewestBowls_64 : decode cX2_lastFewestBowls 64 = .ok (.iinc 5 1, 3) := by decide +kernel
theorem dX2_lastFewestBowls_67 : decode cX2_lastFewestBowls 67 = .ok (.goto (-53), 3) := by decide +kernel
theorem dX2_lastFewestBowls_70 : decode cX2_lastFewestBowls 70 = .ok (.aload_n 2, 1) := by decide +kernel
theorem dX2_lastFewestBowls_71 : decode cX2_lastFewestBowls 71 = .ok (.areturn, 1) := by decide +kernel
theorem dX2_moveToPack_0 : decode cX2_moveToPack 0 = .ok (.aload_n 0, 1) := by decide +kernel
theorem dX2_moveToPack_1 : decode cX2_moveToPack 1 = .ok (.aload_n 1, 1) := by decide +kernel
theorem dX2_moveToPack_2 : decode cX2_moveToPack 2 = .ok (.invokevirtual 238, 3) := by decide +kernel
theorem dX2_moveToPack_5 : decode cX2_moveToPack 5 = .ok (.astore_n 2, 1) := by decide +kernel
theorem dX2_moveToPack_6 : decode cX2_moveToPack 6 = .ok (.aload_n 0, 1) := by decide +kernel
theorem dX2_moveToPack_7 : decode cX2_moveToPack 7 = .ok (.aload_n 1, 1) := by decide +kernel
theorem dX2_moveToPack_8 : decode cX2_moveToPack 8 = .ok (.aload_n 2, 1) := by decide +kernel
theorem dX2_moveToPack_9 : decode cX2_moveToPack 9 = .ok (.invokevirtual 228, 3) := by decide +kernel
theorem dX2_moveToPack_12 : decode cX2_moveToPack 12 = .ok (.astore_n 3, 1) := by decide +kernel
theorem dX2_moveToPack_13 : decode cX2_moveToPack 13 = .ok (.aload_n 2, 1) := by decide +kernel
theorem dX2_moveToPack_14 : decode cX2_moveToPack 14 = .ok (.ifnull 7, 3) := by decide +kernel
theorem dX2_moveToPack_17 : decode cX2_moveToPack 17 = .ok (.aload_n 3, 1) := by decide +kernel
theorem dX2_moveToPack_18 : decode cX2_moveToPack 18 = .ok (.ifnonnull 5, 3) := by decide +kernel
theorem dX2_moveToPack_21 : decode cX2_moveToPack 21 = .ok (.iconst 0, 1) := by decide +kernel
theorem dX2_moveToPack_22 : decode cX2_moveToPack 22 = .ok (.ireturn, 1) := by decide +kernel
theorem dX2_moveToPack_23 : decode cX2_moveToPack 23 = .ok (.aload_n 2, 1) := by decide +kernel
theorem dX2_moveToPack_24 : decode cX2_moveToPack 24 = .ok (.aload_n 2, 1) := by decide +kernel
theorem dX2_moveToPack_25 : decode cX2_moveToPack 25 = .ok (.invokevirtual 241, 3) := by decide +kernel
theorem dX2_moveToPack_28 : decode cX2_moveToPack 28 = .ok (.aload_n 0, 1) := by decide +kernel
theorem dX2_moveToPack_29 : decode cX2_moveToPack 29 = .ok (.getfield 28, 3) := by decide +kernel
theorem dX2_moveToPack_32 : decode cX2_moveToPack 32 = .ok (.invokevirtual 101, 3) := by decide +kernel
theorem dX2_moveToPack_35 : decode cX2_moveToPack 35 = .ok (.aload_n 3, 1) := by decide +kernel
theorem dX2_moveToPack_36 : decode cX2_moveToPack 36 = .ok (.aload_n 3, 1) := by decide +kernel
theorem dX2_moveToPack_37 : decode cX2_moveToPack 37 = .ok (.invokevirtual 78, 3) := by decide +kernel
theorem dX2_moveToPack_40 : decode cX2_moveToPack 40 = .ok (.invokevirtual 81, 3) := by decide +kernel
theorem dX2_moveToPack_43 : decode cX2_moveToPack 43 = .ok (.iconst 1, 1) := by decide +kernel
theorem dX2_moveToPack_44 : decode cX2_moveToPack 44 = .ok (.ireturn, 1) := by decide +kernel
theorem dX2_gainsOf_0 : decode cX2_gainsOf 0 = .ok (.iconst 0, 1) := by decide +kernel
theorem dX2_gainsOf_1 : decode cX2_gainsOf 1 = .ok (.istore_n 2, 1) := by decide +kernel
theorem dX2_gainsOf_2 : decode cX2_gainsOf 2 = .ok (.iconst 0, 1) := by decide +kernel
theorem dX2_gainsOf_3 : decode cX2_gainsOf 3 = .ok (.istore_n 3, 1) := by decide +kernel
theorem dX2_gainsOf_4 : decode cX2_gainsOf 4 = .ok (.aload_n 0, 1) := by decide +kernel
theorem dX2_gainsOf_5 : decode cX2_gainsOf 5 = .ok (.getfield 11, 3) := by decide +kernel
theorem dX2_gainsOf_8 : decode cX2_gainsOf 8 = .ok (.astore 4, 2) := by decide +kernel
theorem dX2_gainsOf_10 : decode cX2_gainsOf 10 = .ok (.aload 4, 2) := by decide +kernel
theorem dX2_gainsOf_12 : decode cX2_gainsOf 12 = .ok (.arraylength, 1) := by decide +kernel
theorem dX2_gainsOf_13 : decode cX2_gainsOf 13 = .ok (.istore 5, 2) := by decide +kernel
theorem dX2_gainsOf_15 : decode cX2_gainsOf 15 = .ok (.iconst 0, 1) := by decide +kernel
theorem dX2_gainsOf_16 : decode cX2_gainsOf 16 = .ok (.istore 6, 2) := by decide +kernel
theorem dX2_gainsOf_18 : decode cX2_gainsOf 18 = .ok (.iload 6, 2) := by decide +kernel
theorem dX2_gainsOf_20 : decode cX2_gainsOf 20 = .ok (.iload 5, 2) := by decide +kernel
theorem dX2_gainsOf_22 : decode cX2_gainsOf 22 = .ok (.if_icmp .ge 45, 3) := by decide +kernel
theorem dX2_gainsOf_25 : decode cX2_gainsOf 25 = .ok (.aload 4, 2) := by decide +kernel
theorem dX2_gainsOf_27 : decode cX2_gainsOf 27 = .ok (.iload 6, 2) := by decide +kernel
theorem dX2_gainsOf_29 : decode cX2_gainsOf 29 = .ok (.aaload, 1) := by decide +kernel
theorem dX2_gainsOf_30 : decode cX2_gainsOf 30 = .ok (.astore 7, 2) := by decide +kernel
theorem dX2_gainsOf_32 : decode cX2_gainsOf 32 = .ok (.aload 7, 2) := by decide +kernel
theorem dX2_gainsOf_34 : decode cX2_gainsOf 34 = .ok (.aload_n 1, 1) := by decide +kernel
theorem dX2_gainsOf_35 : decode cX2_gainsOf 35 = .ok (.invokevirtual 235, 3) := by decide +kernel
theorem dX2_gainsOf_38 : decode cX2_gainsOf 38 = .ok (.ifCond .eq 23, 3) := by decide +kernel
theorem dX2_gainsOf_41 : decode cX2_gainsOf 41 = .ok (.aload 7, 2) := by decide +kernel
theorem dX2_gainsOf_43 : decode cX2_gainsOf 43 = .ok (.invokevirtual 70, 3) := by decide +kernel
theorem dX2_gainsOf_46 : decode cX2_gainsOf 46 = .ok (.iconst 2, 1) := by decide +kernel
theorem dX2_gainsOf_47 : decode cX2_gainsOf 47 = .ok (.if_icmp .ne 14, 3) := by decide +kernel
theorem dX2_gainsOf_50 : decode cX2_gainsOf 50 = .ok (.iload_n 2, 1) := by decide +kernel
theorem dX2_gainsOf_51 : decode cX2_gainsOf 51 = .ok (.aload 7, 2) := by decide +kernel
theorem dX2_gainsOf_53 : decode cX2_gainsOf 53 = .ok (.getfield 104, 3) := by decide +kernel
theorem dX2_gainsOf_56 : decode cX2_gainsOf 56 = .ok (.iadd, 1) := by decide +kernel
theorem dX2_gainsOf_57 : decode cX2_gainsOf 57 = .ok (.istore_n 2, 1) := by decide +kernel
theorem dX2_gainsOf_58 : decode cX2_gainsOf 58 = .ok (.iinc 3 1, 3) := by decide +kernel
theorem dX2_gainsOf_61 : decode cX2_gainsOf 61 = .ok (.iinc 6 1, 3) := by decide +kernel
theorem dX2_gainsOf_64 : decode cX2_gainsOf 64 = .ok (.goto (-46), 3) := by decide +kernel
theorem dX2_gainsOf_67 : decode cX2_gainsOf 67 = .ok (.iload_n 3, 1) := by decide +kernel
theorem dX2_gainsOf_68 : decode cX2_gainsOf 68 = .ok (.aload_n 1, 1) := by decide +kernel
theorem dX2_gainsOf_69 : decode cX2_gainsOf 69 = .ok (.iload_n 2, 1) := by decide +kernel
theorem dX2_gainsOf_70 : decode cX2_gainsOf 70 = .ok (.invokevirtual 161, 3) := by decide +kernel
theorem dX2_gainsOf_73 : decode cX2_gainsOf 73 = .ok (.isub, 1) := by decide +kernel
theorem dX2_gainsOf_74 : decode cX2_gainsOf 74 = .ok (.ireturn, 1) := by decide +kernel
theorem dX2_freeShelves_0 : decode cX2_freeShelves 0 = .ok (.iconst 0, 1) := by decide +kernel
theorem dX2_freeShelves_1 : decode cX2_freeShelves 1 = .ok (.istore_n 1, 1) := by decide +kernel
theorem dX2_freeShelves_2 : decode cX2_freeShelves 2 = .ok (.aload_n 0, 1) := by decide +kernel
theorem dX2_freeShelves_3 : decode cX2_freeShelves 3 = .ok (.getfield 11, 3) := by decide +kernel
theorem dX2_freeShelves_6 : decode cX2_freeShelves 6 = .ok (.astore_n 2, 1) := by decide +kernel
theorem dX2_freeShelves_7 : decode cX2_freeShelves 7 = .ok (.aload_n 2, 1) := by decide +kernel
theorem dX2_freeShelves_8 : decode cX2_freeShelves 8 = .ok (.arraylength, 1) := by decide +kernel
theorem dX2_freeShelves_9 : decode cX2_freeShelves 9 = .ok (.istore_n 3, 1) := by decide +kernel
theorem dX2_freeShelves_10 : decode cX2_freeShelves 10 = .ok (.iconst 0, 1) := by decide +kernel
theorem dX2_freeShelves_11 : decode cX2_freeShelves 11 = .ok (.istore 4, 2) := by decide +kernel
theorem dX2_freeShelves_13 : decode cX2_freeShelves 13 = .ok (.iload 4, 2) := by decide +kernel
theorem dX2_freeShelves_15 : decode cX2_freeShelves 15 = .ok (.iload_n 3, 1) := by decide +kernel
theorem dX2_freeShelves_16 : decode cX2_freeShelves 16 = .ok (.if_icmp .ge 26, 3) := by decide +kernel
theorem dX2_freeShelves_19 : decode cX2_freeShelves 19 = .ok (.aload_n 2, 1) := by decide +kernel
theorem dX2_freeShelves_20 : decode cX2_freeShelves 20 = .ok (.iload 4, 2) := by decide +kernel
theorem dX2_freeShelves_22 : decode cX2_freeShelves 22 = .ok (.aaload, 1) := by decide +kernel
theorem dX2_freeShelves_23 : decode cX2_freeShelves 23 = .ok (.astore 5, 2) := by decide +kernel
theorem dX2_freeShelves_25 : decode cX2_freeShelves 25 = .ok (.aload 5, 2) := by decide +kernel
theorem dX2_freeShelves_27 : decode cX2_freeShelves 27 = .ok (.invokevirtual 70, 3) := by decide +kernel
theorem dX2_freeShelves_30 : decode cX2_freeShelves 30 = .ok (.ifCond .ne 6, 3) := by decide +kernel
theorem dX2_freeShelves_33 : decode cX2_freeShelves 33 = .ok (.iinc 1 1, 3) := by decide +kernel
theorem dX2_freeShelves_36 : decode cX2_freeShelves 36 = .ok (.iinc 4 1, 3) := by decide +kernel
theorem dX2_freeShelves_39 : decode cX2_freeShelves 39 = .ok (.goto (-26), 3) := by decide +kernel
theorem dX2_freeShelves_42 : decode cX2_freeShelves 42 = .ok (.iload_n 1, 1) := by decide +kernel
theorem dX2_freeShelves_43 : decode cX2_freeShelves 43 = .ok (.ireturn, 1) := by decide +kernel
theorem dX2_takenShelves_0 : decode cX2_takenShelves 0 = .ok (.bipush 12, 2) := by decide +kernel
theorem dX2_takenShelves_2 : decode cX2_takenShelves 2 = .ok (.aload_n 0, 1) := by decide +kernel
theorem dX2_takenShelves_3 : decode cX2_takenShelves 3 = .ok (.invokevirtual 134, 3) := by decide +kernel
theorem dX2_takenShelves_6 : decode cX2_takenShelves 6 = .ok (.isub, 1) := by decide +kernel
theorem dX2_takenShelves_7 : decode cX2_takenShelves 7 = .ok (.ireturn, 1) := by decide +kernel
theorem dX2_shelvesOf_0 : decode cX2_shelvesOf 0 = .ok (.iconst 0, 1) := by decide +kernel
theorem dX2_shelvesOf_1 : decode cX2_shelvesOf 1 = .ok (.istore_n 2, 1) := by decide +kernel
theorem dX2_shelvesOf_2 : decode cX2_shelvesOf 2 = .ok (.aload_n 0, 1) := by decide +kernel
theorem dX2_shelvesOf_3 : decode cX2_shelvesOf 3 = .ok (.getfield 11, 3) := by decide +kernel
theorem dX2_shelvesOf_6 : decode cX2_shelvesOf 6 = .ok (.astore_n 3, 1) := by decide +kernel
theorem dX2_shelvesOf_7 : decode cX2_shelvesOf 7 = .ok (.aload_n 3, 1) := by decide +kernel
theorem dX2_shelvesOf_8 : decode cX2_shelvesOf 8 = .ok (.arraylength, 1) := by decide +kernel
theorem dX2_shelvesOf_9 : decode cX2_shelvesOf 9 = .ok (.istore 4, 2) := by decide +kernel
theorem dX2_shelvesOf_11 : decode cX2_shelvesOf 11 = .ok (.iconst 0, 1) := by decide +kernel
theorem dX2_shelvesOf_12 : decode cX2_shelvesOf 12 = .ok (.istore 5, 2) := by decide +kernel
theorem dX2_shelvesOf_14 : decode cX2_shelvesOf 14 = .ok (.iload 5, 2) := by decide +kernel
theorem dX2_shelvesOf_16 : decode cX2_shelvesOf 16 = .ok (.iload 4, 2) := by decide +kernel
theorem dX2_shelvesOf_18 : decode cX2_shelvesOf 18 = .ok (.if_icmp .ge 27, 3) := by decide +kernel
theorem dX2_shelvesOf_21 : decode cX2_shelvesOf 21 = .ok (.aload_n 3, 1) := by decide +kernel
theorem dX2_shelvesOf_22 : decode cX2_shelvesOf 22 = .ok (.iload 5, 2) := by decide +kernel
theorem dX2_shelvesOf_24 : decode cX2_shelvesOf 24 = .ok (.aaload, 1) := by decide +kernel
theorem dX2_shelvesOf_25 : decode cX2_shelvesOf 25 = .ok (.astore 6, 2) := by decide +kernel
theorem dX2_shelvesOf_27 : decode cX2_shelvesOf 27 = .ok (.aload 6, 2) := by decide +kernel
theorem dX2_shelvesOf_29 : decode cX2_shelvesOf 29 = .ok (.aload_n 1, 1) := by decide +kernel
theorem dX2_shelvesOf_30 : decode cX2_shelvesOf 30 = .ok (.invokevirtual 235, 3) := by decide +kernel
theorem dX2_shelvesOf_33 : decode cX2_shelvesOf 33 = .ok (.ifCond .eq 6, 3) := by decide +kernel
theorem dX2_shelvesOf_36 : decode cX2_shelvesOf 36 = .ok (.iinc 2 1, 3) := by decide +kernel
theorem dX2_shelvesOf_39 : decode cX2_shelvesOf 39 = .ok (.iinc 5 1, 3) := by decide +kernel
theorem dX2_shelvesOf_42 : decode cX2_shelvesOf 42 = .ok (.goto (-28), 3) := by decide +kernel
theorem dX2_shelvesOf_45 : decode cX2_shelvesOf 45 = .ok (.iload_n 2, 1) := by decide +kernel
theorem dX2_shelvesOf_46 : decode cX2_shelvesOf 46 = .ok (.ireturn, 1) := by decide +kernel
theorem dX2_shelvesInState_0 : decode cX2_shelvesInState 0 = .ok (.iconst 0, 1) := by decide +kernel
theorem dX2_shelvesInState_1 : decode cX2_shelvesInState 1 = .ok (.istore_n 3, 1) := by decide +kernel
theorem dX2_shelvesInState_2 : decode cX2_shelvesInState 2 = .ok (.aload_n 0, 1) := by decide +kernel
theorem dX2_shelvesInState_3 : decode cX2_shelvesInState 3 = .ok (.getfield 11, 3) := by decide +kernel
theorem dX2_shelvesInState_6 : decode cX2_shelvesInState 6 = .ok (.astore 4, 2) := by decide +kernel
theorem dX2_shelvesInState_8 : decode cX2_shelvesInState 8 = .ok (.aload 4, 2) := by decide +kernel
theorem dX2_shelvesInState_10 : decode cX2_shelvesInState 10 = .ok (.arraylength, 1) := by decide +kernel
theorem dX2_shelvesInState_11 : decode cX2_shelvesInState 11 = .ok (.istore 5, 2) := by decide +kernel
theorem dX2_shelvesInState_13 : decode cX2_shelvesInState 13 = .ok (.iconst 0, 1) := by decide +kernel
theorem dX2_shelvesInState_14 : decode cX2_shelvesInState 14 = .ok (.istore 6, 2) := by decide +kernel
theorem dX2_shelvesInState_16 : decode cX2_shelvesInState 16 = .ok (.iload 6, 2) := by decide +kernel
theorem dX2_shelvesInState_18 : decode cX2_shelvesInState 18 = .ok (.iload 5, 2) := by decide +kernel
theorem dX2_shelvesInState_20 : decode cX2_shelvesInState 20 = .ok (.if_icmp .ge 37, 3) := by decide +kernel
theorem dX2_shelvesInState_23 : decode cX2_shelvesInState 23 = .ok (.aload 4, 2) := by decide +kernel
theorem dX2_shelvesInState_25 : decode cX2_shelvesInState 25 = .ok (.iload 6, 2) := by decide +kernel
theorem dX2_shelvesInState_27 : decode cX2_shelvesInState 27 = .ok (.aaload, 1) := by decide +kernel
theorem dX2_shelvesInState_28 : decode cX2_shelvesInState 28 = .ok (.astore 7, 2) := by decide +kernel
theorem dX2_shelvesInState_30 : decode cX2_shelvesInState 30 = .ok (.aload 7, 2) := by decide +kernel
theorem dX2_shelvesInState_32 : decode cX2_shelvesInState 32 = .ok (.aload_n 1, 1) := by decide +kernel
theorem dX2_shelvesInState_33 : decode cX2_shelvesInState 33 = .ok (.invokevirtual 235, 3) := by decide +kernel
theorem dX2_shelvesInState_36 : decode cX2_shelvesInState 36 = .ok (.ifCond .eq 15, 3) := by decide +kernel
theorem dX2_shelvesInState_39 : decode cX2_shelvesInState 39 = .ok (.aload 7, 2) := by decide +kernel
theorem dX2_shelvesInState_41 : decode cX2_shelvesInState 41 = .ok (.invokevirtual 70, 3) := by decide +kernel
theorem dX2_shelvesInState_44 : decode cX2_shelvesInState 44 = .ok (.iload_n 2, 1) := by decide +kernel
theorem dX2_shelvesInState_45 : decode cX2_shelvesInState 45 = .ok (.if_icmp .ne 6, 3) := by decide +kernel
theorem dX2_shelvesInState_48 : decode cX2_shelvesInState 48 = .ok (.iinc 3 1, 3) := by decide +kernel
theorem dX2_shelvesInState_51 : decode cX2_shelvesInState 51 = .ok (.iinc 6 1, 3) := by decide +kernel
theorem dX2_shelvesInState_54 : decode cX2_shelvesInState 54 = .ok (.goto (-38), 3) := by decide +kernel
theorem dX2_shelvesInState_57 : decode cX2_shelvesInState 57 = .ok (.iload_n 3, 1) := by decide +kernel
theorem dX2_shelvesInState_58 : decode cX2_shelvesInState 58 = .ok (.ireturn, 1) := by decide +kernel
theorem dX2_bowlsOf_0 : decode cX2_bowlsOf 0 = .ok (.iconst 0, 1) := by decide +kernel
theorem dX2_bowlsOf_1 : decode cX2_bowlsOf 1 = .ok (.istore_n 2, 1) := by decide +kernel
theorem dX2_bowlsOf_2 : decode cX2_bowlsOf 2 = .ok (.aload_n 0, 1) := by decide +kernel
theorem dX2_bowlsOf_3 : decode cX2_bowlsOf 3 = .ok (.getfield 11, 3) := by decide +kernel
theorem dX2_bowlsOf_6 : decode cX2_bowlsOf 6 = .ok (.astore_n 3, 1) := by decide +kernel
theorem dX2_bowlsOf_7 : decode cX2_bowlsOf 7 = .ok (.aload_n 3, 1) := by decide +kernel
theorem dX2_bowlsOf_8 : decode cX2_bowlsOf 8 = .ok (.arraylength, 1) := by decide +kernel
theorem dX2_bowlsOf_9 : decode cX2_bowlsOf 9 = .ok (.istore 4, 2) := by decide +kernel
theorem dX2_bowlsOf_11 : decode cX2_bowlsOf 11 = .ok (.iconst 0, 1) := by decide +kernel
theorem dX2_bowlsOf_12 : decode cX2_bowlsOf 12 = .ok (.istore 5, 2) := by decide +kernel
theorem dX2_bowlsOf_14 : decode cX2_bowlsOf 14 = .ok (.iload 5, 2) := by decide +kernel
theorem dX2_bowlsOf_16 : decode cX2_bowlsOf 16 = .ok (.iload 4, 2) := by decide +kernel
theorem dX2_bowlsOf_18 : decode cX2_bowlsOf 18 = .ok (.if_icmp .ge 32, 3) := by decide +kernel
theorem dX2_bowlsOf_21 : decode cX2_bowlsOf 21 = .ok (.aload_n 3, 1) := by decide +kernel
theorem dX2_bowlsOf_22 : decode cX2_bowlsOf 22 = .ok (.iload 5, 2) := by decide +kernel
theorem dX2_bowlsOf_24 : decode cX2_bowlsOf 24 = .ok (.aaload, 1) := by decide +kernel
theorem dX2_bowlsOf_25 : decode cX2_bowlsOf 25 = .ok (.astore 6, 2) := by decide +kernel
theorem dX2_bowlsOf_27 : decode cX2_bowlsOf 27 = .ok (.aload 6, 2) := by decide +kernel
theorem dX2_bowlsOf_29 : decode cX2_bowlsOf 29 = .ok (.aload_n 1, 1) := by decide +kernel
theorem dX2_bowlsOf_30 : decode cX2_bowlsOf 30 = .ok (.invokevirtual 235, 3) := by decide +kernel
theorem dX2_bowlsOf_33 : decode cX2_bowlsOf 33 = .ok (.ifCond .eq 11, 3) := by decide +kernel
theorem dX2_bowlsOf_36 : decode cX2_bowlsOf 36 = .ok (.iload_n 2, 1) := by decide +kernel
theorem dX2_bowlsOf_37 : decode cX2_bowlsOf 37 = .ok (.aload 6, 2) := by decide +kernel
theorem dX2_bowlsOf_39 : decode cX2_bowlsOf 39 = .ok (.getfield 104, 3) := by decide +kernel
theorem dX2_bowlsOf_42 : decode cX2_bowlsOf 42 = .ok (.iadd, 1) := by decide +kernel
theorem dX2_bowlsOf_43 : decode cX2_bowlsOf 43 = .ok (.istore_n 2, 1) := by decide +kernel
theorem dX2_bowlsOf_44 : decode cX2_bowlsOf 44 = .ok (.iinc 5 1, 3) := by decide +kernel
theorem dX2_bowlsOf_47 : decode cX2_bowlsOf 47 = .ok (.goto (-33), 3) := by decide +kernel
theorem dX2_bowlsOf_50 : decode cX2_bowlsOf 50 = .ok (.iload_n 2, 1) := by decide +kernel
theorem dX2_bowlsOf_51 : decode cX2_bowlsOf 51 = .ok (.ireturn, 1) := by decide +kernel
theorem dX2_gapsOf_0 : decode cX2_gapsOf 0 = .ok (.aload_n 0, 1) := by decide +kernel
theorem dX2_gapsOf_1 : decode cX2_gapsOf 1 = .ok (.aload_n 1, 1) := by decide +kernel
theorem dX2_gapsOf_2 : decode cX2_gapsOf 2 = .ok (.invokevirtual 199, 3) := by decide +kernel
theorem dX2_gapsOf_5 : decode cX2_gapsOf 5 = .ok (.aload_n 1, 1) := by decide +kernel
theorem dX2_gapsOf_6 : decode cX2_gapsOf 6 = .ok (.getfield 156, 3) := by decide +kernel
theorem dX2_gapsOf_9 : decode cX2_gapsOf 9 = .ok (.imul, 1) := by decide +kernel
theorem dX2_gapsOf_10 : decode cX2_gapsOf 10 = .ok (.aload_n 0, 1) := by decide +kernel
theorem dX2_gapsOf_11 : decode cX2_gapsOf 11 = .ok (.aload_n 1, 1) := by decide +kernel
theorem dX2_gapsOf_12 : decode cX2_gapsOf 12 = .ok (.invokevirtual 205, 3) := by decide +kernel
theorem dX2_gapsOf_15 : decode cX2_gapsOf 15 = .ok (.isub, 1) := by decide +kernel
theorem dX2_gapsOf_16 : decode cX2_gapsOf 16 = .ok (.ireturn, 1) := by decide +kernel
theorem dX2_bowlsInAll_0 : decode cX2_bowlsInAll 0 = .ok (.iconst 0, 1) := by decide +kernel
theorem dX2_bowlsInAll_1 : decode cX2_bowlsInAll 1 = .ok (.istore_n 1, 1) := by decide +kernel
theorem dX2_bowlsInAll_2 : decode cX2_bowlsInAll 2 = .ok (.aload_n 0, 1) := by decide +kernel
theorem dX2_bowlsInAll_3 : decode cX2_bowlsInAll 3 = .ok (.getfield 11, 3) := by decide +kernel
theorem dX2_bowlsInAll_6 : decode cX2_bowlsInAll 6 = .ok (.astore_n 2, 1) := by decide +kernel
theorem dX2_bowlsInAll_7 : decode cX2_bowlsInAll 7 = .ok (.aload_n 2, 1) := by decide +kernel
theorem dX2_bowlsInAll_8 : decode cX2_bowlsInAll 8 = .ok (.arraylength, 1) := by decide +kernel
theorem dX2_bowlsInAll_9 : decode cX2_bowlsInAll 9 = .ok (.istore_n 3, 1) := by decide +kernel
theorem dX2_bowlsInAll_10 : decode cX2_bowlsInAll 10 = .ok (.iconst 0, 1) := by decide +kernel
theorem dX2_bowlsInAll_11 : decode cX2_bowlsInAll 11 = .ok (.istore 4, 2) := by decide +kernel
theorem dX2_bowlsInAll_13 : decode cX2_bowlsInAll 13 = .ok (.iload 4, 2) := by decide +kernel
theorem dX2_bowlsInAll_15 : decode cX2_bowlsInAll 15 = .ok (.iload_n 3, 1) := by decide +kernel
theorem dX2_bowlsInAll_16 : decode cX2_bowlsInAll 16 = .ok (.if_icmp .ge 23, 3) := by decide +kernel
theorem dX2_bowlsInAll_19 : decode cX2_bowlsInAll 19 = .ok (.aload_n 2, 1) := by decide +kernel
theorem dX2_bowlsInAll_20 : decode cX2_bowlsInAll 20 = .ok (.iload 4, 2) := by decide +kernel
theorem dX2_bowlsInAll_22 : decode cX2_bowlsInAll 22 = .ok (.aaload, 1) := by decide +kernel
theorem dX2_bowlsInAll_23 : decode cX2_bowlsInAll 23 = .ok (.astore 5, 2) := by decide +kernel
theorem dX2_bowlsInAll_25 : decode cX2_bowlsInAll 25 = .ok (.iload_n 1, 1) := by decide +kernel
theorem dX2_bowlsInAll_26 : decode cX2_bowlsInAll 26 = .ok (.aload 5, 2) := by decide +kernel
theorem dX2_bowlsInAll_28 : decode cX2_bowlsInAll 28 = .ok (.getfield 104, 3) := by decide +kernel
theorem dX2_bowlsInAll_31 : decode cX2_bowlsInAll 31 = .ok (.iadd, 1) := by decide +kernel
theorem dX2_bowlsInAll_32 : decode cX2_bowlsInAll 32 = .ok (.istore_n 1, 1) := by decide +kernel
theorem dX2_bowlsInAll_33 : decode cX2_bowlsInAll 33 = .ok (.iinc 4 1, 3) := by decide +kernel
theorem dX2_bowlsInAll_36 : decode cX2_bowlsInAll 36 = .ok (.goto (-23), 3) := by decide +kernel
theorem dX2_bowlsInAll_39 : decode cX2_bowlsInAll 39 = .ok (.iload_n 1, 1) := by decide +kernel
theorem dX2_bowlsInAll_40 : decode cX2_bowlsInAll 40 = .ok (.ireturn, 1) := by decide +kernel
theorem dX2_spansUnderBowls_0 : decode cX2_spansUnderBowls 0 = .ok (.iconst 0, 1) := by decide +kernel
theorem dX2_spansUnderBowls_1 : decode cX2_spansUnderBowls 1 = .ok (.istore_n 1, 1) := by decide +kernel
theorem dX2_spansUnderBowls_2 : decode cX2_spansUnderBowls 2 = .ok (.aload_n 0, 1) := by decide +kernel
theorem dX2_spansUnderBowls_3 : decode cX2_spansUnderBowls 3 = .ok (.getfield 11, 3) := by decide +kernel
theorem dX2_spansUnderBowls_6 : decode cX2_spansUnderBowls 6 = .ok (.astore_n 2, 1) := by decide +kernel
theorem dX2_spansUnderBowls_7 : decode cX2_spansUnderBowls 7 = .ok (.aload_n 2, 1) := by decide +kernel
theorem dX2_spansUnderBowls_8 : decode cX2_spansUnderBowls 8 = .ok (.arraylength, 1) := by decide +kernel
theorem dX2_spansUnderBowls_9 : decode cX2_spansUnderBowls 9 = .ok (.istore_n 3, 1) := by decide +kernel
theorem dX2_spansUnderBowls_10 : decode cX2_spansUnderBowls 10 = .ok (.iconst 0, 1) := by decide +kernel
theorem dX2_spansUnderBowls_11 : decode cX2_spansUnderBowls 11 = .ok (.istore 4, 2) := by decide +kernel
