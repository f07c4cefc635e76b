theorem dX0_init_0 : decode cX0_init 0 = .ok (.aload_n 0, 1) := by decide +kernel
theorem dX0_init_1 : decode cX0_init 1 = .ok (.invokespecial 3, 3) := by decide +kernel
theorem dX0_init_4 : decode cX0_init 4 = .ok (.aload_n 0, 1) := by decide +kernel
theorem dX0_init_5 : decode cX0_init 5 = .ok (.bipush 20, 2) := by decide +kernel
theorem dX0_init_7 : decode cX0_init 7 = .ok (.newarray .int, 2) := by decide +kernel
theorem dX0_init_9 : decode cX0_init 9 = .ok (.putfield 9, 3) := by decide +kernel
theorem dX0_init_12 : decode cX0_init 12 = .ok (.aload_n 0, 1) := by decide +kernel
theorem dX0_init_13 : decode cX0_init 13 = .ok (.aconst_null, 1) := by decide +kernel
theorem dX0_init_14 : decode cX0_init 14 = .ok (.putfield 15, 3) := by decide +kernel
theorem dX0_init_17 : decode cX0_init 17 = .ok (.aload_n 0, 1) := by decide +kernel
theorem dX0_init_18 : decode cX0_init 18 = .ok (.iload_n 1, 1) := by decide +kernel
theorem dX0_init_19 : decode cX0_init 19 = .ok (.putfield 19, 3) := by decide +kernel
theorem dX0_init_22 : decode cX0_init 22 = .ok (.aload_n 0, 1) := by decide +kernel
theorem dX0_init_23 : decode cX0_init 23 = .ok (.iload_n 2, 1) := by decide +kernel
theorem dX0_init_24 : decode cX0_init 24 = .ok (.putfield 23, 3) := by decide +kernel
theorem dX0_init_27 : decode cX0_init 27 = .ok (.return_, 1) := by decide +kernel
theorem dX0_parcelsLeftOn_0 : decode cX0_parcelsLeftOn 0 = .ok (.iconst 0, 1) := by decide +kernel
theorem dX0_parcelsLeftOn_1 : decode cX0_parcelsLeftOn 1 = .ok (.istore_n 2, 1) := by decide +kernel
theorem dX0_parcelsLeftOn_2 : decode cX0_parcelsLeftOn 2 = .ok (.aload_n 0, 1) := by decide +kernel
theorem dX0_parcelsLeftOn_3 : decode cX0_parcelsLeftOn 3 = .ok (.getfield 15, 3) := by decide +kernel
theorem dX0_parcelsLeftOn_6 : decode cX0_parcelsLeftOn 6 = .ok (.astore_n 3, 1) := by decide +kernel
theorem dX0_parcelsLeftOn_7 : decode cX0_parcelsLeftOn 7 = .ok (.aload_n 3, 1) := by decide +kernel
theorem dX0_parcelsLeftOn_8 : decode cX0_parcelsLeftOn 8 = .ok (.ifnull 26, 3) := by decide +kernel
theorem dX0_parcelsLeftOn_11 : decode cX0_parcelsLeftOn 11 = .ok (.aload_n 3, 1) := by decide +kernel
theorem dX0_parcelsLeftOn_12 : decode cX0_parcelsLeftOn 12 = .ok (.iload_n 1, 1) := by decide +kernel
theorem dX0_parcelsLeftOn_13 : decode cX0_parcelsLeftOn 13 = .ok (.invokevirtual 26, 3) := by decide +kernel
theorem dX0_parcelsLeftOn_16 : decode cX0_parcelsLeftOn 16 = .ok (.ifCond .eq 10, 3) := by decide +kernel
theorem dX0_parcelsLeftOn_19 : decode cX0_parcelsLeftOn 19 = .ok (.iload_n 2, 1) := by decide +kernel
theorem dX0_parcelsLeftOn_20 : decode cX0_parcelsLeftOn 20 = .ok (.aload_n 3, 1) := by decide +kernel
theorem dX0_parcelsLeftOn_21 : decode cX0_parcelsLeftOn 21 = .ok (.getfield 32, 3) := by decide +kernel
theorem dX0_parcelsLeftOn_24 : decode cX0_parcelsLeftOn 24 = .ok (.iadd, 1) := by decide +kernel
theorem dX0_parcelsLeftOn_25 : decode cX0_parcelsLeftOn 25 = .ok (.istore_n 2, 1) := by decide +kernel
theorem dX0_parcelsLeftOn_26 : decode cX0_parcelsLeftOn 26 = .ok (.aload_n 3, 1) := by decide +kernel
theorem dX0_parcelsLeftOn_27 : decode cX0_parcelsLeftOn 27 = .ok (.getfield 35, 3) := by decide +kernel
theorem dX0_parcelsLeftOn_30 : decode cX0_parcelsLeftOn 30 = .ok (.astore_n 3, 1) := by decide +kernel
theorem dX0_parcelsLeftOn_31 : decode cX0_parcelsLeftOn 31 = .ok (.goto (-24), 3) := by decide +kernel
theorem dX0_parcelsLeftOn_34 : decode cX0_parcelsLeftOn 34 = .ok (.iload_n 2, 1) := by decide +kernel
theorem dX0_parcelsLeftOn_35 : decode cX0_parcelsLeftOn 35 = .ok (.ireturn, 1) := by decide +kernel
theorem dX0_referralFor_0 : decode cX0_referralFor 0 = .ok (.aconst_null, 1) := by decide +kernel
theorem dX0_referralFor_1 : decode cX0_referralFor 1 = .ok (.astore_n 2, 1) := by decide +kernel
theorem dX0_referralFor_2 : decode cX0_referralFor 2 = .ok (.aload_n 0, 1) := by decide +kernel
theorem dX0_referralFor_3 : decode cX0_referralFor 3 = .ok (.getfield 15, 3) := by decide +kernel
theorem dX0_referralFor_6 : decode cX0_referralFor 6 = .ok (.astore_n 3, 1) := by decide +kernel
theorem dX0_referralFor_7 : decode cX0_referralFor 7 = .ok (.aload_n 3, 1) := by decide +kernel
theorem dX0_referralFor_8 : decode cX0_referralFor 8 = .ok (.ifnull 43, 3) := by decide +kernel
theorem dX0_referralFor_11 : decode cX0_referralFor 11 = .ok (.aload_n 3, 1) := by decide +kernel
theorem dX0_referralFor_12 : decode cX0_referralFor 12 = .ok (.iload_n 1, 1) := by decide +kernel
theorem dX0_referralFor_13 : decode cX0_referralFor 13 = .ok (.invokevirtual 26, 3) := by decide +kernel
theorem dX0_referralFor_16 : decode cX0_referralFor 16 = .ok (.ifCond .eq 27, 3) := by decide +kernel
theorem dX0_referralFor_19 : decode cX0_referralFor 19 = .ok (.aload_n 3, 1) := by decide +kernel
theorem dX0_referralFor_20 : decode cX0_referralFor 20 = .ok (.getfield 32, 3) := by decide +kernel
theorem dX0_referralFor_23 : decode cX0_referralFor 23 = .ok (.ifCond .le 20, 3) := by decide +kernel
theorem dX0_referralFor_26 : decode cX0_referralFor 26 = .ok (.aload_n 2, 1) := by decide +kernel
theorem dX0_referralFor_27 : decode cX0_referralFor 27 = .ok (.ifnull 14, 3) := by decide +kernel
theorem dX0_referralFor_30 : decode cX0_referralFor 30 = .ok (.aload_n 3, 1) := by decide +kernel
theorem dX0_referralFor_31 : decode cX0_referralFor 31 = .ok (.getfield 38, 3) := by decide +kernel
theorem dX0_referralFor_34 : decode cX0_referralFor 34 = .ok (.aload_n 2, 1) := by decide +kernel
theorem dX0_referralFor_35 : decode cX0_referralFor 35 = .ok (.getfield 38, 3) := by decide +kernel
theorem dX0_referralFor_38 : decode cX0_referralFor 38 = .ok (.if_icmp .gt 5, 3) := by decide +kernel
theorem dX0_referralFor_41 : decode cX0_referralFor 41 = .ok (.aload_n 3, 1) := by decide +kernel
theorem dX0_referralFor_42 : decode cX0_referralFor 42 = .ok (.astore_n 2, 1) := by decide +kernel
theorem dX0_referralFor_43 : decode cX0_referralFor 43 = .ok (.aload_n 3, 1) := by decide +kernel
theorem dX0_referralFor_44 : decode cX0_referralFor 44 = .ok (.getfield 35, 3) := by decide +kernel
theorem dX0_referralFor_47 : decode cX0_referralFor 47 = .ok (.astore_n 3, 1) := by decide +kernel
theorem dX0_referralFor_48 : decode cX0_referralFor 48 = .ok (.goto (-41), 3) := by decide +kernel
theorem dX0_referralFor_51 : decode cX0_referralFor 51 = .ok (.aload_n 2, 1) := by decide +kernel
theorem dX0_referralFor_52 : decode cX0_referralFor 52 = .ok (.areturn, 1) := by decide +kernel
theorem dX0_noteHad_0 : decode cX0_noteHad 0 = .ok (.iload_n 1, 1) := by decide +kernel
theorem dX0_noteHad_1 : decode cX0_noteHad 1 = .ok (.iconst 0, 1) := by decide +kernel
theorem dX0_noteHad_2 : decode cX0_noteHad 2 = .ok (.bipush 19, 2) := by decide +kernel
theorem dX0_noteHad_4 : decode cX0_noteHad 4 = .ok (.invokestatic 41, 3) := by decide +kernel
theorem dX0_noteHad_7 : decode cX0_noteHad 7 = .ok (.ifCond .eq 13, 3) := by decide +kernel
theorem dX0_noteHad_10 : decode cX0_noteHad 10 = .ok (.aload_n 0, 1) := by decide +kernel
theorem dX0_noteHad_11 : decode cX0_noteHad 11 = .ok (.getfield 9, 3) := by decide +kernel
theorem dX0_noteHad_14 : decode cX0_noteHad 14 = .ok (.iload_n 1, 1) := by decide +kernel
theorem dX0_noteHad_15 : decode cX0_noteHad 15 = .ok (.dup2, 1) := by decide +kernel
theorem dX0_noteHad_16 : decode cX0_noteHad 16 = .ok (.iaload, 1) := by decide +kernel
theorem dX0_noteHad_17 : decode cX0_noteHad 17 = .ok (.iload_n 2, 1) := by decide +kernel
theorem dX0_noteHad_18 : decode cX0_noteHad 18 = .ok (.iadd, 1) := by decide +kernel
theorem dX0_noteHad_19 : decode cX0_noteHad 19 = .ok (.iastore, 1) := by decide +kernel
theorem dX0_noteHad_20 : decode cX0_noteHad 20 = .ok (.return_, 1) := by decide +kernel
theorem dX1_init_0 : decode cX1_init 0 = .ok (.aload_n 0, 1) := by decide +kernel
theorem dX1_init_1 : decode cX1_init 1 = .ok (.invokespecial 1, 3) := by decide +kernel
theorem dX1_init_4 : decode cX1_init 4 = .ok (.aload_n 0, 1) := by decide +kernel
theorem dX1_init_5 : decode cX1_init 5 = .ok (.iload_n 1, 1) := by decide +kernel
theorem dX1_init_6 : decode cX1_init 6 = .ok (.putfield 7, 3) := by decide +kernel
theorem dX1_init_9 : decode cX1_init 9 = .ok (.aload_n 0, 1) := by decide +kernel
theorem dX1_init_10 : decode cX1_init 10 = .ok (.iload_n 2, 1) := by decide +kernel
theorem dX1_init_11 : decode cX1_init 11 = .ok (.putfield 13, 3) := by decide +kernel
theorem dX1_init_14 : decode cX1_init 14 = .ok (.return_, 1) := by decide +kernel
theorem dX2_init_0 : decode cX2_init 0 = .ok (.aload_n 0, 1) := by decide +kernel
theorem dX2_init_1 : decode cX2_init 1 = .ok (.invokespecial 3, 3) := by decide +kernel
theorem dX2_init_4 : decode cX2_init 4 = .ok (.aload_n 0, 1) := by decide +kernel
theorem dX2_init_5 : decode cX2_init 5 = .ok (.iconst 0, 1) := by decide +kernel
theorem dX2_init_6 : decode cX2_init 6 = .ok (.putfield 9, 3) := by decide +kernel
theorem dX2_init_9 : decode cX2_init 9 = .ok (.aload_n 0, 1) := by decide +kernel
theorem dX2_init_10 : decode cX2_init 10 = .ok (.iconst 0, 1) := by decide +kernel
theorem dX2_init_11 : decode cX2_init 11 = .ok (.putfield 15, 3) := by decide +kernel
theorem dX2_init_14 : decode cX2_init 14 = .ok (.aload_n 0, 1) := by decide +kernel
theorem dX2_init_15 : decode cX2_init 15 = .ok (.iconst 0, 1) := by decide +kernel
theorem dX2_init_16 : decode cX2_init 16 = .ok (.putfield 18, 3) := by decide +kernel
theorem dX2_init_19 : decode cX2_init 19 = .ok (.aload_n 0, 1) := by decide +kernel
theorem dX2_init_20 : decode cX2_init 20 = .ok (.aconst_null, 1) := by decide +kernel
theorem dX2_init_21 : decode cX2_init 21 = .ok (.putfield 21, 3) := by decide +kernel
theorem dX2_init_24 : decode cX2_init 24 = .ok (.aload_n 0, 1) := by decide +kernel
theorem dX2_init_25 : decode cX2_init 25 = .ok (.aconst_null, 1) := by decide +kernel
theorem dX2_init_26 : decode cX2_init 26 = .ok (.putfield 25, 3) := by decide +kernel
theorem dX2_init_29 : decode cX2_init 29 = .ok (.aload_n 0, 1) := by decide +kernel
theorem dX2_init_30 : decode cX2_init 30 = .ok (.iload_n 1, 1) := by decide +kernel
theorem dX2_init_31 : decode cX2_init 31 = .ok (.putfield 29, 3) := by decide +kernel
theorem dX2_init_34 : decode cX2_init 34 = .ok (.aload_n 0, 1) := by decide +kernel
theorem dX2_init_35 : decode cX2_init 35 = .ok (.iload_n 2, 1) := by decide +kernel
theorem dX2_init_36 : decode cX2_init 36 = .ok (.putfield 32, 3) := by decide +kernel
theorem dX2_init_39 : decode cX2_init 39 = .ok (.aload_n 0, 1) := by decide +kernel
theorem dX2_init_40 : decode cX2_init 40 = .ok (.iload_n 3, 1) := by decide +kernel
theorem dX2_init_41 : decode cX2_init 41 = .ok (.putfield 35, 3) := by decide +kernel
theorem dX2_init_44 : decode cX2_init 44 = .ok (.aload_n 0, 1) := by decide +kernel
theorem dX2_init_45 : decode cX2_init 45 = .ok (.iload 4, 2) := by decide +kernel
theorem dX2_init_47 : decode cX2_init 47 = .ok (.putfield 38, 3) := by decide +kernel
theorem dX2_init_50 : decode cX2_init 50 = .ok (.aload_n 0, 1) := by decide +kernel
theorem dX2_init_51 : decode cX2_init 51 = .ok (.iload 5, 2) := by decide +kernel
theorem dX2_init_53 : decode cX2_init 53 = .ok (.putfield 41, 3) := by decide +kernel
theorem dX2_init_56 : decode cX2_init 56 = .ok (.aload_n 0, 1) := by decide +kernel
theorem dX2_init_57 : decode cX2_init 57 = .ok (.iload_n 3, 1) := by decide +kernel
theorem dX2_init_58 : decode cX2_init 58 = .ok (.putfield 44, 3) := by decide +kernel
theorem dX2_init_61 : decode cX2_init 61 = .ok (.return_, 1) := by decide +kernel
theorem dX2_tell_0 : decode cX2_tell 0 = .ok (.iload_n 1, 1) := by decide +kernel
theorem dX2_tell_1 : decode cX2_tell 1 = .ok (.tableswitch 87 0 7 #[47, 52, 57, 62, 67, 72, 77, 82], 47) := by decide +kernel
theorem dX2_tell_48 : decode cX2_tell 48 = .ok (.aload_n 0, 1) := by decide +kernel
theorem dX2_tell_49 : decode cX2_tell 49 = .ok (.getfield 32, 3) := by decide +kernel
theorem dX2_tell_52 : decode cX2_tell 52 = .ok (.ireturn, 1) := by decide +kernel
theorem dX2_tell_53 : decode cX2_tell 53 = .ok (.aload_n 0, 1) := by decide +kernel
theorem dX2_tell_54 : decode cX2_tell 54 = .ok (.getfield 35, 3) := by decide +kernel
theorem dX2_tell_57 : decode cX2_tell 57 = .ok (.ireturn, 1) := by decide +kernel
theorem dX2_tell_58 : decode cX2_tell 58 = .ok (.aload_n 0, 1) := by decide +kernel
theorem dX2_tell_59 : decode cX2_tell 59 = .ok (.getfield 38, 3) := by decide +kernel
theorem dX2_tell_62 : decode cX2_tell 62 = .ok (.ireturn, 1) := by decide +kernel
theorem dX2_tell_63 : decode cX2_tell 63 = .ok (.aload_n 0, 1) := by decide +kernel
theorem dX2_tell_64 : decode cX2_tell 64 = .ok (.getfield 41, 3) := by decide +kernel
theorem dX2_tell_67 : decode cX2_tell 67 = .ok (.ireturn, 1) := by decide +kernel
theorem dX2_tell_68 : decode cX2_tell 68 = .ok (.aload_n 0, 1) := by decide +kernel
theorem dX2_tell_69 : decode cX2_tell 69 = .ok (.getfield 44, 3) := by decide +kernel
theorem dX2_tell_72 : decode cX2_tell 72 = .ok (.ireturn, 1) := by decide +kernel
theorem dX2_tell_73 : decode cX2_tell 73 = .ok (.aload_n 0, 1) := by decide +kernel
theorem dX2_tell_74 : decode cX2_tell 74 = .ok (.getfield 9, 3) := by decide +kernel
theorem dX2_tell_77 : decode cX2_tell 77 = .ok (.ireturn, 1) := by decide +kernel
theorem dX2_tell_78 : decode cX2_tell 78 = .ok (.aload_n 0, 1) := by decide +kernel
theorem dX2_tell_79 : decode cX2_tell 79 = .ok (.getfield 15, 3) := by decide +kernel
theorem dX2_tell_82 : decode cX2_tell 82 = .ok (.ireturn, 1) := by decide +kernel
theorem dX2_tell_83 : decode cX2_tell 83 = .ok (.aload_n 0, 1) := by decide +kernel
theorem dX2_tell_84 : decode cX2_tell 84 = .ok (.getfield 18, 3) := by decide +kernel
theorem dX2_tell_87 : decode cX2_tell 87 = .ok (.ireturn, 1) := by decide +kernel
theorem dX2_tell_88 : decode cX2_tell 88 = .ok (.iconst (-1), 1) := by decide +kernel
theorem dX2_tell_89 : decode cX2_tell 89 = .ok (.ireturn, 1) := by decide +kernel
theorem dX2_mayGo_0 : decode cX2_mayGo 0 = .ok (.aload_n 0, 1) := by decide +kernel
theorem dX2_mayGo_1 : decode cX2_mayGo 1 = .ok (.getfield 44, 3) := by decide +kernel
theorem dX2_mayGo_4 : decode cX2_mayGo 4 = .ok (.ifCond .le 15, 3) := by decide +kernel
theorem dX2_mayGo_7 : decode cX2_mayGo 7 = .ok (.aload_n 0, 1) := by decide +kernel
theorem dX2_mayGo_8 : decode cX2_mayGo 8 = .ok (.getfield 38, 3) := by decide +kernel
theorem dX2_mayGo_11 : decode cX2_mayGo 11 = .ok (.iload_n 1, 1) := by decide +kernel
theorem dX2_mayGo_12 : decode cX2_mayGo 12 = .ok (.if_icmp .lt 7, 3) := by decide +kernel
theorem dX2_mayGo_15 : decode cX2_mayGo 15 = .ok (.iconst 1, 1) := by decide +kernel
theorem dX2_mayGo_16 : decode cX2_mayGo 16 = .ok (.goto 4, 3) := by decide +kernel
theorem dX2_mayGo_19 : decode cX2_mayGo 19 = .ok (.iconst 0, 1) := by decide +kernel
theorem dX2_mayGo_20 : decode cX2_mayGo 20 = .ok (.ireturn, 1) := by decide +kernel
theorem dX2_lose_0 : decode cX2_lose 0 = .ok (.aload_n 0, 1) := by decide +kernel
theorem dX2_lose_1 : decode cX2_lose 1 = .ok (.getfield 44, 3) := by decide +kernel
theorem dX2_lose_4 : decode cX2_lose 4 = .ok (.iload_n 1, 1) := by decide +kernel
theorem dX2_lose_5 : decode cX2_lose 5 = .ok (.invokestatic 47, 3) := by decide +kernel
theorem dX2_lose_8 : decode cX2_lose 8 = .ok (.istore_n 2, 1) := by decide +kernel
theorem dX2_lose_9 : decode cX2_lose 9 = .ok (.aload_n 0, 1) := by decide +kernel
theorem dX2_lose_10 : decode cX2_lose 10 = .ok (.dup, 1) := by decide +kernel
theorem dX2_lose_11 : decode cX2_lose 11 = .ok (.getfield 44, 3) := by decide +kernel
theorem dX2_lose_14 : decode cX2_lose 14 = .ok (.iload_n 2, 1) := by decide +kernel
theorem dX2_lose_15 : decode cX2_lose 15 = .ok (.isub, 1) := by decide +kernel
theorem dX2_lose_16 : decode cX2_lose 16 = .ok (.putfield 44, 3) := by decide +kernel
theorem dX2_lose_19 : decode cX2_lose 19 = .ok (.iload_n 2, 1) := by decide +kernel
theorem dX2_lose_20 : decode cX2_lose 20 = .ok (.ireturn, 1) := by decide +kernel
theorem dX2_gramsAsKnown_0 : decode cX2_gramsAsKnown 0 = .ok (.aload_n 0, 1) := by decide +kernel
theorem dX2_gramsAsKnown_1 : decode cX2_gramsAsKnown 1 = .ok (.getfield 25, 3) := by decide +kernel
theorem dX2_gramsAsKnown_4 : decode cX2_gramsAsKnown 4 = .ok (.astore_n 2, 1) := by decide +kernel
theorem dX2_gramsAsKnown_5 : decode cX2_gramsAsKnown 5 = .ok (.aload_n 2, 1) := by decide +kernel
theorem dX2_gramsAsKnown_6 : decode cX2_gramsAsKnown 6 = .ok (.ifnull 24, 3) := by decide +kernel
theorem dX2_gramsAsKnown_9 : decode cX2_gramsAsKnown 9 = .ok (.aload_n 2, 1) := by decide +kernel
theorem dX2_gramsAsKnown_10 : decode cX2_gramsAsKnown 10 = .ok (.getfield 53, 3) := by decide +kernel
theorem dX2_gramsAsKnown_13 : decode cX2_gramsAsKnown 13 = .ok (.iload_n 1, 1) := by decide +kernel
theorem dX2_gramsAsKnown_14 : decode cX2_gramsAsKnown 14 = .ok (.if_icmp .gt 8, 3) := by decide +kernel
theorem dX2_gramsAsKnown_17 : decode cX2_gramsAsKnown 17 = .ok (.aload_n 2, 1) := by decide +kernel
theorem dX2_gramsAsKnown_18 : decode cX2_gramsAsKnown 18 = .ok (.getfield 58, 3) := by decide +kernel
theorem dX2_gramsAsKnown_21 : decode cX2_gramsAsKnown 21 = .ok (.ireturn, 1) := by decide +kernel
theorem dX2_gramsAsKnown_22 : decode cX2_gramsAsKnown 22 = .ok (.aload_n 2, 1) := by decide +kernel
theorem dX2_gramsAsKnown_23 : decode cX2_gramsAsKnown 23 = .ok (.getfield 61, 3) := by decide +kernel
theorem dX2_gramsAsKnown_26 : decode cX2_gramsAsKnown 26 = .ok (.astore_n 2, 1) := by decide +kernel
theorem dX2_gramsAsKnown_27 : decode cX2_gramsAsKnown 27 = .ok (.goto (-22), 3) := by decide +kernel
theorem dX2_gramsAsKnown_30 : decode cX2_gramsAsKnown 30 = .ok (.aload_n 0, 1) := by decide +kernel
theorem dX2_gramsAsKnown_31 : decode cX2_gramsAsKnown 31 = .ok (.getfield 35, 3) := by decide +kernel
theorem dX2_gramsAsKnown_34 : decode cX2_gramsAsKnown 34 = .ok (.ireturn, 1) := by decide +kernel
theorem dX3_init_0 : decode cX3_init 0 = .ok (.aload_n 0, 1) := by decide +kernel
theorem dX3_init_1 : decode cX3_init 1 = .ok (.invokespecial 3, 3) := by decide +kernel
theorem dX3_init_4 : decode cX3_init 4 = .ok (.aload_n 0, 1) := by decide +kernel
theorem dX3_init_5 : decode cX3_init 5 = .ok (.new 9, 3) := by decide +kernel
theorem dX3_init_8 : decode cX3_init 8 = .ok (.dup, 1) := by decide +kernel
theorem dX3_init_9 : decode cX3_init 9 = .ok (.invokespecial 11, 3) := by decide +kernel
theorem dX3_init_12 : decode cX3_init 12 = .ok (.putfield 12, 3) := by decide +kernel
theorem dX3_init_15 : decode cX3_init 15 = .ok (.aload_n 0, 1) := by decide +kernel
theorem dX3_init_16 : decode cX3_init 16 = .ok (.iconst 0, 1) := by decide +kernel
theorem dX3_init_17 : decode cX3_init 17 = .ok (.putfield 18, 3) := by decide +kernel
theorem dX3_init_20 : decode cX3_init 20 = .ok (.aload_n 0, 1) := by decide +kernel
theorem dX3_init_21 : decode cX3_init 21 = .ok (.iconst 0, 1) := by decide +kernel
theorem dX3_init_22 : decode cX3_init 22 = .ok (.putfield 22, 3) := by decide +kernel
theorem dX3_init_25 : decode cX3_init 25 = .ok (.aload_n 0, 1) := by decide +kernel
theorem dX3_init_26 : decode cX3_init 26 = .ok (.iload_n 1, 1) := by decide +kernel
theorem dX3_init_27 : decode cX3_init 27 = .ok (.putfield 25, 3) := by decide +kernel
theorem dX3_init_30 : decode cX3_init 30 = .ok (.aload_n 0, 1) := by decide +kernel
theorem dX3_init_31 : decode cX3_init 31 = .ok (.iload_n 2, 1) := by decide +kernel
theorem dX3_init_32 : decode cX3_init 32 = .ok (.putfield 28, 3) := by decide +kernel
theorem dX3_init_35 : decode cX3_init 35 = .ok (.return_, 1) := by decide +kernel
theorem dX3_addLine_0 : decode cX3_addLine 0 = .ok (.aload_n 0, 1) := by decide +kernel
theorem dX3_addLine_1 : decode cX3_addLine 1 = .ok (.getfield 12, 3) := by decide +kernel
theorem dX3_addLine_4 : decode cX3_addLine 4 = .ok (.new 31, 3) := by decide +kernel
theorem dX3_addLine_7 : decode cX3_addLine 7 = .ok (.dup, 1) := by decide +kernel
theorem dX3_addLine_8 : decode cX3_addLine 8 = .ok (.iload_n 1, 1) := by decide +kernel
theorem dX3_addLine_9 : decode cX3_addLine 9 = .ok (.iload_n 2, 1) := by decide +kernel
theorem dX3_addLine_10 : decode cX3_addLine 10 = .ok (.invokespecial 33, 3) := by decide +kernel
theorem dX3_addLine_13 : decode cX3_addLine 13 = .ok (.invokevirtual 36, 3) := by decide +kernel
theorem dX3_addLine_16 : decode cX3_addLine 16 = .ok (.pop, 1) := by decide +kernel
theorem dX3_addLine_17 : decode cX3_addLine 17 = .ok (.aload_n 0, 1) := by decide +kernel
theorem dX3_addLine_18 : decode cX3_addLine 18 = .ok (.dup, 1) := by decide +kernel
theorem dX3_addLine_19 : decode cX3_addLine 19 = .ok (.getfield 18, 3) := by decide +kernel
theorem dX3_addLine_22 : decode cX3_addLine 22 = .ok (.iload_n 2, 1) := by decide +kernel
theorem dX3_addLine_23 : decode cX3_addLine 23 = .ok (.iadd, 1) := by decide +kernel
theorem dX3_addLine_24 : decode cX3_addLine 24 = .ok (.putfield 18, 3) := by decide +kernel
theorem dX3_addLine_27 : decode cX3_addLine 27 = .ok (.return_, 1) := by decide +kernel
theorem dX3_tell_0 : decode cX3_tell 0 = .ok (.iload_n 1, 1) := by decide +kernel
theorem dX3_tell_1 : decode cX3_tell 1 = .ok (.bipush 10, 2) := by decide +kernel
theorem dX3_tell_3 : decode cX3_tell 3 = .ok (.bipush 10, 2) := by decide +kernel
theorem dX3_tell_5 : decode cX3_tell 5 = .ok (.aload_n 0, 1) := by decide +kernel
theorem dX3_tell_6 : decode cX3_tell 6 = .ok (.getfield 12, 3) := by decide +kernel
theorem dX3_tell_9 : decode cX3_tell 9 = .ok (.invokevirtual 40, 3) := by decide +kernel
theorem dX3_tell_12 : decode cX3_tell 12 = .ok (.iadd, 1) := by decide +kernel
theorem dX3_tell_13 : decode cX3_tell 13 = .ok (.iconst 1, 1) := by decide +kernel
theorem dX3_tell_14 : decode cX3_tell 14 = .ok (.isub, 1) := by decide +kernel
theorem dX3_tell_15 : decode cX3_tell 15 = .ok (.invokestatic 44, 3) := by decide +kernel
theorem dX3_tell_18 : decode cX3_tell 18 = .ok (.ifCond .eq 21, 3) := by decide +kernel
theorem dX3_tell_21 : decode cX3_tell 21 = .ok (.aload_n 0, 1) := by decide +kernel
theorem dX3_tell_22 : decode cX3_tell 22 = .ok (.getfield 12, 3) := by decide +kernel
theorem dX3_tell_25 : decode cX3_tell 25 = .ok (.iload_n 1, 1) := by decide +kernel
theorem dX3_tell_26 : decode cX3_tell 26 = .ok (.bipush 10, 2) := by decide +kernel
theorem dX3_tell_28 : decode cX3_tell 28 = .ok (.isub, 1) := by decide +kernel
theorem dX3_tell_29 : decode cX3_tell 29 = .ok (.invokevirtual 48, 3) := by decide +kernel
theorem dX3_tell_32 : decode cX3_tell 32 = .ok (.checkcast 31, 3) := by decide +kernel
theorem dX3_tell_35 : decode cX3_tell 35 = .ok (.getfield 52, 3) := by decide +kernel
theorem dX3_tell_38 : decode cX3_tell 38 = .ok (.ireturn, 1) := by decide +kernel
theorem dX3_tell_39 : decode cX3_tell 39 = .ok (.iload_n 1, 1) := by decide +kernel
theorem dX3_tell_40 : decode cX3_tell 40 = .ok (.sipush 400, 3) := by decide +kernel
theorem dX3_tell_43 : decode cX3_tell 43 = .ok (.sipush 400, 3) := by decide +kernel
theorem dX3_tell_46 : decode cX3_tell 46 = .ok (.aload_n 0, 1) := by decide +kernel
theorem dX3_tell_47 : decode cX3_tell 47 = .ok (.getfield 12, 3) := by decide +kernel
theorem dX3_tell_50 : decode cX3_tell 50 = .ok (.invokevirtual 40, 3) := by decide +kernel
theorem dX3_tell_53 : decode cX3_tell 53 = .ok (.iadd, 1) := by decide +kernel
theorem dX3_tell_54 : decode cX3_tell 54 = .ok (.iconst 1, 1) := by decide +kernel
theorem dX3_tell_55 : decode cX3_tell 55 = .ok (.isub, 1) := by decide +kernel
theorem dX3_tell_56 : decode cX3_tell 56 = .ok (.invokestatic 44, 3) := by decide +kernel
theorem dX3_tell_59 : decode cX3_tell 59 = .ok (.ifCond .eq 22, 3) := by decide +kernel
theorem dX3_tell_62 : decode cX3_tell 62 = .ok (.aload_n 0, 1) := by decide +kernel
theorem dX3_tell_63 : decode cX3_tell 63 = .ok (.getfield 12, 3) := by decide +kernel
theorem dX3_tell_66 : decode cX3_tell 66 = .ok (.iload_n 1, 1) := by decide +kernel
theorem dX3_tell_67 : decode cX3_tell 67 = .ok (.sipush 400, 3) := by decide +kernel
theorem dX3_tell_70 : decode cX3_tell 70 = .ok (.isub, 1) := by decide +kernel
theorem dX3_tell_71 : decode cX3_tell 71 = .ok (.invokevirtual 48, 3) := by decide +kernel
theorem dX3_tell_74 : decode cX3_tell 74 = .ok (.checkcast 31, 3) := by decide +kernel
theorem dX3_tell_77 : decode cX3_tell 77 = .ok (.getfield 55, 3) := by decide +kernel
theorem dX3_tell_80 : decode cX3_tell 80 = .ok (.ireturn, 1) := by decide +kernel
theorem dX3_tell_81 : decode cX3_tell 81 = .ok (.iload_n 1, 1) := by decide +kernel
theorem dX3_tell_82 : decode cX3_tell 82 = .ok (.tableswitch 62 0 4 #[34, 39, 44, 52, 57], 34) := by decide +kernel
theorem dX3_tell_116 : decode cX3_tell 116 = .ok (.aload_n 0, 1) := by decide +kernel
theorem dX3_tell_117 : decode cX3_tell 117 = .ok (.getfield 25, 3) := by decide +kernel
theorem dX3_tell_120 : decode cX3_tell 120 = .ok (.ireturn, 1) := by decide +kernel
theorem dX3_tell_121 : decode cX3_tell 121 = .ok (.aload_n 0, 1) := by decide +kernel
theorem dX3_tell_122 : decode cX3_tell 122 = .ok (.getfield 28, 3) := by decide +kernel
theorem dX3_tell_125 : decode cX3_tell 125 = .ok (.ireturn, 1) := by decide +kernel
theorem dX3_tell_126 : decode cX3_tell 126 = .ok (.aload_n 0, 1) := by decide +kernel
theorem dX3_tell_127 : decode cX3_tell 127 = .ok (.getfield 12, 3) := by decide +kernel
theorem dX3_tell_130 : decode cX3_tell 130 = .ok (.invokevirtual 40, 3) := by decide +kernel
theorem dX3_tell_133 : decode cX3_tell 133 = .ok (.ireturn, 1) := by decide +kernel
theorem dX3_tell_134 : decode cX3_tell 134 = .ok (.aload_n 0, 1) := by decide +kernel
theorem dX3_tell_135 : decode cX3_tell 135 = .ok (.getfield 18, 3) := by decide +kernel
theorem dX3_tell_138 : decode cX3_tell 138 = .ok (.ireturn, 1) := by decide +kernel
theorem dX3_tell_139 : decode cX3_tell 139 = .ok (.aload_n 0, 1) := by decide +kernel
theorem dX3_tell_140 : decode cX3_tell 140 = .ok (.getfield 22, 3) := by decide +kernel
theorem dX3_tell_143 : decode cX3_tell 143 = .ok (.ireturn, 1) := by decide +kernel
theorem dX3_tell_144 : decode cX3_tell 144 = .ok (.iconst (-1), 1) := by decide +kernel
theorem dX3_tell_145 : decode cX3_tell 145 = .ok (.ireturn, 1) := by decide +kernel
theorem dX4_init_0 : decode cX4_init 0 = .ok (.aload_n 0, 1) := by decide +kernel
theorem dX4_init_1 : decode cX4_init 1 = .ok (.invokespecial 1, 3) := by decide +kernel
theorem dX4_init_4 : decode cX4_init 4 = .ok (.aload_n 0, 1) := by decide +kernel
theorem dX4_init_5 : decode cX4_init 5 = .ok (.iload_n 1, 1) := by decide +kernel
theorem dX4_init_6 : decode cX4_init 6 = .ok (.putfield 7, 3) := by decide +kernel
theorem dX4_init_9 : decode cX4_init 9 = .ok (.aload_n 0, 1) := by decide +kernel
theorem dX4_init_10 : decode cX4_init 10 = .ok (.iload_n 2, 1) := by decide +kernel
theorem dX4_init_11 : decode cX4_init 11 = .ok (.putfield 13, 3) := by decide +kernel
theorem dX4_init_14 : decode cX4_init 14 = .ok (.aload_n 0, 1) := by decide +kernel
theorem dX4_init_15 : decode cX4_init 15 = .ok (.iload_n 3, 1) := by decide +kernel
theorem dX4_init_16 : decode cX4_init 16 = .ok (.putfield 16, 3) := by decide +kernel
theorem dX4_init_19 : decode cX4_init 19 = .ok (.aload_n 0, 1) := by decide +kernel
theorem dX4_init_20 : decode cX4_init 20 = .ok (.aload 4, 2) := by decide +kernel
theorem dX4_init_22 : decode cX4_init 22 = .ok (.putfield 19, 3) := by decide +kernel
theorem dX4_init_25 : decode cX4_init 25 = .ok (.return_, 1) := by decide +kernel
theorem dX4_holds_0 : decode cX4_holds 0 = .ok (.iload_n 1, 1) := by decide +kernel
theorem dX4_holds_1 : decode cX4_holds 1 = .ok (.aload_n 0, 1) := by decide +kernel
theorem dX4_holds_2 : decode cX4_holds 2 = .ok (.getfield 7, 3) := by decide +kernel
theorem dX4_holds_5 : decode cX4_holds 5 = .ok (.aload_n 0, 1) := by decide +kernel
theorem dX4_holds_6 : decode cX4_holds 6 = .ok (.getfield 13, 3) := by decide +kernel
theorem dX4_holds_9 : decode cX4_holds 9 = .ok (.invokestatic 23, 3) := by decide +kernel
theorem dX4_holds_12 : decode cX4_holds 12 = .ok (.ireturn, 1) := by decide +kernel
theorem dX5_init_0 : decode cX5_init 0 = .ok (.aload_n 0, 1) := by decide +kernel
theorem dX5_init_1 : decode cX5_init 1 = .ok (.invokespecial 3, 3) := by decide +kernel
theorem dX5_init_4 : decode cX5_init 4 = .ok (.aload_n 0, 1) := by decide +kernel
theorem dX5_init_5 : decode cX5_init 5 = .ok (.sipush 400, 3) := by decide +kernel
theorem dX5_init_8 : decode cX5_init 8 = .ok (.newarray .byte, 2) := by decide +kernel
theorem dX5_init_10 : decode cX5_init 10 = .ok (.putfield 9, 3) := by decide +kernel
theorem dX5_init_13 : decode cX5_init 13 = .ok (.aload_n 0, 1) := by decide +kernel
theorem dX5_init_14 : decode cX5_init 14 = .ok (.new 15, 3) := by decide +kernel
theorem dX5_init_17 : decode cX5_init 17 = .ok (.dup, 1) := by decide +kernel
theorem dX5_init_18 : decode cX5_init 18 = .ok (.invokespecial 17, 3) := by decide +kernel
theorem dX5_init_21 : decode cX5_init 21 = .ok (.putfield 18, 3) := by decide +kernel
theorem dX5_init_24 : decode cX5_init 24 = .ok (.aload_n 0, 1) := by decide +kernel
theorem dX5_init_25 : decode cX5_init 25 = .ok (.iconst 0, 1) := by decide +kernel
theorem dX5_init_26 : decode cX5_init 26 = .ok (.putfield 22, 3) := by decide +kernel
theorem dX5_init_29 : decode cX5_init 29 = .ok (.aload_n 0, 1) := by decide +kernel
theorem dX5_init_30 : decode cX5_init 30 = .ok (.iconst 0, 1) := by decide +kernel
theorem dX5_init_31 : decode cX5_init 31 = .ok (.putfield 26, 3) := by decide +kernel
theorem dX5_init_34 : decode cX5_init 34 = .ok (.aload_n 0, 1) := by decide +kernel
theorem dX5_init_35 : decode cX5_init 35 = .ok (.iconst 0, 1) := by decide +kernel
theorem dX5_init_36 : decode cX5_init 36 = .ok (.putfield 29, 3) := by decide +kernel
theorem dX5_init_39 : decode cX5_init 39 = .ok (.aload_n 0, 1) := by decide +kernel
theorem dX5_init_40 : decode cX5_init 40 = .ok (.iconst (-1), 1) := by decide +kernel
theorem dX5_init_41 : decode cX5_init 41 = .ok (.putfield 32, 3) := by decide +kernel
theorem dX5_init_44 : decode cX5_init 44 = .ok (.return_, 1) := by decide +kernel
theorem dX5_append_0 : decode cX5_append 0 = .ok (.bipush 24, 2) := by decide +kernel
theorem dX5_append_2 : decode cX5_append 2 = .ok (.istore_n 2, 1) := by decide +kernel
theorem dX5_append_3 : decode cX5_append 3 = .ok (.iload_n 2, 1) := by decide +kernel
theorem dX5_append_4 : decode cX5_append 4 = .ok (.ifCond .lt 42, 3) := by decide +kernel
theorem dX5_append_7 : decode cX5_append 7 = .ok (.aload_n 0, 1) := by decide +kernel
theorem dX5_append_8 : decode cX5_append 8 = .ok (.getfield 29, 3) := by decide +kernel
theorem dX5_append_11 : decode cX5_append 11 = .ok (.sipush 400, 3) := by decide +kernel
theorem dX5_append_14 : decode cX5_append 14 = .ok (.if_icmp .ge 26, 3) := by decide +kernel
theorem dX5_append_17 : decode cX5_append 17 = .ok (.aload_n 0, 1) := by decide +kernel
theorem dX5_append_18 : decode cX5_append 18 = .ok (.getfield 9, 3) := by decide +kernel
theorem dX5_append_21 : decode cX5_append 21 = .ok (.aload_n 0, 1) := by decide +kernel
theorem dX5_append_22 : decode cX5_append 22 = .ok (.getfield 29, 3) := by decide +kernel
theorem dX5_append_25 : decode cX5_append 25 = .ok (.iload_n 1, 1) := by decide +kernel
theorem dX5_append_26 : decode cX5_append 26 = .ok (.iload_n 2, 1) := by decide +kernel
theorem dX5_append_27 : decode cX5_append 27 = .ok (.ishr, 1) := by decide +kernel
theorem dX5_append_28 : decode cX5_append 28 = .ok (.i2b, 1) := by decide +kernel
theorem dX5_append_29 : decode cX5_append 29 = .ok (.bastore, 1) := by decide +kernel
theorem dX5_append_30 : decode cX5_append 30 = .ok (.aload_n 0, 1) := by decide +kernel
theorem dX5_append_31 : decode cX5_append 31 = .ok (.dup, 1) := by decide +kernel
theorem dX5_append_32 : decode cX5_append 32 = .ok (.getfield 29, 3) := by decide +kernel
theorem dX5_append_35 : decode cX5_append 35 = .ok (.iconst 1, 1) := by decide +kernel
theorem dX5_append_36 : decode cX5_append 36 = .ok (.iadd, 1) := by decide +kernel
theorem dX5_append_37 : decode cX5_append 37 = .ok (.putfield 29, 3) := by decide +kernel
theorem dX5_append_40 : decode cX5_append 40 = .ok (.iinc 2 (-8), 3) := by decide +kernel
theorem dX5_append_43 : decode cX5_append 43 = .ok (.goto (-40), 3) := by decide +kernel
theorem dX5_append_46 : decode cX5_append 46 = .ok (.return_, 1) := by decide +kernel
theorem dX5_exchangeDraft_0 : decode cX5_exchangeDraft 0 = .ok (.aload_n 0, 1) := by decide +kernel
theorem dX5_exchangeDraft_1 : decode cX5_exchangeDraft 1 = .ok (.getfield 18, 3) := by decide +kernel
theorem dX5_exchangeDraft_4 : decode cX5_exchangeDraft 4 = .ok (.astore_n 2, 1) := by decide +kernel
theorem dX5_exchangeDraft_5 : decode cX5_exchangeDraft 5 = .ok (.aload_n 0, 1) := by decide +kernel
theorem dX5_exchangeDraft_6 : decode cX5_exchangeDraft 6 = .ok (.aload_n 1, 1) := by decide +kernel
theorem dX5_exchangeDraft_7 : decode cX5_exchangeDraft 7 = .ok (.putfield 18, 3) := by decide +kernel
theorem dX5_exchangeDraft_10 : decode cX5_exchangeDraft 10 = .ok (.aload_n 2, 1) := by decide +kernel
theorem dX5_exchangeDraft_11 : decode cX5_exchangeDraft 11 = .ok (.areturn, 1) := by decide +kernel
theorem dX5_emptyTape_0 : decode cX5_emptyTape 0 = .ok (.aload_n 0, 1) := by decide +kernel
theorem dX5_emptyTape_1 : decode cX5_emptyTape 1 = .ok (.iload_n 1, 1) := by decide +kernel
theorem dX5_emptyTape_2 : decode cX5_emptyTape 2 = .ok (.ifCond .eq 7, 3) := by decide +kernel
theorem dX5_emptyTape_5 : decode cX5_emptyTape 5 = .ok (.iconst (-1), 1) := by decide +kernel
theorem dX5_emptyTape_6 : decode cX5_emptyTape 6 = .ok (.goto 7, 3) := by decide +kernel
theorem dX5_emptyTape_9 : decode cX5_emptyTape 9 = .ok (.aload_n 0, 1) := by decide +kernel
theorem dX5_emptyTape_10 : decode cX5_emptyTape 10 = .ok (.getfield 22, 3) := by decide +kernel
theorem dX5_emptyTape_13 : decode cX5_emptyTape 13 = .ok (.putfield 32, 3) := by decide +kernel
theorem dX5_emptyTape_16 : decode cX5_emptyTape 16 = .ok (.aload_n 0, 1) := by decide +kernel
theorem dX5_emptyTape_17 : decode cX5_emptyTape 17 = .ok (.iconst 0, 1) := by decide +kernel
theorem dX5_emptyTape_18 : decode cX5_emptyTape 18 = .ok (.putfield 29, 3) := by decide +kernel
theorem dX5_emptyTape_21 : decode cX5_emptyTape 21 = .ok (.return_, 1) := by decide +kernel
theorem dX5_readText_0 : decode cX5_readText 0 = .ok (.aload_n 0, 1) := by decide +kernel
theorem dX5_readText_1 : decode cX5_readText 1 = .ok (.getfield 18, 3) := by decide +kernel
theorem dX5_readText_4 : decode cX5_readText 4 = .ok (.iconst 0, 1) := by decide +kernel
theorem dX5_readText_5 : decode cX5_readText 5 = .ok (.putfield 35, 3) := by decide +kernel
theorem dX5_readText_8 : decode cX5_readText 8 = .ok (.aload_n 0, 1) := by decide +kernel
theorem dX5_readText_9 : decode cX5_readText 9 = .ok (.iconst 0, 1) := by decide +kernel
theorem dX5_readText_10 : decode cX5_readText 10 = .ok (.putfield 26, 3) := by decide +kernel
theorem dX5_readText_13 : decode cX5_readText 13 = .ok (.aload_n 0, 1) := by decide +kernel
theorem dX5_readText_14 : decode cX5_readText 14 = .ok (.invokevirtual 38, 3) := by decide +kernel
theorem dX5_readText_17 : decode cX5_readText 17 = .ok (.aload_n 0, 1) := by decide +kernel
theorem dX5_readText_18 : decode cX5_readText 18 = .ok (.invokevirtual 41, 3) := by decide +kernel
theorem dX5_readText_21 : decode cX5_readText 21 = .ok (.ifCond .eq 5, 3) := by decide +kernel
theorem dX5_readText_24 : decode cX5_readText 24 = .ok (.iconst 1, 1) := by decide +kernel
theorem dX5_readText_25 : decode cX5_readText 25 = .ok (.ireturn, 1) := by decide +kernel
theorem dX5_readText_26 : decode cX5_readText 26 = .ok (.iconst 0, 1) := by decide +kernel
theorem dX5_readText_27 : decode cX5_readText 27 = .ok (.istore_n 1, 1) := by decide +kernel
theorem dX5_readText_28 : decode cX5_readText 28 = .ok (.iload_n 1, 1) := by decide +kernel
theorem dX5_readText_29 : decode cX5_readText 29 = .ok (.bipush 30, 2) := by decide +kernel
theorem dX5_readText_31 : decode cX5_readText 31 = .ok (.if_icmp .ge 42, 3) := by decide +kernel
theorem dX5_readText_34 : decode cX5_readText 34 = .ok (.aload_n 0, 1) := by decide +kernel
theorem dX5_readText_35 : decode cX5_readText 35 = .ok (.invokevirtual 45, 3) := by decide +kernel
theorem dX5_readText_38 : decode cX5_readText 38 = .ok (.ifCond .ne 5, 3) := by decide +kernel
theorem dX5_readText_41 : decode cX5_readText 41 = .ok (.iconst 0, 1) := by decide +kernel
theorem dX5_readText_42 : decode cX5_readText 42 = .ok (.ireturn, 1) := by decide +kernel
theorem dX5_readText_43 : decode cX5_readText 43 = .ok (.aload_n 0, 1) := by decide +kernel
theorem dX5_readText_44 : decode cX5_readText 44 = .ok (.invokevirtual 41, 3) := by decide +kernel
theorem dX5_readText_47 : decode cX5_readText 47 = .ok (.ifCond .eq 5, 3) := by decide +kernel
theorem dX5_readText_50 : decode cX5_readText 50 = .ok (.iconst 1, 1) := by decide +kernel
theorem dX5_readText_51 : decode cX5_readText 51 = .ok (.ireturn, 1) := by decide +kernel
theorem dX5_readText_52 : decode cX5_readText 52 = .ok (.aload_n 0, 1) := by decide +kernel
theorem dX5_readText_53 : decode cX5_readText 53 = .ok (.ldc 48, 2) := by decide +kernel
theorem dX5_readText_55 : decode cX5_readText 55 = .ok (.invokevirtual 50, 3) := by decide +kernel
theorem dX5_readText_58 : decode cX5_readText 58 = .ok (.ifCond .ne 5, 3) := by decide +kernel
theorem dX5_readText_61 : decode cX5_readText 61 = .ok (.iconst 0, 1) := by decide +kernel
theorem dX5_readText_62 : decode cX5_readText 62 = .ok (.ireturn, 1) := by decide +kernel
theorem dX5_readText_63 : decode cX5_readText 63 = .ok (.aload_n 0, 1) := by decide +kernel
theorem dX5_readText_64 : decode cX5_readText 64 = .ok (.invokevirtual 38, 3) := by decide +kernel
theorem dX5_readText_67 : decode cX5_readText 67 = .ok (.iinc 1 1, 3) := by decide +kernel
theorem dX5_readText_70 : decode cX5_readText 70 = .ok (.goto (-42), 3) := by decide +kernel
theorem dX5_readText_73 : decode cX5_readText 73 = .ok (.iconst 0, 1) := by decide +kernel
theorem dX5_readText_74 : decode cX5_readText 74 = .ok (.ireturn, 1) := by decide +kernel
theorem dX5_readRule_0 : decode cX5_readRule 0 = .ok (.aload_n 0, 1) := by decide +kernel
theorem dX5_readRule_1 : decode cX5_readRule 1 = .ok (.ldc 54, 2) := by decide +kernel
theorem dX5_readRule_3 : decode cX5_readRule 3 = .ok (.invokevirtual 50, 3) := by decide +kernel
theorem dX5_readRule_6 : decode cX5_readRule 6 = .ok (.ifCond .eq 8, 3) := by decide +kernel
theorem dX5_readRule_9 : decode cX5_readRule 9 = .ok (.aload_n 0, 1) := by decide +kernel
theorem dX5_readRule_10 : decode cX5_readRule 10 = .ok (.invokevirtual 56, 3) := by decide +kernel
theorem dX5_readRule_13 : decode cX5_readRule 13 = .ok (.ireturn, 1) := by decide +kernel
theorem dX5_readRule_14 : decode cX5_readRule 14 = .ok (.aload_n 0, 1) := by decide +kernel
theorem dX5_readRule_15 : decode cX5_readRule 15 = .ok (.ldc 59, 2) := by decide +kernel
theorem dX5_readRule_17 : decode cX5_readRule 17 = .ok (.invokevirtual 50, 3) := by decide +kernel
theorem dX5_readRule_20 : decode cX5_readRule 20 = .ok (.ifCond .eq 8, 3) := by decide +kernel
theorem dX5_readRule_23 : decode cX5_readRule 23 = .ok (.aload_n 0, 1) := by decide +kernel
theorem dX5_readRule_24 : decode cX5_readRule 24 = .ok (.invokevirtual 61, 3) := by decide +kernel
theorem dX5_readRule_27 : decode cX5_readRule 27 = .ok (.ireturn, 1) := by decide +kernel
theorem dX5_readRule_28 : decode cX5_readRule 28 = .ok (.aload_n 0, 1) := by decide +kernel
theorem dX5_readRule_29 : decode cX5_readRule 29 = .ok (.ldc 64, 2) := by decide +kernel
theorem dX5_readRule_31 : decode cX5_readRule 31 = .ok (.invokevirtual 50, 3) := by decide +kernel
theorem dX5_readRule_34 : decode cX5_readRule 34 = .ok (.ifCond .eq 14, 3) := by decide +kernel
theorem dX5_readRule_37 : decode cX5_readRule 37 = .ok (.aload_n 0, 1) := by decide +kernel
theorem dX5_readRule_38 : decode cX5_readRule 38 = .ok (.invokevirtual 66, 3) := by decide +kernel
theorem dX5_readRule_41 : decode cX5_readRule 41 = .ok (.ifCond .eq 7, 3) := by decide +kernel
theorem dX5_readRule_44 : decode cX5_readRule 44 = .ok (.iconst 1, 1) := by decide +kernel
theorem dX5_readRule_45 : decode cX5_readRule 45 = .ok (.goto 4, 3) := by decide +kernel
theorem dX5_readRule_48 : decode cX5_readRule 48 = .ok (.iconst 0, 1) := by decide +kernel
theorem dX5_readRule_49 : decode cX5_readRule 49 = .ok (.ireturn, 1) := by decide +kernel
theorem dX5_readNeed_0 : decode cX5_readNeed 0 = .ok (.aload_n 0, 1) := by decide +kernel
theorem dX5_readNeed_1 : decode cX5_readNeed 1 = .ok (.bipush 9, 2) := by decide +kernel
theorem dX5_readNeed_3 : decode cX5_readNeed 3 = .ok (.invokevirtual 69, 3) := by decide +kernel
theorem dX5_readNeed_6 : decode cX5_readNeed 6 = .ok (.istore_n 1, 1) := by decide +kernel
theorem dX5_readNeed_7 : decode cX5_readNeed 7 = .ok (.iload_n 1, 1) := by decide +kernel
theorem dX5_readNeed_8 : decode cX5_readNeed 8 = .ok (.iconst (-1), 1) := by decide +kernel
theorem dX5_readNeed_9 : decode cX5_readNeed 9 = .ok (.if_icmp .ne 5, 3) := by decide +kernel
theorem dX5_readNeed_12 : decode cX5_readNeed 12 = .ok (.iconst 0, 1) := by decide +kernel
theorem dX5_readNeed_13 : decode cX5_readNeed 13 = .ok (.ireturn, 1) := by decide +kernel
theorem dX5_readNeed_14 : decode cX5_readNeed 14 = .ok (.aload_n 0, 1) := by decide +kernel
theorem dX5_readNeed_15 : decode cX5_readNeed 15 = .ok (.ldc 73, 2) := by decide +kernel
theorem dX5_readNeed_17 : decode cX5_readNeed 17 = .ok (.invokevirtual 69, 3) := by decide +kernel
theorem dX5_readNeed_20 : decode cX5_readNeed 20 = .ok (.istore_n 2, 1) := by decide +kernel
theorem dX5_readNeed_21 : decode cX5_readNeed 21 = .ok (.iload_n 2, 1) := by decide +kernel
theorem dX5_readNeed_22 : decode cX5_readNeed 22 = .ok (.iconst (-1), 1) := by decide +kernel
theorem dX5_readNeed_23 : decode cX5_readNeed 23 = .ok (.if_icmp .ne 5, 3) := by decide +kernel
theorem dX5_readNeed_26 : decode cX5_readNeed 26 = .ok (.iconst 0, 1) := by decide +kernel
theorem dX5_readNeed_27 : decode cX5_readNeed 27 = .ok (.ireturn, 1) := by decide +kernel
theorem dX5_readNeed_28 : decode cX5_readNeed 28 = .ok (.iconst 0, 1) := by decide +kernel
theorem dX5_readNeed_29 : decode cX5_readNeed 29 = .ok (.istore_n 3, 1) := by decide +kernel
theorem dX5_readNeed_30 : decode cX5_readNeed 30 = .ok (.aload_n 0, 1) := by decide +kernel
theorem dX5_readNeed_31 : decode cX5_readNeed 31 = .ok (.invokevirtual 38, 3) := by decide +kernel
theorem dX5_readNeed_34 : decode cX5_readNeed 34 = .ok (.aload_n 0, 1) := by decide +kernel
theorem dX5_readNeed_35 : decode cX5_readNeed 35 = .ok (.ldc 74, 2) := by decide +kernel
theorem dX5_readNeed_37 : decode cX5_readNeed 37 = .ok (.invokevirtual 50, 3) := by decide +kernel
theorem dX5_readNeed_40 : decode cX5_readNeed 40 = .ok (.ifCond .eq 21, 3) := by decide +kernel
theorem dX5_readNeed_43 : decode cX5_readNeed 43 = .ok (.aload_n 0, 1) := by decide +kernel
theorem dX5_readNeed_44 : decode cX5_readNeed 44 = .ok (.bipush 12, 2) := by decide +kernel
theorem dX5_readNeed_46 : decode cX5_readNeed 46 = .ok (.invokevirtual 69, 3) := by decide +kernel
theorem dX5_readNeed_49 : decode cX5_readNeed 49 = .ok (.istore_n 3, 1) := by decide +kernel
theorem dX5_readNeed_50 : decode cX5_readNeed 50 = .ok (.iload_n 3, 1) := by decide +kernel
theorem dX5_readNeed_51 : decode cX5_readNeed 51 = .ok (.iconst (-1), 1) := by decide +kernel
theorem dX5_readNeed_52 : decode cX5_readNeed 52 = .ok (.if_icmp .ne 5, 3) := by decide +kernel
theorem dX5_readNeed_55 : decode cX5_readNeed 55 = .ok (.iconst 0, 1) := by decide +kernel
theorem dX5_readNeed_56 : decode cX5_readNeed 56 = .ok (.ireturn, 1) := by decide +kernel
theorem dX5_readNeed_57 : decode cX5_readNeed 57 = .ok (.aload_n 0, 1) := by decide +kernel
theorem dX5_readNeed_58 : decode cX5_readNeed 58 = .ok (.invokevirtual 38, 3) := by decide +kernel
theorem dX5_readNeed_61 : decode cX5_readNeed 61 = .ok (.aload_n 0, 1) := by decide +kernel
theorem dX5_readNeed_62 : decode cX5_readNeed 62 = .ok (.getfield 18, 3) := by decide +kernel
theorem dX5_readNeed_65 : decode cX5_readNeed 65 = .ok (.iload_n 1, 1) := by decide +kernel
theorem dX5_readNeed_66 : decode cX5_readNeed 66 = .ok (.iload_n 2, 1) := by decide +kernel
theorem dX5_readNeed_67 : decode cX5_readNeed 67 = .ok (.iload_n 3, 1) := by decide +kernel
theorem dX5_readNeed_68 : decode cX5_readNeed 68 = .ok (.invokevirtual 76, 3) := by decide +kernel
theorem dX5_readNeed_71 : decode cX5_readNeed 71 = .ok (.iconst 1, 1) := by decide +kernel
theorem dX5_readNeed_72 : decode cX5_readNeed 72 = .ok (.ireturn, 1) := by decide +kernel
theorem dX5_readSpare_0 : decode cX5_readSpare 0 = .ok (.aload_n 0, 1) := by decide +kernel
theorem dX5_readSpare_1 : decode cX5_readSpare 1 = .ok (.bipush 9, 2) := by decide +kernel
theorem dX5_readSpare_3 : decode cX5_readSpare 3 = .ok (.invokevirtual 69, 3) := by decide +kernel
theorem dX5_readSpare_6 : decode cX5_readSpare 6 = .ok (.istore_n 1, 1) := by decide +kernel
theorem dX5_readSpare_7 : decode cX5_readSpare 7 = .ok (.iload_n 1, 1) := by decide +kernel
theorem dX5_readSpare_8 : decode cX5_readSpare 8 = .ok (.iconst (-1), 1) := by decide +kernel
theorem dX5_readSpare_9 : decode cX5_readSpare 9 = .ok (.if_icmp .ne 5, 3) := by decide +kernel
theorem dX5_readSpare_12 : decode cX5_readSpare 12 = .ok (.iconst 0, 1) := by decide +kernel
theorem dX5_readSpare_13 : decode cX5_readSpare 13 = .ok (.ireturn, 1) := by decide +kernel
theorem dX5_readSpare_14 : decode cX5_readSpare 14 = .ok (.aload_n 0, 1) := by decide +kernel
theorem dX5_readSpare_15 : decode cX5_readSpare 15 = .ok (.sipush 1000, 3) := by decide +kernel
theorem dX5_readSpare_18 : decode cX5_readSpare 18 = .ok (.invokevirtual 69, 3) := by decide +kernel
theorem dX5_readSpare_21 : decode cX5_readSpare 21 = .ok (.istore_n 2, 1) := by decide +kernel
theorem dX5_readSpare_22 : decode cX5_readSpare 22 = .ok (.iload_n 2, 1) := by decide +kernel
theorem dX5_readSpare_23 : decode cX5_readSpare 23 = .ok (.iconst (-1), 1) := by decide +kernel
theorem dX5_readSpare_24 : decode cX5_readSpare 24 = .ok (.if_icmp .ne 5, 3) := by decide +kernel
theorem dX5_readSpare_27 : decode cX5_readSpare 27 = .ok (.iconst 0, 1) := by decide +kernel
theorem dX5_readSpare_28 : decode cX5_readSpare 28 = .ok (.ireturn, 1) := by decide +kernel
theorem dX5_readSpare_29 : decode cX5_readSpare 29 = .ok (.aload_n 0, 1) := by decide +kernel
theorem dX5_readSpare_30 : decode cX5_readSpare 30 = .ok (.invokevirtual 38, 3) := by decide +kernel
theorem dX5_readSpare_33 : decode cX5_readSpare 33 = .ok (.aload_n 0, 1) := by decide +kernel
theorem dX5_readSpare_34 : decode cX5_readSpare 34 = .ok (.getfield 18, 3) := by decide +kernel
theorem dX5_readSpare_37 : decode cX5_readSpare 37 = .ok (.iload_n 1, 1) := by decide +kernel
theorem dX5_readSpare_38 : decode cX5_readSpare 38 = .ok (.iload_n 2, 1) := by decide +kernel
theorem dX5_readSpare_39 : decode cX5_readSpare 39 = .ok (.invokevirtual 80, 3) := by decide +kernel
theorem dX5_readSpare_42 : decode cX5_readSpare 42 = .ok (.iconst 1, 1) := by decide +kernel
theorem dX5_readSpare_43 : decode cX5_readSpare 43 = .ok (.ireturn, 1) := by decide +kernel
theorem dX5_readSwap_0 : decode cX5_readSwap 0 = .ok (.aload_n 0, 1) := by decide +kernel
theorem dX5_readSwap_1 : decode cX5_readSwap 1 = .ok (.bipush 9, 2) := by decide +kernel
theorem dX5_readSwap_3 : decode cX5_readSwap 3 = .ok (.invokevirtual 69, 3) := by decide +kernel
theorem dX5_readSwap_6 : decode cX5_readSwap 6 = .ok (.istore_n 1, 1) := by decide +kernel
theorem dX5_readSwap_7 : decode cX5_readSwap 7 = .ok (.iload_n 1, 1) := by decide +kernel
theorem dX5_readSwap_8 : decode cX5_readSwap 8 = .ok (.iconst (-1), 1) := by decide +kernel
theorem dX5_readSwap_9 : decode cX5_readSwap 9 = .ok (.if_icmp .ne 5, 3) := by decide +kernel
theorem dX5_readSwap_12 : decode cX5_readSwap 12 = .ok (.iconst 0, 1) := by decide +kernel
theorem dX5_readSwap_13 : decode cX5_readSwap 13 = .ok (.ireturn, 1) := by decide +kernel
theorem dX5_readSwap_14 : decode cX5_readSwap 14 = .ok (.aload_n 0, 1) := by decide +kernel
theorem dX5_readSwap_15 : decode cX5_readSwap 15 = .ok (.invokevirtual 38, 3) := by decide +kernel
theorem dX5_readSwap_18 : decode cX5_readSwap 18 = .ok (.aload_n 0, 1) := by decide +kernel
theorem dX5_readSwap_19 : decode cX5_readSwap 19 = .ok (.ldc 84, 2) := by decide +kernel
theorem dX5_readSwap_21 : decode cX5_readSwap 21 = .ok (.invokevirtual 50, 3) := by decide +kernel
theorem dX5_readSwap_24 : decode cX5_readSwap 24 = .ok (.ifCond .ne 5, 3) := by decide +kernel
theorem dX5_readSwap_27 : decode cX5_readSwap 27 = .ok (.iconst 0, 1) := by decide +kernel
theorem dX5_readSwap_28 : decode cX5_readSwap 28 = .ok (.ireturn, 1) := by decide +kernel
theorem dX5_readSwap_29 : decode cX5_readSwap 29 = .ok (.aload_n 0, 1) := by decide +kernel
theorem dX5_readSwap_30 : decode cX5_readSwap 30 = .ok (.bipush 9, 2) := by decide +kernel
theorem dX5_readSwap_32 : decode cX5_readSwap 32 = .ok (.invokevirtual 69, 3) := by decide +kernel
theorem dX5_readSwap_35 : decode cX5_readSwap 35 = .ok (.istore_n 2, 1) := by decide +kernel
theorem dX5_readSwap_36 : decode cX5_readSwap 36 = .ok (.iload_n 2, 1) := by decide +kernel
theorem dX5_readSwap_37 : decode cX5_readSwap 37 = .ok (.iconst (-1), 1) := by decide +kernel
theorem dX5_readSwap_38 : decode cX5_readSwap 38 = .ok (.if_icmp .eq 8, 3) := by decide +kernel
theorem dX5_readSwap_41 : decode cX5_readSwap 41 = .ok (.iload_n 2, 1) := by decide +kernel
theorem dX5_readSwap_42 : decode cX5_readSwap 42 = .ok (.iload_n 1, 1) := by decide +kernel
theorem dX5_readSwap_43 : decode cX5_readSwap 43 = .ok (.if_icmp .ne 5, 3) := by decide +kernel
theorem dX5_readSwap_46 : decode cX5_readSwap 46 = .ok (.iconst 0, 1) := by decide +kernel
theorem dX5_readSwap_47 : decode cX5_readSwap 47 = .ok (.ireturn, 1) := by decide +kernel
theorem dX5_readSwap_48 : decode cX5_readSwap 48 = .ok (.aload_n 0, 1) := by decide +kernel
theorem dX5_readSwap_49 : decode cX5_readSwap 49 = .ok (.invokevirtual 38, 3) := by decide +kernel
theorem dX5_readSwap_52 : decode cX5_readSwap 52 = .ok (.aload_n 0, 1) := by decide +kernel
theorem dX5_readSwap_53 : decode cX5_readSwap 53 = .ok (.getfield 18, 3) := by decide +kernel
theorem dX5_readSwap_56 : decode cX5_readSwap 56 = .ok (.iload_n 1, 1) := by decide +kernel
theorem dX5_readSwap_57 : decode cX5_readSwap 57 = .ok (.iload_n 2, 1) := by decide +kernel
theorem dX5_readSwap_58 : decode cX5_readSwap 58 = .ok (.invokevirtual 86, 3) := by decide +kernel
theorem dX5_readSwap_61 : decode cX5_readSwap 61 = .ok (.iconst 1, 1) := by decide +kernel
theorem dX5_readSwap_62 : decode cX5_readSwap 62 = .ok (.ireturn, 1) := by decide +kernel
theorem dX5_isBehindText_0 : decode cX5_isBehindText 0 = .ok (.aload_n 0, 1) := by decide +kernel
theorem dX5_isBehindText_1 : decode cX5_isBehindText 1 = .ok (.getfield 22, 3) := by decide +kernel
theorem dX5_isBehindText_4 : decode cX5_isBehindText 4 = .ok (.aload_n 0, 1) := by decide +kernel
theorem dX5_isBehindText_5 : decode cX5_isBehindText 5 = .ok (.getfield 29, 3) := by decide +kernel
theorem dX5_isBehindText_8 : decode cX5_isBehindText 8 = .ok (.if_icmp .lt 7, 3) := by decide +kernel
theorem dX5_isBehindText_11 : decode cX5_isBehindText 11 = .ok (.iconst 1, 1) := by decide +kernel
theorem dX5_isBehindText_12 : decode cX5_isBehindText 12 = .ok (.goto 4, 3) := by decide +kernel
theorem dX5_isBehindText_15 : decode cX5_isBehindText 15 = .ok (.iconst 0, 1) := by decide +kernel
theorem dX5_isBehindText_16 : decode cX5_isBehindText 16 = .ok (.ireturn, 1) := by decide +kernel
theorem dX5_byteAt_0 : decode cX5_byteAt 0 = .ok (.iload_n 1, 1) := by decide +kernel
theorem dX5_byteAt_1 : decode cX5_byteAt 1 = .ok (.ifCond .lt 27, 3) := by decide +kernel
theorem dX5_byteAt_4 : decode cX5_byteAt 4 = .ok (.iload_n 1, 1) := by decide +kernel
theorem dX5_byteAt_5 : decode cX5_byteAt 5 = .ok (.aload_n 0, 1) := by decide +kernel
theorem dX5_byteAt_6 : decode cX5_byteAt 6 = .ok (.getfield 29, 3) := by decide +kernel
theorem dX5_byteAt_9 : decode cX5_byteAt 9 = .ok (.if_icmp .ge 19, 3) := by decide +kernel
theorem dX5_byteAt_12 : decode cX5_byteAt 12 = .ok (.iload_n 1, 1) := by decide +kernel
theorem dX5_byteAt_13 : decode cX5_byteAt 13 = .ok (.sipush 400, 3) := by decide +kernel
theorem dX5_byteAt_16 : decode cX5_byteAt 16 = .ok (.if_icmp .ge 12, 3) := by decide +kernel
theorem dX5_byteAt_19 : decode cX5_byteAt 19 = .ok (.aload_n 0, 1) := by decide +kernel
theorem dX5_byteAt_20 : decode cX5_byteAt 20 = .ok (.getfield 9, 3) := by decide +kernel
theorem dX5_byteAt_23 : decode cX5_byteAt 23 = .ok (.iload_n 1, 1) := by decide +kernel
theorem dX5_byteAt_24 : decode cX5_byteAt 24 = .ok (.baload, 1) := by decide +kernel
theorem dX5_byteAt_25 : decode cX5_byteAt 25 = .ok (.goto 4, 3) := by decide +kernel
theorem dX5_byteAt_28 : decode cX5_byteAt 28 = .ok (.iconst (-1), 1) := by decide +kernel
theorem dX5_byteAt_29 : decode cX5_byteAt 29 = .ok (.ireturn, 1) := by decide +kernel
theorem dX5_sortOf_0 : decode cX5_sortOf 0 = .ok (.iload_n 0, 1) := by decide +kernel
theorem dX5_sortOf_1 : decode cX5_sortOf 1 = .ok (.bipush 97, 2) := by decide +kernel
theorem dX5_sortOf_3 : decode cX5_sortOf 3 = .ok (.if_icmp .lt 11, 3) := by decide +kernel
theorem dX5_sortOf_6 : decode cX5_sortOf 6 = .ok (.iload_n 0, 1) := by decide +kernel
theorem dX5_sortOf_7 : decode cX5_sortOf 7 = .ok (.bipush 122, 2) := by decide +kernel
theorem dX5_sortOf_9 : decode cX5_sortOf 9 = .ok (.if_icmp .gt 5, 3) := by decide +kernel
theorem dX5_sortOf_12 : decode cX5_sortOf 12 = .ok (.iconst 1, 1) := by decide +kernel
theorem dX5_sortOf_13 : decode cX5_sortOf 13 = .ok (.ireturn, 1) := by decide +kernel
theorem dX5_sortOf_14 : decode cX5_sortOf 14 = .ok (.iload_n 0, 1) := by decide +kernel
theorem dX5_sortOf_15 : decode cX5_sortOf 15 = .ok (.bipush 48, 2) := by decide +kernel
theorem dX5_sortOf_17 : decode cX5_sortOf 17 = .ok (.if_icmp .lt 13, 3) := by decide +kernel
theorem dX5_sortOf_20 : decode cX5_sortOf 20 = .ok (.iload_n 0, 1) := by decide +kernel
theorem dX5_sortOf_21 : decode cX5_sortOf 21 = .ok (.bipush 57, 2) := by decide +kernel
theorem dX5_sortOf_23 : decode cX5_sortOf 23 = .ok (.if_icmp .gt 7, 3) := by decide +kernel
theorem dX5_sortOf_26 : decode cX5_sortOf 26 = .ok (.iconst 2, 1) := by decide +kernel
theorem dX5_sortOf_27 : decode cX5_sortOf 27 = .ok (.goto 4, 3) := by decide +kernel
theorem dX5_sortOf_30 : decode cX5_sortOf 30 = .ok (.iconst 3, 1) := by decide +kernel
theorem dX5_sortOf_31 : decode cX5_sortOf 31 = .ok (.ireturn, 1) := by decide +kernel
theorem dX5_nextToken_0 : decode cX5_nextToken 0 = .ok (.aload_n 0, 1) := by decide +kernel
theorem dX5_nextToken_1 : decode cX5_nextToken 1 = .ok (.aload_n 0, 1) := by decide +kernel
theorem dX5_nextToken_2 : decode cX5_nextToken 2 = .ok (.getfield 26, 3) := by decide +kernel
theorem dX5_nextToken_5 : decode cX5_nextToken 5 = .ok (.putfield 22, 3) := by decide +kernel
theorem dX5_nextToken_8 : decode cX5_nextToken 8 = .ok (.aload_n 0, 1) := by decide +kernel
theorem dX5_nextToken_9 : decode cX5_nextToken 9 = .ok (.getfield 22, 3) := by decide +kernel
theorem dX5_nextToken_12 : decode cX5_nextToken 12 = .ok (.aload_n 0, 1) := by decide +kernel
theorem dX5_nextToken_13 : decode cX5_nextToken 13 = .ok (.getfield 29, 3) := by decide +kernel
theorem dX5_nextToken_16 : decode cX5_nextToken 16 = .ok (.if_icmp .ge 29, 3) := by decide +kernel
theorem dX5_nextToken_19 : decode cX5_nextToken 19 = .ok (.aload_n 0, 1) := by decide +kernel
theorem dX5_nextToken_20 : decode cX5_nextToken 20 = .ok (.aload_n 0, 1) := by decide +kernel
theorem dX5_nextToken_21 : decode cX5_nextToken 21 = .ok (.getfield 22, 3) := by decide +kernel
theorem dX5_nextToken_24 : decode cX5_nextToken 24 = .ok (.invokevirtual 89, 3) := by decide +kernel
theorem dX5_nextToken_27 : decode cX5_nextToken 27 = .ok (.bipush 32, 2) := by decide +kernel
theorem dX5_nextToken_29 : decode cX5_nextToken 29 = .ok (.if_icmp .ne 16, 3) := by decide +kernel
theorem dX5_nextToken_32 : decode cX5_nextToken 32 = .ok (.aload_n 0, 1) := by decide +kernel
theorem dX5_nextToken_33 : decode cX5_nextToken 33 = .ok (.dup, 1) := by decide +kernel
theorem dX5_nextToken_34 : decode cX5_nextToken 34 = .ok (.getfield 22, 3) := by decide +kernel
theorem dX5_nextToken_37 : decode cX5_nextToken 37 = .ok (.iconst 1, 1) := by decide +kernel
theorem dX5_nextToken_38 : decode cX5_nextToken 38 = .ok (.iadd, 1) := by decide +kernel
theorem dX5_nextToken_39 : decode cX5_nextToken 39 = .ok (.putfield 22, 3) := by decide +kernel
theorem dX5_nextToken_42 : decode cX5_nextToken 42 = .ok (.goto (-34), 3) := by decide +kernel
theorem dX5_nextToken_45 : decode cX5_nextToken 45 = .ok (.aload_n 0, 1) := by decide +kernel
theorem dX5_nextToken_46 : decode cX5_nextToken 46 = .ok (.aload_n 0, 1) := by decide +kernel
theorem dX5_nextToken_47 : decode cX5_nextToken 47 = .ok (.getfield 22, 3) := by decide +kernel
theorem dX5_nextToken_50 : decode cX5_nextToken 50 = .ok (.putfield 26, 3) := by decide +kernel
theorem dX5_nextToken_53 : decode cX5_nextToken 53 = .ok (.aload_n 0, 1) := by decide +kernel
theorem dX5_nextToken_54 : decode cX5_nextToken 54 = .ok (.aload_n 0, 1) := by decide +kernel
theorem dX5_nextToken_55 : decode cX5_nextToken 55 = .ok (.getfield 22, 3) := by decide +kernel
theorem dX5_nextToken_58 : decode cX5_nextToken 58 = .ok (.invokevirtual 89, 3) := by decide +kernel
theorem dX5_nextToken_61 : decode cX5_nextToken 61 = .ok (.invokestatic 92, 3) := by decide +kernel
theorem dX5_nextToken_64 : decode cX5_nextToken 64 = .ok (.istore_n 1, 1) := by decide +kernel
theorem dX5_nextToken_65 : decode cX5_nextToken 65 = .ok (.iload_n 1, 1) := by decide +kernel
theorem dX5_nextToken_66 : decode cX5_nextToken 66 = .ok (.iconst 3, 1) := by decide +kernel
theorem dX5_nextToken_67 : decode cX5_nextToken 67 = .ok (.if_icmp .ne 20, 3) := by decide +kernel
theorem dX5_nextToken_70 : decode cX5_nextToken 70 = .ok (.aload_n 0, 1) := by decide +kernel
theorem dX5_nextToken_71 : decode cX5_nextToken 71 = .ok (.aload_n 0, 1) := by decide +kernel
theorem dX5_nextToken_72 : decode cX5_nextToken 72 = .ok (.getfield 22, 3) := by decide +kernel
theorem dX5_nextToken_75 : decode cX5_nextToken 75 = .ok (.iconst 1, 1) := by decide +kernel
theorem dX5_nextToken_76 : decode cX5_nextToken 76 = .ok (.iadd, 1) := by decide +kernel
theorem dX5_nextToken_77 : decode cX5_nextToken 77 = .ok (.aload_n 0, 1) := by decide +kernel
theorem dX5_nextToken_78 : decode cX5_nextToken 78 = .ok (.getfield 29, 3) := by decide +kernel
theorem dX5_nextToken_81 : decode cX5_nextToken 81 = .ok (.invokestatic 95, 3) := by decide +kernel
theorem dX5_nextToken_84 : decode cX5_nextToken 84 = .ok (.putfield 26, 3) := by decide +kernel
theorem dX5_nextToken_87 : decode cX5_nextToken 87 = .ok (.iload_n 1, 1) := by decide +kernel
theorem dX5_nextToken_88 : decode cX5_nextToken 88 = .ok (.iconst 3, 1) := by decide +kernel
theorem dX5_nextToken_89 : decode cX5_nextToken 89 = .ok (.if_icmp .eq 42, 3) := by decide +kernel
theorem dX5_nextToken_92 : decode cX5_nextToken 92 = .ok (.aload_n 0, 1) := by decide +kernel
theorem dX5_nextToken_93 : decode cX5_nextToken 93 = .ok (.getfield 26, 3) := by decide +kernel
theorem dX5_nextToken_96 : decode cX5_nextToken 96 = .ok (.aload_n 0, 1) := by decide +kernel
theorem dX5_nextToken_97 : decode cX5_nextToken 97 = .ok (.getfield 29, 3) := by decide +kernel
theorem dX5_nextToken_100 : decode cX5_nextToken 100 = .ok (.if_icmp .ge 31, 3) := by decide +kernel
theorem dX5_nextToken_103 : decode cX5_nextToken 103 = .ok (.aload_n 0, 1) := by decide +kernel
theorem dX5_nextToken_104 : decode cX5_nextToken 104 = .ok (.aload_n 0, 1) := by decide +kernel
theorem dX5_nextToken_105 : decode cX5_nextToken 105 = .ok (.getfield 26, 3) := by decide +kernel
theorem dX5_nextToken_108 : decode cX5_nextToken 108 = .ok (.invokevirtual 89, 3) := by decide +kernel
theorem dX5_nextToken_111 : decode cX5_nextToken 111 = .ok (.invokestatic 92, 3) := by decide +kernel
theorem dX5_nextToken_114 : decode cX5_nextToken 114 = .ok (.iload_n 1, 1) := by decide +kernel
theorem dX5_nextToken_115 : decode cX5_nextToken 115 = .ok (.if_icmp .ne 16, 3) := by decide +kernel
theorem dX5_nextToken_118 : decode cX5_nextToken 118 = .ok (.aload_n 0, 1) := by decide +kernel
theorem dX5_nextToken_119 : decode cX5_nextToken 119 = .ok (.dup, 1) := by decide +kernel
theorem dX5_nextToken_120 : decode cX5_nextToken 120 = .ok (.getfield 26, 3) := by decide +kernel
theorem dX5_nextToken_123 : decode cX5_nextToken 123 = .ok (.iconst 1, 1) := by decide +kernel
theorem dX5_nextToken_124 : decode cX5_nextToken 124 = .ok (.iadd, 1) := by decide +kernel
theorem dX5_nextToken_125 : decode cX5_nextToken 125 = .ok (.putfield 26, 3) := by decide +kernel
theorem dX5_nextToken_128 : decode cX5_nextToken 128 = .ok (.goto (-41), 3) := by decide +kernel
theorem dX5_nextToken_131 : decode cX5_nextToken 131 = .ok (.return_, 1) := by decide +kernel
theorem dX5_isToken_0 : decode cX5_isToken 0 = .ok (.aload_n 0, 1) := by decide +kernel
theorem dX5_isToken_1 : decode cX5_isToken 1 = .ok (.getfield 26, 3) := by decide +kernel
theorem dX5_isToken_4 : decode cX5_isToken 4 = .ok (.aload_n 0, 1) := by decide +kernel
theorem dX5_isToken_5 : decode cX5_isToken 5 = .ok (.getfield 22, 3) := by decide +kernel
theorem dX5_isToken_8 : decode cX5_isToken 8 = .ok (.isub, 1) := by decide +kernel
theorem dX5_isToken_9 : decode cX5_isToken 9 = .ok (.aload_n 1, 1) := by decide +kernel
theorem dX5_isToken_10 : decode cX5_isToken 10 = .ok (.invokevirtual 101, 3) := by decide +kernel
theorem dX5_isToken_13 : decode cX5_isToken 13 = .ok (.if_icmp .eq 5, 3) := by decide +kernel
theorem dX5_isToken_16 : decode cX5_isToken 16 = .ok (.iconst 0, 1) := by decide +kernel
theorem dX5_isToken_17 : decode cX5_isToken 17 = .ok (.ireturn, 1) := by decide +kernel
theorem dX5_isToken_18 : decode cX5_isToken 18 = .ok (.iconst 0, 1) := by decide +kernel
theorem dX5_isToken_19 : decode cX5_isToken 19 = .ok (.istore_n 2, 1) := by decide +kernel
theorem dX5_isToken_20 : decode cX5_isToken 20 = .ok (.iload_n 2, 1) := by decide +kernel
theorem dX5_isToken_21 : decode cX5_isToken 21 = .ok (.aload_n 1, 1) := by decide +kernel
theorem dX5_isToken_22 : decode cX5_isToken 22 = .ok (.invokevirtual 101, 3) := by decide +kernel
theorem dX5_isToken_25 : decode cX5_isToken 25 = .ok (.if_icmp .ge 29, 3) := by decide +kernel
theorem dX5_isToken_28 : decode cX5_isToken 28 = .ok (.aload_n 0, 1) := by decide +kernel
theorem dX5_isToken_29 : decode cX5_isToken 29 = .ok (.aload_n 0, 1) := by decide +kernel
theorem dX5_isToken_30 : decode cX5_isToken 30 = .ok (.getfield 22, 3) := by decide +kernel
theorem dX5_isToken_33 : decode cX5_isToken 33 = .ok (.iload_n 2, 1) := by decide +kernel
theorem dX5_isToken_34 : decode cX5_isToken 34 = .ok (.iadd, 1) := by decide +kernel
theorem dX5_isToken_35 : decode cX5_isToken 35 = .ok (.invokevirtual 89, 3) := by decide +kernel
theorem dX5_isToken_38 : decode cX5_isToken 38 = .ok (.aload_n 1, 1) := by decide +kernel
theorem dX5_isToken_39 : decode cX5_isToken 39 = .ok (.iload_n 2, 1) := by decide +kernel
theorem dX5_isToken_40 : decode cX5_isToken 40 = .ok (.invokevirtual 106, 3) := by decide +kernel
theorem dX5_isToken_43 : decode cX5_isToken 43 = .ok (.if_icmp .eq 5, 3) := by decide +kernel
theorem dX5_isToken_46 : decode cX5_isToken 46 = .ok (.iconst 0, 1) := by decide +kernel
theorem dX5_isToken_47 : decode cX5_isToken 47 = .ok (.ireturn, 1) := by decide +kernel
theorem dX5_isToken_48 : decode cX5_isToken 48 = .ok (.iinc 2 1, 3) := by decide +kernel
theorem dX5_isToken_51 : decode cX5_isToken 51 = .ok (.goto (-31), 3) := by decide +kernel
theorem dX5_isToken_54 : decode cX5_isToken 54 = .ok (.iconst 1, 1) := by decide +kernel
theorem dX5_isToken_55 : decode cX5_isToken 55 = .ok (.ireturn, 1) := by decide +kernel
theorem dX5_nextNumber_0 : decode cX5_nextNumber 0 = .ok (.aload_n 0, 1) := by decide +kernel
theorem dX5_nextNumber_1 : decode cX5_nextNumber 1 = .ok (.invokevirtual 38, 3) := by decide +kernel
theorem dX5_nextNumber_4 : decode cX5_nextNumber 4 = .ok (.aload_n 0, 1) := by decide +kernel
theorem dX5_nextNumber_5 : decode cX5_nextNumber 5 = .ok (.aload_n 0, 1) := by decide +kernel
theorem dX5_nextNumber_6 : decode cX5_nextNumber 6 = .ok (.getfield 22, 3) := by decide +kernel
theorem dX5_nextNumber_9 : decode cX5_nextNumber 9 = .ok (.invokevirtual 89, 3) := by decide +kernel
theorem dX5_nextNumber_12 : decode cX5_nextNumber 12 = .ok (.invokestatic 92, 3) := by decide +kernel
theorem dX5_nextNumber_15 : decode cX5_nextNumber 15 = .ok (.iconst 2, 1) := by decide +kernel
theorem dX5_nextNumber_16 : decode cX5_nextNumber 16 = .ok (.if_icmp .eq 5, 3) := by decide +kernel
theorem dX5_nextNumber_19 : decode cX5_nextNumber 19 = .ok (.iconst (-1), 1) := by decide +kernel
theorem dX5_nextNumber_20 : decode cX5_nextNumber 20 = .ok (.ireturn, 1) := by decide +kernel
theorem dX5_nextNumber_21 : decode cX5_nextNumber 21 = .ok (.iconst 0, 1) := by decide +kernel
theorem dX5_nextNumber_22 : decode cX5_nextNumber 22 = .ok (.istore_n 2, 1) := by decide +kernel
theorem dX5_nextNumber_23 : decode cX5_nextNumber 23 = .ok (.aload_n 0, 1) := by decide +kernel
theorem dX5_nextNumber_24 : decode cX5_nextNumber 24 = .ok (.getfield 22, 3) := by decide +kernel
theorem dX5_nextNumber_27 : decode cX5_nextNumber 27 = .ok (.istore_n 3, 1) := by decide +kernel
theorem dX5_nextNumber_28 : decode cX5_nextNumber 28 = .ok (.iload_n 3, 1) := by decide +kernel
theorem dX5_nextNumber_29 : decode cX5_nextNumber 29 = .ok (.aload_n 0, 1) := by decide +kernel
theorem dX5_nextNumber_30 : decode cX5_nextNumber 30 = .ok (.getfield 26, 3) := by decide +kernel
theorem dX5_nextNumber_33 : decode cX5_nextNumber 33 = .ok (.if_icmp .ge 30, 3) := by decide +kernel
theorem dX5_nextNumber_36 : decode cX5_nextNumber 36 = .ok (.iload_n 2, 1) := by decide +kernel
theorem dX5_nextNumber_37 : decode cX5_nextNumber 37 = .ok (.bipush 10, 2) := by decide +kernel
theorem dX5_nextNumber_39 : decode cX5_nextNumber 39 = .ok (.imul, 1) := by decide +kernel
theorem dX5_nextNumber_40 : decode cX5_nextNumber 40 = .ok (.aload_n 0, 1) := by decide +kernel
theorem dX5_nextNumber_41 : decode cX5_nextNumber 41 = .ok (.iload_n 3, 1) := by decide +kernel
theorem dX5_nextNumber_42 : decode cX5_nextNumber 42 = .ok (.invokevirtual 89, 3) := by decide +kernel
theorem dX5_nextNumber_45 : decode cX5_nextNumber 45 = .ok (.iadd, 1) := by decide +kernel
theorem dX5_nextNumber_46 : decode cX5_nextNumber 46 = .ok (.bipush 48, 2) := by decide +kernel
theorem dX5_nextNumber_48 : decode cX5_nextNumber 48 = .ok (.isub, 1) := by decide +kernel
theorem dX5_nextNumber_49 : decode cX5_nextNumber 49 = .ok (.istore_n 2, 1) := by decide +kernel
theorem dX5_nextNumber_50 : decode cX5_nextNumber 50 = .ok (.iload_n 2, 1) := by decide +kernel
theorem dX5_nextNumber_51 : decode cX5_nextNumber 51 = .ok (.iload_n 1, 1) := by decide +kernel
theorem dX5_nextNumber_52 : decode cX5_nextNumber 52 = .ok (.if_icmp .le 5, 3) := by decide +kernel
theorem dX5_nextNumber_55 : decode cX5_nextNumber 55 = .ok (.iconst (-1), 1) := by decide +kernel
theorem dX5_nextNumber_56 : decode cX5_nextNumber 56 = .ok (.ireturn, 1) := by decide +kernel
theorem dX5_nextNumber_57 : decode cX5_nextNumber 57 = .ok (.iinc 3 1, 3) := by decide +kernel
theorem dX5_nextNumber_60 : decode cX5_nextNumber 60 = .ok (.goto (-32), 3) := by decide +kernel
theorem dX5_nextNumber_63 : decode cX5_nextNumber 63 = .ok (.iload_n 2, 1) := by decide +kernel
theorem dX5_nextNumber_64 : decode cX5_nextNumber 64 = .ok (.ireturn, 1) := by decide +kernel
theorem dX6_init_0 : decode cX6_init 0 = .ok (.aload_n 0, 1) := by decide +kernel
theorem dX6_init_1 : decode cX6_init 1 = .ok (.invokespecial 3, 3) := by decide +kernel
theorem dX6_init_4 : decode cX6_init 4 = .ok (.aload_n 0, 1) := by decide +kernel
theorem dX6_init_5 : decode cX6_init 5 = .ok (.bipush 30, 2) := by decide +kernel
theorem dX6_init_7 : decode cX6_init 7 = .ok (.newarray .int, 2) := by decide +kernel
theorem dX6_init_9 : decode cX6_init 9 = .ok (.putfield 9, 3) := by decide +kernel
theorem dX6_init_12 : decode cX6_init 12 = .ok (.aload_n 0, 1) := by decide +kernel
theorem dX6_init_13 : decode cX6_init 13 = .ok (.bipush 30, 2) := by decide +kernel
theorem dX6_init_15 : decode cX6_init 15 = .ok (.newarray .int, 2) := by decide +kernel
theorem dX6_init_17 : decode cX6_init 17 = .ok (.putfield 15, 3) := by decide +kernel
theorem dX6_init_20 : decode cX6_init 20 = .ok (.aload_n 0, 1) := by decide +kernel
theorem dX6_init_21 : decode cX6_init 21 = .ok (.bipush 30, 2) := by decide +kernel
theorem dX6_init_23 : decode cX6_init 23 = .ok (.newarray .int, 2) := by decide +kernel
theorem dX6_init_25 : decode cX6_init 25 = .ok (.putfield 18, 3) := by decide +kernel
theorem dX6_init_28 : decode cX6_init 28 = .ok (.aload_n 0, 1) := by decide +kernel
theorem dX6_init_29 : decode cX6_init 29 = .ok (.bipush 30, 2) := by decide +kernel
theorem dX6_init_31 : decode cX6_init 31 = .ok (.newarray .int, 2) := by decide +kernel
theorem dX6_init_33 : decode cX6_init 33 = .ok (.putfield 21, 3) := by decide +kernel
theorem dX6_init_36 : decode cX6_init 36 = .ok (.aload_n 0, 1) := by decide +kernel
theorem dX6_init_37 : decode cX6_init 37 = .ok (.iconst 0, 1) := by decide +kernel
theorem dX6_init_38 : decode cX6_init 38 = .ok (.putfield 24, 3) := by decide +kernel
theorem dX6_init_41 : decode cX6_init 41 = .ok (.return_, 1) := by decide +kernel
theorem dX6_addNeed_0 : decode cX6_addNeed 0 = .ok (.aload_n 0, 1) := by decide +kernel
theorem dX6_addNeed_1 : decode cX6_addNeed 1 = .ok (.iconst 1, 1) := by decide +kernel
theorem dX6_addNeed_2 : decode cX6_addNeed 2 = .ok (.iload_n 1, 1) := by decide +kernel
theorem dX6_addNeed_3 : decode cX6_addNeed 3 = .ok (.iload_n 2, 1) := by decide +kernel
theorem dX6_addNeed_4 : decode cX6_addNeed 4 = .ok (.iload_n 3, 1) := by decide +kernel
theorem dX6_addNeed_5 : decode cX6_addNeed 5 = .ok (.invokevirtual 28, 3) := by decide +kernel
theorem dX6_addNeed_8 : decode cX6_addNeed 8 = .ok (.return_, 1) := by decide +kernel
theorem dX6_addSpare_0 : decode cX6_addSpare 0 = .ok (.aload_n 0, 1) := by decide +kernel
theorem dX6_addSpare_1 : decode cX6_addSpare 1 = .ok (.iconst 2, 1) := by decide +kernel
theorem dX6_addSpare_2 : decode cX6_addSpare 2 = .ok (.iload_n 1, 1) := by decide +kernel
theorem dX6_addSpare_3 : decode cX6_addSpare 3 = .ok (.iload_n 2, 1) := by decide +kernel
theorem dX6_addSpare_4 : decode cX6_addSpare 4 = .ok (.iconst 0, 1) := by decide +kernel
theorem dX6_addSpare_5 : decode cX6_addSpare 5 = .ok (.invokevirtual 28, 3) := by decide +kernel
theorem dX6_addSpare_8 : decode cX6_addSpare 8 = .ok (.return_, 1) := by decide +kernel
theorem dX6_addSwap_0 : decode cX6_addSwap 0 = .ok (.aload_n 0, 1) := by decide +kernel
theorem dX6_addSwap_1 : decode cX6_addSwap 1 = .ok (.iconst 3, 1) := by decide +kernel
theorem dX6_addSwap_2 : decode cX6_addSwap 2 = .ok (.iload_n 2, 1) := by decide +kernel
theorem dX6_addSwap_3 : decode cX6_addSwap 3 = .ok (.iload_n 1, 1) := by decide +kernel
theorem dX6_addSwap_4 : decode cX6_addSwap 4 = .ok (.iconst 0, 1) := by decide +kernel
theorem dX6_addSwap_5 : decode cX6_addSwap 5 = .ok (.invokevirtual 28, 3) := by decide +kernel
theorem dX6_addSwap_8 : decode cX6_addSwap 8 = .ok (.return_, 1) := by decide +kernel
theorem dX6_add_0 : decode cX6_add 0 = .ok (.aload_n 0, 1) := by decide +kernel
theorem dX6_add_1 : decode cX6_add 1 = .ok (.getfield 24, 3) := by decide +kernel
theorem dX6_add_4 : decode cX6_add 4 = .ok (.bipush 30, 2) := by decide +kernel
theorem dX6_add_6 : decode cX6_add 6 = .ok (.if_icmp .ge 54, 3) := by decide +kernel
theorem dX6_add_9 : decode cX6_add 9 = .ok (.aload_n 0, 1) := by decide +kernel
theorem dX6_add_10 : decode cX6_add 10 = .ok (.getfield 9, 3) := by decide +kernel
theorem dX6_add_13 : decode cX6_add 13 = .ok (.aload_n 0, 1) := by decide +kernel
theorem dX6_add_14 : decode cX6_add 14 = .ok (.getfield 24, 3) := by decide +kernel
theorem dX6_add_17 : decode cX6_add 17 = .ok (.iload_n 1, 1) := by decide +kernel
theorem dX6_add_18 : decode cX6_add 18 = .ok (.iastore, 1) := by decide +kernel
theorem dX6_add_19 : decode cX6_add 19 = .ok (.aload_n 0, 1) := by decide +kernel
theorem dX6_add_20 : decode cX6_add 20 = .ok (.getfield 15, 3) := by decide +kernel
theorem dX6_add_23 : decode cX6_add 23 = .ok (.aload_n 0, 1) := by decide +kernel
theorem dX6_add_24 : decode cX6_add 24 = .ok (.getfield 24, 3) := by decide +kernel
theorem dX6_add_27 : decode cX6_add 27 = .ok (.iload_n 2, 1) := by decide +kernel
theorem dX6_add_28 : decode cX6_add 28 = .ok (.iastore, 1) := by decide +kernel
theorem dX6_add_29 : decode cX6_add 29 = .ok (.aload_n 0, 1) := by decide +kernel
theorem dX6_add_30 : decode cX6_add 30 = .ok (.getfield 18, 3) := by decide +kernel
theorem dX6_add_33 : decode cX6_add 33 = .ok (.aload_n 0, 1) := by decide +kernel
theorem dX6_add_34 : decode cX6_add 34 = .ok (.getfield 24, 3) := by decide +kernel
theorem dX6_add_37 : decode cX6_add 37 = .ok (.iload_n 3, 1) := by decide +kernel
theorem dX6_add_38 : decode cX6_add 38 = .ok (.iastore, 1) := by decide +kernel
theorem dX6_add_39 : decode cX6_add 39 = .ok (.aload_n 0, 1) := by decide +kernel
theorem dX6_add_40 : decode cX6_add 40 = .ok (.getfield 21, 3) := by decide +kernel
theorem dX6_add_43 : decode cX6_add 43 = .ok (.aload_n 0, 1) := by decide +kernel
theorem dX6_add_44 : decode cX6_add 44 = .ok (.getfield 24, 3) := by decide +kernel
theorem dX6_add_47 : decode cX6_add 47 = .ok (.iload 4, 2) := by decide +kernel
theorem dX6_add_49 : decode cX6_add 49 = .ok (.iastore, 1) := by decide +kernel
theorem dX6_add_50 : decode cX6_add 50 = .ok (.aload_n 0, 1) := by decide +kernel
theorem dX6_add_51 : decode cX6_add 51 = .ok (.dup, 1) := by decide +kernel
theorem dX6_add_52 : decode cX6_add 52 = .ok (.getfield 24, 3) := by decide +kernel
theorem dX6_add_55 : decode cX6_add 55 = .ok (.iconst 1, 1) := by decide +kernel
theorem dX6_add_56 : decode cX6_add 56 = .ok (.iadd, 1) := by decide +kernel
theorem dX6_add_57 : decode cX6_add 57 = .ok (.putfield 24, 3) := by decide +kernel
theorem dX6_add_60 : decode cX6_add 60 = .ok (.return_, 1) := by decide +kernel
theorem dX6_isRule_0 : decode cX6_isRule 0 = .ok (.iload_n 1, 1) := by decide +kernel
theorem dX6_isRule_1 : decode cX6_isRule 1 = .ok (.iconst 0, 1) := by decide +kernel
theorem dX6_isRule_2 : decode cX6_isRule 2 = .ok (.bipush 29, 2) := by decide +kernel
theorem dX6_isRule_4 : decode cX6_isRule 4 = .ok (.invokestatic 32, 3) := by decide +kernel
theorem dX6_isRule_7 : decode cX6_isRule 7 = .ok (.ifCond .eq 27, 3) := by decide +kernel
theorem dX6_isRule_10 : decode cX6_isRule 10 = .ok (.aload_n 0, 1) := by decide +kernel
theorem dX6_isRule_11 : decode cX6_isRule 11 = .ok (.getfield 9, 3) := by decide +kernel
theorem dX6_isRule_14 : decode cX6_isRule 14 = .ok (.iload_n 1, 1) := by decide +kernel
theorem dX6_isRule_15 : decode cX6_isRule 15 = .ok (.iaload, 1) := by decide +kernel
theorem dX6_isRule_16 : decode cX6_isRule 16 = .ok (.iload_n 2, 1) := by decide +kernel
theorem dX6_isRule_17 : decode cX6_isRule 17 = .ok (.if_icmp .ne 17, 3) := by decide +kernel
theorem dX6_isRule_20 : decode cX6_isRule 20 = .ok (.aload_n 0, 1) := by decide +kernel
theorem dX6_isRule_21 : decode cX6_isRule 21 = .ok (.getfield 15, 3) := by decide +kernel
theorem dX6_isRule_24 : decode cX6_isRule 24 = .ok (.iload_n 1, 1) := by decide +kernel
theorem dX6_isRule_25 : decode cX6_isRule 25 = .ok (.iaload, 1) := by decide +kernel
theorem dX6_isRule_26 : decode cX6_isRule 26 = .ok (.iload_n 3, 1) := by decide +kernel
theorem dX6_isRule_27 : decode cX6_isRule 27 = .ok (.if_icmp .ne 7, 3) := by decide +kernel
theorem dX6_isRule_30 : decode cX6_isRule 30 = .ok (.iconst 1, 1) := by decide +kernel
theorem dX6_isRule_31 : decode cX6_isRule 31 = .ok (.goto 4, 3) := by decide +kernel
theorem dX6_isRule_34 : decode cX6_isRule 34 = .ok (.iconst 0, 1) := by decide +kernel
theorem dX6_isRule_35 : decode cX6_isRule 35 = .ok (.ireturn, 1) := by decide +kernel
theorem dX6_gramsNeeded_0 : decode cX6_gramsNeeded 0 = .ok (.iconst 0, 1) := by decide +kernel
theorem dX6_gramsNeeded_1 : decode cX6_gramsNeeded 1 = .ok (.istore_n 3, 1) := by decide +kernel
theorem dX6_gramsNeeded_2 : decode cX6_gramsNeeded 2 = .ok (.iconst 0, 1) := by decide +kernel
theorem dX6_gramsNeeded_3 : decode cX6_gramsNeeded 3 = .ok (.istore 4, 2) := by decide +kernel
theorem dX6_gramsNeeded_5 : decode cX6_gramsNeeded 5 = .ok (.iload 4, 2) := by decide +kernel
theorem dX6_gramsNeeded_7 : decode cX6_gramsNeeded 7 = .ok (.aload_n 0, 1) := by decide +kernel
theorem dX6_gramsNeeded_8 : decode cX6_gramsNeeded 8 = .ok (.getfield 24, 3) := by decide +kernel
theorem dX6_gramsNeeded_11 : decode cX6_gramsNeeded 11 = .ok (.if_icmp .ge 43, 3) := by decide +kernel
theorem dX6_gramsNeeded_14 : decode cX6_gramsNeeded 14 = .ok (.aload_n 0, 1) := by decide +kernel
theorem dX6_gramsNeeded_15 : decode cX6_gramsNeeded 15 = .ok (.iload 4, 2) := by decide +kernel
theorem dX6_gramsNeeded_17 : decode cX6_gramsNeeded 17 = .ok (.iconst 1, 1) := by decide +kernel
theorem dX6_gramsNeeded_18 : decode cX6_gramsNeeded 18 = .ok (.iload_n 1, 1) := by decide +kernel
theorem dX6_gramsNeeded_19 : decode cX6_gramsNeeded 19 = .ok (.invokevirtual 36, 3) := by decide +kernel
theorem dX6_gramsNeeded_22 : decode cX6_gramsNeeded 22 = .ok (.ifCond .eq 26, 3) := by decide +kernel
theorem dX6_gramsNeeded_25 : decode cX6_gramsNeeded 25 = .ok (.iload_n 2, 1) := by decide +kernel
theorem dX6_gramsNeeded_26 : decode cX6_gramsNeeded 26 = .ok (.aload_n 0, 1) := by decide +kernel
theorem dX6_gramsNeeded_27 : decode cX6_gramsNeeded 27 = .ok (.getfield 21, 3) := by decide +kernel
theorem dX6_gramsNeeded_30 : decode cX6_gramsNeeded 30 = .ok (.iload 4, 2) := by decide +kernel
theorem dX6_gramsNeeded_32 : decode cX6_gramsNeeded 32 = .ok (.iaload, 1) := by decide +kernel
theorem dX6_gramsNeeded_33 : decode cX6_gramsNeeded 33 = .ok (.if_icmp .le 15, 3) := by decide +kernel
theorem dX6_gramsNeeded_36 : decode cX6_gramsNeeded 36 = .ok (.iload_n 3, 1) := by decide +kernel
theorem dX6_gramsNeeded_37 : decode cX6_gramsNeeded 37 = .ok (.aload_n 0, 1) := by decide +kernel
theorem dX6_gramsNeeded_38 : decode cX6_gramsNeeded 38 = .ok (.getfield 18, 3) := by decide +kernel
theorem dX6_gramsNeeded_41 : decode cX6_gramsNeeded 41 = .ok (.iload 4, 2) := by decide +kernel
theorem dX6_gramsNeeded_43 : decode cX6_gramsNeeded 43 = .ok (.iaload, 1) := by decide +kernel
theorem dX6_gramsNeeded_44 : decode cX6_gramsNeeded 44 = .ok (.iload_n 2, 1) := by decide +kernel
theorem dX6_gramsNeeded_45 : decode cX6_gramsNeeded 45 = .ok (.imul, 1) := by decide +kernel
theorem dX6_gramsNeeded_46 : decode cX6_gramsNeeded 46 = .ok (.iadd, 1) := by decide +kernel
theorem dX6_gramsNeeded_47 : decode cX6_gramsNeeded 47 = .ok (.istore_n 3, 1) := by decide +kernel
theorem dX6_gramsNeeded_48 : decode cX6_gramsNeeded 48 = .ok (.iinc 4 1, 3) := by decide +kernel
theorem dX6_gramsNeeded_51 : decode cX6_gramsNeeded 51 = .ok (.goto (-46), 3) := by decide +kernel
theorem dX6_gramsNeeded_54 : decode cX6_gramsNeeded 54 = .ok (.iload_n 3, 1) := by decide +kernel
theorem dX6_gramsNeeded_55 : decode cX6_gramsNeeded 55 = .ok (.ireturn, 1) := by decide +kernel
theorem dX6_daysSpared_0 : decode cX6_daysSpared 0 = .ok (.iconst 0, 1) := by decide +kernel
theorem dX6_daysSpared_1 : decode cX6_daysSpared 1 = .ok (.istore_n 2, 1) := by decide +kernel
theorem dX6_daysSpared_2 : decode cX6_daysSpared 2 = .ok (.iconst 0, 1) := by decide +kernel
theorem dX6_daysSpared_3 : decode cX6_daysSpared 3 = .ok (.istore_n 3, 1) := by decide +kernel
theorem dX6_daysSpared_4 : decode cX6_daysSpared 4 = .ok (.iload_n 3, 1) := by decide +kernel
theorem dX6_daysSpared_5 : decode cX6_daysSpared 5 = .ok (.aload_n 0, 1) := by decide +kernel
theorem dX6_daysSpared_6 : decode cX6_daysSpared 6 = .ok (.getfield 24, 3) := by decide +kernel
theorem dX6_daysSpared_9 : decode cX6_daysSpared 9 = .ok (.if_icmp .ge 30, 3) := by decide +kernel
theorem dX6_daysSpared_12 : decode cX6_daysSpared 12 = .ok (.aload_n 0, 1) := by decide +kernel
theorem dX6_daysSpared_13 : decode cX6_daysSpared 13 = .ok (.iload_n 3, 1) := by decide +kernel
theorem dX6_daysSpared_14 : decode cX6_daysSpared 14 = .ok (.iconst 2, 1) := by decide +kernel
theorem dX6_daysSpared_15 : decode cX6_daysSpared 15 = .ok (.iload_n 1, 1) := by decide +kernel
theorem dX6_daysSpared_16 : decode cX6_daysSpared 16 = .ok (.invokevirtual 36, 3) := by decide +kernel
theorem dX6_daysSpared_19 : decode cX6_daysSpared 19 = .ok (.ifCond .eq 14, 3) := by decide +kernel
theorem dX6_daysSpared_22 : decode cX6_daysSpared 22 = .ok (.iload_n 2, 1) := by decide +kernel
theorem dX6_daysSpared_23 : decode cX6_daysSpared 23 = .ok (.aload_n 0, 1) := by decide +kernel
theorem dX6_daysSpared_24 : decode cX6_daysSpared 24 = .ok (.getfield 18, 3) := by decide +kernel
theorem dX6_daysSpared_27 : decode cX6_daysSpared 27 = .ok (.iload_n 3, 1) := by decide +kernel
theorem dX6_daysSpared_28 : decode cX6_daysSpared 28 = .ok (.iaload, 1) := by decide +kernel
theorem dX6_daysSpared_29 : decode cX6_daysSpared 29 = .ok (.invokestatic 39, 3) := by decide +kernel
theorem dX6_daysSpared_32 : decode cX6_daysSpared 32 = .ok (.istore_n 2, 1) := by decide +kernel
theorem dX6_daysSpared_33 : decode cX6_daysSpared 33 = .ok (.iinc 3 1, 3) := by decide +kernel
theorem dX6_daysSpared_36 : decode cX6_daysSpared 36 = .ok (.goto (-32), 3) := by decide +kernel
theorem dX6_daysSpared_39 : decode cX6_daysSpared 39 = .ok (.iload_n 2, 1) := by decide +kernel
theorem dX6_daysSpared_40 : decode cX6_daysSpared 40 = .ok (.ireturn, 1) := by decide +kernel
theorem dX6_kindSwapped_0 : decode cX6_kindSwapped 0 = .ok (.aload_n 0, 1) := by decide +kernel
theorem dX6_kindSwapped_1 : decode cX6_kindSwapped 1 = .ok (.iload_n 1, 1) := by decide +kernel
theorem dX6_kindSwapped_2 : decode cX6_kindSwapped 2 = .ok (.iconst 3, 1) := by decide +kernel
theorem dX6_kindSwapped_3 : decode cX6_kindSwapped 3 = .ok (.iload_n 2, 1) := by decide +kernel
theorem dX6_kindSwapped_4 : decode cX6_kindSwapped 4 = .ok (.invokevirtual 36, 3) := by decide +kernel
theorem dX6_kindSwapped_7 : decode cX6_kindSwapped 7 = .ok (.ifCond .eq 12, 3) := by decide +kernel
theorem dX6_kindSwapped_10 : decode cX6_kindSwapped 10 = .ok (.aload_n 0, 1) := by decide +kernel
theorem dX6_kindSwapped_11 : decode cX6_kindSwapped 11 = .ok (.getfield 18, 3) := by decide +kernel
theorem dX6_kindSwapped_14 : decode cX6_kindSwapped 14 = .ok (.iload_n 1, 1) := by decide +kernel
theorem dX6_kindSwapped_15 : decode cX6_kindSwapped 15 = .ok (.iaload, 1) := by decide +kernel
theorem dX6_kindSwapped_16 : decode cX6_kindSwapped 16 = .ok (.goto 4, 3) := by decide +kernel
theorem dX6_kindSwapped_19 : decode cX6_kindSwapped 19 = .ok (.iconst (-1), 1) := by decide +kernel
theorem dX6_kindSwapped_20 : decode cX6_kindSwapped 20 = .ok (.ireturn, 1) := by decide +kernel
theorem dX7_init_0 : decode cX7_init 0 = .ok (.aload_n 0, 1) := by decide +kernel
theorem dX7_init_1 : decode cX7_init 1 = .ok (.invokespecial 3, 3) := by decide +kernel
theorem dX7_init_4 : decode cX7_init 4 = .ok (.aload_n 0, 1) := by decide +kernel
theorem dX7_init_5 : decode cX7_init 5 = .ok (.new 9, 3) := by decide +kernel
theorem dX7_init_8 : decode cX7_init 8 = .ok (.dup, 1) := by decide +kernel
theorem dX7_init_9 : decode cX7_init 9 = .ok (.invokespecial 11, 3) := by decide +kernel
theorem dX7_init_12 : decode cX7_init 12 = .ok (.putfield 12, 3) := by decide +kernel
theorem dX7_init_15 : decode cX7_init 15 = .ok (.aload_n 0, 1) := by decide +kernel
theorem dX7_init_16 : decode cX7_init 16 = .ok (.bipush 10, 2) := by decide +kernel
theorem dX7_init_18 : decode cX7_init 18 = .ok (.anewarray 18, 3) := by decide +kernel
theorem dX7_init_21 : decode cX7_init 21 = .ok (.putfield 20, 3) := by decide +kernel
theorem dX7_init_24 : decode cX7_init 24 = .ok (.return_, 1) := by decide +kernel
theorem dX7_size_0 : decode cX7_size 0 = .ok (.aload_n 0, 1) := by decide +kernel
theorem dX7_size_1 : decode cX7_size 1 = .ok (.getfield 12, 3) := by decide +kernel
theorem dX7_size_4 : decode cX7_size 4 = .ok (.invokevirtual 24, 3) := by decide +kernel
theorem dX7_size_7 : decode cX7_size 7 = .ok (.ireturn, 1) := by decide +kernel
theorem dX7_find_0 : decode cX7_find 0 = .ok (.iload_n 1, 1) := by decide +kernel
theorem dX7_find_1 : decode cX7_find 1 = .ok (.iconst 0, 1) := by decide +kernel
theorem dX7_find_2 : decode cX7_find 2 = .ok (.aload_n 0, 1) := by decide +kernel
theorem dX7_find_3 : decode cX7_find 3 = .ok (.getfield 12, 3) := by decide +kernel
theorem dX7_find_6 : decode cX7_find 6 = .ok (.invokevirtual 24, 3) := by decide +kernel
theorem dX7_find_9 : decode cX7_find 9 = .ok (.iconst 1, 1) := by decide +kernel
theorem dX7_find_10 : decode cX7_find 10 = .ok (.isub, 1) := by decide +kernel
theorem dX7_find_11 : decode cX7_find 11 = .ok (.invokestatic 28, 3) := by decide +kernel
theorem dX7_find_14 : decode cX7_find 14 = .ok (.ifCond .eq 17, 3) := by decide +kernel
theorem dX7_find_17 : decode cX7_find 17 = .ok (.aload_n 0, 1) := by decide +kernel
theorem dX7_find_18 : decode cX7_find 18 = .ok (.getfield 12, 3) := by decide +kernel
theorem dX7_find_21 : decode cX7_find 21 = .ok (.iload_n 1, 1) := by decide +kernel
theorem dX7_find_22 : decode cX7_find 22 = .ok (.invokevirtual 32, 3) := by decide +kernel
theorem dX7_find_25 : decode cX7_find 25 = .ok (.checkcast 18, 3) := by decide +kernel
theorem dX7_find_28 : decode cX7_find 28 = .ok (.goto 4, 3) := by decide +kernel
theorem dX7_find_31 : decode cX7_find 31 = .ok (.aconst_null, 1) := by decide +kernel
theorem dX7_find_32 : decode cX7_find 32 = .ok (.areturn, 1) := by decide +kernel
theorem dX7_soonestOf_0 : decode cX7_soonestOf 0 = .ok (.iload_n 1, 1) := by decide +kernel
theorem dX7_soonestOf_1 : decode cX7_soonestOf 1 = .ok (.invokestatic 36, 3) := by decide +kernel
theorem dX7_soonestOf_4 : decode cX7_soonestOf 4 = .ok (.ifCond .eq 12, 3) := by decide +kernel
theorem dX7_soonestOf_7 : decode cX7_soonestOf 7 = .ok (.aload_n 0, 1) := by decide +kernel
theorem dX7_soonestOf_8 : decode cX7_soonestOf 8 = .ok (.getfield 20, 3) := by decide +kernel
theorem dX7_soonestOf_11 : decode cX7_soonestOf 11 = .ok (.iload_n 1, 1) := by decide +kernel
theorem dX7_soonestOf_12 : decode cX7_soonestOf 12 = .ok (.aaload, 1) := by decide +kernel
theorem dX7_soonestOf_13 : decode cX7_soonestOf 13 = .ok (.goto 4, 3) := by decide +kernel
theorem dX7_soonestOf_16 : decode cX7_soonestOf 16 = .ok (.aconst_null, 1) := by decide +kernel
theorem dX7_soonestOf_17 : decode cX7_soonestOf 17 = .ok (.areturn, 1) := by decide +kernel
theorem dX7_add_0 : decode cX7_add 0 = .ok (.aload_n 1, 1) := by decide +kernel
theorem dX7_add_1 : decode cX7_add 1 = .ok (.getfield 40, 3) := by decide +kernel
theorem dX7_add_4 : decode cX7_add 4 = .ok (.invokestatic 36, 3) := by decide +kernel
theorem dX7_add_7 : decode cX7_add 7 = .ok (.ifCond .ne 4, 3) := by decide +kernel
theorem dX7_add_10 : decode cX7_add 10 = .ok (.return_, 1) := by decide +kernel
theorem dX7_add_11 : decode cX7_add 11 = .ok (.aload_n 0, 1) := by decide +kernel
theorem dX7_add_12 : decode cX7_add 12 = .ok (.getfield 12, 3) := by decide +kernel
theorem dX7_add_15 : decode cX7_add 15 = .ok (.aload_n 1, 1) := by decide +kernel
theorem dX7_add_16 : decode cX7_add 16 = .ok (.invokevirtual 44, 3) := by decide +kernel
theorem dX7_add_19 : decode cX7_add 19 = .ok (.pop, 1) := by decide +kernel
theorem dX7_add_20 : decode cX7_add 20 = .ok (.aconst_null, 1) := by decide +kernel
theorem dX7_add_21 : decode cX7_add 21 = .ok (.astore_n 2, 1) := by decide +kernel
theorem dX7_add_22 : decode cX7_add 22 = .ok (.aload_n 0, 1) := by decide +kernel
theorem dX7_add_23 : decode cX7_add 23 = .ok (.getfield 20, 3) := by decide +kernel
theorem dX7_add_26 : decode cX7_add 26 = .ok (.aload_n 1, 1) := by decide +kernel
theorem dX7_add_27 : decode cX7_add 27 = .ok (.getfield 40, 3) := by decide +kernel
theorem dX7_add_30 : decode cX7_add 30 = .ok (.aaload, 1) := by decide +kernel
theorem dX7_add_31 : decode cX7_add 31 = .ok (.astore_n 3, 1) := by decide +kernel
theorem dX7_add_32 : decode cX7_add 32 = .ok (.aload_n 3, 1) := by decide +kernel
theorem dX7_add_33 : decode cX7_add 33 = .ok (.ifnull 24, 3) := by decide +kernel
theorem dX7_add_36 : decode cX7_add 36 = .ok (.aload_n 3, 1) := by decide +kernel
theorem dX7_add_37 : decode cX7_add 37 = .ok (.getfield 48, 3) := by decide +kernel
theorem dX7_add_40 : decode cX7_add 40 = .ok (.aload_n 1, 1) := by decide +kernel
theorem dX7_add_41 : decode cX7_add 41 = .ok (.getfield 48, 3) := by decide +kernel
theorem dX7_add_44 : decode cX7_add 44 = .ok (.if_icmp .gt 13, 3) := by decide +kernel
theorem dX7_add_47 : decode cX7_add 47 = .ok (.aload_n 3, 1) := by decide +kernel
theorem dX7_add_48 : decode cX7_add 48 = .ok (.astore_n 2, 1) := by decide +kernel
theorem dX7_add_49 : decode cX7_add 49 = .ok (.aload_n 3, 1) := by decide +kernel
theorem dX7_add_50 : decode cX7_add 50 = .ok (.getfield 51, 3) := by decide +kernel
theorem dX7_add_53 : decode cX7_add 53 = .ok (.astore_n 3, 1) := by decide +kernel
theorem dX7_add_54 : decode cX7_add 54 = .ok (.goto (-22), 3) := by decide +kernel
theorem dX7_add_57 : decode cX7_add 57 = .ok (.aload_n 2, 1) := by decide +kernel
theorem dX7_add_58 : decode cX7_add 58 = .ok (.ifnonnull 29, 3) := by decide +kernel
theorem dX7_add_61 : decode cX7_add 61 = .ok (.aload_n 1, 1) := by decide +kernel
theorem dX7_add_62 : decode cX7_add 62 = .ok (.aload_n 0, 1) := by decide +kernel
theorem dX7_add_63 : decode cX7_add 63 = .ok (.getfield 20, 3) := by decide +kernel
theorem dX7_add_66 : decode cX7_add 66 = .ok (.aload_n 1, 1) := by decide +kernel
theorem dX7_add_67 : decode cX7_add 67 = .ok (.getfield 40, 3) := by decide +kernel
theorem dX7_add_70 : decode cX7_add 70 = .ok (.aaload, 1) := by decide +kernel
theorem dX7_add_71 : decode cX7_add 71 = .ok (.putfield 51, 3) := by decide +kernel
theorem dX7_add_74 : decode cX7_add 74 = .ok (.aload_n 0, 1) := by decide +kernel
theorem dX7_add_75 : decode cX7_add 75 = .ok (.getfield 20, 3) := by decide +kernel
theorem dX7_add_78 : decode cX7_add 78 = .ok (.aload_n 1, 1) := by decide +kernel
theorem dX7_add_79 : decode cX7_add 79 = .ok (.getfield 40, 3) := by decide +kernel
theorem dX7_add_82 : decode cX7_add 82 = .ok (.aload_n 1, 1) := by decide +kernel
theorem dX7_add_83 : decode cX7_add 83 = .ok (.aastore, 1) := by decide +kernel
theorem dX7_add_84 : decode cX7_add 84 = .ok (.goto 16, 3) := by decide +kernel
theorem dX7_add_87 : decode cX7_add 87 = .ok (.aload_n 1, 1) := by decide +kernel
theorem dX7_add_88 : decode cX7_add 88 = .ok (.aload_n 2, 1) := by decide +kernel
theorem dX7_add_89 : decode cX7_add 89 = .ok (.getfield 51, 3) := by decide +kernel
theorem dX7_add_92 : decode cX7_add 92 = .ok (.putfield 51, 3) := by decide +kernel
theorem dX7_add_95 : decode cX7_add 95 = .ok (.aload_n 2, 1) := by decide +kernel
theorem dX7_add_96 : decode cX7_add 96 = .ok (.aload_n 1, 1) := by decide +kernel
theorem dX7_add_97 : decode cX7_add 97 = .ok (.putfield 51, 3) := by decide +kernel
theorem dX7_add_100 : decode cX7_add 100 = .ok (.return_, 1) := by decide +kernel
theorem dX7_spoilBefore_0 : decode cX7_spoilBefore 0 = .ok (.iconst 0, 1) := by decide +kernel
theorem dX7_spoilBefore_1 : decode cX7_spoilBefore 1 = .ok (.istore_n 2, 1) := by decide +kernel
theorem dX7_spoilBefore_2 : decode cX7_spoilBefore 2 = .ok (.iload_n 2, 1) := by decide +kernel
theorem dX7_spoilBefore_3 : decode cX7_spoilBefore 3 = .ok (.aload_n 0, 1) := by decide +kernel
theorem dX7_spoilBefore_4 : decode cX7_spoilBefore 4 = .ok (.getfield 12, 3) := by decide +kernel
theorem dX7_spoilBefore_7 : decode cX7_spoilBefore 7 = .ok (.invokevirtual 24, 3) := by decide +kernel
theorem dX7_spoilBefore_10 : decode cX7_spoilBefore 10 = .ok (.if_icmp .ge 46, 3) := by decide +kernel
theorem dX7_spoilBefore_13 : decode cX7_spoilBefore 13 = .ok (.aload_n 0, 1) := by decide +kernel
theorem dX7_spoilBefore_14 : decode cX7_spoilBefore 14 = .ok (.getfield 12, 3) := by decide +kernel
theorem dX7_spoilBefore_17 : decode cX7_spoilBefore 17 = .ok (.iload_n 2, 1) := by decide +kernel
theorem dX7_spoilBefore_18 : decode cX7_spoilBefore 18 = .ok (.invokevirtual 32, 3) := by decide +kernel
theorem dX7_spoilBefore_21 : decode cX7_spoilBefore 21 = .ok (.checkcast 18, 3) := by decide +kernel
theorem dX7_spoilBefore_24 : decode cX7_spoilBefore 24 = .ok (.astore_n 3, 1) := by decide +kernel
theorem dX7_spoilBefore_25 : decode cX7_spoilBefore 25 = .ok (.aload_n 3, 1) := by decide +kernel
theorem dX7_spoilBefore_26 : decode cX7_spoilBefore 26 = .ok (.getfield 48, 3) := by decide +kernel
theorem dX7_spoilBefore_29 : decode cX7_spoilBefore 29 = .ok (.iload_n 1, 1) := by decide +kernel
theorem dX7_spoilBefore_30 : decode cX7_spoilBefore 30 = .ok (.if_icmp .ge 20, 3) := by decide +kernel
theorem dX7_spoilBefore_33 : decode cX7_spoilBefore 33 = .ok (.aload_n 3, 1) := by decide +kernel
theorem dX7_spoilBefore_34 : decode cX7_spoilBefore 34 = .ok (.dup, 1) := by decide +kernel
theorem dX7_spoilBefore_35 : decode cX7_spoilBefore 35 = .ok (.getfield 55, 3) := by decide +kernel
theorem dX7_spoilBefore_38 : decode cX7_spoilBefore 38 = .ok (.aload_n 3, 1) := by decide +kernel
theorem dX7_spoilBefore_39 : decode cX7_spoilBefore 39 = .ok (.aload_n 3, 1) := by decide +kernel
theorem dX7_spoilBefore_40 : decode cX7_spoilBefore 40 = .ok (.getfield 58, 3) := by decide +kernel
theorem dX7_spoilBefore_43 : decode cX7_spoilBefore 43 = .ok (.invokevirtual 61, 3) := by decide +kernel
theorem dX7_spoilBefore_46 : decode cX7_spoilBefore 46 = .ok (.iadd, 1) := by decide +kernel
theorem dX7_spoilBefore_47 : decode cX7_spoilBefore 47 = .ok (.putfield 55, 3) := by decide +kernel
theorem dX7_spoilBefore_50 : decode cX7_spoilBefore 50 = .ok (.iinc 2 1, 3) := by decide +kernel
theorem dX7_spoilBefore_53 : decode cX7_spoilBefore 53 = .ok (.goto (-51), 3) := by decide +kernel
theorem dX7_spoilBefore_56 : decode cX7_spoilBefore 56 = .ok (.return_, 1) := by decide +kernel
theorem dX7_gramsThatMayGo_0 : decode cX7_gramsThatMayGo 0 = .ok (.iconst 0, 1) := by decide +kernel
theorem dX7_gramsThatMayGo_1 : decode cX7_gramsThatMayGo 1 = .ok (.istore_n 3, 1) := by decide +kernel
theorem dX7_gramsThatMayGo_2 : decode cX7_gramsThatMayGo 2 = .ok (.aload_n 0, 1) := by decide +kernel
theorem dX7_gramsThatMayGo_3 : decode cX7_gramsThatMayGo 3 = .ok (.iload_n 1, 1) := by decide +kernel
theorem dX7_gramsThatMayGo_4 : decode cX7_gramsThatMayGo 4 = .ok (.invokevirtual 65, 3) := by decide +kernel
theorem dX7_gramsThatMayGo_7 : decode cX7_gramsThatMayGo 7 = .ok (.astore 4, 2) := by decide +kernel
theorem dX7_gramsThatMayGo_9 : decode cX7_gramsThatMayGo 9 = .ok (.aload 4, 2) := by decide +kernel
theorem dX7_gramsThatMayGo_11 : decode cX7_gramsThatMayGo 11 = .ok (.ifnull 30, 3) := by decide +kernel
theorem dX7_gramsThatMayGo_14 : decode cX7_gramsThatMayGo 14 = .ok (.aload 4, 2) := by decide +kernel
theorem dX7_gramsThatMayGo_16 : decode cX7_gramsThatMayGo 16 = .ok (.iload_n 2, 1) := by decide +kernel
theorem dX7_gramsThatMayGo_17 : decode cX7_gramsThatMayGo 17 = .ok (.invokevirtual 69, 3) := by decide +kernel
theorem dX7_gramsThatMayGo_20 : decode cX7_gramsThatMayGo 20 = .ok (.ifCond .eq 11, 3) := by decide +kernel
theorem dX7_gramsThatMayGo_23 : decode cX7_gramsThatMayGo 23 = .ok (.iload_n 3, 1) := by decide +kernel
theorem dX7_gramsThatMayGo_24 : decode cX7_gramsThatMayGo 24 = .ok (.aload 4, 2) := by decide +kernel
theorem dX7_gramsThatMayGo_26 : decode cX7_gramsThatMayGo 26 = .ok (.getfield 58, 3) := by decide +kernel
theorem dX7_gramsThatMayGo_29 : decode cX7_gramsThatMayGo 29 = .ok (.iadd, 1) := by decide +kernel
theorem dX7_gramsThatMayGo_30 : decode cX7_gramsThatMayGo 30 = .ok (.istore_n 3, 1) := by decide +kernel
theorem dX7_gramsThatMayGo_31 : decode cX7_gramsThatMayGo 31 = .ok (.aload 4, 2) := by decide +kernel
theorem dX7_gramsThatMayGo_33 : decode cX7_gramsThatMayGo 33 = .ok (.getfield 51, 3) := by decide +kernel
theorem dX7_gramsThatMayGo_36 : decode cX7_gramsThatMayGo 36 = .ok (.astore 4, 2) := by decide +kernel
theorem dX7_gramsThatMayGo_38 : decode cX7_gramsThatMayGo 38 = .ok (.goto (-29), 3) := by decide +kernel
theorem dX7_gramsThatMayGo_41 : decode cX7_gramsThatMayGo 41 = .ok (.iload_n 3, 1) := by decide +kernel
theorem dX7_gramsThatMayGo_42 : decode cX7_gramsThatMayGo 42 = .ok (.ireturn, 1) := by decide +kernel
theorem dX7_partOut_0 : decode cX7_partOut 0 = .ok (.iload_n 3, 1) := by decide +kernel
theorem dX7_partOut_1 : decode cX7_partOut 1 = .ok (.istore 4, 2) := by decide +kernel
theorem dX7_partOut_3 : decode cX7_partOut 3 = .ok (.aload_n 0, 1) := by decide +kernel
theorem dX7_partOut_4 : decode cX7_partOut 4 = .ok (.iload_n 1, 1) := by decide +kernel
theorem dX7_partOut_5 : decode cX7_partOut 5 = .ok (.invokevirtual 65, 3) := by decide +kernel
theorem dX7_partOut_8 : decode cX7_partOut 8 = .ok (.astore 5, 2) := by decide +kernel
theorem dX7_partOut_10 : decode cX7_partOut 10 = .ok (.aload 5, 2) := by decide +kernel
theorem dX7_partOut_12 : decode cX7_partOut 12 = .ok (.ifnull 55, 3) := by decide +kernel
theorem dX7_partOut_15 : decode cX7_partOut 15 = .ok (.iload 4, 2) := by decide +kernel
theorem dX7_partOut_17 : decode cX7_partOut 17 = .ok (.ifCond .le 50, 3) := by decide +kernel
theorem dX7_partOut_20 : decode cX7_partOut 20 = .ok (.aload 5, 2) := by decide +kernel
theorem dX7_partOut_22 : decode cX7_partOut 22 = .ok (.iload_n 2, 1) := by decide +kernel
theorem dX7_partOut_23 : decode cX7_partOut 23 = .ok (.invokevirtual 69, 3) := by decide +kernel
theorem dX7_partOut_26 : decode cX7_partOut 26 = .ok (.ifCond .eq 31, 3) := by decide +kernel
theorem dX7_partOut_29 : decode cX7_partOut 29 = .ok (.aload 5, 2) := by decide +kernel
theorem dX7_partOut_31 : decode cX7_partOut 31 = .ok (.iload 4, 2) := by decide +kernel
theorem dX7_partOut_33 : decode cX7_partOut 33 = .ok (.invokevirtual 61, 3) := by decide +kernel
theorem dX7_partOut_36 : decode cX7_partOut 36 = .ok (.istore 6, 2) := by decide +kernel
theorem dX7_partOut_38 : decode cX7_partOut 38 = .ok (.aload 5, 2) := by decide +kernel
theorem dX7_partOut_40 : decode cX7_partOut 40 = .ok (.dup, 1) := by decide +kernel
theorem dX7_partOut_41 : decode cX7_partOut 41 = .ok (.getfield 72, 3) := by decide +kernel
theorem dX7_partOut_44 : decode cX7_partOut 44 = .ok (.iload 6, 2) := by decide +kernel
theorem dX7_partOut_46 : decode cX7_partOut 46 = .ok (.iadd, 1) := by decide +kernel
theorem dX7_partOut_47 : decode cX7_partOut 47 = .ok (.putfield 72, 3) := by decide +kernel
theorem dX7_partOut_50 : decode cX7_partOut 50 = .ok (.iload 4, 2) := by decide +kernel
theorem dX7_partOut_52 : decode cX7_partOut 52 = .ok (.iload 6, 2) := by decide +kernel
theorem dX7_partOut_54 : decode cX7_partOut 54 = .ok (.isub, 1) := by decide +kernel
theorem dX7_partOut_55 : decode cX7_partOut 55 = .ok (.istore 4, 2) := by decide +kernel
theorem dX7_partOut_57 : decode cX7_partOut 57 = .ok (.aload 5, 2) := by decide +kernel
theorem dX7_partOut_59 : decode cX7_partOut 59 = .ok (.getfield 51, 3) := by decide +kernel
theorem dX7_partOut_62 : decode cX7_partOut 62 = .ok (.astore 5, 2) := by decide +kernel
theorem dX7_partOut_64 : decode cX7_partOut 64 = .ok (.goto (-54), 3) := by decide +kernel
theorem dX7_partOut_67 : decode cX7_partOut 67 = .ok (.return_, 1) := by decide +kernel
theorem dX7_handOut_0 : decode cX7_handOut 0 = .ok (.iload_n 3, 1) := by decide +kernel
theorem dX7_handOut_1 : decode cX7_handOut 1 = .ok (.istore 6, 2) := by decide +kernel
theorem dX7_handOut_3 : decode cX7_handOut 3 = .ok (.aload_n 0, 1) := by decide +kernel
theorem dX7_handOut_4 : decode cX7_handOut 4 = .ok (.iload_n 1, 1) := by decide +kernel
theorem dX7_handOut_5 : decode cX7_handOut 5 = .ok (.invokevirtual 65, 3) := by decide +kernel
theorem dX7_handOut_8 : decode cX7_handOut 8 = .ok (.astore 7, 2) := by decide +kernel
theorem dX7_handOut_10 : decode cX7_handOut 10 = .ok (.aload 7, 2) := by decide +kernel
theorem dX7_handOut_12 : decode cX7_handOut 12 = .ok (.ifnull 79, 3) := by decide +kernel
theorem dX7_handOut_15 : decode cX7_handOut 15 = .ok (.iload 6, 2) := by decide +kernel
theorem dX7_handOut_17 : decode cX7_handOut 17 = .ok (.ifCond .le 74, 3) := by decide +kernel
theorem dX7_handOut_20 : decode cX7_handOut 20 = .ok (.aload 7, 2) := by decide +kernel
theorem dX7_handOut_22 : decode cX7_handOut 22 = .ok (.iload_n 2, 1) := by decide +kernel
theorem dX7_handOut_23 : decode cX7_handOut 23 = .ok (.invokevirtual 69, 3) := by decide +kernel
theorem dX7_handOut_26 : decode cX7_handOut 26 = .ok (.ifCond .eq 55, 3) := by decide +kernel
theorem dX7_handOut_29 : decode cX7_handOut 29 = .ok (.aload 7, 2) := by decide +kernel
theorem dX7_handOut_31 : decode cX7_handOut 31 = .ok (.iload 6, 2) := by decide +kernel
theorem dX7_handOut_33 : decode cX7_handOut 33 = .ok (.invokevirtual 61, 3) := by decide +kernel
theorem dX7_handOut_36 : decode cX7_handOut 36 = .ok (.istore 8, 2) := by decide +kernel
theorem dX7_handOut_38 : decode cX7_handOut 38 = .ok (.aload 7, 2) := by decide +kernel
theorem dX7_handOut_40 : decode cX7_handOut 40 = .ok (.dup, 1) := by decide +kernel
theorem dX7_handOut_41 : decode cX7_handOut 41 = .ok (.getfield 75, 3) := by decide +kernel
theorem dX7_handOut_44 : decode cX7_handOut 44 = .ok (.iload 8, 2) := by decide +kernel
theorem dX7_handOut_46 : decode cX7_handOut 46 = .ok (.iadd, 1) := by decide +kernel
theorem dX7_handOut_47 : decode cX7_handOut 47 = .ok (.putfield 75, 3) := by decide +kernel
theorem dX7_handOut_50 : decode cX7_handOut 50 = .ok (.iload 6, 2) := by decide +kernel
theorem dX7_handOut_52 : decode cX7_handOut 52 = .ok (.iload 8, 2) := by decide +kernel
theorem dX7_handOut_54 : decode cX7_handOut 54 = .ok (.isub, 1) := by decide +kernel
theorem dX7_handOut_55 : decode cX7_handOut 55 = .ok (.istore 6, 2) := by decide +kernel
theorem dX7_handOut_57 : decode cX7_handOut 57 = .ok (.aload 4, 2) := by decide +kernel
theorem dX7_handOut_59 : decode cX7_handOut 59 = .ok (.aload 7, 2) := by decide +kernel
theorem dX7_handOut_61 : decode cX7_handOut 61 = .ok (.getfield 78, 3) := by decide +kernel
theorem dX7_handOut_64 : decode cX7_handOut 64 = .ok (.iload 8, 2) := by decide +kernel
theorem dX7_handOut_66 : decode cX7_handOut 66 = .ok (.invokevirtual 81, 3) := by decide +kernel
theorem dX7_handOut_69 : decode cX7_handOut 69 = .ok (.aload 5, 2) := by decide +kernel
theorem dX7_handOut_71 : decode cX7_handOut 71 = .ok (.aload 7, 2) := by decide +kernel
theorem dX7_handOut_73 : decode cX7_handOut 73 = .ok (.getfield 87, 3) := by decide +kernel
theorem dX7_handOut_76 : decode cX7_handOut 76 = .ok (.iload 8, 2) := by decide +kernel
theorem dX7_handOut_78 : decode cX7_handOut 78 = .ok (.invokevirtual 90, 3) := by decide +kernel
theorem dX7_handOut_81 : decode cX7_handOut 81 = .ok (.aload 7, 2) := by decide +kernel
theorem dX7_handOut_83 : decode cX7_handOut 83 = .ok (.getfield 51, 3) := by decide +kernel
theorem dX7_handOut_86 : decode cX7_handOut 86 = .ok (.astore 7, 2) := by decide +kernel
theorem dX7_handOut_88 : decode cX7_handOut 88 = .ok (.goto (-78), 3) := by decide +kernel
theorem dX7_handOut_91 : decode cX7_handOut 91 = .ok (.iload_n 3, 1) := by decide +kernel
theorem dX7_handOut_92 : decode cX7_handOut 92 = .ok (.iload 6, 2) := by decide +kernel
theorem dX7_handOut_94 : decode cX7_handOut 94 = .ok (.isub, 1) := by decide +kernel
theorem dX7_handOut_95 : decode cX7_handOut 95 = .ok (.ireturn, 1) := by decide +kernel
theorem dX7_givenBy_0 : decode cX7_givenBy 0 = .ok (.lconst 0, 1) := by decide +kernel
theorem dX7_givenBy_1 : decode cX7_givenBy 1 = .ok (.lstore_n 3, 1) := by decide +kernel
theorem dX7_givenBy_2 : decode cX7_givenBy 2 = .ok (.iconst 0, 1) := by decide +kernel
theorem dX7_givenBy_3 : decode cX7_givenBy 3 = .ok (.istore 5, 2) := by decide +kernel
theorem dX7_givenBy_5 : decode cX7_givenBy 5 = .ok (.iload 5, 2) := by decide +kernel
theorem dX7_givenBy_7 : decode cX7_givenBy 7 = .ok (.aload_n 0, 1) := by decide +kernel
theorem dX7_givenBy_8 : decode cX7_givenBy 8 = .ok (.getfield 12, 3) := by decide +kernel
theorem dX7_givenBy_11 : decode cX7_givenBy 11 = .ok (.invokevirtual 24, 3) := by decide +kernel
theorem dX7_givenBy_14 : decode cX7_givenBy 14 = .ok (.if_icmp .ge 42, 3) := by decide +kernel
theorem dX7_givenBy_17 : decode cX7_givenBy 17 = .ok (.aload_n 0, 1) := by decide +kernel
theorem dX7_givenBy_18 : decode cX7_givenBy 18 = .ok (.getfield 12, 3) := by decide +kernel
theorem dX7_givenBy_21 : decode cX7_givenBy 21 = .ok (.iload 5, 2) := by decide +kernel
theorem dX7_givenBy_23 : decode cX7_givenBy 23 = .ok (.invokevirtual 32, 3) := by decide +kernel
theorem dX7_givenBy_26 : decode cX7_givenBy 26 = .ok (.checkcast 18, 3) := by decide +kernel
theorem dX7_givenBy_29 : decode cX7_givenBy 29 = .ok (.astore 6, 2) := by decide +kernel
theorem dX7_givenBy_31 : decode cX7_givenBy 31 = .ok (.aload 6, 2) := by decide +kernel
theorem dX7_givenBy_33 : decode cX7_givenBy 33 = .ok (.getfield 87, 3) := by decide +kernel
theorem dX7_givenBy_36 : decode cX7_givenBy 36 = .ok (.iload_n 1, 1) := by decide +kernel
theorem dX7_givenBy_37 : decode cX7_givenBy 37 = .ok (.if_icmp .ne 13, 3) := by decide +kernel
theorem dX7_givenBy_40 : decode cX7_givenBy 40 = .ok (.lload_n 3, 1) := by decide +kernel
theorem dX7_givenBy_41 : decode cX7_givenBy 41 = .ok (.aload 6, 2) := by decide +kernel
theorem dX7_givenBy_43 : decode cX7_givenBy 43 = .ok (.iload_n 2, 1) := by decide +kernel
theorem dX7_givenBy_44 : decode cX7_givenBy 44 = .ok (.invokevirtual 95, 3) := by decide +kernel
theorem dX7_givenBy_47 : decode cX7_givenBy 47 = .ok (.i2l, 1) := by decide +kernel
theorem dX7_givenBy_48 : decode cX7_givenBy 48 = .ok (.ladd, 1) := by decide +kernel
theorem dX7_givenBy_49 : decode cX7_givenBy 49 = .ok (.lstore_n 3, 1) := by decide +kernel
theorem dX7_givenBy_50 : decode cX7_givenBy 50 = .ok (.iinc 5 1, 3) := by decide +kernel
theorem dX7_givenBy_53 : decode cX7_givenBy 53 = .ok (.goto (-48), 3) := by decide +kernel
theorem dX7_givenBy_56 : decode cX7_givenBy 56 = .ok (.lload_n 3, 1) := by decide +kernel
theorem dX7_givenBy_57 : decode cX7_givenBy 57 = .ok (.lreturn, 1) := by decide +kernel
theorem dX7_sumOver_0 : decode cX7_sumOver 0 = .ok (.lconst 0, 1) := by decide +kernel
theorem dX7_sumOver_1 : decode cX7_sumOver 1 = .ok (.lstore_n 2, 1) := by decide +kernel
theorem dX7_sumOver_2 : decode cX7_sumOver 2 = .ok (.iconst 0, 1) := by decide +kernel
theorem dX7_sumOver_3 : decode cX7_sumOver 3 = .ok (.istore 4, 2) := by decide +kernel
theorem dX7_sumOver_5 : decode cX7_sumOver 5 = .ok (.iload 4, 2) := by decide +kernel
theorem dX7_sumOver_7 : decode cX7_sumOver 7 = .ok (.aload_n 0, 1) := by decide +kernel
theorem dX7_sumOver_8 : decode cX7_sumOver 8 = .ok (.getfield 12, 3) := by decide +kernel
theorem dX7_sumOver_11 : decode cX7_sumOver 11 = .ok (.invokevirtual 24, 3) := by decide +kernel
theorem dX7_sumOver_14 : decode cX7_sumOver 14 = .ok (.if_icmp .ge 29, 3) := by decide +kernel
theorem dX7_sumOver_17 : decode cX7_sumOver 17 = .ok (.lload_n 2, 1) := by decide +kernel
theorem dX7_sumOver_18 : decode cX7_sumOver 18 = .ok (.aload_n 0, 1) := by decide +kernel
theorem dX7_sumOver_19 : decode cX7_sumOver 19 = .ok (.getfield 12, 3) := by decide +kernel
theorem dX7_sumOver_22 : decode cX7_sumOver 22 = .ok (.iload 4, 2) := by decide +kernel
theorem dX7_sumOver_24 : decode cX7_sumOver 24 = .ok (.invokevirtual 32, 3) := by decide +kernel
theorem dX7_sumOver_27 : decode cX7_sumOver 27 = .ok (.checkcast 18, 3) := by decide +kernel
theorem dX7_sumOver_30 : decode cX7_sumOver 30 = .ok (.iload_n 1, 1) := by decide +kernel
theorem dX7_sumOver_31 : decode cX7_sumOver 31 = .ok (.invokevirtual 98, 3) := by decide +kernel
theorem dX7_sumOver_34 : decode cX7_sumOver 34 = .ok (.i2l, 1) := by decide +kernel
theorem dX7_sumOver_35 : decode cX7_sumOver 35 = .ok (.ladd, 1) := by decide +kernel
theorem dX7_sumOver_36 : decode cX7_sumOver 36 = .ok (.lstore_n 2, 1) := by decide +kernel
theorem dX7_sumOver_37 : decode cX7_sumOver 37 = .ok (.iinc 4 1, 3) := by decide +kernel
theorem dX7_sumOver_40 : decode cX7_sumOver 40 = .ok (.goto (-35), 3) := by decide +kernel
theorem dX7_sumOver_43 : decode cX7_sumOver 43 = .ok (.lload_n 2, 1) := by decide +kernel
theorem dX7_sumOver_44 : decode cX7_sumOver 44 = .ok (.lreturn, 1) := by decide +kernel
theorem dX7_leftOfKind_0 : decode cX7_leftOfKind 0 = .ok (.lconst 0, 1) := by decide +kernel
theorem dX7_leftOfKind_1 : decode cX7_leftOfKind 1 = .ok (.lstore_n 2, 1) := by decide +kernel
theorem dX7_leftOfKind_2 : decode cX7_leftOfKind 2 = .ok (.aload_n 0, 1) := by decide +kernel
theorem dX7_leftOfKind_3 : decode cX7_leftOfKind 3 = .ok (.iload_n 1, 1) := by decide +kernel
theorem dX7_leftOfKind_4 : decode cX7_leftOfKind 4 = .ok (.invokevirtual 65, 3) := by decide +kernel
theorem dX7_leftOfKind_7 : decode cX7_leftOfKind 7 = .ok (.astore 4, 2) := by decide +kernel
theorem dX7_leftOfKind_9 : decode cX7_leftOfKind 9 = .ok (.aload 4, 2) := by decide +kernel
theorem dX7_leftOfKind_11 : decode cX7_leftOfKind 11 = .ok (.ifnull 22, 3) := by decide +kernel
theorem dX7_leftOfKind_14 : decode cX7_leftOfKind 14 = .ok (.lload_n 2, 1) := by decide +kernel
theorem dX7_leftOfKind_15 : decode cX7_leftOfKind 15 = .ok (.aload 4, 2) := by decide +kernel
theorem dX7_leftOfKind_17 : decode cX7_leftOfKind 17 = .ok (.getfield 58, 3) := by decide +kernel
theorem dX7_leftOfKind_20 : decode cX7_leftOfKind 20 = .ok (.i2l, 1) := by decide +kernel
theorem dX7_leftOfKind_21 : decode cX7_leftOfKind 21 = .ok (.ladd, 1) := by decide +kernel
theorem dX7_leftOfKind_22 : decode cX7_leftOfKind 22 = .ok (.lstore_n 2, 1) := by decide +kernel
theorem dX7_leftOfKind_23 : decode cX7_leftOfKind 23 = .ok (.aload 4, 2) := by decide +kernel
theorem dX7_leftOfKind_25 : decode cX7_leftOfKind 25 = .ok (.getfield 51, 3) := by decide +kernel
theorem dX7_leftOfKind_28 : decode cX7_leftOfKind 28 = .ok (.astore 4, 2) := by decide +kernel
theorem dX7_leftOfKind_30 : decode cX7_leftOfKind 30 = .ok (.goto (-21), 3) := by decide +kernel
theorem dX7_leftOfKind_33 : decode cX7_leftOfKind 33 = .ok (.lload_n 2, 1) := by decide +kernel
theorem dX7_leftOfKind_34 : decode cX7_leftOfKind 34 = .ok (.lreturn, 1) := by decide +kernel
theorem dX8_init_0 : decode cX8_init 0 = .ok (.aload_n 0, 1) := by decide +kernel
theorem dX8_init_1 : decode cX8_init 1 = .ok (.invokespecial 3, 3) := by decide +kernel
theorem dX8_init_4 : decode cX8_init 4 = .ok (.aload_n 0, 1) := by decide +kernel
theorem dX8_init_5 : decode cX8_init 5 = .ok (.bipush 10, 2) := by decide +kernel
theorem dX8_init_7 : decode cX8_init 7 = .ok (.newarray .int, 2) := by decide +kernel
theorem dX8_init_9 : decode cX8_init 9 = .ok (.putfield 9, 3) := by decide +kernel
theorem dX8_init_12 : decode cX8_init 12 = .ok (.aload_n 0, 1) := by decide +kernel
theorem dX8_init_13 : decode cX8_init 13 = .ok (.bipush 10, 2) := by decide +kernel
theorem dX8_init_15 : decode cX8_init 15 = .ok (.newarray .int, 2) := by decide +kernel
theorem dX8_init_17 : decode cX8_init 17 = .ok (.putfield 15, 3) := by decide +kernel
theorem dX8_init_20 : decode cX8_init 20 = .ok (.aload_n 0, 1) := by decide +kernel
theorem dX8_init_21 : decode cX8_init 21 = .ok (.iconst 0, 1) := by decide +kernel
theorem dX8_init_22 : decode cX8_init 22 = .ok (.putfield 18, 3) := by decide +kernel
theorem dX8_init_25 : decode cX8_init 25 = .ok (.return_, 1) := by decide +kernel
theorem dX9_init_0 : decode cX9_init 0 = .ok (.aload_n 0, 1) := by decide +kernel
theorem dX9_init_1 : decode cX9_init 1 = .ok (.invokespecial 3, 3) := by decide +kernel
theorem dX9_init_4 : decode cX9_init 4 = .ok (.aload_n 0, 1) := by decide +kernel
theorem dX9_init_5 : decode cX9_init 5 = .ok (.bipush 13, 2) := by decide +kernel
theorem dX9_init_7 : decode cX9_init 7 = .ok (.bipush 13, 2) := by decide +kernel
theorem dX9_init_9 : decode cX9_init 9 = .ok (.multianewarray 9 2, 4) := by decide +kernel
theorem dX9_init_13 : decode cX9_init 13 = .ok (.putfield 11, 3) := by decide +kernel
theorem dX9_init_16 : decode cX9_init 16 = .ok (.aload_n 0, 1) := by decide +kernel
theorem dX9_init_17 : decode cX9_init 17 = .ok (.bipush 8, 2) := by decide +kernel
theorem dX9_init_19 : decode cX9_init 19 = .ok (.newarray .int, 2) := by decide +kernel
theorem dX9_init_21 : decode cX9_init 21 = .ok (.putfield 16, 3) := by decide +kernel
theorem dX9_init_24 : decode cX9_init 24 = .ok (.aload_n 0, 1) := by decide +kernel
theorem dX9_init_25 : decode cX9_init 25 = .ok (.bipush 8, 2) := by decide +kernel
theorem dX9_init_27 : decode cX9_init 27 = .ok (.newarray .int, 2) := by decide +kernel
theorem dX9_init_29 : decode cX9_init 29 = .ok (.putfield 20, 3) := by decide +kernel
theorem dX9_init_32 : decode cX9_init 32 = .ok (.aload_n 0, 1) := by decide +kernel
theorem dX9_init_33 : decode cX9_init 33 = .ok (.iconst 0, 1) := by decide +kernel
theorem dX9_init_34 : decode cX9_init 34 = .ok (.putfield 23, 3) := by decide +kernel
theorem dX9_init_37 : decode cX9_init 37 = .ok (.aload_n 0, 1) := by decide +kernel
theorem dX9_init_38 : decode cX9_init 38 = .ok (.sipush 256, 3) := by decide +kernel
theorem dX9_init_41 : decode cX9_init 41 = .ok (.newarray .int, 2) := by decide +kernel
theorem dX9_init_43 : decode cX9_init 43 = .ok (.putfield 27, 3) := by decide +kernel
theorem dX9_init_46 : decode cX9_init 46 = .ok (.aload_n 0, 1) := by decide +kernel
theorem dX9_init_47 : decode cX9_init 47 = .ok (.sipush 2048, 3) := by decide +kernel
theorem dX9_init_50 : decode cX9_init 50 = .ok (.newarray .int, 2) := by decide +kernel
theorem dX9_init_52 : decode cX9_init 52 = .ok (.putfield 30, 3) := by decide +kernel
theorem dX9_init_55 : decode cX9_init 55 = .ok (.aload_n 0, 1) := by decide +kernel
theorem dX9_init_56 : decode cX9_init 56 = .ok (.sipush 256, 3) := by decide +kernel
theorem dX9_init_59 : decode cX9_init 59 = .ok (.newarray .int, 2) := by decide +kernel
theorem dX9_init_61 : decode cX9_init 61 = .ok (.putfield 33, 3) := by decide +kernel
theorem dX9_init_64 : decode cX9_init 64 = .ok (.aload_n 0, 1) := by decide +kernel
theorem dX9_init_65 : decode cX9_init 65 = .ok (.sipush 256, 3) := by decide +kernel
theorem dX9_init_68 : decode cX9_init 68 = .ok (.newarray .int, 2) := by decide +kernel
theorem dX9_init_70 : decode cX9_init 70 = .ok (.putfield 36, 3) := by decide +kernel
theorem dX9_init_73 : decode cX9_init 73 = .ok (.aload_n 0, 1) := by decide +kernel
theorem dX9_init_74 : decode cX9_init 74 = .ok (.bipush 15, 2) := by decide +kernel
theorem dX9_init_76 : decode cX9_init 76 = .ok (.newarray .int, 2) := by decide +kernel
theorem dX9_init_78 : decode cX9_init 78 = .ok (.putfield 39, 3) := by decide +kernel
theorem dX9_init_81 : decode cX9_init 81 = .ok (.aload_n 0, 1) := by decide +kernel
theorem dX9_init_82 : decode cX9_init 82 = .ok (.iconst (-1), 1) := by decide +kernel
theorem dX9_init_83 : decode cX9_init 83 = .ok (.putfield 42, 3) := by decide +kernel
theorem dX9_init_86 : decode cX9_init 86 = .ok (.return_, 1) := by decide +kernel
theorem dX9_tellStop_0 : decode cX9_tellStop 0 = .ok (.iload_n 1, 1) := by decide +kernel
theorem dX9_tellStop_1 : decode cX9_tellStop 1 = .ok (.iconst (-1), 1) := by decide +kernel
theorem dX9_tellStop_2 : decode cX9_tellStop 2 = .ok (.if_icmp .ne 8, 3) := by decide +kernel
theorem dX9_tellStop_5 : decode cX9_tellStop 5 = .ok (.aload_n 0, 1) := by decide +kernel
theorem dX9_tellStop_6 : decode cX9_tellStop 6 = .ok (.getfield 42, 3) := by decide +kernel
theorem dX9_tellStop_9 : decode cX9_tellStop 9 = .ok (.ireturn, 1) := by decide +kernel
theorem dX9_tellStop_10 : decode cX9_tellStop 10 = .ok (.iload_n 1, 1) := by decide +kernel
theorem dX9_tellStop_11 : decode cX9_tellStop 11 = .ok (.iconst 0, 1) := by decide +kernel
theorem dX9_tellStop_12 : decode cX9_tellStop 12 = .ok (.aload_n 0, 1) := by decide +kernel
theorem dX9_tellStop_13 : decode cX9_tellStop 13 = .ok (.getfield 42, 3) := by decide +kernel
theorem dX9_tellStop_16 : decode cX9_tellStop 16 = .ok (.iconst 1, 1) := by decide +kernel
theorem dX9_tellStop_17 : decode cX9_tellStop 17 = .ok (.isub, 1) := by decide +kernel
theorem dX9_tellStop_18 : decode cX9_tellStop 18 = .ok (.invokestatic 45, 3) := by decide +kernel
theorem dX9_tellStop_21 : decode cX9_tellStop 21 = .ok (.ifCond .eq 18, 3) := by decide +kernel
theorem dX9_tellStop_24 : decode cX9_tellStop 24 = .ok (.iload_n 1, 1) := by decide +kernel
theorem dX9_tellStop_25 : decode cX9_tellStop 25 = .ok (.bipush 15, 2) := by decide +kernel
theorem dX9_tellStop_27 : decode cX9_tellStop 27 = .ok (.if_icmp .ge 12, 3) := by decide +kernel
theorem dX9_tellStop_30 : decode cX9_tellStop 30 = .ok (.aload_n 0, 1) := by decide +kernel
theorem dX9_tellStop_31 : decode cX9_tellStop 31 = .ok (.getfield 39, 3) := by decide +kernel
theorem dX9_tellStop_34 : decode cX9_tellStop 34 = .ok (.iload_n 1, 1) := by decide +kernel
theorem dX9_tellStop_35 : decode cX9_tellStop 35 = .ok (.iaload, 1) := by decide +kernel
theorem dX9_tellStop_36 : decode cX9_tellStop 36 = .ok (.goto 4, 3) := by decide +kernel
theorem dX9_tellStop_39 : decode cX9_tellStop 39 = .ok (.iconst (-1), 1) := by decide +kernel
theorem dX9_tellStop_40 : decode cX9_tellStop 40 = .ok (.ireturn, 1) := by decide +kernel
theorem dX9_plan_0 : decode cX9_plan 0 = .ok (.aload_n 0, 1) := by decide +kernel
theorem dX9_plan_1 : decode cX9_plan 1 = .ok (.aload_n 1, 1) := by decide +kernel
theorem dX9_plan_2 : decode cX9_plan 2 = .ok (.invokevirtual 49, 3) := by decide +kernel
theorem dX9_plan_5 : decode cX9_plan 5 = .ok (.aload_n 0, 1) := by decide +kernel
theorem dX9_plan_6 : decode cX9_plan 6 = .ok (.invokevirtual 53, 3) := by decide +kernel
theorem dX9_plan_9 : decode cX9_plan 9 = .ok (.iconst 1, 1) := by decide +kernel
theorem dX9_plan_10 : decode cX9_plan 10 = .ok (.aload_n 0, 1) := by decide +kernel
theorem dX9_plan_11 : decode cX9_plan 11 = .ok (.getfield 23, 3) := by decide +kernel
theorem dX9_plan_14 : decode cX9_plan 14 = .ok (.ishl, 1) := by decide +kernel
theorem dX9_plan_15 : decode cX9_plan 15 = .ok (.iconst 1, 1) := by decide +kernel
theorem dX9_plan_16 : decode cX9_plan 16 = .ok (.isub, 1) := by decide +kernel
theorem dX9_plan_17 : decode cX9_plan 17 = .ok (.istore_n 3, 1) := by decide +kernel
theorem dX9_plan_18 : decode cX9_plan 18 = .ok (.iconst 1, 1) := by decide +kernel
theorem dX9_plan_19 : decode cX9_plan 19 = .ok (.istore 4, 2) := by decide +kernel
theorem dX9_plan_21 : decode cX9_plan 21 = .ok (.iload 4, 2) := by decide +kernel
theorem dX9_plan_23 : decode cX9_plan 23 = .ok (.iload_n 3, 1) := by decide +kernel
theorem dX9_plan_24 : decode cX9_plan 24 = .ok (.if_icmp .gt 38, 3) := by decide +kernel
theorem dX9_plan_27 : decode cX9_plan 27 = .ok (.aload_n 0, 1) := by decide +kernel
theorem dX9_plan_28 : decode cX9_plan 28 = .ok (.getfield 33, 3) := by decide +kernel
theorem dX9_plan_31 : decode cX9_plan 31 = .ok (.iload 4, 2) := by decide +kernel
theorem dX9_plan_33 : decode cX9_plan 33 = .ok (.aload_n 0, 1) := by decide +kernel
theorem dX9_plan_34 : decode cX9_plan 34 = .ok (.getfield 27, 3) := by decide +kernel
theorem dX9_plan_37 : decode cX9_plan 37 = .ok (.iload 4, 2) := by decide +kernel
theorem dX9_plan_39 : decode cX9_plan 39 = .ok (.iaload, 1) := by decide +kernel
theorem dX9_plan_40 : decode cX9_plan 40 = .ok (.iload_n 2, 1) := by decide +kernel
theorem dX9_plan_41 : decode cX9_plan 41 = .ok (.if_icmp .le 8, 3) := by decide +kernel
theorem dX9_plan_44 : decode cX9_plan 44 = .ok (.ldc 56, 2) := by decide +kernel
theorem dX9_plan_46 : decode cX9_plan 46 = .ok (.goto 9, 3) := by decide +kernel
theorem dX9_plan_49 : decode cX9_plan 49 = .ok (.aload_n 0, 1) := by decide +kernel
theorem dX9_plan_50 : decode cX9_plan 50 = .ok (.iload 4, 2) := by decide +kernel
theorem dX9_plan_52 : decode cX9_plan 52 = .ok (.invokevirtual 57, 3) := by decide +kernel
theorem dX9_plan_55 : decode cX9_plan 55 = .ok (.iastore, 1) := by decide +kernel
theorem dX9_plan_56 : decode cX9_plan 56 = .ok (.iinc 4 1, 3) := by decide +kernel
theorem dX9_plan_59 : decode cX9_plan 59 = .ok (.goto (-38), 3) := by decide +kernel
theorem dX9_plan_62 : decode cX9_plan 62 = .ok (.iconst 1, 1) := by decide +kernel
theorem dX9_plan_63 : decode cX9_plan 63 = .ok (.istore 4, 2) := by decide +kernel
theorem dX9_plan_65 : decode cX9_plan 65 = .ok (.iload 4, 2) := by decide +kernel
theorem dX9_plan_67 : decode cX9_plan 67 = .ok (.iload_n 3, 1) := by decide +kernel
theorem dX9_plan_68 : decode cX9_plan 68 = .ok (.if_icmp .gt 22, 3) := by decide +kernel
theorem dX9_plan_71 : decode cX9_plan 71 = .ok (.aload_n 0, 1) := by decide +kernel
theorem dX9_plan_72 : decode cX9_plan 72 = .ok (.getfield 36, 3) := by decide +kernel
theorem dX9_plan_75 : decode cX9_plan 75 = .ok (.iload 4, 2) := by decide +kernel
theorem dX9_plan_77 : decode cX9_plan 77 = .ok (.aload_n 0, 1) := by decide +kernel
theorem dX9_plan_78 : decode cX9_plan 78 = .ok (.iload 4, 2) := by decide +kernel
theorem dX9_plan_80 : decode cX9_plan 80 = .ok (.invokevirtual 61, 3) := by decide +kernel
theorem dX9_plan_83 : decode cX9_plan 83 = .ok (.iastore, 1) := by decide +kernel
theorem dX9_plan_84 : decode cX9_plan 84 = .ok (.iinc 4 1, 3) := by decide +kernel
theorem dX9_plan_87 : decode cX9_plan 87 = .ok (.goto (-22), 3) := by decide +kernel
theorem dX9_plan_90 : decode cX9_plan 90 = .ok (.aload_n 0, 1) := by decide +kernel
theorem dX9_plan_91 : decode cX9_plan 91 = .ok (.iload_n 3, 1) := by decide +kernel
theorem dX9_plan_92 : decode cX9_plan 92 = .ok (.invokevirtual 64, 3) := by decide +kernel
theorem dX9_plan_95 : decode cX9_plan 95 = .ok (.aload_n 0, 1) := by decide +kernel
theorem dX9_plan_96 : decode cX9_plan 96 = .ok (.getfield 36, 3) := by decide +kernel
theorem dX9_plan_99 : decode cX9_plan 99 = .ok (.iload_n 3, 1) := by decide +kernel
theorem dX9_plan_100 : decode cX9_plan 100 = .ok (.iaload, 1) := by decide +kernel
theorem dX9_plan_101 : decode cX9_plan 101 = .ok (.bipush 16, 2) := by decide +kernel
theorem dX9_plan_103 : decode cX9_plan 103 = .ok (.idiv, 1) := by decide +kernel
theorem dX9_plan_104 : decode cX9_plan 104 = .ok (.ireturn, 1) := by decide +kernel
theorem dX9_gather_0 : decode cX9_gather 0 = .ok (.aload_n 0, 1) := by decide +kernel
theorem dX9_gather_1 : decode cX9_gather 1 = .ok (.iconst 0, 1) := by decide +kernel
theorem dX9_gather_2 : decode cX9_gather 2 = .ok (.putfield 23, 3) := by decide +kernel
theorem dX9_gather_5 : decode cX9_gather 5 = .ok (.iconst 0, 1) := by decide +kernel
theorem dX9_gather_6 : decode cX9_gather 6 = .ok (.istore_n 2, 1) := by decide +kernel
theorem dX9_gather_7 : decode cX9_gather 7 = .ok (.iload_n 2, 1) := by decide +kernel
theorem dX9_gather_8 : decode cX9_gather 8 = .ok (.aload_n 1, 1) := by decide +kernel
theorem dX9_gather_9 : decode cX9_gather 9 = .ok (.invokevirtual 68, 3) := by decide +kernel
theorem dX9_gather_12 : decode cX9_gather 12 = .ok (.if_icmp .ge 70, 3) := by decide +kernel
theorem dX9_gather_15 : decode cX9_gather 15 = .ok (.iload_n 2, 1) := by decide +kernel
theorem dX9_gather_16 : decode cX9_gather 16 = .ok (.bipush 12, 2) := by decide +kernel
theorem dX9_gather_18 : decode cX9_gather 18 = .ok (.if_icmp .ge 64, 3) := by decide +kernel
theorem dX9_gather_21 : decode cX9_gather 21 = .ok (.aload_n 1, 1) := by decide +kernel
theorem dX9_gather_22 : decode cX9_gather 22 = .ok (.iload_n 2, 1) := by decide +kernel
theorem dX9_gather_23 : decode cX9_gather 23 = .ok (.invokevirtual 74, 3) := by decide +kernel
theorem dX9_gather_26 : decode cX9_gather 26 = .ok (.checkcast 78, 3) := by decide +kernel
theorem dX9_gather_29 : decode cX9_gather 29 = .ok (.getfield 80, 3) := by decide +kernel
theorem dX9_gather_32 : decode cX9_gather 32 = .ok (.istore_n 3, 1) := by decide +kernel
theorem dX9_gather_33 : decode cX9_gather 33 = .ok (.iload_n 3, 1) := by decide +kernel
theorem dX9_gather_34 : decode cX9_gather 34 = .ok (.ifCond .le 42, 3) := by decide +kernel
theorem dX9_gather_37 : decode cX9_gather 37 = .ok (.aload_n 0, 1) := by decide +kernel
theorem dX9_gather_38 : decode cX9_gather 38 = .ok (.getfield 23, 3) := by decide +kernel
theorem dX9_gather_41 : decode cX9_gather 41 = .ok (.bipush 8, 2) := by decide +kernel
theorem dX9_gather_43 : decode cX9_gather 43 = .ok (.if_icmp .ge 33, 3) := by decide +kernel
theorem dX9_gather_46 : decode cX9_gather 46 = .ok (.aload_n 0, 1) := by decide +kernel
theorem dX9_gather_47 : decode cX9_gather 47 = .ok (.getfield 16, 3) := by decide +kernel
theorem dX9_gather_50 : decode cX9_gather 50 = .ok (.aload_n 0, 1) := by decide +kernel
theorem dX9_gather_51 : decode cX9_gather 51 = .ok (.getfield 23, 3) := by decide +kernel
theorem dX9_gather_54 : decode cX9_gather 54 = .ok (.iload_n 2, 1) := by decide +kernel
theorem dX9_gather_55 : decode cX9_gather 55 = .ok (.iastore, 1) := by decide +kernel
theorem dX9_gather_56 : decode cX9_gather 56 = .ok (.aload_n 0, 1) := by decide +kernel
theorem dX9_gather_57 : decode cX9_gather 57 = .ok (.getfield 20, 3) := by decide +kernel
theorem dX9_gather_60 : decode cX9_gather 60 = .ok (.aload_n 0, 1) := by decide +kernel
theorem dX9_gather_61 : decode cX9_gather 61 = .ok (.getfield 23, 3) := by decide +kernel
theorem dX9_gather_64 : decode cX9_gather 64 = .ok (.iload_n 3, 1) := by decide +kernel
theorem dX9_gather_65 : decode cX9_gather 65 = .ok (.iastore, 1) := by decide +kernel
theorem dX9_gather_66 : decode cX9_gather 66 = .ok (.aload_n 0, 1) := by decide +kernel
theorem dX9_gather_67 : decode cX9_gather 67 = .ok (.dup, 1) := by decide +kernel
theorem dX9_gather_68 : decode cX9_gather 68 = .ok (.getfield 23, 3) := by decide +kernel
theorem dX9_gather_71 : decode cX9_gather 71 = .ok (.iconst 1, 1) := by decide +kernel
theorem dX9_gather_72 : decode cX9_gather 72 = .ok (.iadd, 1) := by decide +kernel
theorem dX9_gather_73 : decode cX9_gather 73 = .ok (.putfield 23, 3) := by decide +kernel
theorem dX9_gather_76 : decode cX9_gather 76 = .ok (.iinc 2 1, 3) := by decide +kernel
theorem dX9_gather_79 : decode cX9_gather 79 = .ok (.goto (-72), 3) := by decide +kernel
theorem dX9_gather_82 : decode cX9_gather 82 = .ok (.return_, 1) := by decide +kernel
theorem dX9_weighSets_0 : decode cX9_weighSets 0 = .ok (.iconst 0, 1) := by decide +kernel
theorem dX9_weighSets_1 : decode cX9_weighSets 1 = .ok (.istore_n 1, 1) := by decide +kernel
theorem dX9_weighSets_2 : decode cX9_weighSets 2 = .ok (.iload_n 1, 1) := by decide +kernel
theorem dX9_weighSets_3 : decode cX9_weighSets 3 = .ok (.aload_n 0, 1) := by decide +kernel
theorem dX9_weighSets_4 : decode cX9_weighSets 4 = .ok (.getfield 23, 3) := by decide +kernel
theorem dX9_weighSets_7 : decode cX9_weighSets 7 = .ok (.if_icmp .ge 47, 3) := by decide +kernel
theorem dX9_weighSets_10 : decode cX9_weighSets 10 = .ok (.iconst 1, 1) := by decide +kernel
theorem dX9_weighSets_11 : decode cX9_weighSets 11 = .ok (.iload_n 1, 1) := by decide +kernel
theorem dX9_weighSets_12 : decode cX9_weighSets 12 = .ok (.ishl, 1) := by decide +kernel
theorem dX9_weighSets_13 : decode cX9_weighSets 13 = .ok (.istore_n 2, 1) := by decide +kernel
theorem dX9_weighSets_14 : decode cX9_weighSets 14 = .ok (.iconst 0, 1) := by decide +kernel
theorem dX9_weighSets_15 : decode cX9_weighSets 15 = .ok (.istore_n 3, 1) := by decide +kernel
theorem dX9_weighSets_16 : decode cX9_weighSets 16 = .ok (.iload_n 3, 1) := by decide +kernel
theorem dX9_weighSets_17 : decode cX9_weighSets 17 = .ok (.iload_n 2, 1) := by decide +kernel
theorem dX9_weighSets_18 : decode cX9_weighSets 18 = .ok (.if_icmp .ge 30, 3) := by decide +kernel
theorem dX9_weighSets_21 : decode cX9_weighSets 21 = .ok (.aload_n 0, 1) := by decide +kernel
theorem dX9_weighSets_22 : decode cX9_weighSets 22 = .ok (.getfield 27, 3) := by decide +kernel
theorem dX9_weighSets_25 : decode cX9_weighSets 25 = .ok (.iload_n 3, 1) := by decide +kernel
theorem dX9_weighSets_26 : decode cX9_weighSets 26 = .ok (.iload_n 2, 1) := by decide +kernel
theorem dX9_weighSets_27 : decode cX9_weighSets 27 = .ok (.ior, 1) := by decide +kernel
theorem dX9_weighSets_28 : decode cX9_weighSets 28 = .ok (.aload_n 0, 1) := by decide +kernel
theorem dX9_weighSets_29 : decode cX9_weighSets 29 = .ok (.getfield 27, 3) := by decide +kernel
theorem dX9_weighSets_32 : decode cX9_weighSets 32 = .ok (.iload_n 3, 1) := by decide +kernel
theorem dX9_weighSets_33 : decode cX9_weighSets 33 = .ok (.iaload, 1) := by decide +kernel
theorem dX9_weighSets_34 : decode cX9_weighSets 34 = .ok (.aload_n 0, 1) := by decide +kernel
theorem dX9_weighSets_35 : decode cX9_weighSets 35 = .ok (.getfield 20, 3) := by decide +kernel
theorem dX9_weighSets_38 : decode cX9_weighSets 38 = .ok (.iload_n 1, 1) := by decide +kernel
theorem dX9_weighSets_39 : decode cX9_weighSets 39 = .ok (.iaload, 1) := by decide +kernel
theorem dX9_weighSets_40 : decode cX9_weighSets 40 = .ok (.iadd, 1) := by decide +kernel
theorem dX9_weighSets_41 : decode cX9_weighSets 41 = .ok (.iastore, 1) := by decide +kernel
theorem dX9_weighSets_42 : decode cX9_weighSets 42 = .ok (.iinc 3 1, 3) := by decide +kernel
theorem dX9_weighSets_45 : decode cX9_weighSets 45 = .ok (.goto (-29), 3) := by decide +kernel
theorem dX9_weighSets_48 : decode cX9_weighSets 48 = .ok (.iinc 1 1, 3) := by decide +kernel
theorem dX9_weighSets_51 : decode cX9_weighSets 51 = .ok (.goto (-49), 3) := by decide +kernel
theorem dX9_weighSets_54 : decode cX9_weighSets 54 = .ok (.return_, 1) := by decide +kernel
theorem dX9_fromHouse_0 : decode cX9_fromHouse 0 = .ok (.aload_n 0, 1) := by decide +kernel
theorem dX9_fromHouse_1 : decode cX9_fromHouse 1 = .ok (.getfield 11, 3) := by decide +kernel
theorem dX9_fromHouse_4 : decode cX9_fromHouse 4 = .ok (.bipush 12, 2) := by decide +kernel
theorem dX9_fromHouse_6 : decode cX9_fromHouse 6 = .ok (.aaload, 1) := by decide +kernel
theorem dX9_fromHouse_7 : decode cX9_fromHouse 7 = .ok (.aload_n 0, 1) := by decide +kernel
theorem dX9_fromHouse_8 : decode cX9_fromHouse 8 = .ok (.getfield 16, 3) := by decide +kernel
theorem dX9_fromHouse_11 : decode cX9_fromHouse 11 = .ok (.iload_n 1, 1) := by decide +kernel
theorem dX9_fromHouse_12 : decode cX9_fromHouse 12 = .ok (.iaload, 1) := by decide +kernel
theorem dX9_fromHouse_13 : decode cX9_fromHouse 13 = .ok (.iaload, 1) := by decide +kernel
theorem dX9_fromHouse_14 : decode cX9_fromHouse 14 = .ok (.ireturn, 1) := by decide +kernel
theorem dX9_between_0 : decode cX9_between 0 = .ok (.aload_n 0, 1) := by decide +kernel
theorem dX9_between_1 : decode cX9_between 1 = .ok (.getfield 11, 3) := by decide +kernel
theorem dX9_between_4 : decode cX9_between 4 = .ok (.aload_n 0, 1) := by decide +kernel
theorem dX9_between_5 : decode cX9_between 5 = .ok (.getfield 16, 3) := by decide +kernel
theorem dX9_between_8 : decode cX9_between 8 = .ok (.iload_n 1, 1) := by decide +kernel
theorem dX9_between_9 : decode cX9_between 9 = .ok (.iaload, 1) := by decide +kernel
theorem dX9_between_10 : decode cX9_between 10 = .ok (.aaload, 1) := by decide +kernel
theorem dX9_between_11 : decode cX9_between 11 = .ok (.aload_n 0, 1) := by decide +kernel
theorem dX9_between_12 : decode cX9_between 12 = .ok (.getfield 16, 3) := by decide +kernel
theorem dX9_between_15 : decode cX9_between 15 = .ok (.iload_n 2, 1) := by decide +kernel
theorem dX9_between_16 : decode cX9_between 16 = .ok (.iaload, 1) := by decide +kernel
theorem dX9_between_17 : decode cX9_between 17 = .ok (.iaload, 1) := by decide +kernel
theorem dX9_between_18 : decode cX9_between 18 = .ok (.ireturn, 1) := by decide +kernel
theorem dX9_isIn_0 : decode cX9_isIn 0 = .ok (.iload_n 0, 1) := by decide +kernel
theorem dX9_isIn_1 : decode cX9_isIn 1 = .ok (.iload_n 1, 1) := by decide +kernel
theorem dX9_isIn_2 : decode cX9_isIn 2 = .ok (.ishr, 1) := by decide +kernel
theorem dX9_isIn_3 : decode cX9_isIn 3 = .ok (.iconst 1, 1) := by decide +kernel
theorem dX9_isIn_4 : decode cX9_isIn 4 = .ok (.iand, 1) := by decide +kernel
theorem dX9_isIn_5 : decode cX9_isIn 5 = .ok (.ifCond .eq 7, 3) := by decide +kernel
theorem dX9_isIn_8 : decode cX9_isIn 8 = .ok (.iconst 1, 1) := by decide +kernel
theorem dX9_isIn_9 : decode cX9_isIn 9 = .ok (.goto 4, 3) := by decide +kernel
theorem dX9_isIn_12 : decode cX9_isIn 12 = .ok (.iconst 0, 1) := by decide +kernel
theorem dX9_isIn_13 : decode cX9_isIn 13 = .ok (.ireturn, 1) := by decide +kernel
theorem dX9_shortestRound_0 : decode cX9_shortestRound 0 = .ok (.ldc 56, 2) := by decide +kernel
theorem dX9_shortestRound_2 : decode cX9_shortestRound 2 = .ok (.istore_n 2, 1) := by decide +kernel
theorem dX9_shortestRound_3 : decode cX9_shortestRound 3 = .ok (.iconst 0, 1) := by decide +kernel
theorem dX9_shortestRound_4 : decode cX9_shortestRound 4 = .ok (.istore_n 3, 1) := by decide +kernel
theorem dX9_shortestRound_5 : decode cX9_shortestRound 5 = .ok (.iload_n 3, 1) := by decide +kernel
theorem dX9_shortestRound_6 : decode cX9_shortestRound 6 = .ok (.aload_n 0, 1) := by decide +kernel
theorem dX9_shortestRound_7 : decode cX9_shortestRound 7 = .ok (.getfield 23, 3) := by decide +kernel
theorem dX9_shortestRound_10 : decode cX9_shortestRound 10 = .ok (.if_icmp .ge 51, 3) := by decide +kernel
theorem dX9_shortestRound_13 : decode cX9_shortestRound 13 = .ok (.iload_n 1, 1) := by decide +kernel
theorem dX9_shortestRound_14 : decode cX9_shortestRound 14 = .ok (.iload_n 3, 1) := by decide +kernel
theorem dX9_shortestRound_15 : decode cX9_shortestRound 15 = .ok (.invokestatic 83, 3) := by decide +kernel
theorem dX9_shortestRound_18 : decode cX9_shortestRound 18 = .ok (.ifCond .eq 37, 3) := by decide +kernel
theorem dX9_shortestRound_21 : decode cX9_shortestRound 21 = .ok (.aload_n 0, 1) := by decide +kernel
theorem dX9_shortestRound_22 : decode cX9_shortestRound 22 = .ok (.iload_n 1, 1) := by decide +kernel
theorem dX9_shortestRound_23 : decode cX9_shortestRound 23 = .ok (.iload_n 3, 1) := by decide +kernel
theorem dX9_shortestRound_24 : decode cX9_shortestRound 24 = .ok (.invokevirtual 87, 3) := by decide +kernel
theorem dX9_shortestRound_27 : decode cX9_shortestRound 27 = .ok (.istore 4, 2) := by decide +kernel
theorem dX9_shortestRound_29 : decode cX9_shortestRound 29 = .ok (.aload_n 0, 1) := by decide +kernel
theorem dX9_shortestRound_30 : decode cX9_shortestRound 30 = .ok (.getfield 30, 3) := by decide +kernel
theorem dX9_shortestRound_33 : decode cX9_shortestRound 33 = .ok (.iload_n 1, 1) := by decide +kernel
theorem dX9_shortestRound_34 : decode cX9_shortestRound 34 = .ok (.bipush 8, 2) := by decide +kernel
theorem dX9_shortestRound_36 : decode cX9_shortestRound 36 = .ok (.imul, 1) := by decide +kernel
theorem dX9_shortestRound_37 : decode cX9_shortestRound 37 = .ok (.iload_n 3, 1) := by decide +kernel
theorem dX9_shortestRound_38 : decode cX9_shortestRound 38 = .ok (.iadd, 1) := by decide +kernel
theorem dX9_shortestRound_39 : decode cX9_shortestRound 39 = .ok (.iload 4, 2) := by decide +kernel
theorem dX9_shortestRound_41 : decode cX9_shortestRound 41 = .ok (.iastore, 1) := by decide +kernel
theorem dX9_shortestRound_42 : decode cX9_shortestRound 42 = .ok (.iload_n 2, 1) := by decide +kernel
theorem dX9_shortestRound_43 : decode cX9_shortestRound 43 = .ok (.iload 4, 2) := by decide +kernel
theorem dX9_shortestRound_45 : decode cX9_shortestRound 45 = .ok (.aload_n 0, 1) := by decide +kernel
theorem dX9_shortestRound_46 : decode cX9_shortestRound 46 = .ok (.iload_n 3, 1) := by decide +kernel
theorem dX9_shortestRound_47 : decode cX9_shortestRound 47 = .ok (.invokevirtual 91, 3) := by decide +kernel
theorem dX9_shortestRound_50 : decode cX9_shortestRound 50 = .ok (.iadd, 1) := by decide +kernel
theorem dX9_shortestRound_51 : decode cX9_shortestRound 51 = .ok (.invokestatic 94, 3) := by decide +kernel
theorem dX9_shortestRound_54 : decode cX9_shortestRound 54 = .ok (.istore_n 2, 1) := by decide +kernel
theorem dX9_shortestRound_55 : decode cX9_shortestRound 55 = .ok (.iinc 3 1, 3) := by decide +kernel
theorem dX9_shortestRound_58 : decode cX9_shortestRound 58 = .ok (.goto (-53), 3) := by decide +kernel
theorem dX9_shortestRound_61 : decode cX9_shortestRound 61 = .ok (.iload_n 2, 1) := by decide +kernel
theorem dX9_shortestRound_62 : decode cX9_shortestRound 62 = .ok (.ireturn, 1) := by decide +kernel
theorem dX9_shortestWay_0 : decode cX9_shortestWay 0 = .ok (.iload_n 1, 1) := by decide +kernel
theorem dX9_shortestWay_1 : decode cX9_shortestWay 1 = .ok (.iconst 1, 1) := by decide +kernel
theorem dX9_shortestWay_2 : decode cX9_shortestWay 2 = .ok (.iload_n 2, 1) := by decide +kernel
theorem dX9_shortestWay_3 : decode cX9_shortestWay 3 = .ok (.ishl, 1) := by decide +kernel
theorem dX9_shortestWay_4 : decode cX9_shortestWay 4 = .ok (.ixor, 1) := by decide +kernel
theorem dX9_shortestWay_5 : decode cX9_shortestWay 5 = .ok (.istore_n 3, 1) := by decide +kernel
theorem dX9_shortestWay_6 : decode cX9_shortestWay 6 = .ok (.iload_n 3, 1) := by decide +kernel
theorem dX9_shortestWay_7 : decode cX9_shortestWay 7 = .ok (.ifCond .ne 9, 3) := by decide +kernel
theorem dX9_shortestWay_10 : decode cX9_shortestWay 10 = .ok (.aload_n 0, 1) := by decide +kernel
theorem dX9_shortestWay_11 : decode cX9_shortestWay 11 = .ok (.iload_n 2, 1) := by decide +kernel
theorem dX9_shortestWay_12 : decode cX9_shortestWay 12 = .ok (.invokevirtual 91, 3) := by decide +kernel
theorem dX9_shortestWay_15 : decode cX9_shortestWay 15 = .ok (.ireturn, 1) := by decide +kernel
theorem dX9_shortestWay_16 : decode cX9_shortestWay 16 = .ok (.ldc 56, 2) := by decide +kernel
theorem dX9_shortestWay_18 : decode cX9_shortestWay 18 = .ok (.istore 4, 2) := by decide +kernel
theorem dX9_shortestWay_20 : decode cX9_shortestWay 20 = .ok (.iconst 0, 1) := by decide +kernel
theorem dX9_shortestWay_21 : decode cX9_shortestWay 21 = .ok (.istore 5, 2) := by decide +kernel
theorem dX9_shortestWay_23 : decode cX9_shortestWay 23 = .ok (.iload 5, 2) := by decide +kernel
theorem dX9_shortestWay_25 : decode cX9_shortestWay 25 = .ok (.aload_n 0, 1) := by decide +kernel
theorem dX9_shortestWay_26 : decode cX9_shortestWay 26 = .ok (.getfield 23, 3) := by decide +kernel
theorem dX9_shortestWay_29 : decode cX9_shortestWay 29 = .ok (.if_icmp .ge 45, 3) := by decide +kernel
theorem dX9_shortestWay_32 : decode cX9_shortestWay 32 = .ok (.iload_n 3, 1) := by decide +kernel
theorem dX9_shortestWay_33 : decode cX9_shortestWay 33 = .ok (.iload 5, 2) := by decide +kernel
theorem dX9_shortestWay_35 : decode cX9_shortestWay 35 = .ok (.invokestatic 83, 3) := by decide +kernel
theorem dX9_shortestWay_38 : decode cX9_shortestWay 38 = .ok (.ifCond .eq 30, 3) := by decide +kernel
theorem dX9_shortestWay_41 : decode cX9_shortestWay 41 = .ok (.iload 4, 2) := by decide +kernel
theorem dX9_shortestWay_43 : decode cX9_shortestWay 43 = .ok (.aload_n 0, 1) := by decide +kernel
theorem dX9_shortestWay_44 : decode cX9_shortestWay 44 = .ok (.getfield 30, 3) := by decide +kernel
theorem dX9_shortestWay_47 : decode cX9_shortestWay 47 = .ok (.iload_n 3, 1) := by decide +kernel
theorem dX9_shortestWay_48 : decode cX9_shortestWay 48 = .ok (.bipush 8, 2) := by decide +kernel
theorem dX9_shortestWay_50 : decode cX9_shortestWay 50 = .ok (.imul, 1) := by decide +kernel
theorem dX9_shortestWay_51 : decode cX9_shortestWay 51 = .ok (.iload 5, 2) := by decide +kernel
theorem dX9_shortestWay_53 : decode cX9_shortestWay 53 = .ok (.iadd, 1) := by decide +kernel
theorem dX9_shortestWay_54 : decode cX9_shortestWay 54 = .ok (.iaload, 1) := by decide +kernel
theorem dX9_shortestWay_55 : decode cX9_shortestWay 55 = .ok (.aload_n 0, 1) := by decide +kernel
theorem dX9_shortestWay_56 : decode cX9_shortestWay 56 = .ok (.iload 5, 2) := by decide +kernel
theorem dX9_shortestWay_58 : decode cX9_shortestWay 58 = .ok (.iload_n 2, 1) := by decide +kernel
theorem dX9_shortestWay_59 : decode cX9_shortestWay 59 = .ok (.invokevirtual 99, 3) := by decide +kernel
theorem dX9_shortestWay_62 : decode cX9_shortestWay 62 = .ok (.iadd, 1) := by decide +kernel
theorem dX9_shortestWay_63 : decode cX9_shortestWay 63 = .ok (.invokestatic 94, 3) := by decide +kernel
theorem dX9_shortestWay_66 : decode cX9_shortestWay 66 = .ok (.istore 4, 2) := by decide +kernel
theorem dX9_shortestWay_68 : decode cX9_shortestWay 68 = .ok (.iinc 5 1, 3) := by decide +kernel
theorem dX9_shortestWay_71 : decode cX9_shortestWay 71 = .ok (.goto (-48), 3) := by decide +kernel
theorem dX9_shortestWay_74 : decode cX9_shortestWay 74 = .ok (.iload 4, 2) := by decide +kernel
theorem dX9_shortestWay_76 : decode cX9_shortestWay 76 = .ok (.ireturn, 1) := by decide +kernel
theorem dX9_cheapestParting_0 : decode cX9_cheapestParting 0 = .ok (.aload_n 0, 1) := by decide +kernel
theorem dX9_cheapestParting_1 : decode cX9_cheapestParting 1 = .ok (.iload_n 1, 1) := by decide +kernel
theorem dX9_cheapestParting_2 : decode cX9_cheapestParting 2 = .ok (.iconst 0, 1) := by decide +kernel
theorem dX9_cheapestParting_3 : decode cX9_cheapestParting 3 = .ok (.invokevirtual 102, 3) := by decide +kernel
theorem dX9_cheapestParting_6 : decode cX9_cheapestParting 6 = .ok (.istore_n 2, 1) := by decide +kernel
theorem dX9_cheapestParting_7 : decode cX9_cheapestParting 7 = .ok (.iload_n 1, 1) := by decide +kernel
theorem dX9_cheapestParting_8 : decode cX9_cheapestParting 8 = .ok (.iload_n 1, 1) := by decide +kernel
theorem dX9_cheapestParting_9 : decode cX9_cheapestParting 9 = .ok (.iconst 1, 1) := by decide +kernel
theorem dX9_cheapestParting_10 : decode cX9_cheapestParting 10 = .ok (.isub, 1) := by decide +kernel
theorem dX9_cheapestParting_11 : decode cX9_cheapestParting 11 = .ok (.iand, 1) := by decide +kernel
theorem dX9_cheapestParting_12 : decode cX9_cheapestParting 12 = .ok (.istore_n 3, 1) := by decide +kernel
theorem dX9_cheapestParting_13 : decode cX9_cheapestParting 13 = .ok (.iload_n 3, 1) := by decide +kernel
theorem dX9_cheapestParting_14 : decode cX9_cheapestParting 14 = .ok (.istore 4, 2) := by decide +kernel
theorem dX9_cheapestParting_16 : decode cX9_cheapestParting 16 = .ok (.iload 4, 2) := by decide +kernel
theorem dX9_cheapestParting_18 : decode cX9_cheapestParting 18 = .ok (.ifCond .le 26, 3) := by decide +kernel
theorem dX9_cheapestParting_21 : decode cX9_cheapestParting 21 = .ok (.iload_n 2, 1) := by decide +kernel
theorem dX9_cheapestParting_22 : decode cX9_cheapestParting 22 = .ok (.aload_n 0, 1) := by decide +kernel
theorem dX9_cheapestParting_23 : decode cX9_cheapestParting 23 = .ok (.iload_n 1, 1) := by decide +kernel
theorem dX9_cheapestParting_24 : decode cX9_cheapestParting 24 = .ok (.iload 4, 2) := by decide +kernel
theorem dX9_cheapestParting_26 : decode cX9_cheapestParting 26 = .ok (.invokevirtual 102, 3) := by decide +kernel
theorem dX9_cheapestParting_29 : decode cX9_cheapestParting 29 = .ok (.invokestatic 94, 3) := by decide +kernel
theorem dX9_cheapestParting_32 : decode cX9_cheapestParting 32 = .ok (.istore_n 2, 1) := by decide +kernel
theorem dX9_cheapestParting_33 : decode cX9_cheapestParting 33 = .ok (.iload 4, 2) := by decide +kernel
theorem dX9_cheapestParting_35 : decode cX9_cheapestParting 35 = .ok (.iconst 1, 1) := by decide +kernel
theorem dX9_cheapestParting_36 : decode cX9_cheapestParting 36 = .ok (.isub, 1) := by decide +kernel
theorem dX9_cheapestParting_37 : decode cX9_cheapestParting 37 = .ok (.iload_n 3, 1) := by decide +kernel
theorem dX9_cheapestParting_38 : decode cX9_cheapestParting 38 = .ok (.iand, 1) := by decide +kernel
theorem dX9_cheapestParting_39 : decode cX9_cheapestParting 39 = .ok (.istore 4, 2) := by decide +kernel
theorem dX9_cheapestParting_41 : decode cX9_cheapestParting 41 = .ok (.goto (-25), 3) := by decide +kernel
theorem dX9_cheapestParting_44 : decode cX9_cheapestParting 44 = .ok (.iload_n 2, 1) := by decide +kernel
theorem dX9_cheapestParting_45 : decode cX9_cheapestParting 45 = .ok (.ireturn, 1) := by decide +kernel
theorem dX9_costWithRest_0 : decode cX9_costWithRest 0 = .ok (.iload_n 2, 1) := by decide +kernel
theorem dX9_costWithRest_1 : decode cX9_costWithRest 1 = .ok (.ifCond .ne 7, 3) := by decide +kernel
theorem dX9_costWithRest_4 : decode cX9_costWithRest 4 = .ok (.iconst 0, 1) := by decide +kernel
theorem dX9_costWithRest_5 : decode cX9_costWithRest 5 = .ok (.goto 9, 3) := by decide +kernel
theorem dX9_costWithRest_8 : decode cX9_costWithRest 8 = .ok (.aload_n 0, 1) := by decide +kernel
theorem dX9_costWithRest_9 : decode cX9_costWithRest 9 = .ok (.getfield 36, 3) := by decide +kernel
theorem dX9_costWithRest_12 : decode cX9_costWithRest 12 = .ok (.iload_n 2, 1) := by decide +kernel
theorem dX9_costWithRest_13 : decode cX9_costWithRest 13 = .ok (.iaload, 1) := by decide +kernel
theorem dX9_costWithRest_14 : decode cX9_costWithRest 14 = .ok (.istore_n 3, 1) := by decide +kernel
theorem dX9_costWithRest_15 : decode cX9_costWithRest 15 = .ok (.aload_n 0, 1) := by decide +kernel
theorem dX9_costWithRest_16 : decode cX9_costWithRest 16 = .ok (.getfield 33, 3) := by decide +kernel
theorem dX9_costWithRest_19 : decode cX9_costWithRest 19 = .ok (.iload_n 1, 1) := by decide +kernel
theorem dX9_costWithRest_20 : decode cX9_costWithRest 20 = .ok (.iload_n 2, 1) := by decide +kernel
theorem dX9_costWithRest_21 : decode cX9_costWithRest 21 = .ok (.ixor, 1) := by decide +kernel
theorem dX9_costWithRest_22 : decode cX9_costWithRest 22 = .ok (.iaload, 1) := by decide +kernel
theorem dX9_costWithRest_23 : decode cX9_costWithRest 23 = .ok (.bipush 16, 2) := by decide +kernel
theorem dX9_costWithRest_25 : decode cX9_costWithRest 25 = .ok (.imul, 1) := by decide +kernel
theorem dX9_costWithRest_26 : decode cX9_costWithRest 26 = .ok (.iconst 1, 1) := by decide +kernel
theorem dX9_costWithRest_27 : decode cX9_costWithRest 27 = .ok (.iadd, 1) := by decide +kernel
theorem dX9_costWithRest_28 : decode cX9_costWithRest 28 = .ok (.iload_n 3, 1) := by decide +kernel
theorem dX9_costWithRest_29 : decode cX9_costWithRest 29 = .ok (.iadd, 1) := by decide +kernel
theorem dX9_costWithRest_30 : decode cX9_costWithRest 30 = .ok (.ireturn, 1) := by decide +kernel
theorem dX9_writeRow_0 : decode cX9_writeRow 0 = .ok (.aload_n 0, 1) := by decide +kernel
theorem dX9_writeRow_1 : decode cX9_writeRow 1 = .ok (.iconst 0, 1) := by decide +kernel
theorem dX9_writeRow_2 : decode cX9_writeRow 2 = .ok (.putfield 42, 3) := by decide +kernel
theorem dX9_writeRow_5 : decode cX9_writeRow 5 = .ok (.iload_n 1, 1) := by decide +kernel
theorem dX9_writeRow_6 : decode cX9_writeRow 6 = .ok (.istore_n 2, 1) := by decide +kernel
theorem dX9_writeRow_7 : decode cX9_writeRow 7 = .ok (.iconst 0, 1) := by decide +kernel
theorem dX9_writeRow_8 : decode cX9_writeRow 8 = .ok (.istore_n 3, 1) := by decide +kernel
theorem dX9_writeRow_9 : decode cX9_writeRow 9 = .ok (.iload_n 3, 1) := by decide +kernel
theorem dX9_writeRow_10 : decode cX9_writeRow 10 = .ok (.bipush 8, 2) := by decide +kernel
theorem dX9_writeRow_12 : decode cX9_writeRow 12 = .ok (.if_icmp .ge 45, 3) := by decide +kernel
theorem dX9_writeRow_15 : decode cX9_writeRow 15 = .ok (.iload_n 2, 1) := by decide +kernel
theorem dX9_writeRow_16 : decode cX9_writeRow 16 = .ok (.ifCond .eq 41, 3) := by decide +kernel
theorem dX9_writeRow_19 : decode cX9_writeRow 19 = .ok (.iload_n 3, 1) := by decide +kernel
theorem dX9_writeRow_20 : decode cX9_writeRow 20 = .ok (.ifCond .le 9, 3) := by decide +kernel
theorem dX9_writeRow_23 : decode cX9_writeRow 23 = .ok (.aload_n 0, 1) := by decide +kernel
theorem dX9_writeRow_24 : decode cX9_writeRow 24 = .ok (.bipush 12, 2) := by decide +kernel
theorem dX9_writeRow_26 : decode cX9_writeRow 26 = .ok (.invokevirtual 105, 3) := by decide +kernel
theorem dX9_writeRow_29 : decode cX9_writeRow 29 = .ok (.aload_n 0, 1) := by decide +kernel
theorem dX9_writeRow_30 : decode cX9_writeRow 30 = .ok (.iload_n 2, 1) := by decide +kernel
theorem dX9_writeRow_31 : decode cX9_writeRow 31 = .ok (.invokevirtual 108, 3) := by decide +kernel
theorem dX9_writeRow_34 : decode cX9_writeRow 34 = .ok (.istore 4, 2) := by decide +kernel
theorem dX9_writeRow_36 : decode cX9_writeRow 36 = .ok (.aload_n 0, 1) := by decide +kernel
theorem dX9_writeRow_37 : decode cX9_writeRow 37 = .ok (.aload_n 0, 1) := by decide +kernel
theorem dX9_writeRow_38 : decode cX9_writeRow 38 = .ok (.iload 4, 2) := by decide +kernel
theorem dX9_writeRow_40 : decode cX9_writeRow 40 = .ok (.invokevirtual 111, 3) := by decide +kernel
theorem dX9_writeRow_43 : decode cX9_writeRow 43 = .ok (.invokevirtual 115, 3) := by decide +kernel
theorem dX9_writeRow_46 : decode cX9_writeRow 46 = .ok (.iload_n 2, 1) := by decide +kernel
theorem dX9_writeRow_47 : decode cX9_writeRow 47 = .ok (.iload 4, 2) := by decide +kernel
theorem dX9_writeRow_49 : decode cX9_writeRow 49 = .ok (.ixor, 1) := by decide +kernel
theorem dX9_writeRow_50 : decode cX9_writeRow 50 = .ok (.istore_n 2, 1) := by decide +kernel
theorem dX9_writeRow_51 : decode cX9_writeRow 51 = .ok (.iinc 3 1, 3) := by decide +kernel
theorem dX9_writeRow_54 : decode cX9_writeRow 54 = .ok (.goto (-45), 3) := by decide +kernel
theorem dX9_writeRow_57 : decode cX9_writeRow 57 = .ok (.return_, 1) := by decide +kernel
theorem dX9_addStop_0 : decode cX9_addStop 0 = .ok (.aload_n 0, 1) := by decide +kernel
theorem dX9_addStop_1 : decode cX9_addStop 1 = .ok (.getfield 42, 3) := by decide +kernel
theorem dX9_addStop_4 : decode cX9_addStop 4 = .ok (.bipush 15, 2) := by decide +kernel
theorem dX9_addStop_6 : decode cX9_addStop 6 = .ok (.if_icmp .ge 23, 3) := by decide +kernel
theorem dX9_addStop_9 : decode cX9_addStop 9 = .ok (.aload_n 0, 1) := by decide +kernel
theorem dX9_addStop_10 : decode cX9_addStop 10 = .ok (.getfield 39, 3) := by decide +kernel
theorem dX9_addStop_13 : decode cX9_addStop 13 = .ok (.aload_n 0, 1) := by decide +kernel
theorem dX9_addStop_14 : decode cX9_addStop 14 = .ok (.getfield 42, 3) := by decide +kernel
theorem dX9_addStop_17 : decode cX9_addStop 17 = .ok (.iload_n 1, 1) := by decide +kernel
theorem dX9_addStop_18 : decode cX9_addStop 18 = .ok (.iastore, 1) := by decide +kernel
theorem dX9_addStop_19 : decode cX9_addStop 19 = .ok (.aload_n 0, 1) := by decide +kernel
theorem dX9_addStop_20 : decode cX9_addStop 20 = .ok (.dup, 1) := by decide +kernel
theorem dX9_addStop_21 : decode cX9_addStop 21 = .ok (.getfield 42, 3) := by decide +kernel
theorem dX9_addStop_24 : decode cX9_addStop 24 = .ok (.iconst 1, 1) := by decide +kernel
theorem dX9_addStop_25 : decode cX9_addStop 25 = .ok (.iadd, 1) := by decide +kernel
theorem dX9_addStop_26 : decode cX9_addStop 26 = .ok (.putfield 42, 3) := by decide +kernel
theorem dX9_addStop_29 : decode cX9_addStop 29 = .ok (.return_, 1) := by decide +kernel
theorem dX9_addRound_0 : decode cX9_addRound 0 = .ok (.bipush 32, 2) := by decide +kernel
theorem dX9_addRound_2 : decode cX9_addRound 2 = .ok (.istore_n 3, 1) := by decide +kernel
theorem dX9_addRound_3 : decode cX9_addRound 3 = .ok (.iload_n 3, 1) := by decide +kernel
theorem dX9_addRound_4 : decode cX9_addRound 4 = .ok (.ifCond .le 31, 3) := by decide +kernel
theorem dX9_addRound_7 : decode cX9_addRound 7 = .ok (.lload_n 1, 1) := by decide +kernel
theorem dX9_addRound_8 : decode cX9_addRound 8 = .ok (.iload_n 3, 1) := by decide +kernel
theorem dX9_addRound_9 : decode cX9_addRound 9 = .ok (.lshr, 1) := by decide +kernel
theorem dX9_addRound_10 : decode cX9_addRound 10 = .ok (.l2i, 1) := by decide +kernel
theorem dX9_addRound_11 : decode cX9_addRound 11 = .ok (.bipush 15, 2) := by decide +kernel
theorem dX9_addRound_13 : decode cX9_addRound 13 = .ok (.iand, 1) := by decide +kernel
theorem dX9_addRound_14 : decode cX9_addRound 14 = .ok (.istore 4, 2) := by decide +kernel
theorem dX9_addRound_16 : decode cX9_addRound 16 = .ok (.iload 4, 2) := by decide +kernel
theorem dX9_addRound_18 : decode cX9_addRound 18 = .ok (.bipush 12, 2) := by decide +kernel
theorem dX9_addRound_20 : decode cX9_addRound 20 = .ok (.if_icmp .eq 9, 3) := by decide +kernel
theorem dX9_addRound_23 : decode cX9_addRound 23 = .ok (.aload_n 0, 1) := by decide +kernel
theorem dX9_addRound_24 : decode cX9_addRound 24 = .ok (.iload 4, 2) := by decide +kernel
theorem dX9_addRound_26 : decode cX9_addRound 26 = .ok (.invokevirtual 105, 3) := by decide +kernel
theorem dX9_addRound_29 : decode cX9_addRound 29 = .ok (.iinc 3 (-4), 3) := by decide +kernel
theorem dX9_addRound_32 : decode cX9_addRound 32 = .ok (.goto (-29), 3) := by decide +kernel
theorem dX9_addRound_35 : decode cX9_addRound 35 = .ok (.return_, 1) := by decide +kernel
theorem dX9_firstRound_0 : decode cX9_firstRound 0 = .ok (.iload_n 1, 1) := by decide +kernel
theorem dX9_firstRound_1 : decode cX9_firstRound 1 = .ok (.istore_n 2, 1) := by decide +kernel
theorem dX9_firstRound_2 : decode cX9_firstRound 2 = .ok (.ldc2_w 119, 3) := by decide +kernel
theorem dX9_firstRound_5 : decode cX9_firstRound 5 = .ok (.lstore_n 3, 1) := by decide +kernel
theorem dX9_firstRound_6 : decode cX9_firstRound 6 = .ok (.iload_n 1, 1) := by decide +kernel
theorem dX9_firstRound_7 : decode cX9_firstRound 7 = .ok (.iload_n 1, 1) := by decide +kernel
theorem dX9_firstRound_8 : decode cX9_firstRound 8 = .ok (.iconst 1, 1) := by decide +kernel
theorem dX9_firstRound_9 : decode cX9_firstRound 9 = .ok (.isub, 1) := by decide +kernel
theorem dX9_firstRound_10 : decode cX9_firstRound 10 = .ok (.iand, 1) := by decide +kernel
theorem dX9_firstRound_11 : decode cX9_firstRound 11 = .ok (.istore 5, 2) := by decide +kernel
theorem dX9_firstRound_13 : decode cX9_firstRound 13 = .ok (.iload 5, 2) := by decide +kernel
theorem dX9_firstRound_15 : decode cX9_firstRound 15 = .ok (.istore 6, 2) := by decide +kernel
theorem dX9_firstRound_17 : decode cX9_firstRound 17 = .ok (.iload 6, 2) := by decide +kernel
theorem dX9_firstRound_19 : decode cX9_firstRound 19 = .ok (.ifCond .le 56, 3) := by decide +kernel
theorem dX9_firstRound_22 : decode cX9_firstRound 22 = .ok (.aload_n 0, 1) := by decide +kernel
theorem dX9_firstRound_23 : decode cX9_firstRound 23 = .ok (.iload_n 1, 1) := by decide +kernel
theorem dX9_firstRound_24 : decode cX9_firstRound 24 = .ok (.iload 6, 2) := by decide +kernel
theorem dX9_firstRound_26 : decode cX9_firstRound 26 = .ok (.invokevirtual 102, 3) := by decide +kernel
theorem dX9_firstRound_29 : decode cX9_firstRound 29 = .ok (.aload_n 0, 1) := by decide +kernel
theorem dX9_firstRound_30 : decode cX9_firstRound 30 = .ok (.getfield 36, 3) := by decide +kernel
theorem dX9_firstRound_33 : decode cX9_firstRound 33 = .ok (.iload_n 1, 1) := by decide +kernel
theorem dX9_firstRound_34 : decode cX9_firstRound 34 = .ok (.iaload, 1) := by decide +kernel
theorem dX9_firstRound_35 : decode cX9_firstRound 35 = .ok (.if_icmp .ne 28, 3) := by decide +kernel
theorem dX9_firstRound_38 : decode cX9_firstRound 38 = .ok (.aload_n 0, 1) := by decide +kernel
theorem dX9_firstRound_39 : decode cX9_firstRound 39 = .ok (.iload_n 1, 1) := by decide +kernel
theorem dX9_firstRound_40 : decode cX9_firstRound 40 = .ok (.iload 6, 2) := by decide +kernel
theorem dX9_firstRound_42 : decode cX9_firstRound 42 = .ok (.ixor, 1) := by decide +kernel
theorem dX9_firstRound_43 : decode cX9_firstRound 43 = .ok (.invokevirtual 111, 3) := by decide +kernel
theorem dX9_firstRound_46 : decode cX9_firstRound 46 = .ok (.lstore 7, 2) := by decide +kernel
theorem dX9_firstRound_48 : decode cX9_firstRound 48 = .ok (.lload 7, 2) := by decide +kernel
theorem dX9_firstRound_50 : decode cX9_firstRound 50 = .ok (.lload_n 3, 1) := by decide +kernel
theorem dX9_firstRound_51 : decode cX9_firstRound 51 = .ok (.lcmp, 1) := by decide +kernel
theorem dX9_firstRound_52 : decode cX9_firstRound 52 = .ok (.ifCond .ge 11, 3) := by decide +kernel
theorem dX9_firstRound_55 : decode cX9_firstRound 55 = .ok (.lload 7, 2) := by decide +kernel
theorem dX9_firstRound_57 : decode cX9_firstRound 57 = .ok (.lstore_n 3, 1) := by decide +kernel
theorem dX9_firstRound_58 : decode cX9_firstRound 58 = .ok (.iload_n 1, 1) := by decide +kernel
theorem dX9_firstRound_59 : decode cX9_firstRound 59 = .ok (.iload 6, 2) := by decide +kernel
theorem dX9_firstRound_61 : decode cX9_firstRound 61 = .ok (.ixor, 1) := by decide +kernel
theorem dX9_firstRound_62 : decode cX9_firstRound 62 = .ok (.istore_n 2, 1) := by decide +kernel
theorem dX9_firstRound_63 : decode cX9_firstRound 63 = .ok (.iload 6, 2) := by decide +kernel
theorem dX9_firstRound_65 : decode cX9_firstRound 65 = .ok (.iconst 1, 1) := by decide +kernel
theorem dX9_firstRound_66 : decode cX9_firstRound 66 = .ok (.isub, 1) := by decide +kernel
theorem dX9_firstRound_67 : decode cX9_firstRound 67 = .ok (.iload 5, 2) := by decide +kernel
theorem dX9_firstRound_69 : decode cX9_firstRound 69 = .ok (.iand, 1) := by decide +kernel
theorem dX9_firstRound_70 : decode cX9_firstRound 70 = .ok (.istore 6, 2) := by decide +kernel
theorem dX9_firstRound_72 : decode cX9_firstRound 72 = .ok (.goto (-55), 3) := by decide +kernel
theorem dX9_firstRound_75 : decode cX9_firstRound 75 = .ok (.iload_n 2, 1) := by decide +kernel
theorem dX9_firstRound_76 : decode cX9_firstRound 76 = .ok (.ireturn, 1) := by decide +kernel
theorem dX9_roundAsNumber_0 : decode cX9_roundAsNumber 0 = .ok (.lconst 0, 1) := by decide +kernel
theorem dX9_roundAsNumber_1 : decode cX9_roundAsNumber 1 = .ok (.lstore_n 2, 1) := by decide +kernel
theorem dX9_roundAsNumber_2 : decode cX9_roundAsNumber 2 = .ok (.iload_n 1, 1) := by decide +kernel
theorem dX9_roundAsNumber_3 : decode cX9_roundAsNumber 3 = .ok (.istore 4, 2) := by decide +kernel
theorem dX9_roundAsNumber_5 : decode cX9_roundAsNumber 5 = .ok (.iconst (-1), 1) := by decide +kernel
theorem dX9_roundAsNumber_6 : decode cX9_roundAsNumber 6 = .ok (.istore 5, 2) := by decide +kernel
theorem dX9_roundAsNumber_8 : decode cX9_roundAsNumber 8 = .ok (.aload_n 0, 1) := by decide +kernel
theorem dX9_roundAsNumber_9 : decode cX9_roundAsNumber 9 = .ok (.getfield 33, 3) := by decide +kernel
theorem dX9_roundAsNumber_12 : decode cX9_roundAsNumber 12 = .ok (.iload_n 1, 1) := by decide +kernel
theorem dX9_roundAsNumber_13 : decode cX9_roundAsNumber 13 = .ok (.iaload, 1) := by decide +kernel
theorem dX9_roundAsNumber_14 : decode cX9_roundAsNumber 14 = .ok (.istore 6, 2) := by decide +kernel
theorem dX9_roundAsNumber_16 : decode cX9_roundAsNumber 16 = .ok (.iconst 0, 1) := by decide +kernel
theorem dX9_roundAsNumber_17 : decode cX9_roundAsNumber 17 = .ok (.istore 7, 2) := by decide +kernel
theorem dX9_roundAsNumber_19 : decode cX9_roundAsNumber 19 = .ok (.iload 7, 2) := by decide +kernel
theorem dX9_roundAsNumber_21 : decode cX9_roundAsNumber 21 = .ok (.bipush 8, 2) := by decide +kernel
theorem dX9_roundAsNumber_23 : decode cX9_roundAsNumber 23 = .ok (.if_icmp .gt 76, 3) := by decide +kernel
theorem dX9_roundAsNumber_26 : decode cX9_roundAsNumber 26 = .ok (.aload_n 0, 1) := by decide +kernel
theorem dX9_roundAsNumber_27 : decode cX9_roundAsNumber 27 = .ok (.iload 4, 2) := by decide +kernel
theorem dX9_roundAsNumber_29 : decode cX9_roundAsNumber 29 = .ok (.iload 5, 2) := by decide +kernel
theorem dX9_roundAsNumber_31 : decode cX9_roundAsNumber 31 = .ok (.iload 6, 2) := by decide +kernel
theorem dX9_roundAsNumber_33 : decode cX9_roundAsNumber 33 = .ok (.invokevirtual 121, 3) := by decide +kernel
theorem dX9_roundAsNumber_36 : decode cX9_roundAsNumber 36 = .ok (.istore 8, 2) := by decide +kernel
theorem dX9_roundAsNumber_38 : decode cX9_roundAsNumber 38 = .ok (.bipush 12, 2) := by decide +kernel
theorem dX9_roundAsNumber_40 : decode cX9_roundAsNumber 40 = .ok (.istore 9, 2) := by decide +kernel
theorem dX9_roundAsNumber_42 : decode cX9_roundAsNumber 42 = .ok (.iload 8, 2) := by decide +kernel
theorem dX9_roundAsNumber_44 : decode cX9_roundAsNumber 44 = .ok (.iconst (-1), 1) := by decide +kernel
theorem dX9_roundAsNumber_45 : decode cX9_roundAsNumber 45 = .ok (.if_icmp .eq 40, 3) := by decide +kernel
theorem dX9_roundAsNumber_48 : decode cX9_roundAsNumber 48 = .ok (.aload_n 0, 1) := by decide +kernel
theorem dX9_roundAsNumber_49 : decode cX9_roundAsNumber 49 = .ok (.getfield 16, 3) := by decide +kernel
theorem dX9_roundAsNumber_52 : decode cX9_roundAsNumber 52 = .ok (.iload 8, 2) := by decide +kernel
theorem dX9_roundAsNumber_54 : decode cX9_roundAsNumber 54 = .ok (.iaload, 1) := by decide +kernel
theorem dX9_roundAsNumber_55 : decode cX9_roundAsNumber 55 = .ok (.istore 9, 2) := by decide +kernel
theorem dX9_roundAsNumber_57 : decode cX9_roundAsNumber 57 = .ok (.aload_n 0, 1) := by decide +kernel
theorem dX9_roundAsNumber_58 : decode cX9_roundAsNumber 58 = .ok (.getfield 30, 3) := by decide +kernel
theorem dX9_roundAsNumber_61 : decode cX9_roundAsNumber 61 = .ok (.iload 4, 2) := by decide +kernel
theorem dX9_roundAsNumber_63 : decode cX9_roundAsNumber 63 = .ok (.bipush 8, 2) := by decide +kernel
theorem dX9_roundAsNumber_65 : decode cX9_roundAsNumber 65 = .ok (.imul, 1) := by decide +kernel
theorem dX9_roundAsNumber_66 : decode cX9_roundAsNumber 66 = .ok (.iload 8, 2) := by decide +kernel
theorem dX9_roundAsNumber_68 : decode cX9_roundAsNumber 68 = .ok (.iadd, 1) := by decide +kernel
theorem dX9_roundAsNumber_69 : decode cX9_roundAsNumber 69 = .ok (.iaload, 1) := by decide +kernel
theorem dX9_roundAsNumber_70 : decode cX9_roundAsNumber 70 = .ok (.istore 6, 2) := by decide +kernel
theorem dX9_roundAsNumber_72 : decode cX9_roundAsNumber 72 = .ok (.iload 4, 2) := by decide +kernel
theorem dX9_roundAsNumber_74 : decode cX9_roundAsNumber 74 = .ok (.iconst 1, 1) := by decide +kernel
theorem dX9_roundAsNumber_75 : decode cX9_roundAsNumber 75 = .ok (.iload 8, 2) := by decide +kernel
theorem dX9_roundAsNumber_77 : decode cX9_roundAsNumber 77 = .ok (.ishl, 1) := by decide +kernel
theorem dX9_roundAsNumber_78 : decode cX9_roundAsNumber 78 = .ok (.ixor, 1) := by decide +kernel
theorem dX9_roundAsNumber_79 : decode cX9_roundAsNumber 79 = .ok (.istore 4, 2) := by decide +kernel
theorem dX9_roundAsNumber_81 : decode cX9_roundAsNumber 81 = .ok (.iload 8, 2) := by decide +kernel
theorem dX9_roundAsNumber_83 : decode cX9_roundAsNumber 83 = .ok (.istore 5, 2) := by decide +kernel
theorem dX9_roundAsNumber_85 : decode cX9_roundAsNumber 85 = .ok (.lload_n 2, 1) := by decide +kernel
theorem dX9_roundAsNumber_86 : decode cX9_roundAsNumber 86 = .ok (.iconst 4, 1) := by decide +kernel
theorem dX9_roundAsNumber_87 : decode cX9_roundAsNumber 87 = .ok (.lshl, 1) := by decide +kernel
theorem dX9_roundAsNumber_88 : decode cX9_roundAsNumber 88 = .ok (.iload 9, 2) := by decide +kernel
theorem dX9_roundAsNumber_90 : decode cX9_roundAsNumber 90 = .ok (.i2l, 1) := by decide +kernel
theorem dX9_roundAsNumber_91 : decode cX9_roundAsNumber 91 = .ok (.lor, 1) := by decide +kernel
theorem dX9_roundAsNumber_92 : decode cX9_roundAsNumber 92 = .ok (.lstore_n 2, 1) := by decide +kernel
theorem dX9_roundAsNumber_93 : decode cX9_roundAsNumber 93 = .ok (.iinc 7 1, 3) := by decide +kernel
theorem dX9_roundAsNumber_96 : decode cX9_roundAsNumber 96 = .ok (.goto (-77), 3) := by decide +kernel
theorem dX9_roundAsNumber_99 : decode cX9_roundAsNumber 99 = .ok (.lload_n 2, 1) := by decide +kernel
theorem dX9_roundAsNumber_100 : decode cX9_roundAsNumber 100 = .ok (.lreturn, 1) := by decide +kernel
theorem dX9_nextMember_0 : decode cX9_nextMember 0 = .ok (.iconst 0, 1) := by decide +kernel
theorem dX9_nextMember_1 : decode cX9_nextMember 1 = .ok (.istore 4, 2) := by decide +kernel
theorem dX9_nextMember_3 : decode cX9_nextMember 3 = .ok (.iload 4, 2) := by decide +kernel
theorem dX9_nextMember_5 : decode cX9_nextMember 5 = .ok (.aload_n 0, 1) := by decide +kernel
theorem dX9_nextMember_6 : decode cX9_nextMember 6 = .ok (.getfield 23, 3) := by decide +kernel
theorem dX9_nextMember_9 : decode cX9_nextMember 9 = .ok (.if_icmp .ge 63, 3) := by decide +kernel
theorem dX9_nextMember_12 : decode cX9_nextMember 12 = .ok (.iload_n 1, 1) := by decide +kernel
theorem dX9_nextMember_13 : decode cX9_nextMember 13 = .ok (.iload 4, 2) := by decide +kernel
theorem dX9_nextMember_15 : decode cX9_nextMember 15 = .ok (.invokestatic 83, 3) := by decide +kernel
theorem dX9_nextMember_18 : decode cX9_nextMember 18 = .ok (.ifCond .eq 48, 3) := by decide +kernel
theorem dX9_nextMember_21 : decode cX9_nextMember 21 = .ok (.iload_n 2, 1) := by decide +kernel
theorem dX9_nextMember_22 : decode cX9_nextMember 22 = .ok (.iconst (-1), 1) := by decide +kernel
theorem dX9_nextMember_23 : decode cX9_nextMember 23 = .ok (.if_icmp .ne 12, 3) := by decide +kernel
theorem dX9_nextMember_26 : decode cX9_nextMember 26 = .ok (.aload_n 0, 1) := by decide +kernel
theorem dX9_nextMember_27 : decode cX9_nextMember 27 = .ok (.iload 4, 2) := by decide +kernel
theorem dX9_nextMember_29 : decode cX9_nextMember 29 = .ok (.invokevirtual 91, 3) := by decide +kernel
theorem dX9_nextMember_32 : decode cX9_nextMember 32 = .ok (.goto 10, 3) := by decide +kernel
theorem dX9_nextMember_35 : decode cX9_nextMember 35 = .ok (.aload_n 0, 1) := by decide +kernel
theorem dX9_nextMember_36 : decode cX9_nextMember 36 = .ok (.iload_n 2, 1) := by decide +kernel
theorem dX9_nextMember_37 : decode cX9_nextMember 37 = .ok (.iload 4, 2) := by decide +kernel
theorem dX9_nextMember_39 : decode cX9_nextMember 39 = .ok (.invokevirtual 99, 3) := by decide +kernel
theorem dX9_nextMember_42 : decode cX9_nextMember 42 = .ok (.istore 5, 2) := by decide +kernel
theorem dX9_nextMember_44 : decode cX9_nextMember 44 = .ok (.iload 5, 2) := by decide +kernel
theorem dX9_nextMember_46 : decode cX9_nextMember 46 = .ok (.aload_n 0, 1) := by decide +kernel
theorem dX9_nextMember_47 : decode cX9_nextMember 47 = .ok (.getfield 30, 3) := by decide +kernel
theorem dX9_nextMember_50 : decode cX9_nextMember 50 = .ok (.iload_n 1, 1) := by decide +kernel
theorem dX9_nextMember_51 : decode cX9_nextMember 51 = .ok (.bipush 8, 2) := by decide +kernel
theorem dX9_nextMember_53 : decode cX9_nextMember 53 = .ok (.imul, 1) := by decide +kernel
theorem dX9_nextMember_54 : decode cX9_nextMember 54 = .ok (.iload 4, 2) := by decide +kernel
theorem dX9_nextMember_56 : decode cX9_nextMember 56 = .ok (.iadd, 1) := by decide +kernel
theorem dX9_nextMember_57 : decode cX9_nextMember 57 = .ok (.iaload, 1) := by decide +kernel
theorem dX9_nextMember_58 : decode cX9_nextMember 58 = .ok (.iadd, 1) := by decide +kernel
theorem dX9_nextMember_59 : decode cX9_nextMember 59 = .ok (.iload_n 3, 1) := by decide +kernel
theorem dX9_nextMember_60 : decode cX9_nextMember 60 = .ok (.if_icmp .ne 6, 3) := by decide +kernel
theorem dX9_nextMember_63 : decode cX9_nextMember 63 = .ok (.iload 4, 2) := by decide +kernel
theorem dX9_nextMember_65 : decode cX9_nextMember 65 = .ok (.ireturn, 1) := by decide +kernel
theorem dX9_nextMember_66 : decode cX9_nextMember 66 = .ok (.iinc 4 1, 3) := by decide +kernel
theorem dX9_nextMember_69 : decode cX9_nextMember 69 = .ok (.goto (-66), 3) := by decide +kernel
theorem dX9_nextMember_72 : decode cX9_nextMember 72 = .ok (.iconst (-1), 1) := by decide +kernel
theorem dX9_nextMember_73 : decode cX9_nextMember 73 = .ok (.ireturn, 1) := by decide +kernel
theorem dX10_init_0 : decode cX10_init 0 = .ok (.aload_n 0, 1) := by decide +kernel
theorem dX10_init_1 : decode cX10_init 1 = .ok (.invokespecial 1, 3) := by decide +kernel
theorem dX10_init_4 : decode cX10_init 4 = .ok (.aload_n 0, 1) := by decide +kernel
theorem dX10_init_5 : decode cX10_init 5 = .ok (.iload_n 1, 1) := by decide +kernel
theorem dX10_init_6 : decode cX10_init 6 = .ok (.putfield 7, 3) := by decide +kernel
theorem dX10_init_9 : decode cX10_init 9 = .ok (.aload_n 0, 1) := by decide +kernel
theorem dX10_init_10 : decode cX10_init 10 = .ok (.iload_n 2, 1) := by decide +kernel
theorem dX10_init_11 : decode cX10_init 11 = .ok (.putfield 13, 3) := by decide +kernel
theorem dX10_init_14 : decode cX10_init 14 = .ok (.aload_n 0, 1) := by decide +kernel
theorem dX10_init_15 : decode cX10_init 15 = .ok (.aload_n 3, 1) := by decide +kernel
theorem dX10_init_16 : decode cX10_init 16 = .ok (.putfield 16, 3) := by decide +kernel
theorem dX10_init_19 : decode cX10_init 19 = .ok (.return_, 1) := by decide +kernel
theorem dX11_init_0 : decode cX11_init 0 = .ok (.aload_n 0, 1) := by decide +kernel
theorem dX11_init_1 : decode cX11_init 1 = .ok (.invokespecial 1, 3) := by decide +kernel
theorem dX11_init_4 : decode cX11_init 4 = .ok (.aload_n 0, 1) := by decide +kernel
theorem dX11_init_5 : decode cX11_init 5 = .ok (.bipush 10, 2) := by decide +kernel
theorem dX11_init_7 : decode cX11_init 7 = .ok (.newarray .int, 2) := by decide +kernel
theorem dX11_init_9 : decode cX11_init 9 = .ok (.putfield 9, 3) := by decide +kernel
theorem dX11_init_12 : decode cX11_init 12 = .ok (.aload_n 0, 1) := by decide +kernel
theorem dX11_init_13 : decode cX11_init 13 = .ok (.new 13, 3) := by decide +kernel
theorem dX11_init_16 : decode cX11_init 16 = .ok (.dup, 1) := by decide +kernel
theorem dX11_init_17 : decode cX11_init 17 = .ok (.invokespecial 15, 3) := by decide +kernel
theorem dX11_init_20 : decode cX11_init 20 = .ok (.putfield 16, 3) := by decide +kernel
theorem dX11_init_23 : decode cX11_init 23 = .ok (.aload_n 0, 1) := by decide +kernel
theorem dX11_init_24 : decode cX11_init 24 = .ok (.new 20, 3) := by decide +kernel
theorem dX11_init_27 : decode cX11_init 27 = .ok (.dup, 1) := by decide +kernel
theorem dX11_init_28 : decode cX11_init 28 = .ok (.invokespecial 22, 3) := by decide +kernel
theorem dX11_init_31 : decode cX11_init 31 = .ok (.putfield 23, 3) := by decide +kernel
theorem dX11_init_34 : decode cX11_init 34 = .ok (.aload_n 0, 1) := by decide +kernel
theorem dX11_init_35 : decode cX11_init 35 = .ok (.new 20, 3) := by decide +kernel
theorem dX11_init_38 : decode cX11_init 38 = .ok (.dup, 1) := by decide +kernel
theorem dX11_init_39 : decode cX11_init 39 = .ok (.invokespecial 22, 3) := by decide +kernel
theorem dX11_init_42 : decode cX11_init 42 = .ok (.putfield 27, 3) := by decide +kernel
theorem dX11_init_45 : decode cX11_init 45 = .ok (.aload_n 0, 1) := by decide +kernel
theorem dX11_init_46 : decode cX11_init 46 = .ok (.new 20, 3) := by decide +kernel
theorem dX11_init_49 : decode cX11_init 49 = .ok (.dup, 1) := by decide +kernel
theorem dX11_init_50 : decode cX11_init 50 = .ok (.invokespecial 22, 3) := by decide +kernel
theorem dX11_init_53 : decode cX11_init 53 = .ok (.putfield 30, 3) := by decide +kernel
theorem dX11_init_56 : decode cX11_init 56 = .ok (.aload_n 0, 1) := by decide +kernel
theorem dX11_init_57 : decode cX11_init 57 = .ok (.new 33, 3) := by decide +kernel
theorem dX11_init_60 : decode cX11_init 60 = .ok (.dup, 1) := by decide +kernel
theorem dX11_init_61 : decode cX11_init 61 = .ok (.invokespecial 35, 3) := by decide +kernel
theorem dX11_init_64 : decode cX11_init 64 = .ok (.putfield 36, 3) := by decide +kernel
theorem dX11_init_67 : decode cX11_init 67 = .ok (.aload_n 0, 1) := by decide +kernel
theorem dX11_init_68 : decode cX11_init 68 = .ok (.new 40, 3) := by decide +kernel
theorem dX11_init_71 : decode cX11_init 71 = .ok (.dup, 1) := by decide +kernel
theorem dX11_init_72 : decode cX11_init 72 = .ok (.invokespecial 42, 3) := by decide +kernel
theorem dX11_init_75 : decode cX11_init 75 = .ok (.putfield 43, 3) := by decide +kernel
theorem dX11_init_78 : decode cX11_init 78 = .ok (.aload_n 0, 1) := by decide +kernel
theorem dX11_init_79 : decode cX11_init 79 = .ok (.new 47, 3) := by decide +kernel
theorem dX11_init_82 : decode cX11_init 82 = .ok (.dup, 1) := by decide +kernel
theorem dX11_init_83 : decode cX11_init 83 = .ok (.invokespecial 49, 3) := by decide +kernel
theorem dX11_init_86 : decode cX11_init 86 = .ok (.putfield 50, 3) := by decide +kernel
theorem dX11_init_89 : decode cX11_init 89 = .ok (.aload_n 0, 1) := by decide +kernel
theorem dX11_init_90 : decode cX11_init 90 = .ok (.iconst 0, 1) := by decide +kernel
theorem dX11_init_91 : decode cX11_init 91 = .ok (.putfield 54, 3) := by decide +kernel
theorem dX11_init_94 : decode cX11_init 94 = .ok (.aload_n 0, 1) := by decide +kernel
theorem dX11_init_95 : decode cX11_init 95 = .ok (.iconst 0, 1) := by decide +kernel
theorem dX11_init_96 : decode cX11_init 96 = .ok (.putfield 58, 3) := by decide +kernel
theorem dX11_init_99 : decode cX11_init 99 = .ok (.aload_n 0, 1) := by decide +kernel
theorem dX11_init_100 : decode cX11_init 100 = .ok (.iconst 0, 1) := by decide +kernel
theorem dX11_init_101 : decode cX11_init 101 = .ok (.putfield 61, 3) := by decide +kernel
theorem dX11_init_104 : decode cX11_init 104 = .ok (.aload_n 0, 1) := by decide +kernel
theorem dX11_init_105 : decode cX11_init 105 = .ok (.iconst 0, 1) := by decide +kernel
theorem dX11_init_106 : decode cX11_init 106 = .ok (.putfield 64, 3) := by decide +kernel
theorem dX11_init_109 : decode cX11_init 109 = .ok (.return_, 1) := by decide +kernel
theorem dX11_contents_0 : decode cX11_contents 0 = .ok (.iload_n 1, 1) := by decide +kernel
theorem dX11_contents_1 : decode cX11_contents 1 = .ok (.invokestatic 67, 3) := by decide +kernel
theorem dX11_contents_4 : decode cX11_contents 4 = .ok (.ifCond .eq 14, 3) := by decide +kernel
theorem dX11_contents_7 : decode cX11_contents 7 = .ok (.iload_n 2, 1) := by decide +kernel
theorem dX11_contents_8 : decode cX11_contents 8 = .ok (.iconst 0, 1) := by decide +kernel
theorem dX11_contents_9 : decode cX11_contents 9 = .ok (.sipush 255, 3) := by decide +kernel
theorem dX11_contents_12 : decode cX11_contents 12 = .ok (.invokestatic 71, 3) := by decide +kernel
theorem dX11_contents_15 : decode cX11_contents 15 = .ok (.ifCond .ne 9, 3) := by decide +kernel
theorem dX11_contents_18 : decode cX11_contents 18 = .ok (.aload_n 0, 1) := by decide +kernel
theorem dX11_contents_19 : decode cX11_contents 19 = .ok (.iconst (-1), 1) := by decide +kernel
theorem dX11_contents_20 : decode cX11_contents 20 = .ok (.invokevirtual 75, 3) := by decide +kernel
theorem dX11_contents_23 : decode cX11_contents 23 = .ok (.ireturn, 1) := by decide +kernel
theorem dX11_contents_24 : decode cX11_contents 24 = .ok (.aload_n 0, 1) := by decide +kernel
theorem dX11_contents_25 : decode cX11_contents 25 = .ok (.getfield 9, 3) := by decide +kernel
theorem dX11_contents_28 : decode cX11_contents 28 = .ok (.iload_n 1, 1) := by decide +kernel
theorem dX11_contents_29 : decode cX11_contents 29 = .ok (.iload_n 2, 1) := by decide +kernel
theorem dX11_contents_30 : decode cX11_contents 30 = .ok (.iastore, 1) := by decide +kernel
theorem dX11_contents_31 : decode cX11_contents 31 = .ok (.aload_n 0, 1) := by decide +kernel
theorem dX11_contents_32 : decode cX11_contents 32 = .ok (.iconst 0, 1) := by decide +kernel
theorem dX11_contents_33 : decode cX11_contents 33 = .ok (.invokevirtual 79, 3) := by decide +kernel
theorem dX11_contents_36 : decode cX11_contents 36 = .ok (.ireturn, 1) := by decide +kernel
theorem dX11_gift_0 : decode cX11_gift 0 = .ok (.iload_n 1, 1) := by decide +kernel
theorem dX11_gift_1 : decode cX11_gift 1 = .ok (.invokestatic 67, 3) := by decide +kernel
theorem dX11_gift_4 : decode cX11_gift 4 = .ok (.ifCond .eq 38, 3) := by decide +kernel
theorem dX11_gift_7 : decode cX11_gift 7 = .ok (.iload_n 2, 1) := by decide +kernel
theorem dX11_gift_8 : decode cX11_gift 8 = .ok (.iconst 1, 1) := by decide +kernel
theorem dX11_gift_9 : decode cX11_gift 9 = .ok (.ldc 82, 2) := by decide +kernel
theorem dX11_gift_11 : decode cX11_gift 11 = .ok (.invokestatic 71, 3) := by decide +kernel
theorem dX11_gift_14 : decode cX11_gift 14 = .ok (.ifCond .eq 28, 3) := by decide +kernel
theorem dX11_gift_17 : decode cX11_gift 17 = .ok (.iload_n 3, 1) := by decide +kernel
theorem dX11_gift_18 : decode cX11_gift 18 = .ok (.aload_n 0, 1) := by decide +kernel
theorem dX11_gift_19 : decode cX11_gift 19 = .ok (.getfield 54, 3) := by decide +kernel
theorem dX11_gift_22 : decode cX11_gift 22 = .ok (.sipush 1000, 3) := by decide +kernel
theorem dX11_gift_25 : decode cX11_gift 25 = .ok (.invokestatic 71, 3) := by decide +kernel
theorem dX11_gift_28 : decode cX11_gift 28 = .ok (.ifCond .eq 14, 3) := by decide +kernel
theorem dX11_gift_31 : decode cX11_gift 31 = .ok (.iload 4, 2) := by decide +kernel
theorem dX11_gift_33 : decode cX11_gift 33 = .ok (.iconst 0, 1) := by decide +kernel
theorem dX11_gift_34 : decode cX11_gift 34 = .ok (.bipush 19, 2) := by decide +kernel
theorem dX11_gift_36 : decode cX11_gift 36 = .ok (.invokestatic 71, 3) := by decide +kernel
theorem dX11_gift_39 : decode cX11_gift 39 = .ok (.ifCond .ne 9, 3) := by decide +kernel
theorem dX11_gift_42 : decode cX11_gift 42 = .ok (.aload_n 0, 1) := by decide +kernel
theorem dX11_gift_43 : decode cX11_gift 43 = .ok (.iconst (-1), 1) := by decide +kernel
theorem dX11_gift_44 : decode cX11_gift 44 = .ok (.invokevirtual 75, 3) := by decide +kernel
theorem dX11_gift_47 : decode cX11_gift 47 = .ok (.ireturn, 1) := by decide +kernel
theorem dX11_gift_48 : decode cX11_gift 48 = .ok (.aload_n 0, 1) := by decide +kernel
theorem dX11_gift_49 : decode cX11_gift 49 = .ok (.getfield 16, 3) := by decide +kernel
theorem dX11_gift_52 : decode cX11_gift 52 = .ok (.invokevirtual 83, 3) := by decide +kernel
theorem dX11_gift_55 : decode cX11_gift 55 = .ok (.sipush 200, 3) := by decide +kernel
theorem dX11_gift_58 : decode cX11_gift 58 = .ok (.if_icmp .lt 10, 3) := by decide +kernel
theorem dX11_gift_61 : decode cX11_gift 61 = .ok (.aload_n 0, 1) := by decide +kernel
theorem dX11_gift_62 : decode cX11_gift 62 = .ok (.bipush (-5), 2) := by decide +kernel
theorem dX11_gift_64 : decode cX11_gift 64 = .ok (.invokevirtual 75, 3) := by decide +kernel
theorem dX11_gift_67 : decode cX11_gift 67 = .ok (.ireturn, 1) := by decide +kernel
theorem dX11_gift_68 : decode cX11_gift 68 = .ok (.aload_n 0, 1) := by decide +kernel
theorem dX11_gift_69 : decode cX11_gift 69 = .ok (.getfield 16, 3) := by decide +kernel
theorem dX11_gift_72 : decode cX11_gift 72 = .ok (.new 87, 3) := by decide +kernel
theorem dX11_gift_75 : decode cX11_gift 75 = .ok (.dup, 1) := by decide +kernel
theorem dX11_gift_76 : decode cX11_gift 76 = .ok (.aload_n 0, 1) := by decide +kernel
theorem dX11_gift_77 : decode cX11_gift 77 = .ok (.getfield 16, 3) := by decide +kernel
theorem dX11_gift_80 : decode cX11_gift 80 = .ok (.invokevirtual 83, 3) := by decide +kernel
theorem dX11_gift_83 : decode cX11_gift 83 = .ok (.iload_n 1, 1) := by decide +kernel
theorem dX11_gift_84 : decode cX11_gift 84 = .ok (.iload_n 2, 1) := by decide +kernel
theorem dX11_gift_85 : decode cX11_gift 85 = .ok (.iload_n 3, 1) := by decide +kernel
theorem dX11_gift_86 : decode cX11_gift 86 = .ok (.iload 4, 2) := by decide +kernel
theorem dX11_gift_88 : decode cX11_gift 88 = .ok (.invokespecial 89, 3) := by decide +kernel
theorem dX11_gift_91 : decode cX11_gift 91 = .ok (.invokevirtual 92, 3) := by decide +kernel
theorem dX11_gift_94 : decode cX11_gift 94 = .ok (.aload_n 0, 1) := by decide +kernel
theorem dX11_gift_95 : decode cX11_gift 95 = .ok (.aload_n 0, 1) := by decide +kernel
theorem dX11_gift_96 : decode cX11_gift 96 = .ok (.getfield 16, 3) := by decide +kernel
theorem dX11_gift_99 : decode cX11_gift 99 = .ok (.invokevirtual 83, 3) := by decide +kernel
theorem dX11_gift_102 : decode cX11_gift 102 = .ok (.iconst 1, 1) := by decide +kernel
theorem dX11_gift_103 : decode cX11_gift 103 = .ok (.isub, 1) := by decide +kernel
theorem dX11_gift_104 : decode cX11_gift 104 = .ok (.invokevirtual 79, 3) := by decide +kernel
theorem dX11_gift_107 : decode cX11_gift 107 = .ok (.ireturn, 1) := by decide +kernel
theorem dX11_lot_0 : decode cX11_lot 0 = .ok (.aload_n 0, 1) := by decide +kernel
theorem dX11_lot_1 : decode cX11_lot 1 = .ok (.getfield 16, 3) := by decide +kernel
theorem dX11_lot_4 : decode cX11_lot 4 = .ok (.iload_n 1, 1) := by decide +kernel
theorem dX11_lot_5 : decode cX11_lot 5 = .ok (.invokevirtual 96, 3) := by decide +kernel
theorem dX11_lot_8 : decode cX11_lot 8 = .ok (.astore_n 3, 1) := by decide +kernel
theorem dX11_lot_9 : decode cX11_lot 9 = .ok (.aload_n 3, 1) := by decide +kernel
theorem dX11_lot_10 : decode cX11_lot 10 = .ok (.ifnonnull 7, 3) := by decide +kernel
theorem dX11_lot_13 : decode cX11_lot 13 = .ok (.iconst (-1), 1) := by decide +kernel
theorem dX11_lot_14 : decode cX11_lot 14 = .ok (.goto 8, 3) := by decide +kernel
theorem dX11_lot_17 : decode cX11_lot 17 = .ok (.aload_n 3, 1) := by decide +kernel
theorem dX11_lot_18 : decode cX11_lot 18 = .ok (.iload_n 2, 1) := by decide +kernel
theorem dX11_lot_19 : decode cX11_lot 19 = .ok (.invokevirtual 100, 3) := by decide +kernel
theorem dX11_lot_22 : decode cX11_lot 22 = .ok (.ireturn, 1) := by decide +kernel
theorem dX11_table_0 : decode cX11_table 0 = .ok (.aload_n 0, 1) := by decide +kernel
theorem dX11_table_1 : decode cX11_table 1 = .ok (.getfield 23, 3) := by decide +kernel
theorem dX11_table_4 : decode cX11_table 4 = .ok (.invokevirtual 103, 3) := by decide +kernel
theorem dX11_table_7 : decode cX11_table 7 = .ok (.bipush 12, 2) := by decide +kernel
theorem dX11_table_9 : decode cX11_table 9 = .ok (.if_icmp .lt 10, 3) := by decide +kernel
theorem dX11_table_12 : decode cX11_table 12 = .ok (.aload_n 0, 1) := by decide +kernel
theorem dX11_table_13 : decode cX11_table 13 = .ok (.bipush (-5), 2) := by decide +kernel
theorem dX11_table_15 : decode cX11_table 15 = .ok (.invokevirtual 75, 3) := by decide +kernel
theorem dX11_table_18 : decode cX11_table 18 = .ok (.ireturn, 1) := by decide +kernel
theorem dX11_table_19 : decode cX11_table 19 = .ok (.aload_n 0, 1) := by decide +kernel
theorem dX11_table_20 : decode cX11_table 20 = .ok (.getfield 23, 3) := by decide +kernel
theorem dX11_table_23 : decode cX11_table 23 = .ok (.new 104, 3) := by decide +kernel
theorem dX11_table_26 : decode cX11_table 26 = .ok (.dup, 1) := by decide +kernel
theorem dX11_table_27 : decode cX11_table 27 = .ok (.invokespecial 106, 3) := by decide +kernel
theorem dX11_table_30 : decode cX11_table 30 = .ok (.invokevirtual 107, 3) := by decide +kernel
theorem dX11_table_33 : decode cX11_table 33 = .ok (.pop, 1) := by decide +kernel
theorem dX11_table_34 : decode cX11_table 34 = .ok (.aload_n 0, 1) := by decide +kernel
theorem dX11_table_35 : decode cX11_table 35 = .ok (.aload_n 0, 1) := by decide +kernel
theorem dX11_table_36 : decode cX11_table 36 = .ok (.getfield 23, 3) := by decide +kernel
theorem dX11_table_39 : decode cX11_table 39 = .ok (.invokevirtual 103, 3) := by decide +kernel
theorem dX11_table_42 : decode cX11_table 42 = .ok (.iconst 1, 1) := by decide +kernel
theorem dX11_table_43 : decode cX11_table 43 = .ok (.isub, 1) := by decide +kernel
theorem dX11_table_44 : decode cX11_table 44 = .ok (.invokevirtual 79, 3) := by decide +kernel
theorem dX11_table_47 : decode cX11_table 47 = .ok (.ireturn, 1) := by decide +kernel
theorem dX11_family_0 : decode cX11_family 0 = .ok (.iload_n 2, 1) := by decide +kernel
theorem dX11_family_1 : decode cX11_family 1 = .ok (.iconst 1, 1) := by decide +kernel
theorem dX11_family_2 : decode cX11_family 2 = .ok (.bipush 12, 2) := by decide +kernel
theorem dX11_family_4 : decode cX11_family 4 = .ok (.invokestatic 71, 3) := by decide +kernel
theorem dX11_family_7 : decode cX11_family 7 = .ok (.ifCond .eq 14, 3) := by decide +kernel
theorem dX11_family_10 : decode cX11_family 10 = .ok (.iload_n 3, 1) := by decide +kernel
theorem dX11_family_11 : decode cX11_family 11 = .ok (.iconst 0, 1) := by decide +kernel
theorem dX11_family_12 : decode cX11_family 12 = .ok (.sipush 255, 3) := by decide +kernel
theorem dX11_family_15 : decode cX11_family 15 = .ok (.invokestatic 71, 3) := by decide +kernel
theorem dX11_family_18 : decode cX11_family 18 = .ok (.ifCond .ne 9, 3) := by decide +kernel
theorem dX11_family_21 : decode cX11_family 21 = .ok (.aload_n 0, 1) := by decide +kernel
theorem dX11_family_22 : decode cX11_family 22 = .ok (.iconst (-1), 1) := by decide +kernel
theorem dX11_family_23 : decode cX11_family 23 = .ok (.invokevirtual 75, 3) := by decide +kernel
theorem dX11_family_26 : decode cX11_family 26 = .ok (.ireturn, 1) := by decide +kernel
theorem dX11_family_27 : decode cX11_family 27 = .ok (.aload_n 0, 1) := by decide +kernel
theorem dX11_family_28 : decode cX11_family 28 = .ok (.iload_n 1, 1) := by decide +kernel
theorem dX11_family_29 : decode cX11_family 29 = .ok (.invokevirtual 110, 3) := by decide +kernel
theorem dX11_family_32 : decode cX11_family 32 = .ok (.ifnonnull 10, 3) := by decide +kernel
theorem dX11_family_35 : decode cX11_family 35 = .ok (.aload_n 0, 1) := by decide +kernel
theorem dX11_family_36 : decode cX11_family 36 = .ok (.bipush (-2), 2) := by decide +kernel
theorem dX11_family_38 : decode cX11_family 38 = .ok (.invokevirtual 75, 3) := by decide +kernel
theorem dX11_family_41 : decode cX11_family 41 = .ok (.ireturn, 1) := by decide +kernel
theorem dX11_family_42 : decode cX11_family 42 = .ok (.aload_n 0, 1) := by decide +kernel
theorem dX11_family_43 : decode cX11_family 43 = .ok (.getfield 27, 3) := by decide +kernel
theorem dX11_family_46 : decode cX11_family 46 = .ok (.invokevirtual 103, 3) := by decide +kernel
theorem dX11_family_49 : decode cX11_family 49 = .ok (.bipush 40, 2) := by decide +kernel
theorem dX11_family_51 : decode cX11_family 51 = .ok (.if_icmp .lt 10, 3) := by decide +kernel
theorem dX11_family_54 : decode cX11_family 54 = .ok (.aload_n 0, 1) := by decide +kernel
theorem dX11_family_55 : decode cX11_family 55 = .ok (.bipush (-5), 2) := by decide +kernel
theorem dX11_family_57 : decode cX11_family 57 = .ok (.invokevirtual 75, 3) := by decide +kernel
theorem dX11_family_60 : decode cX11_family 60 = .ok (.ireturn, 1) := by decide +kernel
theorem dX11_family_61 : decode cX11_family 61 = .ok (.aload_n 0, 1) := by decide +kernel
theorem dX11_family_62 : decode cX11_family 62 = .ok (.getfield 27, 3) := by decide +kernel
theorem dX11_family_65 : decode cX11_family 65 = .ok (.new 114, 3) := by decide +kernel
theorem dX11_family_68 : decode cX11_family 68 = .ok (.dup, 1) := by decide +kernel
theorem dX11_family_69 : decode cX11_family 69 = .ok (.iload_n 2, 1) := by decide +kernel
theorem dX11_family_70 : decode cX11_family 70 = .ok (.iload_n 3, 1) := by decide +kernel
theorem dX11_family_71 : decode cX11_family 71 = .ok (.invokespecial 116, 3) := by decide +kernel
theorem dX11_family_74 : decode cX11_family 74 = .ok (.invokevirtual 107, 3) := by decide +kernel
theorem dX11_family_77 : decode cX11_family 77 = .ok (.pop, 1) := by decide +kernel
theorem dX11_family_78 : decode cX11_family 78 = .ok (.aload_n 0, 1) := by decide +kernel
theorem dX11_family_79 : decode cX11_family 79 = .ok (.aload_n 0, 1) := by decide +kernel
theorem dX11_family_80 : decode cX11_family 80 = .ok (.getfield 27, 3) := by decide +kernel
theorem dX11_family_83 : decode cX11_family 83 = .ok (.invokevirtual 103, 3) := by decide +kernel
theorem dX11_family_86 : decode cX11_family 86 = .ok (.iconst 1, 1) := by decide +kernel
theorem dX11_family_87 : decode cX11_family 87 = .ok (.isub, 1) := by decide +kernel
theorem dX11_family_88 : decode cX11_family 88 = .ok (.invokevirtual 79, 3) := by decide +kernel
theorem dX11_family_91 : decode cX11_family 91 = .ok (.ireturn, 1) := by decide +kernel
theorem dX11_refer_0 : decode cX11_refer 0 = .ok (.iload_n 2, 1) := by decide +kernel
theorem dX11_refer_1 : decode cX11_refer 1 = .ok (.iconst 0, 1) := by decide +kernel
theorem dX11_refer_2 : decode cX11_refer 2 = .ok (.sipush 1000, 3) := by decide +kernel
theorem dX11_refer_5 : decode cX11_refer 5 = .ok (.invokestatic 71, 3) := by decide +kernel
theorem dX11_refer_8 : decode cX11_refer 8 = .ok (.ifCond .eq 25, 3) := by decide +kernel
theorem dX11_refer_11 : decode cX11_refer 11 = .ok (.iload_n 3, 1) := by decide +kernel
theorem dX11_refer_12 : decode cX11_refer 12 = .ok (.iload_n 2, 1) := by decide +kernel
theorem dX11_refer_13 : decode cX11_refer 13 = .ok (.sipush 1000, 3) := by decide +kernel
theorem dX11_refer_16 : decode cX11_refer 16 = .ok (.invokestatic 71, 3) := by decide +kernel
theorem dX11_refer_19 : decode cX11_refer 19 = .ok (.ifCond .eq 14, 3) := by decide +kernel
theorem dX11_refer_22 : decode cX11_refer 22 = .ok (.iload 4, 2) := by decide +kernel
theorem dX11_refer_24 : decode cX11_refer 24 = .ok (.iconst 1, 1) := by decide +kernel
theorem dX11_refer_25 : decode cX11_refer 25 = .ok (.bipush 20, 2) := by decide +kernel
theorem dX11_refer_27 : decode cX11_refer 27 = .ok (.invokestatic 71, 3) := by decide +kernel
theorem dX11_refer_30 : decode cX11_refer 30 = .ok (.ifCond .ne 9, 3) := by decide +kernel
theorem dX11_refer_33 : decode cX11_refer 33 = .ok (.aload_n 0, 1) := by decide +kernel
theorem dX11_refer_34 : decode cX11_refer 34 = .ok (.iconst (-1), 1) := by decide +kernel
theorem dX11_refer_35 : decode cX11_refer 35 = .ok (.invokevirtual 75, 3) := by decide +kernel
theorem dX11_refer_38 : decode cX11_refer 38 = .ok (.ireturn, 1) := by decide +kernel
theorem dX11_refer_39 : decode cX11_refer 39 = .ok (.aload_n 0, 1) := by decide +kernel
theorem dX11_refer_40 : decode cX11_refer 40 = .ok (.iload_n 1, 1) := by decide +kernel
theorem dX11_refer_41 : decode cX11_refer 41 = .ok (.invokevirtual 119, 3) := by decide +kernel
theorem dX11_refer_44 : decode cX11_refer 44 = .ok (.astore 5, 2) := by decide +kernel
theorem dX11_refer_46 : decode cX11_refer 46 = .ok (.aload 5, 2) := by decide +kernel
theorem dX11_refer_48 : decode cX11_refer 48 = .ok (.ifnonnull 10, 3) := by decide +kernel
theorem dX11_refer_51 : decode cX11_refer 51 = .ok (.aload_n 0, 1) := by decide +kernel
theorem dX11_refer_52 : decode cX11_refer 52 = .ok (.bipush (-2), 2) := by decide +kernel
theorem dX11_refer_54 : decode cX11_refer 54 = .ok (.invokevirtual 75, 3) := by decide +kernel
theorem dX11_refer_57 : decode cX11_refer 57 = .ok (.ireturn, 1) := by decide +kernel
theorem dX11_refer_58 : decode cX11_refer 58 = .ok (.aload_n 0, 1) := by decide +kernel
theorem dX11_refer_59 : decode cX11_refer 59 = .ok (.getfield 58, 3) := by decide +kernel
theorem dX11_refer_62 : decode cX11_refer 62 = .ok (.bipush 100, 2) := by decide +kernel
theorem dX11_refer_64 : decode cX11_refer 64 = .ok (.if_icmp .lt 10, 3) := by decide +kernel
theorem dX11_refer_67 : decode cX11_refer 67 = .ok (.aload_n 0, 1) := by decide +kernel
theorem dX11_refer_68 : decode cX11_refer 68 = .ok (.bipush (-5), 2) := by decide +kernel
theorem dX11_refer_70 : decode cX11_refer 70 = .ok (.invokevirtual 75, 3) := by decide +kernel
theorem dX11_refer_73 : decode cX11_refer 73 = .ok (.ireturn, 1) := by decide +kernel
theorem dX11_refer_74 : decode cX11_refer 74 = .ok (.aload 5, 2) := by decide +kernel
theorem dX11_refer_76 : decode cX11_refer 76 = .ok (.new 123, 3) := by decide +kernel
theorem dX11_refer_79 : decode cX11_refer 79 = .ok (.dup, 1) := by decide +kernel
theorem dX11_refer_80 : decode cX11_refer 80 = .ok (.iload_n 2, 1) := by decide +kernel
theorem dX11_refer_81 : decode cX11_refer 81 = .ok (.iload_n 3, 1) := by decide +kernel
theorem dX11_refer_82 : decode cX11_refer 82 = .ok (.iload 4, 2) := by decide +kernel
theorem dX11_refer_84 : decode cX11_refer 84 = .ok (.aload 5, 2) := by decide +kernel
theorem dX11_refer_86 : decode cX11_refer 86 = .ok (.getfield 125, 3) := by decide +kernel
theorem dX11_refer_89 : decode cX11_refer 89 = .ok (.invokespecial 129, 3) := by decide +kernel
theorem dX11_refer_92 : decode cX11_refer 92 = .ok (.putfield 125, 3) := by decide +kernel
theorem dX11_refer_95 : decode cX11_refer 95 = .ok (.aload_n 0, 1) := by decide +kernel
theorem dX11_refer_96 : decode cX11_refer 96 = .ok (.dup, 1) := by decide +kernel
theorem dX11_refer_97 : decode cX11_refer 97 = .ok (.getfield 58, 3) := by decide +kernel
theorem dX11_refer_100 : decode cX11_refer 100 = .ok (.iconst 1, 1) := by decide +kernel
theorem dX11_refer_101 : decode cX11_refer 101 = .ok (.iadd, 1) := by decide +kernel
theorem dX11_refer_102 : decode cX11_refer 102 = .ok (.putfield 58, 3) := by decide +kernel
theorem dX11_refer_105 : decode cX11_refer 105 = .ok (.aload_n 0, 1) := by decide +kernel
theorem dX11_refer_106 : decode cX11_refer 106 = .ok (.aload_n 0, 1) := by decide +kernel
theorem dX11_refer_107 : decode cX11_refer 107 = .ok (.getfield 58, 3) := by decide +kernel
theorem dX11_refer_110 : decode cX11_refer 110 = .ok (.invokevirtual 79, 3) := by decide +kernel
theorem dX11_refer_113 : decode cX11_refer 113 = .ok (.ireturn, 1) := by decide +kernel
theorem dX11_allowed_0 : decode cX11_allowed 0 = .ok (.aload_n 0, 1) := by decide +kernel
theorem dX11_allowed_1 : decode cX11_allowed 1 = .ok (.iload_n 1, 1) := by decide +kernel
theorem dX11_allowed_2 : decode cX11_allowed 2 = .ok (.invokevirtual 119, 3) := by decide +kernel
theorem dX11_allowed_5 : decode cX11_allowed 5 = .ok (.astore_n 3, 1) := by decide +kernel
theorem dX11_allowed_6 : decode cX11_allowed 6 = .ok (.aload_n 3, 1) := by decide +kernel
theorem dX11_allowed_7 : decode cX11_allowed 7 = .ok (.ifnull 14, 3) := by decide +kernel
theorem dX11_allowed_10 : decode cX11_allowed 10 = .ok (.iload_n 2, 1) := by decide +kernel
theorem dX11_allowed_11 : decode cX11_allowed 11 = .ok (.iconst 0, 1) := by decide +kernel
theorem dX11_allowed_12 : decode cX11_allowed 12 = .ok (.sipush 1000, 3) := by decide +kernel
theorem dX11_allowed_15 : decode cX11_allowed 15 = .ok (.invokestatic 71, 3) := by decide +kernel
theorem dX11_allowed_18 : decode cX11_allowed 18 = .ok (.ifCond .ne 7, 3) := by decide +kernel
theorem dX11_allowed_21 : decode cX11_allowed 21 = .ok (.iconst (-1), 1) := by decide +kernel
theorem dX11_allowed_22 : decode cX11_allowed 22 = .ok (.goto 8, 3) := by decide +kernel
theorem dX11_allowed_25 : decode cX11_allowed 25 = .ok (.aload_n 3, 1) := by decide +kernel
theorem dX11_allowed_26 : decode cX11_allowed 26 = .ok (.iload_n 2, 1) := by decide +kernel
theorem dX11_allowed_27 : decode cX11_allowed 27 = .ok (.invokevirtual 132, 3) := by decide +kernel
theorem dX11_allowed_30 : decode cX11_allowed 30 = .ok (.ireturn, 1) := by decide +kernel
theorem dX11_need_0 : decode cX11_need 0 = .ok (.aload_n 0, 1) := by decide +kernel
theorem dX11_need_1 : decode cX11_need 1 = .ok (.iload_n 1, 1) := by decide +kernel
theorem dX11_need_2 : decode cX11_need 2 = .ok (.invokevirtual 119, 3) := by decide +kernel
theorem dX11_need_5 : decode cX11_need 5 = .ok (.astore_n 3, 1) := by decide +kernel
theorem dX11_need_6 : decode cX11_need 6 = .ok (.aload_n 3, 1) := by decide +kernel
theorem dX11_need_7 : decode cX11_need 7 = .ok (.ifnull 10, 3) := by decide +kernel
theorem dX11_need_10 : decode cX11_need 10 = .ok (.iload_n 2, 1) := by decide +kernel
theorem dX11_need_11 : decode cX11_need 11 = .ok (.invokestatic 67, 3) := by decide +kernel
theorem dX11_need_14 : decode cX11_need 14 = .ok (.ifCond .ne 7, 3) := by decide +kernel
theorem dX11_need_17 : decode cX11_need 17 = .ok (.iconst (-1), 1) := by decide +kernel
theorem dX11_need_18 : decode cX11_need 18 = .ok (.goto 15, 3) := by decide +kernel
theorem dX11_need_21 : decode cX11_need 21 = .ok (.aload_n 0, 1) := by decide +kernel
theorem dX11_need_22 : decode cX11_need 22 = .ok (.getfield 50, 3) := by decide +kernel
theorem dX11_need_25 : decode cX11_need 25 = .ok (.iload_n 2, 1) := by decide +kernel
theorem dX11_need_26 : decode cX11_need 26 = .ok (.aload_n 3, 1) := by decide +kernel
theorem dX11_need_27 : decode cX11_need 27 = .ok (.getfield 135, 3) := by decide +kernel
theorem dX11_need_30 : decode cX11_need 30 = .ok (.invokevirtual 138, 3) := by decide +kernel
theorem dX11_need_33 : decode cX11_need 33 = .ok (.ireturn, 1) := by decide +kernel
theorem dX11_parcel_0 : decode cX11_parcel 0 = .ok (.aload_n 0, 1) := by decide +kernel
theorem dX11_parcel_1 : decode cX11_parcel 1 = .ok (.iload_n 1, 1) := by decide +kernel
theorem dX11_parcel_2 : decode cX11_parcel 2 = .ok (.invokevirtual 119, 3) := by decide +kernel
theorem dX11_parcel_5 : decode cX11_parcel 5 = .ok (.astore_n 2, 1) := by decide +kernel
theorem dX11_parcel_6 : decode cX11_parcel 6 = .ok (.aload_n 2, 1) := by decide +kernel
theorem dX11_parcel_7 : decode cX11_parcel 7 = .ok (.ifnonnull 10, 3) := by decide +kernel
theorem dX11_parcel_10 : decode cX11_parcel 10 = .ok (.aload_n 0, 1) := by decide +kernel
theorem dX11_parcel_11 : decode cX11_parcel 11 = .ok (.bipush (-2), 2) := by decide +kernel
theorem dX11_parcel_13 : decode cX11_parcel 13 = .ok (.invokevirtual 75, 3) := by decide +kernel
theorem dX11_parcel_16 : decode cX11_parcel 16 = .ok (.ireturn, 1) := by decide +kernel
theorem dX11_parcel_17 : decode cX11_parcel 17 = .ok (.aload_n 2, 1) := by decide +kernel
theorem dX11_parcel_18 : decode cX11_parcel 18 = .ok (.aload_n 0, 1) := by decide +kernel
theorem dX11_parcel_19 : decode cX11_parcel 19 = .ok (.getfield 54, 3) := by decide +kernel
theorem dX11_parcel_22 : decode cX11_parcel 22 = .ok (.invokevirtual 142, 3) := by decide +kernel
theorem dX11_parcel_25 : decode cX11_parcel 25 = .ok (.astore_n 3, 1) := by decide +kernel
theorem dX11_parcel_26 : decode cX11_parcel 26 = .ok (.aload_n 3, 1) := by decide +kernel
theorem dX11_parcel_27 : decode cX11_parcel 27 = .ok (.ifnonnull 10, 3) := by decide +kernel
theorem dX11_parcel_30 : decode cX11_parcel 30 = .ok (.aload_n 0, 1) := by decide +kernel
theorem dX11_parcel_31 : decode cX11_parcel 31 = .ok (.bipush (-3), 2) := by decide +kernel
theorem dX11_parcel_33 : decode cX11_parcel 33 = .ok (.invokevirtual 75, 3) := by decide +kernel
theorem dX11_parcel_36 : decode cX11_parcel 36 = .ok (.ireturn, 1) := by decide +kernel
theorem dX11_parcel_37 : decode cX11_parcel 37 = .ok (.new 146, 3) := by decide +kernel
theorem dX11_parcel_40 : decode cX11_parcel 40 = .ok (.dup, 1) := by decide +kernel
theorem dX11_parcel_41 : decode cX11_parcel 41 = .ok (.iload_n 1, 1) := by decide +kernel
theorem dX11_parcel_42 : decode cX11_parcel 42 = .ok (.aload_n 0, 1) := by decide +kernel
theorem dX11_parcel_43 : decode cX11_parcel 43 = .ok (.getfield 54, 3) := by decide +kernel
theorem dX11_parcel_46 : decode cX11_parcel 46 = .ok (.invokespecial 148, 3) := by decide +kernel
theorem dX11_parcel_49 : decode cX11_parcel 49 = .ok (.astore 4, 2) := by decide +kernel
theorem dX11_parcel_51 : decode cX11_parcel 51 = .ok (.iconst 0, 1) := by decide +kernel
theorem dX11_parcel_52 : decode cX11_parcel 52 = .ok (.istore 5, 2) := by decide +kernel
theorem dX11_parcel_54 : decode cX11_parcel 54 = .ok (.iload 5, 2) := by decide +kernel
theorem dX11_parcel_56 : decode cX11_parcel 56 = .ok (.bipush 10, 2) := by decide +kernel
theorem dX11_parcel_58 : decode cX11_parcel 58 = .ok (.if_icmp .ge 18, 3) := by decide +kernel
theorem dX11_parcel_61 : decode cX11_parcel 61 = .ok (.aload_n 0, 1) := by decide +kernel
theorem dX11_parcel_62 : decode cX11_parcel 62 = .ok (.aload 4, 2) := by decide +kernel
theorem dX11_parcel_64 : decode cX11_parcel 64 = .ok (.aload_n 2, 1) := by decide +kernel
theorem dX11_parcel_65 : decode cX11_parcel 65 = .ok (.iload 5, 2) := by decide +kernel
theorem dX11_parcel_67 : decode cX11_parcel 67 = .ok (.invokevirtual 149, 3) := by decide +kernel
theorem dX11_parcel_70 : decode cX11_parcel 70 = .ok (.iinc 5 1, 3) := by decide +kernel
theorem dX11_parcel_73 : decode cX11_parcel 73 = .ok (.goto (-19), 3) := by decide +kernel
theorem dX11_parcel_76 : decode cX11_parcel 76 = .ok (.aload 4, 2) := by decide +kernel
theorem dX11_parcel_78 : decode cX11_parcel 78 = .ok (.getfield 153, 3) := by decide +kernel
theorem dX11_parcel_81 : decode cX11_parcel 81 = .ok (.invokevirtual 156, 3) := by decide +kernel
theorem dX11_parcel_84 : decode cX11_parcel 84 = .ok (.ifCond .eq 10, 3) := by decide +kernel
theorem dX11_parcel_87 : decode cX11_parcel 87 = .ok (.aload_n 0, 1) := by decide +kernel
theorem dX11_parcel_88 : decode cX11_parcel 88 = .ok (.bipush (-4), 2) := by decide +kernel
theorem dX11_parcel_90 : decode cX11_parcel 90 = .ok (.invokevirtual 75, 3) := by decide +kernel
theorem dX11_parcel_93 : decode cX11_parcel 93 = .ok (.ireturn, 1) := by decide +kernel
theorem dX11_parcel_94 : decode cX11_parcel 94 = .ok (.aload_n 3, 1) := by decide +kernel
theorem dX11_parcel_95 : decode cX11_parcel 95 = .ok (.dup, 1) := by decide +kernel
theorem dX11_parcel_96 : decode cX11_parcel 96 = .ok (.getfield 160, 3) := by decide +kernel
theorem dX11_parcel_99 : decode cX11_parcel 99 = .ok (.iconst 1, 1) := by decide +kernel
theorem dX11_parcel_100 : decode cX11_parcel 100 = .ok (.isub, 1) := by decide +kernel
theorem dX11_parcel_101 : decode cX11_parcel 101 = .ok (.putfield 160, 3) := by decide +kernel
theorem dX11_parcel_104 : decode cX11_parcel 104 = .ok (.aload_n 0, 1) := by decide +kernel
theorem dX11_parcel_105 : decode cX11_parcel 105 = .ok (.getfield 30, 3) := by decide +kernel
theorem dX11_parcel_108 : decode cX11_parcel 108 = .ok (.aload 4, 2) := by decide +kernel
theorem dX11_parcel_110 : decode cX11_parcel 110 = .ok (.invokevirtual 107, 3) := by decide +kernel
theorem dX11_parcel_113 : decode cX11_parcel 113 = .ok (.pop, 1) := by decide +kernel
theorem dX11_parcel_114 : decode cX11_parcel 114 = .ok (.aload_n 0, 1) := by decide +kernel
theorem dX11_parcel_115 : decode cX11_parcel 115 = .ok (.aload_n 0, 1) := by decide +kernel
theorem dX11_parcel_116 : decode cX11_parcel 116 = .ok (.getfield 30, 3) := by decide +kernel
theorem dX11_parcel_119 : decode cX11_parcel 119 = .ok (.invokevirtual 103, 3) := by decide +kernel
theorem dX11_parcel_122 : decode cX11_parcel 122 = .ok (.iconst 1, 1) := by decide +kernel
theorem dX11_parcel_123 : decode cX11_parcel 123 = .ok (.isub, 1) := by decide +kernel
theorem dX11_parcel_124 : decode cX11_parcel 124 = .ok (.invokevirtual 79, 3) := by decide +kernel
theorem dX11_parcel_127 : decode cX11_parcel 127 = .ok (.ireturn, 1) := by decide +kernel
theorem dX11_of_0 : decode cX11_of 0 = .ok (.iload_n 1, 1) := by decide +kernel
theorem dX11_of_1 : decode cX11_of 1 = .ok (.iconst 0, 1) := by decide +kernel
theorem dX11_of_2 : decode cX11_of 2 = .ok (.aload_n 0, 1) := by decide +kernel
theorem dX11_of_3 : decode cX11_of 3 = .ok (.getfield 30, 3) := by decide +kernel
theorem dX11_of_6 : decode cX11_of 6 = .ok (.invokevirtual 103, 3) := by decide +kernel
theorem dX11_of_9 : decode cX11_of 9 = .ok (.iconst 1, 1) := by decide +kernel
theorem dX11_of_10 : decode cX11_of 10 = .ok (.isub, 1) := by decide +kernel
theorem dX11_of_11 : decode cX11_of 11 = .ok (.invokestatic 71, 3) := by decide +kernel
theorem dX11_of_14 : decode cX11_of 14 = .ok (.ifCond .eq 21, 3) := by decide +kernel
theorem dX11_of_17 : decode cX11_of 17 = .ok (.aload_n 0, 1) := by decide +kernel
theorem dX11_of_18 : decode cX11_of 18 = .ok (.getfield 30, 3) := by decide +kernel
theorem dX11_of_21 : decode cX11_of 21 = .ok (.iload_n 1, 1) := by decide +kernel
theorem dX11_of_22 : decode cX11_of 22 = .ok (.invokevirtual 163, 3) := by decide +kernel
theorem dX11_of_25 : decode cX11_of 25 = .ok (.checkcast 146, 3) := by decide +kernel
theorem dX11_of_28 : decode cX11_of 28 = .ok (.iload_n 2, 1) := by decide +kernel
theorem dX11_of_29 : decode cX11_of 29 = .ok (.invokevirtual 167, 3) := by decide +kernel
theorem dX11_of_32 : decode cX11_of 32 = .ok (.goto 4, 3) := by decide +kernel
theorem dX11_of_35 : decode cX11_of 35 = .ok (.iconst (-1), 1) := by decide +kernel
theorem dX11_of_36 : decode cX11_of 36 = .ok (.ireturn, 1) := by decide +kernel
theorem dX11_go_0 : decode cX11_go 0 = .ok (.iload_n 1, 1) := by decide +kernel
theorem dX11_go_1 : decode cX11_go 1 = .ok (.iconst 1, 1) := by decide +kernel
theorem dX11_go_2 : decode cX11_go 2 = .ok (.bipush 60, 2) := by decide +kernel
theorem dX11_go_4 : decode cX11_go 4 = .ok (.invokestatic 71, 3) := by decide +kernel
theorem dX11_go_7 : decode cX11_go 7 = .ok (.ifCond .eq 15, 3) := by decide +kernel
theorem dX11_go_10 : decode cX11_go 10 = .ok (.aload_n 0, 1) := by decide +kernel
theorem dX11_go_11 : decode cX11_go 11 = .ok (.getfield 54, 3) := by decide +kernel
theorem dX11_go_14 : decode cX11_go 14 = .ok (.iload_n 1, 1) := by decide +kernel
theorem dX11_go_15 : decode cX11_go 15 = .ok (.iadd, 1) := by decide +kernel
theorem dX11_go_16 : decode cX11_go 16 = .ok (.sipush 500, 3) := by decide +kernel
theorem dX11_go_19 : decode cX11_go 19 = .ok (.if_icmp .le 9, 3) := by decide +kernel
theorem dX11_go_22 : decode cX11_go 22 = .ok (.aload_n 0, 1) := by decide +kernel
theorem dX11_go_23 : decode cX11_go 23 = .ok (.iconst (-1), 1) := by decide +kernel
theorem dX11_go_24 : decode cX11_go 24 = .ok (.invokevirtual 75, 3) := by decide +kernel
theorem dX11_go_27 : decode cX11_go 27 = .ok (.ireturn, 1) := by decide +kernel
theorem dX11_go_28 : decode cX11_go 28 = .ok (.aload_n 0, 1) := by decide +kernel
theorem dX11_go_29 : decode cX11_go 29 = .ok (.dup, 1) := by decide +kernel
theorem dX11_go_30 : decode cX11_go 30 = .ok (.getfield 54, 3) := by decide +kernel
theorem dX11_go_33 : decode cX11_go 33 = .ok (.iload_n 1, 1) := by decide +kernel
theorem dX11_go_34 : decode cX11_go 34 = .ok (.iadd, 1) := by decide +kernel
theorem dX11_go_35 : decode cX11_go 35 = .ok (.putfield 54, 3) := by decide +kernel
theorem dX11_go_38 : decode cX11_go 38 = .ok (.aload_n 0, 1) := by decide +kernel
theorem dX11_go_39 : decode cX11_go 39 = .ok (.getfield 16, 3) := by decide +kernel
theorem dX11_go_42 : decode cX11_go 42 = .ok (.aload_n 0, 1) := by decide +kernel
theorem dX11_go_43 : decode cX11_go 43 = .ok (.getfield 54, 3) := by decide +kernel
theorem dX11_go_46 : decode cX11_go 46 = .ok (.invokevirtual 168, 3) := by decide +kernel
theorem dX11_go_49 : decode cX11_go 49 = .ok (.aload_n 0, 1) := by decide +kernel
theorem dX11_go_50 : decode cX11_go 50 = .ok (.aload_n 0, 1) := by decide +kernel
theorem dX11_go_51 : decode cX11_go 51 = .ok (.getfield 54, 3) := by decide +kernel
theorem dX11_go_54 : decode cX11_go 54 = .ok (.invokevirtual 79, 3) := by decide +kernel
theorem dX11_go_57 : decode cX11_go 57 = .ok (.ireturn, 1) := by decide +kernel
theorem dX11_want_0 : decode cX11_want 0 = .ok (.iload_n 2, 1) := by decide +kernel
theorem dX11_want_1 : decode cX11_want 1 = .ok (.invokestatic 67, 3) := by decide +kernel
theorem dX11_want_4 : decode cX11_want 4 = .ok (.ifCond .eq 13, 3) := by decide +kernel
theorem dX11_want_7 : decode cX11_want 7 = .ok (.iload_n 3, 1) := by decide +kernel
theorem dX11_want_8 : decode cX11_want 8 = .ok (.iconst 0, 1) := by decide +kernel
theorem dX11_want_9 : decode cX11_want 9 = .ok (.ldc 82, 2) := by decide +kernel
theorem dX11_want_11 : decode cX11_want 11 = .ok (.invokestatic 71, 3) := by decide +kernel
theorem dX11_want_14 : decode cX11_want 14 = .ok (.ifCond .ne 9, 3) := by decide +kernel
theorem dX11_want_17 : decode cX11_want 17 = .ok (.aload_n 0, 1) := by decide +kernel
theorem dX11_want_18 : decode cX11_want 18 = .ok (.iconst (-1), 1) := by decide +kernel
theorem dX11_want_19 : decode cX11_want 19 = .ok (.invokevirtual 75, 3) := by decide +kernel
theorem dX11_want_22 : decode cX11_want 22 = .ok (.ireturn, 1) := by decide +kernel
theorem dX11_want_23 : decode cX11_want 23 = .ok (.aload_n 0, 1) := by decide +kernel
theorem dX11_want_24 : decode cX11_want 24 = .ok (.iload_n 1, 1) := by decide +kernel
theorem dX11_want_25 : decode cX11_want 25 = .ok (.invokevirtual 110, 3) := by decide +kernel
theorem dX11_want_28 : decode cX11_want 28 = .ok (.astore 4, 2) := by decide +kernel
theorem dX11_want_30 : decode cX11_want 30 = .ok (.aload 4, 2) := by decide +kernel
theorem dX11_want_32 : decode cX11_want 32 = .ok (.ifnonnull 10, 3) := by decide +kernel
theorem dX11_want_35 : decode cX11_want 35 = .ok (.aload_n 0, 1) := by decide +kernel
theorem dX11_want_36 : decode cX11_want 36 = .ok (.bipush (-2), 2) := by decide +kernel
theorem dX11_want_38 : decode cX11_want 38 = .ok (.invokevirtual 75, 3) := by decide +kernel
theorem dX11_want_41 : decode cX11_want 41 = .ok (.ireturn, 1) := by decide +kernel
theorem dX11_want_42 : decode cX11_want 42 = .ok (.aload 4, 2) := by decide +kernel
theorem dX11_want_44 : decode cX11_want 44 = .ok (.getfield 172, 3) := by decide +kernel
theorem dX11_want_47 : decode cX11_want 47 = .ok (.iload_n 2, 1) := by decide +kernel
theorem dX11_want_48 : decode cX11_want 48 = .ok (.iaload, 1) := by decide +kernel
theorem dX11_want_49 : decode cX11_want 49 = .ok (.istore 5, 2) := by decide +kernel
theorem dX11_want_51 : decode cX11_want 51 = .ok (.aload 4, 2) := by decide +kernel
theorem dX11_want_53 : decode cX11_want 53 = .ok (.getfield 172, 3) := by decide +kernel
theorem dX11_want_56 : decode cX11_want 56 = .ok (.iload_n 2, 1) := by decide +kernel
theorem dX11_want_57 : decode cX11_want 57 = .ok (.iload_n 3, 1) := by decide +kernel
theorem dX11_want_58 : decode cX11_want 58 = .ok (.iastore, 1) := by decide +kernel
theorem dX11_want_59 : decode cX11_want 59 = .ok (.aload_n 0, 1) := by decide +kernel
theorem dX11_want_60 : decode cX11_want 60 = .ok (.iload 5, 2) := by decide +kernel
theorem dX11_want_62 : decode cX11_want 62 = .ok (.invokevirtual 79, 3) := by decide +kernel
theorem dX11_want_65 : decode cX11_want 65 = .ok (.ireturn, 1) := by decide +kernel
theorem dX11_part_0 : decode cX11_part 0 = .ok (.iload_n 1, 1) := by decide +kernel
theorem dX11_part_1 : decode cX11_part 1 = .ok (.invokestatic 67, 3) := by decide +kernel
theorem dX11_part_4 : decode cX11_part 4 = .ok (.ifCond .ne 9, 3) := by decide +kernel
theorem dX11_part_7 : decode cX11_part 7 = .ok (.aload_n 0, 1) := by decide +kernel
theorem dX11_part_8 : decode cX11_part 8 = .ok (.iconst (-1), 1) := by decide +kernel
theorem dX11_part_9 : decode cX11_part 9 = .ok (.invokevirtual 75, 3) := by decide +kernel
theorem dX11_part_12 : decode cX11_part 12 = .ok (.ireturn, 1) := by decide +kernel
theorem dX11_part_13 : decode cX11_part 13 = .ok (.aload_n 0, 1) := by decide +kernel
theorem dX11_part_14 : decode cX11_part 14 = .ok (.iload_n 1, 1) := by decide +kernel
theorem dX11_part_15 : decode cX11_part 15 = .ok (.invokevirtual 175, 3) := by decide +kernel
theorem dX11_part_18 : decode cX11_part 18 = .ok (.istore_n 2, 1) := by decide +kernel
theorem dX11_part_19 : decode cX11_part 19 = .ok (.aload_n 0, 1) := by decide +kernel
theorem dX11_part_20 : decode cX11_part 20 = .ok (.getfield 16, 3) := by decide +kernel
theorem dX11_part_23 : decode cX11_part 23 = .ok (.iload_n 1, 1) := by decide +kernel
theorem dX11_part_24 : decode cX11_part 24 = .ok (.iload_n 2, 1) := by decide +kernel
theorem dX11_part_25 : decode cX11_part 25 = .ok (.invokevirtual 178, 3) := by decide +kernel
theorem dX11_part_28 : decode cX11_part 28 = .ok (.istore_n 3, 1) := by decide +kernel
theorem dX11_part_29 : decode cX11_part 29 = .ok (.aload_n 0, 1) := by decide +kernel
theorem dX11_part_30 : decode cX11_part 30 = .ok (.iload_n 1, 1) := by decide +kernel
theorem dX11_part_31 : decode cX11_part 31 = .ok (.iload_n 3, 1) := by decide +kernel
theorem dX11_part_32 : decode cX11_part 32 = .ok (.invokevirtual 181, 3) := by decide +kernel
theorem dX11_part_35 : decode cX11_part 35 = .ok (.istore 4, 2) := by decide +kernel
theorem dX11_part_37 : decode cX11_part 37 = .ok (.aload_n 0, 1) := by decide +kernel
theorem dX11_part_38 : decode cX11_part 38 = .ok (.iload_n 1, 1) := by decide +kernel
theorem dX11_part_39 : decode cX11_part 39 = .ok (.iload 4, 2) := by decide +kernel
theorem dX11_part_41 : decode cX11_part 41 = .ok (.iload_n 3, 1) := by decide +kernel
theorem dX11_part_42 : decode cX11_part 42 = .ok (.aload_n 0, 1) := by decide +kernel
theorem dX11_part_43 : decode cX11_part 43 = .ok (.iload_n 1, 1) := by decide +kernel
theorem dX11_part_44 : decode cX11_part 44 = .ok (.iload 4, 2) := by decide +kernel
theorem dX11_part_46 : decode cX11_part 46 = .ok (.invokevirtual 184, 3) := by decide +kernel
theorem dX11_part_49 : decode cX11_part 49 = .ok (.isub, 1) := by decide +kernel
theorem dX11_part_50 : decode cX11_part 50 = .ok (.invokevirtual 187, 3) := by decide +kernel
theorem dX11_part_53 : decode cX11_part 53 = .ok (.istore 5, 2) := by decide +kernel
theorem dX11_part_55 : decode cX11_part 55 = .ok (.iload 5, 2) := by decide +kernel
theorem dX11_part_57 : decode cX11_part 57 = .ok (.ifCond .ne 10, 3) := by decide +kernel
theorem dX11_part_60 : decode cX11_part 60 = .ok (.aload_n 0, 1) := by decide +kernel
theorem dX11_part_61 : decode cX11_part 61 = .ok (.bipush (-4), 2) := by decide +kernel
theorem dX11_part_63 : decode cX11_part 63 = .ok (.invokevirtual 75, 3) := by decide +kernel
theorem dX11_part_66 : decode cX11_part 66 = .ok (.ireturn, 1) := by decide +kernel
theorem dX11_part_67 : decode cX11_part 67 = .ok (.aload_n 0, 1) := by decide +kernel
theorem dX11_part_68 : decode cX11_part 68 = .ok (.getfield 16, 3) := by decide +kernel
theorem dX11_part_71 : decode cX11_part 71 = .ok (.iload_n 1, 1) := by decide +kernel
theorem dX11_part_72 : decode cX11_part 72 = .ok (.iload_n 2, 1) := by decide +kernel
theorem dX11_part_73 : decode cX11_part 73 = .ok (.iload 5, 2) := by decide +kernel
theorem dX11_part_75 : decode cX11_part 75 = .ok (.invokevirtual 191, 3) := by decide +kernel
theorem dX11_part_78 : decode cX11_part 78 = .ok (.aload_n 0, 1) := by decide +kernel
theorem dX11_part_79 : decode cX11_part 79 = .ok (.iload 5, 2) := by decide +kernel
theorem dX11_part_81 : decode cX11_part 81 = .ok (.invokevirtual 79, 3) := by decide +kernel
theorem dX11_part_84 : decode cX11_part 84 = .ok (.ireturn, 1) := by decide +kernel
theorem dX11_got_0 : decode cX11_got 0 = .ok (.aload_n 0, 1) := by decide +kernel
theorem dX11_got_1 : decode cX11_got 1 = .ok (.iload_n 1, 1) := by decide +kernel
theorem dX11_got_2 : decode cX11_got 2 = .ok (.invokevirtual 110, 3) := by decide +kernel
theorem dX11_got_5 : decode cX11_got 5 = .ok (.astore_n 3, 1) := by decide +kernel
theorem dX11_got_6 : decode cX11_got 6 = .ok (.aload_n 3, 1) := by decide +kernel
theorem dX11_got_7 : decode cX11_got 7 = .ok (.ifnull 10, 3) := by decide +kernel
theorem dX11_got_10 : decode cX11_got 10 = .ok (.iload_n 2, 1) := by decide +kernel
theorem dX11_got_11 : decode cX11_got 11 = .ok (.invokestatic 67, 3) := by decide +kernel
theorem dX11_got_14 : decode cX11_got 14 = .ok (.ifCond .ne 7, 3) := by decide +kernel
theorem dX11_got_17 : decode cX11_got 17 = .ok (.iconst (-1), 1) := by decide +kernel
theorem dX11_got_18 : decode cX11_got 18 = .ok (.goto 9, 3) := by decide +kernel
theorem dX11_got_21 : decode cX11_got 21 = .ok (.aload_n 3, 1) := by decide +kernel
theorem dX11_got_22 : decode cX11_got 22 = .ok (.getfield 195, 3) := by decide +kernel
theorem dX11_got_25 : decode cX11_got 25 = .ok (.iload_n 2, 1) := by decide +kernel
theorem dX11_got_26 : decode cX11_got 26 = .ok (.iaload, 1) := by decide +kernel
theorem dX11_got_27 : decode cX11_got 27 = .ok (.ireturn, 1) := by decide +kernel
theorem dX11_road_0 : decode cX11_road 0 = .ok (.iload_n 1, 1) := by decide +kernel
theorem dX11_road_1 : decode cX11_road 1 = .ok (.iconst 0, 1) := by decide +kernel
theorem dX11_road_2 : decode cX11_road 2 = .ok (.bipush 12, 2) := by decide +kernel
theorem dX11_road_4 : decode cX11_road 4 = .ok (.invokestatic 71, 3) := by decide +kernel
theorem dX11_road_7 : decode cX11_road 7 = .ok (.ifCond .eq 29, 3) := by decide +kernel
theorem dX11_road_10 : decode cX11_road 10 = .ok (.iload_n 2, 1) := by decide +kernel
theorem dX11_road_11 : decode cX11_road 11 = .ok (.iconst 0, 1) := by decide +kernel
theorem dX11_road_12 : decode cX11_road 12 = .ok (.bipush 12, 2) := by decide +kernel
theorem dX11_road_14 : decode cX11_road 14 = .ok (.invokestatic 71, 3) := by decide +kernel
theorem dX11_road_17 : decode cX11_road 17 = .ok (.ifCond .eq 19, 3) := by decide +kernel
theorem dX11_road_20 : decode cX11_road 20 = .ok (.iload_n 1, 1) := by decide +kernel
theorem dX11_road_21 : decode cX11_road 21 = .ok (.iload_n 2, 1) := by decide +kernel
theorem dX11_road_22 : decode cX11_road 22 = .ok (.if_icmp .eq 14, 3) := by decide +kernel
theorem dX11_road_25 : decode cX11_road 25 = .ok (.iload_n 3, 1) := by decide +kernel
theorem dX11_road_26 : decode cX11_road 26 = .ok (.iconst 0, 1) := by decide +kernel
theorem dX11_road_27 : decode cX11_road 27 = .ok (.sipush 600, 3) := by decide +kernel
theorem dX11_road_30 : decode cX11_road 30 = .ok (.invokestatic 71, 3) := by decide +kernel
theorem dX11_road_33 : decode cX11_road 33 = .ok (.ifCond .ne 9, 3) := by decide +kernel
theorem dX11_road_36 : decode cX11_road 36 = .ok (.aload_n 0, 1) := by decide +kernel
theorem dX11_road_37 : decode cX11_road 37 = .ok (.iconst (-1), 1) := by decide +kernel
theorem dX11_road_38 : decode cX11_road 38 = .ok (.invokevirtual 75, 3) := by decide +kernel
theorem dX11_road_41 : decode cX11_road 41 = .ok (.ireturn, 1) := by decide +kernel
theorem dX11_road_42 : decode cX11_road 42 = .ok (.aload_n 0, 1) := by decide +kernel
theorem dX11_road_43 : decode cX11_road 43 = .ok (.getfield 43, 3) := by decide +kernel
theorem dX11_road_46 : decode cX11_road 46 = .ok (.getfield 198, 3) := by decide +kernel
theorem dX11_road_49 : decode cX11_road 49 = .ok (.iload_n 1, 1) := by decide +kernel
theorem dX11_road_50 : decode cX11_road 50 = .ok (.aaload, 1) := by decide +kernel
theorem dX11_road_51 : decode cX11_road 51 = .ok (.iload_n 2, 1) := by decide +kernel
theorem dX11_road_52 : decode cX11_road 52 = .ok (.iload_n 3, 1) := by decide +kernel
theorem dX11_road_53 : decode cX11_road 53 = .ok (.iastore, 1) := by decide +kernel
theorem dX11_road_54 : decode cX11_road 54 = .ok (.aload_n 0, 1) := by decide +kernel
theorem dX11_road_55 : decode cX11_road 55 = .ok (.getfield 43, 3) := by decide +kernel
theorem dX11_road_58 : decode cX11_road 58 = .ok (.getfield 198, 3) := by decide +kernel
theorem dX11_road_61 : decode cX11_road 61 = .ok (.iload_n 2, 1) := by decide +kernel
theorem dX11_road_62 : decode cX11_road 62 = .ok (.aaload, 1) := by decide +kernel
theorem dX11_road_63 : decode cX11_road 63 = .ok (.iload_n 1, 1) := by decide +kernel
theorem dX11_road_64 : decode cX11_road 64 = .ok (.iload_n 3, 1) := by decide +kernel
theorem dX11_road_65 : decode cX11_road 65 = .ok (.iastore, 1) := by decide +kernel
theorem dX11_road_66 : decode cX11_road 66 = .ok (.aload_n 0, 1) := by decide +kernel
theorem dX11_road_67 : decode cX11_road 67 = .ok (.iconst 0, 1) := by decide +kernel
theorem dX11_road_68 : decode cX11_road 68 = .ok (.invokevirtual 79, 3) := by decide +kernel
theorem dX11_road_71 : decode cX11_road 71 = .ok (.ireturn, 1) := by decide +kernel
theorem dX11_load_0 : decode cX11_load 0 = .ok (.iload_n 2, 1) := by decide +kernel
theorem dX11_load_1 : decode cX11_load 1 = .ok (.iconst 0, 1) := by decide +kernel
theorem dX11_load_2 : decode cX11_load 2 = .ok (.ldc 82, 2) := by decide +kernel
theorem dX11_load_4 : decode cX11_load 4 = .ok (.invokestatic 71, 3) := by decide +kernel
theorem dX11_load_7 : decode cX11_load 7 = .ok (.ifCond .ne 9, 3) := by decide +kernel
theorem dX11_load_10 : decode cX11_load 10 = .ok (.aload_n 0, 1) := by decide +kernel
theorem dX11_load_11 : decode cX11_load 11 = .ok (.iconst (-1), 1) := by decide +kernel
theorem dX11_load_12 : decode cX11_load 12 = .ok (.invokevirtual 75, 3) := by decide +kernel
theorem dX11_load_15 : decode cX11_load 15 = .ok (.ireturn, 1) := by decide +kernel
theorem dX11_load_16 : decode cX11_load 16 = .ok (.aload_n 0, 1) := by decide +kernel
theorem dX11_load_17 : decode cX11_load 17 = .ok (.iload_n 1, 1) := by decide +kernel
theorem dX11_load_18 : decode cX11_load 18 = .ok (.invokevirtual 110, 3) := by decide +kernel
theorem dX11_load_21 : decode cX11_load 21 = .ok (.astore_n 3, 1) := by decide +kernel
theorem dX11_load_22 : decode cX11_load 22 = .ok (.aload_n 3, 1) := by decide +kernel
theorem dX11_load_23 : decode cX11_load 23 = .ok (.ifnonnull 10, 3) := by decide +kernel
theorem dX11_load_26 : decode cX11_load 26 = .ok (.aload_n 0, 1) := by decide +kernel
theorem dX11_load_27 : decode cX11_load 27 = .ok (.bipush (-2), 2) := by decide +kernel
theorem dX11_load_29 : decode cX11_load 29 = .ok (.invokevirtual 75, 3) := by decide +kernel
theorem dX11_load_32 : decode cX11_load 32 = .ok (.ireturn, 1) := by decide +kernel
theorem dX11_load_33 : decode cX11_load 33 = .ok (.iload_n 2, 1) := by decide +kernel
theorem dX11_load_34 : decode cX11_load 34 = .ok (.ifCond .le 26, 3) := by decide +kernel
theorem dX11_load_37 : decode cX11_load 37 = .ok (.aload_n 3, 1) := by decide +kernel
theorem dX11_load_38 : decode cX11_load 38 = .ok (.getfield 202, 3) := by decide +kernel
theorem dX11_load_41 : decode cX11_load 41 = .ok (.ifCond .ne 19, 3) := by decide +kernel
theorem dX11_load_44 : decode cX11_load 44 = .ok (.aload_n 0, 1) := by decide +kernel
theorem dX11_load_45 : decode cX11_load 45 = .ok (.invokevirtual 205, 3) := by decide +kernel
theorem dX11_load_48 : decode cX11_load 48 = .ok (.bipush 8, 2) := by decide +kernel
theorem dX11_load_50 : decode cX11_load 50 = .ok (.if_icmp .lt 10, 3) := by decide +kernel
theorem dX11_load_53 : decode cX11_load 53 = .ok (.aload_n 0, 1) := by decide +kernel
theorem dX11_load_54 : decode cX11_load 54 = .ok (.bipush (-5), 2) := by decide +kernel
theorem dX11_load_56 : decode cX11_load 56 = .ok (.invokevirtual 75, 3) := by decide +kernel
theorem dX11_load_59 : decode cX11_load 59 = .ok (.ireturn, 1) := by decide +kernel
theorem dX11_load_60 : decode cX11_load 60 = .ok (.aload_n 3, 1) := by decide +kernel
theorem dX11_load_61 : decode cX11_load 61 = .ok (.iload_n 2, 1) := by decide +kernel
theorem dX11_load_62 : decode cX11_load 62 = .ok (.putfield 202, 3) := by decide +kernel
theorem dX11_load_65 : decode cX11_load 65 = .ok (.aload_n 0, 1) := by decide +kernel
theorem dX11_load_66 : decode cX11_load 66 = .ok (.aload_n 0, 1) := by decide +kernel
theorem dX11_load_67 : decode cX11_load 67 = .ok (.invokevirtual 205, 3) := by decide +kernel
theorem dX11_load_70 : decode cX11_load 70 = .ok (.invokevirtual 79, 3) := by decide +kernel
theorem dX11_load_73 : decode cX11_load 73 = .ok (.ireturn, 1) := by decide +kernel
theorem dX11_rounds_0 : decode cX11_rounds 0 = .ok (.iload_n 1, 1) := by decide +kernel
theorem dX11_rounds_1 : decode cX11_rounds 1 = .ok (.iconst 1, 1) := by decide +kernel
theorem dX11_rounds_2 : decode cX11_rounds 2 = .ok (.ldc 208, 2) := by decide +kernel
theorem dX11_rounds_4 : decode cX11_rounds 4 = .ok (.invokestatic 71, 3) := by decide +kernel
theorem dX11_rounds_7 : decode cX11_rounds 7 = .ok (.ifCond .ne 9, 3) := by decide +kernel
theorem dX11_rounds_10 : decode cX11_rounds 10 = .ok (.aload_n 0, 1) := by decide +kernel
theorem dX11_rounds_11 : decode cX11_rounds 11 = .ok (.iconst (-1), 1) := by decide +kernel
theorem dX11_rounds_12 : decode cX11_rounds 12 = .ok (.invokevirtual 75, 3) := by decide +kernel
theorem dX11_rounds_15 : decode cX11_rounds 15 = .ok (.ireturn, 1) := by decide +kernel
theorem dX11_rounds_16 : decode cX11_rounds 16 = .ok (.aload_n 0, 1) := by decide +kernel
theorem dX11_rounds_17 : decode cX11_rounds 17 = .ok (.invokevirtual 209, 3) := by decide +kernel
theorem dX11_rounds_20 : decode cX11_rounds 20 = .ok (.istore_n 2, 1) := by decide +kernel
theorem dX11_rounds_21 : decode cX11_rounds 21 = .ok (.iload_n 2, 1) := by decide +kernel
theorem dX11_rounds_22 : decode cX11_rounds 22 = .ok (.ifCond .ne 10, 3) := by decide +kernel
theorem dX11_rounds_25 : decode cX11_rounds 25 = .ok (.aload_n 0, 1) := by decide +kernel
theorem dX11_rounds_26 : decode cX11_rounds 26 = .ok (.bipush (-4), 2) := by decide +kernel
theorem dX11_rounds_28 : decode cX11_rounds 28 = .ok (.invokevirtual 75, 3) := by decide +kernel
theorem dX11_rounds_31 : decode cX11_rounds 31 = .ok (.ireturn, 1) := by decide +kernel
theorem dX11_rounds_32 : decode cX11_rounds 32 = .ok (.iload_n 2, 1) := by decide +kernel
theorem dX11_rounds_33 : decode cX11_rounds 33 = .ok (.iload_n 1, 1) := by decide +kernel
theorem dX11_rounds_34 : decode cX11_rounds 34 = .ok (.if_icmp .le 10, 3) := by decide +kernel
theorem dX11_rounds_37 : decode cX11_rounds 37 = .ok (.aload_n 0, 1) := by decide +kernel
theorem dX11_rounds_38 : decode cX11_rounds 38 = .ok (.bipush (-5), 2) := by decide +kernel
theorem dX11_rounds_40 : decode cX11_rounds 40 = .ok (.invokevirtual 75, 3) := by decide +kernel
theorem dX11_rounds_43 : decode cX11_rounds 43 = .ok (.ireturn, 1) := by decide +kernel
theorem dX11_rounds_44 : decode cX11_rounds 44 = .ok (.aload_n 0, 1) := by decide +kernel
theorem dX11_rounds_45 : decode cX11_rounds 45 = .ok (.aload_n 0, 1) := by decide +kernel
theorem dX11_rounds_46 : decode cX11_rounds 46 = .ok (.getfield 43, 3) := by decide +kernel
theorem dX11_rounds_49 : decode cX11_rounds 49 = .ok (.aload_n 0, 1) := by decide +kernel
theorem dX11_rounds_50 : decode cX11_rounds 50 = .ok (.getfield 23, 3) := by decide +kernel
theorem dX11_rounds_53 : decode cX11_rounds 53 = .ok (.iload_n 1, 1) := by decide +kernel
theorem dX11_rounds_54 : decode cX11_rounds 54 = .ok (.invokevirtual 212, 3) := by decide +kernel
theorem dX11_rounds_57 : decode cX11_rounds 57 = .ok (.invokevirtual 79, 3) := by decide +kernel
theorem dX11_rounds_60 : decode cX11_rounds 60 = .ok (.ireturn, 1) := by decide +kernel
theorem dX11_stop_0 : decode cX11_stop 0 = .ok (.aload_n 0, 1) := by decide +kernel
theorem dX11_stop_1 : decode cX11_stop 1 = .ok (.getfield 43, 3) := by decide +kernel
theorem dX11_stop_4 : decode cX11_stop 4 = .ok (.iload_n 1, 1) := by decide +kernel
theorem dX11_stop_5 : decode cX11_stop 5 = .ok (.invokevirtual 216, 3) := by decide +kernel
theorem dX11_stop_8 : decode cX11_stop 8 = .ok (.ireturn, 1) := by decide +kernel
theorem dX11_feed_0 : decode cX11_feed 0 = .ok (.aload_n 0, 1) := by decide +kernel
theorem dX11_feed_1 : decode cX11_feed 1 = .ok (.getfield 36, 3) := by decide +kernel
theorem dX11_feed_4 : decode cX11_feed 4 = .ok (.getfield 219, 3) := by decide +kernel
theorem dX11_feed_7 : decode cX11_feed 7 = .ok (.bipush 20, 2) := by decide +kernel
theorem dX11_feed_9 : decode cX11_feed 9 = .ok (.iadd, 1) := by decide +kernel
theorem dX11_feed_10 : decode cX11_feed 10 = .ok (.sipush 400, 3) := by decide +kernel
theorem dX11_feed_13 : decode cX11_feed 13 = .ok (.if_icmp .le 5, 3) := by decide +kernel
theorem dX11_feed_16 : decode cX11_feed 16 = .ok (.iconst (-1), 1) := by decide +kernel
theorem dX11_feed_17 : decode cX11_feed 17 = .ok (.ireturn, 1) := by decide +kernel
theorem dX11_feed_18 : decode cX11_feed 18 = .ok (.aload_n 0, 1) := by decide +kernel
theorem dX11_feed_19 : decode cX11_feed 19 = .ok (.getfield 36, 3) := by decide +kernel
theorem dX11_feed_22 : decode cX11_feed 22 = .ok (.iload_n 1, 1) := by decide +kernel
theorem dX11_feed_23 : decode cX11_feed 23 = .ok (.invokevirtual 222, 3) := by decide +kernel
theorem dX11_feed_26 : decode cX11_feed 26 = .ok (.aload_n 0, 1) := by decide +kernel
theorem dX11_feed_27 : decode cX11_feed 27 = .ok (.getfield 36, 3) := by decide +kernel
theorem dX11_feed_30 : decode cX11_feed 30 = .ok (.iload_n 2, 1) := by decide +kernel
theorem dX11_feed_31 : decode cX11_feed 31 = .ok (.invokevirtual 222, 3) := by decide +kernel
theorem dX11_feed_34 : decode cX11_feed 34 = .ok (.aload_n 0, 1) := by decide +kernel
theorem dX11_feed_35 : decode cX11_feed 35 = .ok (.getfield 36, 3) := by decide +kernel
theorem dX11_feed_38 : decode cX11_feed 38 = .ok (.iload_n 3, 1) := by decide +kernel
theorem dX11_feed_39 : decode cX11_feed 39 = .ok (.invokevirtual 222, 3) := by decide +kernel
theorem dX11_feed_42 : decode cX11_feed 42 = .ok (.aload_n 0, 1) := by decide +kernel
theorem dX11_feed_43 : decode cX11_feed 43 = .ok (.getfield 36, 3) := by decide +kernel
theorem dX11_feed_46 : decode cX11_feed 46 = .ok (.iload 4, 2) := by decide +kernel
theorem dX11_feed_48 : decode cX11_feed 48 = .ok (.invokevirtual 222, 3) := by decide +kernel
theorem dX11_feed_51 : decode cX11_feed 51 = .ok (.aload_n 0, 1) := by decide +kernel
theorem dX11_feed_52 : decode cX11_feed 52 = .ok (.getfield 36, 3) := by decide +kernel
theorem dX11_feed_55 : decode cX11_feed 55 = .ok (.iload 5, 2) := by decide +kernel
theorem dX11_feed_57 : decode cX11_feed 57 = .ok (.invokevirtual 222, 3) := by decide +kernel
theorem dX11_feed_60 : decode cX11_feed 60 = .ok (.aload_n 0, 1) := by decide +kernel
theorem dX11_feed_61 : decode cX11_feed 61 = .ok (.getfield 36, 3) := by decide +kernel
theorem dX11_feed_64 : decode cX11_feed 64 = .ok (.getfield 219, 3) := by decide +kernel
theorem dX11_feed_67 : decode cX11_feed 67 = .ok (.ireturn, 1) := by decide +kernel
theorem dX11_end_0 : decode cX11_end 0 = .ok (.iload_n 1, 1) := by decide +kernel
theorem dX11_end_1 : decode cX11_end 1 = .ok (.iconst 0, 1) := by decide +kernel
theorem dX11_end_2 : decode cX11_end 2 = .ok (.aload_n 0, 1) := by decide +kernel
theorem dX11_end_3 : decode cX11_end 3 = .ok (.getfield 36, 3) := by decide +kernel
theorem dX11_end_6 : decode cX11_end 6 = .ok (.getfield 219, 3) := by decide +kernel
theorem dX11_end_9 : decode cX11_end 9 = .ok (.invokestatic 71, 3) := by decide +kernel
theorem dX11_end_12 : decode cX11_end 12 = .ok (.ifCond .ne 5, 3) := by decide +kernel
theorem dX11_end_15 : decode cX11_end 15 = .ok (.iconst (-1), 1) := by decide +kernel
theorem dX11_end_16 : decode cX11_end 16 = .ok (.ireturn, 1) := by decide +kernel
theorem dX11_end_17 : decode cX11_end 17 = .ok (.aload_n 0, 1) := by decide +kernel
theorem dX11_end_18 : decode cX11_end 18 = .ok (.getfield 36, 3) := by decide +kernel
theorem dX11_end_21 : decode cX11_end 21 = .ok (.iload_n 1, 1) := by decide +kernel
theorem dX11_end_22 : decode cX11_end 22 = .ok (.putfield 219, 3) := by decide +kernel
theorem dX11_end_25 : decode cX11_end 25 = .ok (.iload_n 1, 1) := by decide +kernel
theorem dX11_end_26 : decode cX11_end 26 = .ok (.ireturn, 1) := by decide +kernel
theorem dX11_rules_0 : decode cX11_rules 0 = .ok (.aload_n 0, 1) := by decide +kernel
theorem dX11_rules_1 : decode cX11_rules 1 = .ok (.getfield 36, 3) := by decide +kernel
theorem dX11_rules_4 : decode cX11_rules 4 = .ok (.invokevirtual 225, 3) := by decide +kernel
theorem dX11_rules_7 : decode cX11_rules 7 = .ok (.istore_n 1, 1) := by decide +kernel
theorem dX11_rules_8 : decode cX11_rules 8 = .ok (.aload_n 0, 1) := by decide +kernel
theorem dX11_rules_9 : decode cX11_rules 9 = .ok (.getfield 36, 3) := by decide +kernel
theorem dX11_rules_12 : decode cX11_rules 12 = .ok (.iload_n 1, 1) := by decide +kernel
theorem dX11_rules_13 : decode cX11_rules 13 = .ok (.invokevirtual 228, 3) := by decide +kernel
theorem dX11_rules_16 : decode cX11_rules 16 = .ok (.iload_n 1, 1) := by decide +kernel
theorem dX11_rules_17 : decode cX11_rules 17 = .ok (.ifCond .ne 10, 3) := by decide +kernel
theorem dX11_rules_20 : decode cX11_rules 20 = .ok (.aload_n 0, 1) := by decide +kernel
theorem dX11_rules_21 : decode cX11_rules 21 = .ok (.bipush (-6), 2) := by decide +kernel
theorem dX11_rules_23 : decode cX11_rules 23 = .ok (.invokevirtual 75, 3) := by decide +kernel
theorem dX11_rules_26 : decode cX11_rules 26 = .ok (.ireturn, 1) := by decide +kernel
theorem dX11_rules_27 : decode cX11_rules 27 = .ok (.aload_n 0, 1) := by decide +kernel
theorem dX11_rules_28 : decode cX11_rules 28 = .ok (.aload_n 0, 1) := by decide +kernel
theorem dX11_rules_29 : decode cX11_rules 29 = .ok (.getfield 36, 3) := by decide +kernel
theorem dX11_rules_32 : decode cX11_rules 32 = .ok (.aload_n 0, 1) := by decide +kernel
theorem dX11_rules_33 : decode cX11_rules 33 = .ok (.getfield 50, 3) := by decide +kernel
theorem dX11_rules_36 : decode cX11_rules 36 = .ok (.invokevirtual 232, 3) := by decide +kernel
theorem dX11_rules_39 : decode cX11_rules 39 = .ok (.putfield 50, 3) := by decide +kernel
theorem dX11_rules_42 : decode cX11_rules 42 = .ok (.aload_n 0, 1) := by decide +kernel
theorem dX11_rules_43 : decode cX11_rules 43 = .ok (.aload_n 0, 1) := by decide +kernel
theorem dX11_rules_44 : decode cX11_rules 44 = .ok (.getfield 50, 3) := by decide +kernel
theorem dX11_rules_47 : decode cX11_rules 47 = .ok (.getfield 236, 3) := by decide +kernel
theorem dX11_rules_50 : decode cX11_rules 50 = .ok (.invokevirtual 79, 3) := by decide +kernel
theorem dX11_rules_53 : decode cX11_rules 53 = .ok (.ireturn, 1) := by decide +kernel
theorem dX11_fault_0 : decode cX11_fault 0 = .ok (.aload_n 0, 1) := by decide +kernel
theorem dX11_fault_1 : decode cX11_fault 1 = .ok (.getfield 36, 3) := by decide +kernel
theorem dX11_fault_4 : decode cX11_fault 4 = .ok (.getfield 238, 3) := by decide +kernel
theorem dX11_fault_7 : decode cX11_fault 7 = .ok (.ireturn, 1) := by decide +kernel
theorem dX11_weigh_0 : decode cX11_weigh 0 = .ok (.iload_n 2, 1) := by decide +kernel
theorem dX11_weigh_1 : decode cX11_weigh 1 = .ok (.iconst 0, 1) := by decide +kernel
theorem dX11_weigh_2 : decode cX11_weigh 2 = .ok (.ldc 82, 2) := by decide +kernel
theorem dX11_weigh_4 : decode cX11_weigh 4 = .ok (.invokestatic 71, 3) := by decide +kernel
theorem dX11_weigh_7 : decode cX11_weigh 7 = .ok (.ifCond .eq 13, 3) := by decide +kernel
theorem dX11_weigh_10 : decode cX11_weigh 10 = .ok (.iload_n 3, 1) := by decide +kernel
theorem dX11_weigh_11 : decode cX11_weigh 11 = .ok (.iconst 0, 1) := by decide +kernel
theorem dX11_weigh_12 : decode cX11_weigh 12 = .ok (.ldc 241, 2) := by decide +kernel
theorem dX11_weigh_14 : decode cX11_weigh 14 = .ok (.invokestatic 71, 3) := by decide +kernel
theorem dX11_weigh_17 : decode cX11_weigh 17 = .ok (.ifCond .ne 9, 3) := by decide +kernel
theorem dX11_weigh_20 : decode cX11_weigh 20 = .ok (.aload_n 0, 1) := by decide +kernel
theorem dX11_weigh_21 : decode cX11_weigh 21 = .ok (.iconst (-1), 1) := by decide +kernel
theorem dX11_weigh_22 : decode cX11_weigh 22 = .ok (.invokevirtual 75, 3) := by decide +kernel
theorem dX11_weigh_25 : decode cX11_weigh 25 = .ok (.ireturn, 1) := by decide +kernel
theorem dX11_weigh_26 : decode cX11_weigh 26 = .ok (.aload_n 0, 1) := by decide +kernel
theorem dX11_weigh_27 : decode cX11_weigh 27 = .ok (.getfield 16, 3) := by decide +kernel
theorem dX11_weigh_30 : decode cX11_weigh 30 = .ok (.iload_n 1, 1) := by decide +kernel
theorem dX11_weigh_31 : decode cX11_weigh 31 = .ok (.invokevirtual 96, 3) := by decide +kernel
theorem dX11_weigh_34 : decode cX11_weigh 34 = .ok (.astore 4, 2) := by decide +kernel
theorem dX11_weigh_36 : decode cX11_weigh 36 = .ok (.aload 4, 2) := by decide +kernel
theorem dX11_weigh_38 : decode cX11_weigh 38 = .ok (.ifnonnull 10, 3) := by decide +kernel
theorem dX11_weigh_41 : decode cX11_weigh 41 = .ok (.aload_n 0, 1) := by decide +kernel
theorem dX11_weigh_42 : decode cX11_weigh 42 = .ok (.bipush (-2), 2) := by decide +kernel
theorem dX11_weigh_44 : decode cX11_weigh 44 = .ok (.invokevirtual 75, 3) := by decide +kernel
theorem dX11_weigh_47 : decode cX11_weigh 47 = .ok (.ireturn, 1) := by decide +kernel
theorem dX11_weigh_48 : decode cX11_weigh 48 = .ok (.aload_n 0, 1) := by decide +kernel
theorem dX11_weigh_49 : decode cX11_weigh 49 = .ok (.getfield 61, 3) := by decide +kernel
theorem dX11_weigh_52 : decode cX11_weigh 52 = .ok (.bipush 100, 2) := by decide +kernel
theorem dX11_weigh_54 : decode cX11_weigh 54 = .ok (.if_icmp .lt 10, 3) := by decide +kernel
theorem dX11_weigh_57 : decode cX11_weigh 57 = .ok (.aload_n 0, 1) := by decide +kernel
theorem dX11_weigh_58 : decode cX11_weigh 58 = .ok (.bipush (-5), 2) := by decide +kernel
theorem dX11_weigh_60 : decode cX11_weigh 60 = .ok (.invokevirtual 75, 3) := by decide +kernel
theorem dX11_weigh_63 : decode cX11_weigh 63 = .ok (.ireturn, 1) := by decide +kernel
theorem dX11_weigh_64 : decode cX11_weigh 64 = .ok (.aload 4, 2) := by decide +kernel
theorem dX11_weigh_66 : decode cX11_weigh 66 = .ok (.new 242, 3) := by decide +kernel
theorem dX11_weigh_69 : decode cX11_weigh 69 = .ok (.dup, 1) := by decide +kernel
theorem dX11_weigh_70 : decode cX11_weigh 70 = .ok (.iload_n 2, 1) := by decide +kernel
theorem dX11_weigh_71 : decode cX11_weigh 71 = .ok (.iload_n 3, 1) := by decide +kernel
theorem dX11_weigh_72 : decode cX11_weigh 72 = .ok (.aload 4, 2) := by decide +kernel
theorem dX11_weigh_74 : decode cX11_weigh 74 = .ok (.getfield 244, 3) := by decide +kernel
theorem dX11_weigh_77 : decode cX11_weigh 77 = .ok (.invokespecial 247, 3) := by decide +kernel
theorem dX11_weigh_80 : decode cX11_weigh 80 = .ok (.putfield 244, 3) := by decide +kernel
theorem dX11_weigh_83 : decode cX11_weigh 83 = .ok (.aload_n 0, 1) := by decide +kernel
theorem dX11_weigh_84 : decode cX11_weigh 84 = .ok (.dup, 1) := by decide +kernel
theorem dX11_weigh_85 : decode cX11_weigh 85 = .ok (.getfield 61, 3) := by decide +kernel
theorem dX11_weigh_88 : decode cX11_weigh 88 = .ok (.iconst 1, 1) := by decide +kernel
theorem dX11_weigh_89 : decode cX11_weigh 89 = .ok (.iadd, 1) := by decide +kernel
theorem dX11_weigh_90 : decode cX11_weigh 90 = .ok (.putfield 61, 3) := by decide +kernel
theorem dX11_weigh_93 : decode cX11_weigh 93 = .ok (.aload_n 0, 1) := by decide +kernel
theorem dX11_weigh_94 : decode cX11_weigh 94 = .ok (.aload_n 0, 1) := by decide +kernel
theorem dX11_weigh_95 : decode cX11_weigh 95 = .ok (.getfield 61, 3) := by decide +kernel
theorem dX11_weigh_98 : decode cX11_weigh 98 = .ok (.invokevirtual 79, 3) := by decide +kernel
theorem dX11_weigh_101 : decode cX11_weigh 101 = .ok (.ireturn, 1) := by decide +kernel
theorem dX11_given_0 : decode cX11_given 0 = .ok (.iload_n 1, 1) := by decide +kernel
theorem dX11_given_1 : decode cX11_given 1 = .ok (.iconst 0, 1) := by decide +kernel
theorem dX11_given_2 : decode cX11_given 2 = .ok (.bipush 19, 2) := by decide +kernel
theorem dX11_given_4 : decode cX11_given 4 = .ok (.invokestatic 71, 3) := by decide +kernel
theorem dX11_given_7 : decode cX11_given 7 = .ok (.ifCond .eq 13, 3) := by decide +kernel
theorem dX11_given_10 : decode cX11_given 10 = .ok (.iload_n 2, 1) := by decide +kernel
theorem dX11_given_11 : decode cX11_given 11 = .ok (.iconst 0, 1) := by decide +kernel
theorem dX11_given_12 : decode cX11_given 12 = .ok (.ldc 241, 2) := by decide +kernel
theorem dX11_given_14 : decode cX11_given 14 = .ok (.invokestatic 71, 3) := by decide +kernel
theorem dX11_given_17 : decode cX11_given 17 = .ok (.ifCond .ne 7, 3) := by decide +kernel
theorem dX11_given_20 : decode cX11_given 20 = .ok (.ldc2_w 250, 3) := by decide +kernel
theorem dX11_given_23 : decode cX11_given 23 = .ok (.lreturn, 1) := by decide +kernel
theorem dX11_given_24 : decode cX11_given 24 = .ok (.aload_n 0, 1) := by decide +kernel
theorem dX11_given_25 : decode cX11_given 25 = .ok (.getfield 16, 3) := by decide +kernel
theorem dX11_given_28 : decode cX11_given 28 = .ok (.iload_n 1, 1) := by decide +kernel
theorem dX11_given_29 : decode cX11_given 29 = .ok (.iload_n 2, 1) := by decide +kernel
theorem dX11_given_30 : decode cX11_given 30 = .ok (.invokevirtual 252, 3) := by decide +kernel
theorem dX11_given_33 : decode cX11_given 33 = .ok (.lreturn, 1) := by decide +kernel
theorem dX11_led_0 : decode cX11_led 0 = .ok (.aload_n 0, 1) := by decide +kernel
theorem dX11_led_1 : decode cX11_led 1 = .ok (.iload_n 2, 1) := by decide +kernel
theorem dX11_led_2 : decode cX11_led 2 = .ok (.invokevirtual 119, 3) := by decide +kernel
theorem dX11_led_5 : decode cX11_led 5 = .ok (.astore_n 3, 1) := by decide +kernel
theorem dX11_led_6 : decode cX11_led 6 = .ok (.aload_n 3, 1) := by decide +kernel
theorem dX11_led_7 : decode cX11_led 7 = .ok (.ifnull 13, 3) := by decide +kernel
theorem dX11_led_10 : decode cX11_led 10 = .ok (.iload_n 1, 1) := by decide +kernel
theorem dX11_led_11 : decode cX11_led 11 = .ok (.iconst 0, 1) := by decide +kernel
theorem dX11_led_12 : decode cX11_led 12 = .ok (.bipush 19, 2) := by decide +kernel
theorem dX11_led_14 : decode cX11_led 14 = .ok (.invokestatic 71, 3) := by decide +kernel
theorem dX11_led_17 : decode cX11_led 17 = .ok (.ifCond .ne 9, 3) := by decide +kernel
theorem dX11_led_20 : decode cX11_led 20 = .ok (.ldc2_w 250, 3) := by decide +kernel
theorem dX11_led_23 : decode cX11_led 23 = .ok (.goto 10, 3) := by decide +kernel
theorem dX11_led_26 : decode cX11_led 26 = .ok (.aload_n 3, 1) := by decide +kernel
theorem dX11_led_27 : decode cX11_led 27 = .ok (.getfield 256, 3) := by decide +kernel
theorem dX11_led_30 : decode cX11_led 30 = .ok (.iload_n 1, 1) := by decide +kernel
theorem dX11_led_31 : decode cX11_led 31 = .ok (.iaload, 1) := by decide +kernel
theorem dX11_led_32 : decode cX11_led 32 = .ok (.i2l, 1) := by decide +kernel
theorem dX11_led_33 : decode cX11_led 33 = .ok (.lreturn, 1) := by decide +kernel
theorem dX11_count_0 : decode cX11_count 0 = .ok (.iload_n 1, 1) := by decide +kernel
theorem dX11_count_1 : decode cX11_count 1 = .ok (.bipush 20, 2) := by decide +kernel
theorem dX11_count_3 : decode cX11_count 3 = .ok (.bipush 29, 2) := by decide +kernel
theorem dX11_count_5 : decode cX11_count 5 = .ok (.invokestatic 71, 3) := by decide +kernel
theorem dX11_count_8 : decode cX11_count 8 = .ok (.ifCond .eq 15, 3) := by decide +kernel
theorem dX11_count_11 : decode cX11_count 11 = .ok (.aload_n 0, 1) := by decide +kernel
theorem dX11_count_12 : decode cX11_count 12 = .ok (.getfield 16, 3) := by decide +kernel
theorem dX11_count_15 : decode cX11_count 15 = .ok (.iload_n 1, 1) := by decide +kernel
theorem dX11_count_16 : decode cX11_count 16 = .ok (.bipush 20, 2) := by decide +kernel
theorem dX11_count_18 : decode cX11_count 18 = .ok (.isub, 1) := by decide +kernel
theorem dX11_count_19 : decode cX11_count 19 = .ok (.invokevirtual 259, 3) := by decide +kernel
theorem dX11_count_22 : decode cX11_count 22 = .ok (.lreturn, 1) := by decide +kernel
theorem dX11_count_23 : decode cX11_count 23 = .ok (.iload_n 1, 1) := by decide +kernel
theorem dX11_count_24 : decode cX11_count 24 = .ok (.tableswitch 200 0 14 #[76, 82, 91, 100, 109, 115, 124, 133, 139, 148, 157, 166, 176, 186, 191], 76) := by decide +kernel
theorem dX11_count_100 : decode cX11_count 100 = .ok (.aload_n 0, 1) := by decide +kernel
theorem dX11_count_101 : decode cX11_count 101 = .ok (.getfield 54, 3) := by decide +kernel
theorem dX11_count_104 : decode cX11_count 104 = .ok (.i2l, 1) := by decide +kernel
theorem dX11_count_105 : decode cX11_count 105 = .ok (.lreturn, 1) := by decide +kernel
theorem dX11_count_106 : decode cX11_count 106 = .ok (.aload_n 0, 1) := by decide +kernel
theorem dX11_count_107 : decode cX11_count 107 = .ok (.getfield 16, 3) := by decide +kernel
theorem dX11_count_110 : decode cX11_count 110 = .ok (.invokevirtual 83, 3) := by decide +kernel
theorem dX11_count_113 : decode cX11_count 113 = .ok (.i2l, 1) := by decide +kernel
theorem dX11_count_114 : decode cX11_count 114 = .ok (.lreturn, 1) := by decide +kernel
theorem dX11_count_115 : decode cX11_count 115 = .ok (.aload_n 0, 1) := by decide +kernel
theorem dX11_count_116 : decode cX11_count 116 = .ok (.getfield 23, 3) := by decide +kernel
theorem dX11_count_119 : decode cX11_count 119 = .ok (.invokevirtual 103, 3) := by decide +kernel
theorem dX11_count_122 : decode cX11_count 122 = .ok (.i2l, 1) := by decide +kernel
theorem dX11_count_123 : decode cX11_count 123 = .ok (.lreturn, 1) := by decide +kernel
theorem dX11_count_124 : decode cX11_count 124 = .ok (.aload_n 0, 1) := by decide +kernel
theorem dX11_count_125 : decode cX11_count 125 = .ok (.getfield 27, 3) := by decide +kernel
theorem dX11_count_128 : decode cX11_count 128 = .ok (.invokevirtual 103, 3) := by decide +kernel
theorem dX11_count_131 : decode cX11_count 131 = .ok (.i2l, 1) := by decide +kernel
theorem dX11_count_132 : decode cX11_count 132 = .ok (.lreturn, 1) := by decide +kernel
theorem dX11_count_133 : decode cX11_count 133 = .ok (.aload_n 0, 1) := by decide +kernel
theorem dX11_count_134 : decode cX11_count 134 = .ok (.getfield 58, 3) := by decide +kernel
theorem dX11_count_137 : decode cX11_count 137 = .ok (.i2l, 1) := by decide +kernel
theorem dX11_count_138 : decode cX11_count 138 = .ok (.lreturn, 1) := by decide +kernel
theorem dX11_count_139 : decode cX11_count 139 = .ok (.aload_n 0, 1) := by decide +kernel
theorem dX11_count_140 : decode cX11_count 140 = .ok (.getfield 30, 3) := by decide +kernel
theorem dX11_count_143 : decode cX11_count 143 = .ok (.invokevirtual 103, 3) := by decide +kernel
theorem dX11_count_146 : decode cX11_count 146 = .ok (.i2l, 1) := by decide +kernel
theorem dX11_count_147 : decode cX11_count 147 = .ok (.lreturn, 1) := by decide +kernel
theorem dX11_count_148 : decode cX11_count 148 = .ok (.aload_n 0, 1) := by decide +kernel
theorem dX11_count_149 : decode cX11_count 149 = .ok (.getfield 50, 3) := by decide +kernel
theorem dX11_count_152 : decode cX11_count 152 = .ok (.getfield 236, 3) := by decide +kernel
theorem dX11_count_155 : decode cX11_count 155 = .ok (.i2l, 1) := by decide +kernel
theorem dX11_count_156 : decode cX11_count 156 = .ok (.lreturn, 1) := by decide +kernel
theorem dX11_count_157 : decode cX11_count 157 = .ok (.aload_n 0, 1) := by decide +kernel
theorem dX11_count_158 : decode cX11_count 158 = .ok (.getfield 61, 3) := by decide +kernel
theorem dX11_count_161 : decode cX11_count 161 = .ok (.i2l, 1) := by decide +kernel
theorem dX11_count_162 : decode cX11_count 162 = .ok (.lreturn, 1) := by decide +kernel
theorem dX11_count_163 : decode cX11_count 163 = .ok (.aload_n 0, 1) := by decide +kernel
theorem dX11_count_164 : decode cX11_count 164 = .ok (.getfield 16, 3) := by decide +kernel
theorem dX11_count_167 : decode cX11_count 167 = .ok (.iconst 1, 1) := by decide +kernel
theorem dX11_count_168 : decode cX11_count 168 = .ok (.invokevirtual 263, 3) := by decide +kernel
theorem dX11_count_171 : decode cX11_count 171 = .ok (.lreturn, 1) := by decide +kernel
theorem dX11_count_172 : decode cX11_count 172 = .ok (.aload_n 0, 1) := by decide +kernel
theorem dX11_count_173 : decode cX11_count 173 = .ok (.getfield 16, 3) := by decide +kernel
theorem dX11_count_176 : decode cX11_count 176 = .ok (.iconst 4, 1) := by decide +kernel
theorem dX11_count_177 : decode cX11_count 177 = .ok (.invokevirtual 263, 3) := by decide +kernel
theorem dX11_count_180 : decode cX11_count 180 = .ok (.lreturn, 1) := by decide +kernel
theorem dX11_count_181 : decode cX11_count 181 = .ok (.aload_n 0, 1) := by decide +kernel
theorem dX11_count_182 : decode cX11_count 182 = .ok (.getfield 16, 3) := by decide +kernel
theorem dX11_count_185 : decode cX11_count 185 = .ok (.iconst 5, 1) := by decide +kernel
theorem dX11_count_186 : decode cX11_count 186 = .ok (.invokevirtual 263, 3) := by decide +kernel
theorem dX11_count_189 : decode cX11_count 189 = .ok (.lreturn, 1) := by decide +kernel
theorem dX11_count_190 : decode cX11_count 190 = .ok (.aload_n 0, 1) := by decide +kernel
theorem dX11_count_191 : decode cX11_count 191 = .ok (.getfield 16, 3) := by decide +kernel
theorem dX11_count_194 : decode cX11_count 194 = .ok (.bipush 6, 2) := by decide +kernel
theorem dX11_count_196 : decode cX11_count 196 = .ok (.invokevirtual 263, 3) := by decide +kernel
theorem dX11_count_199 : decode cX11_count 199 = .ok (.lreturn, 1) := by decide +kernel
theorem dX11_count_200 : decode cX11_count 200 = .ok (.aload_n 0, 1) := by decide +kernel
theorem dX11_count_201 : decode cX11_count 201 = .ok (.getfield 16, 3) := by decide +kernel
theorem dX11_count_204 : decode cX11_count 204 = .ok (.bipush 7, 2) := by decide +kernel
theorem dX11_count_206 : decode cX11_count 206 = .ok (.invokevirtual 263, 3) := by decide +kernel
theorem dX11_count_209 : decode cX11_count 209 = .ok (.lreturn, 1) := by decide +kernel
theorem dX11_count_210 : decode cX11_count 210 = .ok (.aload_n 0, 1) := by decide +kernel
theorem dX11_count_211 : decode cX11_count 211 = .ok (.invokevirtual 266, 3) := by decide +kernel
theorem dX11_count_214 : decode cX11_count 214 = .ok (.lreturn, 1) := by decide +kernel
theorem dX11_count_215 : decode cX11_count 215 = .ok (.aload_n 0, 1) := by decide +kernel
theorem dX11_count_216 : decode cX11_count 216 = .ok (.getfield 36, 3) := by decide +kernel
theorem dX11_count_219 : decode cX11_count 219 = .ok (.getfield 219, 3) := by decide +kernel
theorem dX11_count_222 : decode cX11_count 222 = .ok (.i2l, 1) := by decide +kernel
theorem dX11_count_223 : decode cX11_count 223 = .ok (.lreturn, 1) := by decide +kernel
theorem dX11_count_224 : decode cX11_count 224 = .ok (.ldc2_w 250, 3) := by decide +kernel
theorem dX11_count_227 : decode cX11_count 227 = .ok (.lreturn, 1) := by decide +kernel
theorem dX11_status_0 : decode cX11_status 0 = .ok (.aload_n 0, 1) := by decide +kernel
theorem dX11_status_1 : decode cX11_status 1 = .ok (.getfield 64, 3) := by decide +kernel
theorem dX11_status_4 : decode cX11_status 4 = .ok (.ireturn, 1) := by decide +kernel
theorem dX11_refuse_0 : decode cX11_refuse 0 = .ok (.aload_n 0, 1) := by decide +kernel
theorem dX11_refuse_1 : decode cX11_refuse 1 = .ok (.iload_n 1, 1) := by decide +kernel
theorem dX11_refuse_2 : decode cX11_refuse 2 = .ok (.putfield 64, 3) := by decide +kernel
theorem dX11_refuse_5 : decode cX11_refuse 5 = .ok (.iload_n 1, 1) := by decide +kernel
theorem dX11_refuse_6 : decode cX11_refuse 6 = .ok (.ireturn, 1) := by decide +kernel
theorem dX11_accept_0 : decode cX11_accept 0 = .ok (.aload_n 0, 1) := by decide +kernel
theorem dX11_accept_1 : decode cX11_accept 1 = .ok (.iconst 0, 1) := by decide +kernel
theorem dX11_accept_2 : decode cX11_accept 2 = .ok (.putfield 64, 3) := by decide +kernel
theorem dX11_accept_5 : decode cX11_accept 5 = .ok (.iload_n 1, 1) := by decide +kernel
theorem dX11_accept_6 : decode cX11_accept 6 = .ok (.ireturn, 1) := by decide +kernel
theorem dX11_isWithin_0 : decode cX11_isWithin 0 = .ok (.iload_n 0, 1) := by decide +kernel
theorem dX11_isWithin_1 : decode cX11_isWithin 1 = .ok (.iload_n 1, 1) := by decide +kernel
theorem dX11_isWithin_2 : decode cX11_isWithin 2 = .ok (.if_icmp .lt 12, 3) := by decide +kernel
theorem dX11_isWithin_5 : decode cX11_isWithin 5 = .ok (.iload_n 0, 1) := by decide +kernel
theorem dX11_isWithin_6 : decode cX11_isWithin 6 = .ok (.iload_n 2, 1) := by decide +kernel
theorem dX11_isWithin_7 : decode cX11_isWithin 7 = .ok (.if_icmp .gt 7, 3) := by decide +kernel
theorem dX11_isWithin_10 : decode cX11_isWithin 10 = .ok (.iconst 1, 1) := by decide +kernel
theorem dX11_isWithin_11 : decode cX11_isWithin 11 = .ok (.goto 4, 3) := by decide +kernel
theorem dX11_isWithin_14 : decode cX11_isWithin 14 = .ok (.iconst 0, 1) := by decide +kernel
theorem dX11_isWithin_15 : decode cX11_isWithin 15 = .ok (.ireturn, 1) := by decide +kernel
theorem dX11_isKind_0 : decode cX11_isKind 0 = .ok (.iload_n 0, 1) := by decide +kernel
theorem dX11_isKind_1 : decode cX11_isKind 1 = .ok (.iconst 0, 1) := by decide +kernel
theorem dX11_isKind_2 : decode cX11_isKind 2 = .ok (.bipush 9, 2) := by decide +kernel
theorem dX11_isKind_4 : decode cX11_isKind 4 = .ok (.invokestatic 71, 3) := by decide +kernel
theorem dX11_isKind_7 : decode cX11_isKind 7 = .ok (.ireturn, 1) := by decide +kernel
theorem dX11_findTable_0 : decode cX11_findTable 0 = .ok (.iload_n 1, 1) := by decide +kernel
theorem dX11_findTable_1 : decode cX11_findTable 1 = .ok (.iconst 0, 1) := by decide +kernel
theorem dX11_findTable_2 : decode cX11_findTable 2 = .ok (.aload_n 0, 1) := by decide +kernel
theorem dX11_findTable_3 : decode cX11_findTable 3 = .ok (.getfield 23, 3) := by decide +kernel
theorem dX11_findTable_6 : decode cX11_findTable 6 = .ok (.invokevirtual 103, 3) := by decide +kernel
theorem dX11_findTable_9 : decode cX11_findTable 9 = .ok (.iconst 1, 1) := by decide +kernel
theorem dX11_findTable_10 : decode cX11_findTable 10 = .ok (.isub, 1) := by decide +kernel
theorem dX11_findTable_11 : decode cX11_findTable 11 = .ok (.invokestatic 71, 3) := by decide +kernel
theorem dX11_findTable_14 : decode cX11_findTable 14 = .ok (.ifCond .eq 17, 3) := by decide +kernel
theorem dX11_findTable_17 : decode cX11_findTable 17 = .ok (.aload_n 0, 1) := by decide +kernel
theorem dX11_findTable_18 : decode cX11_findTable 18 = .ok (.getfield 23, 3) := by decide +kernel
theorem dX11_findTable_21 : decode cX11_findTable 21 = .ok (.iload_n 1, 1) := by decide +kernel
theorem dX11_findTable_22 : decode cX11_findTable 22 = .ok (.invokevirtual 163, 3) := by decide +kernel
theorem dX11_findTable_25 : decode cX11_findTable 25 = .ok (.checkcast 104, 3) := by decide +kernel
theorem dX11_findTable_28 : decode cX11_findTable 28 = .ok (.goto 4, 3) := by decide +kernel
theorem dX11_findTable_31 : decode cX11_findTable 31 = .ok (.aconst_null, 1) := by decide +kernel
theorem dX11_findTable_32 : decode cX11_findTable 32 = .ok (.areturn, 1) := by decide +kernel
theorem dX11_findFamily_0 : decode cX11_findFamily 0 = .ok (.iload_n 1, 1) := by decide +kernel
theorem dX11_findFamily_1 : decode cX11_findFamily 1 = .ok (.iconst 0, 1) := by decide +kernel
theorem dX11_findFamily_2 : decode cX11_findFamily 2 = .ok (.aload_n 0, 1) := by decide +kernel
theorem dX11_findFamily_3 : decode cX11_findFamily 3 = .ok (.getfield 27, 3) := by decide +kernel
theorem dX11_findFamily_6 : decode cX11_findFamily 6 = .ok (.invokevirtual 103, 3) := by decide +kernel
theorem dX11_findFamily_9 : decode cX11_findFamily 9 = .ok (.iconst 1, 1) := by decide +kernel
theorem dX11_findFamily_10 : decode cX11_findFamily 10 = .ok (.isub, 1) := by decide +kernel
theorem dX11_findFamily_11 : decode cX11_findFamily 11 = .ok (.invokestatic 71, 3) := by decide +kernel
theorem dX11_findFamily_14 : decode cX11_findFamily 14 = .ok (.ifCond .eq 17, 3) := by decide +kernel
theorem dX11_findFamily_17 : decode cX11_findFamily 17 = .ok (.aload_n 0, 1) := by decide +kernel
theorem dX11_findFamily_18 : decode cX11_findFamily 18 = .ok (.getfield 27, 3) := by decide +kernel
theorem dX11_findFamily_21 : decode cX11_findFamily 21 = .ok (.iload_n 1, 1) := by decide +kernel
theorem dX11_findFamily_22 : decode cX11_findFamily 22 = .ok (.invokevirtual 163, 3) := by decide +kernel
theorem dX11_findFamily_25 : decode cX11_findFamily 25 = .ok (.checkcast 114, 3) := by decide +kernel
theorem dX11_findFamily_28 : decode cX11_findFamily 28 = .ok (.goto 4, 3) := by decide +kernel
theorem dX11_findFamily_31 : decode cX11_findFamily 31 = .ok (.aconst_null, 1) := by decide +kernel
theorem dX11_findFamily_32 : decode cX11_findFamily 32 = .ok (.areturn, 1) := by decide +kernel
theorem dX11_earliestLastDay_0 : decode cX11_earliestLastDay 0 = .ok (.aload_n 0, 1) := by decide +kernel
theorem dX11_earliestLastDay_1 : decode cX11_earliestLastDay 1 = .ok (.getfield 54, 3) := by decide +kernel
theorem dX11_earliestLastDay_4 : decode cX11_earliestLastDay 4 = .ok (.aload_n 0, 1) := by decide +kernel
theorem dX11_earliestLastDay_5 : decode cX11_earliestLastDay 5 = .ok (.getfield 50, 3) := by decide +kernel
theorem dX11_earliestLastDay_8 : decode cX11_earliestLastDay 8 = .ok (.iload_n 1, 1) := by decide +kernel
theorem dX11_earliestLastDay_9 : decode cX11_earliestLastDay 9 = .ok (.invokevirtual 270, 3) := by decide +kernel
theorem dX11_earliestLastDay_12 : decode cX11_earliestLastDay 12 = .ok (.iadd, 1) := by decide +kernel
theorem dX11_earliestLastDay_13 : decode cX11_earliestLastDay 13 = .ok (.ireturn, 1) := by decide +kernel
theorem dX11_pack_0 : decode cX11_pack 0 = .ok (.aload_n 0, 1) := by decide +kernel
theorem dX11_pack_1 : decode cX11_pack 1 = .ok (.getfield 50, 3) := by decide +kernel
theorem dX11_pack_4 : decode cX11_pack 4 = .ok (.iload_n 3, 1) := by decide +kernel
theorem dX11_pack_5 : decode cX11_pack 5 = .ok (.aload_n 2, 1) := by decide +kernel
theorem dX11_pack_6 : decode cX11_pack 6 = .ok (.getfield 135, 3) := by decide +kernel
theorem dX11_pack_9 : decode cX11_pack 9 = .ok (.invokevirtual 138, 3) := by decide +kernel
theorem dX11_pack_12 : decode cX11_pack 12 = .ok (.istore 4, 2) := by decide +kernel
theorem dX11_pack_14 : decode cX11_pack 14 = .ok (.iload 4, 2) := by decide +kernel
theorem dX11_pack_16 : decode cX11_pack 16 = .ok (.aload_n 0, 1) := by decide +kernel
theorem dX11_pack_17 : decode cX11_pack 17 = .ok (.aload_n 1, 1) := by decide +kernel
theorem dX11_pack_18 : decode cX11_pack 18 = .ok (.aload_n 2, 1) := by decide +kernel
theorem dX11_pack_19 : decode cX11_pack 19 = .ok (.iload_n 3, 1) := by decide +kernel
theorem dX11_pack_20 : decode cX11_pack 20 = .ok (.iload 4, 2) := by decide +kernel
theorem dX11_pack_22 : decode cX11_pack 22 = .ok (.invokevirtual 273, 3) := by decide +kernel
theorem dX11_pack_25 : decode cX11_pack 25 = .ok (.isub, 1) := by decide +kernel
theorem dX11_pack_26 : decode cX11_pack 26 = .ok (.istore 4, 2) := by decide +kernel
theorem dX11_pack_28 : decode cX11_pack 28 = .ok (.iconst 0, 1) := by decide +kernel
theorem dX11_pack_29 : decode cX11_pack 29 = .ok (.istore 5, 2) := by decide +kernel
theorem dX11_pack_31 : decode cX11_pack 31 = .ok (.iload 5, 2) := by decide +kernel
theorem dX11_pack_33 : decode cX11_pack 33 = .ok (.aload_n 0, 1) := by decide +kernel
theorem dX11_pack_34 : decode cX11_pack 34 = .ok (.getfield 50, 3) := by decide +kernel
theorem dX11_pack_37 : decode cX11_pack 37 = .ok (.getfield 236, 3) := by decide +kernel
theorem dX11_pack_40 : decode cX11_pack 40 = .ok (.if_icmp .ge 47, 3) := by decide +kernel
theorem dX11_pack_43 : decode cX11_pack 43 = .ok (.iload 4, 2) := by decide +kernel
theorem dX11_pack_45 : decode cX11_pack 45 = .ok (.ifCond .le 42, 3) := by decide +kernel
theorem dX11_pack_48 : decode cX11_pack 48 = .ok (.aload_n 0, 1) := by decide +kernel
theorem dX11_pack_49 : decode cX11_pack 49 = .ok (.getfield 50, 3) := by decide +kernel
theorem dX11_pack_52 : decode cX11_pack 52 = .ok (.iload 5, 2) := by decide +kernel
theorem dX11_pack_54 : decode cX11_pack 54 = .ok (.iload_n 3, 1) := by decide +kernel
theorem dX11_pack_55 : decode cX11_pack 55 = .ok (.invokevirtual 277, 3) := by decide +kernel
theorem dX11_pack_58 : decode cX11_pack 58 = .ok (.istore 6, 2) := by decide +kernel
theorem dX11_pack_60 : decode cX11_pack 60 = .ok (.iload 6, 2) := by decide +kernel
theorem dX11_pack_62 : decode cX11_pack 62 = .ok (.iconst (-1), 1) := by decide +kernel
theorem dX11_pack_63 : decode cX11_pack 63 = .ok (.if_icmp .eq 18, 3) := by decide +kernel
theorem dX11_pack_66 : decode cX11_pack 66 = .ok (.iload 4, 2) := by decide +kernel
theorem dX11_pack_68 : decode cX11_pack 68 = .ok (.aload_n 0, 1) := by decide +kernel
theorem dX11_pack_69 : decode cX11_pack 69 = .ok (.aload_n 1, 1) := by decide +kernel
theorem dX11_pack_70 : decode cX11_pack 70 = .ok (.aload_n 2, 1) := by decide +kernel
theorem dX11_pack_71 : decode cX11_pack 71 = .ok (.iload 6, 2) := by decide +kernel
theorem dX11_pack_73 : decode cX11_pack 73 = .ok (.iload 4, 2) := by decide +kernel
theorem dX11_pack_75 : decode cX11_pack 75 = .ok (.invokevirtual 273, 3) := by decide +kernel
theorem dX11_pack_78 : decode cX11_pack 78 = .ok (.isub, 1) := by decide +kernel
theorem dX11_pack_79 : decode cX11_pack 79 = .ok (.istore 4, 2) := by decide +kernel
theorem dX11_pack_81 : decode cX11_pack 81 = .ok (.iinc 5 1, 3) := by decide +kernel
theorem dX11_pack_84 : decode cX11_pack 84 = .ok (.goto (-53), 3) := by decide +kernel
theorem dX11_pack_87 : decode cX11_pack 87 = .ok (.aload_n 1, 1) := by decide +kernel
theorem dX11_pack_88 : decode cX11_pack 88 = .ok (.dup, 1) := by decide +kernel
theorem dX11_pack_89 : decode cX11_pack 89 = .ok (.getfield 280, 3) := by decide +kernel
theorem dX11_pack_92 : decode cX11_pack 92 = .ok (.iload 4, 2) := by decide +kernel
theorem dX11_pack_94 : decode cX11_pack 94 = .ok (.iadd, 1) := by decide +kernel
theorem dX11_pack_95 : decode cX11_pack 95 = .ok (.putfield 280, 3) := by decide +kernel
theorem dX11_pack_98 : decode cX11_pack 98 = .ok (.return_, 1) := by decide +kernel
theorem dX11_packFrom_0 : decode cX11_packFrom 0 = .ok (.iload_n 3, 1) := by decide +kernel
theorem dX11_packFrom_1 : decode cX11_packFrom 1 = .ok (.invokestatic 67, 3) := by decide +kernel
theorem dX11_packFrom_4 : decode cX11_packFrom 4 = .ok (.ifCond .eq 17, 3) := by decide +kernel
theorem dX11_packFrom_7 : decode cX11_packFrom 7 = .ok (.aload_n 0, 1) := by decide +kernel
theorem dX11_packFrom_8 : decode cX11_packFrom 8 = .ok (.getfield 9, 3) := by decide +kernel
theorem dX11_packFrom_11 : decode cX11_packFrom 11 = .ok (.iload_n 3, 1) := by decide +kernel
theorem dX11_packFrom_12 : decode cX11_packFrom 12 = .ok (.iaload, 1) := by decide +kernel
theorem dX11_packFrom_13 : decode cX11_packFrom 13 = .ok (.aload_n 2, 1) := by decide +kernel
theorem dX11_packFrom_14 : decode cX11_packFrom 14 = .ok (.getfield 283, 3) := by decide +kernel
theorem dX11_packFrom_17 : decode cX11_packFrom 17 = .ok (.iand, 1) := by decide +kernel
theorem dX11_packFrom_18 : decode cX11_packFrom 18 = .ok (.ifCond .eq 5, 3) := by decide +kernel
theorem dX11_packFrom_21 : decode cX11_packFrom 21 = .ok (.iconst 0, 1) := by decide +kernel
theorem dX11_packFrom_22 : decode cX11_packFrom 22 = .ok (.ireturn, 1) := by decide +kernel
theorem dX11_packFrom_23 : decode cX11_packFrom 23 = .ok (.aload_n 0, 1) := by decide +kernel
theorem dX11_packFrom_24 : decode cX11_packFrom 24 = .ok (.getfield 16, 3) := by decide +kernel
theorem dX11_packFrom_27 : decode cX11_packFrom 27 = .ok (.iload_n 3, 1) := by decide +kernel
theorem dX11_packFrom_28 : decode cX11_packFrom 28 = .ok (.aload_n 0, 1) := by decide +kernel
theorem dX11_packFrom_29 : decode cX11_packFrom 29 = .ok (.iload_n 3, 1) := by decide +kernel
theorem dX11_packFrom_30 : decode cX11_packFrom 30 = .ok (.invokevirtual 175, 3) := by decide +kernel
theorem dX11_packFrom_33 : decode cX11_packFrom 33 = .ok (.iload 4, 2) := by decide +kernel
theorem dX11_packFrom_35 : decode cX11_packFrom 35 = .ok (.aload_n 1, 1) := by decide +kernel
theorem dX11_packFrom_36 : decode cX11_packFrom 36 = .ok (.aload_n 2, 1) := by decide +kernel
theorem dX11_packFrom_37 : decode cX11_packFrom 37 = .ok (.invokevirtual 286, 3) := by decide +kernel
theorem dX11_packFrom_40 : decode cX11_packFrom 40 = .ok (.ireturn, 1) := by decide +kernel
theorem dX11_shortInAllParcels_0 : decode cX11_shortInAllParcels 0 = .ok (.lconst 0, 1) := by decide +kernel
theorem dX11_shortInAllParcels_1 : decode cX11_shortInAllParcels 1 = .ok (.lstore_n 1, 1) := by decide +kernel
theorem dX11_shortInAllParcels_2 : decode cX11_shortInAllParcels 2 = .ok (.iconst 0, 1) := by decide +kernel
theorem dX11_shortInAllParcels_3 : decode cX11_shortInAllParcels 3 = .ok (.istore_n 3, 1) := by decide +kernel
theorem dX11_shortInAllParcels_4 : decode cX11_shortInAllParcels 4 = .ok (.iload_n 3, 1) := by decide +kernel
theorem dX11_shortInAllParcels_5 : decode cX11_shortInAllParcels 5 = .ok (.aload_n 0, 1) := by decide +kernel
theorem dX11_shortInAllParcels_6 : decode cX11_shortInAllParcels 6 = .ok (.getfield 30, 3) := by decide +kernel
theorem dX11_shortInAllParcels_9 : decode cX11_shortInAllParcels 9 = .ok (.invokevirtual 103, 3) := by decide +kernel
theorem dX11_shortInAllParcels_12 : decode cX11_shortInAllParcels 12 = .ok (.if_icmp .ge 27, 3) := by decide +kernel
theorem dX11_shortInAllParcels_15 : decode cX11_shortInAllParcels 15 = .ok (.lload_n 1, 1) := by decide +kernel
theorem dX11_shortInAllParcels_16 : decode cX11_shortInAllParcels 16 = .ok (.aload_n 0, 1) := by decide +kernel
theorem dX11_shortInAllParcels_17 : decode cX11_shortInAllParcels 17 = .ok (.getfield 30, 3) := by decide +kernel
theorem dX11_shortInAllParcels_20 : decode cX11_shortInAllParcels 20 = .ok (.iload_n 3, 1) := by decide +kernel
theorem dX11_shortInAllParcels_21 : decode cX11_shortInAllParcels 21 = .ok (.invokevirtual 163, 3) := by decide +kernel
theorem dX11_shortInAllParcels_24 : decode cX11_shortInAllParcels 24 = .ok (.checkcast 146, 3) := by decide +kernel
theorem dX11_shortInAllParcels_27 : decode cX11_shortInAllParcels 27 = .ok (.getfield 280, 3) := by decide +kernel
theorem dX11_shortInAllParcels_30 : decode cX11_shortInAllParcels 30 = .ok (.i2l, 1) := by decide +kernel
theorem dX11_shortInAllParcels_31 : decode cX11_shortInAllParcels 31 = .ok (.ladd, 1) := by decide +kernel
theorem dX11_shortInAllParcels_32 : decode cX11_shortInAllParcels 32 = .ok (.lstore_n 1, 1) := by decide +kernel
theorem dX11_shortInAllParcels_33 : decode cX11_shortInAllParcels 33 = .ok (.iinc 3 1, 3) := by decide +kernel
theorem dX11_shortInAllParcels_36 : decode cX11_shortInAllParcels 36 = .ok (.goto (-32), 3) := by decide +kernel
theorem dX11_shortInAllParcels_39 : decode cX11_shortInAllParcels 39 = .ok (.lload_n 1, 1) := by decide +kernel
theorem dX11_shortInAllParcels_40 : decode cX11_shortInAllParcels 40 = .ok (.lreturn, 1) := by decide +kernel
theorem dX11_levelFor_0 : decode cX11_levelFor 0 = .ok (.iconst 0, 1) := by decide +kernel
theorem dX11_levelFor_1 : decode cX11_levelFor 1 = .ok (.istore_n 3, 1) := by decide +kernel
theorem dX11_levelFor_2 : decode cX11_levelFor 2 = .ok (.ldc_w 290, 3) := by decide +kernel
theorem dX11_levelFor_5 : decode cX11_levelFor 5 = .ok (.istore 4, 2) := by decide +kernel
theorem dX11_levelFor_7 : decode cX11_levelFor 7 = .ok (.iload 4, 2) := by decide +kernel
theorem dX11_levelFor_9 : decode cX11_levelFor 9 = .ok (.ifCond .le 30, 3) := by decide +kernel
theorem dX11_levelFor_12 : decode cX11_levelFor 12 = .ok (.aload_n 0, 1) := by decide +kernel
theorem dX11_levelFor_13 : decode cX11_levelFor 13 = .ok (.iload_n 1, 1) := by decide +kernel
theorem dX11_levelFor_14 : decode cX11_levelFor 14 = .ok (.iload_n 3, 1) := by decide +kernel
theorem dX11_levelFor_15 : decode cX11_levelFor 15 = .ok (.iload 4, 2) := by decide +kernel
theorem dX11_levelFor_17 : decode cX11_levelFor 17 = .ok (.iadd, 1) := by decide +kernel
theorem dX11_levelFor_18 : decode cX11_levelFor 18 = .ok (.invokevirtual 184, 3) := by decide +kernel
theorem dX11_levelFor_21 : decode cX11_levelFor 21 = .ok (.iload_n 2, 1) := by decide +kernel
theorem dX11_levelFor_22 : decode cX11_levelFor 22 = .ok (.if_icmp .gt 8, 3) := by decide +kernel
theorem dX11_levelFor_25 : decode cX11_levelFor 25 = .ok (.iload_n 3, 1) := by decide +kernel
theorem dX11_levelFor_26 : decode cX11_levelFor 26 = .ok (.iload 4, 2) := by decide +kernel
theorem dX11_levelFor_28 : decode cX11_levelFor 28 = .ok (.iadd, 1) := by decide +kernel
theorem dX11_levelFor_29 : decode cX11_levelFor 29 = .ok (.istore_n 3, 1) := by decide +kernel
theorem dX11_levelFor_30 : decode cX11_levelFor 30 = .ok (.iload 4, 2) := by decide +kernel
theorem dX11_levelFor_32 : decode cX11_levelFor 32 = .ok (.iconst 1, 1) := by decide +kernel
theorem dX11_levelFor_33 : decode cX11_levelFor 33 = .ok (.ishr, 1) := by decide +kernel
theorem dX11_levelFor_34 : decode cX11_levelFor 34 = .ok (.istore 4, 2) := by decide +kernel
theorem dX11_levelFor_36 : decode cX11_levelFor 36 = .ok (.goto (-29), 3) := by decide +kernel
theorem dX11_levelFor_39 : decode cX11_levelFor 39 = .ok (.iload_n 3, 1) := by decide +kernel
theorem dX11_levelFor_40 : decode cX11_levelFor 40 = .ok (.ireturn, 1) := by decide +kernel
theorem dX11_wantedUpTo_0 : decode cX11_wantedUpTo 0 = .ok (.iconst 0, 1) := by decide +kernel
theorem dX11_wantedUpTo_1 : decode cX11_wantedUpTo 1 = .ok (.istore_n 3, 1) := by decide +kernel
theorem dX11_wantedUpTo_2 : decode cX11_wantedUpTo 2 = .ok (.iconst 0, 1) := by decide +kernel
theorem dX11_wantedUpTo_3 : decode cX11_wantedUpTo 3 = .ok (.istore 4, 2) := by decide +kernel
theorem dX11_wantedUpTo_5 : decode cX11_wantedUpTo 5 = .ok (.iload 4, 2) := by decide +kernel
theorem dX11_wantedUpTo_7 : decode cX11_wantedUpTo 7 = .ok (.aload_n 0, 1) := by decide +kernel
theorem dX11_wantedUpTo_8 : decode cX11_wantedUpTo 8 = .ok (.getfield 23, 3) := by decide +kernel
theorem dX11_wantedUpTo_11 : decode cX11_wantedUpTo 11 = .ok (.invokevirtual 103, 3) := by decide +kernel
theorem dX11_wantedUpTo_14 : decode cX11_wantedUpTo 14 = .ok (.if_icmp .ge 33, 3) := by decide +kernel
theorem dX11_wantedUpTo_17 : decode cX11_wantedUpTo 17 = .ok (.iload_n 3, 1) := by decide +kernel
theorem dX11_wantedUpTo_18 : decode cX11_wantedUpTo 18 = .ok (.aload_n 0, 1) := by decide +kernel
theorem dX11_wantedUpTo_19 : decode cX11_wantedUpTo 19 = .ok (.getfield 23, 3) := by decide +kernel
theorem dX11_wantedUpTo_22 : decode cX11_wantedUpTo 22 = .ok (.iload 4, 2) := by decide +kernel
theorem dX11_wantedUpTo_24 : decode cX11_wantedUpTo 24 = .ok (.invokevirtual 163, 3) := by decide +kernel
theorem dX11_wantedUpTo_27 : decode cX11_wantedUpTo 27 = .ok (.checkcast 104, 3) := by decide +kernel
theorem dX11_wantedUpTo_30 : decode cX11_wantedUpTo 30 = .ok (.getfield 172, 3) := by decide +kernel
theorem dX11_wantedUpTo_33 : decode cX11_wantedUpTo 33 = .ok (.iload_n 1, 1) := by decide +kernel
theorem dX11_wantedUpTo_34 : decode cX11_wantedUpTo 34 = .ok (.iaload, 1) := by decide +kernel
theorem dX11_wantedUpTo_35 : decode cX11_wantedUpTo 35 = .ok (.iload_n 2, 1) := by decide +kernel
theorem dX11_wantedUpTo_36 : decode cX11_wantedUpTo 36 = .ok (.invokestatic 291, 3) := by decide +kernel
theorem dX11_wantedUpTo_39 : decode cX11_wantedUpTo 39 = .ok (.iadd, 1) := by decide +kernel
theorem dX11_wantedUpTo_40 : decode cX11_wantedUpTo 40 = .ok (.istore_n 3, 1) := by decide +kernel
theorem dX11_wantedUpTo_41 : decode cX11_wantedUpTo 41 = .ok (.iinc 4 1, 3) := by decide +kernel
theorem dX11_wantedUpTo_44 : decode cX11_wantedUpTo 44 = .ok (.goto (-39), 3) := by decide +kernel
theorem dX11_wantedUpTo_47 : decode cX11_wantedUpTo 47 = .ok (.iload_n 3, 1) := by decide +kernel
theorem dX11_wantedUpTo_48 : decode cX11_wantedUpTo 48 = .ok (.ireturn, 1) := by decide +kernel
theorem dX11_partAtLevel_0 : decode cX11_partAtLevel 0 = .ok (.iload_n 3, 1) := by decide +kernel
theorem dX11_partAtLevel_1 : decode cX11_partAtLevel 1 = .ok (.istore 4, 2) := by decide +kernel
theorem dX11_partAtLevel_3 : decode cX11_partAtLevel 3 = .ok (.iconst 0, 1) := by decide +kernel
theorem dX11_partAtLevel_4 : decode cX11_partAtLevel 4 = .ok (.istore 5, 2) := by decide +kernel
theorem dX11_partAtLevel_6 : decode cX11_partAtLevel 6 = .ok (.iconst 0, 1) := by decide +kernel
theorem dX11_partAtLevel_7 : decode cX11_partAtLevel 7 = .ok (.istore 6, 2) := by decide +kernel
theorem dX11_partAtLevel_9 : decode cX11_partAtLevel 9 = .ok (.iload 6, 2) := by decide +kernel
theorem dX11_partAtLevel_11 : decode cX11_partAtLevel 11 = .ok (.aload_n 0, 1) := by decide +kernel
theorem dX11_partAtLevel_12 : decode cX11_partAtLevel 12 = .ok (.getfield 23, 3) := by decide +kernel
theorem dX11_partAtLevel_15 : decode cX11_partAtLevel 15 = .ok (.invokevirtual 103, 3) := by decide +kernel
theorem dX11_partAtLevel_18 : decode cX11_partAtLevel 18 = .ok (.if_icmp .ge 89, 3) := by decide +kernel
theorem dX11_partAtLevel_21 : decode cX11_partAtLevel 21 = .ok (.aload_n 0, 1) := by decide +kernel
theorem dX11_partAtLevel_22 : decode cX11_partAtLevel 22 = .ok (.getfield 23, 3) := by decide +kernel
theorem dX11_partAtLevel_25 : decode cX11_partAtLevel 25 = .ok (.iload 6, 2) := by decide +kernel
theorem dX11_partAtLevel_27 : decode cX11_partAtLevel 27 = .ok (.invokevirtual 163, 3) := by decide +kernel
theorem dX11_partAtLevel_30 : decode cX11_partAtLevel 30 = .ok (.checkcast 104, 3) := by decide +kernel
theorem dX11_partAtLevel_33 : decode cX11_partAtLevel 33 = .ok (.astore 7, 2) := by decide +kernel
theorem dX11_partAtLevel_35 : decode cX11_partAtLevel 35 = .ok (.aload 7, 2) := by decide +kernel
theorem dX11_partAtLevel_37 : decode cX11_partAtLevel 37 = .ok (.getfield 172, 3) := by decide +kernel
theorem dX11_partAtLevel_40 : decode cX11_partAtLevel 40 = .ok (.iload_n 1, 1) := by decide +kernel
theorem dX11_partAtLevel_41 : decode cX11_partAtLevel 41 = .ok (.iaload, 1) := by decide +kernel
theorem dX11_partAtLevel_42 : decode cX11_partAtLevel 42 = .ok (.iload_n 2, 1) := by decide +kernel
theorem dX11_partAtLevel_43 : decode cX11_partAtLevel 43 = .ok (.invokestatic 291, 3) := by decide +kernel
theorem dX11_partAtLevel_46 : decode cX11_partAtLevel 46 = .ok (.istore 8, 2) := by decide +kernel
theorem dX11_partAtLevel_48 : decode cX11_partAtLevel 48 = .ok (.aload 7, 2) := by decide +kernel
theorem dX11_partAtLevel_50 : decode cX11_partAtLevel 50 = .ok (.getfield 172, 3) := by decide +kernel
theorem dX11_partAtLevel_53 : decode cX11_partAtLevel 53 = .ok (.iload_n 1, 1) := by decide +kernel
theorem dX11_partAtLevel_54 : decode cX11_partAtLevel 54 = .ok (.iaload, 1) := by decide +kernel
theorem dX11_partAtLevel_55 : decode cX11_partAtLevel 55 = .ok (.iload_n 2, 1) := by decide +kernel
theorem dX11_partAtLevel_56 : decode cX11_partAtLevel 56 = .ok (.if_icmp .le 14, 3) := by decide +kernel
theorem dX11_partAtLevel_59 : decode cX11_partAtLevel 59 = .ok (.iload 4, 2) := by decide +kernel
theorem dX11_partAtLevel_61 : decode cX11_partAtLevel 61 = .ok (.ifCond .le 9, 3) := by decide +kernel
theorem dX11_partAtLevel_64 : decode cX11_partAtLevel 64 = .ok (.iinc 8 1, 3) := by decide +kernel
theorem dX11_partAtLevel_67 : decode cX11_partAtLevel 67 = .ok (.iinc 4 (-1), 3) := by decide +kernel
theorem dX11_partAtLevel_70 : decode cX11_partAtLevel 70 = .ok (.aload 7, 2) := by decide +kernel
theorem dX11_partAtLevel_72 : decode cX11_partAtLevel 72 = .ok (.getfield 172, 3) := by decide +kernel
theorem dX11_partAtLevel_75 : decode cX11_partAtLevel 75 = .ok (.iload_n 1, 1) := by decide +kernel
theorem dX11_partAtLevel_76 : decode cX11_partAtLevel 76 = .ok (.dup2, 1) := by decide +kernel
theorem dX11_partAtLevel_77 : decode cX11_partAtLevel 77 = .ok (.iaload, 1) := by decide +kernel
theorem dX11_partAtLevel_78 : decode cX11_partAtLevel 78 = .ok (.iload 8, 2) := by decide +kernel
theorem dX11_partAtLevel_80 : decode cX11_partAtLevel 80 = .ok (.isub, 1) := by decide +kernel
theorem dX11_partAtLevel_81 : decode cX11_partAtLevel 81 = .ok (.iastore, 1) := by decide +kernel
theorem dX11_partAtLevel_82 : decode cX11_partAtLevel 82 = .ok (.aload 7, 2) := by decide +kernel
theorem dX11_partAtLevel_84 : decode cX11_partAtLevel 84 = .ok (.getfield 195, 3) := by decide +kernel
theorem dX11_partAtLevel_87 : decode cX11_partAtLevel 87 = .ok (.iload_n 1, 1) := by decide +kernel
theorem dX11_partAtLevel_88 : decode cX11_partAtLevel 88 = .ok (.dup2, 1) := by decide +kernel
theorem dX11_partAtLevel_89 : decode cX11_partAtLevel 89 = .ok (.iaload, 1) := by decide +kernel
theorem dX11_partAtLevel_90 : decode cX11_partAtLevel 90 = .ok (.iload 8, 2) := by decide +kernel
theorem dX11_partAtLevel_92 : decode cX11_partAtLevel 92 = .ok (.iadd, 1) := by decide +kernel
theorem dX11_partAtLevel_93 : decode cX11_partAtLevel 93 = .ok (.iastore, 1) := by decide +kernel
theorem dX11_partAtLevel_94 : decode cX11_partAtLevel 94 = .ok (.iload 5, 2) := by decide +kernel
theorem dX11_partAtLevel_96 : decode cX11_partAtLevel 96 = .ok (.iload 8, 2) := by decide +kernel
theorem dX11_partAtLevel_98 : decode cX11_partAtLevel 98 = .ok (.iadd, 1) := by decide +kernel
theorem dX11_partAtLevel_99 : decode cX11_partAtLevel 99 = .ok (.istore 5, 2) := by decide +kernel
theorem dX11_partAtLevel_101 : decode cX11_partAtLevel 101 = .ok (.iinc 6 1, 3) := by decide +kernel
theorem dX11_partAtLevel_104 : decode cX11_partAtLevel 104 = .ok (.goto (-95), 3) := by decide +kernel
theorem dX11_partAtLevel_107 : decode cX11_partAtLevel 107 = .ok (.iload 5, 2) := by decide +kernel
theorem dX11_partAtLevel_109 : decode cX11_partAtLevel 109 = .ok (.ireturn, 1) := by decide +kernel
theorem dX11_loads_0 : decode cX11_loads 0 = .ok (.iconst 0, 1) := by decide +kernel
theorem dX11_loads_1 : decode cX11_loads 1 = .ok (.istore_n 1, 1) := by decide +kernel
theorem dX11_loads_2 : decode cX11_loads 2 = .ok (.iconst 0, 1) := by decide +kernel
theorem dX11_loads_3 : decode cX11_loads 3 = .ok (.istore_n 2, 1) := by decide +kernel
theorem dX11_loads_4 : decode cX11_loads 4 = .ok (.iload_n 2, 1) := by decide +kernel
theorem dX11_loads_5 : decode cX11_loads 5 = .ok (.aload_n 0, 1) := by decide +kernel
theorem dX11_loads_6 : decode cX11_loads 6 = .ok (.getfield 23, 3) := by decide +kernel
theorem dX11_loads_9 : decode cX11_loads 9 = .ok (.invokevirtual 103, 3) := by decide +kernel
theorem dX11_loads_12 : decode cX11_loads 12 = .ok (.if_icmp .ge 29, 3) := by decide +kernel
theorem dX11_loads_15 : decode cX11_loads 15 = .ok (.aload_n 0, 1) := by decide +kernel
theorem dX11_loads_16 : decode cX11_loads 16 = .ok (.getfield 23, 3) := by decide +kernel
theorem dX11_loads_19 : decode cX11_loads 19 = .ok (.iload_n 2, 1) := by decide +kernel
theorem dX11_loads_20 : decode cX11_loads 20 = .ok (.invokevirtual 163, 3) := by decide +kernel
theorem dX11_loads_23 : decode cX11_loads 23 = .ok (.checkcast 104, 3) := by decide +kernel
theorem dX11_loads_26 : decode cX11_loads 26 = .ok (.getfield 202, 3) := by decide +kernel
theorem dX11_loads_29 : decode cX11_loads 29 = .ok (.ifCond .le 6, 3) := by decide +kernel
theorem dX11_loads_32 : decode cX11_loads 32 = .ok (.iinc 1 1, 3) := by decide +kernel
theorem dX11_loads_35 : decode cX11_loads 35 = .ok (.iinc 2 1, 3) := by decide +kernel
theorem dX11_loads_38 : decode cX11_loads 38 = .ok (.goto (-34), 3) := by decide +kernel
theorem dX11_loads_41 : decode cX11_loads 41 = .ok (.iload_n 1, 1) := by decide +kernel
theorem dX11_loads_42 : decode cX11_loads 42 = .ok (.ireturn, 1) := by decide +kernel
theorem dX11_heaviestLoad_0 : decode cX11_heaviestLoad 0 = .ok (.iconst 0, 1) := by decide +kernel
theorem dX11_heaviestLoad_1 : decode cX11_heaviestLoad 1 = .ok (.istore_n 1, 1) := by decide +kernel
theorem dX11_heaviestLoad_2 : decode cX11_heaviestLoad 2 = .ok (.iconst 0, 1) := by decide +kernel
theorem dX11_heaviestLoad_3 : decode cX11_heaviestLoad 3 = .ok (.istore_n 2, 1) := by decide +kernel
theorem dX11_heaviestLoad_4 : decode cX11_heaviestLoad 4 = .ok (.iload_n 2, 1) := by decide +kernel
theorem dX11_heaviestLoad_5 : decode cX11_heaviestLoad 5 = .ok (.aload_n 0, 1) := by decide +kernel
theorem dX11_heaviestLoad_6 : decode cX11_heaviestLoad 6 = .ok (.getfield 23, 3) := by decide +kernel
theorem dX11_heaviestLoad_9 : decode cX11_heaviestLoad 9 = .ok (.invokevirtual 103, 3) := by decide +kernel
theorem dX11_heaviestLoad_12 : decode cX11_heaviestLoad 12 = .ok (.if_icmp .ge 28, 3) := by decide +kernel
theorem dX11_heaviestLoad_15 : decode cX11_heaviestLoad 15 = .ok (.iload_n 1, 1) := by decide +kernel
theorem dX11_heaviestLoad_16 : decode cX11_heaviestLoad 16 = .ok (.aload_n 0, 1) := by decide +kernel
theorem dX11_heaviestLoad_17 : decode cX11_heaviestLoad 17 = .ok (.getfield 23, 3) := by decide +kernel
theorem dX11_heaviestLoad_20 : decode cX11_heaviestLoad 20 = .ok (.iload_n 2, 1) := by decide +kernel
theorem dX11_heaviestLoad_21 : decode cX11_heaviestLoad 21 = .ok (.invokevirtual 163, 3) := by decide +kernel
theorem dX11_heaviestLoad_24 : decode cX11_heaviestLoad 24 = .ok (.checkcast 104, 3) := by decide +kernel
theorem dX11_heaviestLoad_27 : decode cX11_heaviestLoad 27 = .ok (.getfield 202, 3) := by decide +kernel
theorem dX11_heaviestLoad_30 : decode cX11_heaviestLoad 30 = .ok (.invokestatic 296, 3) := by decide +kernel
theorem dX11_heaviestLoad_33 : decode cX11_heaviestLoad 33 = .ok (.istore_n 1, 1) := by decide +kernel
theorem dX11_heaviestLoad_34 : decode cX11_heaviestLoad 34 = .ok (.iinc 2 1, 3) := by decide +kernel
theorem dX11_heaviestLoad_37 : decode cX11_heaviestLoad 37 = .ok (.goto (-33), 3) := by decide +kernel
theorem dX11_heaviestLoad_40 : decode cX11_heaviestLoad 40 = .ok (.iload_n 1, 1) := by decide +kernel
theorem dX11_heaviestLoad_41 : decode cX11_heaviestLoad 41 = .ok (.ireturn, 1) := by decide +kernel
theorem dJ9_max_7cf53_0 : decode cJ9_max_7cf53 0 = .ok (.iload_n 0, 1) := by decide +kernel
theorem dJ9_max_7cf53_1 : decode cJ9_max_7cf53 1 = .ok (.iload_n 1, 1) := by decide +kernel
theorem dJ9_max_7cf53_2 : decode cJ9_max_7cf53 2 = .ok (.if_icmp .lt 7, 3) := by decide +kernel
theorem dJ9_max_7cf53_5 : decode cJ9_max_7cf53 5 = .ok (.iload_n 0, 1) := by decide +kernel
theorem dJ9_max_7cf53_6 : decode cJ9_max_7cf53 6 = .ok (.goto 4, 3) := by decide +kernel
theorem dJ9_max_7cf53_9 : decode cJ9_max_7cf53 9 = .ok (.iload_n 1, 1) := by decide +kernel
theorem dJ9_max_7cf53_10 : decode cJ9_max_7cf53 10 = .ok (.ireturn, 1) := by decide +kernel
theorem dJ9_min_7cf53_0 : decode cJ9_min_7cf53 0 = .ok (.iload_n 0, 1) := by decide +kernel
theorem dJ9_min_7cf53_1 : decode cJ9_min_7cf53 1 = .ok (.iload_n 1, 1) := by decide +kernel
theorem dJ9_min_7cf53_2 : decode cJ9_min_7cf53 2 = .ok (.if_icmp .gt 7, 3) := by decide +kernel
theorem dJ9_min_7cf53_5 : decode cJ9_min_7cf53 5 = .ok (.iload_n 0, 1) := by decide +kernel
theorem dJ9_min_7cf53_6 : decode cJ9_min_7cf53 6 = .ok (.goto 4, 3) := by decide +kernel
theorem dJ9_min_7cf53_9 : decode cJ9_min_7cf53 9 = .ok (.iload_n 1, 1) := by decide +kernel
theorem dJ9_min_7cf53_10 : decode cJ9_min_7cf53 10 = .ok (.ireturn, 1) := by decide +kernel
theorem dJ0_length_8abf5_0 : decode cJ0_length_8abf5 0 = .ok (.aload_n 0, 1) := by decide +kernel
theorem dJ0_length_8abf5_1 : decode cJ0_length_8abf5 1 = .ok (.getfield 9, 3) := by decide +kernel
theorem dJ0_length_8abf5_4 : decode cJ0_length_8abf5 4 = .ok (.arraylength, 1) := by decide +kernel
theorem dJ0_length_8abf5_5 : decode cJ0_length_8abf5 5 = .ok (.aload_n 0, 1) := by decide +kernel
theorem dJ0_length_8abf5_6 : decode cJ0_length_8abf5 6 = .ok (.invokevirtual 335, 3) := by decide +kernel
theorem dJ0_length_8abf5_9 : decode cJ0_length_8abf5 9 = .ok (.ishr, 1) := by decide +kernel
theorem dJ0_length_8abf5_10 : decode cJ0_length_8abf5 10 = .ok (.ireturn, 1) := by decide +kernel
theorem dJ0_charAt_5068e_0 : decode cJ0_charAt_5068e 0 = .ok (.aload_n 0, 1) := by decide +kernel
theorem dJ0_charAt_5068e_1 : decode cJ0_charAt_5068e 1 = .ok (.invokevirtual 492, 3) := by decide +kernel
theorem dJ0_charAt_5068e_4 : decode cJ0_charAt_5068e 4 = .ok (.ifCond .eq 12, 3) := by decide +kernel
theorem dJ0_charAt_5068e_7 : decode cJ0_charAt_5068e 7 = .ok (.aload_n 0, 1) := by decide +kernel
theorem dJ0_charAt_5068e_8 : decode cJ0_charAt_5068e 8 = .ok (.getfield 9, 3) := by decide +kernel
theorem dJ0_charAt_5068e_11 : decode cJ0_charAt_5068e 11 = .ok (.iload_n 1, 1) := by decide +kernel
theorem dJ0_charAt_5068e_12 : decode cJ0_charAt_5068e 12 = .ok (.invokestatic 495, 3) := by decide +kernel
theorem dJ0_charAt_5068e_15 : decode cJ0_charAt_5068e 15 = .ok (.ireturn, 1) := by decide +kernel
theorem dJ0_charAt_5068e_16 : decode cJ0_charAt_5068e 16 = .ok (.aload_n 0, 1) := by decide +kernel
theorem dJ0_charAt_5068e_17 : decode cJ0_charAt_5068e 17 = .ok (.getfield 9, 3) := by decide +kernel
theorem dJ0_charAt_5068e_20 : decode cJ0_charAt_5068e 20 = .ok (.iload_n 1, 1) := by decide +kernel
theorem dJ0_charAt_5068e_21 : decode cJ0_charAt_5068e 21 = .ok (.invokestatic 498, 3) := by decide +kernel
theorem dJ0_charAt_5068e_24 : decode cJ0_charAt_5068e 24 = .ok (.ireturn, 1) := by decide +kernel
theorem dJ0_coder_7d493_0 : decode cJ0_coder_7d493 0 = .ok (.getstatic 38, 3) := by decide +kernel
theorem dJ0_coder_7d493_3 : decode cJ0_coder_7d493 3 = .ok (.ifCond .eq 10, 3) := by decide +kernel
theorem dJ0_coder_7d493_6 : decode cJ0_coder_7d493 6 = .ok (.aload_n 0, 1) := by decide +kernel
theorem dJ0_coder_7d493_7 : decode cJ0_coder_7d493 7 = .ok (.getfield 15, 3) := by decide +kernel
theorem dJ0_coder_7d493_10 : decode cJ0_coder_7d493 10 = .ok (.goto 4, 3) := by decide +kernel
theorem dJ0_coder_7d493_13 : decode cJ0_coder_7d493 13 = .ok (.iconst 1, 1) := by decide +kernel
theorem dJ0_coder_7d493_14 : decode cJ0_coder_7d493 14 = .ok (.ireturn, 1) := by decide +kernel
theorem dJ0_isLatin1_aae02_0 : decode cJ0_isLatin1_aae02 0 = .ok (.getstatic 38, 3) := by decide +kernel
theorem dJ0_isLatin1_aae02_3 : decode cJ0_isLatin1_aae02 3 = .ok (.ifCond .eq 14, 3) := by decide +kernel
theorem dJ0_isLatin1_aae02_6 : decode cJ0_isLatin1_aae02 6 = .ok (.aload_n 0, 1) := by decide +kernel
theorem dJ0_isLatin1_aae02_7 : decode cJ0_isLatin1_aae02 7 = .ok (.getfield 15, 3) := by decide +kernel
theorem dJ0_isLatin1_aae02_10 : decode cJ0_isLatin1_aae02 10 = .ok (.ifCond .ne 7, 3) := by decide +kernel
theorem dJ0_isLatin1_aae02_13 : decode cJ0_isLatin1_aae02 13 = .ok (.iconst 1, 1) := by decide +kernel
theorem dJ0_isLatin1_aae02_14 : decode cJ0_isLatin1_aae02 14 = .ok (.goto 4, 3) := by decide +kernel
theorem dJ0_isLatin1_aae02_17 : decode cJ0_isLatin1_aae02 17 = .ok (.iconst 0, 1) := by decide +kernel
theorem dJ0_isLatin1_aae02_18 : decode cJ0_isLatin1_aae02 18 = .ok (.ireturn, 1) := by decide +kernel
theorem dJ0_checkIndex_df160_0 : decode cJ0_checkIndex_df160 0 = .ok (.iload_n 0, 1) := by decide +kernel
theorem dJ0_checkIndex_df160_1 : decode cJ0_checkIndex_df160 1 = .ok (.iload_n 1, 1) := by decide +kernel
theorem dJ0_checkIndex_df160_2 : decode cJ0_checkIndex_df160 2 = .ok (.getstatic 1053, 3) := by decide +kernel
theorem dJ0_checkIndex_df160_5 : decode cJ0_checkIndex_df160 5 = .ok (.invokestatic 1059, 3) := by decide +kernel
theorem dJ0_checkIndex_df160_8 : decode cJ0_checkIndex_df160 8 = .ok (.pop, 1) := by decide +kernel
theorem dJ0_checkIndex_df160_9 : decode cJ0_checkIndex_df160 9 = .ok (.return_, 1) := by decide +kernel
theorem dJ1_charAt_3b067_0 : decode cJ1_charAt_3b067 0 = .ok (.iload_n 1, 1) := by decide +kernel
theorem dJ1_charAt_3b067_1 : decode cJ1_charAt_3b067 1 = .ok (.aload_n 0, 1) := by decide +kernel
theorem dJ1_charAt_3b067_2 : decode cJ1_charAt_3b067 2 = .ok (.arraylength, 1) := by decide +kernel
theorem dJ1_charAt_3b067_3 : decode cJ1_charAt_3b067 3 = .ok (.invokestatic 9, 3) := by decide +kernel
theorem dJ1_charAt_3b067_6 : decode cJ1_charAt_3b067 6 = .ok (.aload_n 0, 1) := by decide +kernel
theorem dJ1_charAt_3b067_7 : decode cJ1_charAt_3b067 7 = .ok (.iload_n 1, 1) := by decide +kernel
theorem dJ1_charAt_3b067_8 : decode cJ1_charAt_3b067 8 = .ok (.baload, 1) := by decide +kernel
theorem dJ1_charAt_3b067_9 : decode cJ1_charAt_3b067 9 = .ok (.sipush 255, 3) := by decide +kernel
theorem dJ1_charAt_3b067_12 : decode cJ1_charAt_3b067 12 = .ok (.iand, 1) := by decide +kernel
theorem dJ1_charAt_3b067_13 : decode cJ1_charAt_3b067 13 = .ok (.i2c, 1) := by decide +kernel
theorem dJ1_charAt_3b067_14 : decode cJ1_charAt_3b067 14 = .ok (.ireturn, 1) := by decide +kernel
theorem dJ2_getChar_3b067_0 : decode cJ2_getChar_3b067 0 = .ok (.getstatic 44, 3) := by decide +kernel
theorem dJ2_getChar_3b067_3 : decode cJ2_getChar_3b067 3 = .ok (.ifCond .ne 25, 3) := by decide +kernel
theorem dJ2_getChar_3b067_6 : decode cJ2_getChar_3b067 6 = .ok (.iload_n 1, 1) := by decide +kernel
theorem dJ2_getChar_3b067_7 : decode cJ2_getChar_3b067 7 = .ok (.ifCond .lt 11, 3) := by decide +kernel
theorem dJ2_getChar_3b067_10 : decode cJ2_getChar_3b067 10 = .ok (.iload_n 1, 1) := by decide +kernel
theorem dJ2_getChar_3b067_11 : decode cJ2_getChar_3b067 11 = .ok (.aload_n 0, 1) := by decide +kernel
theorem dJ2_getChar_3b067_12 : decode cJ2_getChar_3b067 12 = .ok (.invokestatic 48, 3) := by decide +kernel
theorem dJ2_getChar_3b067_15 : decode cJ2_getChar_3b067 15 = .ok (.if_icmp .lt 13, 3) := by decide +kernel
theorem dJ2_getChar_3b067_18 : decode cJ2_getChar_3b067 18 = .ok (.new 52, 3) := by decide +kernel
theorem dJ2_getChar_3b067_21 : decode cJ2_getChar_3b067 21 = .ok (.dup, 1) := by decide +kernel
theorem dJ2_getChar_3b067_22 : decode cJ2_getChar_3b067 22 = .ok (.ldc 54, 2) := by decide +kernel
theorem dJ2_getChar_3b067_24 : decode cJ2_getChar_3b067 24 = .ok (.invokespecial 56, 3) := by decide +kernel
theorem dJ2_getChar_3b067_27 : decode cJ2_getChar_3b067 27 = .ok (.athrow, 1) := by decide +kernel
theorem dJ2_getChar_3b067_28 : decode cJ2_getChar_3b067 28 = .ok (.iload_n 1, 1) := by decide +kernel
theorem dJ2_getChar_3b067_29 : decode cJ2_getChar_3b067 29 = .ok (.iconst 1, 1) := by decide +kernel
theorem dJ2_getChar_3b067_30 : decode cJ2_getChar_3b067 30 = .ok (.ishl, 1) := by decide +kernel
theorem dJ2_getChar_3b067_31 : decode cJ2_getChar_3b067 31 = .ok (.istore_n 1, 1) := by decide +kernel
theorem dJ2_getChar_3b067_32 : decode cJ2_getChar_3b067 32 = .ok (.aload_n 0, 1) := by decide +kernel
theorem dJ2_getChar_3b067_33 : decode cJ2_getChar_3b067 33 = .ok (.iload_n 1, 1) := by decide +kernel
theorem dJ2_getChar_3b067_34 : decode cJ2_getChar_3b067 34 = .ok (.iinc 1 1, 3) := by decide +kernel
theorem dJ2_getChar_3b067_37 : decode cJ2_getChar_3b067 37 = .ok (.baload, 1) := by decide +kernel
theorem dJ2_getChar_3b067_38 : decode cJ2_getChar_3b067 38 = .ok (.sipush 255, 3) := by decide +kernel
theorem dJ2_getChar_3b067_41 : decode cJ2_getChar_3b067 41 = .ok (.iand, 1) := by decide +kernel
theorem dJ2_getChar_3b067_42 : decode cJ2_getChar_3b067 42 = .ok (.getstatic 59, 3) := by decide +kernel
theorem dJ2_getChar_3b067_45 : decode cJ2_getChar_3b067 45 = .ok (.ishl, 1) := by decide +kernel
theorem dJ2_getChar_3b067_46 : decode cJ2_getChar_3b067 46 = .ok (.aload_n 0, 1) := by decide +kernel
theorem dJ2_getChar_3b067_47 : decode cJ2_getChar_3b067 47 = .ok (.iload_n 1, 1) := by decide +kernel
theorem dJ2_getChar_3b067_48 : decode cJ2_getChar_3b067 48 = .ok (.baload, 1) := by decide +kernel
theorem dJ2_getChar_3b067_49 : decode cJ2_getChar_3b067 49 = .ok (.sipush 255, 3) := by decide +kernel
theorem dJ2_getChar_3b067_52 : decode cJ2_getChar_3b067 52 = .ok (.iand, 1) := by decide +kernel
theorem dJ2_getChar_3b067_53 : decode cJ2_getChar_3b067 53 = .ok (.getstatic 63, 3) := by decide +kernel
theorem dJ2_getChar_3b067_56 : decode cJ2_getChar_3b067 56 = .ok (.ishl, 1) := by decide +kernel
theorem dJ2_getChar_3b067_57 : decode cJ2_getChar_3b067 57 = .ok (.ior, 1) := by decide +kernel
theorem dJ2_getChar_3b067_58 : decode cJ2_getChar_3b067 58 = .ok (.i2c, 1) := by decide +kernel
theorem dJ2_getChar_3b067_59 : decode cJ2_getChar_3b067 59 = .ok (.ireturn, 1) := by decide +kernel
theorem dJ2_length_9d52b_0 : decode cJ2_length_9d52b 0 = .ok (.aload_n 0, 1) := by decide +kernel
theorem dJ2_length_9d52b_1 : decode cJ2_length_9d52b 1 = .ok (.arraylength, 1) := by decide +kernel
theorem dJ2_length_9d52b_2 : decode cJ2_length_9d52b 2 = .ok (.iconst 1, 1) := by decide +kernel
theorem dJ2_length_9d52b_3 : decode cJ2_length_9d52b 3 = .ok (.ishr, 1) := by decide +kernel
theorem dJ2_length_9d52b_4 : decode cJ2_length_9d52b 4 = .ok (.ireturn, 1) := by decide +kernel
theorem dJ2_charAt_3b067_0 : decode cJ2_charAt_3b067 0 = .ok (.iload_n 1, 1) := by decide +kernel
theorem dJ2_charAt_3b067_1 : decode cJ2_charAt_3b067 1 = .ok (.aload_n 0, 1) := by decide +kernel
theorem dJ2_charAt_3b067_2 : decode cJ2_charAt_3b067 2 = .ok (.invokestatic 67, 3) := by decide +kernel
theorem dJ2_charAt_3b067_5 : decode cJ2_charAt_3b067 5 = .ok (.aload_n 0, 1) := by decide +kernel
theorem dJ2_charAt_3b067_6 : decode cJ2_charAt_3b067 6 = .ok (.iload_n 1, 1) := by decide +kernel
theorem dJ2_charAt_3b067_7 : decode cJ2_charAt_3b067 7 = .ok (.invokestatic 71, 3) := by decide +kernel
theorem dJ2_charAt_3b067_10 : decode cJ2_charAt_3b067 10 = .ok (.ireturn, 1) := by decide +kernel
theorem dJ2_checkIndex_2214a_0 : decode cJ2_checkIndex_2214a 0 = .ok (.iload_n 0, 1) := by decide +kernel
theorem dJ2_checkIndex_2214a_1 : decode cJ2_checkIndex_2214a 1 = .ok (.aload_n 1, 1) := by decide +kernel
theorem dJ2_checkIndex_2214a_2 : decode cJ2_checkIndex_2214a 2 = .ok (.invokestatic 48, 3) := by decide +kernel
theorem dJ2_checkIndex_2214a_5 : decode cJ2_checkIndex_2214a 5 = .ok (.invokestatic 414, 3) := by decide +kernel
theorem dJ2_checkIndex_2214a_8 : decode cJ2_checkIndex_2214a 8 = .ok (.return_, 1) := by decide +kernel
theorem dJxa1e45_init_da8c8_0 : decode cJxa1e45_init_da8c8 0 = .ok (.aload_n 0, 1) := by decide +kernel
theorem dJxa1e45_init_da8c8_1 : decode cJxa1e45_init_da8c8 1 = .ok (.invokespecial 1, 3) := by decide +kernel
theorem dJxa1e45_init_da8c8_4 : decode cJxa1e45_init_da8c8 4 = .ok (.return_, 1) := by decide +kernel
theorem dJxc12de_init_da8c8_0 : decode cJxc12de_init_da8c8 0 = .ok (.aload_n 0, 1) := by decide +kernel
theorem dJxc12de_init_da8c8_1 : decode cJxc12de_init_da8c8 1 = .ok (.invokespecial 1, 3) := by decide +kernel
theorem dJxc12de_init_da8c8_4 : decode cJxc12de_init_da8c8 4 = .ok (.aload_n 0, 1) := by decide +kernel
theorem dJxc12de_init_da8c8_5 : decode cJxc12de_init_da8c8 5 = .ok (.iconst 0, 1) := by decide +kernel
theorem dJxc12de_init_da8c8_6 : decode cJxc12de_init_da8c8 6 = .ok (.putfield 7, 3) := by decide +kernel
theorem dJxc12de_init_da8c8_9 : decode cJxc12de_init_da8c8 9 = .ok (.return_, 1) := by decide +kernel
theorem dJx4a65c_init_da8c8_0 : decode cJx4a65c_init_da8c8 0 = .ok (.aload_n 0, 1) := by decide +kernel
theorem dJx4a65c_init_da8c8_1 : decode cJx4a65c_init_da8c8 1 = .ok (.invokespecial 1, 3) := by decide +kernel
theorem dJx4a65c_init_da8c8_4 : decode cJx4a65c_init_da8c8 4 = .ok (.aload_n 0, 1) := by decide +kernel
theorem dJx4a65c_init_da8c8_5 : decode cJx4a65c_init_da8c8 5 = .ok (.getstatic 39, 3) := by decide +kernel
theorem dJx4a65c_init_da8c8_8 : decode cJx4a65c_init_da8c8 8 = .ok (.putfield 9, 3) := by decide +kernel
theorem dJx4a65c_init_da8c8_11 : decode cJx4a65c_init_da8c8 11 = .ok (.return_, 1) := by decide +kernel
theorem dJx4a65c_grow_92f84_0 : decode cJx4a65c_grow_92f84 0 = .ok (.aload_n 0, 1) := by decide +kernel
theorem dJx4a65c_grow_92f84_1 : decode cJx4a65c_grow_92f84 1 = .ok (.getfield 9, 3) := by decide +kernel
theorem dJx4a65c_grow_92f84_4 : decode cJx4a65c_grow_92f84 4 = .ok (.arraylength, 1) := by decide +kernel
theorem dJx4a65c_grow_92f84_5 : decode cJx4a65c_grow_92f84 5 = .ok (.istore_n 2, 1) := by decide +kernel
theorem dJx4a65c_grow_92f84_6 : decode cJx4a65c_grow_92f84 6 = .ok (.iload_n 2, 1) := by decide +kernel
theorem dJx4a65c_grow_92f84_7 : decode cJx4a65c_grow_92f84 7 = .ok (.ifCond .gt 13, 3) := by decide +kernel
theorem dJx4a65c_grow_92f84_10 : decode cJx4a65c_grow_92f84 10 = .ok (.aload_n 0, 1) := by decide +kernel
theorem dJx4a65c_grow_92f84_11 : decode cJx4a65c_grow_92f84 11 = .ok (.getfield 9, 3) := by decide +kernel
theorem dJx4a65c_grow_92f84_14 : decode cJx4a65c_grow_92f84 14 = .ok (.getstatic 39, 3) := by decide +kernel
theorem dJx4a65c_grow_92f84_17 : decode cJx4a65c_grow_92f84 17 = .ok (.if_acmp .eq 28, 3) := by decide +kernel
theorem dJx4a65c_grow_92f84_20 : decode cJx4a65c_grow_92f84 20 = .ok (.iload_n 2, 1) := by decide +kernel
theorem dJx4a65c_grow_92f84_21 : decode cJx4a65c_grow_92f84 21 = .ok (.iload_n 1, 1) := by decide +kernel
theorem dJx4a65c_grow_92f84_22 : decode cJx4a65c_grow_92f84 22 = .ok (.iload_n 2, 1) := by decide +kernel
theorem dJx4a65c_grow_92f84_23 : decode cJx4a65c_grow_92f84 23 = .ok (.isub, 1) := by decide +kernel
theorem dJx4a65c_grow_92f84_24 : decode cJx4a65c_grow_92f84 24 = .ok (.iload_n 2, 1) := by decide +kernel
theorem dJx4a65c_grow_92f84_25 : decode cJx4a65c_grow_92f84 25 = .ok (.iconst 1, 1) := by decide +kernel
theorem dJx4a65c_grow_92f84_26 : decode cJx4a65c_grow_92f84 26 = .ok (.ishr, 1) := by decide +kernel
theorem dJx4a65c_grow_92f84_27 : decode cJx4a65c_grow_92f84 27 = .ok (.invokestatic 73, 3) := by decide +kernel
theorem dJx4a65c_grow_92f84_30 : decode cJx4a65c_grow_92f84 30 = .ok (.istore_n 3, 1) := by decide +kernel
theorem dJx4a65c_grow_92f84_31 : decode cJx4a65c_grow_92f84 31 = .ok (.aload_n 0, 1) := by decide +kernel
theorem dJx4a65c_grow_92f84_32 : decode cJx4a65c_grow_92f84 32 = .ok (.aload_n 0, 1) := by decide +kernel
theorem dJx4a65c_grow_92f84_33 : decode cJx4a65c_grow_92f84 33 = .ok (.getfield 9, 3) := by decide +kernel
theorem dJx4a65c_grow_92f84_36 : decode cJx4a65c_grow_92f84 36 = .ok (.iload_n 3, 1) := by decide +kernel
theorem dJx4a65c_grow_92f84_37 : decode cJx4a65c_grow_92f84 37 = .ok (.invokestatic 66, 3) := by decide +kernel
theorem dJx4a65c_grow_92f84_40 : decode cJx4a65c_grow_92f84 40 = .ok (.dup_x1, 1) := by decide +kernel
theorem dJx4a65c_grow_92f84_41 : decode cJx4a65c_grow_92f84 41 = .ok (.putfield 9, 3) := by decide +kernel
theorem dJx4a65c_grow_92f84_44 : decode cJx4a65c_grow_92f84 44 = .ok (.areturn, 1) := by decide +kernel
theorem dJx4a65c_grow_92f84_45 : decode cJx4a65c_grow_92f84 45 = .ok (.aload_n 0, 1) := by decide +kernel
theorem dJx4a65c_grow_92f84_46 : decode cJx4a65c_grow_92f84 46 = .ok (.bipush 10, 2) := by decide +kernel
theorem dJx4a65c_grow_92f84_48 : decode cJx4a65c_grow_92f84 48 = .ok (.iload_n 1, 1) := by decide +kernel
theorem dJx4a65c_grow_92f84_49 : decode cJx4a65c_grow_92f84 49 = .ok (.invokestatic 79, 3) := by decide +kernel
theorem dJx4a65c_grow_92f84_52 : decode cJx4a65c_grow_92f84 52 = .ok (.anewarray 7, 3) := by decide +kernel
theorem dJx4a65c_grow_92f84_55 : decode cJx4a65c_grow_92f84 55 = .ok (.dup_x1, 1) := by decide +kernel
theorem dJx4a65c_grow_92f84_56 : decode cJx4a65c_grow_92f84 56 = .ok (.putfield 9, 3) := by decide +kernel
theorem dJx4a65c_grow_92f84_59 : decode cJx4a65c_grow_92f84 59 = .ok (.areturn, 1) := by decide +kernel
theorem dJx4a65c_grow_d5877_0 : decode cJx4a65c_grow_d5877 0 = .ok (.aload_n 0, 1) := by decide +kernel
theorem dJx4a65c_grow_d5877_1 : decode cJx4a65c_grow_d5877 1 = .ok (.aload_n 0, 1) := by decide +kernel
theorem dJx4a65c_grow_d5877_2 : decode cJx4a65c_grow_d5877 2 = .ok (.getfield 48, 3) := by decide +kernel
theorem dJx4a65c_grow_d5877_5 : decode cJx4a65c_grow_d5877 5 = .ok (.iconst 1, 1) := by decide +kernel
theorem dJx4a65c_grow_d5877_6 : decode cJx4a65c_grow_d5877 6 = .ok (.iadd, 1) := by decide +kernel
theorem dJx4a65c_grow_d5877_7 : decode cJx4a65c_grow_d5877 7 = .ok (.invokevirtual 69, 3) := by decide +kernel
theorem dJx4a65c_grow_d5877_10 : decode cJx4a65c_grow_d5877 10 = .ok (.areturn, 1) := by decide +kernel
theorem dJx4a65c_size_8abf5_0 : decode cJx4a65c_size_8abf5 0 = .ok (.aload_n 0, 1) := by decide +kernel
theorem dJx4a65c_size_8abf5_1 : decode cJx4a65c_size_8abf5 1 = .ok (.getfield 48, 3) := by decide +kernel
theorem dJx4a65c_size_8abf5_4 : decode cJx4a65c_size_8abf5 4 = .ok (.ireturn, 1) := by decide +kernel
theorem dJx4a65c_isEmpty_aae02_0 : decode cJx4a65c_isEmpty_aae02 0 = .ok (.aload_n 0, 1) := by decide +kernel
theorem dJx4a65c_isEmpty_aae02_1 : decode cJx4a65c_isEmpty_aae02 1 = .ok (.getfield 48, 3) := by decide +kernel
theorem dJx4a65c_isEmpty_aae02_4 : decode cJx4a65c_isEmpty_aae02 4 = .ok (.ifCond .ne 7, 3) := by decide +kernel
theorem dJx4a65c_isEmpty_aae02_7 : decode cJx4a65c_isEmpty_aae02 7 = .ok (.iconst 1, 1) := by decide +kernel
theorem dJx4a65c_isEmpty_aae02_8 : decode cJx4a65c_isEmpty_aae02 8 = .ok (.goto 4, 3) := by decide +kernel
theorem dJx4a65c_isEmpty_aae02_11 : decode cJx4a65c_isEmpty_aae02 11 = .ok (.iconst 0, 1) := by decide +kernel
theorem dJx4a65c_isEmpty_aae02_12 : decode cJx4a65c_isEmpty_aae02 12 = .ok (.ireturn, 1) := by decide +kernel
theorem dJx4a65c_elementData_915e3_0 : decode cJx4a65c_elementData_915e3 0 = .ok (.aload_n 0, 1) := by decide +kernel
theorem dJx4a65c_elementData_915e3_1 : decode cJx4a65c_elementData_915e3 1 = .ok (.getfield 9, 3) := by decide +kernel
theorem dJx4a65c_elementData_915e3_4 : decode cJx4a65c_elementData_915e3 4 = .ok (.iload_n 1, 1) := by decide +kernel
theorem dJx4a65c_elementData_915e3_5 : decode cJx4a65c_elementData_915e3 5 = .ok (.aaload, 1) := by decide +kernel
theorem dJx4a65c_elementData_915e3_6 : decode cJx4a65c_elementData_915e3 6 = .ok (.areturn, 1) := by decide +kernel
theorem dJx4a65c_get_915e3_0 : decode cJx4a65c_get_915e3 0 = .ok (.iload_n 1, 1) := by decide +kernel
theorem dJx4a65c_get_915e3_1 : decode cJx4a65c_get_915e3 1 = .ok (.aload_n 0, 1) := by decide +kernel
theorem dJx4a65c_get_915e3_2 : decode cJx4a65c_get_915e3 2 = .ok (.getfield 48, 3) := by decide +kernel
theorem dJx4a65c_get_915e3_5 : decode cJx4a65c_get_915e3 5 = .ok (.invokestatic 118, 3) := by decide +kernel
theorem dJx4a65c_get_915e3_8 : decode cJx4a65c_get_915e3 8 = .ok (.pop, 1) := by decide +kernel
theorem dJx4a65c_get_915e3_9 : decode cJx4a65c_get_915e3 9 = .ok (.aload_n 0, 1) := by decide +kernel
theorem dJx4a65c_get_915e3_10 : decode cJx4a65c_get_915e3 10 = .ok (.iload_n 1, 1) := by decide +kernel
theorem dJx4a65c_get_915e3_11 : decode cJx4a65c_get_915e3 11 = .ok (.invokevirtual 123, 3) := by decide +kernel
theorem dJx4a65c_get_915e3_14 : decode cJx4a65c_get_915e3 14 = .ok (.areturn, 1) := by decide +kernel
theorem dJx4a65c_add_72be8_0 : decode cJx4a65c_add_72be8 0 = .ok (.iload_n 3, 1) := by decide +kernel
theorem dJx4a65c_add_72be8_1 : decode cJx4a65c_add_72be8 1 = .ok (.aload_n 2, 1) := by decide +kernel
theorem dJx4a65c_add_72be8_2 : decode cJx4a65c_add_72be8 2 = .ok (.arraylength, 1) := by decide +kernel
theorem dJx4a65c_add_72be8_3 : decode cJx4a65c_add_72be8 3 = .ok (.if_icmp .ne 8, 3) := by decide +kernel
theorem dJx4a65c_add_72be8_6 : decode cJx4a65c_add_72be8 6 = .ok (.aload_n 0, 1) := by decide +kernel
theorem dJx4a65c_add_72be8_7 : decode cJx4a65c_add_72be8 7 = .ok (.invokevirtual 129, 3) := by decide +kernel
theorem dJx4a65c_add_72be8_10 : decode cJx4a65c_add_72be8 10 = .ok (.astore_n 2, 1) := by decide +kernel
theorem dJx4a65c_add_72be8_11 : decode cJx4a65c_add_72be8 11 = .ok (.aload_n 2, 1) := by decide +kernel
theorem dJx4a65c_add_72be8_12 : decode cJx4a65c_add_72be8 12 = .ok (.iload_n 3, 1) := by decide +kernel
theorem dJx4a65c_add_72be8_13 : decode cJx4a65c_add_72be8 13 = .ok (.aload_n 1, 1) := by decide +kernel
theorem dJx4a65c_add_72be8_14 : decode cJx4a65c_add_72be8 14 = .ok (.aastore, 1) := by decide +kernel
theorem dJx4a65c_add_72be8_15 : decode cJx4a65c_add_72be8 15 = .ok (.aload_n 0, 1) := by decide +kernel
theorem dJx4a65c_add_72be8_16 : decode cJx4a65c_add_72be8 16 = .ok (.iload_n 3, 1) := by decide +kernel
theorem dJx4a65c_add_72be8_17 : decode cJx4a65c_add_72be8 17 = .ok (.iconst 1, 1) := by decide +kernel
theorem dJx4a65c_add_72be8_18 : decode cJx4a65c_add_72be8 18 = .ok (.iadd, 1) := by decide +kernel
theorem dJx4a65c_add_72be8_19 : decode cJx4a65c_add_72be8 19 = .ok (.putfield 48, 3) := by decide +kernel
theorem dJx4a65c_add_72be8_22 : decode cJx4a65c_add_72be8 22 = .ok (.return_, 1) := by decide +kernel
theorem dJx4a65c_add_9ea2d_0 : decode cJx4a65c_add_9ea2d 0 = .ok (.aload_n 0, 1) := by decide +kernel
theorem dJx4a65c_add_9ea2d_1 : decode cJx4a65c_add_9ea2d 1 = .ok (.dup, 1) := by decide +kernel
theorem dJx4a65c_add_9ea2d_2 : decode cJx4a65c_add_9ea2d 2 = .ok (.getfield 63, 3) := by decide +kernel
theorem dJx4a65c_add_9ea2d_5 : decode cJx4a65c_add_9ea2d 5 = .ok (.iconst 1, 1) := by decide +kernel
theorem dJx4a65c_add_9ea2d_6 : decode cJx4a65c_add_9ea2d 6 = .ok (.iadd, 1) := by decide +kernel
theorem dJx4a65c_add_9ea2d_7 : decode cJx4a65c_add_9ea2d 7 = .ok (.putfield 63, 3) := by decide +kernel
theorem dJx4a65c_add_9ea2d_10 : decode cJx4a65c_add_9ea2d 10 = .ok (.aload_n 0, 1) := by decide +kernel
theorem dJx4a65c_add_9ea2d_11 : decode cJx4a65c_add_9ea2d 11 = .ok (.aload_n 1, 1) := by decide +kernel
theorem dJx4a65c_add_9ea2d_12 : decode cJx4a65c_add_9ea2d 12 = .ok (.aload_n 0, 1) := by decide +kernel
theorem dJx4a65c_add_9ea2d_13 : decode cJx4a65c_add_9ea2d 13 = .ok (.getfield 9, 3) := by decide +kernel
theorem dJx4a65c_add_9ea2d_16 : decode cJx4a65c_add_9ea2d 16 = .ok (.aload_n 0, 1) := by decide +kernel
theorem dJx4a65c_add_9ea2d_17 : decode cJx4a65c_add_9ea2d 17 = .ok (.getfield 48, 3) := by decide +kernel
theorem dJx4a65c_add_9ea2d_20 : decode cJx4a65c_add_9ea2d 20 = .ok (.invokevirtual 131, 3) := by decide +kernel
theorem dJx4a65c_add_9ea2d_23 : decode cJx4a65c_add_9ea2d 23 = .ok (.iconst 1, 1) := by decide +kernel
theorem dJx4a65c_add_9ea2d_24 : decode cJx4a65c_add_9ea2d 24 = .ok (.ireturn, 1) := by decide +kernel
theorem dJ7_copyOf_1904c_0 : decode cJ7_copyOf_1904c 0 = .ok (.aload_n 0, 1) := by decide +kernel
theorem dJ7_copyOf_1904c_1 : decode cJ7_copyOf_1904c 1 = .ok (.iload_n 1, 1) := by decide +kernel
theorem dJ7_copyOf_1904c_2 : decode cJ7_copyOf_1904c 2 = .ok (.aload_n 0, 1) := by decide +kernel
theorem dJ7_copyOf_1904c_3 : decode cJ7_copyOf_1904c 3 = .ok (.invokevirtual 86, 3) := by decide +kernel
theorem dJ7_copyOf_1904c_6 : decode cJ7_copyOf_1904c 6 = .ok (.invokestatic 300, 3) := by decide +kernel
theorem dJ7_copyOf_1904c_9 : decode cJ7_copyOf_1904c 9 = .ok (.areturn, 1) := by decide +kernel
theorem dJ7_copyOf_6403c_0 : decode cJ7_copyOf_6403c 0 = .ok (.aload_n 2, 1) := by decide +kernel
theorem dJ7_copyOf_6403c_1 : decode cJ7_copyOf_6403c 1 = .ok (.ldc 110, 2) := by decide +kernel
theorem dJ7_copyOf_6403c_3 : decode cJ7_copyOf_6403c 3 = .ok (.if_acmp .ne 10, 3) := by decide +kernel
theorem dJ7_copyOf_6403c_6 : decode cJ7_copyOf_6403c 6 = .ok (.iload_n 1, 1) := by decide +kernel
theorem dJ7_copyOf_6403c_7 : decode cJ7_copyOf_6403c 7 = .ok (.anewarray 2, 3) := by decide +kernel
theorem dJ7_copyOf_6403c_10 : decode cJ7_copyOf_6403c 10 = .ok (.goto 14, 3) := by decide +kernel
theorem dJ7_copyOf_6403c_13 : decode cJ7_copyOf_6403c 13 = .ok (.aload_n 2, 1) := by decide +kernel
theorem dJ7_copyOf_6403c_14 : decode cJ7_copyOf_6403c 14 = .ok (.invokevirtual 90, 3) := by decide +kernel
theorem dJ7_copyOf_6403c_17 : decode cJ7_copyOf_6403c 17 = .ok (.iload_n 1, 1) := by decide +kernel
theorem dJ7_copyOf_6403c_18 : decode cJ7_copyOf_6403c 18 = .ok (.invokestatic 95, 3) := by decide +kernel
theorem dJ7_copyOf_6403c_21 : decode cJ7_copyOf_6403c 21 = .ok (.checkcast 110, 3) := by decide +kernel
theorem dJ7_copyOf_6403c_24 : decode cJ7_copyOf_6403c 24 = .ok (.astore_n 3, 1) := by decide +kernel
theorem dJ7_copyOf_6403c_25 : decode cJ7_copyOf_6403c 25 = .ok (.aload_n 0, 1) := by decide +kernel
theorem dJ7_copyOf_6403c_26 : decode cJ7_copyOf_6403c 26 = .ok (.iconst 0, 1) := by decide +kernel
theorem dJ7_copyOf_6403c_27 : decode cJ7_copyOf_6403c 27 = .ok (.aload_n 3, 1) := by decide +kernel
theorem dJ7_copyOf_6403c_28 : decode cJ7_copyOf_6403c 28 = .ok (.iconst 0, 1) := by decide +kernel
theorem dJ7_copyOf_6403c_29 : decode cJ7_copyOf_6403c 29 = .ok (.aload_n 0, 1) := by decide +kernel
theorem dJ7_copyOf_6403c_30 : decode cJ7_copyOf_6403c 30 = .ok (.arraylength, 1) := by decide +kernel
theorem dJ7_copyOf_6403c_31 : decode cJ7_copyOf_6403c 31 = .ok (.iload_n 1, 1) := by decide +kernel
theorem dJ7_copyOf_6403c_32 : decode cJ7_copyOf_6403c 32 = .ok (.invokestatic 304, 3) := by decide +kernel
theorem dJ7_copyOf_6403c_35 : decode cJ7_copyOf_6403c 35 = .ok (.invokestatic 150, 3) := by decide +kernel
theorem dJ7_copyOf_6403c_38 : decode cJ7_copyOf_6403c 38 = .ok (.aload_n 3, 1) := by decide +kernel
theorem dJ7_copyOf_6403c_39 : decode cJ7_copyOf_6403c 39 = .ok (.areturn, 1) := by decide +kernel
theorem dJ15_checkIndex_7cf53_0 : decode cJ15_checkIndex_7cf53 0 = .ok (.iload_n 0, 1) := by decide +kernel
theorem dJ15_checkIndex_7cf53_1 : decode cJ15_checkIndex_7cf53 1 = .ok (.iload_n 1, 1) := by decide +kernel
theorem dJ15_checkIndex_7cf53_2 : decode cJ15_checkIndex_7cf53 2 = .ok (.aconst_null, 1) := by decide +kernel
theorem dJ15_checkIndex_7cf53_3 : decode cJ15_checkIndex_7cf53 3 = .ok (.invokestatic 105, 3) := by decide +kernel
theorem dJ15_checkIndex_7cf53_6 : decode cJ15_checkIndex_7cf53 6 = .ok (.ireturn, 1) := by decide +kernel
theorem dJ8_newLength_cabcc_0 : decode cJ8_newLength_cabcc 0 = .ok (.iload_n 0, 1) := by decide +kernel
theorem dJ8_newLength_cabcc_1 : decode cJ8_newLength_cabcc 1 = .ok (.iload_n 1, 1) := by decide +kernel
theorem dJ8_newLength_cabcc_2 : decode cJ8_newLength_cabcc 2 = .ok (.iload_n 2, 1) := by decide +kernel
theorem dJ8_newLength_cabcc_3 : decode cJ8_newLength_cabcc 3 = .ok (.invokestatic 194, 3) := by decide +kernel
theorem dJ8_newLength_cabcc_6 : decode cJ8_newLength_cabcc 6 = .ok (.iadd, 1) := by decide +kernel
theorem dJ8_newLength_cabcc_7 : decode cJ8_newLength_cabcc 7 = .ok (.istore_n 3, 1) := by decide +kernel
theorem dJ8_newLength_cabcc_8 : decode cJ8_newLength_cabcc 8 = .ok (.iconst 0, 1) := by decide +kernel
theorem dJ8_newLength_cabcc_9 : decode cJ8_newLength_cabcc 9 = .ok (.iload_n 3, 1) := by decide +kernel
theorem dJ8_newLength_cabcc_10 : decode cJ8_newLength_cabcc 10 = .ok (.if_icmp .ge 11, 3) := by decide +kernel
theorem dJ8_newLength_cabcc_13 : decode cJ8_newLength_cabcc 13 = .ok (.iload_n 3, 1) := by decide +kernel
theorem dJ8_newLength_cabcc_14 : decode cJ8_newLength_cabcc 14 = .ok (.ldc 200, 2) := by decide +kernel
theorem dJ8_newLength_cabcc_16 : decode cJ8_newLength_cabcc 16 = .ok (.if_icmp .gt 5, 3) := by decide +kernel
theorem dJ8_newLength_cabcc_19 : decode cJ8_newLength_cabcc 19 = .ok (.iload_n 3, 1) := by decide +kernel
theorem dJ8_newLength_cabcc_20 : decode cJ8_newLength_cabcc 20 = .ok (.ireturn, 1) := by decide +kernel
theorem dJ8_newLength_cabcc_21 : decode cJ8_newLength_cabcc 21 = .ok (.iload_n 0, 1) := by decide +kernel
theorem dJ8_newLength_cabcc_22 : decode cJ8_newLength_cabcc 22 = .ok (.iload_n 1, 1) := by decide +kernel
theorem dJ8_newLength_cabcc_23 : decode cJ8_newLength_cabcc 23 = .ok (.invokestatic 201, 3) := by decide +kernel
theorem dJ8_newLength_cabcc_26 : decode cJ8_newLength_cabcc 26 = .ok (.ireturn, 1) := by decide +kernel
theorem dJ8_hugeLength_7cf53_0 : decode cJ8_hugeLength_7cf53 0 = .ok (.iload_n 0, 1) := by decide +kernel
theorem dJ8_hugeLength_7cf53_1 : decode cJ8_hugeLength_7cf53 1 = .ok (.iload_n 1, 1) := by decide +kernel
theorem dJ8_hugeLength_7cf53_2 : decode cJ8_hugeLength_7cf53 2 = .ok (.iadd, 1) := by decide +kernel
theorem dJ8_hugeLength_7cf53_3 : decode cJ8_hugeLength_7cf53 3 = .ok (.istore_n 2, 1) := by decide +kernel
theorem dJ8_hugeLength_7cf53_4 : decode cJ8_hugeLength_7cf53 4 = .ok (.iload_n 2, 1) := by decide +kernel
theorem dJ8_hugeLength_7cf53_5 : decode cJ8_hugeLength_7cf53 5 = .ok (.ifCond .ge 44, 3) := by decide +kernel
theorem dJ8_hugeLength_7cf53_8 : decode cJ8_hugeLength_7cf53 8 = .ok (.new 204, 3) := by decide +kernel
theorem dJ8_hugeLength_7cf53_11 : decode cJ8_hugeLength_7cf53 11 = .ok (.dup, 1) := by decide +kernel
theorem dJ8_hugeLength_7cf53_12 : decode cJ8_hugeLength_7cf53 12 = .ok (.new 89, 3) := by decide +kernel
theorem dJ8_hugeLength_7cf53_15 : decode cJ8_hugeLength_7cf53 15 = .ok (.dup, 1) := by decide +kernel
theorem dJ8_hugeLength_7cf53_16 : decode cJ8_hugeLength_7cf53 16 = .ok (.invokespecial 91, 3) := by decide +kernel
theorem dJ8_hugeLength_7cf53_19 : decode cJ8_hugeLength_7cf53 19 = .ok (.ldc 206, 2) := by decide +kernel
theorem dJ8_hugeLength_7cf53_21 : decode cJ8_hugeLength_7cf53 21 = .ok (.invokevirtual 94, 3) := by decide +kernel
theorem dJ8_hugeLength_7cf53_24 : decode cJ8_hugeLength_7cf53 24 = .ok (.iload_n 0, 1) := by decide +kernel
theorem dJ8_hugeLength_7cf53_25 : decode cJ8_hugeLength_7cf53 25 = .ok (.invokevirtual 98, 3) := by decide +kernel
theorem dJ8_hugeLength_7cf53_28 : decode cJ8_hugeLength_7cf53 28 = .ok (.ldc 208, 2) := by decide +kernel
theorem dJ8_hugeLength_7cf53_30 : decode cJ8_hugeLength_7cf53 30 = .ok (.invokevirtual 94, 3) := by decide +kernel
theorem dJ8_hugeLength_7cf53_33 : decode cJ8_hugeLength_7cf53 33 = .ok (.iload_n 1, 1) := by decide +kernel
theorem dJ8_hugeLength_7cf53_34 : decode cJ8_hugeLength_7cf53 34 = .ok (.invokevirtual 98, 3) := by decide +kernel
theorem dJ8_hugeLength_7cf53_37 : decode cJ8_hugeLength_7cf53 37 = .ok (.ldc 210, 2) := by decide +kernel
theorem dJ8_hugeLength_7cf53_39 : decode cJ8_hugeLength_7cf53 39 = .ok (.invokevirtual 94, 3) := by decide +kernel
theorem dJ8_hugeLength_7cf53_42 : decode cJ8_hugeLength_7cf53 42 = .ok (.invokevirtual 101, 3) := by decide +kernel
theorem dJ8_hugeLength_7cf53_45 : decode cJ8_hugeLength_7cf53 45 = .ok (.invokespecial 212, 3) := by decide +kernel
theorem dJ8_hugeLength_7cf53_48 : decode cJ8_hugeLength_7cf53 48 = .ok (.athrow, 1) := by decide +kernel
theorem dJ8_hugeLength_7cf53_49 : decode cJ8_hugeLength_7cf53 49 = .ok (.iload_n 2, 1) := by decide +kernel
theorem dJ8_hugeLength_7cf53_50 : decode cJ8_hugeLength_7cf53 50 = .ok (.ldc 200, 2) := by decide +kernel
theorem dJ8_hugeLength_7cf53_52 : decode cJ8_hugeLength_7cf53 52 = .ok (.if_icmp .gt 6, 3) := by decide +kernel
theorem dJ8_hugeLength_7cf53_55 : decode cJ8_hugeLength_7cf53 55 = .ok (.ldc 200, 2) := by decide +kernel
theorem dJ8_hugeLength_7cf53_57 : decode cJ8_hugeLength_7cf53 57 = .ok (.ireturn, 1) := by decide +kernel
theorem dJ8_hugeLength_7cf53_58 : decode cJ8_hugeLength_7cf53 58 = .ok (.iload_n 2, 1) := by decide +kernel
theorem dJ8_hugeLength_7cf53_59 : decode cJ8_hugeLength_7cf53 59 = .ok (.ireturn, 1) := by decide +kernel
theorem dJ3_checkIndex_8e157_0 : decode cJ3_checkIndex_8e157 0 = .ok (.iload_n 0, 1) := by decide +kernel
theorem dJ3_checkIndex_8e157_1 : decode cJ3_checkIndex_8e157 1 = .ok (.ifCond .lt 8, 3) := by decide +kernel
theorem dJ3_checkIndex_8e157_4 : decode cJ3_checkIndex_8e157 4 = .ok (.iload_n 0, 1) := by decide +kernel
theorem dJ3_checkIndex_8e157_5 : decode cJ3_checkIndex_8e157 5 = .ok (.iload_n 1, 1) := by decide +kernel
theorem dJ3_checkIndex_8e157_6 : decode cJ3_checkIndex_8e157 6 = .ok (.if_icmp .lt 10, 3) := by decide +kernel
theorem dJ3_checkIndex_8e157_9 : decode cJ3_checkIndex_8e157 9 = .ok (.aload_n 2, 1) := by decide +kernel
theorem dJ3_checkIndex_8e157_10 : decode cJ3_checkIndex_8e157 10 = .ok (.iload_n 0, 1) := by decide +kernel
theorem dJ3_checkIndex_8e157_11 : decode cJ3_checkIndex_8e157 11 = .ok (.iload_n 1, 1) := by decide +kernel
theorem dJ3_checkIndex_8e157_12 : decode cJ3_checkIndex_8e157 12 = .ok (.invokestatic 95, 3) := by decide +kernel
theorem dJ3_checkIndex_8e157_15 : decode cJ3_checkIndex_8e157 15 = .ok (.athrow, 1) := by decide +kernel
theorem dJ3_checkIndex_8e157_16 : decode cJ3_checkIndex_8e157 16 = .ok (.iload_n 0, 1) := by decide +kernel
theorem dJ3_checkIndex_8e157_17 : decode cJ3_checkIndex_8e157 17 = .ok (.ireturn, 1) := by decide +kernel
