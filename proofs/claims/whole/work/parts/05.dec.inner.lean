theorem dX0_init_0 : decode cX0_init 0 = .ok (.aload_n 0, 1) := by decide +kernel
theorem dX0_init_1 : decode cX0_init 1 = .ok (.invokespecial 3, 3) := by decide +kernel
theorem dX0_init_4 : decode cX0_init 4 = .ok (.aload_n 0, 1) := by decide +kernel
theorem dX0_init_5 : decode cX0_init 5 = .ok (.iconst 4, 1) := by decide +kernel
theorem dX0_init_6 : decode cX0_init 6 = .ok (.newarray .int, 2) := by decide +kernel
theorem dX0_init_8 : decode cX0_init 8 = .ok (.putfield 9, 3) := by decide +kernel
theorem dX0_init_11 : decode cX0_init 11 = .ok (.aload_n 0, 1) := by decide +kernel
theorem dX0_init_12 : decode cX0_init 12 = .ok (.iconst 4, 1) := by decide +kernel
theorem dX0_init_13 : decode cX0_init 13 = .ok (.newarray .int, 2) := by decide +kernel
theorem dX0_init_15 : decode cX0_init 15 = .ok (.putfield 15, 3) := by decide +kernel
theorem dX0_init_18 : decode cX0_init 18 = .ok (.aload_n 0, 1) := by decide +kernel
theorem dX0_init_19 : decode cX0_init 19 = .ok (.iconst 4, 1) := by decide +kernel
theorem dX0_init_20 : decode cX0_init 20 = .ok (.newarray .int, 2) := by decide +kernel
theorem dX0_init_22 : decode cX0_init 22 = .ok (.putfield 18, 3) := by decide +kernel
theorem dX0_init_25 : decode cX0_init 25 = .ok (.aload_n 0, 1) := by decide +kernel
theorem dX0_init_26 : decode cX0_init 26 = .ok (.bipush 6, 2) := by decide +kernel
theorem dX0_init_28 : decode cX0_init 28 = .ok (.iconst 4, 1) := by decide +kernel
theorem dX0_init_29 : decode cX0_init 29 = .ok (.multianewarray 21 2, 4) := by decide +kernel
theorem dX0_init_33 : decode cX0_init 33 = .ok (.putfield 23, 3) := by decide +kernel
theorem dX0_init_36 : decode cX0_init 36 = .ok (.aload_n 0, 1) := by decide +kernel
theorem dX0_init_37 : decode cX0_init 37 = .ok (.bipush 6, 2) := by decide +kernel
theorem dX0_init_39 : decode cX0_init 39 = .ok (.newarray .int, 2) := by decide +kernel
theorem dX0_init_41 : decode cX0_init 41 = .ok (.putfield 26, 3) := by decide +kernel
theorem dX0_init_44 : decode cX0_init 44 = .ok (.aload_n 0, 1) := by decide +kernel
theorem dX0_init_45 : decode cX0_init 45 = .ok (.bipush 108, 2) := by decide +kernel
theorem dX0_init_47 : decode cX0_init 47 = .ok (.newarray .int, 2) := by decide +kernel
theorem dX0_init_49 : decode cX0_init 49 = .ok (.putfield 29, 3) := by decide +kernel
theorem dX0_init_52 : decode cX0_init 52 = .ok (.aload_n 0, 1) := by decide +kernel
theorem dX0_init_53 : decode cX0_init 53 = .ok (.iconst 4, 1) := by decide +kernel
theorem dX0_init_54 : decode cX0_init 54 = .ok (.newarray .int, 2) := by decide +kernel
theorem dX0_init_56 : decode cX0_init 56 = .ok (.putfield 32, 3) := by decide +kernel
theorem dX0_init_59 : decode cX0_init 59 = .ok (.aload_n 0, 1) := by decide +kernel
theorem dX0_init_60 : decode cX0_init 60 = .ok (.iconst 4, 1) := by decide +kernel
theorem dX0_init_61 : decode cX0_init 61 = .ok (.newarray .int, 2) := by decide +kernel
theorem dX0_init_63 : decode cX0_init 63 = .ok (.putfield 35, 3) := by decide +kernel
theorem dX0_init_66 : decode cX0_init 66 = .ok (.aload_n 0, 1) := by decide +kernel
theorem dX0_init_67 : decode cX0_init 67 = .ok (.iconst 4, 1) := by decide +kernel
theorem dX0_init_68 : decode cX0_init 68 = .ok (.newarray .int, 2) := by decide +kernel
theorem dX0_init_70 : decode cX0_init 70 = .ok (.putfield 38, 3) := by decide +kernel
theorem dX0_init_73 : decode cX0_init 73 = .ok (.aload_n 0, 1) := by decide +kernel
theorem dX0_init_74 : decode cX0_init 74 = .ok (.iconst 4, 1) := by decide +kernel
theorem dX0_init_75 : decode cX0_init 75 = .ok (.iconst 4, 1) := by decide +kernel
theorem dX0_init_76 : decode cX0_init 76 = .ok (.multianewarray 21 2, 4) := by decide +kernel
theorem dX0_init_80 : decode cX0_init 80 = .ok (.putfield 41, 3) := by decide +kernel
theorem dX0_init_83 : decode cX0_init 83 = .ok (.aload_n 0, 1) := by decide +kernel
theorem dX0_init_84 : decode cX0_init 84 = .ok (.aload_n 1, 1) := by decide +kernel
theorem dX0_init_85 : decode cX0_init 85 = .ok (.putfield 44, 3) := by decide +kernel
theorem dX0_init_88 : decode cX0_init 88 = .ok (.return_, 1) := by decide +kernel
theorem dX0_players_0 : decode cX0_players 0 = .ok (.aload_n 0, 1) := by decide +kernel
theorem dX0_players_1 : decode cX0_players 1 = .ok (.getfield 44, 3) := by decide +kernel
theorem dX0_players_4 : decode cX0_players 4 = .ok (.getfield 48, 3) := by decide +kernel
theorem dX0_players_7 : decode cX0_players 7 = .ok (.bipush 6, 2) := by decide +kernel
theorem dX0_players_9 : decode cX0_players 9 = .ok (.if_icmp .ge 13, 3) := by decide +kernel
theorem dX0_players_12 : decode cX0_players 12 = .ok (.aload_n 0, 1) := by decide +kernel
theorem dX0_players_13 : decode cX0_players 13 = .ok (.getfield 44, 3) := by decide +kernel
theorem dX0_players_16 : decode cX0_players 16 = .ok (.getfield 48, 3) := by decide +kernel
theorem dX0_players_19 : decode cX0_players 19 = .ok (.goto 5, 3) := by decide +kernel
theorem dX0_players_22 : decode cX0_players 22 = .ok (.bipush 6, 2) := by decide +kernel
theorem dX0_players_24 : decode cX0_players 24 = .ok (.ireturn, 1) := by decide +kernel
theorem dX0_toldParty_0 : decode cX0_toldParty 0 = .ok (.iload_n 0, 1) := by decide +kernel
theorem dX0_toldParty_1 : decode cX0_toldParty 1 = .ok (.iconst 2, 1) := by decide +kernel
theorem dX0_toldParty_2 : decode cX0_toldParty 2 = .ok (.iload_n 1, 1) := by decide +kernel
theorem dX0_toldParty_3 : decode cX0_toldParty 3 = .ok (.imul, 1) := by decide +kernel
theorem dX0_toldParty_4 : decode cX0_toldParty 4 = .ok (.ishr, 1) := by decide +kernel
theorem dX0_toldParty_5 : decode cX0_toldParty 5 = .ok (.iconst 3, 1) := by decide +kernel
theorem dX0_toldParty_6 : decode cX0_toldParty 6 = .ok (.iand, 1) := by decide +kernel
theorem dX0_toldParty_7 : decode cX0_toldParty 7 = .ok (.ireturn, 1) := by decide +kernel
theorem dX0_isTold_0 : decode cX0_isTold 0 = .ok (.aload_n 0, 1) := by decide +kernel
theorem dX0_isTold_1 : decode cX0_isTold 1 = .ok (.invokevirtual 54, 3) := by decide +kernel
theorem dX0_isTold_4 : decode cX0_isTold 4 = .ok (.istore_n 2, 1) := by decide +kernel
theorem dX0_isTold_5 : decode cX0_isTold 5 = .ok (.iconst 0, 1) := by decide +kernel
theorem dX0_isTold_6 : decode cX0_isTold 6 = .ok (.istore_n 3, 1) := by decide +kernel
theorem dX0_isTold_7 : decode cX0_isTold 7 = .ok (.iload_n 3, 1) := by decide +kernel
theorem dX0_isTold_8 : decode cX0_isTold 8 = .ok (.iload_n 2, 1) := by decide +kernel
theorem dX0_isTold_9 : decode cX0_isTold 9 = .ok (.if_icmp .ge 26, 3) := by decide +kernel
theorem dX0_isTold_12 : decode cX0_isTold 12 = .ok (.iload_n 1, 1) := by decide +kernel
theorem dX0_isTold_13 : decode cX0_isTold 13 = .ok (.iload_n 3, 1) := by decide +kernel
theorem dX0_isTold_14 : decode cX0_isTold 14 = .ok (.invokestatic 58, 3) := by decide +kernel
theorem dX0_isTold_17 : decode cX0_isTold 17 = .ok (.aload_n 0, 1) := by decide +kernel
theorem dX0_isTold_18 : decode cX0_isTold 18 = .ok (.getfield 44, 3) := by decide +kernel
theorem dX0_isTold_21 : decode cX0_isTold 21 = .ok (.getfield 62, 3) := by decide +kernel
theorem dX0_isTold_24 : decode cX0_isTold 24 = .ok (.if_icmp .lt 5, 3) := by decide +kernel
theorem dX0_isTold_27 : decode cX0_isTold 27 = .ok (.iconst 0, 1) := by decide +kernel
theorem dX0_isTold_28 : decode cX0_isTold 28 = .ok (.ireturn, 1) := by decide +kernel
theorem dX0_isTold_29 : decode cX0_isTold 29 = .ok (.iinc 3 1, 3) := by decide +kernel
theorem dX0_isTold_32 : decode cX0_isTold 32 = .ok (.goto (-25), 3) := by decide +kernel
theorem dX0_isTold_35 : decode cX0_isTold 35 = .ok (.iconst 1, 1) := by decide +kernel
theorem dX0_isTold_36 : decode cX0_isTold 36 = .ok (.ireturn, 1) := by decide +kernel
theorem dX0_isRest_0 : decode cX0_isRest 0 = .ok (.aload_n 0, 1) := by decide +kernel
theorem dX0_isRest_1 : decode cX0_isRest 1 = .ok (.invokevirtual 54, 3) := by decide +kernel
theorem dX0_isRest_4 : decode cX0_isRest 4 = .ok (.istore_n 2, 1) := by decide +kernel
theorem dX0_isRest_5 : decode cX0_isRest 5 = .ok (.aload_n 0, 1) := by decide +kernel
theorem dX0_isRest_6 : decode cX0_isRest 6 = .ok (.invokevirtual 65, 3) := by decide +kernel
theorem dX0_isRest_9 : decode cX0_isRest 9 = .ok (.iconst 0, 1) := by decide +kernel
theorem dX0_isRest_10 : decode cX0_isRest 10 = .ok (.istore_n 3, 1) := by decide +kernel
theorem dX0_isRest_11 : decode cX0_isRest 11 = .ok (.iload_n 3, 1) := by decide +kernel
theorem dX0_isRest_12 : decode cX0_isRest 12 = .ok (.iload_n 2, 1) := by decide +kernel
theorem dX0_isRest_13 : decode cX0_isRest 13 = .ok (.if_icmp .ge 23, 3) := by decide +kernel
theorem dX0_isRest_16 : decode cX0_isRest 16 = .ok (.aload_n 0, 1) := by decide +kernel
theorem dX0_isRest_17 : decode cX0_isRest 17 = .ok (.getfield 15, 3) := by decide +kernel
theorem dX0_isRest_20 : decode cX0_isRest 20 = .ok (.iload_n 1, 1) := by decide +kernel
theorem dX0_isRest_21 : decode cX0_isRest 21 = .ok (.iload_n 3, 1) := by decide +kernel
theorem dX0_isRest_22 : decode cX0_isRest 22 = .ok (.invokestatic 58, 3) := by decide +kernel
theorem dX0_isRest_25 : decode cX0_isRest 25 = .ok (.dup2, 1) := by decide +kernel
theorem dX0_isRest_26 : decode cX0_isRest 26 = .ok (.iaload, 1) := by decide +kernel
theorem dX0_isRest_27 : decode cX0_isRest 27 = .ok (.iconst 1, 1) := by decide +kernel
theorem dX0_isRest_28 : decode cX0_isRest 28 = .ok (.iadd, 1) := by decide +kernel
theorem dX0_isRest_29 : decode cX0_isRest 29 = .ok (.iastore, 1) := by decide +kernel
theorem dX0_isRest_30 : decode cX0_isRest 30 = .ok (.iinc 3 1, 3) := by decide +kernel
theorem dX0_isRest_33 : decode cX0_isRest 33 = .ok (.goto (-22), 3) := by decide +kernel
theorem dX0_isRest_36 : decode cX0_isRest 36 = .ok (.iconst 0, 1) := by decide +kernel
theorem dX0_isRest_37 : decode cX0_isRest 37 = .ok (.istore_n 3, 1) := by decide +kernel
theorem dX0_isRest_38 : decode cX0_isRest 38 = .ok (.iload_n 3, 1) := by decide +kernel
theorem dX0_isRest_39 : decode cX0_isRest 39 = .ok (.iload_n 2, 1) := by decide +kernel
theorem dX0_isRest_40 : decode cX0_isRest 40 = .ok (.if_icmp .ge 24, 3) := by decide +kernel
theorem dX0_isRest_43 : decode cX0_isRest 43 = .ok (.aload_n 0, 1) := by decide +kernel
theorem dX0_isRest_44 : decode cX0_isRest 44 = .ok (.iload_n 3, 1) := by decide +kernel
theorem dX0_isRest_45 : decode cX0_isRest 45 = .ok (.iload_n 1, 1) := by decide +kernel
theorem dX0_isRest_46 : decode cX0_isRest 46 = .ok (.iload_n 3, 1) := by decide +kernel
theorem dX0_isRest_47 : decode cX0_isRest 47 = .ok (.invokestatic 58, 3) := by decide +kernel
theorem dX0_isRest_50 : decode cX0_isRest 50 = .ok (.invokevirtual 68, 3) := by decide +kernel
theorem dX0_isRest_53 : decode cX0_isRest 53 = .ok (.ifCond .ne 5, 3) := by decide +kernel
theorem dX0_isRest_56 : decode cX0_isRest 56 = .ok (.iconst 0, 1) := by decide +kernel
theorem dX0_isRest_57 : decode cX0_isRest 57 = .ok (.ireturn, 1) := by decide +kernel
theorem dX0_isRest_58 : decode cX0_isRest 58 = .ok (.iinc 3 1, 3) := by decide +kernel
theorem dX0_isRest_61 : decode cX0_isRest 61 = .ok (.goto (-23), 3) := by decide +kernel
theorem dX0_isRest_64 : decode cX0_isRest 64 = .ok (.iconst 1, 1) := by decide +kernel
theorem dX0_isRest_65 : decode cX0_isRest 65 = .ok (.ireturn, 1) := by decide +kernel
theorem dX0_restfulRows_0 : decode cX0_restfulRows 0 = .ok (.aload_n 0, 1) := by decide +kernel
theorem dX0_restfulRows_1 : decode cX0_restfulRows 1 = .ok (.getfield 44, 3) := by decide +kernel
theorem dX0_restfulRows_4 : decode cX0_restfulRows 4 = .ok (.getfield 62, 3) := by decide +kernel
theorem dX0_restfulRows_7 : decode cX0_restfulRows 7 = .ok (.ifCond .ne 5, 3) := by decide +kernel
theorem dX0_restfulRows_10 : decode cX0_restfulRows 10 = .ok (.iconst 0, 1) := by decide +kernel
theorem dX0_restfulRows_11 : decode cX0_restfulRows 11 = .ok (.ireturn, 1) := by decide +kernel
theorem dX0_restfulRows_12 : decode cX0_restfulRows 12 = .ok (.aload_n 0, 1) := by decide +kernel
theorem dX0_restfulRows_13 : decode cX0_restfulRows 13 = .ok (.getfield 72, 3) := by decide +kernel
theorem dX0_restfulRows_16 : decode cX0_restfulRows 16 = .ok (.aload_n 0, 1) := by decide +kernel
theorem dX0_restfulRows_17 : decode cX0_restfulRows 17 = .ok (.getfield 44, 3) := by decide +kernel
theorem dX0_restfulRows_20 : decode cX0_restfulRows 20 = .ok (.getfield 75, 3) := by decide +kernel
theorem dX0_restfulRows_23 : decode cX0_restfulRows 23 = .ok (.if_icmp .eq 31, 3) := by decide +kernel
theorem dX0_restfulRows_26 : decode cX0_restfulRows 26 = .ok (.aload_n 0, 1) := by decide +kernel
theorem dX0_restfulRows_27 : decode cX0_restfulRows 27 = .ok (.aload_n 0, 1) := by decide +kernel
theorem dX0_restfulRows_28 : decode cX0_restfulRows 28 = .ok (.getfield 44, 3) := by decide +kernel
theorem dX0_restfulRows_31 : decode cX0_restfulRows 31 = .ok (.getfield 75, 3) := by decide +kernel
theorem dX0_restfulRows_34 : decode cX0_restfulRows 34 = .ok (.putfield 72, 3) := by decide +kernel
theorem dX0_restfulRows_37 : decode cX0_restfulRows 37 = .ok (.aload_n 0, 1) := by decide +kernel
theorem dX0_restfulRows_38 : decode cX0_restfulRows 38 = .ok (.invokevirtual 65, 3) := by decide +kernel
theorem dX0_restfulRows_41 : decode cX0_restfulRows 41 = .ok (.aload_n 0, 1) := by decide +kernel
theorem dX0_restfulRows_42 : decode cX0_restfulRows 42 = .ok (.aload_n 0, 1) := by decide +kernel
theorem dX0_restfulRows_43 : decode cX0_restfulRows 43 = .ok (.iconst 0, 1) := by decide +kernel
theorem dX0_restfulRows_44 : decode cX0_restfulRows 44 = .ok (.aload_n 0, 1) := by decide +kernel
theorem dX0_restfulRows_45 : decode cX0_restfulRows 45 = .ok (.invokevirtual 54, 3) := by decide +kernel
theorem dX0_restfulRows_48 : decode cX0_restfulRows 48 = .ok (.invokevirtual 78, 3) := by decide +kernel
theorem dX0_restfulRows_51 : decode cX0_restfulRows 51 = .ok (.putfield 81, 3) := by decide +kernel
theorem dX0_restfulRows_54 : decode cX0_restfulRows 54 = .ok (.aload_n 0, 1) := by decide +kernel
theorem dX0_restfulRows_55 : decode cX0_restfulRows 55 = .ok (.getfield 81, 3) := by decide +kernel
theorem dX0_restfulRows_58 : decode cX0_restfulRows 58 = .ok (.ireturn, 1) := by decide +kernel
theorem dX0_prepare_0 : decode cX0_prepare 0 = .ok (.aload_n 0, 1) := by decide +kernel
theorem dX0_prepare_1 : decode cX0_prepare 1 = .ok (.getfield 15, 3) := by decide +kernel
theorem dX0_prepare_4 : decode cX0_prepare 4 = .ok (.iconst 0, 1) := by decide +kernel
theorem dX0_prepare_5 : decode cX0_prepare 5 = .ok (.invokestatic 84, 3) := by decide +kernel
theorem dX0_prepare_8 : decode cX0_prepare 8 = .ok (.iconst 0, 1) := by decide +kernel
theorem dX0_prepare_9 : decode cX0_prepare 9 = .ok (.istore_n 1, 1) := by decide +kernel
theorem dX0_prepare_10 : decode cX0_prepare 10 = .ok (.iload_n 1, 1) := by decide +kernel
theorem dX0_prepare_11 : decode cX0_prepare 11 = .ok (.aload_n 0, 1) := by decide +kernel
theorem dX0_prepare_12 : decode cX0_prepare 12 = .ok (.getfield 44, 3) := by decide +kernel
theorem dX0_prepare_15 : decode cX0_prepare 15 = .ok (.getfield 48, 3) := by decide +kernel
theorem dX0_prepare_18 : decode cX0_prepare 18 = .ok (.if_icmp .ge 71, 3) := by decide +kernel
theorem dX0_prepare_21 : decode cX0_prepare 21 = .ok (.iload_n 1, 1) := by decide +kernel
theorem dX0_prepare_22 : decode cX0_prepare 22 = .ok (.bipush 6, 2) := by decide +kernel
theorem dX0_prepare_24 : decode cX0_prepare 24 = .ok (.if_icmp .ge 21, 3) := by decide +kernel
theorem dX0_prepare_27 : decode cX0_prepare 27 = .ok (.aload_n 0, 1) := by decide +kernel
theorem dX0_prepare_28 : decode cX0_prepare 28 = .ok (.getfield 44, 3) := by decide +kernel
theorem dX0_prepare_31 : decode cX0_prepare 31 = .ok (.iload_n 1, 1) := by decide +kernel
theorem dX0_prepare_32 : decode cX0_prepare 32 = .ok (.iconst 0, 1) := by decide +kernel
theorem dX0_prepare_33 : decode cX0_prepare 33 = .ok (.aload_n 0, 1) := by decide +kernel
theorem dX0_prepare_34 : decode cX0_prepare 34 = .ok (.getfield 23, 3) := by decide +kernel
theorem dX0_prepare_37 : decode cX0_prepare 37 = .ok (.iload_n 1, 1) := by decide +kernel
theorem dX0_prepare_38 : decode cX0_prepare 38 = .ok (.aaload, 1) := by decide +kernel
theorem dX0_prepare_39 : decode cX0_prepare 39 = .ok (.invokevirtual 90, 3) := by decide +kernel
theorem dX0_prepare_42 : decode cX0_prepare 42 = .ok (.goto 41, 3) := by decide +kernel
theorem dX0_prepare_45 : decode cX0_prepare 45 = .ok (.aload_n 0, 1) := by decide +kernel
theorem dX0_prepare_46 : decode cX0_prepare 46 = .ok (.getfield 44, 3) := by decide +kernel
theorem dX0_prepare_49 : decode cX0_prepare 49 = .ok (.iload_n 1, 1) := by decide +kernel
theorem dX0_prepare_50 : decode cX0_prepare 50 = .ok (.iconst 0, 1) := by decide +kernel
theorem dX0_prepare_51 : decode cX0_prepare 51 = .ok (.aload_n 0, 1) := by decide +kernel
theorem dX0_prepare_52 : decode cX0_prepare 52 = .ok (.getfield 9, 3) := by decide +kernel
theorem dX0_prepare_55 : decode cX0_prepare 55 = .ok (.invokevirtual 90, 3) := by decide +kernel
theorem dX0_prepare_58 : decode cX0_prepare 58 = .ok (.aload_n 0, 1) := by decide +kernel
theorem dX0_prepare_59 : decode cX0_prepare 59 = .ok (.getfield 15, 3) := by decide +kernel
theorem dX0_prepare_62 : decode cX0_prepare 62 = .ok (.aload_n 0, 1) := by decide +kernel
theorem dX0_prepare_63 : decode cX0_prepare 63 = .ok (.getfield 9, 3) := by decide +kernel
theorem dX0_prepare_66 : decode cX0_prepare 66 = .ok (.iconst 0, 1) := by decide +kernel
theorem dX0_prepare_67 : decode cX0_prepare 67 = .ok (.aload_n 0, 1) := by decide +kernel
theorem dX0_prepare_68 : decode cX0_prepare 68 = .ok (.getfield 44, 3) := by decide +kernel
theorem dX0_prepare_71 : decode cX0_prepare 71 = .ok (.getfield 62, 3) := by decide +kernel
theorem dX0_prepare_74 : decode cX0_prepare 74 = .ok (.iconst (-1), 1) := by decide +kernel
theorem dX0_prepare_75 : decode cX0_prepare 75 = .ok (.invokestatic 94, 3) := by decide +kernel
theorem dX0_prepare_78 : decode cX0_prepare 78 = .ok (.dup2, 1) := by decide +kernel
theorem dX0_prepare_79 : decode cX0_prepare 79 = .ok (.iaload, 1) := by decide +kernel
theorem dX0_prepare_80 : decode cX0_prepare 80 = .ok (.iconst 1, 1) := by decide +kernel
theorem dX0_prepare_81 : decode cX0_prepare 81 = .ok (.iadd, 1) := by decide +kernel
theorem dX0_prepare_82 : decode cX0_prepare 82 = .ok (.iastore, 1) := by decide +kernel
theorem dX0_prepare_83 : decode cX0_prepare 83 = .ok (.iinc 1 1, 3) := by decide +kernel
theorem dX0_prepare_86 : decode cX0_prepare 86 = .ok (.goto (-76), 3) := by decide +kernel
theorem dX0_prepare_89 : decode cX0_prepare 89 = .ok (.return_, 1) := by decide +kernel
theorem dX0_isContent_0 : decode cX0_isContent 0 = .ok (.aload_n 0, 1) := by decide +kernel
theorem dX0_isContent_1 : decode cX0_isContent 1 = .ok (.getfield 23, 3) := by decide +kernel
theorem dX0_isContent_4 : decode cX0_isContent 4 = .ok (.iload_n 1, 1) := by decide +kernel
theorem dX0_isContent_5 : decode cX0_isContent 5 = .ok (.aaload, 1) := by decide +kernel
theorem dX0_isContent_6 : decode cX0_isContent 6 = .ok (.astore_n 3, 1) := by decide +kernel
theorem dX0_isContent_7 : decode cX0_isContent 7 = .ok (.aload_n 3, 1) := by decide +kernel
theorem dX0_isContent_8 : decode cX0_isContent 8 = .ok (.aload_n 0, 1) := by decide +kernel
theorem dX0_isContent_9 : decode cX0_isContent 9 = .ok (.getfield 15, 3) := by decide +kernel
theorem dX0_isContent_12 : decode cX0_isContent 12 = .ok (.iconst 0, 1) := by decide +kernel
theorem dX0_isContent_13 : decode cX0_isContent 13 = .ok (.aload_n 0, 1) := by decide +kernel
theorem dX0_isContent_14 : decode cX0_isContent 14 = .ok (.getfield 44, 3) := by decide +kernel
theorem dX0_isContent_17 : decode cX0_isContent 17 = .ok (.getfield 62, 3) := by decide +kernel
theorem dX0_isContent_20 : decode cX0_isContent 20 = .ok (.iconst (-1), 1) := by decide +kernel
theorem dX0_isContent_21 : decode cX0_isContent 21 = .ok (.invokestatic 94, 3) := by decide +kernel
theorem dX0_isContent_24 : decode cX0_isContent 24 = .ok (.iaload, 1) := by decide +kernel
theorem dX0_isContent_25 : decode cX0_isContent 25 = .ok (.istore 4, 2) := by decide +kernel
theorem dX0_isContent_27 : decode cX0_isContent 27 = .ok (.iconst 1, 1) := by decide +kernel
theorem dX0_isContent_28 : decode cX0_isContent 28 = .ok (.istore 5, 2) := by decide +kernel
theorem dX0_isContent_30 : decode cX0_isContent 30 = .ok (.aload_n 0, 1) := by decide +kernel
theorem dX0_isContent_31 : decode cX0_isContent 31 = .ok (.getfield 15, 3) := by decide +kernel
theorem dX0_isContent_34 : decode cX0_isContent 34 = .ok (.iload_n 2, 1) := by decide +kernel
theorem dX0_isContent_35 : decode cX0_isContent 35 = .ok (.dup2, 1) := by decide +kernel
theorem dX0_isContent_36 : decode cX0_isContent 36 = .ok (.iaload, 1) := by decide +kernel
theorem dX0_isContent_37 : decode cX0_isContent 37 = .ok (.iconst 1, 1) := by decide +kernel
theorem dX0_isContent_38 : decode cX0_isContent 38 = .ok (.isub, 1) := by decide +kernel
theorem dX0_isContent_39 : decode cX0_isContent 39 = .ok (.iastore, 1) := by decide +kernel
theorem dX0_isContent_40 : decode cX0_isContent 40 = .ok (.iconst 0, 1) := by decide +kernel
theorem dX0_isContent_41 : decode cX0_isContent 41 = .ok (.istore 6, 2) := by decide +kernel
theorem dX0_isContent_43 : decode cX0_isContent 43 = .ok (.iload 6, 2) := by decide +kernel
theorem dX0_isContent_45 : decode cX0_isContent 45 = .ok (.aload_n 0, 1) := by decide +kernel
theorem dX0_isContent_46 : decode cX0_isContent 46 = .ok (.getfield 44, 3) := by decide +kernel
theorem dX0_isContent_49 : decode cX0_isContent 49 = .ok (.getfield 62, 3) := by decide +kernel
theorem dX0_isContent_52 : decode cX0_isContent 52 = .ok (.if_icmp .ge 66, 3) := by decide +kernel
theorem dX0_isContent_55 : decode cX0_isContent 55 = .ok (.iload 5, 2) := by decide +kernel
theorem dX0_isContent_57 : decode cX0_isContent 57 = .ok (.ifCond .eq 61, 3) := by decide +kernel
theorem dX0_isContent_60 : decode cX0_isContent 60 = .ok (.aload_n 0, 1) := by decide +kernel
theorem dX0_isContent_61 : decode cX0_isContent 61 = .ok (.getfield 15, 3) := by decide +kernel
theorem dX0_isContent_64 : decode cX0_isContent 64 = .ok (.iload 6, 2) := by decide +kernel
theorem dX0_isContent_66 : decode cX0_isContent 66 = .ok (.dup2, 1) := by decide +kernel
theorem dX0_isContent_67 : decode cX0_isContent 67 = .ok (.iaload, 1) := by decide +kernel
theorem dX0_isContent_68 : decode cX0_isContent 68 = .ok (.iconst 1, 1) := by decide +kernel
theorem dX0_isContent_69 : decode cX0_isContent 69 = .ok (.iadd, 1) := by decide +kernel
theorem dX0_isContent_70 : decode cX0_isContent 70 = .ok (.iastore, 1) := by decide +kernel
theorem dX0_isContent_71 : decode cX0_isContent 71 = .ok (.aload_n 3, 1) := by decide +kernel
theorem dX0_isContent_72 : decode cX0_isContent 72 = .ok (.aload_n 0, 1) := by decide +kernel
theorem dX0_isContent_73 : decode cX0_isContent 73 = .ok (.getfield 15, 3) := by decide +kernel
theorem dX0_isContent_76 : decode cX0_isContent 76 = .ok (.iconst 0, 1) := by decide +kernel
theorem dX0_isContent_77 : decode cX0_isContent 77 = .ok (.aload_n 0, 1) := by decide +kernel
theorem dX0_isContent_78 : decode cX0_isContent 78 = .ok (.getfield 44, 3) := by decide +kernel
theorem dX0_isContent_81 : decode cX0_isContent 81 = .ok (.getfield 62, 3) := by decide +kernel
theorem dX0_isContent_84 : decode cX0_isContent 84 = .ok (.iconst (-1), 1) := by decide +kernel
theorem dX0_isContent_85 : decode cX0_isContent 85 = .ok (.invokestatic 94, 3) := by decide +kernel
theorem dX0_isContent_88 : decode cX0_isContent 88 = .ok (.iaload, 1) := by decide +kernel
theorem dX0_isContent_89 : decode cX0_isContent 89 = .ok (.iload 4, 2) := by decide +kernel
theorem dX0_isContent_91 : decode cX0_isContent 91 = .ok (.if_icmp .gt 7, 3) := by decide +kernel
theorem dX0_isContent_94 : decode cX0_isContent 94 = .ok (.iconst 1, 1) := by decide +kernel
theorem dX0_isContent_95 : decode cX0_isContent 95 = .ok (.goto 4, 3) := by decide +kernel
theorem dX0_isContent_98 : decode cX0_isContent 98 = .ok (.iconst 0, 1) := by decide +kernel
theorem dX0_isContent_99 : decode cX0_isContent 99 = .ok (.istore 5, 2) := by decide +kernel
theorem dX0_isContent_101 : decode cX0_isContent 101 = .ok (.aload_n 0, 1) := by decide +kernel
theorem dX0_isContent_102 : decode cX0_isContent 102 = .ok (.getfield 15, 3) := by decide +kernel
theorem dX0_isContent_105 : decode cX0_isContent 105 = .ok (.iload 6, 2) := by decide +kernel
theorem dX0_isContent_107 : decode cX0_isContent 107 = .ok (.dup2, 1) := by decide +kernel
theorem dX0_isContent_108 : decode cX0_isContent 108 = .ok (.iaload, 1) := by decide +kernel
theorem dX0_isContent_109 : decode cX0_isContent 109 = .ok (.iconst 1, 1) := by decide +kernel
theorem dX0_isContent_110 : decode cX0_isContent 110 = .ok (.isub, 1) := by decide +kernel
theorem dX0_isContent_111 : decode cX0_isContent 111 = .ok (.iastore, 1) := by decide +kernel
theorem dX0_isContent_112 : decode cX0_isContent 112 = .ok (.iinc 6 1, 3) := by decide +kernel
theorem dX0_isContent_115 : decode cX0_isContent 115 = .ok (.goto (-72), 3) := by decide +kernel
theorem dX0_isContent_118 : decode cX0_isContent 118 = .ok (.aload_n 0, 1) := by decide +kernel
theorem dX0_isContent_119 : decode cX0_isContent 119 = .ok (.getfield 15, 3) := by decide +kernel
theorem dX0_isContent_122 : decode cX0_isContent 122 = .ok (.iload_n 2, 1) := by decide +kernel
theorem dX0_isContent_123 : decode cX0_isContent 123 = .ok (.dup2, 1) := by decide +kernel
theorem dX0_isContent_124 : decode cX0_isContent 124 = .ok (.iaload, 1) := by decide +kernel
theorem dX0_isContent_125 : decode cX0_isContent 125 = .ok (.iconst 1, 1) := by decide +kernel
theorem dX0_isContent_126 : decode cX0_isContent 126 = .ok (.iadd, 1) := by decide +kernel
theorem dX0_isContent_127 : decode cX0_isContent 127 = .ok (.iastore, 1) := by decide +kernel
theorem dX0_isContent_128 : decode cX0_isContent 128 = .ok (.iload 5, 2) := by decide +kernel
theorem dX0_isContent_130 : decode cX0_isContent 130 = .ok (.ireturn, 1) := by decide +kernel
theorem dX0_restsOfSpread_0 : decode cX0_restsOfSpread 0 = .ok (.iload_n 1, 1) := by decide +kernel
theorem dX0_restsOfSpread_1 : decode cX0_restsOfSpread 1 = .ok (.aload_n 0, 1) := by decide +kernel
theorem dX0_restsOfSpread_2 : decode cX0_restsOfSpread 2 = .ok (.getfield 44, 3) := by decide +kernel
theorem dX0_restsOfSpread_5 : decode cX0_restsOfSpread 5 = .ok (.getfield 62, 3) := by decide +kernel
theorem dX0_restsOfSpread_8 : decode cX0_restsOfSpread 8 = .ok (.if_icmp .lt 16, 3) := by decide +kernel
theorem dX0_restsOfSpread_11 : decode cX0_restsOfSpread 11 = .ok (.iload_n 2, 1) := by decide +kernel
theorem dX0_restsOfSpread_12 : decode cX0_restsOfSpread 12 = .ok (.ifCond .ne 10, 3) := by decide +kernel
theorem dX0_restsOfSpread_15 : decode cX0_restsOfSpread 15 = .ok (.aload_n 0, 1) := by decide +kernel
theorem dX0_restsOfSpread_16 : decode cX0_restsOfSpread 16 = .ok (.invokevirtual 98, 3) := by decide +kernel
theorem dX0_restsOfSpread_19 : decode cX0_restsOfSpread 19 = .ok (.goto 4, 3) := by decide +kernel
theorem dX0_restsOfSpread_22 : decode cX0_restsOfSpread 22 = .ok (.iconst 0, 1) := by decide +kernel
theorem dX0_restsOfSpread_23 : decode cX0_restsOfSpread 23 = .ok (.ireturn, 1) := by decide +kernel
theorem dX0_restsOfSpread_24 : decode cX0_restsOfSpread 24 = .ok (.iconst 0, 1) := by decide +kernel
theorem dX0_restsOfSpread_25 : decode cX0_restsOfSpread 25 = .ok (.istore_n 3, 1) := by decide +kernel
theorem dX0_restsOfSpread_26 : decode cX0_restsOfSpread 26 = .ok (.iconst 0, 1) := by decide +kernel
theorem dX0_restsOfSpread_27 : decode cX0_restsOfSpread 27 = .ok (.istore 4, 2) := by decide +kernel
theorem dX0_restsOfSpread_29 : decode cX0_restsOfSpread 29 = .ok (.iload 4, 2) := by decide +kernel
theorem dX0_restsOfSpread_31 : decode cX0_restsOfSpread 31 = .ok (.iload_n 2, 1) := by decide +kernel
theorem dX0_restsOfSpread_32 : decode cX0_restsOfSpread 32 = .ok (.if_icmp .gt 53, 3) := by decide +kernel
theorem dX0_restsOfSpread_35 : decode cX0_restsOfSpread 35 = .ok (.aload_n 0, 1) := by decide +kernel
theorem dX0_restsOfSpread_36 : decode cX0_restsOfSpread 36 = .ok (.getfield 15, 3) := by decide +kernel
theorem dX0_restsOfSpread_39 : decode cX0_restsOfSpread 39 = .ok (.iload_n 1, 1) := by decide +kernel
theorem dX0_restsOfSpread_40 : decode cX0_restsOfSpread 40 = .ok (.dup2, 1) := by decide +kernel
theorem dX0_restsOfSpread_41 : decode cX0_restsOfSpread 41 = .ok (.iaload, 1) := by decide +kernel
theorem dX0_restsOfSpread_42 : decode cX0_restsOfSpread 42 = .ok (.iload 4, 2) := by decide +kernel
theorem dX0_restsOfSpread_44 : decode cX0_restsOfSpread 44 = .ok (.iadd, 1) := by decide +kernel
theorem dX0_restsOfSpread_45 : decode cX0_restsOfSpread 45 = .ok (.iastore, 1) := by decide +kernel
theorem dX0_restsOfSpread_46 : decode cX0_restsOfSpread 46 = .ok (.aload_n 0, 1) := by decide +kernel
theorem dX0_restsOfSpread_47 : decode cX0_restsOfSpread 47 = .ok (.getfield 18, 3) := by decide +kernel
theorem dX0_restsOfSpread_50 : decode cX0_restsOfSpread 50 = .ok (.iload_n 1, 1) := by decide +kernel
theorem dX0_restsOfSpread_51 : decode cX0_restsOfSpread 51 = .ok (.iload 4, 2) := by decide +kernel
theorem dX0_restsOfSpread_53 : decode cX0_restsOfSpread 53 = .ok (.iastore, 1) := by decide +kernel
theorem dX0_restsOfSpread_54 : decode cX0_restsOfSpread 54 = .ok (.iload_n 3, 1) := by decide +kernel
theorem dX0_restsOfSpread_55 : decode cX0_restsOfSpread 55 = .ok (.aload_n 0, 1) := by decide +kernel
theorem dX0_restsOfSpread_56 : decode cX0_restsOfSpread 56 = .ok (.iload_n 1, 1) := by decide +kernel
theorem dX0_restsOfSpread_57 : decode cX0_restsOfSpread 57 = .ok (.iconst 1, 1) := by decide +kernel
theorem dX0_restsOfSpread_58 : decode cX0_restsOfSpread 58 = .ok (.iadd, 1) := by decide +kernel
theorem dX0_restsOfSpread_59 : decode cX0_restsOfSpread 59 = .ok (.iload_n 2, 1) := by decide +kernel
theorem dX0_restsOfSpread_60 : decode cX0_restsOfSpread 60 = .ok (.iload 4, 2) := by decide +kernel
theorem dX0_restsOfSpread_62 : decode cX0_restsOfSpread 62 = .ok (.isub, 1) := by decide +kernel
theorem dX0_restsOfSpread_63 : decode cX0_restsOfSpread 63 = .ok (.invokevirtual 78, 3) := by decide +kernel
theorem dX0_restsOfSpread_66 : decode cX0_restsOfSpread 66 = .ok (.iadd, 1) := by decide +kernel
theorem dX0_restsOfSpread_67 : decode cX0_restsOfSpread 67 = .ok (.istore_n 3, 1) := by decide +kernel
theorem dX0_restsOfSpread_68 : decode cX0_restsOfSpread 68 = .ok (.aload_n 0, 1) := by decide +kernel
theorem dX0_restsOfSpread_69 : decode cX0_restsOfSpread 69 = .ok (.getfield 15, 3) := by decide +kernel
theorem dX0_restsOfSpread_72 : decode cX0_restsOfSpread 72 = .ok (.iload_n 1, 1) := by decide +kernel
theorem dX0_restsOfSpread_73 : decode cX0_restsOfSpread 73 = .ok (.dup2, 1) := by decide +kernel
theorem dX0_restsOfSpread_74 : decode cX0_restsOfSpread 74 = .ok (.iaload, 1) := by decide +kernel
theorem dX0_restsOfSpread_75 : decode cX0_restsOfSpread 75 = .ok (.iload 4, 2) := by decide +kernel
theorem dX0_restsOfSpread_77 : decode cX0_restsOfSpread 77 = .ok (.isub, 1) := by decide +kernel
theorem dX0_restsOfSpread_78 : decode cX0_restsOfSpread 78 = .ok (.iastore, 1) := by decide +kernel
theorem dX0_restsOfSpread_79 : decode cX0_restsOfSpread 79 = .ok (.iinc 4 1, 3) := by decide +kernel
theorem dX0_restsOfSpread_82 : decode cX0_restsOfSpread 82 = .ok (.goto (-53), 3) := by decide +kernel
theorem dX0_restsOfSpread_85 : decode cX0_restsOfSpread 85 = .ok (.iload_n 3, 1) := by decide +kernel
theorem dX0_restsOfSpread_86 : decode cX0_restsOfSpread 86 = .ok (.ireturn, 1) := by decide +kernel
theorem dX0_restsOfSums_0 : decode cX0_restsOfSums 0 = .ok (.aload_n 0, 1) := by decide +kernel
theorem dX0_restsOfSums_1 : decode cX0_restsOfSums 1 = .ok (.invokevirtual 54, 3) := by decide +kernel
theorem dX0_restsOfSums_4 : decode cX0_restsOfSums 4 = .ok (.istore_n 1, 1) := by decide +kernel
theorem dX0_restsOfSums_5 : decode cX0_restsOfSums 5 = .ok (.iconst 0, 1) := by decide +kernel
theorem dX0_restsOfSums_6 : decode cX0_restsOfSums 6 = .ok (.istore_n 2, 1) := by decide +kernel
theorem dX0_restsOfSums_7 : decode cX0_restsOfSums 7 = .ok (.iload_n 2, 1) := by decide +kernel
theorem dX0_restsOfSums_8 : decode cX0_restsOfSums 8 = .ok (.iload_n 1, 1) := by decide +kernel
theorem dX0_restsOfSums_9 : decode cX0_restsOfSums 9 = .ok (.if_icmp .ge 66, 3) := by decide +kernel
theorem dX0_restsOfSums_12 : decode cX0_restsOfSums 12 = .ok (.iconst 0, 1) := by decide +kernel
theorem dX0_restsOfSums_13 : decode cX0_restsOfSums 13 = .ok (.istore_n 3, 1) := by decide +kernel
theorem dX0_restsOfSums_14 : decode cX0_restsOfSums 14 = .ok (.iconst 0, 1) := by decide +kernel
theorem dX0_restsOfSums_15 : decode cX0_restsOfSums 15 = .ok (.istore 4, 2) := by decide +kernel
theorem dX0_restsOfSums_17 : decode cX0_restsOfSums 17 = .ok (.iload 4, 2) := by decide +kernel
theorem dX0_restsOfSums_19 : decode cX0_restsOfSums 19 = .ok (.aload_n 0, 1) := by decide +kernel
theorem dX0_restsOfSums_20 : decode cX0_restsOfSums 20 = .ok (.getfield 44, 3) := by decide +kernel
theorem dX0_restsOfSums_23 : decode cX0_restsOfSums 23 = .ok (.getfield 62, 3) := by decide +kernel
theorem dX0_restsOfSums_26 : decode cX0_restsOfSums 26 = .ok (.if_icmp .ge 36, 3) := by decide +kernel
theorem dX0_restsOfSums_29 : decode cX0_restsOfSums 29 = .ok (.aload_n 0, 1) := by decide +kernel
theorem dX0_restsOfSums_30 : decode cX0_restsOfSums 30 = .ok (.getfield 18, 3) := by decide +kernel
theorem dX0_restsOfSums_33 : decode cX0_restsOfSums 33 = .ok (.iload 4, 2) := by decide +kernel
theorem dX0_restsOfSums_35 : decode cX0_restsOfSums 35 = .ok (.iaload, 1) := by decide +kernel
theorem dX0_restsOfSums_36 : decode cX0_restsOfSums 36 = .ok (.ifCond .le 20, 3) := by decide +kernel
theorem dX0_restsOfSums_39 : decode cX0_restsOfSums 39 = .ok (.aload_n 0, 1) := by decide +kernel
theorem dX0_restsOfSums_40 : decode cX0_restsOfSums 40 = .ok (.iload_n 2, 1) := by decide +kernel
theorem dX0_restsOfSums_41 : decode cX0_restsOfSums 41 = .ok (.iload 4, 2) := by decide +kernel
theorem dX0_restsOfSums_43 : decode cX0_restsOfSums 43 = .ok (.invokevirtual 68, 3) := by decide +kernel
theorem dX0_restsOfSums_46 : decode cX0_restsOfSums 46 = .ok (.ifCond .eq 10, 3) := by decide +kernel
theorem dX0_restsOfSums_49 : decode cX0_restsOfSums 49 = .ok (.iload_n 3, 1) := by decide +kernel
theorem dX0_restsOfSums_50 : decode cX0_restsOfSums 50 = .ok (.iconst 1, 1) := by decide +kernel
theorem dX0_restsOfSums_51 : decode cX0_restsOfSums 51 = .ok (.iload 4, 2) := by decide +kernel
theorem dX0_restsOfSums_53 : decode cX0_restsOfSums 53 = .ok (.ishl, 1) := by decide +kernel
theorem dX0_restsOfSums_54 : decode cX0_restsOfSums 54 = .ok (.ior, 1) := by decide +kernel
theorem dX0_restsOfSums_55 : decode cX0_restsOfSums 55 = .ok (.istore_n 3, 1) := by decide +kernel
theorem dX0_restsOfSums_56 : decode cX0_restsOfSums 56 = .ok (.iinc 4 1, 3) := by decide +kernel
theorem dX0_restsOfSums_59 : decode cX0_restsOfSums 59 = .ok (.goto (-42), 3) := by decide +kernel
theorem dX0_restsOfSums_62 : decode cX0_restsOfSums 62 = .ok (.aload_n 0, 1) := by decide +kernel
theorem dX0_restsOfSums_63 : decode cX0_restsOfSums 63 = .ok (.getfield 26, 3) := by decide +kernel
theorem dX0_restsOfSums_66 : decode cX0_restsOfSums 66 = .ok (.iload_n 2, 1) := by decide +kernel
theorem dX0_restsOfSums_67 : decode cX0_restsOfSums 67 = .ok (.iload_n 3, 1) := by decide +kernel
theorem dX0_restsOfSums_68 : decode cX0_restsOfSums 68 = .ok (.iastore, 1) := by decide +kernel
theorem dX0_restsOfSums_69 : decode cX0_restsOfSums 69 = .ok (.iinc 2 1, 3) := by decide +kernel
theorem dX0_restsOfSums_72 : decode cX0_restsOfSums 72 = .ok (.goto (-65), 3) := by decide +kernel
theorem dX0_restsOfSums_75 : decode cX0_restsOfSums 75 = .ok (.aload_n 0, 1) := by decide +kernel
theorem dX0_restsOfSums_76 : decode cX0_restsOfSums 76 = .ok (.iconst 0, 1) := by decide +kernel
theorem dX0_restsOfSums_77 : decode cX0_restsOfSums 77 = .ok (.invokevirtual 101, 3) := by decide +kernel
theorem dX0_restsOfSums_80 : decode cX0_restsOfSums 80 = .ok (.ireturn, 1) := by decide +kernel
theorem dX0_rowsFrom_0 : decode cX0_rowsFrom 0 = .ok (.iload_n 1, 1) := by decide +kernel
theorem dX0_rowsFrom_1 : decode cX0_rowsFrom 1 = .ok (.aload_n 0, 1) := by decide +kernel
theorem dX0_rowsFrom_2 : decode cX0_rowsFrom 2 = .ok (.invokevirtual 54, 3) := by decide +kernel
theorem dX0_rowsFrom_5 : decode cX0_rowsFrom 5 = .ok (.if_icmp .lt 5, 3) := by decide +kernel
theorem dX0_rowsFrom_8 : decode cX0_rowsFrom 8 = .ok (.iconst 1, 1) := by decide +kernel
theorem dX0_rowsFrom_9 : decode cX0_rowsFrom 9 = .ok (.ireturn, 1) := by decide +kernel
theorem dX0_rowsFrom_10 : decode cX0_rowsFrom 10 = .ok (.iconst 0, 1) := by decide +kernel
theorem dX0_rowsFrom_11 : decode cX0_rowsFrom 11 = .ok (.istore_n 2, 1) := by decide +kernel
theorem dX0_rowsFrom_12 : decode cX0_rowsFrom 12 = .ok (.iconst 0, 1) := by decide +kernel
theorem dX0_rowsFrom_13 : decode cX0_rowsFrom 13 = .ok (.istore_n 3, 1) := by decide +kernel
theorem dX0_rowsFrom_14 : decode cX0_rowsFrom 14 = .ok (.iload_n 3, 1) := by decide +kernel
theorem dX0_rowsFrom_15 : decode cX0_rowsFrom 15 = .ok (.aload_n 0, 1) := by decide +kernel
theorem dX0_rowsFrom_16 : decode cX0_rowsFrom 16 = .ok (.getfield 44, 3) := by decide +kernel
theorem dX0_rowsFrom_19 : decode cX0_rowsFrom 19 = .ok (.getfield 62, 3) := by decide +kernel
theorem dX0_rowsFrom_22 : decode cX0_rowsFrom 22 = .ok (.if_icmp .ge 64, 3) := by decide +kernel
theorem dX0_rowsFrom_25 : decode cX0_rowsFrom 25 = .ok (.aload_n 0, 1) := by decide +kernel
theorem dX0_rowsFrom_26 : decode cX0_rowsFrom 26 = .ok (.getfield 18, 3) := by decide +kernel
theorem dX0_rowsFrom_29 : decode cX0_rowsFrom 29 = .ok (.iload_n 3, 1) := by decide +kernel
theorem dX0_rowsFrom_30 : decode cX0_rowsFrom 30 = .ok (.iaload, 1) := by decide +kernel
theorem dX0_rowsFrom_31 : decode cX0_rowsFrom 31 = .ok (.ifCond .eq 49, 3) := by decide +kernel
theorem dX0_rowsFrom_34 : decode cX0_rowsFrom 34 = .ok (.aload_n 0, 1) := by decide +kernel
theorem dX0_rowsFrom_35 : decode cX0_rowsFrom 35 = .ok (.getfield 26, 3) := by decide +kernel
theorem dX0_rowsFrom_38 : decode cX0_rowsFrom 38 = .ok (.iload_n 1, 1) := by decide +kernel
theorem dX0_rowsFrom_39 : decode cX0_rowsFrom 39 = .ok (.iaload, 1) := by decide +kernel
theorem dX0_rowsFrom_40 : decode cX0_rowsFrom 40 = .ok (.iload_n 3, 1) := by decide +kernel
theorem dX0_rowsFrom_41 : decode cX0_rowsFrom 41 = .ok (.ishr, 1) := by decide +kernel
theorem dX0_rowsFrom_42 : decode cX0_rowsFrom 42 = .ok (.iconst 1, 1) := by decide +kernel
theorem dX0_rowsFrom_43 : decode cX0_rowsFrom 43 = .ok (.iand, 1) := by decide +kernel
theorem dX0_rowsFrom_44 : decode cX0_rowsFrom 44 = .ok (.ifCond .ne 6, 3) := by decide +kernel
theorem dX0_rowsFrom_47 : decode cX0_rowsFrom 47 = .ok (.goto 33, 3) := by decide +kernel
theorem dX0_rowsFrom_50 : decode cX0_rowsFrom 50 = .ok (.aload_n 0, 1) := by decide +kernel
theorem dX0_rowsFrom_51 : decode cX0_rowsFrom 51 = .ok (.getfield 18, 3) := by decide +kernel
theorem dX0_rowsFrom_54 : decode cX0_rowsFrom 54 = .ok (.iload_n 3, 1) := by decide +kernel
theorem dX0_rowsFrom_55 : decode cX0_rowsFrom 55 = .ok (.dup2, 1) := by decide +kernel
theorem dX0_rowsFrom_56 : decode cX0_rowsFrom 56 = .ok (.iaload, 1) := by decide +kernel
theorem dX0_rowsFrom_57 : decode cX0_rowsFrom 57 = .ok (.iconst 1, 1) := by decide +kernel
theorem dX0_rowsFrom_58 : decode cX0_rowsFrom 58 = .ok (.isub, 1) := by decide +kernel
theorem dX0_rowsFrom_59 : decode cX0_rowsFrom 59 = .ok (.iastore, 1) := by decide +kernel
theorem dX0_rowsFrom_60 : decode cX0_rowsFrom 60 = .ok (.iload_n 2, 1) := by decide +kernel
theorem dX0_rowsFrom_61 : decode cX0_rowsFrom 61 = .ok (.aload_n 0, 1) := by decide +kernel
theorem dX0_rowsFrom_62 : decode cX0_rowsFrom 62 = .ok (.iload_n 1, 1) := by decide +kernel
theorem dX0_rowsFrom_63 : decode cX0_rowsFrom 63 = .ok (.iconst 1, 1) := by decide +kernel
theorem dX0_rowsFrom_64 : decode cX0_rowsFrom 64 = .ok (.iadd, 1) := by decide +kernel
theorem dX0_rowsFrom_65 : decode cX0_rowsFrom 65 = .ok (.invokevirtual 101, 3) := by decide +kernel
theorem dX0_rowsFrom_68 : decode cX0_rowsFrom 68 = .ok (.iadd, 1) := by decide +kernel
theorem dX0_rowsFrom_69 : decode cX0_rowsFrom 69 = .ok (.istore_n 2, 1) := by decide +kernel
theorem dX0_rowsFrom_70 : decode cX0_rowsFrom 70 = .ok (.aload_n 0, 1) := by decide +kernel
theorem dX0_rowsFrom_71 : decode cX0_rowsFrom 71 = .ok (.getfield 18, 3) := by decide +kernel
theorem dX0_rowsFrom_74 : decode cX0_rowsFrom 74 = .ok (.iload_n 3, 1) := by decide +kernel
theorem dX0_rowsFrom_75 : decode cX0_rowsFrom 75 = .ok (.dup2, 1) := by decide +kernel
theorem dX0_rowsFrom_76 : decode cX0_rowsFrom 76 = .ok (.iaload, 1) := by decide +kernel
theorem dX0_rowsFrom_77 : decode cX0_rowsFrom 77 = .ok (.iconst 1, 1) := by decide +kernel
theorem dX0_rowsFrom_78 : decode cX0_rowsFrom 78 = .ok (.iadd, 1) := by decide +kernel
theorem dX0_rowsFrom_79 : decode cX0_rowsFrom 79 = .ok (.iastore, 1) := by decide +kernel
theorem dX0_rowsFrom_80 : decode cX0_rowsFrom 80 = .ok (.iinc 3 1, 3) := by decide +kernel
theorem dX0_rowsFrom_83 : decode cX0_rowsFrom 83 = .ok (.goto (-69), 3) := by decide +kernel
theorem dX0_rowsFrom_86 : decode cX0_rowsFrom 86 = .ok (.iload_n 2, 1) := by decide +kernel
theorem dX0_rowsFrom_87 : decode cX0_rowsFrom 87 = .ok (.ireturn, 1) := by decide +kernel
theorem dX0_winningTicket_0 : decode cX0_winningTicket 0 = .ok (.aload_n 0, 1) := by decide +kernel
theorem dX0_winningTicket_1 : decode cX0_winningTicket 1 = .ok (.iload_n 1, 1) := by decide +kernel
theorem dX0_winningTicket_2 : decode cX0_winningTicket 2 = .ok (.invokevirtual 105, 3) := by decide +kernel
theorem dX0_winningTicket_5 : decode cX0_winningTicket 5 = .ok (.aload_n 0, 1) := by decide +kernel
theorem dX0_winningTicket_6 : decode cX0_winningTicket 6 = .ok (.getfield 35, 3) := by decide +kernel
theorem dX0_winningTicket_9 : decode cX0_winningTicket 9 = .ok (.iload_n 1, 1) := by decide +kernel
theorem dX0_winningTicket_10 : decode cX0_winningTicket 10 = .ok (.iaload, 1) := by decide +kernel
theorem dX0_winningTicket_11 : decode cX0_winningTicket 11 = .ok (.ireturn, 1) := by decide +kernel
theorem dX0_winningUnlikeness_0 : decode cX0_winningUnlikeness 0 = .ok (.aload_n 0, 1) := by decide +kernel
theorem dX0_winningUnlikeness_1 : decode cX0_winningUnlikeness 1 = .ok (.iload_n 1, 1) := by decide +kernel
theorem dX0_winningUnlikeness_2 : decode cX0_winningUnlikeness 2 = .ok (.invokevirtual 105, 3) := by decide +kernel
theorem dX0_winningUnlikeness_5 : decode cX0_winningUnlikeness 5 = .ok (.aload_n 0, 1) := by decide +kernel
theorem dX0_winningUnlikeness_6 : decode cX0_winningUnlikeness 6 = .ok (.getfield 38, 3) := by decide +kernel
theorem dX0_winningUnlikeness_9 : decode cX0_winningUnlikeness 9 = .ok (.iload_n 1, 1) := by decide +kernel
theorem dX0_winningUnlikeness_10 : decode cX0_winningUnlikeness 10 = .ok (.iaload, 1) := by decide +kernel
theorem dX0_winningUnlikeness_11 : decode cX0_winningUnlikeness 11 = .ok (.ireturn, 1) := by decide +kernel
theorem dX0_findWin_0 : decode cX0_findWin 0 = .ok (.aload_n 0, 1) := by decide +kernel
theorem dX0_findWin_1 : decode cX0_findWin 1 = .ok (.getfield 32, 3) := by decide +kernel
theorem dX0_findWin_4 : decode cX0_findWin 4 = .ok (.iload_n 1, 1) := by decide +kernel
theorem dX0_findWin_5 : decode cX0_findWin 5 = .ok (.iaload, 1) := by decide +kernel
theorem dX0_findWin_6 : decode cX0_findWin 6 = .ok (.aload_n 0, 1) := by decide +kernel
theorem dX0_findWin_7 : decode cX0_findWin 7 = .ok (.getfield 44, 3) := by decide +kernel
theorem dX0_findWin_10 : decode cX0_findWin 10 = .ok (.getfield 75, 3) := by decide +kernel
theorem dX0_findWin_13 : decode cX0_findWin 13 = .ok (.if_icmp .ne 4, 3) := by decide +kernel
theorem dX0_findWin_16 : decode cX0_findWin 16 = .ok (.return_, 1) := by decide +kernel
theorem dX0_findWin_17 : decode cX0_findWin 17 = .ok (.aload_n 0, 1) := by decide +kernel
theorem dX0_findWin_18 : decode cX0_findWin 18 = .ok (.getfield 32, 3) := by decide +kernel
theorem dX0_findWin_21 : decode cX0_findWin 21 = .ok (.iload_n 1, 1) := by decide +kernel
theorem dX0_findWin_22 : decode cX0_findWin 22 = .ok (.aload_n 0, 1) := by decide +kernel
theorem dX0_findWin_23 : decode cX0_findWin 23 = .ok (.getfield 44, 3) := by decide +kernel
theorem dX0_findWin_26 : decode cX0_findWin 26 = .ok (.getfield 75, 3) := by decide +kernel
theorem dX0_findWin_29 : decode cX0_findWin 29 = .ok (.iastore, 1) := by decide +kernel
theorem dX0_findWin_30 : decode cX0_findWin 30 = .ok (.aload_n 0, 1) := by decide +kernel
theorem dX0_findWin_31 : decode cX0_findWin 31 = .ok (.getfield 35, 3) := by decide +kernel
theorem dX0_findWin_34 : decode cX0_findWin 34 = .ok (.iload_n 1, 1) := by decide +kernel
theorem dX0_findWin_35 : decode cX0_findWin 35 = .ok (.iconst (-1), 1) := by decide +kernel
theorem dX0_findWin_36 : decode cX0_findWin 36 = .ok (.iastore, 1) := by decide +kernel
theorem dX0_findWin_37 : decode cX0_findWin 37 = .ok (.aload_n 0, 1) := by decide +kernel
theorem dX0_findWin_38 : decode cX0_findWin 38 = .ok (.getfield 38, 3) := by decide +kernel
theorem dX0_findWin_41 : decode cX0_findWin 41 = .ok (.iload_n 1, 1) := by decide +kernel
theorem dX0_findWin_42 : decode cX0_findWin 42 = .ok (.iconst (-1), 1) := by decide +kernel
theorem dX0_findWin_43 : decode cX0_findWin 43 = .ok (.iastore, 1) := by decide +kernel
theorem dX0_findWin_44 : decode cX0_findWin 44 = .ok (.aload_n 0, 1) := by decide +kernel
theorem dX0_findWin_45 : decode cX0_findWin 45 = .ok (.iload_n 1, 1) := by decide +kernel
theorem dX0_findWin_46 : decode cX0_findWin 46 = .ok (.invokevirtual 109, 3) := by decide +kernel
theorem dX0_findWin_49 : decode cX0_findWin 49 = .ok (.iconst 1, 1) := by decide +kernel
theorem dX0_findWin_50 : decode cX0_findWin 50 = .ok (.istore_n 2, 1) := by decide +kernel
theorem dX0_findWin_51 : decode cX0_findWin 51 = .ok (.iload_n 2, 1) := by decide +kernel
theorem dX0_findWin_52 : decode cX0_findWin 52 = .ok (.bipush 9, 2) := by decide +kernel
theorem dX0_findWin_54 : decode cX0_findWin 54 = .ok (.if_icmp .gt 48, 3) := by decide +kernel
theorem dX0_findWin_57 : decode cX0_findWin 57 = .ok (.iconst 1, 1) := by decide +kernel
theorem dX0_findWin_58 : decode cX0_findWin 58 = .ok (.istore_n 3, 1) := by decide +kernel
theorem dX0_findWin_59 : decode cX0_findWin 59 = .ok (.iload_n 3, 1) := by decide +kernel
theorem dX0_findWin_60 : decode cX0_findWin 60 = .ok (.bipush 9, 2) := by decide +kernel
theorem dX0_findWin_62 : decode cX0_findWin 62 = .ok (.if_icmp .gt 34, 3) := by decide +kernel
theorem dX0_findWin_65 : decode cX0_findWin 65 = .ok (.iconst 1, 1) := by decide +kernel
theorem dX0_findWin_66 : decode cX0_findWin 66 = .ok (.istore 4, 2) := by decide +kernel
theorem dX0_findWin_68 : decode cX0_findWin 68 = .ok (.iload 4, 2) := by decide +kernel
theorem dX0_findWin_70 : decode cX0_findWin 70 = .ok (.bipush 9, 2) := by decide +kernel
theorem dX0_findWin_72 : decode cX0_findWin 72 = .ok (.if_icmp .gt 18, 3) := by decide +kernel
theorem dX0_findWin_75 : decode cX0_findWin 75 = .ok (.aload_n 0, 1) := by decide +kernel
theorem dX0_findWin_76 : decode cX0_findWin 76 = .ok (.iload_n 1, 1) := by decide +kernel
theorem dX0_findWin_77 : decode cX0_findWin 77 = .ok (.iload_n 2, 1) := by decide +kernel
theorem dX0_findWin_78 : decode cX0_findWin 78 = .ok (.iload_n 3, 1) := by decide +kernel
theorem dX0_findWin_79 : decode cX0_findWin 79 = .ok (.iload 4, 2) := by decide +kernel
theorem dX0_findWin_81 : decode cX0_findWin 81 = .ok (.invokevirtual 112, 3) := by decide +kernel
theorem dX0_findWin_84 : decode cX0_findWin 84 = .ok (.iinc 4 1, 3) := by decide +kernel
theorem dX0_findWin_87 : decode cX0_findWin 87 = .ok (.goto (-19), 3) := by decide +kernel
theorem dX0_findWin_90 : decode cX0_findWin 90 = .ok (.iinc 3 1, 3) := by decide +kernel
theorem dX0_findWin_93 : decode cX0_findWin 93 = .ok (.goto (-34), 3) := by decide +kernel
theorem dX0_findWin_96 : decode cX0_findWin 96 = .ok (.iinc 2 1, 3) := by decide +kernel
theorem dX0_findWin_99 : decode cX0_findWin 99 = .ok (.goto (-48), 3) := by decide +kernel
theorem dX0_findWin_102 : decode cX0_findWin 102 = .ok (.return_, 1) := by decide +kernel
theorem dX0_fillSupport_0 : decode cX0_fillSupport 0 = .ok (.aload_n 0, 1) := by decide +kernel
theorem dX0_fillSupport_1 : decode cX0_fillSupport 1 = .ok (.getfield 29, 3) := by decide +kernel
theorem dX0_fillSupport_4 : decode cX0_fillSupport 4 = .ok (.iconst 0, 1) := by decide +kernel
theorem dX0_fillSupport_5 : decode cX0_fillSupport 5 = .ok (.invokestatic 84, 3) := by decide +kernel
theorem dX0_fillSupport_8 : decode cX0_fillSupport 8 = .ok (.iconst 0, 1) := by decide +kernel
theorem dX0_fillSupport_9 : decode cX0_fillSupport 9 = .ok (.istore_n 2, 1) := by decide +kernel
theorem dX0_fillSupport_10 : decode cX0_fillSupport 10 = .ok (.iload_n 2, 1) := by decide +kernel
theorem dX0_fillSupport_11 : decode cX0_fillSupport 11 = .ok (.aload_n 0, 1) := by decide +kernel
theorem dX0_fillSupport_12 : decode cX0_fillSupport 12 = .ok (.getfield 44, 3) := by decide +kernel
theorem dX0_fillSupport_15 : decode cX0_fillSupport 15 = .ok (.getfield 48, 3) := by decide +kernel
theorem dX0_fillSupport_18 : decode cX0_fillSupport 18 = .ok (.if_icmp .ge 94, 3) := by decide +kernel
theorem dX0_fillSupport_21 : decode cX0_fillSupport 21 = .ok (.aload_n 0, 1) := by decide +kernel
theorem dX0_fillSupport_22 : decode cX0_fillSupport 22 = .ok (.getfield 44, 3) := by decide +kernel
theorem dX0_fillSupport_25 : decode cX0_fillSupport 25 = .ok (.iload_n 2, 1) := by decide +kernel
theorem dX0_fillSupport_26 : decode cX0_fillSupport 26 = .ok (.iconst 0, 1) := by decide +kernel
theorem dX0_fillSupport_27 : decode cX0_fillSupport 27 = .ok (.aload_n 0, 1) := by decide +kernel
theorem dX0_fillSupport_28 : decode cX0_fillSupport 28 = .ok (.getfield 9, 3) := by decide +kernel
theorem dX0_fillSupport_31 : decode cX0_fillSupport 31 = .ok (.invokevirtual 90, 3) := by decide +kernel
theorem dX0_fillSupport_34 : decode cX0_fillSupport 34 = .ok (.iconst 1, 1) := by decide +kernel
theorem dX0_fillSupport_35 : decode cX0_fillSupport 35 = .ok (.istore_n 3, 1) := by decide +kernel
theorem dX0_fillSupport_36 : decode cX0_fillSupport 36 = .ok (.iload_n 3, 1) := by decide +kernel
theorem dX0_fillSupport_37 : decode cX0_fillSupport 37 = .ok (.bipush 9, 2) := by decide +kernel
theorem dX0_fillSupport_39 : decode cX0_fillSupport 39 = .ok (.if_icmp .gt 67, 3) := by decide +kernel
theorem dX0_fillSupport_42 : decode cX0_fillSupport 42 = .ok (.aload_n 0, 1) := by decide +kernel
theorem dX0_fillSupport_43 : decode cX0_fillSupport 43 = .ok (.getfield 9, 3) := by decide +kernel
theorem dX0_fillSupport_46 : decode cX0_fillSupport 46 = .ok (.iload_n 1, 1) := by decide +kernel
theorem dX0_fillSupport_47 : decode cX0_fillSupport 47 = .ok (.aload_n 0, 1) := by decide +kernel
theorem dX0_fillSupport_48 : decode cX0_fillSupport 48 = .ok (.getfield 44, 3) := by decide +kernel
theorem dX0_fillSupport_51 : decode cX0_fillSupport 51 = .ok (.iload_n 2, 1) := by decide +kernel
theorem dX0_fillSupport_52 : decode cX0_fillSupport 52 = .ok (.invokevirtual 116, 3) := by decide +kernel
theorem dX0_fillSupport_55 : decode cX0_fillSupport 55 = .ok (.iload_n 3, 1) := by decide +kernel
theorem dX0_fillSupport_56 : decode cX0_fillSupport 56 = .ok (.imul, 1) := by decide +kernel
theorem dX0_fillSupport_57 : decode cX0_fillSupport 57 = .ok (.iastore, 1) := by decide +kernel
theorem dX0_fillSupport_58 : decode cX0_fillSupport 58 = .ok (.aload_n 0, 1) := by decide +kernel
theorem dX0_fillSupport_59 : decode cX0_fillSupport 59 = .ok (.getfield 44, 3) := by decide +kernel
theorem dX0_fillSupport_62 : decode cX0_fillSupport 62 = .ok (.iload_n 2, 1) := by decide +kernel
theorem dX0_fillSupport_63 : decode cX0_fillSupport 63 = .ok (.invokevirtual 119, 3) := by decide +kernel
theorem dX0_fillSupport_66 : decode cX0_fillSupport 66 = .ok (.iload_n 3, 1) := by decide +kernel
theorem dX0_fillSupport_67 : decode cX0_fillSupport 67 = .ok (.invokestatic 122, 3) := by decide +kernel
theorem dX0_fillSupport_70 : decode cX0_fillSupport 70 = .ok (.istore 4, 2) := by decide +kernel
theorem dX0_fillSupport_72 : decode cX0_fillSupport 72 = .ok (.aload_n 0, 1) := by decide +kernel
theorem dX0_fillSupport_73 : decode cX0_fillSupport 73 = .ok (.getfield 29, 3) := by decide +kernel
theorem dX0_fillSupport_76 : decode cX0_fillSupport 76 = .ok (.iload 4, 2) := by decide +kernel
theorem dX0_fillSupport_78 : decode cX0_fillSupport 78 = .ok (.aload_n 0, 1) := by decide +kernel
theorem dX0_fillSupport_79 : decode cX0_fillSupport 79 = .ok (.getfield 9, 3) := by decide +kernel
theorem dX0_fillSupport_82 : decode cX0_fillSupport 82 = .ok (.iconst 0, 1) := by decide +kernel
theorem dX0_fillSupport_83 : decode cX0_fillSupport 83 = .ok (.aload_n 0, 1) := by decide +kernel
theorem dX0_fillSupport_84 : decode cX0_fillSupport 84 = .ok (.getfield 44, 3) := by decide +kernel
theorem dX0_fillSupport_87 : decode cX0_fillSupport 87 = .ok (.getfield 62, 3) := by decide +kernel
theorem dX0_fillSupport_90 : decode cX0_fillSupport 90 = .ok (.iconst (-1), 1) := by decide +kernel
theorem dX0_fillSupport_91 : decode cX0_fillSupport 91 = .ok (.invokestatic 94, 3) := by decide +kernel
theorem dX0_fillSupport_94 : decode cX0_fillSupport 94 = .ok (.iadd, 1) := by decide +kernel
theorem dX0_fillSupport_95 : decode cX0_fillSupport 95 = .ok (.dup2, 1) := by decide +kernel
theorem dX0_fillSupport_96 : decode cX0_fillSupport 96 = .ok (.iaload, 1) := by decide +kernel
theorem dX0_fillSupport_97 : decode cX0_fillSupport 97 = .ok (.iconst 1, 1) := by decide +kernel
theorem dX0_fillSupport_98 : decode cX0_fillSupport 98 = .ok (.iadd, 1) := by decide +kernel
theorem dX0_fillSupport_99 : decode cX0_fillSupport 99 = .ok (.iastore, 1) := by decide +kernel
theorem dX0_fillSupport_100 : decode cX0_fillSupport 100 = .ok (.iinc 3 1, 3) := by decide +kernel
theorem dX0_fillSupport_103 : decode cX0_fillSupport 103 = .ok (.goto (-67), 3) := by decide +kernel
theorem dX0_fillSupport_106 : decode cX0_fillSupport 106 = .ok (.iinc 2 1, 3) := by decide +kernel
theorem dX0_fillSupport_109 : decode cX0_fillSupport 109 = .ok (.goto (-99), 3) := by decide +kernel
theorem dX0_fillSupport_112 : decode cX0_fillSupport 112 = .ok (.return_, 1) := by decide +kernel
theorem dX0_supportPlace_0 : decode cX0_supportPlace 0 = .ok (.iload_n 0, 1) := by decide +kernel
theorem dX0_supportPlace_1 : decode cX0_supportPlace 1 = .ok (.bipush 9, 2) := by decide +kernel
theorem dX0_supportPlace_3 : decode cX0_supportPlace 3 = .ok (.imul, 1) := by decide +kernel
theorem dX0_supportPlace_4 : decode cX0_supportPlace 4 = .ok (.iload_n 1, 1) := by decide +kernel
theorem dX0_supportPlace_5 : decode cX0_supportPlace 5 = .ok (.iadd, 1) := by decide +kernel
theorem dX0_supportPlace_6 : decode cX0_supportPlace 6 = .ok (.iconst 1, 1) := by decide +kernel
theorem dX0_supportPlace_7 : decode cX0_supportPlace 7 = .ok (.isub, 1) := by decide +kernel
theorem dX0_supportPlace_8 : decode cX0_supportPlace 8 = .ok (.iconst 4, 1) := by decide +kernel
theorem dX0_supportPlace_9 : decode cX0_supportPlace 9 = .ok (.imul, 1) := by decide +kernel
theorem dX0_supportPlace_10 : decode cX0_supportPlace 10 = .ok (.ireturn, 1) := by decide +kernel
theorem dX0_tryTicket_0 : decode cX0_tryTicket 0 = .ok (.iload_n 2, 1) := by decide +kernel
theorem dX0_tryTicket_1 : decode cX0_tryTicket 1 = .ok (.aload_n 0, 1) := by decide +kernel
theorem dX0_tryTicket_2 : decode cX0_tryTicket 2 = .ok (.getfield 44, 3) := by decide +kernel
theorem dX0_tryTicket_5 : decode cX0_tryTicket 5 = .ok (.iconst 0, 1) := by decide +kernel
theorem dX0_tryTicket_6 : decode cX0_tryTicket 6 = .ok (.iload_n 1, 1) := by decide +kernel
theorem dX0_tryTicket_7 : decode cX0_tryTicket 7 = .ok (.iconst 0, 1) := by decide +kernel
theorem dX0_tryTicket_8 : decode cX0_tryTicket 8 = .ok (.invokevirtual 125, 3) := by decide +kernel
theorem dX0_tryTicket_11 : decode cX0_tryTicket 11 = .ok (.isub, 1) := by decide +kernel
theorem dX0_tryTicket_12 : decode cX0_tryTicket 12 = .ok (.invokestatic 129, 3) := by decide +kernel
theorem dX0_tryTicket_15 : decode cX0_tryTicket 15 = .ok (.iload_n 3, 1) := by decide +kernel
theorem dX0_tryTicket_16 : decode cX0_tryTicket 16 = .ok (.aload_n 0, 1) := by decide +kernel
theorem dX0_tryTicket_17 : decode cX0_tryTicket 17 = .ok (.getfield 44, 3) := by decide +kernel
theorem dX0_tryTicket_20 : decode cX0_tryTicket 20 = .ok (.iconst 0, 1) := by decide +kernel
theorem dX0_tryTicket_21 : decode cX0_tryTicket 21 = .ok (.iload_n 1, 1) := by decide +kernel
theorem dX0_tryTicket_22 : decode cX0_tryTicket 22 = .ok (.iconst 1, 1) := by decide +kernel
theorem dX0_tryTicket_23 : decode cX0_tryTicket 23 = .ok (.invokevirtual 125, 3) := by decide +kernel
theorem dX0_tryTicket_26 : decode cX0_tryTicket 26 = .ok (.isub, 1) := by decide +kernel
theorem dX0_tryTicket_27 : decode cX0_tryTicket 27 = .ok (.invokestatic 129, 3) := by decide +kernel
theorem dX0_tryTicket_30 : decode cX0_tryTicket 30 = .ok (.iadd, 1) := by decide +kernel
theorem dX0_tryTicket_31 : decode cX0_tryTicket 31 = .ok (.iload 4, 2) := by decide +kernel
theorem dX0_tryTicket_33 : decode cX0_tryTicket 33 = .ok (.aload_n 0, 1) := by decide +kernel
theorem dX0_tryTicket_34 : decode cX0_tryTicket 34 = .ok (.getfield 44, 3) := by decide +kernel
theorem dX0_tryTicket_37 : decode cX0_tryTicket 37 = .ok (.iconst 0, 1) := by decide +kernel
theorem dX0_tryTicket_38 : decode cX0_tryTicket 38 = .ok (.iload_n 1, 1) := by decide +kernel
theorem dX0_tryTicket_39 : decode cX0_tryTicket 39 = .ok (.iconst 2, 1) := by decide +kernel
theorem dX0_tryTicket_40 : decode cX0_tryTicket 40 = .ok (.invokevirtual 125, 3) := by decide +kernel
theorem dX0_tryTicket_43 : decode cX0_tryTicket 43 = .ok (.isub, 1) := by decide +kernel
theorem dX0_tryTicket_44 : decode cX0_tryTicket 44 = .ok (.invokestatic 129, 3) := by decide +kernel
theorem dX0_tryTicket_47 : decode cX0_tryTicket 47 = .ok (.iadd, 1) := by decide +kernel
theorem dX0_tryTicket_48 : decode cX0_tryTicket 48 = .ok (.istore 5, 2) := by decide +kernel
theorem dX0_tryTicket_50 : decode cX0_tryTicket 50 = .ok (.aload_n 0, 1) := by decide +kernel
theorem dX0_tryTicket_51 : decode cX0_tryTicket 51 = .ok (.getfield 35, 3) := by decide +kernel
theorem dX0_tryTicket_54 : decode cX0_tryTicket 54 = .ok (.iload_n 1, 1) := by decide +kernel
theorem dX0_tryTicket_55 : decode cX0_tryTicket 55 = .ok (.iaload, 1) := by decide +kernel
theorem dX0_tryTicket_56 : decode cX0_tryTicket 56 = .ok (.iconst (-1), 1) := by decide +kernel
theorem dX0_tryTicket_57 : decode cX0_tryTicket 57 = .ok (.if_icmp .eq 15, 3) := by decide +kernel
theorem dX0_tryTicket_60 : decode cX0_tryTicket 60 = .ok (.iload 5, 2) := by decide +kernel
theorem dX0_tryTicket_62 : decode cX0_tryTicket 62 = .ok (.aload_n 0, 1) := by decide +kernel
theorem dX0_tryTicket_63 : decode cX0_tryTicket 63 = .ok (.getfield 38, 3) := by decide +kernel
theorem dX0_tryTicket_66 : decode cX0_tryTicket 66 = .ok (.iload_n 1, 1) := by decide +kernel
theorem dX0_tryTicket_67 : decode cX0_tryTicket 67 = .ok (.iaload, 1) := by decide +kernel
theorem dX0_tryTicket_68 : decode cX0_tryTicket 68 = .ok (.if_icmp .lt 4, 3) := by decide +kernel
theorem dX0_tryTicket_71 : decode cX0_tryTicket 71 = .ok (.return_, 1) := by decide +kernel
theorem dX0_tryTicket_72 : decode cX0_tryTicket 72 = .ok (.iconst 0, 1) := by decide +kernel
theorem dX0_tryTicket_73 : decode cX0_tryTicket 73 = .ok (.istore 6, 2) := by decide +kernel
theorem dX0_tryTicket_75 : decode cX0_tryTicket 75 = .ok (.iload 6, 2) := by decide +kernel
theorem dX0_tryTicket_77 : decode cX0_tryTicket 77 = .ok (.aload_n 0, 1) := by decide +kernel
theorem dX0_tryTicket_78 : decode cX0_tryTicket 78 = .ok (.getfield 44, 3) := by decide +kernel
theorem dX0_tryTicket_81 : decode cX0_tryTicket 81 = .ok (.getfield 62, 3) := by decide +kernel
theorem dX0_tryTicket_84 : decode cX0_tryTicket 84 = .ok (.if_icmp .ge 58, 3) := by decide +kernel
theorem dX0_tryTicket_87 : decode cX0_tryTicket 87 = .ok (.aload_n 0, 1) := by decide +kernel
theorem dX0_tryTicket_88 : decode cX0_tryTicket 88 = .ok (.getfield 15, 3) := by decide +kernel
theorem dX0_tryTicket_91 : decode cX0_tryTicket 91 = .ok (.iload 6, 2) := by decide +kernel
theorem dX0_tryTicket_93 : decode cX0_tryTicket 93 = .ok (.aload_n 0, 1) := by decide +kernel
theorem dX0_tryTicket_94 : decode cX0_tryTicket 94 = .ok (.getfield 29, 3) := by decide +kernel
theorem dX0_tryTicket_97 : decode cX0_tryTicket 97 = .ok (.iconst 0, 1) := by decide +kernel
theorem dX0_tryTicket_98 : decode cX0_tryTicket 98 = .ok (.iload_n 2, 1) := by decide +kernel
theorem dX0_tryTicket_99 : decode cX0_tryTicket 99 = .ok (.invokestatic 122, 3) := by decide +kernel
theorem dX0_tryTicket_102 : decode cX0_tryTicket 102 = .ok (.iload 6, 2) := by decide +kernel
theorem dX0_tryTicket_104 : decode cX0_tryTicket 104 = .ok (.iadd, 1) := by decide +kernel
theorem dX0_tryTicket_105 : decode cX0_tryTicket 105 = .ok (.iaload, 1) := by decide +kernel
theorem dX0_tryTicket_106 : decode cX0_tryTicket 106 = .ok (.aload_n 0, 1) := by decide +kernel
theorem dX0_tryTicket_107 : decode cX0_tryTicket 107 = .ok (.getfield 29, 3) := by decide +kernel
theorem dX0_tryTicket_110 : decode cX0_tryTicket 110 = .ok (.iconst 1, 1) := by decide +kernel
theorem dX0_tryTicket_111 : decode cX0_tryTicket 111 = .ok (.iload_n 3, 1) := by decide +kernel
theorem dX0_tryTicket_112 : decode cX0_tryTicket 112 = .ok (.invokestatic 122, 3) := by decide +kernel
theorem dX0_tryTicket_115 : decode cX0_tryTicket 115 = .ok (.iload 6, 2) := by decide +kernel
theorem dX0_tryTicket_117 : decode cX0_tryTicket 117 = .ok (.iadd, 1) := by decide +kernel
theorem dX0_tryTicket_118 : decode cX0_tryTicket 118 = .ok (.iaload, 1) := by decide +kernel
theorem dX0_tryTicket_119 : decode cX0_tryTicket 119 = .ok (.iadd, 1) := by decide +kernel
theorem dX0_tryTicket_120 : decode cX0_tryTicket 120 = .ok (.aload_n 0, 1) := by decide +kernel
theorem dX0_tryTicket_121 : decode cX0_tryTicket 121 = .ok (.getfield 29, 3) := by decide +kernel
theorem dX0_tryTicket_124 : decode cX0_tryTicket 124 = .ok (.iconst 2, 1) := by decide +kernel
theorem dX0_tryTicket_125 : decode cX0_tryTicket 125 = .ok (.iload 4, 2) := by decide +kernel
theorem dX0_tryTicket_127 : decode cX0_tryTicket 127 = .ok (.invokestatic 122, 3) := by decide +kernel
theorem dX0_tryTicket_130 : decode cX0_tryTicket 130 = .ok (.iload 6, 2) := by decide +kernel
theorem dX0_tryTicket_132 : decode cX0_tryTicket 132 = .ok (.iadd, 1) := by decide +kernel
theorem dX0_tryTicket_133 : decode cX0_tryTicket 133 = .ok (.iaload, 1) := by decide +kernel
theorem dX0_tryTicket_134 : decode cX0_tryTicket 134 = .ok (.iadd, 1) := by decide +kernel
theorem dX0_tryTicket_135 : decode cX0_tryTicket 135 = .ok (.iastore, 1) := by decide +kernel
theorem dX0_tryTicket_136 : decode cX0_tryTicket 136 = .ok (.iinc 6 1, 3) := by decide +kernel
theorem dX0_tryTicket_139 : decode cX0_tryTicket 139 = .ok (.goto (-64), 3) := by decide +kernel
theorem dX0_tryTicket_142 : decode cX0_tryTicket 142 = .ok (.aload_n 0, 1) := by decide +kernel
theorem dX0_tryTicket_143 : decode cX0_tryTicket 143 = .ok (.getfield 15, 3) := by decide +kernel
theorem dX0_tryTicket_146 : decode cX0_tryTicket 146 = .ok (.iconst 0, 1) := by decide +kernel
theorem dX0_tryTicket_147 : decode cX0_tryTicket 147 = .ok (.aload_n 0, 1) := by decide +kernel
theorem dX0_tryTicket_148 : decode cX0_tryTicket 148 = .ok (.getfield 44, 3) := by decide +kernel
theorem dX0_tryTicket_151 : decode cX0_tryTicket 151 = .ok (.getfield 62, 3) := by decide +kernel
theorem dX0_tryTicket_154 : decode cX0_tryTicket 154 = .ok (.iconst (-1), 1) := by decide +kernel
theorem dX0_tryTicket_155 : decode cX0_tryTicket 155 = .ok (.invokestatic 94, 3) := by decide +kernel
theorem dX0_tryTicket_158 : decode cX0_tryTicket 158 = .ok (.iload_n 1, 1) := by decide +kernel
theorem dX0_tryTicket_159 : decode cX0_tryTicket 159 = .ok (.if_icmp .eq 4, 3) := by decide +kernel
theorem dX0_tryTicket_162 : decode cX0_tryTicket 162 = .ok (.return_, 1) := by decide +kernel
theorem dX0_tryTicket_163 : decode cX0_tryTicket 163 = .ok (.aload_n 0, 1) := by decide +kernel
theorem dX0_tryTicket_164 : decode cX0_tryTicket 164 = .ok (.getfield 35, 3) := by decide +kernel
theorem dX0_tryTicket_167 : decode cX0_tryTicket 167 = .ok (.iload_n 1, 1) := by decide +kernel
theorem dX0_tryTicket_168 : decode cX0_tryTicket 168 = .ok (.bipush 100, 2) := by decide +kernel
theorem dX0_tryTicket_170 : decode cX0_tryTicket 170 = .ok (.iload_n 2, 1) := by decide +kernel
theorem dX0_tryTicket_171 : decode cX0_tryTicket 171 = .ok (.imul, 1) := by decide +kernel
theorem dX0_tryTicket_172 : decode cX0_tryTicket 172 = .ok (.bipush 10, 2) := by decide +kernel
theorem dX0_tryTicket_174 : decode cX0_tryTicket 174 = .ok (.iload_n 3, 1) := by decide +kernel
theorem dX0_tryTicket_175 : decode cX0_tryTicket 175 = .ok (.imul, 1) := by decide +kernel
theorem dX0_tryTicket_176 : decode cX0_tryTicket 176 = .ok (.iadd, 1) := by decide +kernel
theorem dX0_tryTicket_177 : decode cX0_tryTicket 177 = .ok (.iload 4, 2) := by decide +kernel
theorem dX0_tryTicket_179 : decode cX0_tryTicket 179 = .ok (.iadd, 1) := by decide +kernel
theorem dX0_tryTicket_180 : decode cX0_tryTicket 180 = .ok (.iastore, 1) := by decide +kernel
theorem dX0_tryTicket_181 : decode cX0_tryTicket 181 = .ok (.aload_n 0, 1) := by decide +kernel
theorem dX0_tryTicket_182 : decode cX0_tryTicket 182 = .ok (.getfield 38, 3) := by decide +kernel
theorem dX0_tryTicket_185 : decode cX0_tryTicket 185 = .ok (.iload_n 1, 1) := by decide +kernel
theorem dX0_tryTicket_186 : decode cX0_tryTicket 186 = .ok (.iload 5, 2) := by decide +kernel
theorem dX0_tryTicket_188 : decode cX0_tryTicket 188 = .ok (.iastore, 1) := by decide +kernel
theorem dX0_tryTicket_189 : decode cX0_tryTicket 189 = .ok (.return_, 1) := by decide +kernel
theorem dX0_evenHolding_0 : decode cX0_evenHolding 0 = .ok (.iconst (-1), 1) := by decide +kernel
theorem dX0_evenHolding_1 : decode cX0_evenHolding 1 = .ok (.istore_n 2, 1) := by decide +kernel
theorem dX0_evenHolding_2 : decode cX0_evenHolding 2 = .ok (.iconst 0, 1) := by decide +kernel
theorem dX0_evenHolding_3 : decode cX0_evenHolding 3 = .ok (.istore_n 3, 1) := by decide +kernel
theorem dX0_evenHolding_4 : decode cX0_evenHolding 4 = .ok (.aload_n 0, 1) := by decide +kernel
theorem dX0_evenHolding_5 : decode cX0_evenHolding 5 = .ok (.iload_n 1, 1) := by decide +kernel
theorem dX0_evenHolding_6 : decode cX0_evenHolding 6 = .ok (.invokevirtual 134, 3) := by decide +kernel
theorem dX0_evenHolding_9 : decode cX0_evenHolding 9 = .ok (.iconst 0, 1) := by decide +kernel
theorem dX0_evenHolding_10 : decode cX0_evenHolding 10 = .ok (.istore 4, 2) := by decide +kernel
theorem dX0_evenHolding_12 : decode cX0_evenHolding 12 = .ok (.iload 4, 2) := by decide +kernel
theorem dX0_evenHolding_14 : decode cX0_evenHolding 14 = .ok (.bipush 9, 2) := by decide +kernel
theorem dX0_evenHolding_16 : decode cX0_evenHolding 16 = .ok (.if_icmp .gt 99, 3) := by decide +kernel
theorem dX0_evenHolding_19 : decode cX0_evenHolding 19 = .ok (.iconst 0, 1) := by decide +kernel
theorem dX0_evenHolding_20 : decode cX0_evenHolding 20 = .ok (.istore 5, 2) := by decide +kernel
theorem dX0_evenHolding_22 : decode cX0_evenHolding 22 = .ok (.iload 5, 2) := by decide +kernel
theorem dX0_evenHolding_24 : decode cX0_evenHolding 24 = .ok (.bipush 9, 2) := by decide +kernel
theorem dX0_evenHolding_26 : decode cX0_evenHolding 26 = .ok (.if_icmp .gt 83, 3) := by decide +kernel
theorem dX0_evenHolding_29 : decode cX0_evenHolding 29 = .ok (.iconst 0, 1) := by decide +kernel
theorem dX0_evenHolding_30 : decode cX0_evenHolding 30 = .ok (.istore 6, 2) := by decide +kernel
theorem dX0_evenHolding_32 : decode cX0_evenHolding 32 = .ok (.iload 6, 2) := by decide +kernel
theorem dX0_evenHolding_34 : decode cX0_evenHolding 34 = .ok (.bipush 9, 2) := by decide +kernel
theorem dX0_evenHolding_36 : decode cX0_evenHolding 36 = .ok (.if_icmp .gt 67, 3) := by decide +kernel
theorem dX0_evenHolding_39 : decode cX0_evenHolding 39 = .ok (.iload 4, 2) := by decide +kernel
theorem dX0_evenHolding_41 : decode cX0_evenHolding 41 = .ok (.iload 5, 2) := by decide +kernel
theorem dX0_evenHolding_43 : decode cX0_evenHolding 43 = .ok (.iadd, 1) := by decide +kernel
theorem dX0_evenHolding_44 : decode cX0_evenHolding 44 = .ok (.iload 6, 2) := by decide +kernel
theorem dX0_evenHolding_46 : decode cX0_evenHolding 46 = .ok (.iadd, 1) := by decide +kernel
theorem dX0_evenHolding_47 : decode cX0_evenHolding 47 = .ok (.istore 7, 2) := by decide +kernel
theorem dX0_evenHolding_49 : decode cX0_evenHolding 49 = .ok (.iload_n 2, 1) := by decide +kernel
theorem dX0_evenHolding_50 : decode cX0_evenHolding 50 = .ok (.iconst (-1), 1) := by decide +kernel
theorem dX0_evenHolding_51 : decode cX0_evenHolding 51 = .ok (.if_icmp .eq 12, 3) := by decide +kernel
theorem dX0_evenHolding_54 : decode cX0_evenHolding 54 = .ok (.iload 7, 2) := by decide +kernel
theorem dX0_evenHolding_56 : decode cX0_evenHolding 56 = .ok (.iload_n 3, 1) := by decide +kernel
theorem dX0_evenHolding_57 : decode cX0_evenHolding 57 = .ok (.if_icmp .lt 6, 3) := by decide +kernel
theorem dX0_evenHolding_60 : decode cX0_evenHolding 60 = .ok (.goto 43, 3) := by decide +kernel
theorem dX0_evenHolding_63 : decode cX0_evenHolding 63 = .ok (.aload_n 0, 1) := by decide +kernel
theorem dX0_evenHolding_64 : decode cX0_evenHolding 64 = .ok (.iload 4, 2) := by decide +kernel
theorem dX0_evenHolding_66 : decode cX0_evenHolding 66 = .ok (.iload 5, 2) := by decide +kernel
theorem dX0_evenHolding_68 : decode cX0_evenHolding 68 = .ok (.iload 6, 2) := by decide +kernel
theorem dX0_evenHolding_70 : decode cX0_evenHolding 70 = .ok (.invokevirtual 137, 3) := by decide +kernel
theorem dX0_evenHolding_73 : decode cX0_evenHolding 73 = .ok (.ifCond .ne 6, 3) := by decide +kernel
theorem dX0_evenHolding_76 : decode cX0_evenHolding 76 = .ok (.goto 21, 3) := by decide +kernel
theorem dX0_evenHolding_79 : decode cX0_evenHolding 79 = .ok (.bipush 100, 2) := by decide +kernel
theorem dX0_evenHolding_81 : decode cX0_evenHolding 81 = .ok (.iload 4, 2) := by decide +kernel
theorem dX0_evenHolding_83 : decode cX0_evenHolding 83 = .ok (.imul, 1) := by decide +kernel
theorem dX0_evenHolding_84 : decode cX0_evenHolding 84 = .ok (.bipush 10, 2) := by decide +kernel
theorem dX0_evenHolding_86 : decode cX0_evenHolding 86 = .ok (.iload 5, 2) := by decide +kernel
theorem dX0_evenHolding_88 : decode cX0_evenHolding 88 = .ok (.imul, 1) := by decide +kernel
theorem dX0_evenHolding_89 : decode cX0_evenHolding 89 = .ok (.iadd, 1) := by decide +kernel
theorem dX0_evenHolding_90 : decode cX0_evenHolding 90 = .ok (.iload 6, 2) := by decide +kernel
theorem dX0_evenHolding_92 : decode cX0_evenHolding 92 = .ok (.iadd, 1) := by decide +kernel
theorem dX0_evenHolding_93 : decode cX0_evenHolding 93 = .ok (.istore_n 2, 1) := by decide +kernel
theorem dX0_evenHolding_94 : decode cX0_evenHolding 94 = .ok (.iload 7, 2) := by decide +kernel
theorem dX0_evenHolding_96 : decode cX0_evenHolding 96 = .ok (.istore_n 3, 1) := by decide +kernel
theorem dX0_evenHolding_97 : decode cX0_evenHolding 97 = .ok (.iinc 6 1, 3) := by decide +kernel
theorem dX0_evenHolding_100 : decode cX0_evenHolding 100 = .ok (.goto (-68), 3) := by decide +kernel
theorem dX0_evenHolding_103 : decode cX0_evenHolding 103 = .ok (.iinc 5 1, 3) := by decide +kernel
theorem dX0_evenHolding_106 : decode cX0_evenHolding 106 = .ok (.goto (-84), 3) := by decide +kernel
theorem dX0_evenHolding_109 : decode cX0_evenHolding 109 = .ok (.iinc 4 1, 3) := by decide +kernel
theorem dX0_evenHolding_112 : decode cX0_evenHolding 112 = .ok (.goto (-100), 3) := by decide +kernel
theorem dX0_evenHolding_115 : decode cX0_evenHolding 115 = .ok (.iload_n 2, 1) := by decide +kernel
theorem dX0_evenHolding_116 : decode cX0_evenHolding 116 = .ok (.ireturn, 1) := by decide +kernel
theorem dX0_fillOdds_0 : decode cX0_fillOdds 0 = .ok (.iconst 1, 1) := by decide +kernel
theorem dX0_fillOdds_1 : decode cX0_fillOdds 1 = .ok (.istore_n 2, 1) := by decide +kernel
theorem dX0_fillOdds_2 : decode cX0_fillOdds 2 = .ok (.iload_n 2, 1) := by decide +kernel
theorem dX0_fillOdds_3 : decode cX0_fillOdds 3 = .ok (.aload_n 0, 1) := by decide +kernel
theorem dX0_fillOdds_4 : decode cX0_fillOdds 4 = .ok (.getfield 44, 3) := by decide +kernel
theorem dX0_fillOdds_7 : decode cX0_fillOdds 7 = .ok (.getfield 62, 3) := by decide +kernel
theorem dX0_fillOdds_10 : decode cX0_fillOdds 10 = .ok (.if_icmp .ge 80, 3) := by decide +kernel
theorem dX0_fillOdds_13 : decode cX0_fillOdds 13 = .ok (.iconst 0, 1) := by decide +kernel
theorem dX0_fillOdds_14 : decode cX0_fillOdds 14 = .ok (.istore_n 3, 1) := by decide +kernel
theorem dX0_fillOdds_15 : decode cX0_fillOdds 15 = .ok (.iload_n 3, 1) := by decide +kernel
theorem dX0_fillOdds_16 : decode cX0_fillOdds 16 = .ok (.iconst 3, 1) := by decide +kernel
theorem dX0_fillOdds_17 : decode cX0_fillOdds 17 = .ok (.if_icmp .ge 38, 3) := by decide +kernel
theorem dX0_fillOdds_20 : decode cX0_fillOdds 20 = .ok (.aload_n 0, 1) := by decide +kernel
theorem dX0_fillOdds_21 : decode cX0_fillOdds 21 = .ok (.getfield 41, 3) := by decide +kernel
theorem dX0_fillOdds_24 : decode cX0_fillOdds 24 = .ok (.iload_n 2, 1) := by decide +kernel
theorem dX0_fillOdds_25 : decode cX0_fillOdds 25 = .ok (.aaload, 1) := by decide +kernel
theorem dX0_fillOdds_26 : decode cX0_fillOdds 26 = .ok (.iload_n 3, 1) := by decide +kernel
theorem dX0_fillOdds_27 : decode cX0_fillOdds 27 = .ok (.aload_n 0, 1) := by decide +kernel
theorem dX0_fillOdds_28 : decode cX0_fillOdds 28 = .ok (.getfield 44, 3) := by decide +kernel
theorem dX0_fillOdds_31 : decode cX0_fillOdds 31 = .ok (.iconst 0, 1) := by decide +kernel
theorem dX0_fillOdds_32 : decode cX0_fillOdds 32 = .ok (.iload_n 2, 1) := by decide +kernel
theorem dX0_fillOdds_33 : decode cX0_fillOdds 33 = .ok (.iload_n 3, 1) := by decide +kernel
theorem dX0_fillOdds_34 : decode cX0_fillOdds 34 = .ok (.invokevirtual 125, 3) := by decide +kernel
theorem dX0_fillOdds_37 : decode cX0_fillOdds 37 = .ok (.aload_n 0, 1) := by decide +kernel
theorem dX0_fillOdds_38 : decode cX0_fillOdds 38 = .ok (.getfield 44, 3) := by decide +kernel
theorem dX0_fillOdds_41 : decode cX0_fillOdds 41 = .ok (.iconst 0, 1) := by decide +kernel
theorem dX0_fillOdds_42 : decode cX0_fillOdds 42 = .ok (.iconst 0, 1) := by decide +kernel
theorem dX0_fillOdds_43 : decode cX0_fillOdds 43 = .ok (.iload_n 3, 1) := by decide +kernel
theorem dX0_fillOdds_44 : decode cX0_fillOdds 44 = .ok (.invokevirtual 125, 3) := by decide +kernel
theorem dX0_fillOdds_47 : decode cX0_fillOdds 47 = .ok (.isub, 1) := by decide +kernel
theorem dX0_fillOdds_48 : decode cX0_fillOdds 48 = .ok (.iastore, 1) := by decide +kernel
theorem dX0_fillOdds_49 : decode cX0_fillOdds 49 = .ok (.iinc 3 1, 3) := by decide +kernel
theorem dX0_fillOdds_52 : decode cX0_fillOdds 52 = .ok (.goto (-37), 3) := by decide +kernel
theorem dX0_fillOdds_55 : decode cX0_fillOdds 55 = .ok (.aload_n 0, 1) := by decide +kernel
theorem dX0_fillOdds_56 : decode cX0_fillOdds 56 = .ok (.getfield 41, 3) := by decide +kernel
theorem dX0_fillOdds_59 : decode cX0_fillOdds 59 = .ok (.iload_n 2, 1) := by decide +kernel
theorem dX0_fillOdds_60 : decode cX0_fillOdds 60 = .ok (.aaload, 1) := by decide +kernel
theorem dX0_fillOdds_61 : decode cX0_fillOdds 61 = .ok (.iconst 3, 1) := by decide +kernel
theorem dX0_fillOdds_62 : decode cX0_fillOdds 62 = .ok (.aload_n 0, 1) := by decide +kernel
theorem dX0_fillOdds_63 : decode cX0_fillOdds 63 = .ok (.getfield 44, 3) := by decide +kernel
theorem dX0_fillOdds_66 : decode cX0_fillOdds 66 = .ok (.iload_n 1, 1) := by decide +kernel
theorem dX0_fillOdds_67 : decode cX0_fillOdds 67 = .ok (.iconst 0, 1) := by decide +kernel
theorem dX0_fillOdds_68 : decode cX0_fillOdds 68 = .ok (.iload_n 2, 1) := by decide +kernel
theorem dX0_fillOdds_69 : decode cX0_fillOdds 69 = .ok (.invokevirtual 141, 3) := by decide +kernel
theorem dX0_fillOdds_72 : decode cX0_fillOdds 72 = .ok (.aload_n 0, 1) := by decide +kernel
theorem dX0_fillOdds_73 : decode cX0_fillOdds 73 = .ok (.getfield 44, 3) := by decide +kernel
theorem dX0_fillOdds_76 : decode cX0_fillOdds 76 = .ok (.iload_n 1, 1) := by decide +kernel
theorem dX0_fillOdds_77 : decode cX0_fillOdds 77 = .ok (.iconst 0, 1) := by decide +kernel
theorem dX0_fillOdds_78 : decode cX0_fillOdds 78 = .ok (.iconst 0, 1) := by decide +kernel
theorem dX0_fillOdds_79 : decode cX0_fillOdds 79 = .ok (.invokevirtual 141, 3) := by decide +kernel
theorem dX0_fillOdds_82 : decode cX0_fillOdds 82 = .ok (.isub, 1) := by decide +kernel
theorem dX0_fillOdds_83 : decode cX0_fillOdds 83 = .ok (.iastore, 1) := by decide +kernel
theorem dX0_fillOdds_84 : decode cX0_fillOdds 84 = .ok (.iinc 2 1, 3) := by decide +kernel
theorem dX0_fillOdds_87 : decode cX0_fillOdds 87 = .ok (.goto (-85), 3) := by decide +kernel
theorem dX0_fillOdds_90 : decode cX0_fillOdds 90 = .ok (.return_, 1) := by decide +kernel
theorem dX0_isEven_0 : decode cX0_isEven 0 = .ok (.iconst 1, 1) := by decide +kernel
theorem dX0_isEven_1 : decode cX0_isEven 1 = .ok (.istore 4, 2) := by decide +kernel
theorem dX0_isEven_3 : decode cX0_isEven 3 = .ok (.iload 4, 2) := by decide +kernel
theorem dX0_isEven_5 : decode cX0_isEven 5 = .ok (.aload_n 0, 1) := by decide +kernel
theorem dX0_isEven_6 : decode cX0_isEven 6 = .ok (.getfield 44, 3) := by decide +kernel
theorem dX0_isEven_9 : decode cX0_isEven 9 = .ok (.getfield 62, 3) := by decide +kernel
theorem dX0_isEven_12 : decode cX0_isEven 12 = .ok (.if_icmp .ge 48, 3) := by decide +kernel
theorem dX0_isEven_15 : decode cX0_isEven 15 = .ok (.aload_n 0, 1) := by decide +kernel
theorem dX0_isEven_16 : decode cX0_isEven 16 = .ok (.getfield 41, 3) := by decide +kernel
theorem dX0_isEven_19 : decode cX0_isEven 19 = .ok (.iload 4, 2) := by decide +kernel
theorem dX0_isEven_21 : decode cX0_isEven 21 = .ok (.aaload, 1) := by decide +kernel
theorem dX0_isEven_22 : decode cX0_isEven 22 = .ok (.astore 5, 2) := by decide +kernel
theorem dX0_isEven_24 : decode cX0_isEven 24 = .ok (.iload_n 1, 1) := by decide +kernel
theorem dX0_isEven_25 : decode cX0_isEven 25 = .ok (.aload 5, 2) := by decide +kernel
theorem dX0_isEven_27 : decode cX0_isEven 27 = .ok (.iconst 0, 1) := by decide +kernel
theorem dX0_isEven_28 : decode cX0_isEven 28 = .ok (.iaload, 1) := by decide +kernel
theorem dX0_isEven_29 : decode cX0_isEven 29 = .ok (.imul, 1) := by decide +kernel
theorem dX0_isEven_30 : decode cX0_isEven 30 = .ok (.iload_n 2, 1) := by decide +kernel
theorem dX0_isEven_31 : decode cX0_isEven 31 = .ok (.aload 5, 2) := by decide +kernel
theorem dX0_isEven_33 : decode cX0_isEven 33 = .ok (.iconst 1, 1) := by decide +kernel
theorem dX0_isEven_34 : decode cX0_isEven 34 = .ok (.iaload, 1) := by decide +kernel
theorem dX0_isEven_35 : decode cX0_isEven 35 = .ok (.imul, 1) := by decide +kernel
theorem dX0_isEven_36 : decode cX0_isEven 36 = .ok (.iadd, 1) := by decide +kernel
theorem dX0_isEven_37 : decode cX0_isEven 37 = .ok (.iload_n 3, 1) := by decide +kernel
theorem dX0_isEven_38 : decode cX0_isEven 38 = .ok (.aload 5, 2) := by decide +kernel
theorem dX0_isEven_40 : decode cX0_isEven 40 = .ok (.iconst 2, 1) := by decide +kernel
theorem dX0_isEven_41 : decode cX0_isEven 41 = .ok (.iaload, 1) := by decide +kernel
theorem dX0_isEven_42 : decode cX0_isEven 42 = .ok (.imul, 1) := by decide +kernel
theorem dX0_isEven_43 : decode cX0_isEven 43 = .ok (.iadd, 1) := by decide +kernel
theorem dX0_isEven_44 : decode cX0_isEven 44 = .ok (.aload 5, 2) := by decide +kernel
theorem dX0_isEven_46 : decode cX0_isEven 46 = .ok (.iconst 3, 1) := by decide +kernel
theorem dX0_isEven_47 : decode cX0_isEven 47 = .ok (.iaload, 1) := by decide +kernel
theorem dX0_isEven_48 : decode cX0_isEven 48 = .ok (.iadd, 1) := by decide +kernel
theorem dX0_isEven_49 : decode cX0_isEven 49 = .ok (.ifCond .eq 5, 3) := by decide +kernel
theorem dX0_isEven_52 : decode cX0_isEven 52 = .ok (.iconst 0, 1) := by decide +kernel
theorem dX0_isEven_53 : decode cX0_isEven 53 = .ok (.ireturn, 1) := by decide +kernel
theorem dX0_isEven_54 : decode cX0_isEven 54 = .ok (.iinc 4 1, 3) := by decide +kernel
theorem dX0_isEven_57 : decode cX0_isEven 57 = .ok (.goto (-54), 3) := by decide +kernel
theorem dX0_isEven_60 : decode cX0_isEven 60 = .ok (.iconst 1, 1) := by decide +kernel
theorem dX0_isEven_61 : decode cX0_isEven 61 = .ok (.ireturn, 1) := by decide +kernel
theorem dX1_init_0 : decode cX1_init 0 = .ok (.aload_n 0, 1) := by decide +kernel
theorem dX1_init_1 : decode cX1_init 1 = .ok (.invokespecial 3, 3) := by decide +kernel
theorem dX1_init_4 : decode cX1_init 4 = .ok (.aload_n 0, 1) := by decide +kernel
theorem dX1_init_5 : decode cX1_init 5 = .ok (.bipush 10, 2) := by decide +kernel
theorem dX1_init_7 : decode cX1_init 7 = .ok (.iconst 3, 1) := by decide +kernel
theorem dX1_init_8 : decode cX1_init 8 = .ok (.multianewarray 9 2, 4) := by decide +kernel
theorem dX1_init_12 : decode cX1_init 12 = .ok (.putfield 11, 3) := by decide +kernel
theorem dX1_init_15 : decode cX1_init 15 = .ok (.aload_n 0, 1) := by decide +kernel
theorem dX1_init_16 : decode cX1_init 16 = .ok (.bipush 10, 2) := by decide +kernel
theorem dX1_init_18 : decode cX1_init 18 = .ok (.iconst 3, 1) := by decide +kernel
theorem dX1_init_19 : decode cX1_init 19 = .ok (.multianewarray 9 2, 4) := by decide +kernel
theorem dX1_init_23 : decode cX1_init 23 = .ok (.putfield 16, 3) := by decide +kernel
theorem dX1_init_26 : decode cX1_init 26 = .ok (.aload_n 0, 1) := by decide +kernel
theorem dX1_init_27 : decode cX1_init 27 = .ok (.bipush 10, 2) := by decide +kernel
theorem dX1_init_29 : decode cX1_init 29 = .ok (.bipush 12, 2) := by decide +kernel
theorem dX1_init_31 : decode cX1_init 31 = .ok (.multianewarray 9 2, 4) := by decide +kernel
theorem dX1_init_35 : decode cX1_init 35 = .ok (.putfield 19, 3) := by decide +kernel
theorem dX1_init_38 : decode cX1_init 38 = .ok (.aload_n 0, 1) := by decide +kernel
theorem dX1_init_39 : decode cX1_init 39 = .ok (.iconst 4, 1) := by decide +kernel
theorem dX1_init_40 : decode cX1_init 40 = .ok (.newarray .int, 2) := by decide +kernel
theorem dX1_init_42 : decode cX1_init 42 = .ok (.putfield 22, 3) := by decide +kernel
theorem dX1_init_45 : decode cX1_init 45 = .ok (.aload_n 0, 1) := by decide +kernel
theorem dX1_init_46 : decode cX1_init 46 = .ok (.aload_n 1, 1) := by decide +kernel
theorem dX1_init_47 : decode cX1_init 47 = .ok (.putfield 26, 3) := by decide +kernel
theorem dX1_init_50 : decode cX1_init 50 = .ok (.aload_n 0, 1) := by decide +kernel
theorem dX1_init_51 : decode cX1_init 51 = .ok (.iload_n 2, 1) := by decide +kernel
theorem dX1_init_52 : decode cX1_init 52 = .ok (.putfield 30, 3) := by decide +kernel
theorem dX1_init_55 : decode cX1_init 55 = .ok (.return_, 1) := by decide +kernel
theorem dX1_winner_0 : decode cX1_winner 0 = .ok (.aload_n 0, 1) := by decide +kernel
theorem dX1_winner_1 : decode cX1_winner 1 = .ok (.getfield 11, 3) := by decide +kernel
theorem dX1_winner_4 : decode cX1_winner 4 = .ok (.iload_n 1, 1) := by decide +kernel
theorem dX1_winner_5 : decode cX1_winner 5 = .ok (.aaload, 1) := by decide +kernel
theorem dX1_winner_6 : decode cX1_winner 6 = .ok (.iload_n 2, 1) := by decide +kernel
theorem dX1_winner_7 : decode cX1_winner 7 = .ok (.iaload, 1) := by decide +kernel
theorem dX1_winner_8 : decode cX1_winner 8 = .ok (.ireturn, 1) := by decide +kernel
theorem dX1_greatness_0 : decode cX1_greatness 0 = .ok (.aload_n 0, 1) := by decide +kernel
theorem dX1_greatness_1 : decode cX1_greatness 1 = .ok (.getfield 16, 3) := by decide +kernel
theorem dX1_greatness_4 : decode cX1_greatness 4 = .ok (.iload_n 1, 1) := by decide +kernel
theorem dX1_greatness_5 : decode cX1_greatness 5 = .ok (.aaload, 1) := by decide +kernel
theorem dX1_greatness_6 : decode cX1_greatness 6 = .ok (.iload_n 2, 1) := by decide +kernel
theorem dX1_greatness_7 : decode cX1_greatness 7 = .ok (.iaload, 1) := by decide +kernel
theorem dX1_greatness_8 : decode cX1_greatness 8 = .ok (.ireturn, 1) := by decide +kernel
theorem dX1_tally_0 : decode cX1_tally 0 = .ok (.aload_n 0, 1) := by decide +kernel
theorem dX1_tally_1 : decode cX1_tally 1 = .ok (.getfield 19, 3) := by decide +kernel
theorem dX1_tally_4 : decode cX1_tally 4 = .ok (.iload_n 1, 1) := by decide +kernel
theorem dX1_tally_5 : decode cX1_tally 5 = .ok (.aaload, 1) := by decide +kernel
theorem dX1_tally_6 : decode cX1_tally 6 = .ok (.iload_n 2, 1) := by decide +kernel
theorem dX1_tally_7 : decode cX1_tally 7 = .ok (.iconst 4, 1) := by decide +kernel
theorem dX1_tally_8 : decode cX1_tally 8 = .ok (.imul, 1) := by decide +kernel
theorem dX1_tally_9 : decode cX1_tally 9 = .ok (.iload_n 3, 1) := by decide +kernel
theorem dX1_tally_10 : decode cX1_tally 10 = .ok (.iadd, 1) := by decide +kernel
theorem dX1_tally_11 : decode cX1_tally 11 = .ok (.iaload, 1) := by decide +kernel
theorem dX1_tally_12 : decode cX1_tally 12 = .ok (.ireturn, 1) := by decide +kernel
theorem dX1_update_0 : decode cX1_update 0 = .ok (.aload_n 0, 1) := by decide +kernel
theorem dX1_update_1 : decode cX1_update 1 = .ok (.getfield 34, 3) := by decide +kernel
theorem dX1_update_4 : decode cX1_update 4 = .ok (.aload_n 0, 1) := by decide +kernel
theorem dX1_update_5 : decode cX1_update 5 = .ok (.getfield 26, 3) := by decide +kernel
theorem dX1_update_8 : decode cX1_update 8 = .ok (.getfield 37, 3) := by decide +kernel
theorem dX1_update_11 : decode cX1_update 11 = .ok (.if_icmp .ne 4, 3) := by decide +kernel
theorem dX1_update_14 : decode cX1_update 14 = .ok (.return_, 1) := by decide +kernel
theorem dX1_update_15 : decode cX1_update 15 = .ok (.aload_n 0, 1) := by decide +kernel
theorem dX1_update_16 : decode cX1_update 16 = .ok (.aload_n 0, 1) := by decide +kernel
theorem dX1_update_17 : decode cX1_update 17 = .ok (.getfield 26, 3) := by decide +kernel
theorem dX1_update_20 : decode cX1_update 20 = .ok (.getfield 37, 3) := by decide +kernel
theorem dX1_update_23 : decode cX1_update 23 = .ok (.putfield 34, 3) := by decide +kernel
theorem dX1_update_26 : decode cX1_update 26 = .ok (.iconst 0, 1) := by decide +kernel
theorem dX1_update_27 : decode cX1_update 27 = .ok (.istore_n 1, 1) := by decide +kernel
theorem dX1_update_28 : decode cX1_update 28 = .ok (.iload_n 1, 1) := by decide +kernel
theorem dX1_update_29 : decode cX1_update 29 = .ok (.bipush 10, 2) := by decide +kernel
theorem dX1_update_31 : decode cX1_update 31 = .ok (.if_icmp .ge 68, 3) := by decide +kernel
theorem dX1_update_34 : decode cX1_update 34 = .ok (.iconst 0, 1) := by decide +kernel
theorem dX1_update_35 : decode cX1_update 35 = .ok (.istore_n 2, 1) := by decide +kernel
theorem dX1_update_36 : decode cX1_update 36 = .ok (.iload_n 2, 1) := by decide +kernel
theorem dX1_update_37 : decode cX1_update 37 = .ok (.iconst 3, 1) := by decide +kernel
theorem dX1_update_38 : decode cX1_update 38 = .ok (.if_icmp .ge 55, 3) := by decide +kernel
theorem dX1_update_41 : decode cX1_update 41 = .ok (.aload_n 0, 1) := by decide +kernel
theorem dX1_update_42 : decode cX1_update 42 = .ok (.getfield 26, 3) := by decide +kernel
theorem dX1_update_45 : decode cX1_update 45 = .ok (.getfield 40, 3) := by decide +kernel
theorem dX1_update_48 : decode cX1_update 48 = .ok (.ifCond .ne 12, 3) := by decide +kernel
theorem dX1_update_51 : decode cX1_update 51 = .ok (.aload_n 0, 1) := by decide +kernel
theorem dX1_update_52 : decode cX1_update 52 = .ok (.iload_n 1, 1) := by decide +kernel
theorem dX1_update_53 : decode cX1_update 53 = .ok (.iload_n 2, 1) := by decide +kernel
theorem dX1_update_54 : decode cX1_update 54 = .ok (.invokevirtual 43, 3) := by decide +kernel
theorem dX1_update_57 : decode cX1_update 57 = .ok (.goto 30, 3) := by decide +kernel
theorem dX1_update_60 : decode cX1_update 60 = .ok (.iload_n 2, 1) := by decide +kernel
theorem dX1_update_61 : decode cX1_update 61 = .ok (.ifCond .eq 11, 3) := by decide +kernel
theorem dX1_update_64 : decode cX1_update 64 = .ok (.aload_n 0, 1) := by decide +kernel
theorem dX1_update_65 : decode cX1_update 65 = .ok (.getfield 30, 3) := by decide +kernel
theorem dX1_update_68 : decode cX1_update 68 = .ok (.iconst 1, 1) := by decide +kernel
theorem dX1_update_69 : decode cX1_update 69 = .ok (.if_icmp .ne 12, 3) := by decide +kernel
theorem dX1_update_72 : decode cX1_update 72 = .ok (.aload_n 0, 1) := by decide +kernel
theorem dX1_update_73 : decode cX1_update 73 = .ok (.iload_n 1, 1) := by decide +kernel
theorem dX1_update_74 : decode cX1_update 74 = .ok (.iload_n 2, 1) := by decide +kernel
theorem dX1_update_75 : decode cX1_update 75 = .ok (.invokevirtual 47, 3) := by decide +kernel
theorem dX1_update_78 : decode cX1_update 78 = .ok (.goto 9, 3) := by decide +kernel
theorem dX1_update_81 : decode cX1_update 81 = .ok (.aload_n 0, 1) := by decide +kernel
theorem dX1_update_82 : decode cX1_update 82 = .ok (.iload_n 1, 1) := by decide +kernel
theorem dX1_update_83 : decode cX1_update 83 = .ok (.iload_n 2, 1) := by decide +kernel
theorem dX1_update_84 : decode cX1_update 84 = .ok (.invokevirtual 50, 3) := by decide +kernel
theorem dX1_update_87 : decode cX1_update 87 = .ok (.iinc 2 1, 3) := by decide +kernel
theorem dX1_update_90 : decode cX1_update 90 = .ok (.goto (-54), 3) := by decide +kernel
theorem dX1_update_93 : decode cX1_update 93 = .ok (.iinc 1 1, 3) := by decide +kernel
theorem dX1_update_96 : decode cX1_update 96 = .ok (.goto (-68), 3) := by decide +kernel
theorem dX1_update_99 : decode cX1_update 99 = .ok (.return_, 1) := by decide +kernel
theorem dX1_leaveOpen_0 : decode cX1_leaveOpen 0 = .ok (.aload_n 0, 1) := by decide +kernel
theorem dX1_leaveOpen_1 : decode cX1_leaveOpen 1 = .ok (.getfield 11, 3) := by decide +kernel
theorem dX1_leaveOpen_4 : decode cX1_leaveOpen 4 = .ok (.iload_n 1, 1) := by decide +kernel
theorem dX1_leaveOpen_5 : decode cX1_leaveOpen 5 = .ok (.aaload, 1) := by decide +kernel
theorem dX1_leaveOpen_6 : decode cX1_leaveOpen 6 = .ok (.iload_n 2, 1) := by decide +kernel
theorem dX1_leaveOpen_7 : decode cX1_leaveOpen 7 = .ok (.iconst (-1), 1) := by decide +kernel
theorem dX1_leaveOpen_8 : decode cX1_leaveOpen 8 = .ok (.iastore, 1) := by decide +kernel
theorem dX1_leaveOpen_9 : decode cX1_leaveOpen 9 = .ok (.aload_n 0, 1) := by decide +kernel
theorem dX1_leaveOpen_10 : decode cX1_leaveOpen 10 = .ok (.getfield 16, 3) := by decide +kernel
theorem dX1_leaveOpen_13 : decode cX1_leaveOpen 13 = .ok (.iload_n 1, 1) := by decide +kernel
theorem dX1_leaveOpen_14 : decode cX1_leaveOpen 14 = .ok (.aaload, 1) := by decide +kernel
theorem dX1_leaveOpen_15 : decode cX1_leaveOpen 15 = .ok (.iload_n 2, 1) := by decide +kernel
theorem dX1_leaveOpen_16 : decode cX1_leaveOpen 16 = .ok (.iconst 1, 1) := by decide +kernel
theorem dX1_leaveOpen_17 : decode cX1_leaveOpen 17 = .ok (.iastore, 1) := by decide +kernel
theorem dX1_leaveOpen_18 : decode cX1_leaveOpen 18 = .ok (.return_, 1) := by decide +kernel
theorem dX1_hold_0 : decode cX1_hold 0 = .ok (.iload_n 1, 1) := by decide +kernel
theorem dX1_hold_1 : decode cX1_hold 1 = .ok (.ifCond .ne 7, 3) := by decide +kernel
theorem dX1_hold_4 : decode cX1_hold 4 = .ok (.iconst (-1), 1) := by decide +kernel
theorem dX1_hold_5 : decode cX1_hold 5 = .ok (.goto 13, 3) := by decide +kernel
theorem dX1_hold_8 : decode cX1_hold 8 = .ok (.aload_n 0, 1) := by decide +kernel
theorem dX1_hold_9 : decode cX1_hold 9 = .ok (.getfield 11, 3) := by decide +kernel
theorem dX1_hold_12 : decode cX1_hold 12 = .ok (.iload_n 1, 1) := by decide +kernel
theorem dX1_hold_13 : decode cX1_hold 13 = .ok (.iconst 1, 1) := by decide +kernel
theorem dX1_hold_14 : decode cX1_hold 14 = .ok (.isub, 1) := by decide +kernel
theorem dX1_hold_15 : decode cX1_hold 15 = .ok (.aaload, 1) := by decide +kernel
theorem dX1_hold_16 : decode cX1_hold 16 = .ok (.iload_n 2, 1) := by decide +kernel
theorem dX1_hold_17 : decode cX1_hold 17 = .ok (.iaload, 1) := by decide +kernel
theorem dX1_hold_18 : decode cX1_hold 18 = .ok (.istore_n 3, 1) := by decide +kernel
theorem dX1_hold_19 : decode cX1_hold 19 = .ok (.aload_n 0, 1) := by decide +kernel
theorem dX1_hold_20 : decode cX1_hold 20 = .ok (.getfield 19, 3) := by decide +kernel
theorem dX1_hold_23 : decode cX1_hold 23 = .ok (.iload_n 1, 1) := by decide +kernel
theorem dX1_hold_24 : decode cX1_hold 24 = .ok (.aaload, 1) := by decide +kernel
theorem dX1_hold_25 : decode cX1_hold 25 = .ok (.astore 4, 2) := by decide +kernel
theorem dX1_hold_27 : decode cX1_hold 27 = .ok (.iload_n 2, 1) := by decide +kernel
theorem dX1_hold_28 : decode cX1_hold 28 = .ok (.iconst 4, 1) := by decide +kernel
theorem dX1_hold_29 : decode cX1_hold 29 = .ok (.imul, 1) := by decide +kernel
theorem dX1_hold_30 : decode cX1_hold 30 = .ok (.istore 5, 2) := by decide +kernel
theorem dX1_hold_32 : decode cX1_hold 32 = .ok (.iconst 0, 1) := by decide +kernel
theorem dX1_hold_33 : decode cX1_hold 33 = .ok (.istore 6, 2) := by decide +kernel
theorem dX1_hold_35 : decode cX1_hold 35 = .ok (.iload 6, 2) := by decide +kernel
theorem dX1_hold_37 : decode cX1_hold 37 = .ok (.iconst 4, 1) := by decide +kernel
theorem dX1_hold_38 : decode cX1_hold 38 = .ok (.if_icmp .ge 18, 3) := by decide +kernel
theorem dX1_hold_41 : decode cX1_hold 41 = .ok (.aload 4, 2) := by decide +kernel
theorem dX1_hold_43 : decode cX1_hold 43 = .ok (.iload 5, 2) := by decide +kernel
theorem dX1_hold_45 : decode cX1_hold 45 = .ok (.iload 6, 2) := by decide +kernel
theorem dX1_hold_47 : decode cX1_hold 47 = .ok (.iadd, 1) := by decide +kernel
theorem dX1_hold_48 : decode cX1_hold 48 = .ok (.iconst 0, 1) := by decide +kernel
theorem dX1_hold_49 : decode cX1_hold 49 = .ok (.iastore, 1) := by decide +kernel
theorem dX1_hold_50 : decode cX1_hold 50 = .ok (.iinc 6 1, 3) := by decide +kernel
theorem dX1_hold_53 : decode cX1_hold 53 = .ok (.goto (-18), 3) := by decide +kernel
theorem dX1_hold_56 : decode cX1_hold 56 = .ok (.iconst 0, 1) := by decide +kernel
theorem dX1_hold_57 : decode cX1_hold 57 = .ok (.istore 6, 2) := by decide +kernel
theorem dX1_hold_59 : decode cX1_hold 59 = .ok (.iload 6, 2) := by decide +kernel
theorem dX1_hold_61 : decode cX1_hold 61 = .ok (.aload_n 0, 1) := by decide +kernel
theorem dX1_hold_62 : decode cX1_hold 62 = .ok (.getfield 26, 3) := by decide +kernel
theorem dX1_hold_65 : decode cX1_hold 65 = .ok (.getfield 53, 3) := by decide +kernel
theorem dX1_hold_68 : decode cX1_hold 68 = .ok (.if_icmp .ge 91, 3) := by decide +kernel
theorem dX1_hold_71 : decode cX1_hold 71 = .ok (.aload_n 0, 1) := by decide +kernel
theorem dX1_hold_72 : decode cX1_hold 72 = .ok (.getfield 30, 3) := by decide +kernel
theorem dX1_hold_75 : decode cX1_hold 75 = .ok (.iconst 1, 1) := by decide +kernel
theorem dX1_hold_76 : decode cX1_hold 76 = .ok (.if_icmp .ne 19, 3) := by decide +kernel
theorem dX1_hold_79 : decode cX1_hold 79 = .ok (.aload_n 0, 1) := by decide +kernel
theorem dX1_hold_80 : decode cX1_hold 80 = .ok (.getfield 26, 3) := by decide +kernel
theorem dX1_hold_83 : decode cX1_hold 83 = .ok (.iload 6, 2) := by decide +kernel
theorem dX1_hold_85 : decode cX1_hold 85 = .ok (.invokevirtual 56, 3) := by decide +kernel
theorem dX1_hold_88 : decode cX1_hold 88 = .ok (.iload_n 2, 1) := by decide +kernel
theorem dX1_hold_89 : decode cX1_hold 89 = .ok (.if_icmp .eq 6, 3) := by decide +kernel
theorem dX1_hold_92 : decode cX1_hold 92 = .ok (.goto 61, 3) := by decide +kernel
theorem dX1_hold_95 : decode cX1_hold 95 = .ok (.aload_n 0, 1) := by decide +kernel
theorem dX1_hold_96 : decode cX1_hold 96 = .ok (.getfield 26, 3) := by decide +kernel
theorem dX1_hold_99 : decode cX1_hold 99 = .ok (.iload 6, 2) := by decide +kernel
theorem dX1_hold_101 : decode cX1_hold 101 = .ok (.iload_n 1, 1) := by decide +kernel
theorem dX1_hold_102 : decode cX1_hold 102 = .ok (.aload_n 0, 1) := by decide +kernel
theorem dX1_hold_103 : decode cX1_hold 103 = .ok (.getfield 22, 3) := by decide +kernel
theorem dX1_hold_106 : decode cX1_hold 106 = .ok (.invokevirtual 60, 3) := by decide +kernel
theorem dX1_hold_109 : decode cX1_hold 109 = .ok (.aload_n 0, 1) := by decide +kernel
theorem dX1_hold_110 : decode cX1_hold 110 = .ok (.getfield 30, 3) := by decide +kernel
theorem dX1_hold_113 : decode cX1_hold 113 = .ok (.iconst 2, 1) := by decide +kernel
theorem dX1_hold_114 : decode cX1_hold 114 = .ok (.if_icmp .ne 13, 3) := by decide +kernel
theorem dX1_hold_117 : decode cX1_hold 117 = .ok (.aload_n 0, 1) := by decide +kernel
theorem dX1_hold_118 : decode cX1_hold 118 = .ok (.aload 4, 2) := by decide +kernel
theorem dX1_hold_120 : decode cX1_hold 120 = .ok (.iload_n 3, 1) := by decide +kernel
theorem dX1_hold_121 : decode cX1_hold 121 = .ok (.invokevirtual 64, 3) := by decide +kernel
theorem dX1_hold_124 : decode cX1_hold 124 = .ok (.goto 29, 3) := by decide +kernel
theorem dX1_hold_127 : decode cX1_hold 127 = .ok (.aload 4, 2) := by decide +kernel
theorem dX1_hold_129 : decode cX1_hold 129 = .ok (.iload 5, 2) := by decide +kernel
theorem dX1_hold_131 : decode cX1_hold 131 = .ok (.aload_n 0, 1) := by decide +kernel
theorem dX1_hold_132 : decode cX1_hold 132 = .ok (.getfield 22, 3) := by decide +kernel
theorem dX1_hold_135 : decode cX1_hold 135 = .ok (.iconst 0, 1) := by decide +kernel
theorem dX1_hold_136 : decode cX1_hold 136 = .ok (.aload_n 0, 1) := by decide +kernel
theorem dX1_hold_137 : decode cX1_hold 137 = .ok (.getfield 26, 3) := by decide +kernel
theorem dX1_hold_140 : decode cX1_hold 140 = .ok (.getfield 40, 3) := by decide +kernel
theorem dX1_hold_143 : decode cX1_hold 143 = .ok (.iload_n 3, 1) := by decide +kernel
theorem dX1_hold_144 : decode cX1_hold 144 = .ok (.invokestatic 68, 3) := by decide +kernel
theorem dX1_hold_147 : decode cX1_hold 147 = .ok (.iadd, 1) := by decide +kernel
theorem dX1_hold_148 : decode cX1_hold 148 = .ok (.dup2, 1) := by decide +kernel
theorem dX1_hold_149 : decode cX1_hold 149 = .ok (.iaload, 1) := by decide +kernel
theorem dX1_hold_150 : decode cX1_hold 150 = .ok (.iconst 1, 1) := by decide +kernel
theorem dX1_hold_151 : decode cX1_hold 151 = .ok (.iadd, 1) := by decide +kernel
theorem dX1_hold_152 : decode cX1_hold 152 = .ok (.iastore, 1) := by decide +kernel
theorem dX1_hold_153 : decode cX1_hold 153 = .ok (.iinc 6 1, 3) := by decide +kernel
theorem dX1_hold_156 : decode cX1_hold 156 = .ok (.goto (-97), 3) := by decide +kernel
theorem dX1_hold_159 : decode cX1_hold 159 = .ok (.aload 4, 2) := by decide +kernel
theorem dX1_hold_161 : decode cX1_hold 161 = .ok (.iload 5, 2) := by decide +kernel
theorem dX1_hold_163 : decode cX1_hold 163 = .ok (.aload_n 0, 1) := by decide +kernel
theorem dX1_hold_164 : decode cX1_hold 164 = .ok (.getfield 26, 3) := by decide +kernel
theorem dX1_hold_167 : decode cX1_hold 167 = .ok (.getfield 40, 3) := by decide +kernel
theorem dX1_hold_170 : decode cX1_hold 170 = .ok (.iload_n 3, 1) := by decide +kernel
theorem dX1_hold_171 : decode cX1_hold 171 = .ok (.invokestatic 68, 3) := by decide +kernel
theorem dX1_hold_174 : decode cX1_hold 174 = .ok (.istore 6, 2) := by decide +kernel
theorem dX1_hold_176 : decode cX1_hold 176 = .ok (.aload_n 0, 1) := by decide +kernel
theorem dX1_hold_177 : decode cX1_hold 177 = .ok (.getfield 11, 3) := by decide +kernel
theorem dX1_hold_180 : decode cX1_hold 180 = .ok (.iload_n 1, 1) := by decide +kernel
theorem dX1_hold_181 : decode cX1_hold 181 = .ok (.aaload, 1) := by decide +kernel
theorem dX1_hold_182 : decode cX1_hold 182 = .ok (.iload_n 2, 1) := by decide +kernel
theorem dX1_hold_183 : decode cX1_hold 183 = .ok (.iload 6, 2) := by decide +kernel
theorem dX1_hold_185 : decode cX1_hold 185 = .ok (.iastore, 1) := by decide +kernel
theorem dX1_hold_186 : decode cX1_hold 186 = .ok (.aload_n 0, 1) := by decide +kernel
theorem dX1_hold_187 : decode cX1_hold 187 = .ok (.getfield 16, 3) := by decide +kernel
theorem dX1_hold_190 : decode cX1_hold 190 = .ok (.iload_n 1, 1) := by decide +kernel
theorem dX1_hold_191 : decode cX1_hold 191 = .ok (.aaload, 1) := by decide +kernel
theorem dX1_hold_192 : decode cX1_hold 192 = .ok (.iload_n 2, 1) := by decide +kernel
theorem dX1_hold_193 : decode cX1_hold 193 = .ok (.aload_n 0, 1) := by decide +kernel
theorem dX1_hold_194 : decode cX1_hold 194 = .ok (.getfield 26, 3) := by decide +kernel
theorem dX1_hold_197 : decode cX1_hold 197 = .ok (.iload_n 1, 1) := by decide +kernel
theorem dX1_hold_198 : decode cX1_hold 198 = .ok (.iload 6, 2) := by decide +kernel
theorem dX1_hold_200 : decode cX1_hold 200 = .ok (.iload_n 2, 1) := by decide +kernel
theorem dX1_hold_201 : decode cX1_hold 201 = .ok (.invokevirtual 72, 3) := by decide +kernel
theorem dX1_hold_204 : decode cX1_hold 204 = .ok (.iastore, 1) := by decide +kernel
theorem dX1_hold_205 : decode cX1_hold 205 = .ok (.return_, 1) := by decide +kernel
theorem dX1_approve_0 : decode cX1_approve 0 = .ok (.iconst 0, 1) := by decide +kernel
theorem dX1_approve_1 : decode cX1_approve 1 = .ok (.istore_n 3, 1) := by decide +kernel
theorem dX1_approve_2 : decode cX1_approve 2 = .ok (.iconst 0, 1) := by decide +kernel
theorem dX1_approve_3 : decode cX1_approve 3 = .ok (.istore 4, 2) := by decide +kernel
theorem dX1_approve_5 : decode cX1_approve 5 = .ok (.iload 4, 2) := by decide +kernel
theorem dX1_approve_7 : decode cX1_approve 7 = .ok (.aload_n 0, 1) := by decide +kernel
theorem dX1_approve_8 : decode cX1_approve 8 = .ok (.getfield 26, 3) := by decide +kernel
theorem dX1_approve_11 : decode cX1_approve 11 = .ok (.getfield 40, 3) := by decide +kernel
theorem dX1_approve_14 : decode cX1_approve 14 = .ok (.if_icmp .ge 19, 3) := by decide +kernel
theorem dX1_approve_17 : decode cX1_approve 17 = .ok (.iload_n 3, 1) := by decide +kernel
theorem dX1_approve_18 : decode cX1_approve 18 = .ok (.aload_n 0, 1) := by decide +kernel
theorem dX1_approve_19 : decode cX1_approve 19 = .ok (.getfield 22, 3) := by decide +kernel
theorem dX1_approve_22 : decode cX1_approve 22 = .ok (.iload 4, 2) := by decide +kernel
theorem dX1_approve_24 : decode cX1_approve 24 = .ok (.iaload, 1) := by decide +kernel
theorem dX1_approve_25 : decode cX1_approve 25 = .ok (.iadd, 1) := by decide +kernel
theorem dX1_approve_26 : decode cX1_approve 26 = .ok (.istore_n 3, 1) := by decide +kernel
theorem dX1_approve_27 : decode cX1_approve 27 = .ok (.iinc 4 1, 3) := by decide +kernel
theorem dX1_approve_30 : decode cX1_approve 30 = .ok (.goto (-25), 3) := by decide +kernel
theorem dX1_approve_33 : decode cX1_approve 33 = .ok (.iconst 0, 1) := by decide +kernel
theorem dX1_approve_34 : decode cX1_approve 34 = .ok (.istore 4, 2) := by decide +kernel
theorem dX1_approve_36 : decode cX1_approve 36 = .ok (.iload 4, 2) := by decide +kernel
theorem dX1_approve_38 : decode cX1_approve 38 = .ok (.aload_n 0, 1) := by decide +kernel
theorem dX1_approve_39 : decode cX1_approve 39 = .ok (.getfield 26, 3) := by decide +kernel
theorem dX1_approve_42 : decode cX1_approve 42 = .ok (.getfield 40, 3) := by decide +kernel
theorem dX1_approve_45 : decode cX1_approve 45 = .ok (.if_icmp .ge 77, 3) := by decide +kernel
theorem dX1_approve_48 : decode cX1_approve 48 = .ok (.iload_n 2, 1) := by decide +kernel
theorem dX1_approve_49 : decode cX1_approve 49 = .ok (.iconst (-1), 1) := by decide +kernel
theorem dX1_approve_50 : decode cX1_approve 50 = .ok (.if_icmp .ne 30, 3) := by decide +kernel
theorem dX1_approve_53 : decode cX1_approve 53 = .ok (.aload_n 0, 1) := by decide +kernel
theorem dX1_approve_54 : decode cX1_approve 54 = .ok (.getfield 22, 3) := by decide +kernel
theorem dX1_approve_57 : decode cX1_approve 57 = .ok (.iload 4, 2) := by decide +kernel
theorem dX1_approve_59 : decode cX1_approve 59 = .ok (.iaload, 1) := by decide +kernel
theorem dX1_approve_60 : decode cX1_approve 60 = .ok (.aload_n 0, 1) := by decide +kernel
theorem dX1_approve_61 : decode cX1_approve 61 = .ok (.getfield 26, 3) := by decide +kernel
theorem dX1_approve_64 : decode cX1_approve 64 = .ok (.getfield 40, 3) := by decide +kernel
theorem dX1_approve_67 : decode cX1_approve 67 = .ok (.imul, 1) := by decide +kernel
theorem dX1_approve_68 : decode cX1_approve 68 = .ok (.iload_n 3, 1) := by decide +kernel
theorem dX1_approve_69 : decode cX1_approve 69 = .ok (.if_icmp .lt 7, 3) := by decide +kernel
theorem dX1_approve_72 : decode cX1_approve 72 = .ok (.iconst 1, 1) := by decide +kernel
theorem dX1_approve_73 : decode cX1_approve 73 = .ok (.goto 28, 3) := by decide +kernel
theorem dX1_approve_76 : decode cX1_approve 76 = .ok (.iconst 0, 1) := by decide +kernel
theorem dX1_approve_77 : decode cX1_approve 77 = .ok (.goto 24, 3) := by decide +kernel
theorem dX1_approve_80 : decode cX1_approve 80 = .ok (.aload_n 0, 1) := by decide +kernel
theorem dX1_approve_81 : decode cX1_approve 81 = .ok (.getfield 22, 3) := by decide +kernel
theorem dX1_approve_84 : decode cX1_approve 84 = .ok (.iload 4, 2) := by decide +kernel
theorem dX1_approve_86 : decode cX1_approve 86 = .ok (.iaload, 1) := by decide +kernel
theorem dX1_approve_87 : decode cX1_approve 87 = .ok (.aload_n 0, 1) := by decide +kernel
theorem dX1_approve_88 : decode cX1_approve 88 = .ok (.getfield 22, 3) := by decide +kernel
theorem dX1_approve_91 : decode cX1_approve 91 = .ok (.iload_n 2, 1) := by decide +kernel
theorem dX1_approve_92 : decode cX1_approve 92 = .ok (.iaload, 1) := by decide +kernel
theorem dX1_approve_93 : decode cX1_approve 93 = .ok (.if_icmp .lt 7, 3) := by decide +kernel
theorem dX1_approve_96 : decode cX1_approve 96 = .ok (.iconst 1, 1) := by decide +kernel
theorem dX1_approve_97 : decode cX1_approve 97 = .ok (.goto 4, 3) := by decide +kernel
theorem dX1_approve_100 : decode cX1_approve 100 = .ok (.iconst 0, 1) := by decide +kernel
theorem dX1_approve_101 : decode cX1_approve 101 = .ok (.istore 5, 2) := by decide +kernel
theorem dX1_approve_103 : decode cX1_approve 103 = .ok (.iload 5, 2) := by decide +kernel
theorem dX1_approve_105 : decode cX1_approve 105 = .ok (.ifCond .eq 11, 3) := by decide +kernel
theorem dX1_approve_108 : decode cX1_approve 108 = .ok (.aload_n 1, 1) := by decide +kernel
theorem dX1_approve_109 : decode cX1_approve 109 = .ok (.iload 4, 2) := by decide +kernel
theorem dX1_approve_111 : decode cX1_approve 111 = .ok (.dup2, 1) := by decide +kernel
theorem dX1_approve_112 : decode cX1_approve 112 = .ok (.iaload, 1) := by decide +kernel
theorem dX1_approve_113 : decode cX1_approve 113 = .ok (.iconst 1, 1) := by decide +kernel
theorem dX1_approve_114 : decode cX1_approve 114 = .ok (.iadd, 1) := by decide +kernel
theorem dX1_approve_115 : decode cX1_approve 115 = .ok (.iastore, 1) := by decide +kernel
theorem dX1_approve_116 : decode cX1_approve 116 = .ok (.iinc 4 1, 3) := by decide +kernel
theorem dX1_approve_119 : decode cX1_approve 119 = .ok (.goto (-83), 3) := by decide +kernel
theorem dX1_approve_122 : decode cX1_approve 122 = .ok (.return_, 1) := by decide +kernel
theorem dX1_repeatFirst_0 : decode cX1_repeatFirst 0 = .ok (.aload_n 0, 1) := by decide +kernel
theorem dX1_repeatFirst_1 : decode cX1_repeatFirst 1 = .ok (.getfield 11, 3) := by decide +kernel
theorem dX1_repeatFirst_4 : decode cX1_repeatFirst 4 = .ok (.iload_n 1, 1) := by decide +kernel
theorem dX1_repeatFirst_5 : decode cX1_repeatFirst 5 = .ok (.aaload, 1) := by decide +kernel
theorem dX1_repeatFirst_6 : decode cX1_repeatFirst 6 = .ok (.iload_n 2, 1) := by decide +kernel
theorem dX1_repeatFirst_7 : decode cX1_repeatFirst 7 = .ok (.aload_n 0, 1) := by decide +kernel
theorem dX1_repeatFirst_8 : decode cX1_repeatFirst 8 = .ok (.getfield 11, 3) := by decide +kernel
theorem dX1_repeatFirst_11 : decode cX1_repeatFirst 11 = .ok (.iload_n 1, 1) := by decide +kernel
theorem dX1_repeatFirst_12 : decode cX1_repeatFirst 12 = .ok (.aaload, 1) := by decide +kernel
theorem dX1_repeatFirst_13 : decode cX1_repeatFirst 13 = .ok (.iconst 0, 1) := by decide +kernel
theorem dX1_repeatFirst_14 : decode cX1_repeatFirst 14 = .ok (.iaload, 1) := by decide +kernel
theorem dX1_repeatFirst_15 : decode cX1_repeatFirst 15 = .ok (.iastore, 1) := by decide +kernel
theorem dX1_repeatFirst_16 : decode cX1_repeatFirst 16 = .ok (.aload_n 0, 1) := by decide +kernel
theorem dX1_repeatFirst_17 : decode cX1_repeatFirst 17 = .ok (.getfield 16, 3) := by decide +kernel
theorem dX1_repeatFirst_20 : decode cX1_repeatFirst 20 = .ok (.iload_n 1, 1) := by decide +kernel
theorem dX1_repeatFirst_21 : decode cX1_repeatFirst 21 = .ok (.aaload, 1) := by decide +kernel
theorem dX1_repeatFirst_22 : decode cX1_repeatFirst 22 = .ok (.iload_n 2, 1) := by decide +kernel
theorem dX1_repeatFirst_23 : decode cX1_repeatFirst 23 = .ok (.aload_n 0, 1) := by decide +kernel
theorem dX1_repeatFirst_24 : decode cX1_repeatFirst 24 = .ok (.getfield 26, 3) := by decide +kernel
theorem dX1_repeatFirst_27 : decode cX1_repeatFirst 27 = .ok (.iload_n 1, 1) := by decide +kernel
theorem dX1_repeatFirst_28 : decode cX1_repeatFirst 28 = .ok (.aload_n 0, 1) := by decide +kernel
theorem dX1_repeatFirst_29 : decode cX1_repeatFirst 29 = .ok (.getfield 11, 3) := by decide +kernel
theorem dX1_repeatFirst_32 : decode cX1_repeatFirst 32 = .ok (.iload_n 1, 1) := by decide +kernel
theorem dX1_repeatFirst_33 : decode cX1_repeatFirst 33 = .ok (.aaload, 1) := by decide +kernel
theorem dX1_repeatFirst_34 : decode cX1_repeatFirst 34 = .ok (.iconst 0, 1) := by decide +kernel
theorem dX1_repeatFirst_35 : decode cX1_repeatFirst 35 = .ok (.iaload, 1) := by decide +kernel
theorem dX1_repeatFirst_36 : decode cX1_repeatFirst 36 = .ok (.iload_n 2, 1) := by decide +kernel
theorem dX1_repeatFirst_37 : decode cX1_repeatFirst 37 = .ok (.invokevirtual 72, 3) := by decide +kernel
theorem dX1_repeatFirst_40 : decode cX1_repeatFirst 40 = .ok (.iastore, 1) := by decide +kernel
theorem dX1_repeatFirst_41 : decode cX1_repeatFirst 41 = .ok (.aload_n 0, 1) := by decide +kernel
theorem dX1_repeatFirst_42 : decode cX1_repeatFirst 42 = .ok (.getfield 19, 3) := by decide +kernel
theorem dX1_repeatFirst_45 : decode cX1_repeatFirst 45 = .ok (.iload_n 1, 1) := by decide +kernel
theorem dX1_repeatFirst_46 : decode cX1_repeatFirst 46 = .ok (.aaload, 1) := by decide +kernel
theorem dX1_repeatFirst_47 : decode cX1_repeatFirst 47 = .ok (.iconst 0, 1) := by decide +kernel
theorem dX1_repeatFirst_48 : decode cX1_repeatFirst 48 = .ok (.aload_n 0, 1) := by decide +kernel
theorem dX1_repeatFirst_49 : decode cX1_repeatFirst 49 = .ok (.getfield 19, 3) := by decide +kernel
theorem dX1_repeatFirst_52 : decode cX1_repeatFirst 52 = .ok (.iload_n 1, 1) := by decide +kernel
theorem dX1_repeatFirst_53 : decode cX1_repeatFirst 53 = .ok (.aaload, 1) := by decide +kernel
theorem dX1_repeatFirst_54 : decode cX1_repeatFirst 54 = .ok (.iload_n 2, 1) := by decide +kernel
theorem dX1_repeatFirst_55 : decode cX1_repeatFirst 55 = .ok (.iconst 4, 1) := by decide +kernel
theorem dX1_repeatFirst_56 : decode cX1_repeatFirst 56 = .ok (.imul, 1) := by decide +kernel
theorem dX1_repeatFirst_57 : decode cX1_repeatFirst 57 = .ok (.iconst 4, 1) := by decide +kernel
theorem dX1_repeatFirst_58 : decode cX1_repeatFirst 58 = .ok (.invokestatic 76, 3) := by decide +kernel
theorem dX1_repeatFirst_61 : decode cX1_repeatFirst 61 = .ok (.return_, 1) := by decide +kernel
theorem dX2_init_0 : decode cX2_init 0 = .ok (.aload_n 0, 1) := by decide +kernel
theorem dX2_init_1 : decode cX2_init 1 = .ok (.invokespecial 3, 3) := by decide +kernel
theorem dX2_init_4 : decode cX2_init 4 = .ok (.aload_n 0, 1) := by decide +kernel
theorem dX2_init_5 : decode cX2_init 5 = .ok (.bipush 10, 2) := by decide +kernel
theorem dX2_init_7 : decode cX2_init 7 = .ok (.bipush 12, 2) := by decide +kernel
theorem dX2_init_9 : decode cX2_init 9 = .ok (.multianewarray 9 2, 4) := by decide +kernel
theorem dX2_init_13 : decode cX2_init 13 = .ok (.putfield 11, 3) := by decide +kernel
theorem dX2_init_16 : decode cX2_init 16 = .ok (.aload_n 0, 1) := by decide +kernel
theorem dX2_init_17 : decode cX2_init 17 = .ok (.bipush 8, 2) := by decide +kernel
theorem dX2_init_19 : decode cX2_init 19 = .ok (.newarray .int, 2) := by decide +kernel
theorem dX2_init_21 : decode cX2_init 21 = .ok (.putfield 16, 3) := by decide +kernel
theorem dX2_init_24 : decode cX2_init 24 = .ok (.aload_n 0, 1) := by decide +kernel
theorem dX2_init_25 : decode cX2_init 25 = .ok (.bipush 8, 2) := by decide +kernel
theorem dX2_init_27 : decode cX2_init 27 = .ok (.newarray .int, 2) := by decide +kernel
theorem dX2_init_29 : decode cX2_init 29 = .ok (.putfield 20, 3) := by decide +kernel
theorem dX2_init_32 : decode cX2_init 32 = .ok (.return_, 1) := by decide +kernel
theorem dX2_take_0 : decode cX2_take 0 = .ok (.aload_n 0, 1) := by decide +kernel
theorem dX2_take_1 : decode cX2_take 1 = .ok (.dup, 1) := by decide +kernel
theorem dX2_take_2 : decode cX2_take 2 = .ok (.getfield 23, 3) := by decide +kernel
theorem dX2_take_5 : decode cX2_take 5 = .ok (.iconst 1, 1) := by decide +kernel
theorem dX2_take_6 : decode cX2_take 6 = .ok (.iadd, 1) := by decide +kernel
theorem dX2_take_7 : decode cX2_take 7 = .ok (.putfield 23, 3) := by decide +kernel
theorem dX2_take_10 : decode cX2_take 10 = .ok (.aload_n 0, 1) := by decide +kernel
theorem dX2_take_11 : decode cX2_take 11 = .ok (.aload_n 1, 1) := by decide +kernel
theorem dX2_take_12 : decode cX2_take 12 = .ok (.invokevirtual 27, 3) := by decide +kernel
theorem dX2_take_15 : decode cX2_take 15 = .ok (.putfield 33, 3) := by decide +kernel
theorem dX2_take_18 : decode cX2_take 18 = .ok (.aload_n 0, 1) := by decide +kernel
theorem dX2_take_19 : decode cX2_take 19 = .ok (.aload_n 2, 1) := by decide +kernel
theorem dX2_take_20 : decode cX2_take 20 = .ok (.invokevirtual 27, 3) := by decide +kernel
theorem dX2_take_23 : decode cX2_take 23 = .ok (.putfield 36, 3) := by decide +kernel
theorem dX2_take_26 : decode cX2_take 26 = .ok (.iconst 0, 1) := by decide +kernel
theorem dX2_take_27 : decode cX2_take 27 = .ok (.istore 4, 2) := by decide +kernel
theorem dX2_take_29 : decode cX2_take 29 = .ok (.iload 4, 2) := by decide +kernel
theorem dX2_take_31 : decode cX2_take 31 = .ok (.aload_n 0, 1) := by decide +kernel
theorem dX2_take_32 : decode cX2_take 32 = .ok (.getfield 36, 3) := by decide +kernel
theorem dX2_take_35 : decode cX2_take 35 = .ok (.if_icmp .ge 65, 3) := by decide +kernel
theorem dX2_take_38 : decode cX2_take 38 = .ok (.aload_n 0, 1) := by decide +kernel
theorem dX2_take_39 : decode cX2_take 39 = .ok (.getfield 16, 3) := by decide +kernel
theorem dX2_take_42 : decode cX2_take 42 = .ok (.iload 4, 2) := by decide +kernel
theorem dX2_take_44 : decode cX2_take 44 = .ok (.aload_n 2, 1) := by decide +kernel
theorem dX2_take_45 : decode cX2_take 45 = .ok (.iload 4, 2) := by decide +kernel
theorem dX2_take_47 : decode cX2_take 47 = .ok (.iconst 0, 1) := by decide +kernel
theorem dX2_take_48 : decode cX2_take 48 = .ok (.invokevirtual 39, 3) := by decide +kernel
theorem dX2_take_51 : decode cX2_take 51 = .ok (.bipush 97, 2) := by decide +kernel
theorem dX2_take_53 : decode cX2_take 53 = .ok (.isub, 1) := by decide +kernel
theorem dX2_take_54 : decode cX2_take 54 = .ok (.iastore, 1) := by decide +kernel
theorem dX2_take_55 : decode cX2_take 55 = .ok (.aload_n 2, 1) := by decide +kernel
theorem dX2_take_56 : decode cX2_take 56 = .ok (.iload 4, 2) := by decide +kernel
theorem dX2_take_58 : decode cX2_take 58 = .ok (.iconst 2, 1) := by decide +kernel
theorem dX2_take_59 : decode cX2_take 59 = .ok (.invokevirtual 39, 3) := by decide +kernel
theorem dX2_take_62 : decode cX2_take 62 = .ok (.bipush 48, 2) := by decide +kernel
theorem dX2_take_64 : decode cX2_take 64 = .ok (.isub, 1) := by decide +kernel
theorem dX2_take_65 : decode cX2_take 65 = .ok (.istore 5, 2) := by decide +kernel
theorem dX2_take_67 : decode cX2_take 67 = .ok (.aload_n 0, 1) := by decide +kernel
theorem dX2_take_68 : decode cX2_take 68 = .ok (.getfield 20, 3) := by decide +kernel
theorem dX2_take_71 : decode cX2_take 71 = .ok (.iload 4, 2) := by decide +kernel
theorem dX2_take_73 : decode cX2_take 73 = .ok (.aload_n 2, 1) := by decide +kernel
theorem dX2_take_74 : decode cX2_take 74 = .ok (.iload 4, 2) := by decide +kernel
theorem dX2_take_76 : decode cX2_take 76 = .ok (.iconst 1, 1) := by decide +kernel
theorem dX2_take_77 : decode cX2_take 77 = .ok (.invokevirtual 39, 3) := by decide +kernel
theorem dX2_take_80 : decode cX2_take 80 = .ok (.bipush 43, 2) := by decide +kernel
theorem dX2_take_82 : decode cX2_take 82 = .ok (.if_icmp .ne 8, 3) := by decide +kernel
theorem dX2_take_85 : decode cX2_take 85 = .ok (.iload 5, 2) := by decide +kernel
theorem dX2_take_87 : decode cX2_take 87 = .ok (.goto 6, 3) := by decide +kernel
theorem dX2_take_90 : decode cX2_take 90 = .ok (.iload 5, 2) := by decide +kernel
theorem dX2_take_92 : decode cX2_take 92 = .ok (.ineg, 1) := by decide +kernel
theorem dX2_take_93 : decode cX2_take 93 = .ok (.iastore, 1) := by decide +kernel
theorem dX2_take_94 : decode cX2_take 94 = .ok (.iinc 4 1, 3) := by decide +kernel
theorem dX2_take_97 : decode cX2_take 97 = .ok (.goto (-68), 3) := by decide +kernel
theorem dX2_take_100 : decode cX2_take 100 = .ok (.iconst 0, 1) := by decide +kernel
theorem dX2_take_101 : decode cX2_take 101 = .ok (.istore 4, 2) := by decide +kernel
theorem dX2_take_103 : decode cX2_take 103 = .ok (.iload 4, 2) := by decide +kernel
theorem dX2_take_105 : decode cX2_take 105 = .ok (.bipush 10, 2) := by decide +kernel
theorem dX2_take_107 : decode cX2_take 107 = .ok (.if_icmp .ge 23, 3) := by decide +kernel
theorem dX2_take_110 : decode cX2_take 110 = .ok (.aload_n 0, 1) := by decide +kernel
theorem dX2_take_111 : decode cX2_take 111 = .ok (.iload 4, 2) := by decide +kernel
theorem dX2_take_113 : decode cX2_take 113 = .ok (.aload_n 1, 1) := by decide +kernel
theorem dX2_take_114 : decode cX2_take 114 = .ok (.invokevirtual 43, 3) := by decide +kernel
theorem dX2_take_117 : decode cX2_take 117 = .ok (.aload_n 0, 1) := by decide +kernel
theorem dX2_take_118 : decode cX2_take 118 = .ok (.iload 4, 2) := by decide +kernel
theorem dX2_take_120 : decode cX2_take 120 = .ok (.aload_n 3, 1) := by decide +kernel
theorem dX2_take_121 : decode cX2_take 121 = .ok (.invokevirtual 47, 3) := by decide +kernel
theorem dX2_take_124 : decode cX2_take 124 = .ok (.iinc 4 1, 3) := by decide +kernel
theorem dX2_take_127 : decode cX2_take 127 = .ok (.goto (-24), 3) := by decide +kernel
theorem dX2_take_130 : decode cX2_take 130 = .ok (.return_, 1) := by decide +kernel
theorem dX2_carry_0 : decode cX2_carry 0 = .ok (.iconst 0, 1) := by decide +kernel
theorem dX2_carry_1 : decode cX2_carry 1 = .ok (.istore_n 3, 1) := by decide +kernel
theorem dX2_carry_2 : decode cX2_carry 2 = .ok (.iload_n 3, 1) := by decide +kernel
theorem dX2_carry_3 : decode cX2_carry 3 = .ok (.aload_n 0, 1) := by decide +kernel
theorem dX2_carry_4 : decode cX2_carry 4 = .ok (.getfield 33, 3) := by decide +kernel
theorem dX2_carry_7 : decode cX2_carry 7 = .ok (.if_icmp .ge 64, 3) := by decide +kernel
theorem dX2_carry_10 : decode cX2_carry 10 = .ok (.iconst 0, 1) := by decide +kernel
theorem dX2_carry_11 : decode cX2_carry 11 = .ok (.istore 4, 2) := by decide +kernel
theorem dX2_carry_13 : decode cX2_carry 13 = .ok (.iload 4, 2) := by decide +kernel
theorem dX2_carry_15 : decode cX2_carry 15 = .ok (.iconst 3, 1) := by decide +kernel
theorem dX2_carry_16 : decode cX2_carry 16 = .ok (.if_icmp .ge 49, 3) := by decide +kernel
theorem dX2_carry_19 : decode cX2_carry 19 = .ok (.aload_n 0, 1) := by decide +kernel
theorem dX2_carry_20 : decode cX2_carry 20 = .ok (.getfield 11, 3) := by decide +kernel
theorem dX2_carry_23 : decode cX2_carry 23 = .ok (.iload_n 1, 1) := by decide +kernel
theorem dX2_carry_24 : decode cX2_carry 24 = .ok (.aaload, 1) := by decide +kernel
theorem dX2_carry_25 : decode cX2_carry 25 = .ok (.iload_n 3, 1) := by decide +kernel
theorem dX2_carry_26 : decode cX2_carry 26 = .ok (.iconst 3, 1) := by decide +kernel
theorem dX2_carry_27 : decode cX2_carry 27 = .ok (.imul, 1) := by decide +kernel
theorem dX2_carry_28 : decode cX2_carry 28 = .ok (.iload 4, 2) := by decide +kernel
theorem dX2_carry_30 : decode cX2_carry 30 = .ok (.iadd, 1) := by decide +kernel
theorem dX2_carry_31 : decode cX2_carry 31 = .ok (.iload_n 1, 1) := by decide +kernel
theorem dX2_carry_32 : decode cX2_carry 32 = .ok (.ifCond .ne 16, 3) := by decide +kernel
theorem dX2_carry_35 : decode cX2_carry 35 = .ok (.aload_n 2, 1) := by decide +kernel
theorem dX2_carry_36 : decode cX2_carry 36 = .ok (.iload_n 3, 1) := by decide +kernel
theorem dX2_carry_37 : decode cX2_carry 37 = .ok (.iload 4, 2) := by decide +kernel
theorem dX2_carry_39 : decode cX2_carry 39 = .ok (.invokevirtual 39, 3) := by decide +kernel
theorem dX2_carry_42 : decode cX2_carry 42 = .ok (.bipush 48, 2) := by decide +kernel
theorem dX2_carry_44 : decode cX2_carry 44 = .ok (.isub, 1) := by decide +kernel
theorem dX2_carry_45 : decode cX2_carry 45 = .ok (.goto 13, 3) := by decide +kernel
theorem dX2_carry_48 : decode cX2_carry 48 = .ok (.aload_n 0, 1) := by decide +kernel
theorem dX2_carry_49 : decode cX2_carry 49 = .ok (.iload_n 1, 1) := by decide +kernel
theorem dX2_carry_50 : decode cX2_carry 50 = .ok (.iconst 1, 1) := by decide +kernel
theorem dX2_carry_51 : decode cX2_carry 51 = .ok (.isub, 1) := by decide +kernel
theorem dX2_carry_52 : decode cX2_carry 52 = .ok (.iload_n 3, 1) := by decide +kernel
theorem dX2_carry_53 : decode cX2_carry 53 = .ok (.iload 4, 2) := by decide +kernel
theorem dX2_carry_55 : decode cX2_carry 55 = .ok (.invokevirtual 51, 3) := by decide +kernel
theorem dX2_carry_58 : decode cX2_carry 58 = .ok (.iastore, 1) := by decide +kernel
theorem dX2_carry_59 : decode cX2_carry 59 = .ok (.iinc 4 1, 3) := by decide +kernel
theorem dX2_carry_62 : decode cX2_carry 62 = .ok (.goto (-49), 3) := by decide +kernel
theorem dX2_carry_65 : decode cX2_carry 65 = .ok (.iinc 3 1, 3) := by decide +kernel
theorem dX2_carry_68 : decode cX2_carry 68 = .ok (.goto (-66), 3) := by decide +kernel
theorem dX2_carry_71 : decode cX2_carry 71 = .ok (.return_, 1) := by decide +kernel
theorem dX2_alter_0 : decode cX2_alter 0 = .ok (.iconst 0, 1) := by decide +kernel
theorem dX2_alter_1 : decode cX2_alter 1 = .ok (.istore_n 3, 1) := by decide +kernel
theorem dX2_alter_2 : decode cX2_alter 2 = .ok (.iload_n 3, 1) := by decide +kernel
theorem dX2_alter_3 : decode cX2_alter 3 = .ok (.aload_n 2, 1) := by decide +kernel
theorem dX2_alter_4 : decode cX2_alter 4 = .ok (.getfield 55, 3) := by decide +kernel
theorem dX2_alter_7 : decode cX2_alter 7 = .ok (.if_icmp .ge 50, 3) := by decide +kernel
theorem dX2_alter_10 : decode cX2_alter 10 = .ok (.aload_n 2, 1) := by decide +kernel
theorem dX2_alter_11 : decode cX2_alter 11 = .ok (.getfield 60, 3) := by decide +kernel
theorem dX2_alter_14 : decode cX2_alter 14 = .ok (.iload_n 3, 1) := by decide +kernel
theorem dX2_alter_15 : decode cX2_alter 15 = .ok (.aaload, 1) := by decide +kernel
theorem dX2_alter_16 : decode cX2_alter 16 = .ok (.astore 4, 2) := by decide +kernel
theorem dX2_alter_18 : decode cX2_alter 18 = .ok (.aload 4, 2) := by decide +kernel
theorem dX2_alter_20 : decode cX2_alter 20 = .ok (.iconst 0, 1) := by decide +kernel
theorem dX2_alter_21 : decode cX2_alter 21 = .ok (.iaload, 1) := by decide +kernel
theorem dX2_alter_22 : decode cX2_alter 22 = .ok (.iload_n 1, 1) := by decide +kernel
theorem dX2_alter_23 : decode cX2_alter 23 = .ok (.if_icmp .eq 6, 3) := by decide +kernel
theorem dX2_alter_26 : decode cX2_alter 26 = .ok (.goto 25, 3) := by decide +kernel
theorem dX2_alter_29 : decode cX2_alter 29 = .ok (.aload_n 0, 1) := by decide +kernel
theorem dX2_alter_30 : decode cX2_alter 30 = .ok (.getfield 11, 3) := by decide +kernel
theorem dX2_alter_33 : decode cX2_alter 33 = .ok (.iload_n 1, 1) := by decide +kernel
theorem dX2_alter_34 : decode cX2_alter 34 = .ok (.aaload, 1) := by decide +kernel
theorem dX2_alter_35 : decode cX2_alter 35 = .ok (.aload 4, 2) := by decide +kernel
theorem dX2_alter_37 : decode cX2_alter 37 = .ok (.iconst 1, 1) := by decide +kernel
theorem dX2_alter_38 : decode cX2_alter 38 = .ok (.iaload, 1) := by decide +kernel
theorem dX2_alter_39 : decode cX2_alter 39 = .ok (.iconst 3, 1) := by decide +kernel
theorem dX2_alter_40 : decode cX2_alter 40 = .ok (.imul, 1) := by decide +kernel
theorem dX2_alter_41 : decode cX2_alter 41 = .ok (.aload 4, 2) := by decide +kernel
theorem dX2_alter_43 : decode cX2_alter 43 = .ok (.iconst 2, 1) := by decide +kernel
theorem dX2_alter_44 : decode cX2_alter 44 = .ok (.iaload, 1) := by decide +kernel
theorem dX2_alter_45 : decode cX2_alter 45 = .ok (.iadd, 1) := by decide +kernel
theorem dX2_alter_46 : decode cX2_alter 46 = .ok (.aload 4, 2) := by decide +kernel
theorem dX2_alter_48 : decode cX2_alter 48 = .ok (.iconst 3, 1) := by decide +kernel
theorem dX2_alter_49 : decode cX2_alter 49 = .ok (.iaload, 1) := by decide +kernel
theorem dX2_alter_50 : decode cX2_alter 50 = .ok (.iastore, 1) := by decide +kernel
theorem dX2_alter_51 : decode cX2_alter 51 = .ok (.iinc 3 1, 3) := by decide +kernel
theorem dX2_alter_54 : decode cX2_alter 54 = .ok (.goto (-52), 3) := by decide +kernel
theorem dX2_alter_57 : decode cX2_alter 57 = .ok (.return_, 1) := by decide +kernel
theorem dX2_figure_0 : decode cX2_figure 0 = .ok (.aload_n 0, 1) := by decide +kernel
theorem dX2_figure_1 : decode cX2_figure 1 = .ok (.getfield 11, 3) := by decide +kernel
theorem dX2_figure_4 : decode cX2_figure 4 = .ok (.iload_n 1, 1) := by decide +kernel
theorem dX2_figure_5 : decode cX2_figure 5 = .ok (.aaload, 1) := by decide +kernel
theorem dX2_figure_6 : decode cX2_figure 6 = .ok (.iload_n 2, 1) := by decide +kernel
theorem dX2_figure_7 : decode cX2_figure 7 = .ok (.iconst 3, 1) := by decide +kernel
theorem dX2_figure_8 : decode cX2_figure 8 = .ok (.imul, 1) := by decide +kernel
theorem dX2_figure_9 : decode cX2_figure 9 = .ok (.iload_n 3, 1) := by decide +kernel
theorem dX2_figure_10 : decode cX2_figure 10 = .ok (.iadd, 1) := by decide +kernel
theorem dX2_figure_11 : decode cX2_figure 11 = .ok (.iaload, 1) := by decide +kernel
theorem dX2_figure_12 : decode cX2_figure 12 = .ok (.ireturn, 1) := by decide +kernel
theorem dX2_unitOf_0 : decode cX2_unitOf 0 = .ok (.aload_n 0, 1) := by decide +kernel
theorem dX2_unitOf_1 : decode cX2_unitOf 1 = .ok (.getfield 16, 3) := by decide +kernel
theorem dX2_unitOf_4 : decode cX2_unitOf 4 = .ok (.iload_n 1, 1) := by decide +kernel
theorem dX2_unitOf_5 : decode cX2_unitOf 5 = .ok (.iaload, 1) := by decide +kernel
theorem dX2_unitOf_6 : decode cX2_unitOf 6 = .ok (.ireturn, 1) := by decide +kernel
theorem dX2_owed_0 : decode cX2_owed 0 = .ok (.aload_n 0, 1) := by decide +kernel
theorem dX2_owed_1 : decode cX2_owed 1 = .ok (.getfield 20, 3) := by decide +kernel
theorem dX2_owed_4 : decode cX2_owed 4 = .ok (.iload_n 1, 1) := by decide +kernel
theorem dX2_owed_5 : decode cX2_owed 5 = .ok (.iaload, 1) := by decide +kernel
theorem dX2_owed_6 : decode cX2_owed 6 = .ok (.ireturn, 1) := by decide +kernel
theorem dX2_gain_0 : decode cX2_gain 0 = .ok (.aload_n 0, 1) := by decide +kernel
theorem dX2_gain_1 : decode cX2_gain 1 = .ok (.getfield 20, 3) := by decide +kernel
theorem dX2_gain_4 : decode cX2_gain 4 = .ok (.iload_n 1, 1) := by decide +kernel
theorem dX2_gain_5 : decode cX2_gain 5 = .ok (.iaload, 1) := by decide +kernel
theorem dX2_gain_6 : decode cX2_gain 6 = .ok (.aload_n 0, 1) := by decide +kernel
theorem dX2_gain_7 : decode cX2_gain 7 = .ok (.getfield 11, 3) := by decide +kernel
theorem dX2_gain_10 : decode cX2_gain 10 = .ok (.iload_n 2, 1) := by decide +kernel
theorem dX2_gain_11 : decode cX2_gain 11 = .ok (.aaload, 1) := by decide +kernel
theorem dX2_gain_12 : decode cX2_gain 12 = .ok (.iload_n 3, 1) := by decide +kernel
theorem dX2_gain_13 : decode cX2_gain 13 = .ok (.iconst 3, 1) := by decide +kernel
theorem dX2_gain_14 : decode cX2_gain 14 = .ok (.imul, 1) := by decide +kernel
theorem dX2_gain_15 : decode cX2_gain 15 = .ok (.aload_n 0, 1) := by decide +kernel
theorem dX2_gain_16 : decode cX2_gain 16 = .ok (.getfield 16, 3) := by decide +kernel
theorem dX2_gain_19 : decode cX2_gain 19 = .ok (.iload_n 1, 1) := by decide +kernel
theorem dX2_gain_20 : decode cX2_gain 20 = .ok (.iaload, 1) := by decide +kernel
theorem dX2_gain_21 : decode cX2_gain 21 = .ok (.iadd, 1) := by decide +kernel
theorem dX2_gain_22 : decode cX2_gain 22 = .ok (.iaload, 1) := by decide +kernel
theorem dX2_gain_23 : decode cX2_gain 23 = .ok (.imul, 1) := by decide +kernel
theorem dX2_gain_24 : decode cX2_gain 24 = .ok (.ireturn, 1) := by decide +kernel
theorem dX2_fillGains_0 : decode cX2_fillGains 0 = .ok (.iconst 0, 1) := by decide +kernel
theorem dX2_fillGains_1 : decode cX2_fillGains 1 = .ok (.istore 4, 2) := by decide +kernel
theorem dX2_fillGains_3 : decode cX2_fillGains 3 = .ok (.iload 4, 2) := by decide +kernel
theorem dX2_fillGains_5 : decode cX2_fillGains 5 = .ok (.aload_n 0, 1) := by decide +kernel
theorem dX2_fillGains_6 : decode cX2_fillGains 6 = .ok (.getfield 33, 3) := by decide +kernel
theorem dX2_fillGains_9 : decode cX2_fillGains 9 = .ok (.if_icmp .ge 21, 3) := by decide +kernel
theorem dX2_fillGains_12 : decode cX2_fillGains 12 = .ok (.aload_n 3, 1) := by decide +kernel
theorem dX2_fillGains_13 : decode cX2_fillGains 13 = .ok (.iload 4, 2) := by decide +kernel
theorem dX2_fillGains_15 : decode cX2_fillGains 15 = .ok (.aload_n 0, 1) := by decide +kernel
theorem dX2_fillGains_16 : decode cX2_fillGains 16 = .ok (.iload_n 1, 1) := by decide +kernel
theorem dX2_fillGains_17 : decode cX2_fillGains 17 = .ok (.iload_n 2, 1) := by decide +kernel
theorem dX2_fillGains_18 : decode cX2_fillGains 18 = .ok (.iload 4, 2) := by decide +kernel
theorem dX2_fillGains_20 : decode cX2_fillGains 20 = .ok (.invokevirtual 63, 3) := by decide +kernel
theorem dX2_fillGains_23 : decode cX2_fillGains 23 = .ok (.iastore, 1) := by decide +kernel
theorem dX2_fillGains_24 : decode cX2_fillGains 24 = .ok (.iinc 4 1, 3) := by decide +kernel
theorem dX2_fillGains_27 : decode cX2_fillGains 27 = .ok (.goto (-24), 3) := by decide +kernel
theorem dX2_fillGains_30 : decode cX2_fillGains 30 = .ok (.return_, 1) := by decide +kernel
theorem dX3_init_0 : decode cX3_init 0 = .ok (.aload_n 0, 1) := by decide +kernel
theorem dX3_init_1 : decode cX3_init 1 = .ok (.invokespecial 1, 3) := by decide +kernel
theorem dX3_init_4 : decode cX3_init 4 = .ok (.aload_n 0, 1) := by decide +kernel
theorem dX3_init_5 : decode cX3_init 5 = .ok (.iload_n 1, 1) := by decide +kernel
theorem dX3_init_6 : decode cX3_init 6 = .ok (.iload_n 2, 1) := by decide +kernel
theorem dX3_init_7 : decode cX3_init 7 = .ok (.multianewarray 7 2, 4) := by decide +kernel
theorem dX3_init_11 : decode cX3_init 11 = .ok (.putfield 9, 3) := by decide +kernel
theorem dX3_init_14 : decode cX3_init 14 = .ok (.return_, 1) := by decide +kernel
theorem dX3_isFull_0 : decode cX3_isFull 0 = .ok (.aload_n 0, 1) := by decide +kernel
theorem dX3_isFull_1 : decode cX3_isFull 1 = .ok (.getfield 14, 3) := by decide +kernel
theorem dX3_isFull_4 : decode cX3_isFull 4 = .ok (.aload_n 0, 1) := by decide +kernel
theorem dX3_isFull_5 : decode cX3_isFull 5 = .ok (.getfield 9, 3) := by decide +kernel
theorem dX3_isFull_8 : decode cX3_isFull 8 = .ok (.arraylength, 1) := by decide +kernel
theorem dX3_isFull_9 : decode cX3_isFull 9 = .ok (.if_icmp .lt 7, 3) := by decide +kernel
theorem dX3_isFull_12 : decode cX3_isFull 12 = .ok (.iconst 1, 1) := by decide +kernel
theorem dX3_isFull_13 : decode cX3_isFull 13 = .ok (.goto 4, 3) := by decide +kernel
theorem dX3_isFull_16 : decode cX3_isFull 16 = .ok (.iconst 0, 1) := by decide +kernel
theorem dX3_isFull_17 : decode cX3_isFull 17 = .ok (.ireturn, 1) := by decide +kernel
theorem dX3_next_0 : decode cX3_next 0 = .ok (.aload_n 0, 1) := by decide +kernel
theorem dX3_next_1 : decode cX3_next 1 = .ok (.getfield 9, 3) := by decide +kernel
theorem dX3_next_4 : decode cX3_next 4 = .ok (.aload_n 0, 1) := by decide +kernel
theorem dX3_next_5 : decode cX3_next 5 = .ok (.getfield 14, 3) := by decide +kernel
theorem dX3_next_8 : decode cX3_next 8 = .ok (.aaload, 1) := by decide +kernel
theorem dX3_next_9 : decode cX3_next 9 = .ok (.astore_n 1, 1) := by decide +kernel
theorem dX3_next_10 : decode cX3_next 10 = .ok (.aload_n 0, 1) := by decide +kernel
theorem dX3_next_11 : decode cX3_next 11 = .ok (.dup, 1) := by decide +kernel
theorem dX3_next_12 : decode cX3_next 12 = .ok (.getfield 14, 3) := by decide +kernel
theorem dX3_next_15 : decode cX3_next 15 = .ok (.iconst 1, 1) := by decide +kernel
theorem dX3_next_16 : decode cX3_next 16 = .ok (.iadd, 1) := by decide +kernel
theorem dX3_next_17 : decode cX3_next 17 = .ok (.putfield 14, 3) := by decide +kernel
theorem dX3_next_20 : decode cX3_next 20 = .ok (.aload_n 1, 1) := by decide +kernel
theorem dX3_next_21 : decode cX3_next 21 = .ok (.areturn, 1) := by decide +kernel
theorem dX4_init_0 : decode cX4_init 0 = .ok (.aload_n 0, 1) := by decide +kernel
theorem dX4_init_1 : decode cX4_init 1 = .ok (.invokespecial 3, 3) := by decide +kernel
theorem dX4_init_4 : decode cX4_init 4 = .ok (.aload_n 0, 1) := by decide +kernel
theorem dX4_init_5 : decode cX4_init 5 = .ok (.iconst 4, 1) := by decide +kernel
theorem dX4_init_6 : decode cX4_init 6 = .ok (.newarray .int, 2) := by decide +kernel
theorem dX4_init_8 : decode cX4_init 8 = .ok (.putfield 11, 3) := by decide +kernel
theorem dX4_init_11 : decode cX4_init 11 = .ok (.aload_n 0, 1) := by decide +kernel
theorem dX4_init_12 : decode cX4_init 12 = .ok (.iconst 4, 1) := by decide +kernel
theorem dX4_init_13 : decode cX4_init 13 = .ok (.newarray .int, 2) := by decide +kernel
theorem dX4_init_15 : decode cX4_init 15 = .ok (.putfield 15, 3) := by decide +kernel
theorem dX4_init_18 : decode cX4_init 18 = .ok (.aload_n 0, 1) := by decide +kernel
theorem dX4_init_19 : decode cX4_init 19 = .ok (.iconst 4, 1) := by decide +kernel
theorem dX4_init_20 : decode cX4_init 20 = .ok (.bipush 60, 2) := by decide +kernel
theorem dX4_init_22 : decode cX4_init 22 = .ok (.multianewarray 18 2, 4) := by decide +kernel
theorem dX4_init_26 : decode cX4_init 26 = .ok (.putfield 20, 3) := by decide +kernel
theorem dX4_init_29 : decode cX4_init 29 = .ok (.aload_n 0, 1) := by decide +kernel
theorem dX4_init_30 : decode cX4_init 30 = .ok (.getfield 11, 3) := by decide +kernel
theorem dX4_init_33 : decode cX4_init 33 = .ok (.iconst (-1), 1) := by decide +kernel
theorem dX4_init_34 : decode cX4_init 34 = .ok (.invokestatic 23, 3) := by decide +kernel
theorem dX4_init_37 : decode cX4_init 37 = .ok (.return_, 1) := by decide +kernel
theorem dX4_isSheet_0 : decode cX4_isSheet 0 = .ok (.iload_n 0, 1) := by decide +kernel
theorem dX4_isSheet_1 : decode cX4_isSheet 1 = .ok (.iconst 0, 1) := by decide +kernel
theorem dX4_isSheet_2 : decode cX4_isSheet 2 = .ok (.iconst 3, 1) := by decide +kernel
theorem dX4_isSheet_3 : decode cX4_isSheet 3 = .ok (.invokestatic 29, 3) := by decide +kernel
theorem dX4_isSheet_6 : decode cX4_isSheet 6 = .ok (.ireturn, 1) := by decide +kernel
theorem dX4_isForm_0 : decode cX4_isForm 0 = .ok (.iload_n 0, 1) := by decide +kernel
theorem dX4_isForm_1 : decode cX4_isForm 1 = .ok (.iconst 0, 1) := by decide +kernel
theorem dX4_isForm_2 : decode cX4_isForm 2 = .ok (.iconst 2, 1) := by decide +kernel
theorem dX4_isForm_3 : decode cX4_isForm 3 = .ok (.invokestatic 29, 3) := by decide +kernel
theorem dX4_isForm_6 : decode cX4_isForm 6 = .ok (.ireturn, 1) := by decide +kernel
theorem dX4_isLost_0 : decode cX4_isLost 0 = .ok (.aload_n 0, 1) := by decide +kernel
theorem dX4_isLost_1 : decode cX4_isLost 1 = .ok (.getfield 11, 3) := by decide +kernel
theorem dX4_isLost_4 : decode cX4_isLost 4 = .ok (.iload_n 1, 1) := by decide +kernel
theorem dX4_isLost_5 : decode cX4_isLost 5 = .ok (.iaload, 1) := by decide +kernel
theorem dX4_isLost_6 : decode cX4_isLost 6 = .ok (.iconst (-1), 1) := by decide +kernel
theorem dX4_isLost_7 : decode cX4_isLost 7 = .ok (.if_icmp .ne 7, 3) := by decide +kernel
theorem dX4_isLost_10 : decode cX4_isLost 10 = .ok (.iconst 1, 1) := by decide +kernel
theorem dX4_isLost_11 : decode cX4_isLost 11 = .ok (.goto 4, 3) := by decide +kernel
theorem dX4_isLost_14 : decode cX4_isLost 14 = .ok (.iconst 0, 1) := by decide +kernel
theorem dX4_isLost_15 : decode cX4_isLost 15 = .ok (.ireturn, 1) := by decide +kernel
theorem dX4_begin_0 : decode cX4_begin 0 = .ok (.aload_n 0, 1) := by decide +kernel
theorem dX4_begin_1 : decode cX4_begin 1 = .ok (.getfield 11, 3) := by decide +kernel
theorem dX4_begin_4 : decode cX4_begin 4 = .ok (.iload_n 1, 1) := by decide +kernel
theorem dX4_begin_5 : decode cX4_begin 5 = .ok (.iload_n 2, 1) := by decide +kernel
theorem dX4_begin_6 : decode cX4_begin 6 = .ok (.iastore, 1) := by decide +kernel
theorem dX4_begin_7 : decode cX4_begin 7 = .ok (.aload_n 0, 1) := by decide +kernel
theorem dX4_begin_8 : decode cX4_begin 8 = .ok (.getfield 15, 3) := by decide +kernel
theorem dX4_begin_11 : decode cX4_begin 11 = .ok (.iload_n 1, 1) := by decide +kernel
theorem dX4_begin_12 : decode cX4_begin 12 = .ok (.iload_n 3, 1) := by decide +kernel
theorem dX4_begin_13 : decode cX4_begin 13 = .ok (.iastore, 1) := by decide +kernel
theorem dX4_begin_14 : decode cX4_begin 14 = .ok (.aload_n 0, 1) := by decide +kernel
theorem dX4_begin_15 : decode cX4_begin 15 = .ok (.getfield 20, 3) := by decide +kernel
theorem dX4_begin_18 : decode cX4_begin 18 = .ok (.iload_n 1, 1) := by decide +kernel
theorem dX4_begin_19 : decode cX4_begin 19 = .ok (.aaload, 1) := by decide +kernel
theorem dX4_begin_20 : decode cX4_begin 20 = .ok (.iconst 0, 1) := by decide +kernel
theorem dX4_begin_21 : decode cX4_begin 21 = .ok (.invokestatic 23, 3) := by decide +kernel
theorem dX4_begin_24 : decode cX4_begin 24 = .ok (.return_, 1) := by decide +kernel
theorem dX4_forget_0 : decode cX4_forget 0 = .ok (.aload_n 0, 1) := by decide +kernel
theorem dX4_forget_1 : decode cX4_forget 1 = .ok (.getfield 11, 3) := by decide +kernel
theorem dX4_forget_4 : decode cX4_forget 4 = .ok (.iload_n 1, 1) := by decide +kernel
theorem dX4_forget_5 : decode cX4_forget 5 = .ok (.iconst (-1), 1) := by decide +kernel
theorem dX4_forget_6 : decode cX4_forget 6 = .ok (.iastore, 1) := by decide +kernel
theorem dX4_forget_7 : decode cX4_forget 7 = .ok (.aload_n 0, 1) := by decide +kernel
theorem dX4_forget_8 : decode cX4_forget 8 = .ok (.getfield 15, 3) := by decide +kernel
theorem dX4_forget_11 : decode cX4_forget 11 = .ok (.iload_n 1, 1) := by decide +kernel
theorem dX4_forget_12 : decode cX4_forget 12 = .ok (.iconst 0, 1) := by decide +kernel
theorem dX4_forget_13 : decode cX4_forget 13 = .ok (.iastore, 1) := by decide +kernel
theorem dX4_forget_14 : decode cX4_forget 14 = .ok (.return_, 1) := by decide +kernel
theorem dX4_accessFinding_0 : decode cX4_accessFinding 0 = .ok (.aload_n 0, 1) := by decide +kernel
theorem dX4_accessFinding_1 : decode cX4_accessFinding 1 = .ok (.iload_n 1, 1) := by decide +kernel
theorem dX4_accessFinding_2 : decode cX4_accessFinding 2 = .ok (.invokevirtual 33, 3) := by decide +kernel
theorem dX4_accessFinding_5 : decode cX4_accessFinding 5 = .ok (.ifCond .eq 5, 3) := by decide +kernel
theorem dX4_accessFinding_8 : decode cX4_accessFinding 8 = .ok (.iconst 1, 1) := by decide +kernel
theorem dX4_accessFinding_9 : decode cX4_accessFinding 9 = .ok (.ireturn, 1) := by decide +kernel
theorem dX4_accessFinding_10 : decode cX4_accessFinding 10 = .ok (.aload_n 0, 1) := by decide +kernel
theorem dX4_accessFinding_11 : decode cX4_accessFinding 11 = .ok (.getfield 11, 3) := by decide +kernel
theorem dX4_accessFinding_14 : decode cX4_accessFinding 14 = .ok (.iload_n 1, 1) := by decide +kernel
theorem dX4_accessFinding_15 : decode cX4_accessFinding 15 = .ok (.iaload, 1) := by decide +kernel
theorem dX4_accessFinding_16 : decode cX4_accessFinding 16 = .ok (.iload_n 2, 1) := by decide +kernel
theorem dX4_accessFinding_17 : decode cX4_accessFinding 17 = .ok (.if_icmp .eq 5, 3) := by decide +kernel
theorem dX4_accessFinding_20 : decode cX4_accessFinding 20 = .ok (.iconst 3, 1) := by decide +kernel
theorem dX4_accessFinding_21 : decode cX4_accessFinding 21 = .ok (.ireturn, 1) := by decide +kernel
theorem dX4_accessFinding_22 : decode cX4_accessFinding 22 = .ok (.iload_n 3, 1) := by decide +kernel
theorem dX4_accessFinding_23 : decode cX4_accessFinding 23 = .ok (.iconst 0, 1) := by decide +kernel
theorem dX4_accessFinding_24 : decode cX4_accessFinding 24 = .ok (.aload_n 0, 1) := by decide +kernel
theorem dX4_accessFinding_25 : decode cX4_accessFinding 25 = .ok (.getfield 15, 3) := by decide +kernel
theorem dX4_accessFinding_28 : decode cX4_accessFinding 28 = .ok (.iload_n 1, 1) := by decide +kernel
theorem dX4_accessFinding_29 : decode cX4_accessFinding 29 = .ok (.iaload, 1) := by decide +kernel
theorem dX4_accessFinding_30 : decode cX4_accessFinding 30 = .ok (.iconst 1, 1) := by decide +kernel
theorem dX4_accessFinding_31 : decode cX4_accessFinding 31 = .ok (.isub, 1) := by decide +kernel
theorem dX4_accessFinding_32 : decode cX4_accessFinding 32 = .ok (.invokestatic 29, 3) := by decide +kernel
theorem dX4_accessFinding_35 : decode cX4_accessFinding 35 = .ok (.ifCond .eq 7, 3) := by decide +kernel
theorem dX4_accessFinding_38 : decode cX4_accessFinding 38 = .ok (.iconst 0, 1) := by decide +kernel
theorem dX4_accessFinding_39 : decode cX4_accessFinding 39 = .ok (.goto 4, 3) := by decide +kernel
theorem dX4_accessFinding_42 : decode cX4_accessFinding 42 = .ok (.iconst 2, 1) := by decide +kernel
theorem dX4_accessFinding_43 : decode cX4_accessFinding 43 = .ok (.ireturn, 1) := by decide +kernel
theorem dX4_hasItems_0 : decode cX4_hasItems 0 = .ok (.iload_n 2, 1) := by decide +kernel
theorem dX4_hasItems_1 : decode cX4_hasItems 1 = .ok (.ifCond .lt 23, 3) := by decide +kernel
theorem dX4_hasItems_4 : decode cX4_hasItems 4 = .ok (.iload_n 3, 1) := by decide +kernel
theorem dX4_hasItems_5 : decode cX4_hasItems 5 = .ok (.ifCond .lt 19, 3) := by decide +kernel
theorem dX4_hasItems_8 : decode cX4_hasItems 8 = .ok (.iload_n 3, 1) := by decide +kernel
theorem dX4_hasItems_9 : decode cX4_hasItems 9 = .ok (.aload_n 0, 1) := by decide +kernel
theorem dX4_hasItems_10 : decode cX4_hasItems 10 = .ok (.getfield 15, 3) := by decide +kernel
theorem dX4_hasItems_13 : decode cX4_hasItems 13 = .ok (.iload_n 1, 1) := by decide +kernel
theorem dX4_hasItems_14 : decode cX4_hasItems 14 = .ok (.iaload, 1) := by decide +kernel
theorem dX4_hasItems_15 : decode cX4_hasItems 15 = .ok (.iload_n 2, 1) := by decide +kernel
theorem dX4_hasItems_16 : decode cX4_hasItems 16 = .ok (.isub, 1) := by decide +kernel
theorem dX4_hasItems_17 : decode cX4_hasItems 17 = .ok (.if_icmp .gt 7, 3) := by decide +kernel
theorem dX4_hasItems_20 : decode cX4_hasItems 20 = .ok (.iconst 1, 1) := by decide +kernel
theorem dX4_hasItems_21 : decode cX4_hasItems 21 = .ok (.goto 4, 3) := by decide +kernel
theorem dX4_hasItems_24 : decode cX4_hasItems 24 = .ok (.iconst 0, 1) := by decide +kernel
theorem dX4_hasItems_25 : decode cX4_hasItems 25 = .ok (.ireturn, 1) := by decide +kernel
theorem dX4_store_0 : decode cX4_store 0 = .ok (.aload_n 0, 1) := by decide +kernel
theorem dX4_store_1 : decode cX4_store 1 = .ok (.getfield 20, 3) := by decide +kernel
theorem dX4_store_4 : decode cX4_store 4 = .ok (.iload_n 1, 1) := by decide +kernel
theorem dX4_store_5 : decode cX4_store 5 = .ok (.aaload, 1) := by decide +kernel
theorem dX4_store_6 : decode cX4_store 6 = .ok (.iload_n 2, 1) := by decide +kernel
theorem dX4_store_7 : decode cX4_store 7 = .ok (.aload_n 0, 1) := by decide +kernel
theorem dX4_store_8 : decode cX4_store 8 = .ok (.getfield 11, 3) := by decide +kernel
theorem dX4_store_11 : decode cX4_store 11 = .ok (.iload_n 1, 1) := by decide +kernel
theorem dX4_store_12 : decode cX4_store 12 = .ok (.iaload, 1) := by decide +kernel
theorem dX4_store_13 : decode cX4_store 13 = .ok (.ifCond .ne 8, 3) := by decide +kernel
theorem dX4_store_16 : decode cX4_store 16 = .ok (.iload_n 3, 1) := by decide +kernel
theorem dX4_store_17 : decode cX4_store 17 = .ok (.i2b, 1) := by decide +kernel
theorem dX4_store_18 : decode cX4_store 18 = .ok (.goto 19, 3) := by decide +kernel
theorem dX4_store_21 : decode cX4_store 21 = .ok (.aload_n 0, 1) := by decide +kernel
theorem dX4_store_22 : decode cX4_store 22 = .ok (.getfield 11, 3) := by decide +kernel
theorem dX4_store_25 : decode cX4_store 25 = .ok (.iload_n 1, 1) := by decide +kernel
theorem dX4_store_26 : decode cX4_store 26 = .ok (.iaload, 1) := by decide +kernel
theorem dX4_store_27 : decode cX4_store 27 = .ok (.iconst 1, 1) := by decide +kernel
theorem dX4_store_28 : decode cX4_store 28 = .ok (.if_icmp .ne 8, 3) := by decide +kernel
theorem dX4_store_31 : decode cX4_store 31 = .ok (.iload_n 3, 1) := by decide +kernel
theorem dX4_store_32 : decode cX4_store 32 = .ok (.i2s, 1) := by decide +kernel
theorem dX4_store_33 : decode cX4_store 33 = .ok (.goto 4, 3) := by decide +kernel
theorem dX4_store_36 : decode cX4_store 36 = .ok (.iload_n 3, 1) := by decide +kernel
theorem dX4_store_37 : decode cX4_store 37 = .ok (.iastore, 1) := by decide +kernel
theorem dX4_store_38 : decode cX4_store 38 = .ok (.return_, 1) := by decide +kernel
theorem dX5_init_0 : decode cX5_init 0 = .ok (.aload_n 0, 1) := by decide +kernel
theorem dX5_init_1 : decode cX5_init 1 = .ok (.invokespecial 3, 3) := by decide +kernel
theorem dX5_init_4 : decode cX5_init 4 = .ok (.aload_n 0, 1) := by decide +kernel
theorem dX5_init_5 : decode cX5_init 5 = .ok (.iload_n 1, 1) := by decide +kernel
theorem dX5_init_6 : decode cX5_init 6 = .ok (.putfield 9, 3) := by decide +kernel
theorem dX5_init_9 : decode cX5_init 9 = .ok (.aload_n 0, 1) := by decide +kernel
theorem dX5_init_10 : decode cX5_init 10 = .ok (.iconst 4, 1) := by decide +kernel
theorem dX5_init_11 : decode cX5_init 11 = .ok (.iload_n 2, 1) := by decide +kernel
theorem dX5_init_12 : decode cX5_init 12 = .ok (.imul, 1) := by decide +kernel
theorem dX5_init_13 : decode cX5_init 13 = .ok (.iconst 1, 1) := by decide +kernel
theorem dX5_init_14 : decode cX5_init 14 = .ok (.isub, 1) := by decide +kernel
theorem dX5_init_15 : decode cX5_init 15 = .ok (.newarray .int, 2) := by decide +kernel
theorem dX5_init_17 : decode cX5_init 17 = .ok (.putfield 15, 3) := by decide +kernel
theorem dX5_init_20 : decode cX5_init 20 = .ok (.return_, 1) := by decide +kernel
theorem dX5_isFull_0 : decode cX5_isFull 0 = .ok (.aload_n 0, 1) := by decide +kernel
theorem dX5_isFull_1 : decode cX5_isFull 1 = .ok (.getfield 19, 3) := by decide +kernel
theorem dX5_isFull_4 : decode cX5_isFull 4 = .ok (.aload_n 0, 1) := by decide +kernel
theorem dX5_isFull_5 : decode cX5_isFull 5 = .ok (.getfield 15, 3) := by decide +kernel
theorem dX5_isFull_8 : decode cX5_isFull 8 = .ok (.arraylength, 1) := by decide +kernel
theorem dX5_isFull_9 : decode cX5_isFull 9 = .ok (.if_icmp .lt 7, 3) := by decide +kernel
theorem dX5_isFull_12 : decode cX5_isFull 12 = .ok (.iconst 1, 1) := by decide +kernel
theorem dX5_isFull_13 : decode cX5_isFull 13 = .ok (.goto 4, 3) := by decide +kernel
theorem dX5_isFull_16 : decode cX5_isFull 16 = .ok (.iconst 0, 1) := by decide +kernel
theorem dX5_isFull_17 : decode cX5_isFull 17 = .ok (.ireturn, 1) := by decide +kernel
theorem dX5_append_0 : decode cX5_append 0 = .ok (.aload_n 0, 1) := by decide +kernel
theorem dX5_append_1 : decode cX5_append 1 = .ok (.invokevirtual 22, 3) := by decide +kernel
theorem dX5_append_4 : decode cX5_append 4 = .ok (.ifCond .eq 4, 3) := by decide +kernel
theorem dX5_append_7 : decode cX5_append 7 = .ok (.return_, 1) := by decide +kernel
theorem dX5_append_8 : decode cX5_append 8 = .ok (.aload_n 0, 1) := by decide +kernel
theorem dX5_append_9 : decode cX5_append 9 = .ok (.getfield 15, 3) := by decide +kernel
theorem dX5_append_12 : decode cX5_append 12 = .ok (.aload_n 0, 1) := by decide +kernel
theorem dX5_append_13 : decode cX5_append 13 = .ok (.getfield 19, 3) := by decide +kernel
theorem dX5_append_16 : decode cX5_append 16 = .ok (.iload_n 1, 1) := by decide +kernel
theorem dX5_append_17 : decode cX5_append 17 = .ok (.iastore, 1) := by decide +kernel
theorem dX5_append_18 : decode cX5_append 18 = .ok (.aload_n 0, 1) := by decide +kernel
theorem dX5_append_19 : decode cX5_append 19 = .ok (.dup, 1) := by decide +kernel
theorem dX5_append_20 : decode cX5_append 20 = .ok (.getfield 19, 3) := by decide +kernel
theorem dX5_append_23 : decode cX5_append 23 = .ok (.iconst 1, 1) := by decide +kernel
theorem dX5_append_24 : decode cX5_append 24 = .ok (.iadd, 1) := by decide +kernel
theorem dX5_append_25 : decode cX5_append 25 = .ok (.putfield 19, 3) := by decide +kernel
theorem dX5_append_28 : decode cX5_append 28 = .ok (.return_, 1) := by decide +kernel
theorem dX5_faultPlace_0 : decode cX5_faultPlace 0 = .ok (.iconst 0, 1) := by decide +kernel
theorem dX5_faultPlace_1 : decode cX5_faultPlace 1 = .ok (.istore_n 1, 1) := by decide +kernel
theorem dX5_faultPlace_2 : decode cX5_faultPlace 2 = .ok (.iload_n 1, 1) := by decide +kernel
theorem dX5_faultPlace_3 : decode cX5_faultPlace 3 = .ok (.aload_n 0, 1) := by decide +kernel
theorem dX5_faultPlace_4 : decode cX5_faultPlace 4 = .ok (.getfield 19, 3) := by decide +kernel
theorem dX5_faultPlace_7 : decode cX5_faultPlace 7 = .ok (.if_icmp .ge 19, 3) := by decide +kernel
theorem dX5_faultPlace_10 : decode cX5_faultPlace 10 = .ok (.aload_n 0, 1) := by decide +kernel
theorem dX5_faultPlace_11 : decode cX5_faultPlace 11 = .ok (.iload_n 1, 1) := by decide +kernel
theorem dX5_faultPlace_12 : decode cX5_faultPlace 12 = .ok (.invokevirtual 26, 3) := by decide +kernel
theorem dX5_faultPlace_15 : decode cX5_faultPlace 15 = .ok (.ifCond .ne 5, 3) := by decide +kernel
theorem dX5_faultPlace_18 : decode cX5_faultPlace 18 = .ok (.iload_n 1, 1) := by decide +kernel
theorem dX5_faultPlace_19 : decode cX5_faultPlace 19 = .ok (.ireturn, 1) := by decide +kernel
theorem dX5_faultPlace_20 : decode cX5_faultPlace 20 = .ok (.iinc 1 1, 3) := by decide +kernel
theorem dX5_faultPlace_23 : decode cX5_faultPlace 23 = .ok (.goto (-21), 3) := by decide +kernel
theorem dX5_faultPlace_26 : decode cX5_faultPlace 26 = .ok (.aload_n 0, 1) := by decide +kernel
theorem dX5_faultPlace_27 : decode cX5_faultPlace 27 = .ok (.getfield 19, 3) := by decide +kernel
theorem dX5_faultPlace_30 : decode cX5_faultPlace 30 = .ok (.ifCond .eq 13, 3) := by decide +kernel
theorem dX5_faultPlace_33 : decode cX5_faultPlace 33 = .ok (.aload_n 0, 1) := by decide +kernel
theorem dX5_faultPlace_34 : decode cX5_faultPlace 34 = .ok (.getfield 19, 3) := by decide +kernel
theorem dX5_faultPlace_37 : decode cX5_faultPlace 37 = .ok (.iconst 4, 1) := by decide +kernel
theorem dX5_faultPlace_38 : decode cX5_faultPlace 38 = .ok (.irem, 1) := by decide +kernel
theorem dX5_faultPlace_39 : decode cX5_faultPlace 39 = .ok (.iconst 3, 1) := by decide +kernel
theorem dX5_faultPlace_40 : decode cX5_faultPlace 40 = .ok (.if_icmp .ne 7, 3) := by decide +kernel
theorem dX5_faultPlace_43 : decode cX5_faultPlace 43 = .ok (.iconst (-1), 1) := by decide +kernel
theorem dX5_faultPlace_44 : decode cX5_faultPlace 44 = .ok (.goto 7, 3) := by decide +kernel
theorem dX5_faultPlace_47 : decode cX5_faultPlace 47 = .ok (.aload_n 0, 1) := by decide +kernel
theorem dX5_faultPlace_48 : decode cX5_faultPlace 48 = .ok (.getfield 19, 3) := by decide +kernel
theorem dX5_faultPlace_51 : decode cX5_faultPlace 51 = .ok (.ireturn, 1) := by decide +kernel
theorem dX5_items_0 : decode cX5_items 0 = .ok (.aload_n 0, 1) := by decide +kernel
theorem dX5_items_1 : decode cX5_items 1 = .ok (.invokevirtual 30, 3) := by decide +kernel
theorem dX5_items_4 : decode cX5_items 4 = .ok (.iconst (-1), 1) := by decide +kernel
theorem dX5_items_5 : decode cX5_items 5 = .ok (.if_icmp .ne 14, 3) := by decide +kernel
theorem dX5_items_8 : decode cX5_items 8 = .ok (.aload_n 0, 1) := by decide +kernel
theorem dX5_items_9 : decode cX5_items 9 = .ok (.getfield 19, 3) := by decide +kernel
theorem dX5_items_12 : decode cX5_items 12 = .ok (.iconst 1, 1) := by decide +kernel
theorem dX5_items_13 : decode cX5_items 13 = .ok (.iadd, 1) := by decide +kernel
theorem dX5_items_14 : decode cX5_items 14 = .ok (.iconst 4, 1) := by decide +kernel
theorem dX5_items_15 : decode cX5_items 15 = .ok (.idiv, 1) := by decide +kernel
theorem dX5_items_16 : decode cX5_items 16 = .ok (.goto 4, 3) := by decide +kernel
theorem dX5_items_19 : decode cX5_items 19 = .ok (.iconst 0, 1) := by decide +kernel
theorem dX5_items_20 : decode cX5_items 20 = .ok (.ireturn, 1) := by decide +kernel
theorem dX5_byteOf_0 : decode cX5_byteOf 0 = .ok (.aload_n 0, 1) := by decide +kernel
theorem dX5_byteOf_1 : decode cX5_byteOf 1 = .ok (.getfield 15, 3) := by decide +kernel
theorem dX5_byteOf_4 : decode cX5_byteOf 4 = .ok (.iconst 4, 1) := by decide +kernel
theorem dX5_byteOf_5 : decode cX5_byteOf 5 = .ok (.iload_n 1, 1) := by decide +kernel
theorem dX5_byteOf_6 : decode cX5_byteOf 6 = .ok (.imul, 1) := by decide +kernel
theorem dX5_byteOf_7 : decode cX5_byteOf 7 = .ok (.iload_n 2, 1) := by decide +kernel
theorem dX5_byteOf_8 : decode cX5_byteOf 8 = .ok (.iadd, 1) := by decide +kernel
theorem dX5_byteOf_9 : decode cX5_byteOf 9 = .ok (.iaload, 1) := by decide +kernel
theorem dX5_byteOf_10 : decode cX5_byteOf 10 = .ok (.ireturn, 1) := by decide +kernel
theorem dX5_fits_0 : decode cX5_fits 0 = .ok (.aload_n 0, 1) := by decide +kernel
theorem dX5_fits_1 : decode cX5_fits 1 = .ok (.getfield 15, 3) := by decide +kernel
theorem dX5_fits_4 : decode cX5_fits 4 = .ok (.iload_n 1, 1) := by decide +kernel
theorem dX5_fits_5 : decode cX5_fits 5 = .ok (.iaload, 1) := by decide +kernel
theorem dX5_fits_6 : decode cX5_fits 6 = .ok (.istore_n 2, 1) := by decide +kernel
theorem dX5_fits_7 : decode cX5_fits 7 = .ok (.iload_n 1, 1) := by decide +kernel
theorem dX5_fits_8 : decode cX5_fits 8 = .ok (.iconst 4, 1) := by decide +kernel
theorem dX5_fits_9 : decode cX5_fits 9 = .ok (.irem, 1) := by decide +kernel
theorem dX5_fits_10 : decode cX5_fits 10 = .ok (.istore_n 3, 1) := by decide +kernel
theorem dX5_fits_11 : decode cX5_fits 11 = .ok (.iload_n 3, 1) := by decide +kernel
theorem dX5_fits_12 : decode cX5_fits 12 = .ok (.iconst 3, 1) := by decide +kernel
theorem dX5_fits_13 : decode cX5_fits 13 = .ok (.if_icmp .ne 15, 3) := by decide +kernel
theorem dX5_fits_16 : decode cX5_fits 16 = .ok (.iload_n 2, 1) := by decide +kernel
theorem dX5_fits_17 : decode cX5_fits 17 = .ok (.bipush 59, 2) := by decide +kernel
theorem dX5_fits_19 : decode cX5_fits 19 = .ok (.if_icmp .ne 7, 3) := by decide +kernel
theorem dX5_fits_22 : decode cX5_fits 22 = .ok (.iconst 1, 1) := by decide +kernel
theorem dX5_fits_23 : decode cX5_fits 23 = .ok (.goto 4, 3) := by decide +kernel
theorem dX5_fits_26 : decode cX5_fits 26 = .ok (.iconst 0, 1) := by decide +kernel
theorem dX5_fits_27 : decode cX5_fits 27 = .ok (.ireturn, 1) := by decide +kernel
theorem dX5_fits_28 : decode cX5_fits 28 = .ok (.iload_n 3, 1) := by decide +kernel
theorem dX5_fits_29 : decode cX5_fits 29 = .ok (.iconst 2, 1) := by decide +kernel
theorem dX5_fits_30 : decode cX5_fits 30 = .ok (.if_icmp .eq 10, 3) := by decide +kernel
theorem dX5_fits_33 : decode cX5_fits 33 = .ok (.aload_n 0, 1) := by decide +kernel
theorem dX5_fits_34 : decode cX5_fits 34 = .ok (.getfield 9, 3) := by decide +kernel
theorem dX5_fits_37 : decode cX5_fits 37 = .ok (.ifCond .ne 21, 3) := by decide +kernel
theorem dX5_fits_40 : decode cX5_fits 40 = .ok (.iload_n 2, 1) := by decide +kernel
theorem dX5_fits_41 : decode cX5_fits 41 = .ok (.bipush 49, 2) := by decide +kernel
theorem dX5_fits_43 : decode cX5_fits 43 = .ok (.if_icmp .lt 13, 3) := by decide +kernel
theorem dX5_fits_46 : decode cX5_fits 46 = .ok (.iload_n 2, 1) := by decide +kernel
theorem dX5_fits_47 : decode cX5_fits 47 = .ok (.bipush 57, 2) := by decide +kernel
theorem dX5_fits_49 : decode cX5_fits 49 = .ok (.if_icmp .gt 7, 3) := by decide +kernel
theorem dX5_fits_52 : decode cX5_fits 52 = .ok (.iconst 1, 1) := by decide +kernel
theorem dX5_fits_53 : decode cX5_fits 53 = .ok (.goto 4, 3) := by decide +kernel
theorem dX5_fits_56 : decode cX5_fits 56 = .ok (.iconst 0, 1) := by decide +kernel
theorem dX5_fits_57 : decode cX5_fits 57 = .ok (.ireturn, 1) := by decide +kernel
theorem dX5_fits_58 : decode cX5_fits 58 = .ok (.aload_n 0, 1) := by decide +kernel
theorem dX5_fits_59 : decode cX5_fits 59 = .ok (.getfield 9, 3) := by decide +kernel
theorem dX5_fits_62 : decode cX5_fits 62 = .ok (.iconst 1, 1) := by decide +kernel
theorem dX5_fits_63 : decode cX5_fits 63 = .ok (.if_icmp .ne 45, 3) := by decide +kernel
theorem dX5_fits_66 : decode cX5_fits 66 = .ok (.iload_n 3, 1) := by decide +kernel
theorem dX5_fits_67 : decode cX5_fits 67 = .ok (.ifCond .ne 23, 3) := by decide +kernel
theorem dX5_fits_70 : decode cX5_fits 70 = .ok (.iload_n 2, 1) := by decide +kernel
theorem dX5_fits_71 : decode cX5_fits 71 = .ok (.bipush 97, 2) := by decide +kernel
theorem dX5_fits_73 : decode cX5_fits 73 = .ok (.if_icmp .lt 13, 3) := by decide +kernel
theorem dX5_fits_76 : decode cX5_fits 76 = .ok (.iload_n 2, 1) := by decide +kernel
theorem dX5_fits_77 : decode cX5_fits 77 = .ok (.bipush 99, 2) := by decide +kernel
theorem dX5_fits_79 : decode cX5_fits 79 = .ok (.if_icmp .gt 7, 3) := by decide +kernel
theorem dX5_fits_82 : decode cX5_fits 82 = .ok (.iconst 1, 1) := by decide +kernel
theorem dX5_fits_83 : decode cX5_fits 83 = .ok (.goto 24, 3) := by decide +kernel
theorem dX5_fits_86 : decode cX5_fits 86 = .ok (.iconst 0, 1) := by decide +kernel
theorem dX5_fits_87 : decode cX5_fits 87 = .ok (.goto 20, 3) := by decide +kernel
theorem dX5_fits_90 : decode cX5_fits 90 = .ok (.iload_n 2, 1) := by decide +kernel
theorem dX5_fits_91 : decode cX5_fits 91 = .ok (.bipush 43, 2) := by decide +kernel
theorem dX5_fits_93 : decode cX5_fits 93 = .ok (.if_icmp .eq 9, 3) := by decide +kernel
theorem dX5_fits_96 : decode cX5_fits 96 = .ok (.iload_n 2, 1) := by decide +kernel
theorem dX5_fits_97 : decode cX5_fits 97 = .ok (.bipush 45, 2) := by decide +kernel
theorem dX5_fits_99 : decode cX5_fits 99 = .ok (.if_icmp .ne 7, 3) := by decide +kernel
theorem dX5_fits_102 : decode cX5_fits 102 = .ok (.iconst 1, 1) := by decide +kernel
theorem dX5_fits_103 : decode cX5_fits 103 = .ok (.goto 4, 3) := by decide +kernel
theorem dX5_fits_106 : decode cX5_fits 106 = .ok (.iconst 0, 1) := by decide +kernel
theorem dX5_fits_107 : decode cX5_fits 107 = .ok (.ireturn, 1) := by decide +kernel
theorem dX5_fits_108 : decode cX5_fits 108 = .ok (.iload_n 2, 1) := by decide +kernel
theorem dX5_fits_109 : decode cX5_fits 109 = .ok (.bipush 97, 2) := by decide +kernel
theorem dX5_fits_111 : decode cX5_fits 111 = .ok (.if_icmp .lt 29, 3) := by decide +kernel
theorem dX5_fits_114 : decode cX5_fits 114 = .ok (.iload_n 2, 1) := by decide +kernel
theorem dX5_fits_115 : decode cX5_fits 115 = .ok (.bipush 102, 2) := by decide +kernel
theorem dX5_fits_117 : decode cX5_fits 117 = .ok (.if_icmp .gt 23, 3) := by decide +kernel
theorem dX5_fits_120 : decode cX5_fits 120 = .ok (.iload_n 3, 1) := by decide +kernel
theorem dX5_fits_121 : decode cX5_fits 121 = .ok (.ifCond .eq 15, 3) := by decide +kernel
theorem dX5_fits_124 : decode cX5_fits 124 = .ok (.iload_n 2, 1) := by decide +kernel
theorem dX5_fits_125 : decode cX5_fits 125 = .ok (.aload_n 0, 1) := by decide +kernel
theorem dX5_fits_126 : decode cX5_fits 126 = .ok (.getfield 15, 3) := by decide +kernel
theorem dX5_fits_129 : decode cX5_fits 129 = .ok (.iload_n 1, 1) := by decide +kernel
theorem dX5_fits_130 : decode cX5_fits 130 = .ok (.iconst 1, 1) := by decide +kernel
theorem dX5_fits_131 : decode cX5_fits 131 = .ok (.isub, 1) := by decide +kernel
theorem dX5_fits_132 : decode cX5_fits 132 = .ok (.iaload, 1) := by decide +kernel
theorem dX5_fits_133 : decode cX5_fits 133 = .ok (.if_icmp .eq 7, 3) := by decide +kernel
theorem dX5_fits_136 : decode cX5_fits 136 = .ok (.iconst 1, 1) := by decide +kernel
theorem dX5_fits_137 : decode cX5_fits 137 = .ok (.goto 4, 3) := by decide +kernel
theorem dX5_fits_140 : decode cX5_fits 140 = .ok (.iconst 0, 1) := by decide +kernel
theorem dX5_fits_141 : decode cX5_fits 141 = .ok (.ireturn, 1) := by decide +kernel
theorem dX6_init_0 : decode cX6_init 0 = .ok (.aload_n 0, 1) := by decide +kernel
theorem dX6_init_1 : decode cX6_init 1 = .ok (.invokespecial 3, 3) := by decide +kernel
theorem dX6_init_4 : decode cX6_init 4 = .ok (.aload_n 0, 1) := by decide +kernel
theorem dX6_init_5 : decode cX6_init 5 = .ok (.iconst 1, 1) := by decide +kernel
theorem dX6_init_6 : decode cX6_init 6 = .ok (.putfield 9, 3) := by decide +kernel
theorem dX6_init_9 : decode cX6_init 9 = .ok (.aload_n 0, 1) := by decide +kernel
theorem dX6_init_10 : decode cX6_init 10 = .ok (.iconst 1, 1) := by decide +kernel
theorem dX6_init_11 : decode cX6_init 11 = .ok (.putfield 15, 3) := by decide +kernel
theorem dX6_init_14 : decode cX6_init 14 = .ok (.aload_n 0, 1) := by decide +kernel
theorem dX6_init_15 : decode cX6_init 15 = .ok (.iconst 4, 1) := by decide +kernel
theorem dX6_init_16 : decode cX6_init 16 = .ok (.newarray .int, 2) := by decide +kernel
theorem dX6_init_18 : decode cX6_init 18 = .ok (.putfield 18, 3) := by decide +kernel
theorem dX6_init_21 : decode cX6_init 21 = .ok (.aload_n 0, 1) := by decide +kernel
theorem dX6_init_22 : decode cX6_init 22 = .ok (.iconst 4, 1) := by decide +kernel
theorem dX6_init_23 : decode cX6_init 23 = .ok (.newarray .int, 2) := by decide +kernel
theorem dX6_init_25 : decode cX6_init 25 = .ok (.putfield 22, 3) := by decide +kernel
theorem dX6_init_28 : decode cX6_init 28 = .ok (.aload_n 0, 1) := by decide +kernel
theorem dX6_init_29 : decode cX6_init 29 = .ok (.bipush 16, 2) := by decide +kernel
theorem dX6_init_31 : decode cX6_init 31 = .ok (.newarray .int, 2) := by decide +kernel
theorem dX6_init_33 : decode cX6_init 33 = .ok (.putfield 25, 3) := by decide +kernel
theorem dX6_init_36 : decode cX6_init 36 = .ok (.aload_n 0, 1) := by decide +kernel
theorem dX6_init_37 : decode cX6_init 37 = .ok (.bipush 16, 2) := by decide +kernel
theorem dX6_init_39 : decode cX6_init 39 = .ok (.newarray .int, 2) := by decide +kernel
theorem dX6_init_41 : decode cX6_init 41 = .ok (.putfield 28, 3) := by decide +kernel
theorem dX6_init_44 : decode cX6_init 44 = .ok (.aload_n 0, 1) := by decide +kernel
theorem dX6_init_45 : decode cX6_init 45 = .ok (.getfield 25, 3) := by decide +kernel
theorem dX6_init_48 : decode cX6_init 48 = .ok (.iconst 1, 1) := by decide +kernel
theorem dX6_init_49 : decode cX6_init 49 = .ok (.invokestatic 31, 3) := by decide +kernel
theorem dX6_init_52 : decode cX6_init 52 = .ok (.aload_n 0, 1) := by decide +kernel
theorem dX6_init_53 : decode cX6_init 53 = .ok (.getfield 28, 3) := by decide +kernel
theorem dX6_init_56 : decode cX6_init 56 = .ok (.iconst 1, 1) := by decide +kernel
theorem dX6_init_57 : decode cX6_init 57 = .ok (.invokestatic 31, 3) := by decide +kernel
theorem dX6_init_60 : decode cX6_init 60 = .ok (.return_, 1) := by decide +kernel
theorem dX6_isTown_0 : decode cX6_isTown 0 = .ok (.iload_n 0, 1) := by decide +kernel
theorem dX6_isTown_1 : decode cX6_isTown 1 = .ok (.iconst 0, 1) := by decide +kernel
theorem dX6_isTown_2 : decode cX6_isTown 2 = .ok (.iconst 3, 1) := by decide +kernel
theorem dX6_isTown_3 : decode cX6_isTown 3 = .ok (.invokestatic 37, 3) := by decide +kernel
theorem dX6_isTown_6 : decode cX6_isTown 6 = .ok (.ireturn, 1) := by decide +kernel
theorem dX6_replaceRate_0 : decode cX6_replaceRate 0 = .ok (.iload_n 1, 1) := by decide +kernel
theorem dX6_replaceRate_1 : decode cX6_replaceRate 1 = .ok (.iconst 4, 1) := by decide +kernel
theorem dX6_replaceRate_2 : decode cX6_replaceRate 2 = .ok (.imul, 1) := by decide +kernel
theorem dX6_replaceRate_3 : decode cX6_replaceRate 3 = .ok (.iload_n 2, 1) := by decide +kernel
theorem dX6_replaceRate_4 : decode cX6_replaceRate 4 = .ok (.iadd, 1) := by decide +kernel
theorem dX6_replaceRate_5 : decode cX6_replaceRate 5 = .ok (.istore 5, 2) := by decide +kernel
theorem dX6_replaceRate_7 : decode cX6_replaceRate 7 = .ok (.bipush 10, 2) := by decide +kernel
theorem dX6_replaceRate_9 : decode cX6_replaceRate 9 = .ok (.aload_n 0, 1) := by decide +kernel
theorem dX6_replaceRate_10 : decode cX6_replaceRate 10 = .ok (.getfield 25, 3) := by decide +kernel
theorem dX6_replaceRate_13 : decode cX6_replaceRate 13 = .ok (.iload 5, 2) := by decide +kernel
theorem dX6_replaceRate_15 : decode cX6_replaceRate 15 = .ok (.iaload, 1) := by decide +kernel
theorem dX6_replaceRate_16 : decode cX6_replaceRate 16 = .ok (.imul, 1) := by decide +kernel
theorem dX6_replaceRate_17 : decode cX6_replaceRate 17 = .ok (.aload_n 0, 1) := by decide +kernel
theorem dX6_replaceRate_18 : decode cX6_replaceRate 18 = .ok (.getfield 28, 3) := by decide +kernel
theorem dX6_replaceRate_21 : decode cX6_replaceRate 21 = .ok (.iload 5, 2) := by decide +kernel
theorem dX6_replaceRate_23 : decode cX6_replaceRate 23 = .ok (.iaload, 1) := by decide +kernel
theorem dX6_replaceRate_24 : decode cX6_replaceRate 24 = .ok (.iadd, 1) := by decide +kernel
theorem dX6_replaceRate_25 : decode cX6_replaceRate 25 = .ok (.istore 6, 2) := by decide +kernel
theorem dX6_replaceRate_27 : decode cX6_replaceRate 27 = .ok (.aload_n 0, 1) := by decide +kernel
theorem dX6_replaceRate_28 : decode cX6_replaceRate 28 = .ok (.getfield 25, 3) := by decide +kernel
theorem dX6_replaceRate_31 : decode cX6_replaceRate 31 = .ok (.iload 5, 2) := by decide +kernel
theorem dX6_replaceRate_33 : decode cX6_replaceRate 33 = .ok (.iload_n 3, 1) := by decide +kernel
theorem dX6_replaceRate_34 : decode cX6_replaceRate 34 = .ok (.iastore, 1) := by decide +kernel
theorem dX6_replaceRate_35 : decode cX6_replaceRate 35 = .ok (.aload_n 0, 1) := by decide +kernel
theorem dX6_replaceRate_36 : decode cX6_replaceRate 36 = .ok (.getfield 28, 3) := by decide +kernel
theorem dX6_replaceRate_39 : decode cX6_replaceRate 39 = .ok (.iload 5, 2) := by decide +kernel
theorem dX6_replaceRate_41 : decode cX6_replaceRate 41 = .ok (.iload 4, 2) := by decide +kernel
theorem dX6_replaceRate_43 : decode cX6_replaceRate 43 = .ok (.iastore, 1) := by decide +kernel
theorem dX6_replaceRate_44 : decode cX6_replaceRate 44 = .ok (.iload 6, 2) := by decide +kernel
theorem dX6_replaceRate_46 : decode cX6_replaceRate 46 = .ok (.ireturn, 1) := by decide +kernel
theorem dX6_bestTown_0 : decode cX6_bestTown 0 = .ok (.iload_n 1, 1) := by decide +kernel
theorem dX6_bestTown_1 : decode cX6_bestTown 1 = .ok (.aload_n 0, 1) := by decide +kernel
theorem dX6_bestTown_2 : decode cX6_bestTown 2 = .ok (.getfield 41, 3) := by decide +kernel
theorem dX6_bestTown_5 : decode cX6_bestTown 5 = .ok (.if_icmp .ge 12, 3) := by decide +kernel
theorem dX6_bestTown_8 : decode cX6_bestTown 8 = .ok (.aload_n 0, 1) := by decide +kernel
theorem dX6_bestTown_9 : decode cX6_bestTown 9 = .ok (.getfield 18, 3) := by decide +kernel
theorem dX6_bestTown_12 : decode cX6_bestTown 12 = .ok (.iload_n 1, 1) := by decide +kernel
theorem dX6_bestTown_13 : decode cX6_bestTown 13 = .ok (.iaload, 1) := by decide +kernel
theorem dX6_bestTown_14 : decode cX6_bestTown 14 = .ok (.goto 4, 3) := by decide +kernel
theorem dX6_bestTown_17 : decode cX6_bestTown 17 = .ok (.iconst (-1), 1) := by decide +kernel
theorem dX6_bestTown_18 : decode cX6_bestTown 18 = .ok (.ireturn, 1) := by decide +kernel
theorem dX6_findRound_0 : decode cX6_findRound 0 = .ok (.aload_n 0, 1) := by decide +kernel
theorem dX6_findRound_1 : decode cX6_findRound 1 = .ok (.iconst 1, 1) := by decide +kernel
theorem dX6_findRound_2 : decode cX6_findRound 2 = .ok (.putfield 9, 3) := by decide +kernel
theorem dX6_findRound_5 : decode cX6_findRound 5 = .ok (.aload_n 0, 1) := by decide +kernel
theorem dX6_findRound_6 : decode cX6_findRound 6 = .ok (.iconst 1, 1) := by decide +kernel
theorem dX6_findRound_7 : decode cX6_findRound 7 = .ok (.putfield 15, 3) := by decide +kernel
theorem dX6_findRound_10 : decode cX6_findRound 10 = .ok (.aload_n 0, 1) := by decide +kernel
theorem dX6_findRound_11 : decode cX6_findRound 11 = .ok (.iconst 0, 1) := by decide +kernel
theorem dX6_findRound_12 : decode cX6_findRound 12 = .ok (.putfield 41, 3) := by decide +kernel
theorem dX6_findRound_15 : decode cX6_findRound 15 = .ok (.iconst 2, 1) := by decide +kernel
theorem dX6_findRound_16 : decode cX6_findRound 16 = .ok (.istore_n 1, 1) := by decide +kernel
theorem dX6_findRound_17 : decode cX6_findRound 17 = .ok (.iload_n 1, 1) := by decide +kernel
theorem dX6_findRound_18 : decode cX6_findRound 18 = .ok (.iconst 4, 1) := by decide +kernel
theorem dX6_findRound_19 : decode cX6_findRound 19 = .ok (.if_icmp .gt 37, 3) := by decide +kernel
theorem dX6_findRound_22 : decode cX6_findRound 22 = .ok (.iconst 0, 1) := by decide +kernel
theorem dX6_findRound_23 : decode cX6_findRound 23 = .ok (.istore_n 2, 1) := by decide +kernel
theorem dX6_findRound_24 : decode cX6_findRound 24 = .ok (.iload_n 2, 1) := by decide +kernel
theorem dX6_findRound_25 : decode cX6_findRound 25 = .ok (.iconst 4, 1) := by decide +kernel
theorem dX6_findRound_26 : decode cX6_findRound 26 = .ok (.if_icmp .ge 24, 3) := by decide +kernel
theorem dX6_findRound_29 : decode cX6_findRound 29 = .ok (.aload_n 0, 1) := by decide +kernel
theorem dX6_findRound_30 : decode cX6_findRound 30 = .ok (.getfield 22, 3) := by decide +kernel
theorem dX6_findRound_33 : decode cX6_findRound 33 = .ok (.iconst 0, 1) := by decide +kernel
theorem dX6_findRound_34 : decode cX6_findRound 34 = .ok (.iload_n 2, 1) := by decide +kernel
theorem dX6_findRound_35 : decode cX6_findRound 35 = .ok (.iastore, 1) := by decide +kernel
theorem dX6_findRound_36 : decode cX6_findRound 36 = .ok (.aload_n 0, 1) := by decide +kernel
theorem dX6_findRound_37 : decode cX6_findRound 37 = .ok (.iconst 1, 1) := by decide +kernel
theorem dX6_findRound_38 : decode cX6_findRound 38 = .ok (.iload_n 1, 1) := by decide +kernel
theorem dX6_findRound_39 : decode cX6_findRound 39 = .ok (.iconst 1, 1) := by decide +kernel
theorem dX6_findRound_40 : decode cX6_findRound 40 = .ok (.iconst 1, 1) := by decide +kernel
theorem dX6_findRound_41 : decode cX6_findRound 41 = .ok (.invokevirtual 44, 3) := by decide +kernel
theorem dX6_findRound_44 : decode cX6_findRound 44 = .ok (.iinc 2 1, 3) := by decide +kernel
theorem dX6_findRound_47 : decode cX6_findRound 47 = .ok (.goto (-23), 3) := by decide +kernel
theorem dX6_findRound_50 : decode cX6_findRound 50 = .ok (.iinc 1 1, 3) := by decide +kernel
theorem dX6_findRound_53 : decode cX6_findRound 53 = .ok (.goto (-36), 3) := by decide +kernel
theorem dX6_findRound_56 : decode cX6_findRound 56 = .ok (.aload_n 0, 1) := by decide +kernel
theorem dX6_findRound_57 : decode cX6_findRound 57 = .ok (.getfield 9, 3) := by decide +kernel
theorem dX6_findRound_60 : decode cX6_findRound 60 = .ok (.i2l, 1) := by decide +kernel
theorem dX6_findRound_61 : decode cX6_findRound 61 = .ok (.aload_n 0, 1) := by decide +kernel
theorem dX6_findRound_62 : decode cX6_findRound 62 = .ok (.getfield 15, 3) := by decide +kernel
theorem dX6_findRound_65 : decode cX6_findRound 65 = .ok (.i2l, 1) := by decide +kernel
theorem dX6_findRound_66 : decode cX6_findRound 66 = .ok (.invokestatic 48, 3) := by decide +kernel
theorem dX6_findRound_69 : decode cX6_findRound 69 = .ok (.l2i, 1) := by decide +kernel
theorem dX6_findRound_70 : decode cX6_findRound 70 = .ok (.istore_n 1, 1) := by decide +kernel
theorem dX6_findRound_71 : decode cX6_findRound 71 = .ok (.aload_n 0, 1) := by decide +kernel
theorem dX6_findRound_72 : decode cX6_findRound 72 = .ok (.dup, 1) := by decide +kernel
theorem dX6_findRound_73 : decode cX6_findRound 73 = .ok (.getfield 9, 3) := by decide +kernel
theorem dX6_findRound_76 : decode cX6_findRound 76 = .ok (.iload_n 1, 1) := by decide +kernel
theorem dX6_findRound_77 : decode cX6_findRound 77 = .ok (.idiv, 1) := by decide +kernel
theorem dX6_findRound_78 : decode cX6_findRound 78 = .ok (.putfield 9, 3) := by decide +kernel
theorem dX6_findRound_81 : decode cX6_findRound 81 = .ok (.aload_n 0, 1) := by decide +kernel
theorem dX6_findRound_82 : decode cX6_findRound 82 = .ok (.dup, 1) := by decide +kernel
theorem dX6_findRound_83 : decode cX6_findRound 83 = .ok (.getfield 15, 3) := by decide +kernel
theorem dX6_findRound_86 : decode cX6_findRound 86 = .ok (.iload_n 1, 1) := by decide +kernel
theorem dX6_findRound_87 : decode cX6_findRound 87 = .ok (.idiv, 1) := by decide +kernel
theorem dX6_findRound_88 : decode cX6_findRound 88 = .ok (.putfield 15, 3) := by decide +kernel
theorem dX6_findRound_91 : decode cX6_findRound 91 = .ok (.return_, 1) := by decide +kernel
theorem dX6_goOn_0 : decode cX6_goOn 0 = .ok (.aload_n 0, 1) := by decide +kernel
theorem dX6_goOn_1 : decode cX6_goOn 1 = .ok (.getfield 22, 3) := by decide +kernel
theorem dX6_goOn_4 : decode cX6_goOn 4 = .ok (.iload_n 1, 1) := by decide +kernel
theorem dX6_goOn_5 : decode cX6_goOn 5 = .ok (.iconst 1, 1) := by decide +kernel
theorem dX6_goOn_6 : decode cX6_goOn 6 = .ok (.isub, 1) := by decide +kernel
theorem dX6_goOn_7 : decode cX6_goOn 7 = .ok (.iaload, 1) := by decide +kernel
theorem dX6_goOn_8 : decode cX6_goOn 8 = .ok (.iconst 4, 1) := by decide +kernel
theorem dX6_goOn_9 : decode cX6_goOn 9 = .ok (.imul, 1) := by decide +kernel
theorem dX6_goOn_10 : decode cX6_goOn 10 = .ok (.istore 5, 2) := by decide +kernel
theorem dX6_goOn_12 : decode cX6_goOn 12 = .ok (.iload_n 1, 1) := by decide +kernel
theorem dX6_goOn_13 : decode cX6_goOn 13 = .ok (.iload_n 2, 1) := by decide +kernel
theorem dX6_goOn_14 : decode cX6_goOn 14 = .ok (.if_icmp .lt 42, 3) := by decide +kernel
theorem dX6_goOn_17 : decode cX6_goOn 17 = .ok (.aload_n 0, 1) := by decide +kernel
theorem dX6_goOn_18 : decode cX6_goOn 18 = .ok (.iload_n 2, 1) := by decide +kernel
theorem dX6_goOn_19 : decode cX6_goOn 19 = .ok (.iload_n 3, 1) := by decide +kernel
theorem dX6_goOn_20 : decode cX6_goOn 20 = .ok (.aload_n 0, 1) := by decide +kernel
theorem dX6_goOn_21 : decode cX6_goOn 21 = .ok (.getfield 25, 3) := by decide +kernel
theorem dX6_goOn_24 : decode cX6_goOn 24 = .ok (.iload 5, 2) := by decide +kernel
theorem dX6_goOn_26 : decode cX6_goOn 26 = .ok (.aload_n 0, 1) := by decide +kernel
theorem dX6_goOn_27 : decode cX6_goOn 27 = .ok (.getfield 22, 3) := by decide +kernel
theorem dX6_goOn_30 : decode cX6_goOn 30 = .ok (.iconst 0, 1) := by decide +kernel
theorem dX6_goOn_31 : decode cX6_goOn 31 = .ok (.iaload, 1) := by decide +kernel
theorem dX6_goOn_32 : decode cX6_goOn 32 = .ok (.iadd, 1) := by decide +kernel
theorem dX6_goOn_33 : decode cX6_goOn 33 = .ok (.iaload, 1) := by decide +kernel
theorem dX6_goOn_34 : decode cX6_goOn 34 = .ok (.imul, 1) := by decide +kernel
theorem dX6_goOn_35 : decode cX6_goOn 35 = .ok (.iload 4, 2) := by decide +kernel
theorem dX6_goOn_37 : decode cX6_goOn 37 = .ok (.aload_n 0, 1) := by decide +kernel
theorem dX6_goOn_38 : decode cX6_goOn 38 = .ok (.getfield 28, 3) := by decide +kernel
theorem dX6_goOn_41 : decode cX6_goOn 41 = .ok (.iload 5, 2) := by decide +kernel
theorem dX6_goOn_43 : decode cX6_goOn 43 = .ok (.aload_n 0, 1) := by decide +kernel
theorem dX6_goOn_44 : decode cX6_goOn 44 = .ok (.getfield 22, 3) := by decide +kernel
theorem dX6_goOn_47 : decode cX6_goOn 47 = .ok (.iconst 0, 1) := by decide +kernel
theorem dX6_goOn_48 : decode cX6_goOn 48 = .ok (.iaload, 1) := by decide +kernel
theorem dX6_goOn_49 : decode cX6_goOn 49 = .ok (.iadd, 1) := by decide +kernel
theorem dX6_goOn_50 : decode cX6_goOn 50 = .ok (.iaload, 1) := by decide +kernel
theorem dX6_goOn_51 : decode cX6_goOn 51 = .ok (.imul, 1) := by decide +kernel
theorem dX6_goOn_52 : decode cX6_goOn 52 = .ok (.invokevirtual 52, 3) := by decide +kernel
theorem dX6_goOn_55 : decode cX6_goOn 55 = .ok (.return_, 1) := by decide +kernel
theorem dX6_goOn_56 : decode cX6_goOn 56 = .ok (.aload_n 0, 1) := by decide +kernel
theorem dX6_goOn_57 : decode cX6_goOn 57 = .ok (.getfield 22, 3) := by decide +kernel
theorem dX6_goOn_60 : decode cX6_goOn 60 = .ok (.iconst 0, 1) := by decide +kernel
theorem dX6_goOn_61 : decode cX6_goOn 61 = .ok (.iaload, 1) := by decide +kernel
theorem dX6_goOn_62 : decode cX6_goOn 62 = .ok (.iconst 1, 1) := by decide +kernel
theorem dX6_goOn_63 : decode cX6_goOn 63 = .ok (.iadd, 1) := by decide +kernel
theorem dX6_goOn_64 : decode cX6_goOn 64 = .ok (.istore 6, 2) := by decide +kernel
theorem dX6_goOn_66 : decode cX6_goOn 66 = .ok (.iload 6, 2) := by decide +kernel
theorem dX6_goOn_68 : decode cX6_goOn 68 = .ok (.iconst 4, 1) := by decide +kernel
theorem dX6_goOn_69 : decode cX6_goOn 69 = .ok (.if_icmp .ge 63, 3) := by decide +kernel
theorem dX6_goOn_72 : decode cX6_goOn 72 = .ok (.aload_n 0, 1) := by decide +kernel
theorem dX6_goOn_73 : decode cX6_goOn 73 = .ok (.iload 6, 2) := by decide +kernel
theorem dX6_goOn_75 : decode cX6_goOn 75 = .ok (.iload_n 1, 1) := by decide +kernel
theorem dX6_goOn_76 : decode cX6_goOn 76 = .ok (.invokevirtual 56, 3) := by decide +kernel
theorem dX6_goOn_79 : decode cX6_goOn 79 = .ok (.ifCond .eq 6, 3) := by decide +kernel
theorem dX6_goOn_82 : decode cX6_goOn 82 = .ok (.goto 44, 3) := by decide +kernel
theorem dX6_goOn_85 : decode cX6_goOn 85 = .ok (.aload_n 0, 1) := by decide +kernel
theorem dX6_goOn_86 : decode cX6_goOn 86 = .ok (.getfield 22, 3) := by decide +kernel
theorem dX6_goOn_89 : decode cX6_goOn 89 = .ok (.iload_n 1, 1) := by decide +kernel
theorem dX6_goOn_90 : decode cX6_goOn 90 = .ok (.iload 6, 2) := by decide +kernel
theorem dX6_goOn_92 : decode cX6_goOn 92 = .ok (.iastore, 1) := by decide +kernel
theorem dX6_goOn_93 : decode cX6_goOn 93 = .ok (.aload_n 0, 1) := by decide +kernel
theorem dX6_goOn_94 : decode cX6_goOn 94 = .ok (.iload_n 1, 1) := by decide +kernel
theorem dX6_goOn_95 : decode cX6_goOn 95 = .ok (.iconst 1, 1) := by decide +kernel
theorem dX6_goOn_96 : decode cX6_goOn 96 = .ok (.iadd, 1) := by decide +kernel
theorem dX6_goOn_97 : decode cX6_goOn 97 = .ok (.iload_n 2, 1) := by decide +kernel
theorem dX6_goOn_98 : decode cX6_goOn 98 = .ok (.iload_n 3, 1) := by decide +kernel
theorem dX6_goOn_99 : decode cX6_goOn 99 = .ok (.aload_n 0, 1) := by decide +kernel
theorem dX6_goOn_100 : decode cX6_goOn 100 = .ok (.getfield 25, 3) := by decide +kernel
theorem dX6_goOn_103 : decode cX6_goOn 103 = .ok (.iload 5, 2) := by decide +kernel
theorem dX6_goOn_105 : decode cX6_goOn 105 = .ok (.iload 6, 2) := by decide +kernel
theorem dX6_goOn_107 : decode cX6_goOn 107 = .ok (.iadd, 1) := by decide +kernel
theorem dX6_goOn_108 : decode cX6_goOn 108 = .ok (.iaload, 1) := by decide +kernel
theorem dX6_goOn_109 : decode cX6_goOn 109 = .ok (.imul, 1) := by decide +kernel
theorem dX6_goOn_110 : decode cX6_goOn 110 = .ok (.iload 4, 2) := by decide +kernel
theorem dX6_goOn_112 : decode cX6_goOn 112 = .ok (.aload_n 0, 1) := by decide +kernel
theorem dX6_goOn_113 : decode cX6_goOn 113 = .ok (.getfield 28, 3) := by decide +kernel
theorem dX6_goOn_116 : decode cX6_goOn 116 = .ok (.iload 5, 2) := by decide +kernel
theorem dX6_goOn_118 : decode cX6_goOn 118 = .ok (.iload 6, 2) := by decide +kernel
theorem dX6_goOn_120 : decode cX6_goOn 120 = .ok (.iadd, 1) := by decide +kernel
theorem dX6_goOn_121 : decode cX6_goOn 121 = .ok (.iaload, 1) := by decide +kernel
theorem dX6_goOn_122 : decode cX6_goOn 122 = .ok (.imul, 1) := by decide +kernel
theorem dX6_goOn_123 : decode cX6_goOn 123 = .ok (.invokevirtual 44, 3) := by decide +kernel
theorem dX6_goOn_126 : decode cX6_goOn 126 = .ok (.iinc 6 1, 3) := by decide +kernel
theorem dX6_goOn_129 : decode cX6_goOn 129 = .ok (.goto (-63), 3) := by decide +kernel
theorem dX6_goOn_132 : decode cX6_goOn 132 = .ok (.return_, 1) := by decide +kernel
theorem dX6_isOnWay_0 : decode cX6_isOnWay 0 = .ok (.iconst 0, 1) := by decide +kernel
theorem dX6_isOnWay_1 : decode cX6_isOnWay 1 = .ok (.istore_n 3, 1) := by decide +kernel
theorem dX6_isOnWay_2 : decode cX6_isOnWay 2 = .ok (.iload_n 3, 1) := by decide +kernel
theorem dX6_isOnWay_3 : decode cX6_isOnWay 3 = .ok (.iload_n 2, 1) := by decide +kernel
theorem dX6_isOnWay_4 : decode cX6_isOnWay 4 = .ok (.if_icmp .ge 21, 3) := by decide +kernel
theorem dX6_isOnWay_7 : decode cX6_isOnWay 7 = .ok (.aload_n 0, 1) := by decide +kernel
theorem dX6_isOnWay_8 : decode cX6_isOnWay 8 = .ok (.getfield 22, 3) := by decide +kernel
theorem dX6_isOnWay_11 : decode cX6_isOnWay 11 = .ok (.iload_n 3, 1) := by decide +kernel
theorem dX6_isOnWay_12 : decode cX6_isOnWay 12 = .ok (.iaload, 1) := by decide +kernel
theorem dX6_isOnWay_13 : decode cX6_isOnWay 13 = .ok (.iload_n 1, 1) := by decide +kernel
theorem dX6_isOnWay_14 : decode cX6_isOnWay 14 = .ok (.if_icmp .ne 5, 3) := by decide +kernel
theorem dX6_isOnWay_17 : decode cX6_isOnWay 17 = .ok (.iconst 1, 1) := by decide +kernel
theorem dX6_isOnWay_18 : decode cX6_isOnWay 18 = .ok (.ireturn, 1) := by decide +kernel
theorem dX6_isOnWay_19 : decode cX6_isOnWay 19 = .ok (.iinc 3 1, 3) := by decide +kernel
theorem dX6_isOnWay_22 : decode cX6_isOnWay 22 = .ok (.goto (-20), 3) := by decide +kernel
theorem dX6_isOnWay_25 : decode cX6_isOnWay 25 = .ok (.iconst 0, 1) := by decide +kernel
theorem dX6_isOnWay_26 : decode cX6_isOnWay 26 = .ok (.ireturn, 1) := by decide +kernel
theorem dX6_comeBack_0 : decode cX6_comeBack 0 = .ok (.iload_n 2, 1) := by decide +kernel
theorem dX6_comeBack_1 : decode cX6_comeBack 1 = .ok (.aload_n 0, 1) := by decide +kernel
theorem dX6_comeBack_2 : decode cX6_comeBack 2 = .ok (.getfield 15, 3) := by decide +kernel
theorem dX6_comeBack_5 : decode cX6_comeBack 5 = .ok (.imul, 1) := by decide +kernel
theorem dX6_comeBack_6 : decode cX6_comeBack 6 = .ok (.aload_n 0, 1) := by decide +kernel
theorem dX6_comeBack_7 : decode cX6_comeBack 7 = .ok (.getfield 9, 3) := by decide +kernel
theorem dX6_comeBack_10 : decode cX6_comeBack 10 = .ok (.iload_n 3, 1) := by decide +kernel
theorem dX6_comeBack_11 : decode cX6_comeBack 11 = .ok (.imul, 1) := by decide +kernel
theorem dX6_comeBack_12 : decode cX6_comeBack 12 = .ok (.if_icmp .gt 4, 3) := by decide +kernel
theorem dX6_comeBack_15 : decode cX6_comeBack 15 = .ok (.return_, 1) := by decide +kernel
theorem dX6_comeBack_16 : decode cX6_comeBack 16 = .ok (.aload_n 0, 1) := by decide +kernel
theorem dX6_comeBack_17 : decode cX6_comeBack 17 = .ok (.iload_n 2, 1) := by decide +kernel
theorem dX6_comeBack_18 : decode cX6_comeBack 18 = .ok (.putfield 9, 3) := by decide +kernel
theorem dX6_comeBack_21 : decode cX6_comeBack 21 = .ok (.aload_n 0, 1) := by decide +kernel
theorem dX6_comeBack_22 : decode cX6_comeBack 22 = .ok (.iload_n 3, 1) := by decide +kernel
theorem dX6_comeBack_23 : decode cX6_comeBack 23 = .ok (.putfield 15, 3) := by decide +kernel
theorem dX6_comeBack_26 : decode cX6_comeBack 26 = .ok (.aload_n 0, 1) := by decide +kernel
theorem dX6_comeBack_27 : decode cX6_comeBack 27 = .ok (.iload_n 1, 1) := by decide +kernel
theorem dX6_comeBack_28 : decode cX6_comeBack 28 = .ok (.putfield 41, 3) := by decide +kernel
theorem dX6_comeBack_31 : decode cX6_comeBack 31 = .ok (.aload_n 0, 1) := by decide +kernel
theorem dX6_comeBack_32 : decode cX6_comeBack 32 = .ok (.getfield 22, 3) := by decide +kernel
theorem dX6_comeBack_35 : decode cX6_comeBack 35 = .ok (.iconst 0, 1) := by decide +kernel
theorem dX6_comeBack_36 : decode cX6_comeBack 36 = .ok (.aload_n 0, 1) := by decide +kernel
theorem dX6_comeBack_37 : decode cX6_comeBack 37 = .ok (.getfield 18, 3) := by decide +kernel
theorem dX6_comeBack_40 : decode cX6_comeBack 40 = .ok (.iconst 0, 1) := by decide +kernel
theorem dX6_comeBack_41 : decode cX6_comeBack 41 = .ok (.iload_n 1, 1) := by decide +kernel
theorem dX6_comeBack_42 : decode cX6_comeBack 42 = .ok (.invokestatic 60, 3) := by decide +kernel
theorem dX6_comeBack_45 : decode cX6_comeBack 45 = .ok (.return_, 1) := by decide +kernel
theorem dX7_init_0 : decode cX7_init 0 = .ok (.aload_n 0, 1) := by decide +kernel
theorem dX7_init_1 : decode cX7_init 1 = .ok (.invokespecial 3, 3) := by decide +kernel
theorem dX7_init_4 : decode cX7_init 4 = .ok (.aload_n 0, 1) := by decide +kernel
theorem dX7_init_5 : decode cX7_init 5 = .ok (.bipush 6, 2) := by decide +kernel
theorem dX7_init_7 : decode cX7_init 7 = .ok (.newarray .int, 2) := by decide +kernel
theorem dX7_init_9 : decode cX7_init 9 = .ok (.putfield 11, 3) := by decide +kernel
theorem dX7_init_12 : decode cX7_init 12 = .ok (.aload_n 0, 1) := by decide +kernel
theorem dX7_init_13 : decode cX7_init 13 = .ok (.bipush 6, 2) := by decide +kernel
theorem dX7_init_15 : decode cX7_init 15 = .ok (.newarray .long, 2) := by decide +kernel
theorem dX7_init_17 : decode cX7_init 17 = .ok (.putfield 15, 3) := by decide +kernel
theorem dX7_init_20 : decode cX7_init 20 = .ok (.aload_n 0, 1) := by decide +kernel
theorem dX7_init_21 : decode cX7_init 21 = .ok (.bipush 6, 2) := by decide +kernel
theorem dX7_init_23 : decode cX7_init 23 = .ok (.newarray .long, 2) := by decide +kernel
theorem dX7_init_25 : decode cX7_init 25 = .ok (.putfield 19, 3) := by decide +kernel
theorem dX7_init_28 : decode cX7_init 28 = .ok (.return_, 1) := by decide +kernel
theorem dX7_isKind_0 : decode cX7_isKind 0 = .ok (.iload_n 0, 1) := by decide +kernel
theorem dX7_isKind_1 : decode cX7_isKind 1 = .ok (.iconst 0, 1) := by decide +kernel
theorem dX7_isKind_2 : decode cX7_isKind 2 = .ok (.iconst 5, 1) := by decide +kernel
theorem dX7_isKind_3 : decode cX7_isKind 3 = .ok (.invokestatic 22, 3) := by decide +kernel
theorem dX7_isKind_6 : decode cX7_isKind 6 = .ok (.ireturn, 1) := by decide +kernel
theorem dX7_firstClash_0 : decode cX7_firstClash 0 = .ok (.iconst (-1), 1) := by decide +kernel
theorem dX7_firstClash_1 : decode cX7_firstClash 1 = .ok (.istore_n 2, 1) := by decide +kernel
theorem dX7_firstClash_2 : decode cX7_firstClash 2 = .ok (.aload_n 1, 1) := by decide +kernel
theorem dX7_firstClash_3 : decode cX7_firstClash 3 = .ok (.invokevirtual 26, 3) := by decide +kernel
theorem dX7_firstClash_6 : decode cX7_firstClash 6 = .ok (.istore_n 3, 1) := by decide +kernel
theorem dX7_firstClash_7 : decode cX7_firstClash 7 = .ok (.aload_n 0, 1) := by decide +kernel
theorem dX7_firstClash_8 : decode cX7_firstClash 8 = .ok (.invokevirtual 32, 3) := by decide +kernel
theorem dX7_firstClash_11 : decode cX7_firstClash 11 = .ok (.iconst 0, 1) := by decide +kernel
theorem dX7_firstClash_12 : decode cX7_firstClash 12 = .ok (.istore 4, 2) := by decide +kernel
theorem dX7_firstClash_14 : decode cX7_firstClash 14 = .ok (.iload 4, 2) := by decide +kernel
theorem dX7_firstClash_16 : decode cX7_firstClash 16 = .ok (.iload_n 3, 1) := by decide +kernel
theorem dX7_firstClash_17 : decode cX7_firstClash 17 = .ok (.if_icmp .ge 27, 3) := by decide +kernel
theorem dX7_firstClash_20 : decode cX7_firstClash 20 = .ok (.aload_n 0, 1) := by decide +kernel
theorem dX7_firstClash_21 : decode cX7_firstClash 21 = .ok (.aload_n 1, 1) := by decide +kernel
theorem dX7_firstClash_22 : decode cX7_firstClash 22 = .ok (.iload 4, 2) := by decide +kernel
theorem dX7_firstClash_24 : decode cX7_firstClash 24 = .ok (.invokevirtual 35, 3) := by decide +kernel
theorem dX7_firstClash_27 : decode cX7_firstClash 27 = .ok (.ifCond .ne 11, 3) := by decide +kernel
theorem dX7_firstClash_30 : decode cX7_firstClash 30 = .ok (.iload_n 2, 1) := by decide +kernel
theorem dX7_firstClash_31 : decode cX7_firstClash 31 = .ok (.iconst (-1), 1) := by decide +kernel
theorem dX7_firstClash_32 : decode cX7_firstClash 32 = .ok (.if_icmp .ne 6, 3) := by decide +kernel
theorem dX7_firstClash_35 : decode cX7_firstClash 35 = .ok (.iload 4, 2) := by decide +kernel
theorem dX7_firstClash_37 : decode cX7_firstClash 37 = .ok (.istore_n 2, 1) := by decide +kernel
theorem dX7_firstClash_38 : decode cX7_firstClash 38 = .ok (.iinc 4 1, 3) := by decide +kernel
theorem dX7_firstClash_41 : decode cX7_firstClash 41 = .ok (.goto (-27), 3) := by decide +kernel
theorem dX7_firstClash_44 : decode cX7_firstClash 44 = .ok (.iload_n 2, 1) := by decide +kernel
theorem dX7_firstClash_45 : decode cX7_firstClash 45 = .ok (.ireturn, 1) := by decide +kernel
theorem dX7_fewestDropped_0 : decode cX7_fewestDropped 0 = .ok (.aload_n 1, 1) := by decide +kernel
theorem dX7_fewestDropped_1 : decode cX7_fewestDropped 1 = .ok (.invokevirtual 26, 3) := by decide +kernel
theorem dX7_fewestDropped_4 : decode cX7_fewestDropped 4 = .ok (.istore_n 2, 1) := by decide +kernel
theorem dX7_fewestDropped_5 : decode cX7_fewestDropped 5 = .ok (.iconst 1, 1) := by decide +kernel
theorem dX7_fewestDropped_6 : decode cX7_fewestDropped 6 = .ok (.iload_n 2, 1) := by decide +kernel
theorem dX7_fewestDropped_7 : decode cX7_fewestDropped 7 = .ok (.ishl, 1) := by decide +kernel
theorem dX7_fewestDropped_8 : decode cX7_fewestDropped 8 = .ok (.iconst 1, 1) := by decide +kernel
theorem dX7_fewestDropped_9 : decode cX7_fewestDropped 9 = .ok (.isub, 1) := by decide +kernel
theorem dX7_fewestDropped_10 : decode cX7_fewestDropped 10 = .ok (.istore_n 3, 1) := by decide +kernel
theorem dX7_fewestDropped_11 : decode cX7_fewestDropped 11 = .ok (.iconst 0, 1) := by decide +kernel
theorem dX7_fewestDropped_12 : decode cX7_fewestDropped 12 = .ok (.istore 4, 2) := by decide +kernel
theorem dX7_fewestDropped_14 : decode cX7_fewestDropped 14 = .ok (.iload 4, 2) := by decide +kernel
theorem dX7_fewestDropped_16 : decode cX7_fewestDropped 16 = .ok (.iconst 1, 1) := by decide +kernel
theorem dX7_fewestDropped_17 : decode cX7_fewestDropped 17 = .ok (.iload_n 2, 1) := by decide +kernel
theorem dX7_fewestDropped_18 : decode cX7_fewestDropped 18 = .ok (.ishl, 1) := by decide +kernel
theorem dX7_fewestDropped_19 : decode cX7_fewestDropped 19 = .ok (.if_icmp .ge 38, 3) := by decide +kernel
theorem dX7_fewestDropped_22 : decode cX7_fewestDropped 22 = .ok (.iload 4, 2) := by decide +kernel
theorem dX7_fewestDropped_24 : decode cX7_fewestDropped 24 = .ok (.invokestatic 39, 3) := by decide +kernel
theorem dX7_fewestDropped_27 : decode cX7_fewestDropped 27 = .ok (.iload_n 3, 1) := by decide +kernel
theorem dX7_fewestDropped_28 : decode cX7_fewestDropped 28 = .ok (.invokestatic 39, 3) := by decide +kernel
theorem dX7_fewestDropped_31 : decode cX7_fewestDropped 31 = .ok (.if_icmp .lt 6, 3) := by decide +kernel
theorem dX7_fewestDropped_34 : decode cX7_fewestDropped 34 = .ok (.goto 17, 3) := by decide +kernel
theorem dX7_fewestDropped_37 : decode cX7_fewestDropped 37 = .ok (.aload_n 0, 1) := by decide +kernel
theorem dX7_fewestDropped_38 : decode cX7_fewestDropped 38 = .ok (.aload_n 1, 1) := by decide +kernel
theorem dX7_fewestDropped_39 : decode cX7_fewestDropped 39 = .ok (.iload_n 2, 1) := by decide +kernel
theorem dX7_fewestDropped_40 : decode cX7_fewestDropped 40 = .ok (.iload 4, 2) := by decide +kernel
theorem dX7_fewestDropped_42 : decode cX7_fewestDropped 42 = .ok (.invokevirtual 45, 3) := by decide +kernel
theorem dX7_fewestDropped_45 : decode cX7_fewestDropped 45 = .ok (.ifCond .eq 6, 3) := by decide +kernel
theorem dX7_fewestDropped_48 : decode cX7_fewestDropped 48 = .ok (.iload 4, 2) := by decide +kernel
theorem dX7_fewestDropped_50 : decode cX7_fewestDropped 50 = .ok (.istore_n 3, 1) := by decide +kernel
theorem dX7_fewestDropped_51 : decode cX7_fewestDropped 51 = .ok (.iinc 4 1, 3) := by decide +kernel
theorem dX7_fewestDropped_54 : decode cX7_fewestDropped 54 = .ok (.goto (-40), 3) := by decide +kernel
theorem dX7_fewestDropped_57 : decode cX7_fewestDropped 57 = .ok (.iload_n 3, 1) := by decide +kernel
theorem dX7_fewestDropped_58 : decode cX7_fewestDropped 58 = .ok (.ireturn, 1) := by decide +kernel
theorem dX7_agreesWithout_0 : decode cX7_agreesWithout 0 = .ok (.aload_n 0, 1) := by decide +kernel
theorem dX7_agreesWithout_1 : decode cX7_agreesWithout 1 = .ok (.invokevirtual 32, 3) := by decide +kernel
theorem dX7_agreesWithout_4 : decode cX7_agreesWithout 4 = .ok (.iconst 0, 1) := by decide +kernel
theorem dX7_agreesWithout_5 : decode cX7_agreesWithout 5 = .ok (.istore 4, 2) := by decide +kernel
theorem dX7_agreesWithout_7 : decode cX7_agreesWithout 7 = .ok (.iload 4, 2) := by decide +kernel
theorem dX7_agreesWithout_9 : decode cX7_agreesWithout 9 = .ok (.iload_n 2, 1) := by decide +kernel
theorem dX7_agreesWithout_10 : decode cX7_agreesWithout 10 = .ok (.if_icmp .ge 30, 3) := by decide +kernel
theorem dX7_agreesWithout_13 : decode cX7_agreesWithout 13 = .ok (.iload_n 3, 1) := by decide +kernel
theorem dX7_agreesWithout_14 : decode cX7_agreesWithout 14 = .ok (.iload 4, 2) := by decide +kernel
theorem dX7_agreesWithout_16 : decode cX7_agreesWithout 16 = .ok (.ishr, 1) := by decide +kernel
theorem dX7_agreesWithout_17 : decode cX7_agreesWithout 17 = .ok (.iconst 1, 1) := by decide +kernel
theorem dX7_agreesWithout_18 : decode cX7_agreesWithout 18 = .ok (.iand, 1) := by decide +kernel
theorem dX7_agreesWithout_19 : decode cX7_agreesWithout 19 = .ok (.ifCond .ne 15, 3) := by decide +kernel
theorem dX7_agreesWithout_22 : decode cX7_agreesWithout 22 = .ok (.aload_n 0, 1) := by decide +kernel
theorem dX7_agreesWithout_23 : decode cX7_agreesWithout 23 = .ok (.aload_n 1, 1) := by decide +kernel
theorem dX7_agreesWithout_24 : decode cX7_agreesWithout 24 = .ok (.iload 4, 2) := by decide +kernel
theorem dX7_agreesWithout_26 : decode cX7_agreesWithout 26 = .ok (.invokevirtual 35, 3) := by decide +kernel
theorem dX7_agreesWithout_29 : decode cX7_agreesWithout 29 = .ok (.ifCond .ne 5, 3) := by decide +kernel
theorem dX7_agreesWithout_32 : decode cX7_agreesWithout 32 = .ok (.iconst 0, 1) := by decide +kernel
theorem dX7_agreesWithout_33 : decode cX7_agreesWithout 33 = .ok (.ireturn, 1) := by decide +kernel
theorem dX7_agreesWithout_34 : decode cX7_agreesWithout 34 = .ok (.iinc 4 1, 3) := by decide +kernel
theorem dX7_agreesWithout_37 : decode cX7_agreesWithout 37 = .ok (.goto (-30), 3) := by decide +kernel
theorem dX7_agreesWithout_40 : decode cX7_agreesWithout 40 = .ok (.iconst 1, 1) := by decide +kernel
theorem dX7_agreesWithout_41 : decode cX7_agreesWithout 41 = .ok (.ireturn, 1) := by decide +kernel
theorem dX7_startAnew_0 : decode cX7_startAnew 0 = .ok (.iconst 0, 1) := by decide +kernel
theorem dX7_startAnew_1 : decode cX7_startAnew 1 = .ok (.istore_n 1, 1) := by decide +kernel
theorem dX7_startAnew_2 : decode cX7_startAnew 2 = .ok (.iload_n 1, 1) := by decide +kernel
theorem dX7_startAnew_3 : decode cX7_startAnew 3 = .ok (.bipush 6, 2) := by decide +kernel
theorem dX7_startAnew_5 : decode cX7_startAnew 5 = .ok (.if_icmp .ge 30, 3) := by decide +kernel
theorem dX7_startAnew_8 : decode cX7_startAnew 8 = .ok (.aload_n 0, 1) := by decide +kernel
theorem dX7_startAnew_9 : decode cX7_startAnew 9 = .ok (.getfield 11, 3) := by decide +kernel
theorem dX7_startAnew_12 : decode cX7_startAnew 12 = .ok (.iload_n 1, 1) := by decide +kernel
theorem dX7_startAnew_13 : decode cX7_startAnew 13 = .ok (.iload_n 1, 1) := by decide +kernel
theorem dX7_startAnew_14 : decode cX7_startAnew 14 = .ok (.iastore, 1) := by decide +kernel
theorem dX7_startAnew_15 : decode cX7_startAnew 15 = .ok (.aload_n 0, 1) := by decide +kernel
theorem dX7_startAnew_16 : decode cX7_startAnew 16 = .ok (.getfield 15, 3) := by decide +kernel
theorem dX7_startAnew_19 : decode cX7_startAnew 19 = .ok (.iload_n 1, 1) := by decide +kernel
theorem dX7_startAnew_20 : decode cX7_startAnew 20 = .ok (.lconst 1, 1) := by decide +kernel
theorem dX7_startAnew_21 : decode cX7_startAnew 21 = .ok (.lastore, 1) := by decide +kernel
theorem dX7_startAnew_22 : decode cX7_startAnew 22 = .ok (.aload_n 0, 1) := by decide +kernel
theorem dX7_startAnew_23 : decode cX7_startAnew 23 = .ok (.getfield 19, 3) := by decide +kernel
theorem dX7_startAnew_26 : decode cX7_startAnew 26 = .ok (.iload_n 1, 1) := by decide +kernel
theorem dX7_startAnew_27 : decode cX7_startAnew 27 = .ok (.lconst 1, 1) := by decide +kernel
theorem dX7_startAnew_28 : decode cX7_startAnew 28 = .ok (.lastore, 1) := by decide +kernel
theorem dX7_startAnew_29 : decode cX7_startAnew 29 = .ok (.iinc 1 1, 3) := by decide +kernel
theorem dX7_startAnew_32 : decode cX7_startAnew 32 = .ok (.goto (-30), 3) := by decide +kernel
theorem dX7_startAnew_35 : decode cX7_startAnew 35 = .ok (.return_, 1) := by decide +kernel
theorem dX7_takes_0 : decode cX7_takes 0 = .ok (.aload_n 1, 1) := by decide +kernel
theorem dX7_takes_1 : decode cX7_takes 1 = .ok (.iload_n 2, 1) := by decide +kernel
theorem dX7_takes_2 : decode cX7_takes 2 = .ok (.iconst 0, 1) := by decide +kernel
theorem dX7_takes_3 : decode cX7_takes 3 = .ok (.invokevirtual 49, 3) := by decide +kernel
theorem dX7_takes_6 : decode cX7_takes 6 = .ok (.bipush 97, 2) := by decide +kernel
theorem dX7_takes_8 : decode cX7_takes 8 = .ok (.isub, 1) := by decide +kernel
theorem dX7_takes_9 : decode cX7_takes 9 = .ok (.istore_n 3, 1) := by decide +kernel
theorem dX7_takes_10 : decode cX7_takes 10 = .ok (.aload_n 1, 1) := by decide +kernel
theorem dX7_takes_11 : decode cX7_takes 11 = .ok (.iload_n 2, 1) := by decide +kernel
theorem dX7_takes_12 : decode cX7_takes 12 = .ok (.iconst 1, 1) := by decide +kernel
theorem dX7_takes_13 : decode cX7_takes 13 = .ok (.invokevirtual 49, 3) := by decide +kernel
theorem dX7_takes_16 : decode cX7_takes 16 = .ok (.bipush 97, 2) := by decide +kernel
theorem dX7_takes_18 : decode cX7_takes 18 = .ok (.isub, 1) := by decide +kernel
theorem dX7_takes_19 : decode cX7_takes 19 = .ok (.istore 4, 2) := by decide +kernel
theorem dX7_takes_21 : decode cX7_takes 21 = .ok (.aload_n 1, 1) := by decide +kernel
theorem dX7_takes_22 : decode cX7_takes 22 = .ok (.iload_n 2, 1) := by decide +kernel
theorem dX7_takes_23 : decode cX7_takes 23 = .ok (.iconst 2, 1) := by decide +kernel
theorem dX7_takes_24 : decode cX7_takes 24 = .ok (.invokevirtual 49, 3) := by decide +kernel
theorem dX7_takes_27 : decode cX7_takes 27 = .ok (.bipush 48, 2) := by decide +kernel
theorem dX7_takes_29 : decode cX7_takes 29 = .ok (.isub, 1) := by decide +kernel
theorem dX7_takes_30 : decode cX7_takes 30 = .ok (.i2l, 1) := by decide +kernel
theorem dX7_takes_31 : decode cX7_takes 31 = .ok (.lstore 5, 2) := by decide +kernel
theorem dX7_takes_33 : decode cX7_takes 33 = .ok (.aload_n 0, 1) := by decide +kernel
theorem dX7_takes_34 : decode cX7_takes 34 = .ok (.iload_n 3, 1) := by decide +kernel
theorem dX7_takes_35 : decode cX7_takes 35 = .ok (.iload 4, 2) := by decide +kernel
theorem dX7_takes_37 : decode cX7_takes 37 = .ok (.invokevirtual 53, 3) := by decide +kernel
theorem dX7_takes_40 : decode cX7_takes 40 = .ok (.ifCond .eq 44, 3) := by decide +kernel
theorem dX7_takes_43 : decode cX7_takes 43 = .ok (.aload_n 0, 1) := by decide +kernel
theorem dX7_takes_44 : decode cX7_takes 44 = .ok (.getfield 15, 3) := by decide +kernel
theorem dX7_takes_47 : decode cX7_takes 47 = .ok (.iload_n 3, 1) := by decide +kernel
theorem dX7_takes_48 : decode cX7_takes 48 = .ok (.laload, 1) := by decide +kernel
theorem dX7_takes_49 : decode cX7_takes 49 = .ok (.aload_n 0, 1) := by decide +kernel
theorem dX7_takes_50 : decode cX7_takes 50 = .ok (.getfield 19, 3) := by decide +kernel
theorem dX7_takes_53 : decode cX7_takes 53 = .ok (.iload 4, 2) := by decide +kernel
theorem dX7_takes_55 : decode cX7_takes 55 = .ok (.laload, 1) := by decide +kernel
theorem dX7_takes_56 : decode cX7_takes 56 = .ok (.lmul, 1) := by decide +kernel
theorem dX7_takes_57 : decode cX7_takes 57 = .ok (.lload 5, 2) := by decide +kernel
theorem dX7_takes_59 : decode cX7_takes 59 = .ok (.aload_n 0, 1) := by decide +kernel
theorem dX7_takes_60 : decode cX7_takes 60 = .ok (.getfield 15, 3) := by decide +kernel
theorem dX7_takes_63 : decode cX7_takes 63 = .ok (.iload 4, 2) := by decide +kernel
theorem dX7_takes_65 : decode cX7_takes 65 = .ok (.laload, 1) := by decide +kernel
theorem dX7_takes_66 : decode cX7_takes 66 = .ok (.lmul, 1) := by decide +kernel
theorem dX7_takes_67 : decode cX7_takes 67 = .ok (.aload_n 0, 1) := by decide +kernel
theorem dX7_takes_68 : decode cX7_takes 68 = .ok (.getfield 19, 3) := by decide +kernel
theorem dX7_takes_71 : decode cX7_takes 71 = .ok (.iload_n 3, 1) := by decide +kernel
theorem dX7_takes_72 : decode cX7_takes 72 = .ok (.laload, 1) := by decide +kernel
theorem dX7_takes_73 : decode cX7_takes 73 = .ok (.lmul, 1) := by decide +kernel
theorem dX7_takes_74 : decode cX7_takes 74 = .ok (.lcmp, 1) := by decide +kernel
theorem dX7_takes_75 : decode cX7_takes 75 = .ok (.ifCond .ne 7, 3) := by decide +kernel
theorem dX7_takes_78 : decode cX7_takes 78 = .ok (.iconst 1, 1) := by decide +kernel
theorem dX7_takes_79 : decode cX7_takes 79 = .ok (.goto 4, 3) := by decide +kernel
theorem dX7_takes_82 : decode cX7_takes 82 = .ok (.iconst 0, 1) := by decide +kernel
theorem dX7_takes_83 : decode cX7_takes 83 = .ok (.ireturn, 1) := by decide +kernel
theorem dX7_takes_84 : decode cX7_takes 84 = .ok (.aload_n 0, 1) := by decide +kernel
theorem dX7_takes_85 : decode cX7_takes 85 = .ok (.iload_n 3, 1) := by decide +kernel
theorem dX7_takes_86 : decode cX7_takes 86 = .ok (.iload 4, 2) := by decide +kernel
theorem dX7_takes_88 : decode cX7_takes 88 = .ok (.lload 5, 2) := by decide +kernel
theorem dX7_takes_90 : decode cX7_takes 90 = .ok (.invokevirtual 57, 3) := by decide +kernel
theorem dX7_takes_93 : decode cX7_takes 93 = .ok (.iconst 1, 1) := by decide +kernel
theorem dX7_takes_94 : decode cX7_takes 94 = .ok (.ireturn, 1) := by decide +kernel
theorem dX7_join_0 : decode cX7_join 0 = .ok (.aload_n 0, 1) := by decide +kernel
theorem dX7_join_1 : decode cX7_join 1 = .ok (.getfield 11, 3) := by decide +kernel
theorem dX7_join_4 : decode cX7_join 4 = .ok (.iload_n 1, 1) := by decide +kernel
theorem dX7_join_5 : decode cX7_join 5 = .ok (.iaload, 1) := by decide +kernel
theorem dX7_join_6 : decode cX7_join 6 = .ok (.istore 5, 2) := by decide +kernel
theorem dX7_join_8 : decode cX7_join 8 = .ok (.lload_n 3, 1) := by decide +kernel
theorem dX7_join_9 : decode cX7_join 9 = .ok (.aload_n 0, 1) := by decide +kernel
theorem dX7_join_10 : decode cX7_join 10 = .ok (.getfield 15, 3) := by decide +kernel
theorem dX7_join_13 : decode cX7_join 13 = .ok (.iload_n 2, 1) := by decide +kernel
theorem dX7_join_14 : decode cX7_join 14 = .ok (.laload, 1) := by decide +kernel
theorem dX7_join_15 : decode cX7_join 15 = .ok (.lmul, 1) := by decide +kernel
theorem dX7_join_16 : decode cX7_join 16 = .ok (.aload_n 0, 1) := by decide +kernel
theorem dX7_join_17 : decode cX7_join 17 = .ok (.getfield 19, 3) := by decide +kernel
theorem dX7_join_20 : decode cX7_join 20 = .ok (.iload_n 1, 1) := by decide +kernel
theorem dX7_join_21 : decode cX7_join 21 = .ok (.laload, 1) := by decide +kernel
theorem dX7_join_22 : decode cX7_join 22 = .ok (.lmul, 1) := by decide +kernel
theorem dX7_join_23 : decode cX7_join 23 = .ok (.lstore 6, 2) := by decide +kernel
theorem dX7_join_25 : decode cX7_join 25 = .ok (.aload_n 0, 1) := by decide +kernel
theorem dX7_join_26 : decode cX7_join 26 = .ok (.getfield 19, 3) := by decide +kernel
theorem dX7_join_29 : decode cX7_join 29 = .ok (.iload_n 2, 1) := by decide +kernel
theorem dX7_join_30 : decode cX7_join 30 = .ok (.laload, 1) := by decide +kernel
theorem dX7_join_31 : decode cX7_join 31 = .ok (.aload_n 0, 1) := by decide +kernel
theorem dX7_join_32 : decode cX7_join 32 = .ok (.getfield 15, 3) := by decide +kernel
theorem dX7_join_35 : decode cX7_join 35 = .ok (.iload_n 1, 1) := by decide +kernel
theorem dX7_join_36 : decode cX7_join 36 = .ok (.laload, 1) := by decide +kernel
theorem dX7_join_37 : decode cX7_join 37 = .ok (.lmul, 1) := by decide +kernel
theorem dX7_join_38 : decode cX7_join 38 = .ok (.lstore 8, 2) := by decide +kernel
theorem dX7_join_40 : decode cX7_join 40 = .ok (.iconst 0, 1) := by decide +kernel
theorem dX7_join_41 : decode cX7_join 41 = .ok (.istore 10, 2) := by decide +kernel
theorem dX7_join_43 : decode cX7_join 43 = .ok (.iload 10, 2) := by decide +kernel
theorem dX7_join_45 : decode cX7_join 45 = .ok (.bipush 6, 2) := by decide +kernel
theorem dX7_join_47 : decode cX7_join 47 = .ok (.if_icmp .ge 94, 3) := by decide +kernel
theorem dX7_join_50 : decode cX7_join 50 = .ok (.aload_n 0, 1) := by decide +kernel
theorem dX7_join_51 : decode cX7_join 51 = .ok (.getfield 11, 3) := by decide +kernel
theorem dX7_join_54 : decode cX7_join 54 = .ok (.iload 10, 2) := by decide +kernel
theorem dX7_join_56 : decode cX7_join 56 = .ok (.iaload, 1) := by decide +kernel
theorem dX7_join_57 : decode cX7_join 57 = .ok (.iload 5, 2) := by decide +kernel
theorem dX7_join_59 : decode cX7_join 59 = .ok (.if_icmp .eq 6, 3) := by decide +kernel
theorem dX7_join_62 : decode cX7_join 62 = .ok (.goto 73, 3) := by decide +kernel
theorem dX7_join_65 : decode cX7_join 65 = .ok (.aload_n 0, 1) := by decide +kernel
theorem dX7_join_66 : decode cX7_join 66 = .ok (.getfield 11, 3) := by decide +kernel
theorem dX7_join_69 : decode cX7_join 69 = .ok (.iload 10, 2) := by decide +kernel
theorem dX7_join_71 : decode cX7_join 71 = .ok (.aload_n 0, 1) := by decide +kernel
theorem dX7_join_72 : decode cX7_join 72 = .ok (.getfield 11, 3) := by decide +kernel
theorem dX7_join_75 : decode cX7_join 75 = .ok (.iload_n 2, 1) := by decide +kernel
theorem dX7_join_76 : decode cX7_join 76 = .ok (.iaload, 1) := by decide +kernel
theorem dX7_join_77 : decode cX7_join 77 = .ok (.iastore, 1) := by decide +kernel
theorem dX7_join_78 : decode cX7_join 78 = .ok (.aload_n 0, 1) := by decide +kernel
theorem dX7_join_79 : decode cX7_join 79 = .ok (.getfield 15, 3) := by decide +kernel
theorem dX7_join_82 : decode cX7_join 82 = .ok (.iload 10, 2) := by decide +kernel
theorem dX7_join_84 : decode cX7_join 84 = .ok (.laload, 1) := by decide +kernel
theorem dX7_join_85 : decode cX7_join 85 = .ok (.lload 6, 2) := by decide +kernel
theorem dX7_join_87 : decode cX7_join 87 = .ok (.lmul, 1) := by decide +kernel
theorem dX7_join_88 : decode cX7_join 88 = .ok (.lstore 11, 2) := by decide +kernel
theorem dX7_join_90 : decode cX7_join 90 = .ok (.aload_n 0, 1) := by decide +kernel
theorem dX7_join_91 : decode cX7_join 91 = .ok (.getfield 19, 3) := by decide +kernel
theorem dX7_join_94 : decode cX7_join 94 = .ok (.iload 10, 2) := by decide +kernel
theorem dX7_join_96 : decode cX7_join 96 = .ok (.laload, 1) := by decide +kernel
theorem dX7_join_97 : decode cX7_join 97 = .ok (.lload 8, 2) := by decide +kernel
theorem dX7_join_99 : decode cX7_join 99 = .ok (.lmul, 1) := by decide +kernel
theorem dX7_join_100 : decode cX7_join 100 = .ok (.lstore 13, 2) := by decide +kernel
theorem dX7_join_102 : decode cX7_join 102 = .ok (.lload 11, 2) := by decide +kernel
theorem dX7_join_104 : decode cX7_join 104 = .ok (.lload 13, 2) := by decide +kernel
theorem dX7_join_106 : decode cX7_join 106 = .ok (.invokestatic 61, 3) := by decide +kernel
theorem dX7_join_109 : decode cX7_join 109 = .ok (.lstore 15, 2) := by decide +kernel
theorem dX7_join_111 : decode cX7_join 111 = .ok (.aload_n 0, 1) := by decide +kernel
theorem dX7_join_112 : decode cX7_join 112 = .ok (.getfield 15, 3) := by decide +kernel
theorem dX7_join_115 : decode cX7_join 115 = .ok (.iload 10, 2) := by decide +kernel
theorem dX7_join_117 : decode cX7_join 117 = .ok (.lload 11, 2) := by decide +kernel
theorem dX7_join_119 : decode cX7_join 119 = .ok (.lload 15, 2) := by decide +kernel
theorem dX7_join_121 : decode cX7_join 121 = .ok (.ldiv, 1) := by decide +kernel
theorem dX7_join_122 : decode cX7_join 122 = .ok (.lastore, 1) := by decide +kernel
theorem dX7_join_123 : decode cX7_join 123 = .ok (.aload_n 0, 1) := by decide +kernel
theorem dX7_join_124 : decode cX7_join 124 = .ok (.getfield 19, 3) := by decide +kernel
theorem dX7_join_127 : decode cX7_join 127 = .ok (.iload 10, 2) := by decide +kernel
theorem dX7_join_129 : decode cX7_join 129 = .ok (.lload 13, 2) := by decide +kernel
theorem dX7_join_131 : decode cX7_join 131 = .ok (.lload 15, 2) := by decide +kernel
theorem dX7_join_133 : decode cX7_join 133 = .ok (.ldiv, 1) := by decide +kernel
theorem dX7_join_134 : decode cX7_join 134 = .ok (.lastore, 1) := by decide +kernel
theorem dX7_join_135 : decode cX7_join 135 = .ok (.iinc 10 1, 3) := by decide +kernel
theorem dX7_join_138 : decode cX7_join 138 = .ok (.goto (-95), 3) := by decide +kernel
theorem dX7_join_141 : decode cX7_join 141 = .ok (.return_, 1) := by decide +kernel
theorem dX7_isTold_0 : decode cX7_isTold 0 = .ok (.aload_n 0, 1) := by decide +kernel
theorem dX7_isTold_1 : decode cX7_isTold 1 = .ok (.getfield 11, 3) := by decide +kernel
theorem dX7_isTold_4 : decode cX7_isTold 4 = .ok (.iload_n 1, 1) := by decide +kernel
theorem dX7_isTold_5 : decode cX7_isTold 5 = .ok (.iaload, 1) := by decide +kernel
theorem dX7_isTold_6 : decode cX7_isTold 6 = .ok (.aload_n 0, 1) := by decide +kernel
theorem dX7_isTold_7 : decode cX7_isTold 7 = .ok (.getfield 11, 3) := by decide +kernel
theorem dX7_isTold_10 : decode cX7_isTold 10 = .ok (.iload_n 2, 1) := by decide +kernel
theorem dX7_isTold_11 : decode cX7_isTold 11 = .ok (.iaload, 1) := by decide +kernel
theorem dX7_isTold_12 : decode cX7_isTold 12 = .ok (.if_icmp .ne 7, 3) := by decide +kernel
theorem dX7_isTold_15 : decode cX7_isTold 15 = .ok (.iconst 1, 1) := by decide +kernel
theorem dX7_isTold_16 : decode cX7_isTold 16 = .ok (.goto 4, 3) := by decide +kernel
theorem dX7_isTold_19 : decode cX7_isTold 19 = .ok (.iconst 0, 1) := by decide +kernel
theorem dX7_isTold_20 : decode cX7_isTold 20 = .ok (.ireturn, 1) := by decide +kernel
theorem dX7_aboveOf_0 : decode cX7_aboveOf 0 = .ok (.aload_n 0, 1) := by decide +kernel
theorem dX7_aboveOf_1 : decode cX7_aboveOf 1 = .ok (.getfield 15, 3) := by decide +kernel
theorem dX7_aboveOf_4 : decode cX7_aboveOf 4 = .ok (.iload_n 1, 1) := by decide +kernel
theorem dX7_aboveOf_5 : decode cX7_aboveOf 5 = .ok (.laload, 1) := by decide +kernel
theorem dX7_aboveOf_6 : decode cX7_aboveOf 6 = .ok (.aload_n 0, 1) := by decide +kernel
theorem dX7_aboveOf_7 : decode cX7_aboveOf 7 = .ok (.getfield 19, 3) := by decide +kernel
theorem dX7_aboveOf_10 : decode cX7_aboveOf 10 = .ok (.iload_n 2, 1) := by decide +kernel
theorem dX7_aboveOf_11 : decode cX7_aboveOf 11 = .ok (.laload, 1) := by decide +kernel
theorem dX7_aboveOf_12 : decode cX7_aboveOf 12 = .ok (.lmul, 1) := by decide +kernel
theorem dX7_aboveOf_13 : decode cX7_aboveOf 13 = .ok (.lstore_n 3, 1) := by decide +kernel
theorem dX7_aboveOf_14 : decode cX7_aboveOf 14 = .ok (.aload_n 0, 1) := by decide +kernel
theorem dX7_aboveOf_15 : decode cX7_aboveOf 15 = .ok (.getfield 19, 3) := by decide +kernel
theorem dX7_aboveOf_18 : decode cX7_aboveOf 18 = .ok (.iload_n 1, 1) := by decide +kernel
theorem dX7_aboveOf_19 : decode cX7_aboveOf 19 = .ok (.laload, 1) := by decide +kernel
theorem dX7_aboveOf_20 : decode cX7_aboveOf 20 = .ok (.aload_n 0, 1) := by decide +kernel
theorem dX7_aboveOf_21 : decode cX7_aboveOf 21 = .ok (.getfield 15, 3) := by decide +kernel
theorem dX7_aboveOf_24 : decode cX7_aboveOf 24 = .ok (.iload_n 2, 1) := by decide +kernel
theorem dX7_aboveOf_25 : decode cX7_aboveOf 25 = .ok (.laload, 1) := by decide +kernel
theorem dX7_aboveOf_26 : decode cX7_aboveOf 26 = .ok (.lmul, 1) := by decide +kernel
theorem dX7_aboveOf_27 : decode cX7_aboveOf 27 = .ok (.lstore 5, 2) := by decide +kernel
theorem dX7_aboveOf_29 : decode cX7_aboveOf 29 = .ok (.lload_n 3, 1) := by decide +kernel
theorem dX7_aboveOf_30 : decode cX7_aboveOf 30 = .ok (.lload_n 3, 1) := by decide +kernel
theorem dX7_aboveOf_31 : decode cX7_aboveOf 31 = .ok (.lload 5, 2) := by decide +kernel
theorem dX7_aboveOf_33 : decode cX7_aboveOf 33 = .ok (.invokestatic 61, 3) := by decide +kernel
theorem dX7_aboveOf_36 : decode cX7_aboveOf 36 = .ok (.ldiv, 1) := by decide +kernel
theorem dX7_aboveOf_37 : decode cX7_aboveOf 37 = .ok (.lreturn, 1) := by decide +kernel
theorem dJ6_bitCount_0f7a4_0 : decode cJ6_bitCount_0f7a4 0 = .ok (.iload_n 0, 1) := by decide +kernel
theorem dJ6_bitCount_0f7a4_1 : decode cJ6_bitCount_0f7a4 1 = .ok (.iload_n 0, 1) := by decide +kernel
theorem dJ6_bitCount_0f7a4_2 : decode cJ6_bitCount_0f7a4 2 = .ok (.iconst 1, 1) := by decide +kernel
theorem dJ6_bitCount_0f7a4_3 : decode cJ6_bitCount_0f7a4 3 = .ok (.iushr, 1) := by decide +kernel
theorem dJ6_bitCount_0f7a4_4 : decode cJ6_bitCount_0f7a4 4 = .ok (.ldc_w 265, 3) := by decide +kernel
theorem dJ6_bitCount_0f7a4_7 : decode cJ6_bitCount_0f7a4 7 = .ok (.iand, 1) := by decide +kernel
theorem dJ6_bitCount_0f7a4_8 : decode cJ6_bitCount_0f7a4 8 = .ok (.isub, 1) := by decide +kernel
theorem dJ6_bitCount_0f7a4_9 : decode cJ6_bitCount_0f7a4 9 = .ok (.istore_n 0, 1) := by decide +kernel
theorem dJ6_bitCount_0f7a4_10 : decode cJ6_bitCount_0f7a4 10 = .ok (.iload_n 0, 1) := by decide +kernel
theorem dJ6_bitCount_0f7a4_11 : decode cJ6_bitCount_0f7a4 11 = .ok (.ldc_w 266, 3) := by decide +kernel
theorem dJ6_bitCount_0f7a4_14 : decode cJ6_bitCount_0f7a4 14 = .ok (.iand, 1) := by decide +kernel
theorem dJ6_bitCount_0f7a4_15 : decode cJ6_bitCount_0f7a4 15 = .ok (.iload_n 0, 1) := by decide +kernel
theorem dJ6_bitCount_0f7a4_16 : decode cJ6_bitCount_0f7a4 16 = .ok (.iconst 2, 1) := by decide +kernel
theorem dJ6_bitCount_0f7a4_17 : decode cJ6_bitCount_0f7a4 17 = .ok (.iushr, 1) := by decide +kernel
theorem dJ6_bitCount_0f7a4_18 : decode cJ6_bitCount_0f7a4 18 = .ok (.ldc_w 266, 3) := by decide +kernel
theorem dJ6_bitCount_0f7a4_21 : decode cJ6_bitCount_0f7a4 21 = .ok (.iand, 1) := by decide +kernel
theorem dJ6_bitCount_0f7a4_22 : decode cJ6_bitCount_0f7a4 22 = .ok (.iadd, 1) := by decide +kernel
theorem dJ6_bitCount_0f7a4_23 : decode cJ6_bitCount_0f7a4 23 = .ok (.istore_n 0, 1) := by decide +kernel
theorem dJ6_bitCount_0f7a4_24 : decode cJ6_bitCount_0f7a4 24 = .ok (.iload_n 0, 1) := by decide +kernel
theorem dJ6_bitCount_0f7a4_25 : decode cJ6_bitCount_0f7a4 25 = .ok (.iload_n 0, 1) := by decide +kernel
theorem dJ6_bitCount_0f7a4_26 : decode cJ6_bitCount_0f7a4 26 = .ok (.iconst 4, 1) := by decide +kernel
theorem dJ6_bitCount_0f7a4_27 : decode cJ6_bitCount_0f7a4 27 = .ok (.iushr, 1) := by decide +kernel
theorem dJ6_bitCount_0f7a4_28 : decode cJ6_bitCount_0f7a4 28 = .ok (.iadd, 1) := by decide +kernel
theorem dJ6_bitCount_0f7a4_29 : decode cJ6_bitCount_0f7a4 29 = .ok (.ldc_w 267, 3) := by decide +kernel
theorem dJ6_bitCount_0f7a4_32 : decode cJ6_bitCount_0f7a4 32 = .ok (.iand, 1) := by decide +kernel
theorem dJ6_bitCount_0f7a4_33 : decode cJ6_bitCount_0f7a4 33 = .ok (.istore_n 0, 1) := by decide +kernel
theorem dJ6_bitCount_0f7a4_34 : decode cJ6_bitCount_0f7a4 34 = .ok (.iload_n 0, 1) := by decide +kernel
theorem dJ6_bitCount_0f7a4_35 : decode cJ6_bitCount_0f7a4 35 = .ok (.iload_n 0, 1) := by decide +kernel
theorem dJ6_bitCount_0f7a4_36 : decode cJ6_bitCount_0f7a4 36 = .ok (.bipush 8, 2) := by decide +kernel
theorem dJ6_bitCount_0f7a4_38 : decode cJ6_bitCount_0f7a4 38 = .ok (.iushr, 1) := by decide +kernel
theorem dJ6_bitCount_0f7a4_39 : decode cJ6_bitCount_0f7a4 39 = .ok (.iadd, 1) := by decide +kernel
theorem dJ6_bitCount_0f7a4_40 : decode cJ6_bitCount_0f7a4 40 = .ok (.istore_n 0, 1) := by decide +kernel
theorem dJ6_bitCount_0f7a4_41 : decode cJ6_bitCount_0f7a4 41 = .ok (.iload_n 0, 1) := by decide +kernel
theorem dJ6_bitCount_0f7a4_42 : decode cJ6_bitCount_0f7a4 42 = .ok (.iload_n 0, 1) := by decide +kernel
theorem dJ6_bitCount_0f7a4_43 : decode cJ6_bitCount_0f7a4 43 = .ok (.bipush 16, 2) := by decide +kernel
theorem dJ6_bitCount_0f7a4_45 : decode cJ6_bitCount_0f7a4 45 = .ok (.iushr, 1) := by decide +kernel
theorem dJ6_bitCount_0f7a4_46 : decode cJ6_bitCount_0f7a4 46 = .ok (.iadd, 1) := by decide +kernel
theorem dJ6_bitCount_0f7a4_47 : decode cJ6_bitCount_0f7a4 47 = .ok (.istore_n 0, 1) := by decide +kernel
theorem dJ6_bitCount_0f7a4_48 : decode cJ6_bitCount_0f7a4 48 = .ok (.iload_n 0, 1) := by decide +kernel
theorem dJ6_bitCount_0f7a4_49 : decode cJ6_bitCount_0f7a4 49 = .ok (.bipush 63, 2) := by decide +kernel
theorem dJ6_bitCount_0f7a4_51 : decode cJ6_bitCount_0f7a4 51 = .ok (.iand, 1) := by decide +kernel
theorem dJ6_bitCount_0f7a4_52 : decode cJ6_bitCount_0f7a4 52 = .ok (.ireturn, 1) := by decide +kernel
theorem dJ9_abs_0f7a4_0 : decode cJ9_abs_0f7a4 0 = .ok (.iload_n 0, 1) := by decide +kernel
theorem dJ9_abs_0f7a4_1 : decode cJ9_abs_0f7a4 1 = .ok (.ifCond .ge 8, 3) := by decide +kernel
theorem dJ9_abs_0f7a4_4 : decode cJ9_abs_0f7a4 4 = .ok (.iload_n 0, 1) := by decide +kernel
theorem dJ9_abs_0f7a4_5 : decode cJ9_abs_0f7a4 5 = .ok (.ineg, 1) := by decide +kernel
theorem dJ9_abs_0f7a4_6 : decode cJ9_abs_0f7a4 6 = .ok (.goto 4, 3) := by decide +kernel
theorem dJ9_abs_0f7a4_9 : decode cJ9_abs_0f7a4 9 = .ok (.iload_n 0, 1) := by decide +kernel
theorem dJ9_abs_0f7a4_10 : decode cJ9_abs_0f7a4 10 = .ok (.ireturn, 1) := by decide +kernel
theorem dJ9_min_7cf53_0 : decode cJ9_min_7cf53 0 = .ok (.iload_n 0, 1) := by decide +kernel
theorem dJ9_min_7cf53_1 : decode cJ9_min_7cf53 1 = .ok (.iload_n 1, 1) := by decide +kernel
theorem dJ9_min_7cf53_2 : decode cJ9_min_7cf53 2 = .ok (.if_icmp .gt 7, 3) := by decide +kernel
theorem dJ9_min_7cf53_5 : decode cJ9_min_7cf53 5 = .ok (.iload_n 0, 1) := by decide +kernel
theorem dJ9_min_7cf53_6 : decode cJ9_min_7cf53 6 = .ok (.goto 4, 3) := by decide +kernel
theorem dJ9_min_7cf53_9 : decode cJ9_min_7cf53 9 = .ok (.iload_n 1, 1) := by decide +kernel
theorem dJ9_min_7cf53_10 : decode cJ9_min_7cf53 10 = .ok (.ireturn, 1) := by decide +kernel
theorem dJ7_fill_53178_0 : decode cJ7_fill_53178 0 = .ok (.iconst 0, 1) := by decide +kernel
theorem dJ7_fill_53178_1 : decode cJ7_fill_53178 1 = .ok (.istore_n 2, 1) := by decide +kernel
theorem dJ7_fill_53178_2 : decode cJ7_fill_53178 2 = .ok (.aload_n 0, 1) := by decide +kernel
theorem dJ7_fill_53178_3 : decode cJ7_fill_53178 3 = .ok (.arraylength, 1) := by decide +kernel
theorem dJ7_fill_53178_4 : decode cJ7_fill_53178 4 = .ok (.istore_n 3, 1) := by decide +kernel
theorem dJ7_fill_53178_5 : decode cJ7_fill_53178 5 = .ok (.iload_n 2, 1) := by decide +kernel
theorem dJ7_fill_53178_6 : decode cJ7_fill_53178 6 = .ok (.iload_n 3, 1) := by decide +kernel
theorem dJ7_fill_53178_7 : decode cJ7_fill_53178 7 = .ok (.if_icmp .ge 13, 3) := by decide +kernel
theorem dJ7_fill_53178_10 : decode cJ7_fill_53178 10 = .ok (.aload_n 0, 1) := by decide +kernel
theorem dJ7_fill_53178_11 : decode cJ7_fill_53178 11 = .ok (.iload_n 2, 1) := by decide +kernel
theorem dJ7_fill_53178_12 : decode cJ7_fill_53178 12 = .ok (.iload_n 1, 1) := by decide +kernel
theorem dJ7_fill_53178_13 : decode cJ7_fill_53178 13 = .ok (.iastore, 1) := by decide +kernel
theorem dJ7_fill_53178_14 : decode cJ7_fill_53178 14 = .ok (.iinc 2 1, 3) := by decide +kernel
theorem dJ7_fill_53178_17 : decode cJ7_fill_53178 17 = .ok (.goto (-12), 3) := by decide +kernel
theorem dJ7_fill_53178_20 : decode cJ7_fill_53178 20 = .ok (.return_, 1) := by decide +kernel
