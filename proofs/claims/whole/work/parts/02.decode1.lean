theorem dX0_init_0 : decode cX0_init 0 = .ok (.aload_n 0, 1) := by decide +kernel
theorem dX0_init_1 : decode cX0_init 1 = .ok (.invokespecial 3, 3) := by decide +kernel
theorem dX0_init_4 : decode cX0_init 4 = .ok (.aload_n 0, 1) := by decide +kernel
theorem dX0_init_5 : decode cX0_init 5 = .ok (.new 9, 3) := by decide +kernel
theorem dX0_init_8 : decode cX0_init 8 = .ok (.dup, 1) := by decide +kernel
theorem dX0_init_9 : decode cX0_init 9 = .ok (.invokespecial 11, 3) := by decide +kernel
theorem dX0_init_12 : decode cX0_init 12 = .ok (.putfield 12, 3) := by decide +kernel
theorem dX0_init_15 : decode cX0_init 15 = .ok (.aload_n 0, 1) := by decide +kernel
theorem dX0_init_16 : decode cX0_init 16 = .ok (.bipush 12, 2) := by decide +kernel
theorem dX0_init_18 : decode cX0_init 18 = .ok (.newarray .int, 2) := by decide +kernel
theorem dX0_init_20 : decode cX0_init 20 = .ok (.putfield 18, 3) := by decide +kernel
theorem dX0_init_23 : decode cX0_init 23 = .ok (.aload_n 0, 1) := by decide +kernel
theorem dX0_init_24 : decode cX0_init 24 = .ok (.bipush 12, 2) := by decide +kernel
theorem dX0_init_26 : decode cX0_init 26 = .ok (.newarray .int, 2) := by decide +kernel
theorem dX0_init_28 : decode cX0_init 28 = .ok (.putfield 22, 3) := by decide +kernel
theorem dX0_init_31 : decode cX0_init 31 = .ok (.iconst 0, 1) := by decide +kernel
theorem dX0_init_32 : decode cX0_init 32 = .ok (.istore_n 1, 1) := by decide +kernel
theorem dX0_init_33 : decode cX0_init 33 = .ok (.iload_n 1, 1) := by decide +kernel
theorem dX0_init_34 : decode cX0_init 34 = .ok (.bipush 12, 2) := by decide +kernel
theorem dX0_init_36 : decode cX0_init 36 = .ok (.if_icmp .ge 23, 3) := by decide +kernel
theorem dX0_init_39 : decode cX0_init 39 = .ok (.aload_n 0, 1) := by decide +kernel
theorem dX0_init_40 : decode cX0_init 40 = .ok (.getfield 18, 3) := by decide +kernel
theorem dX0_init_43 : decode cX0_init 43 = .ok (.iload_n 1, 1) := by decide +kernel
theorem dX0_init_44 : decode cX0_init 44 = .ok (.iload_n 1, 1) := by decide +kernel
theorem dX0_init_45 : decode cX0_init 45 = .ok (.iastore, 1) := by decide +kernel
theorem dX0_init_46 : decode cX0_init 46 = .ok (.aload_n 0, 1) := by decide +kernel
theorem dX0_init_47 : decode cX0_init 47 = .ok (.getfield 22, 3) := by decide +kernel
theorem dX0_init_50 : decode cX0_init 50 = .ok (.iload_n 1, 1) := by decide +kernel
theorem dX0_init_51 : decode cX0_init 51 = .ok (.iconst (-1), 1) := by decide +kernel
theorem dX0_init_52 : decode cX0_init 52 = .ok (.iastore, 1) := by decide +kernel
theorem dX0_init_53 : decode cX0_init 53 = .ok (.iinc 1 1, 3) := by decide +kernel
theorem dX0_init_56 : decode cX0_init 56 = .ok (.goto (-23), 3) := by decide +kernel
theorem dX0_init_59 : decode cX0_init 59 = .ok (.return_, 1) := by decide +kernel
theorem dX0_leaderOf_0 : decode cX0_leaderOf 0 = .ok (.iload_n 1, 1) := by decide +kernel
theorem dX0_leaderOf_1 : decode cX0_leaderOf 1 = .ok (.ifCond .lt 23, 3) := by decide +kernel
theorem dX0_leaderOf_4 : decode cX0_leaderOf 4 = .ok (.iload_n 1, 1) := by decide +kernel
theorem dX0_leaderOf_5 : decode cX0_leaderOf 5 = .ok (.aload_n 0, 1) := by decide +kernel
theorem dX0_leaderOf_6 : decode cX0_leaderOf 6 = .ok (.getfield 12, 3) := by decide +kernel
theorem dX0_leaderOf_9 : decode cX0_leaderOf 9 = .ok (.getfield 25, 3) := by decide +kernel
theorem dX0_leaderOf_12 : decode cX0_leaderOf 12 = .ok (.if_icmp .ge 12, 3) := by decide +kernel
theorem dX0_leaderOf_15 : decode cX0_leaderOf 15 = .ok (.aload_n 0, 1) := by decide +kernel
theorem dX0_leaderOf_16 : decode cX0_leaderOf 16 = .ok (.getfield 18, 3) := by decide +kernel
theorem dX0_leaderOf_19 : decode cX0_leaderOf 19 = .ok (.iload_n 1, 1) := by decide +kernel
theorem dX0_leaderOf_20 : decode cX0_leaderOf 20 = .ok (.iaload, 1) := by decide +kernel
theorem dX0_leaderOf_21 : decode cX0_leaderOf 21 = .ok (.goto 4, 3) := by decide +kernel
theorem dX0_leaderOf_24 : decode cX0_leaderOf 24 = .ok (.iconst (-1), 1) := by decide +kernel
theorem dX0_leaderOf_25 : decode cX0_leaderOf 25 = .ok (.ireturn, 1) := by decide +kernel
theorem dX0_leads_0 : decode cX0_leads 0 = .ok (.iload_n 1, 1) := by decide +kernel
theorem dX0_leads_1 : decode cX0_leads 1 = .ok (.ifCond .lt 16, 3) := by decide +kernel
theorem dX0_leads_4 : decode cX0_leads 4 = .ok (.aload_n 0, 1) := by decide +kernel
theorem dX0_leads_5 : decode cX0_leads 5 = .ok (.iload_n 1, 1) := by decide +kernel
theorem dX0_leads_6 : decode cX0_leads 6 = .ok (.invokevirtual 29, 3) := by decide +kernel
theorem dX0_leads_9 : decode cX0_leads 9 = .ok (.iload_n 1, 1) := by decide +kernel
theorem dX0_leads_10 : decode cX0_leads 10 = .ok (.if_icmp .ne 7, 3) := by decide +kernel
theorem dX0_leads_13 : decode cX0_leads 13 = .ok (.iconst 1, 1) := by decide +kernel
theorem dX0_leads_14 : decode cX0_leads 14 = .ok (.goto 4, 3) := by decide +kernel
theorem dX0_leads_17 : decode cX0_leads 17 = .ok (.iconst 0, 1) := by decide +kernel
theorem dX0_leads_18 : decode cX0_leads 18 = .ok (.ireturn, 1) := by decide +kernel
theorem dX0_unite_0 : decode cX0_unite 0 = .ok (.iload_n 1, 1) := by decide +kernel
theorem dX0_unite_1 : decode cX0_unite 1 = .ok (.iload_n 2, 1) := by decide +kernel
theorem dX0_unite_2 : decode cX0_unite 2 = .ok (.invokestatic 33, 3) := by decide +kernel
theorem dX0_unite_5 : decode cX0_unite 5 = .ok (.istore_n 3, 1) := by decide +kernel
theorem dX0_unite_6 : decode cX0_unite 6 = .ok (.iload_n 1, 1) := by decide +kernel
theorem dX0_unite_7 : decode cX0_unite 7 = .ok (.iload_n 2, 1) := by decide +kernel
theorem dX0_unite_8 : decode cX0_unite 8 = .ok (.invokestatic 39, 3) := by decide +kernel
theorem dX0_unite_11 : decode cX0_unite 11 = .ok (.istore 4, 2) := by decide +kernel
theorem dX0_unite_13 : decode cX0_unite 13 = .ok (.iconst 0, 1) := by decide +kernel
theorem dX0_unite_14 : decode cX0_unite 14 = .ok (.istore 5, 2) := by decide +kernel
theorem dX0_unite_16 : decode cX0_unite 16 = .ok (.iload 5, 2) := by decide +kernel
theorem dX0_unite_18 : decode cX0_unite 18 = .ok (.aload_n 0, 1) := by decide +kernel
theorem dX0_unite_19 : decode cX0_unite 19 = .ok (.getfield 12, 3) := by decide +kernel
theorem dX0_unite_22 : decode cX0_unite 22 = .ok (.getfield 25, 3) := by decide +kernel
theorem dX0_unite_25 : decode cX0_unite 25 = .ok (.if_icmp .ge 29, 3) := by decide +kernel
theorem dX0_unite_28 : decode cX0_unite 28 = .ok (.aload_n 0, 1) := by decide +kernel
theorem dX0_unite_29 : decode cX0_unite 29 = .ok (.getfield 18, 3) := by decide +kernel
theorem dX0_unite_32 : decode cX0_unite 32 = .ok (.iload 5, 2) := by decide +kernel
theorem dX0_unite_34 : decode cX0_unite 34 = .ok (.iaload, 1) := by decide +kernel
theorem dX0_unite_35 : decode cX0_unite 35 = .ok (.iload 4, 2) := by decide +kernel
theorem dX0_unite_37 : decode cX0_unite 37 = .ok (.if_icmp .ne 11, 3) := by decide +kernel
theorem dX0_unite_40 : decode cX0_unite 40 = .ok (.aload_n 0, 1) := by decide +kernel
theorem dX0_unite_41 : decode cX0_unite 41 = .ok (.getfield 18, 3) := by decide +kernel
theorem dX0_unite_44 : decode cX0_unite 44 = .ok (.iload 5, 2) := by decide +kernel
theorem dX0_unite_46 : decode cX0_unite 46 = .ok (.iload_n 3, 1) := by decide +kernel
theorem dX0_unite_47 : decode cX0_unite 47 = .ok (.iastore, 1) := by decide +kernel
theorem dX0_unite_48 : decode cX0_unite 48 = .ok (.iinc 5 1, 3) := by decide +kernel
theorem dX0_unite_51 : decode cX0_unite 51 = .ok (.goto (-35), 3) := by decide +kernel
theorem dX0_unite_54 : decode cX0_unite 54 = .ok (.return_, 1) := by decide +kernel
theorem dX0_gather_0 : decode cX0_gather 0 = .ok (.aload_n 2, 1) := by decide +kernel
theorem dX0_gather_1 : decode cX0_gather 1 = .ok (.invokevirtual 42, 3) := by decide +kernel
theorem dX0_gather_4 : decode cX0_gather 4 = .ok (.iconst 0, 1) := by decide +kernel
theorem dX0_gather_5 : decode cX0_gather 5 = .ok (.istore_n 3, 1) := by decide +kernel
theorem dX0_gather_6 : decode cX0_gather 6 = .ok (.iload_n 3, 1) := by decide +kernel
theorem dX0_gather_7 : decode cX0_gather 7 = .ok (.aload_n 0, 1) := by decide +kernel
theorem dX0_gather_8 : decode cX0_gather 8 = .ok (.getfield 12, 3) := by decide +kernel
theorem dX0_gather_11 : decode cX0_gather 11 = .ok (.getfield 25, 3) := by decide +kernel
theorem dX0_gather_14 : decode cX0_gather 14 = .ok (.if_icmp .ge 32, 3) := by decide +kernel
theorem dX0_gather_17 : decode cX0_gather 17 = .ok (.aload_n 0, 1) := by decide +kernel
theorem dX0_gather_18 : decode cX0_gather 18 = .ok (.getfield 18, 3) := by decide +kernel
theorem dX0_gather_21 : decode cX0_gather 21 = .ok (.iload_n 3, 1) := by decide +kernel
theorem dX0_gather_22 : decode cX0_gather 22 = .ok (.iaload, 1) := by decide +kernel
theorem dX0_gather_23 : decode cX0_gather 23 = .ok (.iload_n 1, 1) := by decide +kernel
theorem dX0_gather_24 : decode cX0_gather 24 = .ok (.if_icmp .ne 16, 3) := by decide +kernel
theorem dX0_gather_27 : decode cX0_gather 27 = .ok (.aload_n 2, 1) := by decide +kernel
theorem dX0_gather_28 : decode cX0_gather 28 = .ok (.aload_n 0, 1) := by decide +kernel
theorem dX0_gather_29 : decode cX0_gather 29 = .ok (.getfield 12, 3) := by decide +kernel
theorem dX0_gather_32 : decode cX0_gather 32 = .ok (.getfield 47, 3) := by decide +kernel
theorem dX0_gather_35 : decode cX0_gather 35 = .ok (.iload_n 3, 1) := by decide +kernel
theorem dX0_gather_36 : decode cX0_gather 36 = .ok (.aaload, 1) := by decide +kernel
theorem dX0_gather_37 : decode cX0_gather 37 = .ok (.invokevirtual 51, 3) := by decide +kernel
theorem dX0_gather_40 : decode cX0_gather 40 = .ok (.iinc 3 1, 3) := by decide +kernel
theorem dX0_gather_43 : decode cX0_gather 43 = .ok (.goto (-37), 3) := by decide +kernel
theorem dX0_gather_46 : decode cX0_gather 46 = .ok (.return_, 1) := by decide +kernel
theorem dX0_piecesBeside_0 : decode cX0_piecesBeside 0 = .ok (.iconst 0, 1) := by decide +kernel
theorem dX0_piecesBeside_1 : decode cX0_piecesBeside 1 = .ok (.istore_n 2, 1) := by decide +kernel
theorem dX0_piecesBeside_2 : decode cX0_piecesBeside 2 = .ok (.aload_n 0, 1) := by decide +kernel
theorem dX0_piecesBeside_3 : decode cX0_piecesBeside 3 = .ok (.iload_n 1, 1) := by decide +kernel
theorem dX0_piecesBeside_4 : decode cX0_piecesBeside 4 = .ok (.invokevirtual 29, 3) := by decide +kernel
theorem dX0_piecesBeside_7 : decode cX0_piecesBeside 7 = .ok (.istore_n 3, 1) := by decide +kernel
theorem dX0_piecesBeside_8 : decode cX0_piecesBeside 8 = .ok (.iconst 0, 1) := by decide +kernel
theorem dX0_piecesBeside_9 : decode cX0_piecesBeside 9 = .ok (.istore 4, 2) := by decide +kernel
theorem dX0_piecesBeside_11 : decode cX0_piecesBeside 11 = .ok (.iload 4, 2) := by decide +kernel
theorem dX0_piecesBeside_13 : decode cX0_piecesBeside 13 = .ok (.aload_n 0, 1) := by decide +kernel
theorem dX0_piecesBeside_14 : decode cX0_piecesBeside 14 = .ok (.getfield 12, 3) := by decide +kernel
theorem dX0_piecesBeside_17 : decode cX0_piecesBeside 17 = .ok (.getfield 25, 3) := by decide +kernel
theorem dX0_piecesBeside_20 : decode cX0_piecesBeside 20 = .ok (.if_icmp .ge 42, 3) := by decide +kernel
theorem dX0_piecesBeside_23 : decode cX0_piecesBeside 23 = .ok (.iload 4, 2) := by decide +kernel
theorem dX0_piecesBeside_25 : decode cX0_piecesBeside 25 = .ok (.iload_n 1, 1) := by decide +kernel
theorem dX0_piecesBeside_26 : decode cX0_piecesBeside 26 = .ok (.if_icmp .eq 30, 3) := by decide +kernel
theorem dX0_piecesBeside_29 : decode cX0_piecesBeside 29 = .ok (.aload_n 0, 1) := by decide +kernel
theorem dX0_piecesBeside_30 : decode cX0_piecesBeside 30 = .ok (.getfield 18, 3) := by decide +kernel
theorem dX0_piecesBeside_33 : decode cX0_piecesBeside 33 = .ok (.iload 4, 2) := by decide +kernel
theorem dX0_piecesBeside_35 : decode cX0_piecesBeside 35 = .ok (.iaload, 1) := by decide +kernel
theorem dX0_piecesBeside_36 : decode cX0_piecesBeside 36 = .ok (.iload_n 3, 1) := by decide +kernel
theorem dX0_piecesBeside_37 : decode cX0_piecesBeside 37 = .ok (.if_icmp .ne 19, 3) := by decide +kernel
theorem dX0_piecesBeside_40 : decode cX0_piecesBeside 40 = .ok (.iload_n 2, 1) := by decide +kernel
theorem dX0_piecesBeside_41 : decode cX0_piecesBeside 41 = .ok (.aload_n 0, 1) := by decide +kernel
theorem dX0_piecesBeside_42 : decode cX0_piecesBeside 42 = .ok (.getfield 12, 3) := by decide +kernel
theorem dX0_piecesBeside_45 : decode cX0_piecesBeside 45 = .ok (.getfield 47, 3) := by decide +kernel
theorem dX0_piecesBeside_48 : decode cX0_piecesBeside 48 = .ok (.iload 4, 2) := by decide +kernel
theorem dX0_piecesBeside_50 : decode cX0_piecesBeside 50 = .ok (.aaload, 1) := by decide +kernel
theorem dX0_piecesBeside_51 : decode cX0_piecesBeside 51 = .ok (.getfield 55, 3) := by decide +kernel
theorem dX0_piecesBeside_54 : decode cX0_piecesBeside 54 = .ok (.ior, 1) := by decide +kernel
theorem dX0_piecesBeside_55 : decode cX0_piecesBeside 55 = .ok (.istore_n 2, 1) := by decide +kernel
theorem dX0_piecesBeside_56 : decode cX0_piecesBeside 56 = .ok (.iinc 4 1, 3) := by decide +kernel
theorem dX0_piecesBeside_59 : decode cX0_piecesBeside 59 = .ok (.goto (-48), 3) := by decide +kernel
theorem dX0_piecesBeside_62 : decode cX0_piecesBeside 62 = .ok (.iload_n 2, 1) := by decide +kernel
theorem dX0_piecesBeside_63 : decode cX0_piecesBeside 63 = .ok (.ireturn, 1) := by decide +kernel
theorem dX0_sizeOf_0 : decode cX0_sizeOf 0 = .ok (.iconst 0, 1) := by decide +kernel
theorem dX0_sizeOf_1 : decode cX0_sizeOf 1 = .ok (.istore_n 2, 1) := by decide +kernel
theorem dX0_sizeOf_2 : decode cX0_sizeOf 2 = .ok (.iconst 0, 1) := by decide +kernel
theorem dX0_sizeOf_3 : decode cX0_sizeOf 3 = .ok (.istore_n 3, 1) := by decide +kernel
theorem dX0_sizeOf_4 : decode cX0_sizeOf 4 = .ok (.iload_n 3, 1) := by decide +kernel
theorem dX0_sizeOf_5 : decode cX0_sizeOf 5 = .ok (.aload_n 0, 1) := by decide +kernel
theorem dX0_sizeOf_6 : decode cX0_sizeOf 6 = .ok (.getfield 12, 3) := by decide +kernel
theorem dX0_sizeOf_9 : decode cX0_sizeOf 9 = .ok (.getfield 25, 3) := by decide +kernel
theorem dX0_sizeOf_12 : decode cX0_sizeOf 12 = .ok (.if_icmp .ge 22, 3) := by decide +kernel
theorem dX0_sizeOf_15 : decode cX0_sizeOf 15 = .ok (.aload_n 0, 1) := by decide +kernel
theorem dX0_sizeOf_16 : decode cX0_sizeOf 16 = .ok (.getfield 18, 3) := by decide +kernel
theorem dX0_sizeOf_19 : decode cX0_sizeOf 19 = .ok (.iload_n 3, 1) := by decide +kernel
theorem dX0_sizeOf_20 : decode cX0_sizeOf 20 = .ok (.iaload, 1) := by decide +kernel
theorem dX0_sizeOf_21 : decode cX0_sizeOf 21 = .ok (.iload_n 1, 1) := by decide +kernel
theorem dX0_sizeOf_22 : decode cX0_sizeOf 22 = .ok (.if_icmp .ne 6, 3) := by decide +kernel
theorem dX0_sizeOf_25 : decode cX0_sizeOf 25 = .ok (.iinc 2 1, 3) := by decide +kernel
theorem dX0_sizeOf_28 : decode cX0_sizeOf 28 = .ok (.iinc 3 1, 3) := by decide +kernel
theorem dX0_sizeOf_31 : decode cX0_sizeOf 31 = .ok (.goto (-27), 3) := by decide +kernel
theorem dX0_sizeOf_34 : decode cX0_sizeOf 34 = .ok (.iload_n 2, 1) := by decide +kernel
theorem dX0_sizeOf_35 : decode cX0_sizeOf 35 = .ok (.ireturn, 1) := by decide +kernel
theorem dX0_howMany_0 : decode cX0_howMany 0 = .ok (.iconst 0, 1) := by decide +kernel
theorem dX0_howMany_1 : decode cX0_howMany 1 = .ok (.istore_n 1, 1) := by decide +kernel
theorem dX0_howMany_2 : decode cX0_howMany 2 = .ok (.iconst 0, 1) := by decide +kernel
theorem dX0_howMany_3 : decode cX0_howMany 3 = .ok (.istore_n 2, 1) := by decide +kernel
theorem dX0_howMany_4 : decode cX0_howMany 4 = .ok (.iload_n 2, 1) := by decide +kernel
theorem dX0_howMany_5 : decode cX0_howMany 5 = .ok (.aload_n 0, 1) := by decide +kernel
theorem dX0_howMany_6 : decode cX0_howMany 6 = .ok (.getfield 12, 3) := by decide +kernel
theorem dX0_howMany_9 : decode cX0_howMany 9 = .ok (.getfield 25, 3) := by decide +kernel
theorem dX0_howMany_12 : decode cX0_howMany 12 = .ok (.if_icmp .ge 20, 3) := by decide +kernel
theorem dX0_howMany_15 : decode cX0_howMany 15 = .ok (.aload_n 0, 1) := by decide +kernel
theorem dX0_howMany_16 : decode cX0_howMany 16 = .ok (.iload_n 2, 1) := by decide +kernel
theorem dX0_howMany_17 : decode cX0_howMany 17 = .ok (.invokevirtual 58, 3) := by decide +kernel
theorem dX0_howMany_20 : decode cX0_howMany 20 = .ok (.ifCond .eq 6, 3) := by decide +kernel
theorem dX0_howMany_23 : decode cX0_howMany 23 = .ok (.iinc 1 1, 3) := by decide +kernel
theorem dX0_howMany_26 : decode cX0_howMany 26 = .ok (.iinc 2 1, 3) := by decide +kernel
theorem dX0_howMany_29 : decode cX0_howMany 29 = .ok (.goto (-25), 3) := by decide +kernel
theorem dX0_howMany_32 : decode cX0_howMany 32 = .ok (.iload_n 1, 1) := by decide +kernel
theorem dX0_howMany_33 : decode cX0_howMany 33 = .ok (.ireturn, 1) := by decide +kernel
theorem dX0_howManyNamed_0 : decode cX0_howManyNamed 0 = .ok (.iconst 0, 1) := by decide +kernel
theorem dX0_howManyNamed_1 : decode cX0_howManyNamed 1 = .ok (.istore_n 1, 1) := by decide +kernel
theorem dX0_howManyNamed_2 : decode cX0_howManyNamed 2 = .ok (.iconst 0, 1) := by decide +kernel
theorem dX0_howManyNamed_3 : decode cX0_howManyNamed 3 = .ok (.istore_n 2, 1) := by decide +kernel
theorem dX0_howManyNamed_4 : decode cX0_howManyNamed 4 = .ok (.iload_n 2, 1) := by decide +kernel
theorem dX0_howManyNamed_5 : decode cX0_howManyNamed 5 = .ok (.bipush 12, 2) := by decide +kernel
theorem dX0_howManyNamed_7 : decode cX0_howManyNamed 7 = .ok (.if_icmp .ge 22, 3) := by decide +kernel
theorem dX0_howManyNamed_10 : decode cX0_howManyNamed 10 = .ok (.aload_n 0, 1) := by decide +kernel
theorem dX0_howManyNamed_11 : decode cX0_howManyNamed 11 = .ok (.getfield 22, 3) := by decide +kernel
theorem dX0_howManyNamed_14 : decode cX0_howManyNamed 14 = .ok (.iload_n 2, 1) := by decide +kernel
theorem dX0_howManyNamed_15 : decode cX0_howManyNamed 15 = .ok (.iaload, 1) := by decide +kernel
theorem dX0_howManyNamed_16 : decode cX0_howManyNamed 16 = .ok (.iconst (-1), 1) := by decide +kernel
theorem dX0_howManyNamed_17 : decode cX0_howManyNamed 17 = .ok (.if_icmp .eq 6, 3) := by decide +kernel
theorem dX0_howManyNamed_20 : decode cX0_howManyNamed 20 = .ok (.iinc 1 1, 3) := by decide +kernel
theorem dX0_howManyNamed_23 : decode cX0_howManyNamed 23 = .ok (.iinc 2 1, 3) := by decide +kernel
theorem dX0_howManyNamed_26 : decode cX0_howManyNamed 26 = .ok (.goto (-22), 3) := by decide +kernel
theorem dX0_howManyNamed_29 : decode cX0_howManyNamed 29 = .ok (.iload_n 1, 1) := by decide +kernel
theorem dX0_howManyNamed_30 : decode cX0_howManyNamed 30 = .ok (.ireturn, 1) := by decide +kernel
theorem dX0_hasGiven_0 : decode cX0_hasGiven 0 = .ok (.iconst 0, 1) := by decide +kernel
theorem dX0_hasGiven_1 : decode cX0_hasGiven 1 = .ok (.istore_n 2, 1) := by decide +kernel
theorem dX0_hasGiven_2 : decode cX0_hasGiven 2 = .ok (.iload_n 2, 1) := by decide +kernel
theorem dX0_hasGiven_3 : decode cX0_hasGiven 3 = .ok (.bipush 12, 2) := by decide +kernel
theorem dX0_hasGiven_5 : decode cX0_hasGiven 5 = .ok (.if_icmp .ge 21, 3) := by decide +kernel
theorem dX0_hasGiven_8 : decode cX0_hasGiven 8 = .ok (.aload_n 0, 1) := by decide +kernel
theorem dX0_hasGiven_9 : decode cX0_hasGiven 9 = .ok (.getfield 22, 3) := by decide +kernel
theorem dX0_hasGiven_12 : decode cX0_hasGiven 12 = .ok (.iload_n 2, 1) := by decide +kernel
theorem dX0_hasGiven_13 : decode cX0_hasGiven 13 = .ok (.iaload, 1) := by decide +kernel
theorem dX0_hasGiven_14 : decode cX0_hasGiven 14 = .ok (.iload_n 1, 1) := by decide +kernel
theorem dX0_hasGiven_15 : decode cX0_hasGiven 15 = .ok (.if_icmp .ne 5, 3) := by decide +kernel
theorem dX0_hasGiven_18 : decode cX0_hasGiven 18 = .ok (.iconst 1, 1) := by decide +kernel
theorem dX0_hasGiven_19 : decode cX0_hasGiven 19 = .ok (.ireturn, 1) := by decide +kernel
theorem dX0_hasGiven_20 : decode cX0_hasGiven 20 = .ok (.iinc 2 1, 3) := by decide +kernel
theorem dX0_hasGiven_23 : decode cX0_hasGiven 23 = .ok (.goto (-21), 3) := by decide +kernel
theorem dX0_hasGiven_26 : decode cX0_hasGiven 26 = .ok (.iconst 0, 1) := by decide +kernel
theorem dX0_hasGiven_27 : decode cX0_hasGiven 27 = .ok (.ireturn, 1) := by decide +kernel
theorem dX1_init_0 : decode cX1_init 0 = .ok (.aload_n 0, 1) := by decide +kernel
theorem dX1_init_1 : decode cX1_init 1 = .ok (.invokespecial 3, 3) := by decide +kernel
theorem dX1_init_4 : decode cX1_init 4 = .ok (.aload_n 0, 1) := by decide +kernel
theorem dX1_init_5 : decode cX1_init 5 = .ok (.bipush 120, 2) := by decide +kernel
theorem dX1_init_7 : decode cX1_init 7 = .ok (.putfield 9, 3) := by decide +kernel
theorem dX1_init_10 : decode cX1_init 10 = .ok (.aload_n 0, 1) := by decide +kernel
theorem dX1_init_11 : decode cX1_init 11 = .ok (.bipush 8, 2) := by decide +kernel
theorem dX1_init_13 : decode cX1_init 13 = .ok (.newarray .int, 2) := by decide +kernel
theorem dX1_init_15 : decode cX1_init 15 = .ok (.putfield 15, 3) := by decide +kernel
theorem dX1_init_18 : decode cX1_init 18 = .ok (.aload_n 0, 1) := by decide +kernel
theorem dX1_init_19 : decode cX1_init 19 = .ok (.iconst 4, 1) := by decide +kernel
theorem dX1_init_20 : decode cX1_init 20 = .ok (.newarray .int, 2) := by decide +kernel
theorem dX1_init_22 : decode cX1_init 22 = .ok (.putfield 19, 3) := by decide +kernel
theorem dX1_init_25 : decode cX1_init 25 = .ok (.aload_n 0, 1) := by decide +kernel
theorem dX1_init_26 : decode cX1_init 26 = .ok (.iconst 3, 1) := by decide +kernel
theorem dX1_init_27 : decode cX1_init 27 = .ok (.newarray .int, 2) := by decide +kernel
theorem dX1_init_29 : decode cX1_init 29 = .ok (.putfield 22, 3) := by decide +kernel
theorem dX1_init_32 : decode cX1_init 32 = .ok (.aload_n 0, 1) := by decide +kernel
theorem dX1_init_33 : decode cX1_init 33 = .ok (.iconst 3, 1) := by decide +kernel
theorem dX1_init_34 : decode cX1_init 34 = .ok (.newarray .int, 2) := by decide +kernel
theorem dX1_init_36 : decode cX1_init 36 = .ok (.putfield 25, 3) := by decide +kernel
theorem dX1_init_39 : decode cX1_init 39 = .ok (.return_, 1) := by decide +kernel
theorem dX1_forget_0 : decode cX1_forget 0 = .ok (.aload_n 0, 1) := by decide +kernel
theorem dX1_forget_1 : decode cX1_forget 1 = .ok (.iconst 0, 1) := by decide +kernel
theorem dX1_forget_2 : decode cX1_forget 2 = .ok (.putfield 28, 3) := by decide +kernel
theorem dX1_forget_5 : decode cX1_forget 5 = .ok (.aload_n 0, 1) := by decide +kernel
theorem dX1_forget_6 : decode cX1_forget 6 = .ok (.iconst 0, 1) := by decide +kernel
theorem dX1_forget_7 : decode cX1_forget 7 = .ok (.putfield 31, 3) := by decide +kernel
theorem dX1_forget_10 : decode cX1_forget 10 = .ok (.aload_n 0, 1) := by decide +kernel
theorem dX1_forget_11 : decode cX1_forget 11 = .ok (.bipush 120, 2) := by decide +kernel
theorem dX1_forget_13 : decode cX1_forget 13 = .ok (.putfield 9, 3) := by decide +kernel
theorem dX1_forget_16 : decode cX1_forget 16 = .ok (.aload_n 0, 1) := by decide +kernel
theorem dX1_forget_17 : decode cX1_forget 17 = .ok (.iconst 0, 1) := by decide +kernel
theorem dX1_forget_18 : decode cX1_forget 18 = .ok (.putfield 34, 3) := by decide +kernel
theorem dX1_forget_21 : decode cX1_forget 21 = .ok (.aload_n 0, 1) := by decide +kernel
theorem dX1_forget_22 : decode cX1_forget 22 = .ok (.getfield 15, 3) := by decide +kernel
theorem dX1_forget_25 : decode cX1_forget 25 = .ok (.invokestatic 37, 3) := by decide +kernel
theorem dX1_forget_28 : decode cX1_forget 28 = .ok (.aload_n 0, 1) := by decide +kernel
theorem dX1_forget_29 : decode cX1_forget 29 = .ok (.getfield 19, 3) := by decide +kernel
theorem dX1_forget_32 : decode cX1_forget 32 = .ok (.invokestatic 37, 3) := by decide +kernel
theorem dX1_forget_35 : decode cX1_forget 35 = .ok (.aload_n 0, 1) := by decide +kernel
theorem dX1_forget_36 : decode cX1_forget 36 = .ok (.getfield 22, 3) := by decide +kernel
theorem dX1_forget_39 : decode cX1_forget 39 = .ok (.invokestatic 37, 3) := by decide +kernel
theorem dX1_forget_42 : decode cX1_forget 42 = .ok (.return_, 1) := by decide +kernel
theorem dX1_learn_0 : decode cX1_learn 0 = .ok (.aload_n 0, 1) := by decide +kernel
theorem dX1_learn_1 : decode cX1_learn 1 = .ok (.getfield 28, 3) := by decide +kernel
theorem dX1_learn_4 : decode cX1_learn 4 = .ok (.ifCond .ne 11, 3) := by decide +kernel
theorem dX1_learn_7 : decode cX1_learn 7 = .ok (.aload_n 0, 1) := by decide +kernel
theorem dX1_learn_8 : decode cX1_learn 8 = .ok (.aload_n 1, 1) := by decide +kernel
theorem dX1_learn_9 : decode cX1_learn 9 = .ok (.getfield 28, 3) := by decide +kernel
theorem dX1_learn_12 : decode cX1_learn 12 = .ok (.putfield 28, 3) := by decide +kernel
theorem dX1_learn_15 : decode cX1_learn 15 = .ok (.aload_n 0, 1) := by decide +kernel
theorem dX1_learn_16 : decode cX1_learn 16 = .ok (.aload_n 0, 1) := by decide +kernel
theorem dX1_learn_17 : decode cX1_learn 17 = .ok (.getfield 31, 3) := by decide +kernel
theorem dX1_learn_20 : decode cX1_learn 20 = .ok (.aload_n 1, 1) := by decide +kernel
theorem dX1_learn_21 : decode cX1_learn 21 = .ok (.getfield 31, 3) := by decide +kernel
theorem dX1_learn_24 : decode cX1_learn 24 = .ok (.invokestatic 41, 3) := by decide +kernel
theorem dX1_learn_27 : decode cX1_learn 27 = .ok (.putfield 31, 3) := by decide +kernel
theorem dX1_learn_30 : decode cX1_learn 30 = .ok (.aload_n 0, 1) := by decide +kernel
theorem dX1_learn_31 : decode cX1_learn 31 = .ok (.aload_n 0, 1) := by decide +kernel
theorem dX1_learn_32 : decode cX1_learn 32 = .ok (.getfield 9, 3) := by decide +kernel
theorem dX1_learn_35 : decode cX1_learn 35 = .ok (.aload_n 1, 1) := by decide +kernel
theorem dX1_learn_36 : decode cX1_learn 36 = .ok (.getfield 9, 3) := by decide +kernel
theorem dX1_learn_39 : decode cX1_learn 39 = .ok (.invokestatic 47, 3) := by decide +kernel
theorem dX1_learn_42 : decode cX1_learn 42 = .ok (.putfield 9, 3) := by decide +kernel
theorem dX1_learn_45 : decode cX1_learn 45 = .ok (.aload_n 0, 1) := by decide +kernel
theorem dX1_learn_46 : decode cX1_learn 46 = .ok (.dup, 1) := by decide +kernel
theorem dX1_learn_47 : decode cX1_learn 47 = .ok (.getfield 34, 3) := by decide +kernel
theorem dX1_learn_50 : decode cX1_learn 50 = .ok (.aload_n 1, 1) := by decide +kernel
theorem dX1_learn_51 : decode cX1_learn 51 = .ok (.getfield 34, 3) := by decide +kernel
theorem dX1_learn_54 : decode cX1_learn 54 = .ok (.ior, 1) := by decide +kernel
theorem dX1_learn_55 : decode cX1_learn 55 = .ok (.putfield 34, 3) := by decide +kernel
theorem dX1_learn_58 : decode cX1_learn 58 = .ok (.aload_n 0, 1) := by decide +kernel
theorem dX1_learn_59 : decode cX1_learn 59 = .ok (.getfield 15, 3) := by decide +kernel
theorem dX1_learn_62 : decode cX1_learn 62 = .ok (.aload_n 1, 1) := by decide +kernel
theorem dX1_learn_63 : decode cX1_learn 63 = .ok (.getfield 15, 3) := by decide +kernel
theorem dX1_learn_66 : decode cX1_learn 66 = .ok (.invokestatic 50, 3) := by decide +kernel
theorem dX1_learn_69 : decode cX1_learn 69 = .ok (.aload_n 0, 1) := by decide +kernel
theorem dX1_learn_70 : decode cX1_learn 70 = .ok (.getfield 19, 3) := by decide +kernel
theorem dX1_learn_73 : decode cX1_learn 73 = .ok (.aload_n 1, 1) := by decide +kernel
theorem dX1_learn_74 : decode cX1_learn 74 = .ok (.getfield 19, 3) := by decide +kernel
theorem dX1_learn_77 : decode cX1_learn 77 = .ok (.invokestatic 50, 3) := by decide +kernel
theorem dX1_learn_80 : decode cX1_learn 80 = .ok (.aload_n 0, 1) := by decide +kernel
theorem dX1_learn_81 : decode cX1_learn 81 = .ok (.getfield 22, 3) := by decide +kernel
theorem dX1_learn_84 : decode cX1_learn 84 = .ok (.aload_n 1, 1) := by decide +kernel
theorem dX1_learn_85 : decode cX1_learn 85 = .ok (.getfield 22, 3) := by decide +kernel
theorem dX1_learn_88 : decode cX1_learn 88 = .ok (.invokestatic 50, 3) := by decide +kernel
theorem dX1_learn_91 : decode cX1_learn 91 = .ok (.return_, 1) := by decide +kernel
theorem dX1_answer_0 : decode cX1_answer 0 = .ok (.iload_n 1, 1) := by decide +kernel
theorem dX1_answer_1 : decode cX1_answer 1 = .ok (.bipush 10, 2) := by decide +kernel
theorem dX1_answer_3 : decode cX1_answer 3 = .ok (.bipush 17, 2) := by decide +kernel
theorem dX1_answer_5 : decode cX1_answer 5 = .ok (.invokestatic 54, 3) := by decide +kernel
theorem dX1_answer_8 : decode cX1_answer 8 = .ok (.ifCond .eq 13, 3) := by decide +kernel
theorem dX1_answer_11 : decode cX1_answer 11 = .ok (.aload_n 0, 1) := by decide +kernel
theorem dX1_answer_12 : decode cX1_answer 12 = .ok (.getfield 15, 3) := by decide +kernel
theorem dX1_answer_15 : decode cX1_answer 15 = .ok (.iload_n 1, 1) := by decide +kernel
theorem dX1_answer_16 : decode cX1_answer 16 = .ok (.bipush 10, 2) := by decide +kernel
theorem dX1_answer_18 : decode cX1_answer 18 = .ok (.isub, 1) := by decide +kernel
theorem dX1_answer_19 : decode cX1_answer 19 = .ok (.iaload, 1) := by decide +kernel
theorem dX1_answer_20 : decode cX1_answer 20 = .ok (.ireturn, 1) := by decide +kernel
theorem dX1_answer_21 : decode cX1_answer 21 = .ok (.iload_n 1, 1) := by decide +kernel
theorem dX1_answer_22 : decode cX1_answer 22 = .ok (.bipush 20, 2) := by decide +kernel
theorem dX1_answer_24 : decode cX1_answer 24 = .ok (.bipush 23, 2) := by decide +kernel
theorem dX1_answer_26 : decode cX1_answer 26 = .ok (.invokestatic 54, 3) := by decide +kernel
theorem dX1_answer_29 : decode cX1_answer 29 = .ok (.ifCond .eq 13, 3) := by decide +kernel
theorem dX1_answer_32 : decode cX1_answer 32 = .ok (.aload_n 0, 1) := by decide +kernel
theorem dX1_answer_33 : decode cX1_answer 33 = .ok (.getfield 19, 3) := by decide +kernel
theorem dX1_answer_36 : decode cX1_answer 36 = .ok (.iload_n 1, 1) := by decide +kernel
theorem dX1_answer_37 : decode cX1_answer 37 = .ok (.bipush 20, 2) := by decide +kernel
theorem dX1_answer_39 : decode cX1_answer 39 = .ok (.isub, 1) := by decide +kernel
theorem dX1_answer_40 : decode cX1_answer 40 = .ok (.iaload, 1) := by decide +kernel
theorem dX1_answer_41 : decode cX1_answer 41 = .ok (.ireturn, 1) := by decide +kernel
theorem dX1_answer_42 : decode cX1_answer 42 = .ok (.iload_n 1, 1) := by decide +kernel
theorem dX1_answer_43 : decode cX1_answer 43 = .ok (.bipush 30, 2) := by decide +kernel
theorem dX1_answer_45 : decode cX1_answer 45 = .ok (.bipush 32, 2) := by decide +kernel
theorem dX1_answer_47 : decode cX1_answer 47 = .ok (.invokestatic 54, 3) := by decide +kernel
theorem dX1_answer_50 : decode cX1_answer 50 = .ok (.ifCond .eq 13, 3) := by decide +kernel
theorem dX1_answer_53 : decode cX1_answer 53 = .ok (.aload_n 0, 1) := by decide +kernel
theorem dX1_answer_54 : decode cX1_answer 54 = .ok (.getfield 22, 3) := by decide +kernel
theorem dX1_answer_57 : decode cX1_answer 57 = .ok (.iload_n 1, 1) := by decide +kernel
theorem dX1_answer_58 : decode cX1_answer 58 = .ok (.bipush 30, 2) := by decide +kernel
theorem dX1_answer_60 : decode cX1_answer 60 = .ok (.isub, 1) := by decide +kernel
theorem dX1_answer_61 : decode cX1_answer 61 = .ok (.iaload, 1) := by decide +kernel
theorem dX1_answer_62 : decode cX1_answer 62 = .ok (.ireturn, 1) := by decide +kernel
theorem dX1_answer_63 : decode cX1_answer 63 = .ok (.iload_n 1, 1) := by decide +kernel
theorem dX1_answer_64 : decode cX1_answer 64 = .ok (.tableswitch 52 0 3 #[32, 37, 42, 47], 32) := by decide +kernel
theorem dX1_answer_96 : decode cX1_answer 96 = .ok (.aload_n 0, 1) := by decide +kernel
theorem dX1_answer_97 : decode cX1_answer 97 = .ok (.getfield 28, 3) := by decide +kernel
theorem dX1_answer_100 : decode cX1_answer 100 = .ok (.ireturn, 1) := by decide +kernel
theorem dX1_answer_101 : decode cX1_answer 101 = .ok (.aload_n 0, 1) := by decide +kernel
theorem dX1_answer_102 : decode cX1_answer 102 = .ok (.getfield 31, 3) := by decide +kernel
theorem dX1_answer_105 : decode cX1_answer 105 = .ok (.ireturn, 1) := by decide +kernel
theorem dX1_answer_106 : decode cX1_answer 106 = .ok (.aload_n 0, 1) := by decide +kernel
theorem dX1_answer_107 : decode cX1_answer 107 = .ok (.getfield 9, 3) := by decide +kernel
theorem dX1_answer_110 : decode cX1_answer 110 = .ok (.ireturn, 1) := by decide +kernel
theorem dX1_answer_111 : decode cX1_answer 111 = .ok (.aload_n 0, 1) := by decide +kernel
theorem dX1_answer_112 : decode cX1_answer 112 = .ok (.getfield 34, 3) := by decide +kernel
theorem dX1_answer_115 : decode cX1_answer 115 = .ok (.ireturn, 1) := by decide +kernel
theorem dX1_answer_116 : decode cX1_answer 116 = .ok (.iconst (-1), 1) := by decide +kernel
theorem dX1_answer_117 : decode cX1_answer 117 = .ok (.ireturn, 1) := by decide +kernel
theorem dX1_barFrom_0 : decode cX1_barFrom 0 = .ok (.aload_n 0, 1) := by decide +kernel
theorem dX1_barFrom_1 : decode cX1_barFrom 1 = .ok (.aload_n 1, 1) := by decide +kernel
theorem dX1_barFrom_2 : decode cX1_barFrom 2 = .ok (.invokevirtual 58, 3) := by decide +kernel
theorem dX1_barFrom_5 : decode cX1_barFrom 5 = .ok (.ifCond .eq 5, 3) := by decide +kernel
theorem dX1_barFrom_8 : decode cX1_barFrom 8 = .ok (.iconst 1, 1) := by decide +kernel
theorem dX1_barFrom_9 : decode cX1_barFrom 9 = .ok (.ireturn, 1) := by decide +kernel
theorem dX1_barFrom_10 : decode cX1_barFrom 10 = .ok (.aload_n 0, 1) := by decide +kernel
theorem dX1_barFrom_11 : decode cX1_barFrom 11 = .ok (.aload_n 1, 1) := by decide +kernel
theorem dX1_barFrom_12 : decode cX1_barFrom 12 = .ok (.invokevirtual 62, 3) := by decide +kernel
theorem dX1_barFrom_15 : decode cX1_barFrom 15 = .ok (.ifCond .ne 5, 3) := by decide +kernel
theorem dX1_barFrom_18 : decode cX1_barFrom 18 = .ok (.iconst 2, 1) := by decide +kernel
theorem dX1_barFrom_19 : decode cX1_barFrom 19 = .ok (.ireturn, 1) := by decide +kernel
theorem dX1_barFrom_20 : decode cX1_barFrom 20 = .ok (.aload_n 0, 1) := by decide +kernel
theorem dX1_barFrom_21 : decode cX1_barFrom 21 = .ok (.aload_n 1, 1) := by decide +kernel
theorem dX1_barFrom_22 : decode cX1_barFrom 22 = .ok (.invokevirtual 65, 3) := by decide +kernel
theorem dX1_barFrom_25 : decode cX1_barFrom 25 = .ok (.ifCond .eq 5, 3) := by decide +kernel
theorem dX1_barFrom_28 : decode cX1_barFrom 28 = .ok (.iconst 3, 1) := by decide +kernel
theorem dX1_barFrom_29 : decode cX1_barFrom 29 = .ok (.ireturn, 1) := by decide +kernel
theorem dX1_barFrom_30 : decode cX1_barFrom 30 = .ok (.aload_n 0, 1) := by decide +kernel
theorem dX1_barFrom_31 : decode cX1_barFrom 31 = .ok (.aload_n 1, 1) := by decide +kernel
theorem dX1_barFrom_32 : decode cX1_barFrom 32 = .ok (.invokevirtual 68, 3) := by decide +kernel
theorem dX1_barFrom_35 : decode cX1_barFrom 35 = .ok (.ifCond .eq 5, 3) := by decide +kernel
theorem dX1_barFrom_38 : decode cX1_barFrom 38 = .ok (.iconst 4, 1) := by decide +kernel
theorem dX1_barFrom_39 : decode cX1_barFrom 39 = .ok (.ireturn, 1) := by decide +kernel
theorem dX1_barFrom_40 : decode cX1_barFrom 40 = .ok (.aload_n 0, 1) := by decide +kernel
theorem dX1_barFrom_41 : decode cX1_barFrom 41 = .ok (.aload_n 1, 1) := by decide +kernel
theorem dX1_barFrom_42 : decode cX1_barFrom 42 = .ok (.invokevirtual 71, 3) := by decide +kernel
theorem dX1_barFrom_45 : decode cX1_barFrom 45 = .ok (.ifCond .eq 7, 3) := by decide +kernel
theorem dX1_barFrom_48 : decode cX1_barFrom 48 = .ok (.iconst 5, 1) := by decide +kernel
theorem dX1_barFrom_49 : decode cX1_barFrom 49 = .ok (.goto 4, 3) := by decide +kernel
theorem dX1_barFrom_52 : decode cX1_barFrom 52 = .ok (.iconst 0, 1) := by decide +kernel
theorem dX1_barFrom_53 : decode cX1_barFrom 53 = .ok (.ireturn, 1) := by decide +kernel
theorem dX1_sexUnlike_0 : decode cX1_sexUnlike 0 = .ok (.aload_n 0, 1) := by decide +kernel
theorem dX1_sexUnlike_1 : decode cX1_sexUnlike 1 = .ok (.getfield 28, 3) := by decide +kernel
theorem dX1_sexUnlike_4 : decode cX1_sexUnlike 4 = .ok (.ifCond .eq 25, 3) := by decide +kernel
theorem dX1_sexUnlike_7 : decode cX1_sexUnlike 7 = .ok (.aload_n 1, 1) := by decide +kernel
theorem dX1_sexUnlike_8 : decode cX1_sexUnlike 8 = .ok (.getfield 28, 3) := by decide +kernel
theorem dX1_sexUnlike_11 : decode cX1_sexUnlike 11 = .ok (.ifCond .eq 18, 3) := by decide +kernel
theorem dX1_sexUnlike_14 : decode cX1_sexUnlike 14 = .ok (.aload_n 0, 1) := by decide +kernel
theorem dX1_sexUnlike_15 : decode cX1_sexUnlike 15 = .ok (.getfield 28, 3) := by decide +kernel
theorem dX1_sexUnlike_18 : decode cX1_sexUnlike 18 = .ok (.aload_n 1, 1) := by decide +kernel
theorem dX1_sexUnlike_19 : decode cX1_sexUnlike 19 = .ok (.getfield 28, 3) := by decide +kernel
theorem dX1_sexUnlike_22 : decode cX1_sexUnlike 22 = .ok (.if_icmp .eq 7, 3) := by decide +kernel
theorem dX1_sexUnlike_25 : decode cX1_sexUnlike 25 = .ok (.iconst 1, 1) := by decide +kernel
theorem dX1_sexUnlike_26 : decode cX1_sexUnlike 26 = .ok (.goto 4, 3) := by decide +kernel
theorem dX1_sexUnlike_29 : decode cX1_sexUnlike 29 = .ok (.iconst 0, 1) := by decide +kernel
theorem dX1_sexUnlike_30 : decode cX1_sexUnlike 30 = .ok (.ireturn, 1) := by decide +kernel
theorem dX1_ageMeets_0 : decode cX1_ageMeets 0 = .ok (.aload_n 0, 1) := by decide +kernel
theorem dX1_ageMeets_1 : decode cX1_ageMeets 1 = .ok (.getfield 31, 3) := by decide +kernel
theorem dX1_ageMeets_4 : decode cX1_ageMeets 4 = .ok (.aload_n 1, 1) := by decide +kernel
theorem dX1_ageMeets_5 : decode cX1_ageMeets 5 = .ok (.getfield 31, 3) := by decide +kernel
theorem dX1_ageMeets_8 : decode cX1_ageMeets 8 = .ok (.invokestatic 41, 3) := by decide +kernel
theorem dX1_ageMeets_11 : decode cX1_ageMeets 11 = .ok (.aload_n 0, 1) := by decide +kernel
theorem dX1_ageMeets_12 : decode cX1_ageMeets 12 = .ok (.getfield 9, 3) := by decide +kernel
theorem dX1_ageMeets_15 : decode cX1_ageMeets 15 = .ok (.aload_n 1, 1) := by decide +kernel
theorem dX1_ageMeets_16 : decode cX1_ageMeets 16 = .ok (.getfield 9, 3) := by decide +kernel
theorem dX1_ageMeets_19 : decode cX1_ageMeets 19 = .ok (.invokestatic 47, 3) := by decide +kernel
theorem dX1_ageMeets_22 : decode cX1_ageMeets 22 = .ok (.if_icmp .gt 7, 3) := by decide +kernel
theorem dX1_ageMeets_25 : decode cX1_ageMeets 25 = .ok (.iconst 1, 1) := by decide +kernel
theorem dX1_ageMeets_26 : decode cX1_ageMeets 26 = .ok (.goto 4, 3) := by decide +kernel
theorem dX1_ageMeets_29 : decode cX1_ageMeets 29 = .ok (.iconst 0, 1) := by decide +kernel
theorem dX1_ageMeets_30 : decode cX1_ageMeets 30 = .ok (.ireturn, 1) := by decide +kernel
theorem dX1_sheetUnlike_0 : decode cX1_sheetUnlike 0 = .ok (.iconst 0, 1) := by decide +kernel
theorem dX1_sheetUnlike_1 : decode cX1_sheetUnlike 1 = .ok (.istore_n 2, 1) := by decide +kernel
theorem dX1_sheetUnlike_2 : decode cX1_sheetUnlike 2 = .ok (.iload_n 2, 1) := by decide +kernel
theorem dX1_sheetUnlike_3 : decode cX1_sheetUnlike 3 = .ok (.iconst 3, 1) := by decide +kernel
theorem dX1_sheetUnlike_4 : decode cX1_sheetUnlike 4 = .ok (.if_icmp .ge 41, 3) := by decide +kernel
theorem dX1_sheetUnlike_7 : decode cX1_sheetUnlike 7 = .ok (.aload_n 0, 1) := by decide +kernel
theorem dX1_sheetUnlike_8 : decode cX1_sheetUnlike 8 = .ok (.getfield 22, 3) := by decide +kernel
theorem dX1_sheetUnlike_11 : decode cX1_sheetUnlike 11 = .ok (.iload_n 2, 1) := by decide +kernel
theorem dX1_sheetUnlike_12 : decode cX1_sheetUnlike 12 = .ok (.iaload, 1) := by decide +kernel
theorem dX1_sheetUnlike_13 : decode cX1_sheetUnlike 13 = .ok (.istore_n 3, 1) := by decide +kernel
theorem dX1_sheetUnlike_14 : decode cX1_sheetUnlike 14 = .ok (.aload_n 1, 1) := by decide +kernel
theorem dX1_sheetUnlike_15 : decode cX1_sheetUnlike 15 = .ok (.getfield 22, 3) := by decide +kernel
theorem dX1_sheetUnlike_18 : decode cX1_sheetUnlike 18 = .ok (.iload_n 2, 1) := by decide +kernel
theorem dX1_sheetUnlike_19 : decode cX1_sheetUnlike 19 = .ok (.iaload, 1) := by decide +kernel
theorem dX1_sheetUnlike_20 : decode cX1_sheetUnlike 20 = .ok (.istore 4, 2) := by decide +kernel
theorem dX1_sheetUnlike_22 : decode cX1_sheetUnlike 22 = .ok (.iload_n 3, 1) := by decide +kernel
theorem dX1_sheetUnlike_23 : decode cX1_sheetUnlike 23 = .ok (.ifCond .eq 16, 3) := by decide +kernel
theorem dX1_sheetUnlike_26 : decode cX1_sheetUnlike 26 = .ok (.iload 4, 2) := by decide +kernel
theorem dX1_sheetUnlike_28 : decode cX1_sheetUnlike 28 = .ok (.ifCond .eq 11, 3) := by decide +kernel
theorem dX1_sheetUnlike_31 : decode cX1_sheetUnlike 31 = .ok (.iload_n 3, 1) := by decide +kernel
theorem dX1_sheetUnlike_32 : decode cX1_sheetUnlike 32 = .ok (.iload 4, 2) := by decide +kernel
theorem dX1_sheetUnlike_34 : decode cX1_sheetUnlike 34 = .ok (.if_icmp .eq 5, 3) := by decide +kernel
theorem dX1_sheetUnlike_37 : decode cX1_sheetUnlike 37 = .ok (.iconst 1, 1) := by decide +kernel
theorem dX1_sheetUnlike_38 : decode cX1_sheetUnlike 38 = .ok (.ireturn, 1) := by decide +kernel
theorem dX1_sheetUnlike_39 : decode cX1_sheetUnlike 39 = .ok (.iinc 2 1, 3) := by decide +kernel
theorem dX1_sheetUnlike_42 : decode cX1_sheetUnlike 42 = .ok (.goto (-40), 3) := by decide +kernel
theorem dX1_sheetUnlike_45 : decode cX1_sheetUnlike 45 = .ok (.iconst 0, 1) := by decide +kernel
theorem dX1_sheetUnlike_46 : decode cX1_sheetUnlike 46 = .ok (.ireturn, 1) := by decide +kernel
theorem dX1_toothCameBack_0 : decode cX1_toothCameBack 0 = .ok (.iconst 0, 1) := by decide +kernel
theorem dX1_toothCameBack_1 : decode cX1_toothCameBack 1 = .ok (.istore_n 2, 1) := by decide +kernel
theorem dX1_toothCameBack_2 : decode cX1_toothCameBack 2 = .ok (.iload_n 2, 1) := by decide +kernel
theorem dX1_toothCameBack_3 : decode cX1_toothCameBack 3 = .ok (.bipush 8, 2) := by decide +kernel
theorem dX1_toothCameBack_5 : decode cX1_toothCameBack 5 = .ok (.if_icmp .ge 35, 3) := by decide +kernel
theorem dX1_toothCameBack_8 : decode cX1_toothCameBack 8 = .ok (.aload_n 0, 1) := by decide +kernel
theorem dX1_toothCameBack_9 : decode cX1_toothCameBack 9 = .ok (.getfield 15, 3) := by decide +kernel
theorem dX1_toothCameBack_12 : decode cX1_toothCameBack 12 = .ok (.iload_n 2, 1) := by decide +kernel
theorem dX1_toothCameBack_13 : decode cX1_toothCameBack 13 = .ok (.iaload, 1) := by decide +kernel
theorem dX1_toothCameBack_14 : decode cX1_toothCameBack 14 = .ok (.ifCond .eq 20, 3) := by decide +kernel
theorem dX1_toothCameBack_17 : decode cX1_toothCameBack 17 = .ok (.aload_n 0, 1) := by decide +kernel
theorem dX1_toothCameBack_18 : decode cX1_toothCameBack 18 = .ok (.getfield 15, 3) := by decide +kernel
theorem dX1_toothCameBack_21 : decode cX1_toothCameBack 21 = .ok (.iload_n 2, 1) := by decide +kernel
theorem dX1_toothCameBack_22 : decode cX1_toothCameBack 22 = .ok (.iaload, 1) := by decide +kernel
theorem dX1_toothCameBack_23 : decode cX1_toothCameBack 23 = .ok (.aload_n 1, 1) := by decide +kernel
theorem dX1_toothCameBack_24 : decode cX1_toothCameBack 24 = .ok (.getfield 15, 3) := by decide +kernel
theorem dX1_toothCameBack_27 : decode cX1_toothCameBack 27 = .ok (.iload_n 2, 1) := by decide +kernel
theorem dX1_toothCameBack_28 : decode cX1_toothCameBack 28 = .ok (.iaload, 1) := by decide +kernel
theorem dX1_toothCameBack_29 : decode cX1_toothCameBack 29 = .ok (.if_icmp .ge 5, 3) := by decide +kernel
theorem dX1_toothCameBack_32 : decode cX1_toothCameBack 32 = .ok (.iconst 1, 1) := by decide +kernel
theorem dX1_toothCameBack_33 : decode cX1_toothCameBack 33 = .ok (.ireturn, 1) := by decide +kernel
theorem dX1_toothCameBack_34 : decode cX1_toothCameBack 34 = .ok (.iinc 2 1, 3) := by decide +kernel
theorem dX1_toothCameBack_37 : decode cX1_toothCameBack 37 = .ok (.goto (-35), 3) := by decide +kernel
theorem dX1_toothCameBack_40 : decode cX1_toothCameBack 40 = .ok (.iconst 0, 1) := by decide +kernel
theorem dX1_toothCameBack_41 : decode cX1_toothCameBack 41 = .ok (.ireturn, 1) := by decide +kernel
theorem dX1_strangeToParent_0 : decode cX1_strangeToParent 0 = .ok (.iconst 0, 1) := by decide +kernel
theorem dX1_strangeToParent_1 : decode cX1_strangeToParent 1 = .ok (.istore_n 2, 1) := by decide +kernel
theorem dX1_strangeToParent_2 : decode cX1_strangeToParent 2 = .ok (.iload_n 2, 1) := by decide +kernel
theorem dX1_strangeToParent_3 : decode cX1_strangeToParent 3 = .ok (.iconst 3, 1) := by decide +kernel
theorem dX1_strangeToParent_4 : decode cX1_strangeToParent 4 = .ok (.if_icmp .ge 59, 3) := by decide +kernel
theorem dX1_strangeToParent_7 : decode cX1_strangeToParent 7 = .ok (.aload_n 0, 1) := by decide +kernel
theorem dX1_strangeToParent_8 : decode cX1_strangeToParent 8 = .ok (.getfield 22, 3) := by decide +kernel
theorem dX1_strangeToParent_11 : decode cX1_strangeToParent 11 = .ok (.iload_n 2, 1) := by decide +kernel
theorem dX1_strangeToParent_12 : decode cX1_strangeToParent 12 = .ok (.iaload, 1) := by decide +kernel
theorem dX1_strangeToParent_13 : decode cX1_strangeToParent 13 = .ok (.istore_n 3, 1) := by decide +kernel
theorem dX1_strangeToParent_14 : decode cX1_strangeToParent 14 = .ok (.aload_n 1, 1) := by decide +kernel
theorem dX1_strangeToParent_15 : decode cX1_strangeToParent 15 = .ok (.getfield 25, 3) := by decide +kernel
theorem dX1_strangeToParent_18 : decode cX1_strangeToParent 18 = .ok (.iload_n 2, 1) := by decide +kernel
theorem dX1_strangeToParent_19 : decode cX1_strangeToParent 19 = .ok (.iaload, 1) := by decide +kernel
theorem dX1_strangeToParent_20 : decode cX1_strangeToParent 20 = .ok (.istore 4, 2) := by decide +kernel
theorem dX1_strangeToParent_22 : decode cX1_strangeToParent 22 = .ok (.iload_n 3, 1) := by decide +kernel
theorem dX1_strangeToParent_23 : decode cX1_strangeToParent 23 = .ok (.ifCond .eq 34, 3) := by decide +kernel
theorem dX1_strangeToParent_26 : decode cX1_strangeToParent 26 = .ok (.iload 4, 2) := by decide +kernel
theorem dX1_strangeToParent_28 : decode cX1_strangeToParent 28 = .ok (.ifCond .eq 29, 3) := by decide +kernel
theorem dX1_strangeToParent_31 : decode cX1_strangeToParent 31 = .ok (.iload 4, 2) := by decide +kernel
theorem dX1_strangeToParent_33 : decode cX1_strangeToParent 33 = .ok (.iload_n 3, 1) := by decide +kernel
theorem dX1_strangeToParent_34 : decode cX1_strangeToParent 34 = .ok (.bipush 10, 2) := by decide +kernel
theorem dX1_strangeToParent_36 : decode cX1_strangeToParent 36 = .ok (.idiv, 1) := by decide +kernel
theorem dX1_strangeToParent_37 : decode cX1_strangeToParent 37 = .ok (.invokestatic 74, 3) := by decide +kernel
theorem dX1_strangeToParent_40 : decode cX1_strangeToParent 40 = .ok (.ifCond .ne 17, 3) := by decide +kernel
theorem dX1_strangeToParent_43 : decode cX1_strangeToParent 43 = .ok (.iload 4, 2) := by decide +kernel
theorem dX1_strangeToParent_45 : decode cX1_strangeToParent 45 = .ok (.iload_n 3, 1) := by decide +kernel
theorem dX1_strangeToParent_46 : decode cX1_strangeToParent 46 = .ok (.bipush 10, 2) := by decide +kernel
theorem dX1_strangeToParent_48 : decode cX1_strangeToParent 48 = .ok (.irem, 1) := by decide +kernel
theorem dX1_strangeToParent_49 : decode cX1_strangeToParent 49 = .ok (.invokestatic 74, 3) := by decide +kernel
theorem dX1_strangeToParent_52 : decode cX1_strangeToParent 52 = .ok (.ifCond .ne 5, 3) := by decide +kernel
theorem dX1_strangeToParent_55 : decode cX1_strangeToParent 55 = .ok (.iconst 1, 1) := by decide +kernel
theorem dX1_strangeToParent_56 : decode cX1_strangeToParent 56 = .ok (.ireturn, 1) := by decide +kernel
theorem dX1_strangeToParent_57 : decode cX1_strangeToParent 57 = .ok (.iinc 2 1, 3) := by decide +kernel
theorem dX1_strangeToParent_60 : decode cX1_strangeToParent 60 = .ok (.goto (-58), 3) := by decide +kernel
theorem dX1_strangeToParent_63 : decode cX1_strangeToParent 63 = .ok (.iconst 0, 1) := by decide +kernel
theorem dX1_strangeToParent_64 : decode cX1_strangeToParent 64 = .ok (.ireturn, 1) := by decide +kernel
theorem dX1_has_0 : decode cX1_has 0 = .ok (.iload_n 0, 1) := by decide +kernel
theorem dX1_has_1 : decode cX1_has 1 = .ok (.bipush 10, 2) := by decide +kernel
theorem dX1_has_3 : decode cX1_has 3 = .ok (.idiv, 1) := by decide +kernel
theorem dX1_has_4 : decode cX1_has 4 = .ok (.iload_n 1, 1) := by decide +kernel
theorem dX1_has_5 : decode cX1_has 5 = .ok (.if_icmp .eq 11, 3) := by decide +kernel
theorem dX1_has_8 : decode cX1_has 8 = .ok (.iload_n 0, 1) := by decide +kernel
theorem dX1_has_9 : decode cX1_has 9 = .ok (.bipush 10, 2) := by decide +kernel
theorem dX1_has_11 : decode cX1_has 11 = .ok (.irem, 1) := by decide +kernel
theorem dX1_has_12 : decode cX1_has 12 = .ok (.iload_n 1, 1) := by decide +kernel
theorem dX1_has_13 : decode cX1_has 13 = .ok (.if_icmp .ne 7, 3) := by decide +kernel
theorem dX1_has_16 : decode cX1_has 16 = .ok (.iconst 1, 1) := by decide +kernel
theorem dX1_has_17 : decode cX1_has 17 = .ok (.goto 4, 3) := by decide +kernel
theorem dX1_has_20 : decode cX1_has 20 = .ok (.iconst 0, 1) := by decide +kernel
theorem dX1_has_21 : decode cX1_has 21 = .ok (.ireturn, 1) := by decide +kernel
theorem dX1_forgetRow_0 : decode cX1_forgetRow 0 = .ok (.iconst 0, 1) := by decide +kernel
theorem dX1_forgetRow_1 : decode cX1_forgetRow 1 = .ok (.istore_n 1, 1) := by decide +kernel
theorem dX1_forgetRow_2 : decode cX1_forgetRow 2 = .ok (.iload_n 1, 1) := by decide +kernel
theorem dX1_forgetRow_3 : decode cX1_forgetRow 3 = .ok (.aload_n 0, 1) := by decide +kernel
theorem dX1_forgetRow_4 : decode cX1_forgetRow 4 = .ok (.arraylength, 1) := by decide +kernel
theorem dX1_forgetRow_5 : decode cX1_forgetRow 5 = .ok (.if_icmp .ge 13, 3) := by decide +kernel
theorem dX1_forgetRow_8 : decode cX1_forgetRow 8 = .ok (.aload_n 0, 1) := by decide +kernel
theorem dX1_forgetRow_9 : decode cX1_forgetRow 9 = .ok (.iload_n 1, 1) := by decide +kernel
theorem dX1_forgetRow_10 : decode cX1_forgetRow 10 = .ok (.iconst 0, 1) := by decide +kernel
theorem dX1_forgetRow_11 : decode cX1_forgetRow 11 = .ok (.iastore, 1) := by decide +kernel
theorem dX1_forgetRow_12 : decode cX1_forgetRow 12 = .ok (.iinc 1 1, 3) := by decide +kernel
theorem dX1_forgetRow_15 : decode cX1_forgetRow 15 = .ok (.goto (-13), 3) := by decide +kernel
theorem dX1_forgetRow_18 : decode cX1_forgetRow 18 = .ok (.return_, 1) := by decide +kernel
theorem dX1_learnRow_0 : decode cX1_learnRow 0 = .ok (.iconst 0, 1) := by decide +kernel
theorem dX1_learnRow_1 : decode cX1_learnRow 1 = .ok (.istore_n 2, 1) := by decide +kernel
theorem dX1_learnRow_2 : decode cX1_learnRow 2 = .ok (.iload_n 2, 1) := by decide +kernel
theorem dX1_learnRow_3 : decode cX1_learnRow 3 = .ok (.aload_n 0, 1) := by decide +kernel
theorem dX1_learnRow_4 : decode cX1_learnRow 4 = .ok (.arraylength, 1) := by decide +kernel
theorem dX1_learnRow_5 : decode cX1_learnRow 5 = .ok (.if_icmp .ge 27, 3) := by decide +kernel
theorem dX1_learnRow_8 : decode cX1_learnRow 8 = .ok (.iload_n 2, 1) := by decide +kernel
theorem dX1_learnRow_9 : decode cX1_learnRow 9 = .ok (.aload_n 1, 1) := by decide +kernel
theorem dX1_learnRow_10 : decode cX1_learnRow 10 = .ok (.arraylength, 1) := by decide +kernel
theorem dX1_learnRow_11 : decode cX1_learnRow 11 = .ok (.if_icmp .ge 21, 3) := by decide +kernel
theorem dX1_learnRow_14 : decode cX1_learnRow 14 = .ok (.aload_n 0, 1) := by decide +kernel
theorem dX1_learnRow_15 : decode cX1_learnRow 15 = .ok (.iload_n 2, 1) := by decide +kernel
theorem dX1_learnRow_16 : decode cX1_learnRow 16 = .ok (.iaload, 1) := by decide +kernel
theorem dX1_learnRow_17 : decode cX1_learnRow 17 = .ok (.ifCond .ne 9, 3) := by decide +kernel
theorem dX1_learnRow_20 : decode cX1_learnRow 20 = .ok (.aload_n 0, 1) := by decide +kernel
theorem dX1_learnRow_21 : decode cX1_learnRow 21 = .ok (.iload_n 2, 1) := by decide +kernel
theorem dX1_learnRow_22 : decode cX1_learnRow 22 = .ok (.aload_n 1, 1) := by decide +kernel
theorem dX1_learnRow_23 : decode cX1_learnRow 23 = .ok (.iload_n 2, 1) := by decide +kernel
theorem dX1_learnRow_24 : decode cX1_learnRow 24 = .ok (.iaload, 1) := by decide +kernel
theorem dX1_learnRow_25 : decode cX1_learnRow 25 = .ok (.iastore, 1) := by decide +kernel
theorem dX1_learnRow_26 : decode cX1_learnRow 26 = .ok (.iinc 2 1, 3) := by decide +kernel
theorem dX1_learnRow_29 : decode cX1_learnRow 29 = .ok (.goto (-27), 3) := by decide +kernel
theorem dX1_learnRow_32 : decode cX1_learnRow 32 = .ok (.return_, 1) := by decide +kernel
theorem dX2_init_0 : decode cX2_init 0 = .ok (.aload_n 0, 1) := by decide +kernel
theorem dX2_init_1 : decode cX2_init 1 = .ok (.invokespecial 3, 3) := by decide +kernel
theorem dX2_init_4 : decode cX2_init 4 = .ok (.aload_n 0, 1) := by decide +kernel
theorem dX2_init_5 : decode cX2_init 5 = .ok (.bipush 12, 2) := by decide +kernel
theorem dX2_init_7 : decode cX2_init 7 = .ok (.anewarray 9, 3) := by decide +kernel
theorem dX2_init_10 : decode cX2_init 10 = .ok (.putfield 11, 3) := by decide +kernel
theorem dX2_init_13 : decode cX2_init 13 = .ok (.iconst 0, 1) := by decide +kernel
theorem dX2_init_14 : decode cX2_init 14 = .ok (.istore_n 1, 1) := by decide +kernel
theorem dX2_init_15 : decode cX2_init 15 = .ok (.iload_n 1, 1) := by decide +kernel
theorem dX2_init_16 : decode cX2_init 16 = .ok (.bipush 12, 2) := by decide +kernel
theorem dX2_init_18 : decode cX2_init 18 = .ok (.if_icmp .ge 22, 3) := by decide +kernel
theorem dX2_init_21 : decode cX2_init 21 = .ok (.aload_n 0, 1) := by decide +kernel
theorem dX2_init_22 : decode cX2_init 22 = .ok (.getfield 11, 3) := by decide +kernel
theorem dX2_init_25 : decode cX2_init 25 = .ok (.iload_n 1, 1) := by decide +kernel
theorem dX2_init_26 : decode cX2_init 26 = .ok (.new 9, 3) := by decide +kernel
theorem dX2_init_29 : decode cX2_init 29 = .ok (.dup, 1) := by decide +kernel
theorem dX2_init_30 : decode cX2_init 30 = .ok (.invokespecial 17, 3) := by decide +kernel
theorem dX2_init_33 : decode cX2_init 33 = .ok (.aastore, 1) := by decide +kernel
theorem dX2_init_34 : decode cX2_init 34 = .ok (.iinc 1 1, 3) := by decide +kernel
theorem dX2_init_37 : decode cX2_init 37 = .ok (.goto (-22), 3) := by decide +kernel
theorem dX2_init_40 : decode cX2_init 40 = .ok (.return_, 1) := by decide +kernel
theorem dX2_open_0 : decode cX2_open 0 = .ok (.aload_n 0, 1) := by decide +kernel
theorem dX2_open_1 : decode cX2_open 1 = .ok (.getfield 18, 3) := by decide +kernel
theorem dX2_open_4 : decode cX2_open 4 = .ok (.bipush 12, 2) := by decide +kernel
theorem dX2_open_6 : decode cX2_open 6 = .ok (.if_icmp .lt 5, 3) := by decide +kernel
theorem dX2_open_9 : decode cX2_open 9 = .ok (.iconst (-1), 1) := by decide +kernel
theorem dX2_open_10 : decode cX2_open 10 = .ok (.ireturn, 1) := by decide +kernel
theorem dX2_open_11 : decode cX2_open 11 = .ok (.aload_n 0, 1) := by decide +kernel
theorem dX2_open_12 : decode cX2_open 12 = .ok (.dup, 1) := by decide +kernel
theorem dX2_open_13 : decode cX2_open 13 = .ok (.getfield 18, 3) := by decide +kernel
theorem dX2_open_16 : decode cX2_open 16 = .ok (.iconst 1, 1) := by decide +kernel
theorem dX2_open_17 : decode cX2_open 17 = .ok (.iadd, 1) := by decide +kernel
theorem dX2_open_18 : decode cX2_open 18 = .ok (.putfield 18, 3) := by decide +kernel
theorem dX2_open_21 : decode cX2_open 21 = .ok (.aload_n 0, 1) := by decide +kernel
theorem dX2_open_22 : decode cX2_open 22 = .ok (.getfield 18, 3) := by decide +kernel
theorem dX2_open_25 : decode cX2_open 25 = .ok (.iconst 1, 1) := by decide +kernel
theorem dX2_open_26 : decode cX2_open 26 = .ok (.isub, 1) := by decide +kernel
theorem dX2_open_27 : decode cX2_open 27 = .ok (.ireturn, 1) := by decide +kernel
theorem dX2_find_0 : decode cX2_find 0 = .ok (.iload_n 1, 1) := by decide +kernel
theorem dX2_find_1 : decode cX2_find 1 = .ok (.ifCond .lt 20, 3) := by decide +kernel
theorem dX2_find_4 : decode cX2_find 4 = .ok (.iload_n 1, 1) := by decide +kernel
theorem dX2_find_5 : decode cX2_find 5 = .ok (.aload_n 0, 1) := by decide +kernel
theorem dX2_find_6 : decode cX2_find 6 = .ok (.getfield 18, 3) := by decide +kernel
theorem dX2_find_9 : decode cX2_find 9 = .ok (.if_icmp .ge 12, 3) := by decide +kernel
theorem dX2_find_12 : decode cX2_find 12 = .ok (.aload_n 0, 1) := by decide +kernel
theorem dX2_find_13 : decode cX2_find 13 = .ok (.getfield 11, 3) := by decide +kernel
theorem dX2_find_16 : decode cX2_find 16 = .ok (.iload_n 1, 1) := by decide +kernel
theorem dX2_find_17 : decode cX2_find 17 = .ok (.aaload, 1) := by decide +kernel
theorem dX2_find_18 : decode cX2_find 18 = .ok (.goto 4, 3) := by decide +kernel
theorem dX2_find_21 : decode cX2_find 21 = .ok (.aconst_null, 1) := by decide +kernel
theorem dX2_find_22 : decode cX2_find 22 = .ok (.areturn, 1) := by decide +kernel
theorem dX3_init_0 : decode cX3_init 0 = .ok (.aload_n 0, 1) := by decide +kernel
theorem dX3_init_1 : decode cX3_init 1 = .ok (.invokespecial 3, 3) := by decide +kernel
theorem dX3_init_4 : decode cX3_init 4 = .ok (.aload_n 0, 1) := by decide +kernel
theorem dX3_init_5 : decode cX3_init 5 = .ok (.iconst 4, 1) := by decide +kernel
theorem dX3_init_6 : decode cX3_init 6 = .ok (.newarray .int, 2) := by decide +kernel
theorem dX3_init_8 : decode cX3_init 8 = .ok (.putfield 9, 3) := by decide +kernel
theorem dX3_init_11 : decode cX3_init 11 = .ok (.aload_n 0, 1) := by decide +kernel
theorem dX3_init_12 : decode cX3_init 12 = .ok (.iconst 4, 1) := by decide +kernel
theorem dX3_init_13 : decode cX3_init 13 = .ok (.newarray .int, 2) := by decide +kernel
theorem dX3_init_15 : decode cX3_init 15 = .ok (.putfield 15, 3) := by decide +kernel
theorem dX3_init_18 : decode cX3_init 18 = .ok (.aload_n 0, 1) := by decide +kernel
theorem dX3_init_19 : decode cX3_init 19 = .ok (.bipush 10, 2) := by decide +kernel
theorem dX3_init_21 : decode cX3_init 21 = .ok (.newarray .int, 2) := by decide +kernel
theorem dX3_init_23 : decode cX3_init 23 = .ok (.putfield 18, 3) := by decide +kernel
theorem dX3_init_26 : decode cX3_init 26 = .ok (.aload_n 0, 1) := by decide +kernel
theorem dX3_init_27 : decode cX3_init 27 = .ok (.iconst 4, 1) := by decide +kernel
theorem dX3_init_28 : decode cX3_init 28 = .ok (.newarray .int, 2) := by decide +kernel
theorem dX3_init_30 : decode cX3_init 30 = .ok (.putfield 21, 3) := by decide +kernel
theorem dX3_init_33 : decode cX3_init 33 = .ok (.aload_n 0, 1) := by decide +kernel
theorem dX3_init_34 : decode cX3_init 34 = .ok (.invokevirtual 24, 3) := by decide +kernel
theorem dX3_init_37 : decode cX3_init 37 = .ok (.return_, 1) := by decide +kernel
theorem dX3_reset_0 : decode cX3_reset 0 = .ok (.aload_n 0, 1) := by decide +kernel
theorem dX3_reset_1 : decode cX3_reset 1 = .ok (.getfield 9, 3) := by decide +kernel
theorem dX3_reset_4 : decode cX3_reset 4 = .ok (.iconst 1, 1) := by decide +kernel
theorem dX3_reset_5 : decode cX3_reset 5 = .ok (.iconst 1, 1) := by decide +kernel
theorem dX3_reset_6 : decode cX3_reset 6 = .ok (.iastore, 1) := by decide +kernel
theorem dX3_reset_7 : decode cX3_reset 7 = .ok (.aload_n 0, 1) := by decide +kernel
theorem dX3_reset_8 : decode cX3_reset 8 = .ok (.getfield 9, 3) := by decide +kernel
theorem dX3_reset_11 : decode cX3_reset 11 = .ok (.iconst 2, 1) := by decide +kernel
theorem dX3_reset_12 : decode cX3_reset 12 = .ok (.iconst 4, 1) := by decide +kernel
theorem dX3_reset_13 : decode cX3_reset 13 = .ok (.iastore, 1) := by decide +kernel
theorem dX3_reset_14 : decode cX3_reset 14 = .ok (.aload_n 0, 1) := by decide +kernel
theorem dX3_reset_15 : decode cX3_reset 15 = .ok (.getfield 9, 3) := by decide +kernel
theorem dX3_reset_18 : decode cX3_reset 18 = .ok (.iconst 3, 1) := by decide +kernel
theorem dX3_reset_19 : decode cX3_reset 19 = .ok (.bipush 6, 2) := by decide +kernel
theorem dX3_reset_21 : decode cX3_reset 21 = .ok (.iastore, 1) := by decide +kernel
theorem dX3_reset_22 : decode cX3_reset 22 = .ok (.iconst 0, 1) := by decide +kernel
theorem dX3_reset_23 : decode cX3_reset 23 = .ok (.istore_n 1, 1) := by decide +kernel
theorem dX3_reset_24 : decode cX3_reset 24 = .ok (.iload_n 1, 1) := by decide +kernel
theorem dX3_reset_25 : decode cX3_reset 25 = .ok (.iconst 4, 1) := by decide +kernel
theorem dX3_reset_26 : decode cX3_reset 26 = .ok (.if_icmp .ge 16, 3) := by decide +kernel
theorem dX3_reset_29 : decode cX3_reset 29 = .ok (.aload_n 0, 1) := by decide +kernel
theorem dX3_reset_30 : decode cX3_reset 30 = .ok (.getfield 15, 3) := by decide +kernel
theorem dX3_reset_33 : decode cX3_reset 33 = .ok (.iload_n 1, 1) := by decide +kernel
theorem dX3_reset_34 : decode cX3_reset 34 = .ok (.iconst 5, 1) := by decide +kernel
theorem dX3_reset_35 : decode cX3_reset 35 = .ok (.iastore, 1) := by decide +kernel
theorem dX3_reset_36 : decode cX3_reset 36 = .ok (.iinc 1 1, 3) := by decide +kernel
theorem dX3_reset_39 : decode cX3_reset 39 = .ok (.goto (-15), 3) := by decide +kernel
theorem dX3_reset_42 : decode cX3_reset 42 = .ok (.iconst 1, 1) := by decide +kernel
theorem dX3_reset_43 : decode cX3_reset 43 = .ok (.istore_n 1, 1) := by decide +kernel
theorem dX3_reset_44 : decode cX3_reset 44 = .ok (.iload_n 1, 1) := by decide +kernel
theorem dX3_reset_45 : decode cX3_reset 45 = .ok (.bipush 9, 2) := by decide +kernel
theorem dX3_reset_47 : decode cX3_reset 47 = .ok (.if_icmp .gt 16, 3) := by decide +kernel
theorem dX3_reset_50 : decode cX3_reset 50 = .ok (.aload_n 0, 1) := by decide +kernel
theorem dX3_reset_51 : decode cX3_reset 51 = .ok (.getfield 18, 3) := by decide +kernel
theorem dX3_reset_54 : decode cX3_reset 54 = .ok (.iload_n 1, 1) := by decide +kernel
theorem dX3_reset_55 : decode cX3_reset 55 = .ok (.iconst 3, 1) := by decide +kernel
theorem dX3_reset_56 : decode cX3_reset 56 = .ok (.iastore, 1) := by decide +kernel
theorem dX3_reset_57 : decode cX3_reset 57 = .ok (.iinc 1 1, 3) := by decide +kernel
theorem dX3_reset_60 : decode cX3_reset 60 = .ok (.goto (-16), 3) := by decide +kernel
theorem dX3_reset_63 : decode cX3_reset 63 = .ok (.aload_n 0, 1) := by decide +kernel
theorem dX3_reset_64 : decode cX3_reset 64 = .ok (.getfield 21, 3) := by decide +kernel
theorem dX3_reset_67 : decode cX3_reset 67 = .ok (.iconst 0, 1) := by decide +kernel
theorem dX3_reset_68 : decode cX3_reset 68 = .ok (.iconst 2, 1) := by decide +kernel
theorem dX3_reset_69 : decode cX3_reset 69 = .ok (.iastore, 1) := by decide +kernel
theorem dX3_reset_70 : decode cX3_reset 70 = .ok (.aload_n 0, 1) := by decide +kernel
theorem dX3_reset_71 : decode cX3_reset 71 = .ok (.getfield 21, 3) := by decide +kernel
theorem dX3_reset_74 : decode cX3_reset 74 = .ok (.iconst 1, 1) := by decide +kernel
theorem dX3_reset_75 : decode cX3_reset 75 = .ok (.bipush 20, 2) := by decide +kernel
theorem dX3_reset_77 : decode cX3_reset 77 = .ok (.iastore, 1) := by decide +kernel
theorem dX3_reset_78 : decode cX3_reset 78 = .ok (.aload_n 0, 1) := by decide +kernel
theorem dX3_reset_79 : decode cX3_reset 79 = .ok (.getfield 21, 3) := by decide +kernel
theorem dX3_reset_82 : decode cX3_reset 82 = .ok (.iconst 2, 1) := by decide +kernel
theorem dX3_reset_83 : decode cX3_reset 83 = .ok (.iconst 5, 1) := by decide +kernel
theorem dX3_reset_84 : decode cX3_reset 84 = .ok (.iastore, 1) := by decide +kernel
theorem dX3_reset_85 : decode cX3_reset 85 = .ok (.aload_n 0, 1) := by decide +kernel
theorem dX3_reset_86 : decode cX3_reset 86 = .ok (.getfield 21, 3) := by decide +kernel
theorem dX3_reset_89 : decode cX3_reset 89 = .ok (.iconst 3, 1) := by decide +kernel
theorem dX3_reset_90 : decode cX3_reset 90 = .ok (.iconst 2, 1) := by decide +kernel
theorem dX3_reset_91 : decode cX3_reset 91 = .ok (.iastore, 1) := by decide +kernel
theorem dX3_reset_92 : decode cX3_reset 92 = .ok (.return_, 1) := by decide +kernel
theorem dX3_weigh_0 : decode cX3_weigh 0 = .ok (.aload_n 1, 1) := by decide +kernel
theorem dX3_weigh_1 : decode cX3_weigh 1 = .ok (.aload_n 2, 1) := by decide +kernel
theorem dX3_weigh_2 : decode cX3_weigh 2 = .ok (.invokevirtual 27, 3) := by decide +kernel
theorem dX3_weigh_5 : decode cX3_weigh 5 = .ok (.ifCond .eq 6, 3) := by decide +kernel
theorem dX3_weigh_8 : decode cX3_weigh 8 = .ok (.ldc 33, 2) := by decide +kernel
theorem dX3_weigh_10 : decode cX3_weigh 10 = .ok (.ireturn, 1) := by decide +kernel
theorem dX3_weigh_11 : decode cX3_weigh 11 = .ok (.aload_n 0, 1) := by decide +kernel
theorem dX3_weigh_12 : decode cX3_weigh 12 = .ok (.aload_n 1, 1) := by decide +kernel
theorem dX3_weigh_13 : decode cX3_weigh 13 = .ok (.aload_n 2, 1) := by decide +kernel
theorem dX3_weigh_14 : decode cX3_weigh 14 = .ok (.invokevirtual 34, 3) := by decide +kernel
theorem dX3_weigh_17 : decode cX3_weigh 17 = .ok (.aload_n 0, 1) := by decide +kernel
theorem dX3_weigh_18 : decode cX3_weigh 18 = .ok (.aload_n 1, 1) := by decide +kernel
theorem dX3_weigh_19 : decode cX3_weigh 19 = .ok (.aload_n 2, 1) := by decide +kernel
theorem dX3_weigh_20 : decode cX3_weigh 20 = .ok (.invokevirtual 38, 3) := by decide +kernel
theorem dX3_weigh_23 : decode cX3_weigh 23 = .ok (.iadd, 1) := by decide +kernel
theorem dX3_weigh_24 : decode cX3_weigh 24 = .ok (.aload_n 0, 1) := by decide +kernel
theorem dX3_weigh_25 : decode cX3_weigh 25 = .ok (.aload_n 1, 1) := by decide +kernel
theorem dX3_weigh_26 : decode cX3_weigh 26 = .ok (.aload_n 2, 1) := by decide +kernel
theorem dX3_weigh_27 : decode cX3_weigh 27 = .ok (.invokevirtual 41, 3) := by decide +kernel
theorem dX3_weigh_30 : decode cX3_weigh 30 = .ok (.iadd, 1) := by decide +kernel
theorem dX3_weigh_31 : decode cX3_weigh 31 = .ok (.ireturn, 1) := by decide +kernel
theorem dX3_weighTeeth_0 : decode cX3_weighTeeth 0 = .ok (.iconst 0, 1) := by decide +kernel
theorem dX3_weighTeeth_1 : decode cX3_weighTeeth 1 = .ok (.istore_n 3, 1) := by decide +kernel
theorem dX3_weighTeeth_2 : decode cX3_weighTeeth 2 = .ok (.iconst 0, 1) := by decide +kernel
theorem dX3_weighTeeth_3 : decode cX3_weighTeeth 3 = .ok (.istore 4, 2) := by decide +kernel
theorem dX3_weighTeeth_5 : decode cX3_weighTeeth 5 = .ok (.iload 4, 2) := by decide +kernel
theorem dX3_weighTeeth_7 : decode cX3_weighTeeth 7 = .ok (.bipush 8, 2) := by decide +kernel
theorem dX3_weighTeeth_9 : decode cX3_weighTeeth 9 = .ok (.if_icmp .ge 50, 3) := by decide +kernel
theorem dX3_weighTeeth_12 : decode cX3_weighTeeth 12 = .ok (.aload_n 1, 1) := by decide +kernel
theorem dX3_weighTeeth_13 : decode cX3_weighTeeth 13 = .ok (.getfield 44, 3) := by decide +kernel
theorem dX3_weighTeeth_16 : decode cX3_weighTeeth 16 = .ok (.iload 4, 2) := by decide +kernel
theorem dX3_weighTeeth_18 : decode cX3_weighTeeth 18 = .ok (.iaload, 1) := by decide +kernel
theorem dX3_weighTeeth_19 : decode cX3_weighTeeth 19 = .ok (.istore 5, 2) := by decide +kernel
theorem dX3_weighTeeth_21 : decode cX3_weighTeeth 21 = .ok (.iload 5, 2) := by decide +kernel
theorem dX3_weighTeeth_23 : decode cX3_weighTeeth 23 = .ok (.iconst 1, 1) := by decide +kernel
theorem dX3_weighTeeth_24 : decode cX3_weighTeeth 24 = .ok (.iconst 3, 1) := by decide +kernel
theorem dX3_weighTeeth_25 : decode cX3_weighTeeth 25 = .ok (.invokestatic 47, 3) := by decide +kernel
theorem dX3_weighTeeth_28 : decode cX3_weighTeeth 28 = .ok (.ifCond .eq 25, 3) := by decide +kernel
theorem dX3_weighTeeth_31 : decode cX3_weighTeeth 31 = .ok (.iload 5, 2) := by decide +kernel
theorem dX3_weighTeeth_33 : decode cX3_weighTeeth 33 = .ok (.aload_n 2, 1) := by decide +kernel
theorem dX3_weighTeeth_34 : decode cX3_weighTeeth 34 = .ok (.getfield 44, 3) := by decide +kernel
theorem dX3_weighTeeth_37 : decode cX3_weighTeeth 37 = .ok (.iload 4, 2) := by decide +kernel
theorem dX3_weighTeeth_39 : decode cX3_weighTeeth 39 = .ok (.iaload, 1) := by decide +kernel
theorem dX3_weighTeeth_40 : decode cX3_weighTeeth 40 = .ok (.if_icmp .ne 13, 3) := by decide +kernel
theorem dX3_weighTeeth_43 : decode cX3_weighTeeth 43 = .ok (.iload_n 3, 1) := by decide +kernel
theorem dX3_weighTeeth_44 : decode cX3_weighTeeth 44 = .ok (.aload_n 0, 1) := by decide +kernel
theorem dX3_weighTeeth_45 : decode cX3_weighTeeth 45 = .ok (.getfield 9, 3) := by decide +kernel
theorem dX3_weighTeeth_48 : decode cX3_weighTeeth 48 = .ok (.iload 5, 2) := by decide +kernel
theorem dX3_weighTeeth_50 : decode cX3_weighTeeth 50 = .ok (.iaload, 1) := by decide +kernel
theorem dX3_weighTeeth_51 : decode cX3_weighTeeth 51 = .ok (.iadd, 1) := by decide +kernel
theorem dX3_weighTeeth_52 : decode cX3_weighTeeth 52 = .ok (.istore_n 3, 1) := by decide +kernel
theorem dX3_weighTeeth_53 : decode cX3_weighTeeth 53 = .ok (.iinc 4 1, 3) := by decide +kernel
theorem dX3_weighTeeth_56 : decode cX3_weighTeeth 56 = .ok (.goto (-51), 3) := by decide +kernel
theorem dX3_weighTeeth_59 : decode cX3_weighTeeth 59 = .ok (.iload_n 3, 1) := by decide +kernel
theorem dX3_weighTeeth_60 : decode cX3_weighTeeth 60 = .ok (.ireturn, 1) := by decide +kernel
theorem dX3_weighMarks_0 : decode cX3_weighMarks 0 = .ok (.iconst 0, 1) := by decide +kernel
theorem dX3_weighMarks_1 : decode cX3_weighMarks 1 = .ok (.istore_n 3, 1) := by decide +kernel
theorem dX3_weighMarks_2 : decode cX3_weighMarks 2 = .ok (.iconst 0, 1) := by decide +kernel
theorem dX3_weighMarks_3 : decode cX3_weighMarks 3 = .ok (.istore 4, 2) := by decide +kernel
theorem dX3_weighMarks_5 : decode cX3_weighMarks 5 = .ok (.iload 4, 2) := by decide +kernel
theorem dX3_weighMarks_7 : decode cX3_weighMarks 7 = .ok (.iconst 4, 1) := by decide +kernel
theorem dX3_weighMarks_8 : decode cX3_weighMarks 8 = .ok (.if_icmp .ge 67, 3) := by decide +kernel
theorem dX3_weighMarks_11 : decode cX3_weighMarks 11 = .ok (.aload_n 1, 1) := by decide +kernel
theorem dX3_weighMarks_12 : decode cX3_weighMarks 12 = .ok (.getfield 51, 3) := by decide +kernel
theorem dX3_weighMarks_15 : decode cX3_weighMarks 15 = .ok (.iload 4, 2) := by decide +kernel
theorem dX3_weighMarks_17 : decode cX3_weighMarks 17 = .ok (.iaload, 1) := by decide +kernel
theorem dX3_weighMarks_18 : decode cX3_weighMarks 18 = .ok (.ifCond .eq 51, 3) := by decide +kernel
theorem dX3_weighMarks_21 : decode cX3_weighMarks 21 = .ok (.aload_n 2, 1) := by decide +kernel
theorem dX3_weighMarks_22 : decode cX3_weighMarks 22 = .ok (.getfield 51, 3) := by decide +kernel
theorem dX3_weighMarks_25 : decode cX3_weighMarks 25 = .ok (.iload 4, 2) := by decide +kernel
theorem dX3_weighMarks_27 : decode cX3_weighMarks 27 = .ok (.iaload, 1) := by decide +kernel
theorem dX3_weighMarks_28 : decode cX3_weighMarks 28 = .ok (.ifCond .eq 41, 3) := by decide +kernel
theorem dX3_weighMarks_31 : decode cX3_weighMarks 31 = .ok (.iload_n 3, 1) := by decide +kernel
theorem dX3_weighMarks_32 : decode cX3_weighMarks 32 = .ok (.aload_n 1, 1) := by decide +kernel
theorem dX3_weighMarks_33 : decode cX3_weighMarks 33 = .ok (.getfield 51, 3) := by decide +kernel
theorem dX3_weighMarks_36 : decode cX3_weighMarks 36 = .ok (.iload 4, 2) := by decide +kernel
theorem dX3_weighMarks_38 : decode cX3_weighMarks 38 = .ok (.iaload, 1) := by decide +kernel
theorem dX3_weighMarks_39 : decode cX3_weighMarks 39 = .ok (.aload_n 2, 1) := by decide +kernel
theorem dX3_weighMarks_40 : decode cX3_weighMarks 40 = .ok (.getfield 51, 3) := by decide +kernel
theorem dX3_weighMarks_43 : decode cX3_weighMarks 43 = .ok (.iload 4, 2) := by decide +kernel
theorem dX3_weighMarks_45 : decode cX3_weighMarks 45 = .ok (.iaload, 1) := by decide +kernel
theorem dX3_weighMarks_46 : decode cX3_weighMarks 46 = .ok (.if_icmp .ne 13, 3) := by decide +kernel
theorem dX3_weighMarks_49 : decode cX3_weighMarks 49 = .ok (.aload_n 0, 1) := by decide +kernel
theorem dX3_weighMarks_50 : decode cX3_weighMarks 50 = .ok (.getfield 15, 3) := by decide +kernel
theorem dX3_weighMarks_53 : decode cX3_weighMarks 53 = .ok (.iload 4, 2) := by decide +kernel
theorem dX3_weighMarks_55 : decode cX3_weighMarks 55 = .ok (.iaload, 1) := by decide +kernel
theorem dX3_weighMarks_56 : decode cX3_weighMarks 56 = .ok (.goto 11, 3) := by decide +kernel
theorem dX3_weighMarks_59 : decode cX3_weighMarks 59 = .ok (.aload_n 0, 1) := by decide +kernel
theorem dX3_weighMarks_60 : decode cX3_weighMarks 60 = .ok (.getfield 15, 3) := by decide +kernel
theorem dX3_weighMarks_63 : decode cX3_weighMarks 63 = .ok (.iload 4, 2) := by decide +kernel
theorem dX3_weighMarks_65 : decode cX3_weighMarks 65 = .ok (.iaload, 1) := by decide +kernel
theorem dX3_weighMarks_66 : decode cX3_weighMarks 66 = .ok (.ineg, 1) := by decide +kernel
theorem dX3_weighMarks_67 : decode cX3_weighMarks 67 = .ok (.iadd, 1) := by decide +kernel
theorem dX3_weighMarks_68 : decode cX3_weighMarks 68 = .ok (.istore_n 3, 1) := by decide +kernel
theorem dX3_weighMarks_69 : decode cX3_weighMarks 69 = .ok (.iinc 4 1, 3) := by decide +kernel
theorem dX3_weighMarks_72 : decode cX3_weighMarks 72 = .ok (.goto (-67), 3) := by decide +kernel
theorem dX3_weighMarks_75 : decode cX3_weighMarks 75 = .ok (.iload_n 3, 1) := by decide +kernel
theorem dX3_weighMarks_76 : decode cX3_weighMarks 76 = .ok (.ireturn, 1) := by decide +kernel
theorem dX3_weighSheets_0 : decode cX3_weighSheets 0 = .ok (.iconst 0, 1) := by decide +kernel
theorem dX3_weighSheets_1 : decode cX3_weighSheets 1 = .ok (.istore_n 3, 1) := by decide +kernel
theorem dX3_weighSheets_2 : decode cX3_weighSheets 2 = .ok (.iconst 0, 1) := by decide +kernel
theorem dX3_weighSheets_3 : decode cX3_weighSheets 3 = .ok (.istore 4, 2) := by decide +kernel
theorem dX3_weighSheets_5 : decode cX3_weighSheets 5 = .ok (.iload 4, 2) := by decide +kernel
theorem dX3_weighSheets_7 : decode cX3_weighSheets 7 = .ok (.iconst 3, 1) := by decide +kernel
theorem dX3_weighSheets_8 : decode cX3_weighSheets 8 = .ok (.if_icmp .ge 86, 3) := by decide +kernel
theorem dX3_weighSheets_11 : decode cX3_weighSheets 11 = .ok (.aload_n 1, 1) := by decide +kernel
theorem dX3_weighSheets_12 : decode cX3_weighSheets 12 = .ok (.getfield 54, 3) := by decide +kernel
theorem dX3_weighSheets_15 : decode cX3_weighSheets 15 = .ok (.iload 4, 2) := by decide +kernel
theorem dX3_weighSheets_17 : decode cX3_weighSheets 17 = .ok (.iaload, 1) := by decide +kernel
theorem dX3_weighSheets_18 : decode cX3_weighSheets 18 = .ok (.istore 5, 2) := by decide +kernel
theorem dX3_weighSheets_20 : decode cX3_weighSheets 20 = .ok (.iload 5, 2) := by decide +kernel
theorem dX3_weighSheets_22 : decode cX3_weighSheets 22 = .ok (.bipush 11, 2) := by decide +kernel
theorem dX3_weighSheets_24 : decode cX3_weighSheets 24 = .ok (.bipush 99, 2) := by decide +kernel
theorem dX3_weighSheets_26 : decode cX3_weighSheets 26 = .ok (.invokestatic 47, 3) := by decide +kernel
theorem dX3_weighSheets_29 : decode cX3_weighSheets 29 = .ok (.ifCond .ne 6, 3) := by decide +kernel
theorem dX3_weighSheets_32 : decode cX3_weighSheets 32 = .ok (.goto 56, 3) := by decide +kernel
theorem dX3_weighSheets_35 : decode cX3_weighSheets 35 = .ok (.aload_n 2, 1) := by decide +kernel
theorem dX3_weighSheets_36 : decode cX3_weighSheets 36 = .ok (.getfield 54, 3) := by decide +kernel
theorem dX3_weighSheets_39 : decode cX3_weighSheets 39 = .ok (.iload 4, 2) := by decide +kernel
theorem dX3_weighSheets_41 : decode cX3_weighSheets 41 = .ok (.iaload, 1) := by decide +kernel
theorem dX3_weighSheets_42 : decode cX3_weighSheets 42 = .ok (.ifCond .eq 27, 3) := by decide +kernel
theorem dX3_weighSheets_45 : decode cX3_weighSheets 45 = .ok (.iload_n 3, 1) := by decide +kernel
theorem dX3_weighSheets_46 : decode cX3_weighSheets 46 = .ok (.aload_n 0, 1) := by decide +kernel
theorem dX3_weighSheets_47 : decode cX3_weighSheets 47 = .ok (.getfield 18, 3) := by decide +kernel
theorem dX3_weighSheets_50 : decode cX3_weighSheets 50 = .ok (.iload 5, 2) := by decide +kernel
theorem dX3_weighSheets_52 : decode cX3_weighSheets 52 = .ok (.bipush 10, 2) := by decide +kernel
theorem dX3_weighSheets_54 : decode cX3_weighSheets 54 = .ok (.idiv, 1) := by decide +kernel
theorem dX3_weighSheets_55 : decode cX3_weighSheets 55 = .ok (.iaload, 1) := by decide +kernel
theorem dX3_weighSheets_56 : decode cX3_weighSheets 56 = .ok (.aload_n 0, 1) := by decide +kernel
theorem dX3_weighSheets_57 : decode cX3_weighSheets 57 = .ok (.getfield 18, 3) := by decide +kernel
theorem dX3_weighSheets_60 : decode cX3_weighSheets 60 = .ok (.iload 5, 2) := by decide +kernel
theorem dX3_weighSheets_62 : decode cX3_weighSheets 62 = .ok (.bipush 10, 2) := by decide +kernel
theorem dX3_weighSheets_64 : decode cX3_weighSheets 64 = .ok (.irem, 1) := by decide +kernel
theorem dX3_weighSheets_65 : decode cX3_weighSheets 65 = .ok (.iaload, 1) := by decide +kernel
theorem dX3_weighSheets_66 : decode cX3_weighSheets 66 = .ok (.iadd, 1) := by decide +kernel
theorem dX3_weighSheets_67 : decode cX3_weighSheets 67 = .ok (.iadd, 1) := by decide +kernel
theorem dX3_weighSheets_68 : decode cX3_weighSheets 68 = .ok (.istore_n 3, 1) := by decide +kernel
theorem dX3_weighSheets_69 : decode cX3_weighSheets 69 = .ok (.aload_n 2, 1) := by decide +kernel
theorem dX3_weighSheets_70 : decode cX3_weighSheets 70 = .ok (.getfield 57, 3) := by decide +kernel
theorem dX3_weighSheets_73 : decode cX3_weighSheets 73 = .ok (.iload 4, 2) := by decide +kernel
theorem dX3_weighSheets_75 : decode cX3_weighSheets 75 = .ok (.iaload, 1) := by decide +kernel
theorem dX3_weighSheets_76 : decode cX3_weighSheets 76 = .ok (.ifCond .eq 12, 3) := by decide +kernel
theorem dX3_weighSheets_79 : decode cX3_weighSheets 79 = .ok (.iload_n 3, 1) := by decide +kernel
theorem dX3_weighSheets_80 : decode cX3_weighSheets 80 = .ok (.aload_n 0, 1) := by decide +kernel
theorem dX3_weighSheets_81 : decode cX3_weighSheets 81 = .ok (.getfield 21, 3) := by decide +kernel
theorem dX3_weighSheets_84 : decode cX3_weighSheets 84 = .ok (.iconst 0, 1) := by decide +kernel
theorem dX3_weighSheets_85 : decode cX3_weighSheets 85 = .ok (.iaload, 1) := by decide +kernel
theorem dX3_weighSheets_86 : decode cX3_weighSheets 86 = .ok (.iadd, 1) := by decide +kernel
theorem dX3_weighSheets_87 : decode cX3_weighSheets 87 = .ok (.istore_n 3, 1) := by decide +kernel
theorem dX3_weighSheets_88 : decode cX3_weighSheets 88 = .ok (.iinc 4 1, 3) := by decide +kernel
theorem dX3_weighSheets_91 : decode cX3_weighSheets 91 = .ok (.goto (-86), 3) := by decide +kernel
theorem dX3_weighSheets_94 : decode cX3_weighSheets 94 = .ok (.iload_n 3, 1) := by decide +kernel
theorem dX3_weighSheets_95 : decode cX3_weighSheets 95 = .ok (.ireturn, 1) := by decide +kernel
theorem dX4_init_0 : decode cX4_init 0 = .ok (.aload_n 0, 1) := by decide +kernel
theorem dX4_init_1 : decode cX4_init 1 = .ok (.invokespecial 3, 3) := by decide +kernel
theorem dX4_init_4 : decode cX4_init 4 = .ok (.aload_n 0, 1) := by decide +kernel
theorem dX4_init_5 : decode cX4_init 5 = .ok (.bipush 12, 2) := by decide +kernel
theorem dX4_init_7 : decode cX4_init 7 = .ok (.bipush 12, 2) := by decide +kernel
theorem dX4_init_9 : decode cX4_init 9 = .ok (.multianewarray 9 2, 4) := by decide +kernel
theorem dX4_init_13 : decode cX4_init 13 = .ok (.putfield 11, 3) := by decide +kernel
theorem dX4_init_16 : decode cX4_init 16 = .ok (.aload_n 0, 1) := by decide +kernel
theorem dX4_init_17 : decode cX4_init 17 = .ok (.bipush 12, 2) := by decide +kernel
theorem dX4_init_19 : decode cX4_init 19 = .ok (.newarray .int, 2) := by decide +kernel
theorem dX4_init_21 : decode cX4_init 21 = .ok (.putfield 16, 3) := by decide +kernel
theorem dX4_init_24 : decode cX4_init 24 = .ok (.aload_n 0, 1) := by decide +kernel
theorem dX4_init_25 : decode cX4_init 25 = .ok (.bipush 13, 2) := by decide +kernel
theorem dX4_init_27 : decode cX4_init 27 = .ok (.bipush 13, 2) := by decide +kernel
theorem dX4_init_29 : decode cX4_init 29 = .ok (.multianewarray 20 2, 4) := by decide +kernel
theorem dX4_init_33 : decode cX4_init 33 = .ok (.putfield 22, 3) := by decide +kernel
theorem dX4_init_36 : decode cX4_init 36 = .ok (.aload_n 0, 1) := by decide +kernel
theorem dX4_init_37 : decode cX4_init 37 = .ok (.bipush 13, 2) := by decide +kernel
theorem dX4_init_39 : decode cX4_init 39 = .ok (.newarray .int, 2) := by decide +kernel
theorem dX4_init_41 : decode cX4_init 41 = .ok (.putfield 25, 3) := by decide +kernel
theorem dX4_init_44 : decode cX4_init 44 = .ok (.aload_n 0, 1) := by decide +kernel
theorem dX4_init_45 : decode cX4_init 45 = .ok (.bipush 13, 2) := by decide +kernel
theorem dX4_init_47 : decode cX4_init 47 = .ok (.newarray .long, 2) := by decide +kernel
theorem dX4_init_49 : decode cX4_init 49 = .ok (.putfield 28, 3) := by decide +kernel
theorem dX4_init_52 : decode cX4_init 52 = .ok (.aload_n 0, 1) := by decide +kernel
theorem dX4_init_53 : decode cX4_init 53 = .ok (.bipush 13, 2) := by decide +kernel
theorem dX4_init_55 : decode cX4_init 55 = .ok (.newarray .long, 2) := by decide +kernel
theorem dX4_init_57 : decode cX4_init 57 = .ok (.putfield 32, 3) := by decide +kernel
theorem dX4_init_60 : decode cX4_init 60 = .ok (.aload_n 0, 1) := by decide +kernel
theorem dX4_init_61 : decode cX4_init 61 = .ok (.bipush 13, 2) := by decide +kernel
theorem dX4_init_63 : decode cX4_init 63 = .ok (.newarray .long, 2) := by decide +kernel
theorem dX4_init_65 : decode cX4_init 65 = .ok (.putfield 35, 3) := by decide +kernel
theorem dX4_init_68 : decode cX4_init 68 = .ok (.aload_n 0, 1) := by decide +kernel
theorem dX4_init_69 : decode cX4_init 69 = .ok (.bipush 13, 2) := by decide +kernel
theorem dX4_init_71 : decode cX4_init 71 = .ok (.newarray .int, 2) := by decide +kernel
theorem dX4_init_73 : decode cX4_init 73 = .ok (.putfield 38, 3) := by decide +kernel
theorem dX4_init_76 : decode cX4_init 76 = .ok (.aload_n 0, 1) := by decide +kernel
theorem dX4_init_77 : decode cX4_init 77 = .ok (.bipush 13, 2) := by decide +kernel
theorem dX4_init_79 : decode cX4_init 79 = .ok (.newarray .boolean, 2) := by decide +kernel
theorem dX4_init_81 : decode cX4_init 81 = .ok (.putfield 41, 3) := by decide +kernel
theorem dX4_init_84 : decode cX4_init 84 = .ok (.return_, 1) := by decide +kernel
theorem dX4_settle_0 : decode cX4_settle 0 = .ok (.aload_n 0, 1) := by decide +kernel
theorem dX4_settle_1 : decode cX4_settle 1 = .ok (.invokevirtual 45, 3) := by decide +kernel
theorem dX4_settle_4 : decode cX4_settle 4 = .ok (.iconst 0, 1) := by decide +kernel
theorem dX4_settle_5 : decode cX4_settle 5 = .ok (.istore_n 1, 1) := by decide +kernel
theorem dX4_settle_6 : decode cX4_settle 6 = .ok (.iload_n 1, 1) := by decide +kernel
theorem dX4_settle_7 : decode cX4_settle 7 = .ok (.bipush 13, 2) := by decide +kernel
theorem dX4_settle_9 : decode cX4_settle 9 = .ok (.if_icmp .ge 30, 3) := by decide +kernel
theorem dX4_settle_12 : decode cX4_settle 12 = .ok (.aload_n 0, 1) := by decide +kernel
theorem dX4_settle_13 : decode cX4_settle 13 = .ok (.getfield 25, 3) := by decide +kernel
theorem dX4_settle_16 : decode cX4_settle 16 = .ok (.iload_n 1, 1) := by decide +kernel
theorem dX4_settle_17 : decode cX4_settle 17 = .ok (.iconst 0, 1) := by decide +kernel
theorem dX4_settle_18 : decode cX4_settle 18 = .ok (.iastore, 1) := by decide +kernel
theorem dX4_settle_19 : decode cX4_settle 19 = .ok (.aload_n 0, 1) := by decide +kernel
theorem dX4_settle_20 : decode cX4_settle 20 = .ok (.getfield 28, 3) := by decide +kernel
theorem dX4_settle_23 : decode cX4_settle 23 = .ok (.iload_n 1, 1) := by decide +kernel
theorem dX4_settle_24 : decode cX4_settle 24 = .ok (.lconst 0, 1) := by decide +kernel
theorem dX4_settle_25 : decode cX4_settle 25 = .ok (.lastore, 1) := by decide +kernel
theorem dX4_settle_26 : decode cX4_settle 26 = .ok (.aload_n 0, 1) := by decide +kernel
theorem dX4_settle_27 : decode cX4_settle 27 = .ok (.getfield 32, 3) := by decide +kernel
theorem dX4_settle_30 : decode cX4_settle 30 = .ok (.iload_n 1, 1) := by decide +kernel
theorem dX4_settle_31 : decode cX4_settle 31 = .ok (.lconst 0, 1) := by decide +kernel
theorem dX4_settle_32 : decode cX4_settle 32 = .ok (.lastore, 1) := by decide +kernel
theorem dX4_settle_33 : decode cX4_settle 33 = .ok (.iinc 1 1, 3) := by decide +kernel
theorem dX4_settle_36 : decode cX4_settle 36 = .ok (.goto (-30), 3) := by decide +kernel
theorem dX4_settle_39 : decode cX4_settle 39 = .ok (.iconst 1, 1) := by decide +kernel
theorem dX4_settle_40 : decode cX4_settle 40 = .ok (.istore_n 1, 1) := by decide +kernel
theorem dX4_settle_41 : decode cX4_settle 41 = .ok (.iload_n 1, 1) := by decide +kernel
theorem dX4_settle_42 : decode cX4_settle 42 = .ok (.bipush 13, 2) := by decide +kernel
theorem dX4_settle_44 : decode cX4_settle 44 = .ok (.if_icmp .ge 14, 3) := by decide +kernel
theorem dX4_settle_47 : decode cX4_settle 47 = .ok (.aload_n 0, 1) := by decide +kernel
theorem dX4_settle_48 : decode cX4_settle 48 = .ok (.iload_n 1, 1) := by decide +kernel
theorem dX4_settle_49 : decode cX4_settle 49 = .ok (.invokevirtual 48, 3) := by decide +kernel
theorem dX4_settle_52 : decode cX4_settle 52 = .ok (.iinc 1 1, 3) := by decide +kernel
theorem dX4_settle_55 : decode cX4_settle 55 = .ok (.goto (-14), 3) := by decide +kernel
theorem dX4_settle_58 : decode cX4_settle 58 = .ok (.aload_n 0, 1) := by decide +kernel
theorem dX4_settle_59 : decode cX4_settle 59 = .ok (.invokevirtual 52, 3) := by decide +kernel
theorem dX4_settle_62 : decode cX4_settle 62 = .ok (.return_, 1) := by decide +kernel
theorem dX4_lossWithout_0 : decode cX4_lossWithout 0 = .ok (.aload_n 0, 1) := by decide +kernel
theorem dX4_lossWithout_1 : decode cX4_lossWithout 1 = .ok (.getfield 16, 3) := by decide +kernel
theorem dX4_lossWithout_4 : decode cX4_lossWithout 4 = .ok (.iload_n 1, 1) := by decide +kernel
theorem dX4_lossWithout_5 : decode cX4_lossWithout 5 = .ok (.iaload, 1) := by decide +kernel
theorem dX4_lossWithout_6 : decode cX4_lossWithout 6 = .ok (.iconst (-1), 1) := by decide +kernel
theorem dX4_lossWithout_7 : decode cX4_lossWithout 7 = .ok (.if_icmp .ne 5, 3) := by decide +kernel
theorem dX4_lossWithout_10 : decode cX4_lossWithout 10 = .ok (.iconst 0, 1) := by decide +kernel
theorem dX4_lossWithout_11 : decode cX4_lossWithout 11 = .ok (.ireturn, 1) := by decide +kernel
theorem dX4_lossWithout_12 : decode cX4_lossWithout 12 = .ok (.aload_n 0, 1) := by decide +kernel
theorem dX4_lossWithout_13 : decode cX4_lossWithout 13 = .ok (.getfield 55, 3) := by decide +kernel
theorem dX4_lossWithout_16 : decode cX4_lossWithout 16 = .ok (.istore_n 2, 1) := by decide +kernel
theorem dX4_lossWithout_17 : decode cX4_lossWithout 17 = .ok (.aload_n 0, 1) := by decide +kernel
theorem dX4_lossWithout_18 : decode cX4_lossWithout 18 = .ok (.getfield 11, 3) := by decide +kernel
theorem dX4_lossWithout_21 : decode cX4_lossWithout 21 = .ok (.iload_n 1, 1) := by decide +kernel
theorem dX4_lossWithout_22 : decode cX4_lossWithout 22 = .ok (.aaload, 1) := by decide +kernel
theorem dX4_lossWithout_23 : decode cX4_lossWithout 23 = .ok (.aload_n 0, 1) := by decide +kernel
theorem dX4_lossWithout_24 : decode cX4_lossWithout 24 = .ok (.getfield 16, 3) := by decide +kernel
theorem dX4_lossWithout_27 : decode cX4_lossWithout 27 = .ok (.iload_n 1, 1) := by decide +kernel
theorem dX4_lossWithout_28 : decode cX4_lossWithout 28 = .ok (.iaload, 1) := by decide +kernel
theorem dX4_lossWithout_29 : decode cX4_lossWithout 29 = .ok (.iconst 0, 1) := by decide +kernel
theorem dX4_lossWithout_30 : decode cX4_lossWithout 30 = .ok (.iastore, 1) := by decide +kernel
theorem dX4_lossWithout_31 : decode cX4_lossWithout 31 = .ok (.aload_n 0, 1) := by decide +kernel
theorem dX4_lossWithout_32 : decode cX4_lossWithout 32 = .ok (.invokevirtual 59, 3) := by decide +kernel
theorem dX4_lossWithout_35 : decode cX4_lossWithout 35 = .ok (.iload_n 2, 1) := by decide +kernel
theorem dX4_lossWithout_36 : decode cX4_lossWithout 36 = .ok (.aload_n 0, 1) := by decide +kernel
theorem dX4_lossWithout_37 : decode cX4_lossWithout 37 = .ok (.getfield 55, 3) := by decide +kernel
theorem dX4_lossWithout_40 : decode cX4_lossWithout 40 = .ok (.isub, 1) := by decide +kernel
theorem dX4_lossWithout_41 : decode cX4_lossWithout 41 = .ok (.ireturn, 1) := by decide +kernel
theorem dX4_appraise_0 : decode cX4_appraise 0 = .ok (.ldc2_w 62, 3) := by decide +kernel
theorem dX4_appraise_3 : decode cX4_appraise 3 = .ok (.lstore_n 1, 1) := by decide +kernel
theorem dX4_appraise_4 : decode cX4_appraise 4 = .ok (.iconst 0, 1) := by decide +kernel
theorem dX4_appraise_5 : decode cX4_appraise 5 = .ok (.istore_n 3, 1) := by decide +kernel
theorem dX4_appraise_6 : decode cX4_appraise 6 = .ok (.iload_n 3, 1) := by decide +kernel
theorem dX4_appraise_7 : decode cX4_appraise 7 = .ok (.bipush 12, 2) := by decide +kernel
theorem dX4_appraise_9 : decode cX4_appraise 9 = .ok (.if_icmp .ge 80, 3) := by decide +kernel
theorem dX4_appraise_12 : decode cX4_appraise 12 = .ok (.lload_n 1, 1) := by decide +kernel
theorem dX4_appraise_13 : decode cX4_appraise 13 = .ok (.ldc2_w 64, 3) := by decide +kernel
theorem dX4_appraise_16 : decode cX4_appraise 16 = .ok (.ldiv, 1) := by decide +kernel
theorem dX4_appraise_17 : decode cX4_appraise 17 = .ok (.lstore_n 1, 1) := by decide +kernel
theorem dX4_appraise_18 : decode cX4_appraise 18 = .ok (.iconst 0, 1) := by decide +kernel
theorem dX4_appraise_19 : decode cX4_appraise 19 = .ok (.istore 4, 2) := by decide +kernel
theorem dX4_appraise_21 : decode cX4_appraise 21 = .ok (.iload 4, 2) := by decide +kernel
theorem dX4_appraise_23 : decode cX4_appraise 23 = .ok (.bipush 12, 2) := by decide +kernel
theorem dX4_appraise_25 : decode cX4_appraise 25 = .ok (.if_icmp .ge 58, 3) := by decide +kernel
theorem dX4_appraise_28 : decode cX4_appraise 28 = .ok (.aload_n 0, 1) := by decide +kernel
theorem dX4_appraise_29 : decode cX4_appraise 29 = .ok (.getfield 11, 3) := by decide +kernel
theorem dX4_appraise_32 : decode cX4_appraise 32 = .ok (.iload_n 3, 1) := by decide +kernel
theorem dX4_appraise_33 : decode cX4_appraise 33 = .ok (.aaload, 1) := by decide +kernel
theorem dX4_appraise_34 : decode cX4_appraise 34 = .ok (.iload 4, 2) := by decide +kernel
theorem dX4_appraise_36 : decode cX4_appraise 36 = .ok (.iaload, 1) := by decide +kernel
theorem dX4_appraise_37 : decode cX4_appraise 37 = .ok (.istore 5, 2) := by decide +kernel
theorem dX4_appraise_39 : decode cX4_appraise 39 = .ok (.aload_n 0, 1) := by decide +kernel
theorem dX4_appraise_40 : decode cX4_appraise 40 = .ok (.getfield 22, 3) := by decide +kernel
theorem dX4_appraise_43 : decode cX4_appraise 43 = .ok (.iload_n 3, 1) := by decide +kernel
theorem dX4_appraise_44 : decode cX4_appraise 44 = .ok (.iconst 1, 1) := by decide +kernel
theorem dX4_appraise_45 : decode cX4_appraise 45 = .ok (.iadd, 1) := by decide +kernel
theorem dX4_appraise_46 : decode cX4_appraise 46 = .ok (.aaload, 1) := by decide +kernel
theorem dX4_appraise_47 : decode cX4_appraise 47 = .ok (.iload 4, 2) := by decide +kernel
theorem dX4_appraise_49 : decode cX4_appraise 49 = .ok (.iconst 1, 1) := by decide +kernel
theorem dX4_appraise_50 : decode cX4_appraise 50 = .ok (.iadd, 1) := by decide +kernel
theorem dX4_appraise_51 : decode cX4_appraise 51 = .ok (.iload 5, 2) := by decide +kernel
theorem dX4_appraise_53 : decode cX4_appraise 53 = .ok (.ifCond .le 22, 3) := by decide +kernel
theorem dX4_appraise_56 : decode cX4_appraise 56 = .ok (.iload 5, 2) := by decide +kernel
theorem dX4_appraise_58 : decode cX4_appraise 58 = .ok (.i2l, 1) := by decide +kernel
theorem dX4_appraise_59 : decode cX4_appraise 59 = .ok (.ldc2_w 62, 3) := by decide +kernel
theorem dX4_appraise_62 : decode cX4_appraise 62 = .ok (.lmul, 1) := by decide +kernel
theorem dX4_appraise_63 : decode cX4_appraise 63 = .ok (.bipush 12, 2) := by decide +kernel
theorem dX4_appraise_65 : decode cX4_appraise 65 = .ok (.iload 4, 2) := by decide +kernel
theorem dX4_appraise_67 : decode cX4_appraise 67 = .ok (.isub, 1) := by decide +kernel
theorem dX4_appraise_68 : decode cX4_appraise 68 = .ok (.i2l, 1) := by decide +kernel
theorem dX4_appraise_69 : decode cX4_appraise 69 = .ok (.lload_n 1, 1) := by decide +kernel
theorem dX4_appraise_70 : decode cX4_appraise 70 = .ok (.lmul, 1) := by decide +kernel
theorem dX4_appraise_71 : decode cX4_appraise 71 = .ok (.ladd, 1) := by decide +kernel
theorem dX4_appraise_72 : decode cX4_appraise 72 = .ok (.goto 4, 3) := by decide +kernel
theorem dX4_appraise_75 : decode cX4_appraise 75 = .ok (.lconst 0, 1) := by decide +kernel
theorem dX4_appraise_76 : decode cX4_appraise 76 = .ok (.lastore, 1) := by decide +kernel
theorem dX4_appraise_77 : decode cX4_appraise 77 = .ok (.iinc 4 1, 3) := by decide +kernel
theorem dX4_appraise_80 : decode cX4_appraise 80 = .ok (.goto (-59), 3) := by decide +kernel
theorem dX4_appraise_83 : decode cX4_appraise 83 = .ok (.iinc 3 1, 3) := by decide +kernel
theorem dX4_appraise_86 : decode cX4_appraise 86 = .ok (.goto (-80), 3) := by decide +kernel
theorem dX4_appraise_89 : decode cX4_appraise 89 = .ok (.return_, 1) := by decide +kernel
theorem dX4_readOff_0 : decode cX4_readOff 0 = .ok (.aload_n 0, 1) := by decide +kernel
theorem dX4_readOff_1 : decode cX4_readOff 1 = .ok (.iconst 0, 1) := by decide +kernel
theorem dX4_readOff_2 : decode cX4_readOff 2 = .ok (.putfield 55, 3) := by decide +kernel
theorem dX4_readOff_5 : decode cX4_readOff 5 = .ok (.iconst 0, 1) := by decide +kernel
theorem dX4_readOff_6 : decode cX4_readOff 6 = .ok (.istore_n 1, 1) := by decide +kernel
theorem dX4_readOff_7 : decode cX4_readOff 7 = .ok (.iload_n 1, 1) := by decide +kernel
theorem dX4_readOff_8 : decode cX4_readOff 8 = .ok (.bipush 12, 2) := by decide +kernel
theorem dX4_readOff_10 : decode cX4_readOff 10 = .ok (.if_icmp .ge 16, 3) := by decide +kernel
theorem dX4_readOff_13 : decode cX4_readOff 13 = .ok (.aload_n 0, 1) := by decide +kernel
theorem dX4_readOff_14 : decode cX4_readOff 14 = .ok (.getfield 16, 3) := by decide +kernel
theorem dX4_readOff_17 : decode cX4_readOff 17 = .ok (.iload_n 1, 1) := by decide +kernel
theorem dX4_readOff_18 : decode cX4_readOff 18 = .ok (.iconst (-1), 1) := by decide +kernel
theorem dX4_readOff_19 : decode cX4_readOff 19 = .ok (.iastore, 1) := by decide +kernel
theorem dX4_readOff_20 : decode cX4_readOff 20 = .ok (.iinc 1 1, 3) := by decide +kernel
theorem dX4_readOff_23 : decode cX4_readOff 23 = .ok (.goto (-16), 3) := by decide +kernel
theorem dX4_readOff_26 : decode cX4_readOff 26 = .ok (.iconst 1, 1) := by decide +kernel
theorem dX4_readOff_27 : decode cX4_readOff 27 = .ok (.istore_n 1, 1) := by decide +kernel
theorem dX4_readOff_28 : decode cX4_readOff 28 = .ok (.iload_n 1, 1) := by decide +kernel
theorem dX4_readOff_29 : decode cX4_readOff 29 = .ok (.bipush 13, 2) := by decide +kernel
theorem dX4_readOff_31 : decode cX4_readOff 31 = .ok (.if_icmp .ge 63, 3) := by decide +kernel
theorem dX4_readOff_34 : decode cX4_readOff 34 = .ok (.aload_n 0, 1) := by decide +kernel
theorem dX4_readOff_35 : decode cX4_readOff 35 = .ok (.getfield 25, 3) := by decide +kernel
theorem dX4_readOff_38 : decode cX4_readOff 38 = .ok (.iload_n 1, 1) := by decide +kernel
theorem dX4_readOff_39 : decode cX4_readOff 39 = .ok (.iaload, 1) := by decide +kernel
theorem dX4_readOff_40 : decode cX4_readOff 40 = .ok (.iconst 1, 1) := by decide +kernel
theorem dX4_readOff_41 : decode cX4_readOff 41 = .ok (.isub, 1) := by decide +kernel
theorem dX4_readOff_42 : decode cX4_readOff 42 = .ok (.istore_n 2, 1) := by decide +kernel
theorem dX4_readOff_43 : decode cX4_readOff 43 = .ok (.iload_n 2, 1) := by decide +kernel
theorem dX4_readOff_44 : decode cX4_readOff 44 = .ok (.ifCond .lt 44, 3) := by decide +kernel
theorem dX4_readOff_47 : decode cX4_readOff 47 = .ok (.aload_n 0, 1) := by decide +kernel
theorem dX4_readOff_48 : decode cX4_readOff 48 = .ok (.getfield 11, 3) := by decide +kernel
theorem dX4_readOff_51 : decode cX4_readOff 51 = .ok (.iload_n 2, 1) := by decide +kernel
theorem dX4_readOff_52 : decode cX4_readOff 52 = .ok (.aaload, 1) := by decide +kernel
theorem dX4_readOff_53 : decode cX4_readOff 53 = .ok (.iload_n 1, 1) := by decide +kernel
theorem dX4_readOff_54 : decode cX4_readOff 54 = .ok (.iconst 1, 1) := by decide +kernel
theorem dX4_readOff_55 : decode cX4_readOff 55 = .ok (.isub, 1) := by decide +kernel
theorem dX4_readOff_56 : decode cX4_readOff 56 = .ok (.iaload, 1) := by decide +kernel
theorem dX4_readOff_57 : decode cX4_readOff 57 = .ok (.ifCond .le 31, 3) := by decide +kernel
theorem dX4_readOff_60 : decode cX4_readOff 60 = .ok (.aload_n 0, 1) := by decide +kernel
theorem dX4_readOff_61 : decode cX4_readOff 61 = .ok (.getfield 16, 3) := by decide +kernel
theorem dX4_readOff_64 : decode cX4_readOff 64 = .ok (.iload_n 2, 1) := by decide +kernel
theorem dX4_readOff_65 : decode cX4_readOff 65 = .ok (.iload_n 1, 1) := by decide +kernel
theorem dX4_readOff_66 : decode cX4_readOff 66 = .ok (.iconst 1, 1) := by decide +kernel
theorem dX4_readOff_67 : decode cX4_readOff 67 = .ok (.isub, 1) := by decide +kernel
theorem dX4_readOff_68 : decode cX4_readOff 68 = .ok (.iastore, 1) := by decide +kernel
theorem dX4_readOff_69 : decode cX4_readOff 69 = .ok (.aload_n 0, 1) := by decide +kernel
theorem dX4_readOff_70 : decode cX4_readOff 70 = .ok (.dup, 1) := by decide +kernel
theorem dX4_readOff_71 : decode cX4_readOff 71 = .ok (.getfield 55, 3) := by decide +kernel
theorem dX4_readOff_74 : decode cX4_readOff 74 = .ok (.aload_n 0, 1) := by decide +kernel
theorem dX4_readOff_75 : decode cX4_readOff 75 = .ok (.getfield 11, 3) := by decide +kernel
theorem dX4_readOff_78 : decode cX4_readOff 78 = .ok (.iload_n 2, 1) := by decide +kernel
theorem dX4_readOff_79 : decode cX4_readOff 79 = .ok (.aaload, 1) := by decide +kernel
theorem dX4_readOff_80 : decode cX4_readOff 80 = .ok (.iload_n 1, 1) := by decide +kernel
theorem dX4_readOff_81 : decode cX4_readOff 81 = .ok (.iconst 1, 1) := by decide +kernel
theorem dX4_readOff_82 : decode cX4_readOff 82 = .ok (.isub, 1) := by decide +kernel
theorem dX4_readOff_83 : decode cX4_readOff 83 = .ok (.iaload, 1) := by decide +kernel
theorem dX4_readOff_84 : decode cX4_readOff 84 = .ok (.iadd, 1) := by decide +kernel
theorem dX4_readOff_85 : decode cX4_readOff 85 = .ok (.putfield 55, 3) := by decide +kernel
theorem dX4_readOff_88 : decode cX4_readOff 88 = .ok (.iinc 1 1, 3) := by decide +kernel
theorem dX4_readOff_91 : decode cX4_readOff 91 = .ok (.goto (-63), 3) := by decide +kernel
theorem dX4_readOff_94 : decode cX4_readOff 94 = .ok (.return_, 1) := by decide +kernel
theorem dX4_place_0 : decode cX4_place 0 = .ok (.iconst 0, 1) := by decide +kernel
theorem dX4_place_1 : decode cX4_place 1 = .ok (.istore_n 2, 1) := by decide +kernel
theorem dX4_place_2 : decode cX4_place 2 = .ok (.iload_n 2, 1) := by decide +kernel
theorem dX4_place_3 : decode cX4_place 3 = .ok (.bipush 13, 2) := by decide +kernel
theorem dX4_place_5 : decode cX4_place 5 = .ok (.if_icmp .ge 25, 3) := by decide +kernel
theorem dX4_place_8 : decode cX4_place 8 = .ok (.aload_n 0, 1) := by decide +kernel
theorem dX4_place_9 : decode cX4_place 9 = .ok (.getfield 35, 3) := by decide +kernel
theorem dX4_place_12 : decode cX4_place 12 = .ok (.iload_n 2, 1) := by decide +kernel
theorem dX4_place_13 : decode cX4_place 13 = .ok (.ldc2_w 66, 3) := by decide +kernel
theorem dX4_place_16 : decode cX4_place 16 = .ok (.lastore, 1) := by decide +kernel
theorem dX4_place_17 : decode cX4_place 17 = .ok (.aload_n 0, 1) := by decide +kernel
theorem dX4_place_18 : decode cX4_place 18 = .ok (.getfield 41, 3) := by decide +kernel
theorem dX4_place_21 : decode cX4_place 21 = .ok (.iload_n 2, 1) := by decide +kernel
theorem dX4_place_22 : decode cX4_place 22 = .ok (.iconst 0, 1) := by decide +kernel
theorem dX4_place_23 : decode cX4_place 23 = .ok (.bastore, 1) := by decide +kernel
theorem dX4_place_24 : decode cX4_place 24 = .ok (.iinc 2 1, 3) := by decide +kernel
theorem dX4_place_27 : decode cX4_place 27 = .ok (.goto (-25), 3) := by decide +kernel
theorem dX4_place_30 : decode cX4_place 30 = .ok (.aload_n 0, 1) := by decide +kernel
theorem dX4_place_31 : decode cX4_place 31 = .ok (.getfield 25, 3) := by decide +kernel
theorem dX4_place_34 : decode cX4_place 34 = .ok (.iconst 0, 1) := by decide +kernel
theorem dX4_place_35 : decode cX4_place 35 = .ok (.iload_n 1, 1) := by decide +kernel
theorem dX4_place_36 : decode cX4_place 36 = .ok (.iastore, 1) := by decide +kernel
theorem dX4_place_37 : decode cX4_place 37 = .ok (.iconst 0, 1) := by decide +kernel
theorem dX4_place_38 : decode cX4_place 38 = .ok (.istore_n 2, 1) := by decide +kernel
theorem dX4_place_39 : decode cX4_place 39 = .ok (.iconst 0, 1) := by decide +kernel
theorem dX4_place_40 : decode cX4_place 40 = .ok (.istore_n 3, 1) := by decide +kernel
theorem dX4_place_41 : decode cX4_place 41 = .ok (.iload_n 3, 1) := by decide +kernel
theorem dX4_place_42 : decode cX4_place 42 = .ok (.bipush 13, 2) := by decide +kernel
theorem dX4_place_44 : decode cX4_place 44 = .ok (.if_icmp .ge 45, 3) := by decide +kernel
theorem dX4_place_47 : decode cX4_place 47 = .ok (.aload_n 0, 1) := by decide +kernel
theorem dX4_place_48 : decode cX4_place 48 = .ok (.getfield 25, 3) := by decide +kernel
theorem dX4_place_51 : decode cX4_place 51 = .ok (.iload_n 2, 1) := by decide +kernel
theorem dX4_place_52 : decode cX4_place 52 = .ok (.iaload, 1) := by decide +kernel
theorem dX4_place_53 : decode cX4_place 53 = .ok (.ifCond .eq 36, 3) := by decide +kernel
theorem dX4_place_56 : decode cX4_place 56 = .ok (.aload_n 0, 1) := by decide +kernel
theorem dX4_place_57 : decode cX4_place 57 = .ok (.getfield 41, 3) := by decide +kernel
theorem dX4_place_60 : decode cX4_place 60 = .ok (.iload_n 2, 1) := by decide +kernel
theorem dX4_place_61 : decode cX4_place 61 = .ok (.iconst 1, 1) := by decide +kernel
theorem dX4_place_62 : decode cX4_place 62 = .ok (.bastore, 1) := by decide +kernel
theorem dX4_place_63 : decode cX4_place 63 = .ok (.aload_n 0, 1) := by decide +kernel
theorem dX4_place_64 : decode cX4_place 64 = .ok (.iload_n 2, 1) := by decide +kernel
theorem dX4_place_65 : decode cX4_place 65 = .ok (.invokevirtual 68, 3) := by decide +kernel
theorem dX4_place_68 : decode cX4_place 68 = .ok (.aload_n 0, 1) := by decide +kernel
theorem dX4_place_69 : decode cX4_place 69 = .ok (.invokevirtual 71, 3) := by decide +kernel
theorem dX4_place_72 : decode cX4_place 72 = .ok (.istore_n 2, 1) := by decide +kernel
theorem dX4_place_73 : decode cX4_place 73 = .ok (.aload_n 0, 1) := by decide +kernel
theorem dX4_place_74 : decode cX4_place 74 = .ok (.aload_n 0, 1) := by decide +kernel
theorem dX4_place_75 : decode cX4_place 75 = .ok (.getfield 35, 3) := by decide +kernel
theorem dX4_place_78 : decode cX4_place 78 = .ok (.iload_n 2, 1) := by decide +kernel
theorem dX4_place_79 : decode cX4_place 79 = .ok (.laload, 1) := by decide +kernel
theorem dX4_place_80 : decode cX4_place 80 = .ok (.invokevirtual 75, 3) := by decide +kernel
theorem dX4_place_83 : decode cX4_place 83 = .ok (.iinc 3 1, 3) := by decide +kernel
theorem dX4_place_86 : decode cX4_place 86 = .ok (.goto (-45), 3) := by decide +kernel
theorem dX4_place_89 : decode cX4_place 89 = .ok (.iconst 0, 1) := by decide +kernel
theorem dX4_place_90 : decode cX4_place 90 = .ok (.istore_n 3, 1) := by decide +kernel
theorem dX4_place_91 : decode cX4_place 91 = .ok (.iload_n 3, 1) := by decide +kernel
theorem dX4_place_92 : decode cX4_place 92 = .ok (.bipush 13, 2) := by decide +kernel
theorem dX4_place_94 : decode cX4_place 94 = .ok (.if_icmp .ge 37, 3) := by decide +kernel
theorem dX4_place_97 : decode cX4_place 97 = .ok (.iload_n 2, 1) := by decide +kernel
theorem dX4_place_98 : decode cX4_place 98 = .ok (.ifCond .eq 33, 3) := by decide +kernel
theorem dX4_place_101 : decode cX4_place 101 = .ok (.aload_n 0, 1) := by decide +kernel
theorem dX4_place_102 : decode cX4_place 102 = .ok (.getfield 38, 3) := by decide +kernel
theorem dX4_place_105 : decode cX4_place 105 = .ok (.iload_n 2, 1) := by decide +kernel
theorem dX4_place_106 : decode cX4_place 106 = .ok (.iaload, 1) := by decide +kernel
theorem dX4_place_107 : decode cX4_place 107 = .ok (.istore 4, 2) := by decide +kernel
theorem dX4_place_109 : decode cX4_place 109 = .ok (.aload_n 0, 1) := by decide +kernel
theorem dX4_place_110 : decode cX4_place 110 = .ok (.getfield 25, 3) := by decide +kernel
theorem dX4_place_113 : decode cX4_place 113 = .ok (.iload_n 2, 1) := by decide +kernel
theorem dX4_place_114 : decode cX4_place 114 = .ok (.aload_n 0, 1) := by decide +kernel
theorem dX4_place_115 : decode cX4_place 115 = .ok (.getfield 25, 3) := by decide +kernel
theorem dX4_place_118 : decode cX4_place 118 = .ok (.iload 4, 2) := by decide +kernel
theorem dX4_place_120 : decode cX4_place 120 = .ok (.iaload, 1) := by decide +kernel
theorem dX4_place_121 : decode cX4_place 121 = .ok (.iastore, 1) := by decide +kernel
theorem dX4_place_122 : decode cX4_place 122 = .ok (.iload 4, 2) := by decide +kernel
theorem dX4_place_124 : decode cX4_place 124 = .ok (.istore_n 2, 1) := by decide +kernel
theorem dX4_place_125 : decode cX4_place 125 = .ok (.iinc 3 1, 3) := by decide +kernel
theorem dX4_place_128 : decode cX4_place 128 = .ok (.goto (-37), 3) := by decide +kernel
theorem dX4_place_131 : decode cX4_place 131 = .ok (.return_, 1) := by decide +kernel
theorem dX4_measure_0 : decode cX4_measure 0 = .ok (.aload_n 0, 1) := by decide +kernel
theorem dX4_measure_1 : decode cX4_measure 1 = .ok (.getfield 25, 3) := by decide +kernel
theorem dX4_measure_4 : decode cX4_measure 4 = .ok (.iload_n 1, 1) := by decide +kernel
theorem dX4_measure_5 : decode cX4_measure 5 = .ok (.iaload, 1) := by decide +kernel
theorem dX4_measure_6 : decode cX4_measure 6 = .ok (.istore_n 2, 1) := by decide +kernel
theorem dX4_measure_7 : decode cX4_measure 7 = .ok (.iconst 1, 1) := by decide +kernel
theorem dX4_measure_8 : decode cX4_measure 8 = .ok (.istore_n 3, 1) := by decide +kernel
theorem dX4_measure_9 : decode cX4_measure 9 = .ok (.iload_n 3, 1) := by decide +kernel
theorem dX4_measure_10 : decode cX4_measure 10 = .ok (.bipush 13, 2) := by decide +kernel
theorem dX4_measure_12 : decode cX4_measure 12 = .ok (.if_icmp .ge 70, 3) := by decide +kernel
theorem dX4_measure_15 : decode cX4_measure 15 = .ok (.aload_n 0, 1) := by decide +kernel
theorem dX4_measure_16 : decode cX4_measure 16 = .ok (.getfield 22, 3) := by decide +kernel
theorem dX4_measure_19 : decode cX4_measure 19 = .ok (.iload_n 2, 1) := by decide +kernel
theorem dX4_measure_20 : decode cX4_measure 20 = .ok (.aaload, 1) := by decide +kernel
theorem dX4_measure_21 : decode cX4_measure 21 = .ok (.iload_n 3, 1) := by decide +kernel
theorem dX4_measure_22 : decode cX4_measure 22 = .ok (.laload, 1) := by decide +kernel
theorem dX4_measure_23 : decode cX4_measure 23 = .ok (.lneg, 1) := by decide +kernel
theorem dX4_measure_24 : decode cX4_measure 24 = .ok (.aload_n 0, 1) := by decide +kernel
theorem dX4_measure_25 : decode cX4_measure 25 = .ok (.getfield 28, 3) := by decide +kernel
theorem dX4_measure_28 : decode cX4_measure 28 = .ok (.iload_n 2, 1) := by decide +kernel
theorem dX4_measure_29 : decode cX4_measure 29 = .ok (.laload, 1) := by decide +kernel
theorem dX4_measure_30 : decode cX4_measure 30 = .ok (.lsub, 1) := by decide +kernel
theorem dX4_measure_31 : decode cX4_measure 31 = .ok (.aload_n 0, 1) := by decide +kernel
theorem dX4_measure_32 : decode cX4_measure 32 = .ok (.getfield 32, 3) := by decide +kernel
theorem dX4_measure_35 : decode cX4_measure 35 = .ok (.iload_n 3, 1) := by decide +kernel
theorem dX4_measure_36 : decode cX4_measure 36 = .ok (.laload, 1) := by decide +kernel
theorem dX4_measure_37 : decode cX4_measure 37 = .ok (.lsub, 1) := by decide +kernel
theorem dX4_measure_38 : decode cX4_measure 38 = .ok (.lstore 4, 2) := by decide +kernel
theorem dX4_measure_40 : decode cX4_measure 40 = .ok (.aload_n 0, 1) := by decide +kernel
theorem dX4_measure_41 : decode cX4_measure 41 = .ok (.getfield 41, 3) := by decide +kernel
theorem dX4_measure_44 : decode cX4_measure 44 = .ok (.iload_n 3, 1) := by decide +kernel
theorem dX4_measure_45 : decode cX4_measure 45 = .ok (.baload, 1) := by decide +kernel
theorem dX4_measure_46 : decode cX4_measure 46 = .ok (.ifCond .ne 30, 3) := by decide +kernel
theorem dX4_measure_49 : decode cX4_measure 49 = .ok (.lload 4, 2) := by decide +kernel
theorem dX4_measure_51 : decode cX4_measure 51 = .ok (.aload_n 0, 1) := by decide +kernel
theorem dX4_measure_52 : decode cX4_measure 52 = .ok (.getfield 35, 3) := by decide +kernel
theorem dX4_measure_55 : decode cX4_measure 55 = .ok (.iload_n 3, 1) := by decide +kernel
theorem dX4_measure_56 : decode cX4_measure 56 = .ok (.laload, 1) := by decide +kernel
theorem dX4_measure_57 : decode cX4_measure 57 = .ok (.lcmp, 1) := by decide +kernel
theorem dX4_measure_58 : decode cX4_measure 58 = .ok (.ifCond .ge 18, 3) := by decide +kernel
theorem dX4_measure_61 : decode cX4_measure 61 = .ok (.aload_n 0, 1) := by decide +kernel
theorem dX4_measure_62 : decode cX4_measure 62 = .ok (.getfield 35, 3) := by decide +kernel
theorem dX4_measure_65 : decode cX4_measure 65 = .ok (.iload_n 3, 1) := by decide +kernel
theorem dX4_measure_66 : decode cX4_measure 66 = .ok (.lload 4, 2) := by decide +kernel
theorem dX4_measure_68 : decode cX4_measure 68 = .ok (.lastore, 1) := by decide +kernel
theorem dX4_measure_69 : decode cX4_measure 69 = .ok (.aload_n 0, 1) := by decide +kernel
theorem dX4_measure_70 : decode cX4_measure 70 = .ok (.getfield 38, 3) := by decide +kernel
theorem dX4_measure_73 : decode cX4_measure 73 = .ok (.iload_n 3, 1) := by decide +kernel
theorem dX4_measure_74 : decode cX4_measure 74 = .ok (.iload_n 1, 1) := by decide +kernel
theorem dX4_measure_75 : decode cX4_measure 75 = .ok (.iastore, 1) := by decide +kernel
theorem dX4_measure_76 : decode cX4_measure 76 = .ok (.iinc 3 1, 3) := by decide +kernel
theorem dX4_measure_79 : decode cX4_measure 79 = .ok (.goto (-70), 3) := by decide +kernel
theorem dX4_measure_82 : decode cX4_measure 82 = .ok (.return_, 1) := by decide +kernel
theorem dX4_nearest_0 : decode cX4_nearest 0 = .ok (.iconst 0, 1) := by decide +kernel
theorem dX4_nearest_1 : decode cX4_nearest 1 = .ok (.istore_n 1, 1) := by decide +kernel
theorem dX4_nearest_2 : decode cX4_nearest 2 = .ok (.iconst 1, 1) := by decide +kernel
theorem dX4_nearest_3 : decode cX4_nearest 3 = .ok (.istore_n 2, 1) := by decide +kernel
theorem dX4_nearest_4 : decode cX4_nearest 4 = .ok (.iload_n 2, 1) := by decide +kernel
theorem dX4_nearest_5 : decode cX4_nearest 5 = .ok (.bipush 13, 2) := by decide +kernel
theorem dX4_nearest_7 : decode cX4_nearest 7 = .ok (.if_icmp .ge 40, 3) := by decide +kernel
theorem dX4_nearest_10 : decode cX4_nearest 10 = .ok (.aload_n 0, 1) := by decide +kernel
theorem dX4_nearest_11 : decode cX4_nearest 11 = .ok (.getfield 41, 3) := by decide +kernel
theorem dX4_nearest_14 : decode cX4_nearest 14 = .ok (.iload_n 2, 1) := by decide +kernel
theorem dX4_nearest_15 : decode cX4_nearest 15 = .ok (.baload, 1) := by decide +kernel
theorem dX4_nearest_16 : decode cX4_nearest 16 = .ok (.ifCond .ne 25, 3) := by decide +kernel
theorem dX4_nearest_19 : decode cX4_nearest 19 = .ok (.iload_n 1, 1) := by decide +kernel
theorem dX4_nearest_20 : decode cX4_nearest 20 = .ok (.ifCond .eq 19, 3) := by decide +kernel
theorem dX4_nearest_23 : decode cX4_nearest 23 = .ok (.aload_n 0, 1) := by decide +kernel
theorem dX4_nearest_24 : decode cX4_nearest 24 = .ok (.getfield 35, 3) := by decide +kernel
theorem dX4_nearest_27 : decode cX4_nearest 27 = .ok (.iload_n 2, 1) := by decide +kernel
theorem dX4_nearest_28 : decode cX4_nearest 28 = .ok (.laload, 1) := by decide +kernel
theorem dX4_nearest_29 : decode cX4_nearest 29 = .ok (.aload_n 0, 1) := by decide +kernel
theorem dX4_nearest_30 : decode cX4_nearest 30 = .ok (.getfield 35, 3) := by decide +kernel
theorem dX4_nearest_33 : decode cX4_nearest 33 = .ok (.iload_n 1, 1) := by decide +kernel
theorem dX4_nearest_34 : decode cX4_nearest 34 = .ok (.laload, 1) := by decide +kernel
theorem dX4_nearest_35 : decode cX4_nearest 35 = .ok (.lcmp, 1) := by decide +kernel
theorem dX4_nearest_36 : decode cX4_nearest 36 = .ok (.ifCond .ge 5, 3) := by decide +kernel
theorem dX4_nearest_39 : decode cX4_nearest 39 = .ok (.iload_n 2, 1) := by decide +kernel
theorem dX4_nearest_40 : decode cX4_nearest 40 = .ok (.istore_n 1, 1) := by decide +kernel
theorem dX4_nearest_41 : decode cX4_nearest 41 = .ok (.iinc 2 1, 3) := by decide +kernel
theorem dX4_nearest_44 : decode cX4_nearest 44 = .ok (.goto (-40), 3) := by decide +kernel
theorem dX4_nearest_47 : decode cX4_nearest 47 = .ok (.iload_n 1, 1) := by decide +kernel
theorem dX4_nearest_48 : decode cX4_nearest 48 = .ok (.ireturn, 1) := by decide +kernel
theorem dX4_shiftPrices_0 : decode cX4_shiftPrices 0 = .ok (.iconst 0, 1) := by decide +kernel
theorem dX4_shiftPrices_1 : decode cX4_shiftPrices 1 = .ok (.istore_n 3, 1) := by decide +kernel
theorem dX4_shiftPrices_2 : decode cX4_shiftPrices 2 = .ok (.iload_n 3, 1) := by decide +kernel
theorem dX4_shiftPrices_3 : decode cX4_shiftPrices 3 = .ok (.bipush 13, 2) := by decide +kernel
theorem dX4_shiftPrices_5 : decode cX4_shiftPrices 5 = .ok (.if_icmp .ge 56, 3) := by decide +kernel
theorem dX4_shiftPrices_8 : decode cX4_shiftPrices 8 = .ok (.aload_n 0, 1) := by decide +kernel
theorem dX4_shiftPrices_9 : decode cX4_shiftPrices 9 = .ok (.getfield 41, 3) := by decide +kernel
theorem dX4_shiftPrices_12 : decode cX4_shiftPrices 12 = .ok (.iload_n 3, 1) := by decide +kernel
theorem dX4_shiftPrices_13 : decode cX4_shiftPrices 13 = .ok (.baload, 1) := by decide +kernel
theorem dX4_shiftPrices_14 : decode cX4_shiftPrices 14 = .ok (.ifCond .eq 31, 3) := by decide +kernel
theorem dX4_shiftPrices_17 : decode cX4_shiftPrices 17 = .ok (.aload_n 0, 1) := by decide +kernel
theorem dX4_shiftPrices_18 : decode cX4_shiftPrices 18 = .ok (.getfield 28, 3) := by decide +kernel
theorem dX4_shiftPrices_21 : decode cX4_shiftPrices 21 = .ok (.aload_n 0, 1) := by decide +kernel
theorem dX4_shiftPrices_22 : decode cX4_shiftPrices 22 = .ok (.getfield 25, 3) := by decide +kernel
theorem dX4_shiftPrices_25 : decode cX4_shiftPrices 25 = .ok (.iload_n 3, 1) := by decide +kernel
theorem dX4_shiftPrices_26 : decode cX4_shiftPrices 26 = .ok (.iaload, 1) := by decide +kernel
theorem dX4_shiftPrices_27 : decode cX4_shiftPrices 27 = .ok (.dup2, 1) := by decide +kernel
theorem dX4_shiftPrices_28 : decode cX4_shiftPrices 28 = .ok (.laload, 1) := by decide +kernel
theorem dX4_shiftPrices_29 : decode cX4_shiftPrices 29 = .ok (.lload_n 1, 1) := by decide +kernel
theorem dX4_shiftPrices_30 : decode cX4_shiftPrices 30 = .ok (.ladd, 1) := by decide +kernel
theorem dX4_shiftPrices_31 : decode cX4_shiftPrices 31 = .ok (.lastore, 1) := by decide +kernel
theorem dX4_shiftPrices_32 : decode cX4_shiftPrices 32 = .ok (.aload_n 0, 1) := by decide +kernel
theorem dX4_shiftPrices_33 : decode cX4_shiftPrices 33 = .ok (.getfield 32, 3) := by decide +kernel
theorem dX4_shiftPrices_36 : decode cX4_shiftPrices 36 = .ok (.iload_n 3, 1) := by decide +kernel
theorem dX4_shiftPrices_37 : decode cX4_shiftPrices 37 = .ok (.dup2, 1) := by decide +kernel
theorem dX4_shiftPrices_38 : decode cX4_shiftPrices 38 = .ok (.laload, 1) := by decide +kernel
theorem dX4_shiftPrices_39 : decode cX4_shiftPrices 39 = .ok (.lload_n 1, 1) := by decide +kernel
theorem dX4_shiftPrices_40 : decode cX4_shiftPrices 40 = .ok (.lsub, 1) := by decide +kernel
theorem dX4_shiftPrices_41 : decode cX4_shiftPrices 41 = .ok (.lastore, 1) := by decide +kernel
theorem dX4_shiftPrices_42 : decode cX4_shiftPrices 42 = .ok (.goto 13, 3) := by decide +kernel
theorem dX4_shiftPrices_45 : decode cX4_shiftPrices 45 = .ok (.aload_n 0, 1) := by decide +kernel
theorem dX4_shiftPrices_46 : decode cX4_shiftPrices 46 = .ok (.getfield 35, 3) := by decide +kernel
theorem dX4_shiftPrices_49 : decode cX4_shiftPrices 49 = .ok (.iload_n 3, 1) := by decide +kernel
theorem dX4_shiftPrices_50 : decode cX4_shiftPrices 50 = .ok (.dup2, 1) := by decide +kernel
theorem dX4_shiftPrices_51 : decode cX4_shiftPrices 51 = .ok (.laload, 1) := by decide +kernel
theorem dX4_shiftPrices_52 : decode cX4_shiftPrices 52 = .ok (.lload_n 1, 1) := by decide +kernel
theorem dX4_shiftPrices_53 : decode cX4_shiftPrices 53 = .ok (.lsub, 1) := by decide +kernel
theorem dX4_shiftPrices_54 : decode cX4_shiftPrices 54 = .ok (.lastore, 1) := by decide +kernel
theorem dX4_shiftPrices_55 : decode cX4_shiftPrices 55 = .ok (.iinc 3 1, 3) := by decide +kernel
theorem dX4_shiftPrices_58 : decode cX4_shiftPrices 58 = .ok (.goto (-56), 3) := by decide +kernel
theorem dX4_shiftPrices_61 : decode cX4_shiftPrices 61 = .ok (.return_, 1) := by decide +kernel
theorem dX5_init_0 : decode cX5_init 0 = .ok (.aload_n 0, 1) := by decide +kernel
theorem dX5_init_1 : decode cX5_init 1 = .ok (.invokespecial 3, 3) := by decide +kernel
theorem dX5_init_4 : decode cX5_init 4 = .ok (.aload_n 0, 1) := by decide +kernel
theorem dX5_init_5 : decode cX5_init 5 = .ok (.iconst 0, 1) := by decide +kernel
theorem dX5_init_6 : decode cX5_init 6 = .ok (.newarray .byte, 2) := by decide +kernel
theorem dX5_init_8 : decode cX5_init 8 = .ok (.putfield 9, 3) := by decide +kernel
theorem dX5_init_11 : decode cX5_init 11 = .ok (.aload_n 0, 1) := by decide +kernel
theorem dX5_init_12 : decode cX5_init 12 = .ok (.iconst (-1), 1) := by decide +kernel
theorem dX5_init_13 : decode cX5_init 13 = .ok (.putfield 15, 3) := by decide +kernel
theorem dX5_init_16 : decode cX5_init 16 = .ok (.return_, 1) := by decide +kernel
theorem dX5_read_0 : decode cX5_read 0 = .ok (.aload_n 0, 1) := by decide +kernel
theorem dX5_read_1 : decode cX5_read 1 = .ok (.aload_n 1, 1) := by decide +kernel
theorem dX5_read_2 : decode cX5_read 2 = .ok (.putfield 9, 3) := by decide +kernel
theorem dX5_read_5 : decode cX5_read 5 = .ok (.aload_n 0, 1) := by decide +kernel
theorem dX5_read_6 : decode cX5_read 6 = .ok (.iload_n 2, 1) := by decide +kernel
theorem dX5_read_7 : decode cX5_read 7 = .ok (.aload_n 1, 1) := by decide +kernel
theorem dX5_read_8 : decode cX5_read 8 = .ok (.arraylength, 1) := by decide +kernel
theorem dX5_read_9 : decode cX5_read 9 = .ok (.invokestatic 19, 3) := by decide +kernel
theorem dX5_read_12 : decode cX5_read 12 = .ok (.putfield 25, 3) := by decide +kernel
theorem dX5_read_15 : decode cX5_read 15 = .ok (.aload_n 0, 1) := by decide +kernel
theorem dX5_read_16 : decode cX5_read 16 = .ok (.iconst 0, 1) := by decide +kernel
theorem dX5_read_17 : decode cX5_read 17 = .ok (.putfield 28, 3) := by decide +kernel
theorem dX5_read_20 : decode cX5_read 20 = .ok (.aload_n 3, 1) := by decide +kernel
theorem dX5_read_21 : decode cX5_read 21 = .ok (.invokevirtual 31, 3) := by decide +kernel
theorem dX5_read_24 : decode cX5_read 24 = .ok (.iconst 0, 1) := by decide +kernel
theorem dX5_read_25 : decode cX5_read 25 = .ok (.istore 4, 2) := by decide +kernel
theorem dX5_read_27 : decode cX5_read 27 = .ok (.iconst 1, 1) := by decide +kernel
theorem dX5_read_28 : decode cX5_read 28 = .ok (.istore 5, 2) := by decide +kernel
theorem dX5_read_30 : decode cX5_read 30 = .ok (.aload_n 0, 1) := by decide +kernel
theorem dX5_read_31 : decode cX5_read 31 = .ok (.invokevirtual 36, 3) := by decide +kernel
theorem dX5_read_34 : decode cX5_read 34 = .ok (.iload 5, 2) := by decide +kernel
theorem dX5_read_36 : decode cX5_read 36 = .ok (.ifCond .eq 38, 3) := by decide +kernel
theorem dX5_read_39 : decode cX5_read 39 = .ok (.aload_n 0, 1) := by decide +kernel
theorem dX5_read_40 : decode cX5_read 40 = .ok (.getfield 28, 3) := by decide +kernel
theorem dX5_read_43 : decode cX5_read 43 = .ok (.aload_n 0, 1) := by decide +kernel
theorem dX5_read_44 : decode cX5_read 44 = .ok (.getfield 25, 3) := by decide +kernel
theorem dX5_read_47 : decode cX5_read 47 = .ok (.if_icmp .ge 27, 3) := by decide +kernel
theorem dX5_read_50 : decode cX5_read 50 = .ok (.iload 4, 2) := by decide +kernel
theorem dX5_read_52 : decode cX5_read 52 = .ok (.bipush 20, 2) := by decide +kernel
theorem dX5_read_54 : decode cX5_read 54 = .ok (.if_icmp .ge 20, 3) := by decide +kernel
theorem dX5_read_57 : decode cX5_read 57 = .ok (.iinc 4 1, 3) := by decide +kernel
theorem dX5_read_60 : decode cX5_read 60 = .ok (.aload_n 0, 1) := by decide +kernel
theorem dX5_read_61 : decode cX5_read 61 = .ok (.aload_n 3, 1) := by decide +kernel
theorem dX5_read_62 : decode cX5_read 62 = .ok (.invokevirtual 39, 3) := by decide +kernel
theorem dX5_read_65 : decode cX5_read 65 = .ok (.istore 5, 2) := by decide +kernel
theorem dX5_read_67 : decode cX5_read 67 = .ok (.aload_n 0, 1) := by decide +kernel
theorem dX5_read_68 : decode cX5_read 68 = .ok (.invokevirtual 36, 3) := by decide +kernel
theorem dX5_read_71 : decode cX5_read 71 = .ok (.goto (-37), 3) := by decide +kernel
theorem dX5_read_74 : decode cX5_read 74 = .ok (.aload_n 0, 1) := by decide +kernel
theorem dX5_read_75 : decode cX5_read 75 = .ok (.aload_n 0, 1) := by decide +kernel
theorem dX5_read_76 : decode cX5_read 76 = .ok (.getfield 28, 3) := by decide +kernel
theorem dX5_read_79 : decode cX5_read 79 = .ok (.aload_n 0, 1) := by decide +kernel
theorem dX5_read_80 : decode cX5_read 80 = .ok (.getfield 25, 3) := by decide +kernel
theorem dX5_read_83 : decode cX5_read 83 = .ok (.if_icmp .lt 8, 3) := by decide +kernel
theorem dX5_read_86 : decode cX5_read 86 = .ok (.iload 5, 2) := by decide +kernel
theorem dX5_read_88 : decode cX5_read 88 = .ok (.ifCond .ne 10, 3) := by decide +kernel
theorem dX5_read_91 : decode cX5_read 91 = .ok (.aload_n 0, 1) := by decide +kernel
theorem dX5_read_92 : decode cX5_read 92 = .ok (.getfield 28, 3) := by decide +kernel
theorem dX5_read_95 : decode cX5_read 95 = .ok (.goto 4, 3) := by decide +kernel
theorem dX5_read_98 : decode cX5_read 98 = .ok (.iconst (-1), 1) := by decide +kernel
theorem dX5_read_99 : decode cX5_read 99 = .ok (.putfield 15, 3) := by decide +kernel
theorem dX5_read_102 : decode cX5_read 102 = .ok (.aload_n 0, 1) := by decide +kernel
theorem dX5_read_103 : decode cX5_read 103 = .ok (.getfield 15, 3) := by decide +kernel
theorem dX5_read_106 : decode cX5_read 106 = .ok (.iconst (-1), 1) := by decide +kernel
theorem dX5_read_107 : decode cX5_read 107 = .ok (.if_icmp .ne 8, 3) := by decide +kernel
theorem dX5_read_110 : decode cX5_read 110 = .ok (.iload 4, 2) := by decide +kernel
theorem dX5_read_112 : decode cX5_read 112 = .ok (.goto 4, 3) := by decide +kernel
theorem dX5_read_115 : decode cX5_read 115 = .ok (.iconst (-1), 1) := by decide +kernel
theorem dX5_read_116 : decode cX5_read 116 = .ok (.ireturn, 1) := by decide +kernel
theorem dX5_takeStatement_0 : decode cX5_takeStatement 0 = .ok (.aload_n 0, 1) := by decide +kernel
theorem dX5_takeStatement_1 : decode cX5_takeStatement 1 = .ok (.ldc 43, 2) := by decide +kernel
theorem dX5_takeStatement_3 : decode cX5_takeStatement 3 = .ok (.invokevirtual 45, 3) := by decide +kernel
theorem dX5_takeStatement_6 : decode cX5_takeStatement 6 = .ok (.ifCond .eq 14, 3) := by decide +kernel
theorem dX5_takeStatement_9 : decode cX5_takeStatement 9 = .ok (.aload_n 0, 1) := by decide +kernel
theorem dX5_takeStatement_10 : decode cX5_takeStatement 10 = .ok (.aload_n 1, 1) := by decide +kernel
theorem dX5_takeStatement_11 : decode cX5_takeStatement 11 = .ok (.getfield 49, 3) := by decide +kernel
theorem dX5_takeStatement_14 : decode cX5_takeStatement 14 = .ok (.iconst 1, 1) := by decide +kernel
theorem dX5_takeStatement_15 : decode cX5_takeStatement 15 = .ok (.iconst 3, 1) := by decide +kernel
theorem dX5_takeStatement_16 : decode cX5_takeStatement 16 = .ok (.invokevirtual 52, 3) := by decide +kernel
theorem dX5_takeStatement_19 : decode cX5_takeStatement 19 = .ok (.ireturn, 1) := by decide +kernel
theorem dX5_takeStatement_20 : decode cX5_takeStatement 20 = .ok (.aload_n 0, 1) := by decide +kernel
theorem dX5_takeStatement_21 : decode cX5_takeStatement 21 = .ok (.ldc 56, 2) := by decide +kernel
theorem dX5_takeStatement_23 : decode cX5_takeStatement 23 = .ok (.invokevirtual 45, 3) := by decide +kernel
theorem dX5_takeStatement_26 : decode cX5_takeStatement 26 = .ok (.ifCond .eq 14, 3) := by decide +kernel
theorem dX5_takeStatement_29 : decode cX5_takeStatement 29 = .ok (.aload_n 0, 1) := by decide +kernel
theorem dX5_takeStatement_30 : decode cX5_takeStatement 30 = .ok (.aload_n 1, 1) := by decide +kernel
theorem dX5_takeStatement_31 : decode cX5_takeStatement 31 = .ok (.getfield 58, 3) := by decide +kernel
theorem dX5_takeStatement_34 : decode cX5_takeStatement 34 = .ok (.iconst 0, 1) := by decide +kernel
theorem dX5_takeStatement_35 : decode cX5_takeStatement 35 = .ok (.iconst 3, 1) := by decide +kernel
theorem dX5_takeStatement_36 : decode cX5_takeStatement 36 = .ok (.invokevirtual 52, 3) := by decide +kernel
theorem dX5_takeStatement_39 : decode cX5_takeStatement 39 = .ok (.ireturn, 1) := by decide +kernel
theorem dX5_takeStatement_40 : decode cX5_takeStatement 40 = .ok (.aload_n 0, 1) := by decide +kernel
theorem dX5_takeStatement_41 : decode cX5_takeStatement 41 = .ok (.ldc 60, 2) := by decide +kernel
theorem dX5_takeStatement_43 : decode cX5_takeStatement 43 = .ok (.invokevirtual 45, 3) := by decide +kernel
theorem dX5_takeStatement_46 : decode cX5_takeStatement 46 = .ok (.ifCond .eq 15, 3) := by decide +kernel
theorem dX5_takeStatement_49 : decode cX5_takeStatement 49 = .ok (.aload_n 0, 1) := by decide +kernel
theorem dX5_takeStatement_50 : decode cX5_takeStatement 50 = .ok (.aload_n 1, 1) := by decide +kernel
theorem dX5_takeStatement_51 : decode cX5_takeStatement 51 = .ok (.getfield 62, 3) := by decide +kernel
theorem dX5_takeStatement_54 : decode cX5_takeStatement 54 = .ok (.iconst 1, 1) := by decide +kernel
theorem dX5_takeStatement_55 : decode cX5_takeStatement 55 = .ok (.bipush 9, 2) := by decide +kernel
theorem dX5_takeStatement_57 : decode cX5_takeStatement 57 = .ok (.invokevirtual 52, 3) := by decide +kernel
theorem dX5_takeStatement_60 : decode cX5_takeStatement 60 = .ok (.ireturn, 1) := by decide +kernel
theorem dX5_takeStatement_61 : decode cX5_takeStatement 61 = .ok (.aload_n 0, 1) := by decide +kernel
theorem dX5_takeStatement_62 : decode cX5_takeStatement 62 = .ok (.ldc 64, 2) := by decide +kernel
theorem dX5_takeStatement_64 : decode cX5_takeStatement 64 = .ok (.invokevirtual 45, 3) := by decide +kernel
theorem dX5_takeStatement_67 : decode cX5_takeStatement 67 = .ok (.ifCond .eq 17, 3) := by decide +kernel
theorem dX5_takeStatement_70 : decode cX5_takeStatement 70 = .ok (.aload_n 0, 1) := by decide +kernel
theorem dX5_takeStatement_71 : decode cX5_takeStatement 71 = .ok (.aload_n 1, 1) := by decide +kernel
theorem dX5_takeStatement_72 : decode cX5_takeStatement 72 = .ok (.getfield 66, 3) := by decide +kernel
theorem dX5_takeStatement_75 : decode cX5_takeStatement 75 = .ok (.iconst 0, 1) := by decide +kernel
theorem dX5_takeStatement_76 : decode cX5_takeStatement 76 = .ok (.iconst 0, 1) := by decide +kernel
theorem dX5_takeStatement_77 : decode cX5_takeStatement 77 = .ok (.sipush 999, 3) := by decide +kernel
theorem dX5_takeStatement_80 : decode cX5_takeStatement 80 = .ok (.invokevirtual 69, 3) := by decide +kernel
theorem dX5_takeStatement_83 : decode cX5_takeStatement 83 = .ok (.ireturn, 1) := by decide +kernel
theorem dX5_takeStatement_84 : decode cX5_takeStatement 84 = .ok (.aload_n 0, 1) := by decide +kernel
theorem dX5_takeStatement_85 : decode cX5_takeStatement 85 = .ok (.ldc 73, 2) := by decide +kernel
theorem dX5_takeStatement_87 : decode cX5_takeStatement 87 = .ok (.invokevirtual 45, 3) := by decide +kernel
theorem dX5_takeStatement_90 : decode cX5_takeStatement 90 = .ok (.ifCond .eq 17, 3) := by decide +kernel
theorem dX5_takeStatement_93 : decode cX5_takeStatement 93 = .ok (.aload_n 0, 1) := by decide +kernel
theorem dX5_takeStatement_94 : decode cX5_takeStatement 94 = .ok (.aload_n 1, 1) := by decide +kernel
theorem dX5_takeStatement_95 : decode cX5_takeStatement 95 = .ok (.getfield 66, 3) := by decide +kernel
theorem dX5_takeStatement_98 : decode cX5_takeStatement 98 = .ok (.iconst 1, 1) := by decide +kernel
theorem dX5_takeStatement_99 : decode cX5_takeStatement 99 = .ok (.iconst 0, 1) := by decide +kernel
theorem dX5_takeStatement_100 : decode cX5_takeStatement 100 = .ok (.sipush 999, 3) := by decide +kernel
theorem dX5_takeStatement_103 : decode cX5_takeStatement 103 = .ok (.invokevirtual 69, 3) := by decide +kernel
theorem dX5_takeStatement_106 : decode cX5_takeStatement 106 = .ok (.ireturn, 1) := by decide +kernel
theorem dX5_takeStatement_107 : decode cX5_takeStatement 107 = .ok (.aload_n 0, 1) := by decide +kernel
theorem dX5_takeStatement_108 : decode cX5_takeStatement 108 = .ok (.ldc 75, 2) := by decide +kernel
theorem dX5_takeStatement_110 : decode cX5_takeStatement 110 = .ok (.invokevirtual 45, 3) := by decide +kernel
theorem dX5_takeStatement_113 : decode cX5_takeStatement 113 = .ok (.ifCond .eq 17, 3) := by decide +kernel
theorem dX5_takeStatement_116 : decode cX5_takeStatement 116 = .ok (.aload_n 0, 1) := by decide +kernel
theorem dX5_takeStatement_117 : decode cX5_takeStatement 117 = .ok (.aload_n 1, 1) := by decide +kernel
theorem dX5_takeStatement_118 : decode cX5_takeStatement 118 = .ok (.getfield 66, 3) := by decide +kernel
theorem dX5_takeStatement_121 : decode cX5_takeStatement 121 = .ok (.iconst 2, 1) := by decide +kernel
theorem dX5_takeStatement_122 : decode cX5_takeStatement 122 = .ok (.iconst 0, 1) := by decide +kernel
theorem dX5_takeStatement_123 : decode cX5_takeStatement 123 = .ok (.sipush 999, 3) := by decide +kernel
theorem dX5_takeStatement_126 : decode cX5_takeStatement 126 = .ok (.invokevirtual 69, 3) := by decide +kernel
theorem dX5_takeStatement_129 : decode cX5_takeStatement 129 = .ok (.ireturn, 1) := by decide +kernel
theorem dX5_takeStatement_130 : decode cX5_takeStatement 130 = .ok (.aload_n 0, 1) := by decide +kernel
theorem dX5_takeStatement_131 : decode cX5_takeStatement 131 = .ok (.ldc 77, 2) := by decide +kernel
theorem dX5_takeStatement_133 : decode cX5_takeStatement 133 = .ok (.invokevirtual 45, 3) := by decide +kernel
theorem dX5_takeStatement_136 : decode cX5_takeStatement 136 = .ok (.ifCond .eq 21, 3) := by decide +kernel
theorem dX5_takeStatement_139 : decode cX5_takeStatement 139 = .ok (.aload_n 0, 1) := by decide +kernel
theorem dX5_takeStatement_140 : decode cX5_takeStatement 140 = .ok (.aload_n 1, 1) := by decide +kernel
theorem dX5_takeStatement_141 : decode cX5_takeStatement 141 = .ok (.getfield 66, 3) := by decide +kernel
theorem dX5_takeStatement_144 : decode cX5_takeStatement 144 = .ok (.iconst 3, 1) := by decide +kernel
theorem dX5_takeStatement_145 : decode cX5_takeStatement 145 = .ok (.iconst 1, 1) := by decide +kernel
theorem dX5_takeStatement_146 : decode cX5_takeStatement 146 = .ok (.iconst 5, 1) := by decide +kernel
theorem dX5_takeStatement_147 : decode cX5_takeStatement 147 = .ok (.invokevirtual 69, 3) := by decide +kernel
theorem dX5_takeStatement_150 : decode cX5_takeStatement 150 = .ok (.ifCond .eq 7, 3) := by decide +kernel
theorem dX5_takeStatement_153 : decode cX5_takeStatement 153 = .ok (.iconst 1, 1) := by decide +kernel
theorem dX5_takeStatement_154 : decode cX5_takeStatement 154 = .ok (.goto 4, 3) := by decide +kernel
theorem dX5_takeStatement_157 : decode cX5_takeStatement 157 = .ok (.iconst 0, 1) := by decide +kernel
theorem dX5_takeStatement_158 : decode cX5_takeStatement 158 = .ok (.ireturn, 1) := by decide +kernel
theorem dX5_takeEntry_0 : decode cX5_takeEntry 0 = .ok (.aload_n 0, 1) := by decide +kernel
theorem dX5_takeEntry_1 : decode cX5_takeEntry 1 = .ok (.iload_n 2, 1) := by decide +kernel
theorem dX5_takeEntry_2 : decode cX5_takeEntry 2 = .ok (.iload_n 3, 1) := by decide +kernel
theorem dX5_takeEntry_3 : decode cX5_takeEntry 3 = .ok (.aload_n 1, 1) := by decide +kernel
theorem dX5_takeEntry_4 : decode cX5_takeEntry 4 = .ok (.arraylength, 1) := by decide +kernel
theorem dX5_takeEntry_5 : decode cX5_takeEntry 5 = .ok (.iconst 1, 1) := by decide +kernel
theorem dX5_takeEntry_6 : decode cX5_takeEntry 6 = .ok (.isub, 1) := by decide +kernel
theorem dX5_takeEntry_7 : decode cX5_takeEntry 7 = .ok (.invokestatic 19, 3) := by decide +kernel
theorem dX5_takeEntry_10 : decode cX5_takeEntry 10 = .ok (.invokevirtual 79, 3) := by decide +kernel
theorem dX5_takeEntry_13 : decode cX5_takeEntry 13 = .ok (.ifCond .ne 5, 3) := by decide +kernel
theorem dX5_takeEntry_16 : decode cX5_takeEntry 16 = .ok (.iconst 0, 1) := by decide +kernel
theorem dX5_takeEntry_17 : decode cX5_takeEntry 17 = .ok (.ireturn, 1) := by decide +kernel
theorem dX5_takeEntry_18 : decode cX5_takeEntry 18 = .ok (.aload_n 0, 1) := by decide +kernel
theorem dX5_takeEntry_19 : decode cX5_takeEntry 19 = .ok (.getfield 83, 3) := by decide +kernel
theorem dX5_takeEntry_22 : decode cX5_takeEntry 22 = .ok (.istore 4, 2) := by decide +kernel
theorem dX5_takeEntry_24 : decode cX5_takeEntry 24 = .ok (.aload_n 0, 1) := by decide +kernel
theorem dX5_takeEntry_25 : decode cX5_takeEntry 25 = .ok (.ldc 86, 2) := by decide +kernel
theorem dX5_takeEntry_27 : decode cX5_takeEntry 27 = .ok (.invokevirtual 45, 3) := by decide +kernel
theorem dX5_takeEntry_30 : decode cX5_takeEntry 30 = .ok (.ifCond .eq 14, 3) := by decide +kernel
theorem dX5_takeEntry_33 : decode cX5_takeEntry 33 = .ok (.aload_n 0, 1) := by decide +kernel
theorem dX5_takeEntry_34 : decode cX5_takeEntry 34 = .ok (.iconst 0, 1) := by decide +kernel
theorem dX5_takeEntry_35 : decode cX5_takeEntry 35 = .ok (.sipush 999, 3) := by decide +kernel
theorem dX5_takeEntry_38 : decode cX5_takeEntry 38 = .ok (.invokevirtual 79, 3) := by decide +kernel
theorem dX5_takeEntry_41 : decode cX5_takeEntry 41 = .ok (.ifCond .ne 5, 3) := by decide +kernel
theorem dX5_takeEntry_44 : decode cX5_takeEntry 44 = .ok (.iconst 0, 1) := by decide +kernel
theorem dX5_takeEntry_45 : decode cX5_takeEntry 45 = .ok (.ireturn, 1) := by decide +kernel
theorem dX5_takeEntry_46 : decode cX5_takeEntry 46 = .ok (.aload_n 1, 1) := by decide +kernel
theorem dX5_takeEntry_47 : decode cX5_takeEntry 47 = .ok (.iload 4, 2) := by decide +kernel
theorem dX5_takeEntry_49 : decode cX5_takeEntry 49 = .ok (.aload_n 0, 1) := by decide +kernel
theorem dX5_takeEntry_50 : decode cX5_takeEntry 50 = .ok (.getfield 83, 3) := by decide +kernel
theorem dX5_takeEntry_53 : decode cX5_takeEntry 53 = .ok (.iastore, 1) := by decide +kernel
theorem dX5_takeEntry_54 : decode cX5_takeEntry 54 = .ok (.aload_n 0, 1) := by decide +kernel
theorem dX5_takeEntry_55 : decode cX5_takeEntry 55 = .ok (.invokevirtual 88, 3) := by decide +kernel
theorem dX5_takeEntry_58 : decode cX5_takeEntry 58 = .ok (.ireturn, 1) := by decide +kernel
theorem dX5_takeTerm_0 : decode cX5_takeTerm 0 = .ok (.aload_n 0, 1) := by decide +kernel
theorem dX5_takeTerm_1 : decode cX5_takeTerm 1 = .ok (.iload_n 3, 1) := by decide +kernel
theorem dX5_takeTerm_2 : decode cX5_takeTerm 2 = .ok (.iload 4, 2) := by decide +kernel
theorem dX5_takeTerm_4 : decode cX5_takeTerm 4 = .ok (.invokevirtual 79, 3) := by decide +kernel
theorem dX5_takeTerm_7 : decode cX5_takeTerm 7 = .ok (.ifCond .ne 5, 3) := by decide +kernel
theorem dX5_takeTerm_10 : decode cX5_takeTerm 10 = .ok (.iconst 0, 1) := by decide +kernel
theorem dX5_takeTerm_11 : decode cX5_takeTerm 11 = .ok (.ireturn, 1) := by decide +kernel
theorem dX5_takeTerm_12 : decode cX5_takeTerm 12 = .ok (.aload_n 1, 1) := by decide +kernel
theorem dX5_takeTerm_13 : decode cX5_takeTerm 13 = .ok (.iload_n 2, 1) := by decide +kernel
theorem dX5_takeTerm_14 : decode cX5_takeTerm 14 = .ok (.aload_n 0, 1) := by decide +kernel
theorem dX5_takeTerm_15 : decode cX5_takeTerm 15 = .ok (.getfield 83, 3) := by decide +kernel
theorem dX5_takeTerm_18 : decode cX5_takeTerm 18 = .ok (.iastore, 1) := by decide +kernel
theorem dX5_takeTerm_19 : decode cX5_takeTerm 19 = .ok (.aload_n 0, 1) := by decide +kernel
theorem dX5_takeTerm_20 : decode cX5_takeTerm 20 = .ok (.invokevirtual 88, 3) := by decide +kernel
theorem dX5_takeTerm_23 : decode cX5_takeTerm 23 = .ok (.ireturn, 1) := by decide +kernel
theorem dX5_takeWord_0 : decode cX5_takeWord 0 = .ok (.aload_n 0, 1) := by decide +kernel
theorem dX5_takeWord_1 : decode cX5_takeWord 1 = .ok (.invokevirtual 36, 3) := by decide +kernel
theorem dX5_takeWord_4 : decode cX5_takeWord 4 = .ok (.aload_n 0, 1) := by decide +kernel
theorem dX5_takeWord_5 : decode cX5_takeWord 5 = .ok (.bipush 97, 2) := by decide +kernel
theorem dX5_takeWord_7 : decode cX5_takeWord 7 = .ok (.bipush 122, 2) := by decide +kernel
theorem dX5_takeWord_9 : decode cX5_takeWord 9 = .ok (.invokevirtual 92, 3) := by decide +kernel
theorem dX5_takeWord_12 : decode cX5_takeWord 12 = .ok (.istore_n 2, 1) := by decide +kernel
theorem dX5_takeWord_13 : decode cX5_takeWord 13 = .ok (.iload_n 2, 1) := by decide +kernel
theorem dX5_takeWord_14 : decode cX5_takeWord 14 = .ok (.aload_n 0, 1) := by decide +kernel
theorem dX5_takeWord_15 : decode cX5_takeWord 15 = .ok (.getfield 28, 3) := by decide +kernel
theorem dX5_takeWord_18 : decode cX5_takeWord 18 = .ok (.isub, 1) := by decide +kernel
theorem dX5_takeWord_19 : decode cX5_takeWord 19 = .ok (.aload_n 1, 1) := by decide +kernel
theorem dX5_takeWord_20 : decode cX5_takeWord 20 = .ok (.invokevirtual 96, 3) := by decide +kernel
theorem dX5_takeWord_23 : decode cX5_takeWord 23 = .ok (.if_icmp .eq 5, 3) := by decide +kernel
theorem dX5_takeWord_26 : decode cX5_takeWord 26 = .ok (.iconst 0, 1) := by decide +kernel
theorem dX5_takeWord_27 : decode cX5_takeWord 27 = .ok (.ireturn, 1) := by decide +kernel
theorem dX5_takeWord_28 : decode cX5_takeWord 28 = .ok (.iconst 0, 1) := by decide +kernel
theorem dX5_takeWord_29 : decode cX5_takeWord 29 = .ok (.istore_n 3, 1) := by decide +kernel
theorem dX5_takeWord_30 : decode cX5_takeWord 30 = .ok (.iload_n 3, 1) := by decide +kernel
theorem dX5_takeWord_31 : decode cX5_takeWord 31 = .ok (.aload_n 1, 1) := by decide +kernel
theorem dX5_takeWord_32 : decode cX5_takeWord 32 = .ok (.invokevirtual 96, 3) := by decide +kernel
theorem dX5_takeWord_35 : decode cX5_takeWord 35 = .ok (.if_icmp .ge 30, 3) := by decide +kernel
theorem dX5_takeWord_38 : decode cX5_takeWord 38 = .ok (.aload_n 0, 1) := by decide +kernel
theorem dX5_takeWord_39 : decode cX5_takeWord 39 = .ok (.getfield 9, 3) := by decide +kernel
theorem dX5_takeWord_42 : decode cX5_takeWord 42 = .ok (.aload_n 0, 1) := by decide +kernel
theorem dX5_takeWord_43 : decode cX5_takeWord 43 = .ok (.getfield 28, 3) := by decide +kernel
theorem dX5_takeWord_46 : decode cX5_takeWord 46 = .ok (.iload_n 3, 1) := by decide +kernel
theorem dX5_takeWord_47 : decode cX5_takeWord 47 = .ok (.iadd, 1) := by decide +kernel
theorem dX5_takeWord_48 : decode cX5_takeWord 48 = .ok (.baload, 1) := by decide +kernel
theorem dX5_takeWord_49 : decode cX5_takeWord 49 = .ok (.aload_n 1, 1) := by decide +kernel
theorem dX5_takeWord_50 : decode cX5_takeWord 50 = .ok (.iload_n 3, 1) := by decide +kernel
theorem dX5_takeWord_51 : decode cX5_takeWord 51 = .ok (.invokevirtual 101, 3) := by decide +kernel
theorem dX5_takeWord_54 : decode cX5_takeWord 54 = .ok (.if_icmp .eq 5, 3) := by decide +kernel
theorem dX5_takeWord_57 : decode cX5_takeWord 57 = .ok (.iconst 0, 1) := by decide +kernel
theorem dX5_takeWord_58 : decode cX5_takeWord 58 = .ok (.ireturn, 1) := by decide +kernel
theorem dX5_takeWord_59 : decode cX5_takeWord 59 = .ok (.iinc 3 1, 3) := by decide +kernel
theorem dX5_takeWord_62 : decode cX5_takeWord 62 = .ok (.goto (-32), 3) := by decide +kernel
theorem dX5_takeWord_65 : decode cX5_takeWord 65 = .ok (.aload_n 0, 1) := by decide +kernel
theorem dX5_takeWord_66 : decode cX5_takeWord 66 = .ok (.iload_n 2, 1) := by decide +kernel
theorem dX5_takeWord_67 : decode cX5_takeWord 67 = .ok (.putfield 28, 3) := by decide +kernel
theorem dX5_takeWord_70 : decode cX5_takeWord 70 = .ok (.iconst 1, 1) := by decide +kernel
theorem dX5_takeWord_71 : decode cX5_takeWord 71 = .ok (.ireturn, 1) := by decide +kernel
theorem dX5_takeNumber_0 : decode cX5_takeNumber 0 = .ok (.aload_n 0, 1) := by decide +kernel
theorem dX5_takeNumber_1 : decode cX5_takeNumber 1 = .ok (.invokevirtual 36, 3) := by decide +kernel
theorem dX5_takeNumber_4 : decode cX5_takeNumber 4 = .ok (.aload_n 0, 1) := by decide +kernel
theorem dX5_takeNumber_5 : decode cX5_takeNumber 5 = .ok (.bipush 48, 2) := by decide +kernel
theorem dX5_takeNumber_7 : decode cX5_takeNumber 7 = .ok (.bipush 57, 2) := by decide +kernel
theorem dX5_takeNumber_9 : decode cX5_takeNumber 9 = .ok (.invokevirtual 92, 3) := by decide +kernel
theorem dX5_takeNumber_12 : decode cX5_takeNumber 12 = .ok (.istore_n 3, 1) := by decide +kernel
theorem dX5_takeNumber_13 : decode cX5_takeNumber 13 = .ok (.iload_n 3, 1) := by decide +kernel
theorem dX5_takeNumber_14 : decode cX5_takeNumber 14 = .ok (.aload_n 0, 1) := by decide +kernel
theorem dX5_takeNumber_15 : decode cX5_takeNumber 15 = .ok (.getfield 28, 3) := by decide +kernel
theorem dX5_takeNumber_18 : decode cX5_takeNumber 18 = .ok (.if_icmp .eq 13, 3) := by decide +kernel
theorem dX5_takeNumber_21 : decode cX5_takeNumber 21 = .ok (.iload_n 3, 1) := by decide +kernel
theorem dX5_takeNumber_22 : decode cX5_takeNumber 22 = .ok (.aload_n 0, 1) := by decide +kernel
theorem dX5_takeNumber_23 : decode cX5_takeNumber 23 = .ok (.getfield 28, 3) := by decide +kernel
theorem dX5_takeNumber_26 : decode cX5_takeNumber 26 = .ok (.isub, 1) := by decide +kernel
theorem dX5_takeNumber_27 : decode cX5_takeNumber 27 = .ok (.iconst 3, 1) := by decide +kernel
theorem dX5_takeNumber_28 : decode cX5_takeNumber 28 = .ok (.if_icmp .le 5, 3) := by decide +kernel
theorem dX5_takeNumber_31 : decode cX5_takeNumber 31 = .ok (.iconst 0, 1) := by decide +kernel
theorem dX5_takeNumber_32 : decode cX5_takeNumber 32 = .ok (.ireturn, 1) := by decide +kernel
theorem dX5_takeNumber_33 : decode cX5_takeNumber 33 = .ok (.iconst 0, 1) := by decide +kernel
theorem dX5_takeNumber_34 : decode cX5_takeNumber 34 = .ok (.istore 4, 2) := by decide +kernel
theorem dX5_takeNumber_36 : decode cX5_takeNumber 36 = .ok (.aload_n 0, 1) := by decide +kernel
theorem dX5_takeNumber_37 : decode cX5_takeNumber 37 = .ok (.getfield 28, 3) := by decide +kernel
theorem dX5_takeNumber_40 : decode cX5_takeNumber 40 = .ok (.istore 5, 2) := by decide +kernel
theorem dX5_takeNumber_42 : decode cX5_takeNumber 42 = .ok (.iload 5, 2) := by decide +kernel
theorem dX5_takeNumber_44 : decode cX5_takeNumber 44 = .ok (.iload_n 3, 1) := by decide +kernel
theorem dX5_takeNumber_45 : decode cX5_takeNumber 45 = .ok (.if_icmp .ge 27, 3) := by decide +kernel
theorem dX5_takeNumber_48 : decode cX5_takeNumber 48 = .ok (.bipush 10, 2) := by decide +kernel
theorem dX5_takeNumber_50 : decode cX5_takeNumber 50 = .ok (.iload 4, 2) := by decide +kernel
theorem dX5_takeNumber_52 : decode cX5_takeNumber 52 = .ok (.imul, 1) := by decide +kernel
theorem dX5_takeNumber_53 : decode cX5_takeNumber 53 = .ok (.aload_n 0, 1) := by decide +kernel
theorem dX5_takeNumber_54 : decode cX5_takeNumber 54 = .ok (.getfield 9, 3) := by decide +kernel
theorem dX5_takeNumber_57 : decode cX5_takeNumber 57 = .ok (.iload 5, 2) := by decide +kernel
theorem dX5_takeNumber_59 : decode cX5_takeNumber 59 = .ok (.baload, 1) := by decide +kernel
theorem dX5_takeNumber_60 : decode cX5_takeNumber 60 = .ok (.iadd, 1) := by decide +kernel
theorem dX5_takeNumber_61 : decode cX5_takeNumber 61 = .ok (.bipush 48, 2) := by decide +kernel
theorem dX5_takeNumber_63 : decode cX5_takeNumber 63 = .ok (.isub, 1) := by decide +kernel
theorem dX5_takeNumber_64 : decode cX5_takeNumber 64 = .ok (.istore 4, 2) := by decide +kernel
theorem dX5_takeNumber_66 : decode cX5_takeNumber 66 = .ok (.iinc 5 1, 3) := by decide +kernel
theorem dX5_takeNumber_69 : decode cX5_takeNumber 69 = .ok (.goto (-27), 3) := by decide +kernel
theorem dX5_takeNumber_72 : decode cX5_takeNumber 72 = .ok (.iload 4, 2) := by decide +kernel
theorem dX5_takeNumber_74 : decode cX5_takeNumber 74 = .ok (.iload_n 1, 1) := by decide +kernel
theorem dX5_takeNumber_75 : decode cX5_takeNumber 75 = .ok (.iload_n 2, 1) := by decide +kernel
theorem dX5_takeNumber_76 : decode cX5_takeNumber 76 = .ok (.invokestatic 105, 3) := by decide +kernel
theorem dX5_takeNumber_79 : decode cX5_takeNumber 79 = .ok (.ifCond .ne 5, 3) := by decide +kernel
theorem dX5_takeNumber_82 : decode cX5_takeNumber 82 = .ok (.iconst 0, 1) := by decide +kernel
theorem dX5_takeNumber_83 : decode cX5_takeNumber 83 = .ok (.ireturn, 1) := by decide +kernel
theorem dX5_takeNumber_84 : decode cX5_takeNumber 84 = .ok (.aload_n 0, 1) := by decide +kernel
theorem dX5_takeNumber_85 : decode cX5_takeNumber 85 = .ok (.iload 4, 2) := by decide +kernel
theorem dX5_takeNumber_87 : decode cX5_takeNumber 87 = .ok (.putfield 83, 3) := by decide +kernel
theorem dX5_takeNumber_90 : decode cX5_takeNumber 90 = .ok (.aload_n 0, 1) := by decide +kernel
theorem dX5_takeNumber_91 : decode cX5_takeNumber 91 = .ok (.iload_n 3, 1) := by decide +kernel
theorem dX5_takeNumber_92 : decode cX5_takeNumber 92 = .ok (.putfield 28, 3) := by decide +kernel
theorem dX5_takeNumber_95 : decode cX5_takeNumber 95 = .ok (.iconst 1, 1) := by decide +kernel
theorem dX5_takeNumber_96 : decode cX5_takeNumber 96 = .ok (.ireturn, 1) := by decide +kernel
theorem dX5_takeEnd_0 : decode cX5_takeEnd 0 = .ok (.aload_n 0, 1) := by decide +kernel
theorem dX5_takeEnd_1 : decode cX5_takeEnd 1 = .ok (.invokevirtual 36, 3) := by decide +kernel
theorem dX5_takeEnd_4 : decode cX5_takeEnd 4 = .ok (.aload_n 0, 1) := by decide +kernel
theorem dX5_takeEnd_5 : decode cX5_takeEnd 5 = .ok (.getfield 28, 3) := by decide +kernel
theorem dX5_takeEnd_8 : decode cX5_takeEnd 8 = .ok (.aload_n 0, 1) := by decide +kernel
theorem dX5_takeEnd_9 : decode cX5_takeEnd 9 = .ok (.getfield 25, 3) := by decide +kernel
theorem dX5_takeEnd_12 : decode cX5_takeEnd 12 = .ok (.if_icmp .ge 17, 3) := by decide +kernel
theorem dX5_takeEnd_15 : decode cX5_takeEnd 15 = .ok (.aload_n 0, 1) := by decide +kernel
theorem dX5_takeEnd_16 : decode cX5_takeEnd 16 = .ok (.getfield 9, 3) := by decide +kernel
theorem dX5_takeEnd_19 : decode cX5_takeEnd 19 = .ok (.aload_n 0, 1) := by decide +kernel
theorem dX5_takeEnd_20 : decode cX5_takeEnd 20 = .ok (.getfield 28, 3) := by decide +kernel
theorem dX5_takeEnd_23 : decode cX5_takeEnd 23 = .ok (.baload, 1) := by decide +kernel
theorem dX5_takeEnd_24 : decode cX5_takeEnd 24 = .ok (.bipush 59, 2) := by decide +kernel
theorem dX5_takeEnd_26 : decode cX5_takeEnd 26 = .ok (.if_icmp .eq 5, 3) := by decide +kernel
theorem dX5_takeEnd_29 : decode cX5_takeEnd 29 = .ok (.iconst 0, 1) := by decide +kernel
theorem dX5_takeEnd_30 : decode cX5_takeEnd 30 = .ok (.ireturn, 1) := by decide +kernel
theorem dX5_takeEnd_31 : decode cX5_takeEnd 31 = .ok (.aload_n 0, 1) := by decide +kernel
theorem dX5_takeEnd_32 : decode cX5_takeEnd 32 = .ok (.dup, 1) := by decide +kernel
theorem dX5_takeEnd_33 : decode cX5_takeEnd 33 = .ok (.getfield 28, 3) := by decide +kernel
theorem dX5_takeEnd_36 : decode cX5_takeEnd 36 = .ok (.iconst 1, 1) := by decide +kernel
theorem dX5_takeEnd_37 : decode cX5_takeEnd 37 = .ok (.iadd, 1) := by decide +kernel
theorem dX5_takeEnd_38 : decode cX5_takeEnd 38 = .ok (.putfield 28, 3) := by decide +kernel
theorem dX5_takeEnd_41 : decode cX5_takeEnd 41 = .ok (.iconst 1, 1) := by decide +kernel
theorem dX5_takeEnd_42 : decode cX5_takeEnd 42 = .ok (.ireturn, 1) := by decide +kernel
theorem dX5_skipBlanks_0 : decode cX5_skipBlanks 0 = .ok (.aload_n 0, 1) := by decide +kernel
theorem dX5_skipBlanks_1 : decode cX5_skipBlanks 1 = .ok (.getfield 28, 3) := by decide +kernel
theorem dX5_skipBlanks_4 : decode cX5_skipBlanks 4 = .ok (.aload_n 0, 1) := by decide +kernel
theorem dX5_skipBlanks_5 : decode cX5_skipBlanks 5 = .ok (.getfield 25, 3) := by decide +kernel
theorem dX5_skipBlanks_8 : decode cX5_skipBlanks 8 = .ok (.if_icmp .ge 44, 3) := by decide +kernel
theorem dX5_skipBlanks_11 : decode cX5_skipBlanks 11 = .ok (.aload_n 0, 1) := by decide +kernel
theorem dX5_skipBlanks_12 : decode cX5_skipBlanks 12 = .ok (.getfield 9, 3) := by decide +kernel
