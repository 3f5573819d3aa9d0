theorem dX9_tooth_21 : decode cX9_tooth 21 = .ok (.iconst 0, 1) := by decide +kernel
theorem dX9_tooth_22 : decode cX9_tooth 22 = .ok (.iconst 3, 1) := by decide +kernel
theorem dX9_tooth_23 : decode cX9_tooth 23 = .ok (.invokestatic 64, 3) := by decide +kernel
theorem dX9_tooth_26 : decode cX9_tooth 26 = .ok (.ifCond .eq 21, 3) := by decide +kernel
theorem dX9_tooth_29 : decode cX9_tooth 29 = .ok (.aload_n 0, 1) := by decide +kernel
theorem dX9_tooth_30 : decode cX9_tooth 30 = .ok (.iload_n 1, 1) := by decide +kernel
theorem dX9_tooth_31 : decode cX9_tooth 31 = .ok (.iload_n 2, 1) := by decide +kernel
theorem dX9_tooth_32 : decode cX9_tooth 32 = .ok (.iconst 1, 1) := by decide +kernel
theorem dX9_tooth_33 : decode cX9_tooth 33 = .ok (.iload_n 3, 1) := by decide +kernel
theorem dX9_tooth_34 : decode cX9_tooth 34 = .ok (.iadd, 1) := by decide +kernel
theorem dX9_tooth_35 : decode cX9_tooth 35 = .ok (.iload 4, 2) := by decide +kernel
theorem dX9_tooth_37 : decode cX9_tooth 37 = .ok (.invokevirtual 72, 3) := by decide +kernel
theorem dX9_tooth_40 : decode cX9_tooth 40 = .ok (.ifCond .eq 7, 3) := by decide +kernel
theorem dX9_tooth_43 : decode cX9_tooth 43 = .ok (.iconst 1, 1) := by decide +kernel
theorem dX9_tooth_44 : decode cX9_tooth 44 = .ok (.goto 4, 3) := by decide +kernel
theorem dX9_tooth_47 : decode cX9_tooth 47 = .ok (.iconst 0, 1) := by decide +kernel
theorem dX9_tooth_48 : decode cX9_tooth 48 = .ok (.ireturn, 1) := by decide +kernel
theorem dX9_mark_0 : decode cX9_mark 0 = .ok (.aload_n 0, 1) := by decide +kernel
theorem dX9_mark_1 : decode cX9_mark 1 = .ok (.iload_n 1, 1) := by decide +kernel
theorem dX9_mark_2 : decode cX9_mark 2 = .ok (.iload_n 2, 1) := by decide +kernel
theorem dX9_mark_3 : decode cX9_mark 3 = .ok (.invokevirtual 68, 3) := by decide +kernel
theorem dX9_mark_6 : decode cX9_mark 6 = .ok (.ifCond .eq 42, 3) := by decide +kernel
theorem dX9_mark_9 : decode cX9_mark 9 = .ok (.iload_n 3, 1) := by decide +kernel
theorem dX9_mark_10 : decode cX9_mark 10 = .ok (.iconst 0, 1) := by decide +kernel
theorem dX9_mark_11 : decode cX9_mark 11 = .ok (.iconst 3, 1) := by decide +kernel
theorem dX9_mark_12 : decode cX9_mark 12 = .ok (.invokestatic 64, 3) := by decide +kernel
theorem dX9_mark_15 : decode cX9_mark 15 = .ok (.ifCond .eq 33, 3) := by decide +kernel
theorem dX9_mark_18 : decode cX9_mark 18 = .ok (.iload 4, 2) := by decide +kernel
theorem dX9_mark_20 : decode cX9_mark 20 = .ok (.iconst 0, 1) := by decide +kernel
theorem dX9_mark_21 : decode cX9_mark 21 = .ok (.bipush 9, 2) := by decide +kernel
theorem dX9_mark_23 : decode cX9_mark 23 = .ok (.invokestatic 64, 3) := by decide +kernel
theorem dX9_mark_26 : decode cX9_mark 26 = .ok (.ifCond .eq 22, 3) := by decide +kernel
theorem dX9_mark_29 : decode cX9_mark 29 = .ok (.aload_n 0, 1) := by decide +kernel
theorem dX9_mark_30 : decode cX9_mark 30 = .ok (.iload_n 1, 1) := by decide +kernel
theorem dX9_mark_31 : decode cX9_mark 31 = .ok (.iload_n 2, 1) := by decide +kernel
theorem dX9_mark_32 : decode cX9_mark 32 = .ok (.bipush 9, 2) := by decide +kernel
theorem dX9_mark_34 : decode cX9_mark 34 = .ok (.iload_n 3, 1) := by decide +kernel
theorem dX9_mark_35 : decode cX9_mark 35 = .ok (.iadd, 1) := by decide +kernel
theorem dX9_mark_36 : decode cX9_mark 36 = .ok (.iload 4, 2) := by decide +kernel
theorem dX9_mark_38 : decode cX9_mark 38 = .ok (.invokevirtual 72, 3) := by decide +kernel
theorem dX9_mark_41 : decode cX9_mark 41 = .ok (.ifCond .eq 7, 3) := by decide +kernel
theorem dX9_mark_44 : decode cX9_mark 44 = .ok (.iconst 1, 1) := by decide +kernel
theorem dX9_mark_45 : decode cX9_mark 45 = .ok (.goto 4, 3) := by decide +kernel
theorem dX9_mark_48 : decode cX9_mark 48 = .ok (.iconst 0, 1) := by decide +kernel
theorem dX9_mark_49 : decode cX9_mark 49 = .ok (.ireturn, 1) := by decide +kernel
theorem dX9_tissue_0 : decode cX9_tissue 0 = .ok (.iload_n 1, 1) := by decide +kernel
theorem dX9_tissue_1 : decode cX9_tissue 1 = .ok (.iconst 2, 1) := by decide +kernel
theorem dX9_tissue_2 : decode cX9_tissue 2 = .ok (.if_icmp .ne 7, 3) := by decide +kernel
theorem dX9_tissue_5 : decode cX9_tissue 5 = .ok (.iconst 1, 1) := by decide +kernel
theorem dX9_tissue_6 : decode cX9_tissue 6 = .ok (.goto 4, 3) := by decide +kernel
theorem dX9_tissue_9 : decode cX9_tissue 9 = .ok (.iconst 0, 1) := by decide +kernel
theorem dX9_tissue_10 : decode cX9_tissue 10 = .ok (.istore 6, 2) := by decide +kernel
theorem dX9_tissue_12 : decode cX9_tissue 12 = .ok (.aload_n 0, 1) := by decide +kernel
theorem dX9_tissue_13 : decode cX9_tissue 13 = .ok (.iload 6, 2) := by decide +kernel
theorem dX9_tissue_15 : decode cX9_tissue 15 = .ok (.ifCond .eq 7, 3) := by decide +kernel
theorem dX9_tissue_18 : decode cX9_tissue 18 = .ok (.iconst 0, 1) := by decide +kernel
theorem dX9_tissue_19 : decode cX9_tissue 19 = .ok (.goto 4, 3) := by decide +kernel
theorem dX9_tissue_22 : decode cX9_tissue 22 = .ok (.iload_n 1, 1) := by decide +kernel
theorem dX9_tissue_23 : decode cX9_tissue 23 = .ok (.iload_n 2, 1) := by decide +kernel
theorem dX9_tissue_24 : decode cX9_tissue 24 = .ok (.invokevirtual 68, 3) := by decide +kernel
theorem dX9_tissue_27 : decode cX9_tissue 27 = .ok (.ifCond .eq 39, 3) := by decide +kernel
theorem dX9_tissue_30 : decode cX9_tissue 30 = .ok (.iload_n 3, 1) := by decide +kernel
theorem dX9_tissue_31 : decode cX9_tissue 31 = .ok (.iconst 0, 1) := by decide +kernel
theorem dX9_tissue_32 : decode cX9_tissue 32 = .ok (.iconst 2, 1) := by decide +kernel
theorem dX9_tissue_33 : decode cX9_tissue 33 = .ok (.invokestatic 64, 3) := by decide +kernel
theorem dX9_tissue_36 : decode cX9_tissue 36 = .ok (.ifCond .eq 30, 3) := by decide +kernel
theorem dX9_tissue_39 : decode cX9_tissue 39 = .ok (.iload 4, 2) := by decide +kernel
theorem dX9_tissue_41 : decode cX9_tissue 41 = .ok (.ifCond .eq 27, 3) := by decide +kernel
theorem dX9_tissue_44 : decode cX9_tissue 44 = .ok (.iload 4, 2) := by decide +kernel
theorem dX9_tissue_46 : decode cX9_tissue 46 = .ok (.iconst 1, 1) := by decide +kernel
theorem dX9_tissue_47 : decode cX9_tissue 47 = .ok (.bipush 9, 2) := by decide +kernel
theorem dX9_tissue_49 : decode cX9_tissue 49 = .ok (.invokestatic 64, 3) := by decide +kernel
theorem dX9_tissue_52 : decode cX9_tissue 52 = .ok (.ifCond .eq 14, 3) := by decide +kernel
theorem dX9_tissue_55 : decode cX9_tissue 55 = .ok (.iload 5, 2) := by decide +kernel
theorem dX9_tissue_57 : decode cX9_tissue 57 = .ok (.iconst 1, 1) := by decide +kernel
theorem dX9_tissue_58 : decode cX9_tissue 58 = .ok (.bipush 9, 2) := by decide +kernel
theorem dX9_tissue_60 : decode cX9_tissue 60 = .ok (.invokestatic 64, 3) := by decide +kernel
theorem dX9_tissue_63 : decode cX9_tissue 63 = .ok (.ifCond .ne 5, 3) := by decide +kernel
theorem dX9_tissue_66 : decode cX9_tissue 66 = .ok (.iconst 0, 1) := by decide +kernel
theorem dX9_tissue_67 : decode cX9_tissue 67 = .ok (.ireturn, 1) := by decide +kernel
theorem dX9_tissue_68 : decode cX9_tissue 68 = .ok (.aload_n 0, 1) := by decide +kernel
theorem dX9_tissue_69 : decode cX9_tissue 69 = .ok (.iload 6, 2) := by decide +kernel
theorem dX9_tissue_71 : decode cX9_tissue 71 = .ok (.ifCond .eq 7, 3) := by decide +kernel
theorem dX9_tissue_74 : decode cX9_tissue 74 = .ok (.iconst 0, 1) := by decide +kernel
theorem dX9_tissue_75 : decode cX9_tissue 75 = .ok (.goto 4, 3) := by decide +kernel
theorem dX9_tissue_78 : decode cX9_tissue 78 = .ok (.iload_n 1, 1) := by decide +kernel
theorem dX9_tissue_79 : decode cX9_tissue 79 = .ok (.iload_n 2, 1) := by decide +kernel
theorem dX9_tissue_80 : decode cX9_tissue 80 = .ok (.iload 6, 2) := by decide +kernel
theorem dX9_tissue_82 : decode cX9_tissue 82 = .ok (.ifCond .eq 8, 3) := by decide +kernel
theorem dX9_tissue_85 : decode cX9_tissue 85 = .ok (.bipush 16, 2) := by decide +kernel
theorem dX9_tissue_87 : decode cX9_tissue 87 = .ok (.goto 5, 3) := by decide +kernel
theorem dX9_tissue_90 : decode cX9_tissue 90 = .ok (.bipush 13, 2) := by decide +kernel
theorem dX9_tissue_92 : decode cX9_tissue 92 = .ok (.iload_n 3, 1) := by decide +kernel
theorem dX9_tissue_93 : decode cX9_tissue 93 = .ok (.iadd, 1) := by decide +kernel
theorem dX9_tissue_94 : decode cX9_tissue 94 = .ok (.iload 4, 2) := by decide +kernel
theorem dX9_tissue_96 : decode cX9_tissue 96 = .ok (.ifCond .ne 7, 3) := by decide +kernel
theorem dX9_tissue_99 : decode cX9_tissue 99 = .ok (.iconst 0, 1) := by decide +kernel
theorem dX9_tissue_100 : decode cX9_tissue 100 = .ok (.goto 21, 3) := by decide +kernel
theorem dX9_tissue_103 : decode cX9_tissue 103 = .ok (.bipush 10, 2) := by decide +kernel
theorem dX9_tissue_105 : decode cX9_tissue 105 = .ok (.iload 4, 2) := by decide +kernel
theorem dX9_tissue_107 : decode cX9_tissue 107 = .ok (.iload 5, 2) := by decide +kernel
theorem dX9_tissue_109 : decode cX9_tissue 109 = .ok (.invokestatic 76, 3) := by decide +kernel
theorem dX9_tissue_112 : decode cX9_tissue 112 = .ok (.imul, 1) := by decide +kernel
theorem dX9_tissue_113 : decode cX9_tissue 113 = .ok (.iload 4, 2) := by decide +kernel
theorem dX9_tissue_115 : decode cX9_tissue 115 = .ok (.iload 5, 2) := by decide +kernel
theorem dX9_tissue_117 : decode cX9_tissue 117 = .ok (.invokestatic 82, 3) := by decide +kernel
theorem dX9_tissue_120 : decode cX9_tissue 120 = .ok (.iadd, 1) := by decide +kernel
theorem dX9_tissue_121 : decode cX9_tissue 121 = .ok (.invokevirtual 72, 3) := by decide +kernel
theorem dX9_tissue_124 : decode cX9_tissue 124 = .ok (.ireturn, 1) := by decide +kernel
theorem dX9_piecesOf_0 : decode cX9_piecesOf 0 = .ok (.iconst 0, 1) := by decide +kernel
theorem dX9_piecesOf_1 : decode cX9_piecesOf 1 = .ok (.istore_n 2, 1) := by decide +kernel
theorem dX9_piecesOf_2 : decode cX9_piecesOf 2 = .ok (.iconst 0, 1) := by decide +kernel
theorem dX9_piecesOf_3 : decode cX9_piecesOf 3 = .ok (.istore_n 3, 1) := by decide +kernel
theorem dX9_piecesOf_4 : decode cX9_piecesOf 4 = .ok (.iload_n 3, 1) := by decide +kernel
theorem dX9_piecesOf_5 : decode cX9_piecesOf 5 = .ok (.aload_n 0, 1) := by decide +kernel
theorem dX9_piecesOf_6 : decode cX9_piecesOf 6 = .ok (.getfield 7, 3) := by decide +kernel
theorem dX9_piecesOf_9 : decode cX9_piecesOf 9 = .ok (.iconst 1, 1) := by decide +kernel
theorem dX9_piecesOf_10 : decode cX9_piecesOf 10 = .ok (.iaload, 1) := by decide +kernel
theorem dX9_piecesOf_11 : decode cX9_piecesOf 11 = .ok (.if_icmp .ge 28, 3) := by decide +kernel
theorem dX9_piecesOf_14 : decode cX9_piecesOf 14 = .ok (.aload_n 0, 1) := by decide +kernel
theorem dX9_piecesOf_15 : decode cX9_piecesOf 15 = .ok (.getfield 25, 3) := by decide +kernel
theorem dX9_piecesOf_18 : decode cX9_piecesOf 18 = .ok (.iload_n 3, 1) := by decide +kernel
theorem dX9_piecesOf_19 : decode cX9_piecesOf 19 = .ok (.iaload, 1) := by decide +kernel
theorem dX9_piecesOf_20 : decode cX9_piecesOf 20 = .ok (.iload_n 1, 1) := by decide +kernel
theorem dX9_piecesOf_21 : decode cX9_piecesOf 21 = .ok (.if_icmp .ne 12, 3) := by decide +kernel
theorem dX9_piecesOf_24 : decode cX9_piecesOf 24 = .ok (.iload_n 2, 1) := by decide +kernel
theorem dX9_piecesOf_25 : decode cX9_piecesOf 25 = .ok (.aload_n 0, 1) := by decide +kernel
theorem dX9_piecesOf_26 : decode cX9_piecesOf 26 = .ok (.getfield 22, 3) := by decide +kernel
theorem dX9_piecesOf_29 : decode cX9_piecesOf 29 = .ok (.iload_n 3, 1) := by decide +kernel
theorem dX9_piecesOf_30 : decode cX9_piecesOf 30 = .ok (.iaload, 1) := by decide +kernel
theorem dX9_piecesOf_31 : decode cX9_piecesOf 31 = .ok (.ior, 1) := by decide +kernel
theorem dX9_piecesOf_32 : decode cX9_piecesOf 32 = .ok (.istore_n 2, 1) := by decide +kernel
theorem dX9_piecesOf_33 : decode cX9_piecesOf 33 = .ok (.iinc 3 1, 3) := by decide +kernel
theorem dX9_piecesOf_36 : decode cX9_piecesOf 36 = .ok (.goto (-32), 3) := by decide +kernel
theorem dX9_piecesOf_39 : decode cX9_piecesOf 39 = .ok (.iload_n 2, 1) := by decide +kernel
theorem dX9_piecesOf_40 : decode cX9_piecesOf 40 = .ok (.ireturn, 1) := by decide +kernel
theorem dX9_pieces_0 : decode cX9_pieces 0 = .ok (.aload_n 0, 1) := by decide +kernel
theorem dX9_pieces_1 : decode cX9_pieces 1 = .ok (.iconst 1, 1) := by decide +kernel
theorem dX9_pieces_2 : decode cX9_pieces 2 = .ok (.iload_n 1, 1) := by decide +kernel
theorem dX9_pieces_3 : decode cX9_pieces 3 = .ok (.invokevirtual 68, 3) := by decide +kernel
theorem dX9_pieces_6 : decode cX9_pieces 6 = .ok (.ifCond .eq 14, 3) := by decide +kernel
theorem dX9_pieces_9 : decode cX9_pieces 9 = .ok (.iload_n 2, 1) := by decide +kernel
theorem dX9_pieces_10 : decode cX9_pieces 10 = .ok (.iconst 0, 1) := by decide +kernel
theorem dX9_pieces_11 : decode cX9_pieces 11 = .ok (.sipush 255, 3) := by decide +kernel
theorem dX9_pieces_14 : decode cX9_pieces 14 = .ok (.invokestatic 64, 3) := by decide +kernel
theorem dX9_pieces_17 : decode cX9_pieces 17 = .ok (.ifCond .ne 5, 3) := by decide +kernel
theorem dX9_pieces_20 : decode cX9_pieces 20 = .ok (.iconst 0, 1) := by decide +kernel
theorem dX9_pieces_21 : decode cX9_pieces 21 = .ok (.ireturn, 1) := by decide +kernel
theorem dX9_pieces_22 : decode cX9_pieces 22 = .ok (.aload_n 0, 1) := by decide +kernel
theorem dX9_pieces_23 : decode cX9_pieces 23 = .ok (.getfield 22, 3) := by decide +kernel
theorem dX9_pieces_26 : decode cX9_pieces 26 = .ok (.iload_n 1, 1) := by decide +kernel
theorem dX9_pieces_27 : decode cX9_pieces 27 = .ok (.iaload, 1) := by decide +kernel
theorem dX9_pieces_28 : decode cX9_pieces 28 = .ok (.istore_n 3, 1) := by decide +kernel
theorem dX9_pieces_29 : decode cX9_pieces 29 = .ok (.aload_n 0, 1) := by decide +kernel
theorem dX9_pieces_30 : decode cX9_pieces 30 = .ok (.getfield 22, 3) := by decide +kernel
theorem dX9_pieces_33 : decode cX9_pieces 33 = .ok (.iload_n 1, 1) := by decide +kernel
theorem dX9_pieces_34 : decode cX9_pieces 34 = .ok (.iconst 0, 1) := by decide +kernel
theorem dX9_pieces_35 : decode cX9_pieces 35 = .ok (.iastore, 1) := by decide +kernel
theorem dX9_pieces_36 : decode cX9_pieces 36 = .ok (.aload_n 0, 1) := by decide +kernel
theorem dX9_pieces_37 : decode cX9_pieces 37 = .ok (.aload_n 0, 1) := by decide +kernel
theorem dX9_pieces_38 : decode cX9_pieces 38 = .ok (.getfield 25, 3) := by decide +kernel
theorem dX9_pieces_41 : decode cX9_pieces 41 = .ok (.iload_n 1, 1) := by decide +kernel
theorem dX9_pieces_42 : decode cX9_pieces 42 = .ok (.iaload, 1) := by decide +kernel
theorem dX9_pieces_43 : decode cX9_pieces 43 = .ok (.invokevirtual 85, 3) := by decide +kernel
theorem dX9_pieces_46 : decode cX9_pieces 46 = .ok (.iload_n 2, 1) := by decide +kernel
theorem dX9_pieces_47 : decode cX9_pieces 47 = .ok (.iand, 1) := by decide +kernel
theorem dX9_pieces_48 : decode cX9_pieces 48 = .ok (.ifCond .eq 7, 3) := by decide +kernel
theorem dX9_pieces_51 : decode cX9_pieces 51 = .ok (.iconst 1, 1) := by decide +kernel
theorem dX9_pieces_52 : decode cX9_pieces 52 = .ok (.goto 4, 3) := by decide +kernel
theorem dX9_pieces_55 : decode cX9_pieces 55 = .ok (.iconst 0, 1) := by decide +kernel
theorem dX9_pieces_56 : decode cX9_pieces 56 = .ok (.istore 4, 2) := by decide +kernel
theorem dX9_pieces_58 : decode cX9_pieces 58 = .ok (.aload_n 0, 1) := by decide +kernel
theorem dX9_pieces_59 : decode cX9_pieces 59 = .ok (.getfield 22, 3) := by decide +kernel
theorem dX9_pieces_62 : decode cX9_pieces 62 = .ok (.iload_n 1, 1) := by decide +kernel
theorem dX9_pieces_63 : decode cX9_pieces 63 = .ok (.iload 4, 2) := by decide +kernel
theorem dX9_pieces_65 : decode cX9_pieces 65 = .ok (.ifCond .eq 7, 3) := by decide +kernel
theorem dX9_pieces_68 : decode cX9_pieces 68 = .ok (.iload_n 3, 1) := by decide +kernel
theorem dX9_pieces_69 : decode cX9_pieces 69 = .ok (.goto 4, 3) := by decide +kernel
theorem dX9_pieces_72 : decode cX9_pieces 72 = .ok (.iload_n 2, 1) := by decide +kernel
theorem dX9_pieces_73 : decode cX9_pieces 73 = .ok (.iastore, 1) := by decide +kernel
theorem dX9_pieces_74 : decode cX9_pieces 74 = .ok (.iload 4, 2) := by decide +kernel
theorem dX9_pieces_76 : decode cX9_pieces 76 = .ok (.ifCond .ne 7, 3) := by decide +kernel
theorem dX9_pieces_79 : decode cX9_pieces 79 = .ok (.iconst 1, 1) := by decide +kernel
theorem dX9_pieces_80 : decode cX9_pieces 80 = .ok (.goto 4, 3) := by decide +kernel
theorem dX9_pieces_83 : decode cX9_pieces 83 = .ok (.iconst 0, 1) := by decide +kernel
theorem dX9_pieces_84 : decode cX9_pieces 84 = .ok (.ireturn, 1) := by decide +kernel
theorem dX9_ofBody_0 : decode cX9_ofBody 0 = .ok (.iload_n 1, 1) := by decide +kernel
theorem dX9_ofBody_1 : decode cX9_ofBody 1 = .ok (.istore_n 3, 1) := by decide +kernel
theorem dX9_ofBody_2 : decode cX9_ofBody 2 = .ok (.iload_n 3, 1) := by decide +kernel
theorem dX9_ofBody_3 : decode cX9_ofBody 3 = .ok (.aload_n 0, 1) := by decide +kernel
theorem dX9_ofBody_4 : decode cX9_ofBody 4 = .ok (.getfield 7, 3) := by decide +kernel
theorem dX9_ofBody_7 : decode cX9_ofBody 7 = .ok (.iconst 1, 1) := by decide +kernel
theorem dX9_ofBody_8 : decode cX9_ofBody 8 = .ok (.iaload, 1) := by decide +kernel
theorem dX9_ofBody_9 : decode cX9_ofBody 9 = .ok (.if_icmp .ge 43, 3) := by decide +kernel
theorem dX9_ofBody_12 : decode cX9_ofBody 12 = .ok (.aload_n 0, 1) := by decide +kernel
theorem dX9_ofBody_13 : decode cX9_ofBody 13 = .ok (.getfield 13, 3) := by decide +kernel
theorem dX9_ofBody_16 : decode cX9_ofBody 16 = .ok (.bipush 19, 2) := by decide +kernel
theorem dX9_ofBody_18 : decode cX9_ofBody 18 = .ok (.bipush 12, 2) := by decide +kernel
theorem dX9_ofBody_20 : decode cX9_ofBody 20 = .ok (.iload_n 3, 1) := by decide +kernel
theorem dX9_ofBody_21 : decode cX9_ofBody 21 = .ok (.iadd, 1) := by decide +kernel
theorem dX9_ofBody_22 : decode cX9_ofBody 22 = .ok (.imul, 1) := by decide +kernel
theorem dX9_ofBody_23 : decode cX9_ofBody 23 = .ok (.iload_n 2, 1) := by decide +kernel
theorem dX9_ofBody_24 : decode cX9_ofBody 24 = .ok (.iadd, 1) := by decide +kernel
theorem dX9_ofBody_25 : decode cX9_ofBody 25 = .ok (.iaload, 1) := by decide +kernel
theorem dX9_ofBody_26 : decode cX9_ofBody 26 = .ok (.istore 4, 2) := by decide +kernel
theorem dX9_ofBody_28 : decode cX9_ofBody 28 = .ok (.aload_n 0, 1) := by decide +kernel
theorem dX9_ofBody_29 : decode cX9_ofBody 29 = .ok (.getfield 25, 3) := by decide +kernel
theorem dX9_ofBody_32 : decode cX9_ofBody 32 = .ok (.iload_n 3, 1) := by decide +kernel
theorem dX9_ofBody_33 : decode cX9_ofBody 33 = .ok (.iaload, 1) := by decide +kernel
theorem dX9_ofBody_34 : decode cX9_ofBody 34 = .ok (.iload_n 1, 1) := by decide +kernel
theorem dX9_ofBody_35 : decode cX9_ofBody 35 = .ok (.if_icmp .ne 11, 3) := by decide +kernel
theorem dX9_ofBody_38 : decode cX9_ofBody 38 = .ok (.iload 4, 2) := by decide +kernel
theorem dX9_ofBody_40 : decode cX9_ofBody 40 = .ok (.ifCond .eq 6, 3) := by decide +kernel
theorem dX9_ofBody_43 : decode cX9_ofBody 43 = .ok (.iload 4, 2) := by decide +kernel
theorem dX9_ofBody_45 : decode cX9_ofBody 45 = .ok (.ireturn, 1) := by decide +kernel
theorem dX9_ofBody_46 : decode cX9_ofBody 46 = .ok (.iinc 3 1, 3) := by decide +kernel
theorem dX9_ofBody_49 : decode cX9_ofBody 49 = .ok (.goto (-47), 3) := by decide +kernel
theorem dX9_ofBody_52 : decode cX9_ofBody 52 = .ok (.iconst 0, 1) := by decide +kernel
theorem dX9_ofBody_53 : decode cX9_ofBody 53 = .ok (.ireturn, 1) := by decide +kernel
theorem dX9_ageOf_0 : decode cX9_ageOf 0 = .ok (.iload_n 2, 1) := by decide +kernel
theorem dX9_ageOf_1 : decode cX9_ageOf 1 = .ok (.ifCond .eq 8, 3) := by decide +kernel
theorem dX9_ageOf_4 : decode cX9_ageOf 4 = .ok (.bipush 120, 2) := by decide +kernel
theorem dX9_ageOf_6 : decode cX9_ageOf 6 = .ok (.goto 4, 3) := by decide +kernel
theorem dX9_ageOf_9 : decode cX9_ageOf 9 = .ok (.iconst 0, 1) := by decide +kernel
theorem dX9_ageOf_10 : decode cX9_ageOf 10 = .ok (.istore_n 3, 1) := by decide +kernel
theorem dX9_ageOf_11 : decode cX9_ageOf 11 = .ok (.iload_n 1, 1) := by decide +kernel
theorem dX9_ageOf_12 : decode cX9_ageOf 12 = .ok (.istore 4, 2) := by decide +kernel
theorem dX9_ageOf_14 : decode cX9_ageOf 14 = .ok (.iload 4, 2) := by decide +kernel
theorem dX9_ageOf_16 : decode cX9_ageOf 16 = .ok (.aload_n 0, 1) := by decide +kernel
theorem dX9_ageOf_17 : decode cX9_ageOf 17 = .ok (.getfield 7, 3) := by decide +kernel
theorem dX9_ageOf_20 : decode cX9_ageOf 20 = .ok (.iconst 1, 1) := by decide +kernel
theorem dX9_ageOf_21 : decode cX9_ageOf 21 = .ok (.iaload, 1) := by decide +kernel
theorem dX9_ageOf_22 : decode cX9_ageOf 22 = .ok (.if_icmp .ge 59, 3) := by decide +kernel
theorem dX9_ageOf_25 : decode cX9_ageOf 25 = .ok (.aload_n 0, 1) := by decide +kernel
theorem dX9_ageOf_26 : decode cX9_ageOf 26 = .ok (.getfield 25, 3) := by decide +kernel
theorem dX9_ageOf_29 : decode cX9_ageOf 29 = .ok (.iload 4, 2) := by decide +kernel
theorem dX9_ageOf_31 : decode cX9_ageOf 31 = .ok (.iaload, 1) := by decide +kernel
theorem dX9_ageOf_32 : decode cX9_ageOf 32 = .ok (.iload_n 1, 1) := by decide +kernel
theorem dX9_ageOf_33 : decode cX9_ageOf 33 = .ok (.if_icmp .eq 6, 3) := by decide +kernel
theorem dX9_ageOf_36 : decode cX9_ageOf 36 = .ok (.goto 39, 3) := by decide +kernel
theorem dX9_ageOf_39 : decode cX9_ageOf 39 = .ok (.iload_n 2, 1) := by decide +kernel
theorem dX9_ageOf_40 : decode cX9_ageOf 40 = .ok (.ifCond .eq 20, 3) := by decide +kernel
theorem dX9_ageOf_43 : decode cX9_ageOf 43 = .ok (.iload_n 3, 1) := by decide +kernel
theorem dX9_ageOf_44 : decode cX9_ageOf 44 = .ok (.aload_n 0, 1) := by decide +kernel
theorem dX9_ageOf_45 : decode cX9_ageOf 45 = .ok (.getfield 19, 3) := by decide +kernel
theorem dX9_ageOf_48 : decode cX9_ageOf 48 = .ok (.bipush 12, 2) := by decide +kernel
theorem dX9_ageOf_50 : decode cX9_ageOf 50 = .ok (.iload 4, 2) := by decide +kernel
theorem dX9_ageOf_52 : decode cX9_ageOf 52 = .ok (.iadd, 1) := by decide +kernel
theorem dX9_ageOf_53 : decode cX9_ageOf 53 = .ok (.iaload, 1) := by decide +kernel
theorem dX9_ageOf_54 : decode cX9_ageOf 54 = .ok (.invokestatic 76, 3) := by decide +kernel
theorem dX9_ageOf_57 : decode cX9_ageOf 57 = .ok (.goto 17, 3) := by decide +kernel
theorem dX9_ageOf_60 : decode cX9_ageOf 60 = .ok (.iload_n 3, 1) := by decide +kernel
theorem dX9_ageOf_61 : decode cX9_ageOf 61 = .ok (.aload_n 0, 1) := by decide +kernel
theorem dX9_ageOf_62 : decode cX9_ageOf 62 = .ok (.getfield 16, 3) := by decide +kernel
theorem dX9_ageOf_65 : decode cX9_ageOf 65 = .ok (.bipush 12, 2) := by decide +kernel
theorem dX9_ageOf_67 : decode cX9_ageOf 67 = .ok (.iload 4, 2) := by decide +kernel
theorem dX9_ageOf_69 : decode cX9_ageOf 69 = .ok (.iadd, 1) := by decide +kernel
theorem dX9_ageOf_70 : decode cX9_ageOf 70 = .ok (.iaload, 1) := by decide +kernel
theorem dX9_ageOf_71 : decode cX9_ageOf 71 = .ok (.invokestatic 82, 3) := by decide +kernel
theorem dX9_ageOf_74 : decode cX9_ageOf 74 = .ok (.istore_n 3, 1) := by decide +kernel
theorem dX9_ageOf_75 : decode cX9_ageOf 75 = .ok (.iinc 4 1, 3) := by decide +kernel
theorem dX9_ageOf_78 : decode cX9_ageOf 78 = .ok (.goto (-64), 3) := by decide +kernel
theorem dX9_ageOf_81 : decode cX9_ageOf 81 = .ok (.iload_n 3, 1) := by decide +kernel
theorem dX9_ageOf_82 : decode cX9_ageOf 82 = .ok (.ireturn, 1) := by decide +kernel
theorem dX9_areUnlike_0 : decode cX9_areUnlike 0 = .ok (.iload_n 0, 1) := by decide +kernel
theorem dX9_areUnlike_1 : decode cX9_areUnlike 1 = .ok (.ifCond .eq 16, 3) := by decide +kernel
theorem dX9_areUnlike_4 : decode cX9_areUnlike 4 = .ok (.iload_n 1, 1) := by decide +kernel
theorem dX9_areUnlike_5 : decode cX9_areUnlike 5 = .ok (.ifCond .eq 12, 3) := by decide +kernel
theorem dX9_areUnlike_8 : decode cX9_areUnlike 8 = .ok (.iload_n 0, 1) := by decide +kernel
theorem dX9_areUnlike_9 : decode cX9_areUnlike 9 = .ok (.iload_n 1, 1) := by decide +kernel
theorem dX9_areUnlike_10 : decode cX9_areUnlike 10 = .ok (.if_icmp .eq 7, 3) := by decide +kernel
theorem dX9_areUnlike_13 : decode cX9_areUnlike 13 = .ok (.iconst 1, 1) := by decide +kernel
theorem dX9_areUnlike_14 : decode cX9_areUnlike 14 = .ok (.goto 4, 3) := by decide +kernel
theorem dX9_areUnlike_17 : decode cX9_areUnlike 17 = .ok (.iconst 0, 1) := by decide +kernel
theorem dX9_areUnlike_18 : decode cX9_areUnlike 18 = .ok (.ireturn, 1) := by decide +kernel
theorem dX9_unfit_0 : decode cX9_unfit 0 = .ok (.aload_n 0, 1) := by decide +kernel
theorem dX9_unfit_1 : decode cX9_unfit 1 = .ok (.iconst 1, 1) := by decide +kernel
theorem dX9_unfit_2 : decode cX9_unfit 2 = .ok (.iload_n 1, 1) := by decide +kernel
theorem dX9_unfit_3 : decode cX9_unfit 3 = .ok (.invokevirtual 68, 3) := by decide +kernel
theorem dX9_unfit_6 : decode cX9_unfit 6 = .ok (.ifCond .eq 27, 3) := by decide +kernel
theorem dX9_unfit_9 : decode cX9_unfit 9 = .ok (.aload_n 0, 1) := by decide +kernel
theorem dX9_unfit_10 : decode cX9_unfit 10 = .ok (.iconst 1, 1) := by decide +kernel
theorem dX9_unfit_11 : decode cX9_unfit 11 = .ok (.iload_n 2, 1) := by decide +kernel
theorem dX9_unfit_12 : decode cX9_unfit 12 = .ok (.invokevirtual 68, 3) := by decide +kernel
theorem dX9_unfit_15 : decode cX9_unfit 15 = .ok (.ifCond .eq 18, 3) := by decide +kernel
theorem dX9_unfit_18 : decode cX9_unfit 18 = .ok (.aload_n 0, 1) := by decide +kernel
theorem dX9_unfit_19 : decode cX9_unfit 19 = .ok (.getfield 25, 3) := by decide +kernel
theorem dX9_unfit_22 : decode cX9_unfit 22 = .ok (.iload_n 1, 1) := by decide +kernel
theorem dX9_unfit_23 : decode cX9_unfit 23 = .ok (.iaload, 1) := by decide +kernel
theorem dX9_unfit_24 : decode cX9_unfit 24 = .ok (.aload_n 0, 1) := by decide +kernel
theorem dX9_unfit_25 : decode cX9_unfit 25 = .ok (.getfield 25, 3) := by decide +kernel
theorem dX9_unfit_28 : decode cX9_unfit 28 = .ok (.iload_n 2, 1) := by decide +kernel
theorem dX9_unfit_29 : decode cX9_unfit 29 = .ok (.iaload, 1) := by decide +kernel
theorem dX9_unfit_30 : decode cX9_unfit 30 = .ok (.if_icmp .ne 5, 3) := by decide +kernel
theorem dX9_unfit_33 : decode cX9_unfit 33 = .ok (.iconst 1, 1) := by decide +kernel
theorem dX9_unfit_34 : decode cX9_unfit 34 = .ok (.ireturn, 1) := by decide +kernel
theorem dX9_unfit_35 : decode cX9_unfit 35 = .ok (.aload_n 0, 1) := by decide +kernel
theorem dX9_unfit_36 : decode cX9_unfit 36 = .ok (.getfield 25, 3) := by decide +kernel
theorem dX9_unfit_39 : decode cX9_unfit 39 = .ok (.iload_n 1, 1) := by decide +kernel
theorem dX9_unfit_40 : decode cX9_unfit 40 = .ok (.iaload, 1) := by decide +kernel
theorem dX9_unfit_41 : decode cX9_unfit 41 = .ok (.istore_n 3, 1) := by decide +kernel
theorem dX9_unfit_42 : decode cX9_unfit 42 = .ok (.aload_n 0, 1) := by decide +kernel
theorem dX9_unfit_43 : decode cX9_unfit 43 = .ok (.getfield 25, 3) := by decide +kernel
theorem dX9_unfit_46 : decode cX9_unfit 46 = .ok (.iload_n 2, 1) := by decide +kernel
theorem dX9_unfit_47 : decode cX9_unfit 47 = .ok (.iaload, 1) := by decide +kernel
theorem dX9_unfit_48 : decode cX9_unfit 48 = .ok (.istore 4, 2) := by decide +kernel
theorem dX9_unfit_50 : decode cX9_unfit 50 = .ok (.aload_n 0, 1) := by decide +kernel
theorem dX9_unfit_51 : decode cX9_unfit 51 = .ok (.iload_n 3, 1) := by decide +kernel
theorem dX9_unfit_52 : decode cX9_unfit 52 = .ok (.invokevirtual 85, 3) := by decide +kernel
theorem dX9_unfit_55 : decode cX9_unfit 55 = .ok (.aload_n 0, 1) := by decide +kernel
theorem dX9_unfit_56 : decode cX9_unfit 56 = .ok (.iload 4, 2) := by decide +kernel
theorem dX9_unfit_58 : decode cX9_unfit 58 = .ok (.invokevirtual 85, 3) := by decide +kernel
theorem dX9_unfit_61 : decode cX9_unfit 61 = .ok (.iand, 1) := by decide +kernel
theorem dX9_unfit_62 : decode cX9_unfit 62 = .ok (.ifCond .eq 5, 3) := by decide +kernel
theorem dX9_unfit_65 : decode cX9_unfit 65 = .ok (.iconst 2, 1) := by decide +kernel
theorem dX9_unfit_66 : decode cX9_unfit 66 = .ok (.ireturn, 1) := by decide +kernel
theorem dX9_unfit_67 : decode cX9_unfit 67 = .ok (.aload_n 0, 1) := by decide +kernel
theorem dX9_unfit_68 : decode cX9_unfit 68 = .ok (.iload_n 3, 1) := by decide +kernel
theorem dX9_unfit_69 : decode cX9_unfit 69 = .ok (.iconst 0, 1) := by decide +kernel
theorem dX9_unfit_70 : decode cX9_unfit 70 = .ok (.invokevirtual 89, 3) := by decide +kernel
theorem dX9_unfit_73 : decode cX9_unfit 73 = .ok (.aload_n 0, 1) := by decide +kernel
theorem dX9_unfit_74 : decode cX9_unfit 74 = .ok (.iload 4, 2) := by decide +kernel
theorem dX9_unfit_76 : decode cX9_unfit 76 = .ok (.iconst 0, 1) := by decide +kernel
theorem dX9_unfit_77 : decode cX9_unfit 77 = .ok (.invokevirtual 89, 3) := by decide +kernel
theorem dX9_unfit_80 : decode cX9_unfit 80 = .ok (.invokestatic 92, 3) := by decide +kernel
theorem dX9_unfit_83 : decode cX9_unfit 83 = .ok (.ifCond .eq 5, 3) := by decide +kernel
theorem dX9_unfit_86 : decode cX9_unfit 86 = .ok (.iconst 3, 1) := by decide +kernel
theorem dX9_unfit_87 : decode cX9_unfit 87 = .ok (.ireturn, 1) := by decide +kernel
theorem dX9_unfit_88 : decode cX9_unfit 88 = .ok (.aload_n 0, 1) := by decide +kernel
theorem dX9_unfit_89 : decode cX9_unfit 89 = .ok (.iload_n 3, 1) := by decide +kernel
theorem dX9_unfit_90 : decode cX9_unfit 90 = .ok (.iconst 0, 1) := by decide +kernel
theorem dX9_unfit_91 : decode cX9_unfit 91 = .ok (.invokevirtual 95, 3) := by decide +kernel
theorem dX9_unfit_94 : decode cX9_unfit 94 = .ok (.aload_n 0, 1) := by decide +kernel
theorem dX9_unfit_95 : decode cX9_unfit 95 = .ok (.iload 4, 2) := by decide +kernel
theorem dX9_unfit_97 : decode cX9_unfit 97 = .ok (.iconst 0, 1) := by decide +kernel
theorem dX9_unfit_98 : decode cX9_unfit 98 = .ok (.invokevirtual 95, 3) := by decide +kernel
theorem dX9_unfit_101 : decode cX9_unfit 101 = .ok (.invokestatic 82, 3) := by decide +kernel
theorem dX9_unfit_104 : decode cX9_unfit 104 = .ok (.aload_n 0, 1) := by decide +kernel
theorem dX9_unfit_105 : decode cX9_unfit 105 = .ok (.iload_n 3, 1) := by decide +kernel
theorem dX9_unfit_106 : decode cX9_unfit 106 = .ok (.iconst 1, 1) := by decide +kernel
theorem dX9_unfit_107 : decode cX9_unfit 107 = .ok (.invokevirtual 95, 3) := by decide +kernel
theorem dX9_unfit_110 : decode cX9_unfit 110 = .ok (.aload_n 0, 1) := by decide +kernel
theorem dX9_unfit_111 : decode cX9_unfit 111 = .ok (.iload 4, 2) := by decide +kernel
theorem dX9_unfit_113 : decode cX9_unfit 113 = .ok (.iconst 1, 1) := by decide +kernel
theorem dX9_unfit_114 : decode cX9_unfit 114 = .ok (.invokevirtual 95, 3) := by decide +kernel
theorem dX9_unfit_117 : decode cX9_unfit 117 = .ok (.invokestatic 76, 3) := by decide +kernel
theorem dX9_unfit_120 : decode cX9_unfit 120 = .ok (.if_icmp .le 5, 3) := by decide +kernel
theorem dX9_unfit_123 : decode cX9_unfit 123 = .ok (.iconst 4, 1) := by decide +kernel
theorem dX9_unfit_124 : decode cX9_unfit 124 = .ok (.ireturn, 1) := by decide +kernel
theorem dX9_unfit_125 : decode cX9_unfit 125 = .ok (.bipush 13, 2) := by decide +kernel
theorem dX9_unfit_127 : decode cX9_unfit 127 = .ok (.istore 5, 2) := by decide +kernel
theorem dX9_unfit_129 : decode cX9_unfit 129 = .ok (.iload 5, 2) := by decide +kernel
theorem dX9_unfit_131 : decode cX9_unfit 131 = .ok (.bipush 16, 2) := by decide +kernel
theorem dX9_unfit_133 : decode cX9_unfit 133 = .ok (.if_icmp .ge 32, 3) := by decide +kernel
theorem dX9_unfit_136 : decode cX9_unfit 136 = .ok (.aload_n 0, 1) := by decide +kernel
theorem dX9_unfit_137 : decode cX9_unfit 137 = .ok (.iload_n 3, 1) := by decide +kernel
theorem dX9_unfit_138 : decode cX9_unfit 138 = .ok (.iload 5, 2) := by decide +kernel
theorem dX9_unfit_140 : decode cX9_unfit 140 = .ok (.invokevirtual 89, 3) := by decide +kernel
theorem dX9_unfit_143 : decode cX9_unfit 143 = .ok (.aload_n 0, 1) := by decide +kernel
theorem dX9_unfit_144 : decode cX9_unfit 144 = .ok (.iload 4, 2) := by decide +kernel
theorem dX9_unfit_146 : decode cX9_unfit 146 = .ok (.iload 5, 2) := by decide +kernel
theorem dX9_unfit_148 : decode cX9_unfit 148 = .ok (.invokevirtual 89, 3) := by decide +kernel
theorem dX9_unfit_151 : decode cX9_unfit 151 = .ok (.invokestatic 92, 3) := by decide +kernel
theorem dX9_unfit_154 : decode cX9_unfit 154 = .ok (.ifCond .eq 5, 3) := by decide +kernel
theorem dX9_unfit_157 : decode cX9_unfit 157 = .ok (.iconst 5, 1) := by decide +kernel
theorem dX9_unfit_158 : decode cX9_unfit 158 = .ok (.ireturn, 1) := by decide +kernel
theorem dX9_unfit_159 : decode cX9_unfit 159 = .ok (.iinc 5 1, 3) := by decide +kernel
theorem dX9_unfit_162 : decode cX9_unfit 162 = .ok (.goto (-33), 3) := by decide +kernel
theorem dX9_unfit_165 : decode cX9_unfit 165 = .ok (.aload_n 0, 1) := by decide +kernel
theorem dX9_unfit_166 : decode cX9_unfit 166 = .ok (.getfield 28, 3) := by decide +kernel
theorem dX9_unfit_169 : decode cX9_unfit 169 = .ok (.iload_n 3, 1) := by decide +kernel
theorem dX9_unfit_170 : decode cX9_unfit 170 = .ok (.iaload, 1) := by decide +kernel
theorem dX9_unfit_171 : decode cX9_unfit 171 = .ok (.iconst (-1), 1) := by decide +kernel
theorem dX9_unfit_172 : decode cX9_unfit 172 = .ok (.if_icmp .ne 14, 3) := by decide +kernel
theorem dX9_unfit_175 : decode cX9_unfit 175 = .ok (.aload_n 0, 1) := by decide +kernel
theorem dX9_unfit_176 : decode cX9_unfit 176 = .ok (.getfield 28, 3) := by decide +kernel
theorem dX9_unfit_179 : decode cX9_unfit 179 = .ok (.iload 4, 2) := by decide +kernel
theorem dX9_unfit_181 : decode cX9_unfit 181 = .ok (.iaload, 1) := by decide +kernel
theorem dX9_unfit_182 : decode cX9_unfit 182 = .ok (.iconst (-1), 1) := by decide +kernel
theorem dX9_unfit_183 : decode cX9_unfit 183 = .ok (.if_icmp .eq 8, 3) := by decide +kernel
theorem dX9_unfit_186 : decode cX9_unfit 186 = .ok (.bipush 6, 2) := by decide +kernel
theorem dX9_unfit_188 : decode cX9_unfit 188 = .ok (.goto 4, 3) := by decide +kernel
theorem dX9_unfit_191 : decode cX9_unfit 191 = .ok (.iconst 0, 1) := by decide +kernel
theorem dX9_unfit_192 : decode cX9_unfit 192 = .ok (.ireturn, 1) := by decide +kernel
theorem dX9_join_0 : decode cX9_join 0 = .ok (.aload_n 0, 1) := by decide +kernel
theorem dX9_join_1 : decode cX9_join 1 = .ok (.iload_n 1, 1) := by decide +kernel
theorem dX9_join_2 : decode cX9_join 2 = .ok (.iload_n 2, 1) := by decide +kernel
theorem dX9_join_3 : decode cX9_join 3 = .ok (.invokevirtual 99, 3) := by decide +kernel
theorem dX9_join_6 : decode cX9_join 6 = .ok (.ifCond .eq 5, 3) := by decide +kernel
theorem dX9_join_9 : decode cX9_join 9 = .ok (.iconst 0, 1) := by decide +kernel
theorem dX9_join_10 : decode cX9_join 10 = .ok (.ireturn, 1) := by decide +kernel
theorem dX9_join_11 : decode cX9_join 11 = .ok (.aload_n 0, 1) := by decide +kernel
theorem dX9_join_12 : decode cX9_join 12 = .ok (.getfield 25, 3) := by decide +kernel
theorem dX9_join_15 : decode cX9_join 15 = .ok (.iload_n 1, 1) := by decide +kernel
theorem dX9_join_16 : decode cX9_join 16 = .ok (.iaload, 1) := by decide +kernel
theorem dX9_join_17 : decode cX9_join 17 = .ok (.aload_n 0, 1) := by decide +kernel
theorem dX9_join_18 : decode cX9_join 18 = .ok (.getfield 25, 3) := by decide +kernel
theorem dX9_join_21 : decode cX9_join 21 = .ok (.iload_n 2, 1) := by decide +kernel
theorem dX9_join_22 : decode cX9_join 22 = .ok (.iaload, 1) := by decide +kernel
theorem dX9_join_23 : decode cX9_join 23 = .ok (.invokestatic 76, 3) := by decide +kernel
theorem dX9_join_26 : decode cX9_join 26 = .ok (.istore_n 3, 1) := by decide +kernel
theorem dX9_join_27 : decode cX9_join 27 = .ok (.aload_n 0, 1) := by decide +kernel
theorem dX9_join_28 : decode cX9_join 28 = .ok (.getfield 25, 3) := by decide +kernel
theorem dX9_join_31 : decode cX9_join 31 = .ok (.iload_n 1, 1) := by decide +kernel
theorem dX9_join_32 : decode cX9_join 32 = .ok (.iaload, 1) := by decide +kernel
theorem dX9_join_33 : decode cX9_join 33 = .ok (.aload_n 0, 1) := by decide +kernel
theorem dX9_join_34 : decode cX9_join 34 = .ok (.getfield 25, 3) := by decide +kernel
theorem dX9_join_37 : decode cX9_join 37 = .ok (.iload_n 2, 1) := by decide +kernel
theorem dX9_join_38 : decode cX9_join 38 = .ok (.iaload, 1) := by decide +kernel
theorem dX9_join_39 : decode cX9_join 39 = .ok (.invokestatic 82, 3) := by decide +kernel
theorem dX9_join_42 : decode cX9_join 42 = .ok (.istore 4, 2) := by decide +kernel
theorem dX9_join_44 : decode cX9_join 44 = .ok (.iconst 0, 1) := by decide +kernel
theorem dX9_join_45 : decode cX9_join 45 = .ok (.istore 5, 2) := by decide +kernel
theorem dX9_join_47 : decode cX9_join 47 = .ok (.iload 5, 2) := by decide +kernel
theorem dX9_join_49 : decode cX9_join 49 = .ok (.aload_n 0, 1) := by decide +kernel
theorem dX9_join_50 : decode cX9_join 50 = .ok (.getfield 7, 3) := by decide +kernel
theorem dX9_join_53 : decode cX9_join 53 = .ok (.iconst 1, 1) := by decide +kernel
theorem dX9_join_54 : decode cX9_join 54 = .ok (.iaload, 1) := by decide +kernel
theorem dX9_join_55 : decode cX9_join 55 = .ok (.if_icmp .ge 29, 3) := by decide +kernel
theorem dX9_join_58 : decode cX9_join 58 = .ok (.aload_n 0, 1) := by decide +kernel
theorem dX9_join_59 : decode cX9_join 59 = .ok (.getfield 25, 3) := by decide +kernel
theorem dX9_join_62 : decode cX9_join 62 = .ok (.iload 5, 2) := by decide +kernel
theorem dX9_join_64 : decode cX9_join 64 = .ok (.iaload, 1) := by decide +kernel
theorem dX9_join_65 : decode cX9_join 65 = .ok (.iload 4, 2) := by decide +kernel
theorem dX9_join_67 : decode cX9_join 67 = .ok (.if_icmp .ne 11, 3) := by decide +kernel
theorem dX9_join_70 : decode cX9_join 70 = .ok (.aload_n 0, 1) := by decide +kernel
theorem dX9_join_71 : decode cX9_join 71 = .ok (.getfield 25, 3) := by decide +kernel
theorem dX9_join_74 : decode cX9_join 74 = .ok (.iload 5, 2) := by decide +kernel
theorem dX9_join_76 : decode cX9_join 76 = .ok (.iload_n 3, 1) := by decide +kernel
theorem dX9_join_77 : decode cX9_join 77 = .ok (.iastore, 1) := by decide +kernel
theorem dX9_join_78 : decode cX9_join 78 = .ok (.iinc 5 1, 3) := by decide +kernel
theorem dX9_join_81 : decode cX9_join 81 = .ok (.goto (-34), 3) := by decide +kernel
theorem dX9_join_84 : decode cX9_join 84 = .ok (.iconst 1, 1) := by decide +kernel
theorem dX9_join_85 : decode cX9_join 85 = .ok (.ireturn, 1) := by decide +kernel
theorem dX9_body_0 : decode cX9_body 0 = .ok (.aload_n 0, 1) := by decide +kernel
theorem dX9_body_1 : decode cX9_body 1 = .ok (.iconst 1, 1) := by decide +kernel
theorem dX9_body_2 : decode cX9_body 2 = .ok (.iload_n 1, 1) := by decide +kernel
theorem dX9_body_3 : decode cX9_body 3 = .ok (.invokevirtual 68, 3) := by decide +kernel
theorem dX9_body_6 : decode cX9_body 6 = .ok (.ifCond .eq 12, 3) := by decide +kernel
theorem dX9_body_9 : decode cX9_body 9 = .ok (.aload_n 0, 1) := by decide +kernel
theorem dX9_body_10 : decode cX9_body 10 = .ok (.getfield 25, 3) := by decide +kernel
theorem dX9_body_13 : decode cX9_body 13 = .ok (.iload_n 1, 1) := by decide +kernel
theorem dX9_body_14 : decode cX9_body 14 = .ok (.iaload, 1) := by decide +kernel
theorem dX9_body_15 : decode cX9_body 15 = .ok (.goto 4, 3) := by decide +kernel
theorem dX9_body_18 : decode cX9_body 18 = .ok (.iconst (-1), 1) := by decide +kernel
theorem dX9_body_19 : decode cX9_body 19 = .ok (.ireturn, 1) := by decide +kernel
theorem dX9_sizeOf_0 : decode cX9_sizeOf 0 = .ok (.iconst 0, 1) := by decide +kernel
theorem dX9_sizeOf_1 : decode cX9_sizeOf 1 = .ok (.istore_n 2, 1) := by decide +kernel
theorem dX9_sizeOf_2 : decode cX9_sizeOf 2 = .ok (.iconst 0, 1) := by decide +kernel
theorem dX9_sizeOf_3 : decode cX9_sizeOf 3 = .ok (.istore_n 3, 1) := by decide +kernel
theorem dX9_sizeOf_4 : decode cX9_sizeOf 4 = .ok (.iload_n 3, 1) := by decide +kernel
theorem dX9_sizeOf_5 : decode cX9_sizeOf 5 = .ok (.aload_n 0, 1) := by decide +kernel
theorem dX9_sizeOf_6 : decode cX9_sizeOf 6 = .ok (.getfield 7, 3) := by decide +kernel
theorem dX9_sizeOf_9 : decode cX9_sizeOf 9 = .ok (.iconst 1, 1) := by decide +kernel
theorem dX9_sizeOf_10 : decode cX9_sizeOf 10 = .ok (.iaload, 1) := by decide +kernel
theorem dX9_sizeOf_11 : decode cX9_sizeOf 11 = .ok (.if_icmp .ge 30, 3) := by decide +kernel
theorem dX9_sizeOf_14 : decode cX9_sizeOf 14 = .ok (.iload_n 2, 1) := by decide +kernel
theorem dX9_sizeOf_15 : decode cX9_sizeOf 15 = .ok (.aload_n 0, 1) := by decide +kernel
theorem dX9_sizeOf_16 : decode cX9_sizeOf 16 = .ok (.getfield 25, 3) := by decide +kernel
theorem dX9_sizeOf_19 : decode cX9_sizeOf 19 = .ok (.iload_n 3, 1) := by decide +kernel
theorem dX9_sizeOf_20 : decode cX9_sizeOf 20 = .ok (.iaload, 1) := by decide +kernel
theorem dX9_sizeOf_21 : decode cX9_sizeOf 21 = .ok (.iload_n 1, 1) := by decide +kernel
theorem dX9_sizeOf_22 : decode cX9_sizeOf 22 = .ok (.if_icmp .ne 7, 3) := by decide +kernel
theorem dX9_sizeOf_25 : decode cX9_sizeOf 25 = .ok (.iconst 1, 1) := by decide +kernel
theorem dX9_sizeOf_26 : decode cX9_sizeOf 26 = .ok (.goto 4, 3) := by decide +kernel
theorem dX9_sizeOf_29 : decode cX9_sizeOf 29 = .ok (.iconst 0, 1) := by decide +kernel
theorem dX9_sizeOf_30 : decode cX9_sizeOf 30 = .ok (.invokestatic 102, 3) := by decide +kernel
theorem dX9_sizeOf_33 : decode cX9_sizeOf 33 = .ok (.iadd, 1) := by decide +kernel
theorem dX9_sizeOf_34 : decode cX9_sizeOf 34 = .ok (.istore_n 2, 1) := by decide +kernel
theorem dX9_sizeOf_35 : decode cX9_sizeOf 35 = .ok (.iinc 3 1, 3) := by decide +kernel
theorem dX9_sizeOf_38 : decode cX9_sizeOf 38 = .ok (.goto (-34), 3) := by decide +kernel
theorem dX9_sizeOf_41 : decode cX9_sizeOf 41 = .ok (.iload_n 2, 1) := by decide +kernel
theorem dX9_sizeOf_42 : decode cX9_sizeOf 42 = .ok (.ireturn, 1) := by decide +kernel
theorem dX9_told_0 : decode cX9_told 0 = .ok (.aload_n 0, 1) := by decide +kernel
theorem dX9_told_1 : decode cX9_told 1 = .ok (.iconst 1, 1) := by decide +kernel
theorem dX9_told_2 : decode cX9_told 2 = .ok (.iload_n 1, 1) := by decide +kernel
theorem dX9_told_3 : decode cX9_told 3 = .ok (.invokevirtual 68, 3) := by decide +kernel
theorem dX9_told_6 : decode cX9_told 6 = .ok (.ifCond .ne 5, 3) := by decide +kernel
theorem dX9_told_9 : decode cX9_told 9 = .ok (.iconst (-1), 1) := by decide +kernel
theorem dX9_told_10 : decode cX9_told 10 = .ok (.ireturn, 1) := by decide +kernel
theorem dX9_told_11 : decode cX9_told 11 = .ok (.aload_n 0, 1) := by decide +kernel
theorem dX9_told_12 : decode cX9_told 12 = .ok (.getfield 25, 3) := by decide +kernel
theorem dX9_told_15 : decode cX9_told 15 = .ok (.iload_n 1, 1) := by decide +kernel
theorem dX9_told_16 : decode cX9_told 16 = .ok (.iaload, 1) := by decide +kernel
theorem dX9_told_17 : decode cX9_told 17 = .ok (.istore_n 3, 1) := by decide +kernel
theorem dX9_told_18 : decode cX9_told 18 = .ok (.iload_n 2, 1) := by decide +kernel
theorem dX9_told_19 : decode cX9_told 19 = .ok (.bipush 10, 2) := by decide +kernel
theorem dX9_told_21 : decode cX9_told 21 = .ok (.bipush 17, 2) := by decide +kernel
theorem dX9_told_23 : decode cX9_told 23 = .ok (.invokestatic 64, 3) := by decide +kernel
theorem dX9_told_26 : decode cX9_told 26 = .ok (.ifCond .eq 15, 3) := by decide +kernel
theorem dX9_told_29 : decode cX9_told 29 = .ok (.aload_n 0, 1) := by decide +kernel
theorem dX9_told_30 : decode cX9_told 30 = .ok (.iload_n 3, 1) := by decide +kernel
theorem dX9_told_31 : decode cX9_told 31 = .ok (.iconst 1, 1) := by decide +kernel
theorem dX9_told_32 : decode cX9_told 32 = .ok (.iload_n 2, 1) := by decide +kernel
theorem dX9_told_33 : decode cX9_told 33 = .ok (.iadd, 1) := by decide +kernel
theorem dX9_told_34 : decode cX9_told 34 = .ok (.bipush 10, 2) := by decide +kernel
theorem dX9_told_36 : decode cX9_told 36 = .ok (.isub, 1) := by decide +kernel
theorem dX9_told_37 : decode cX9_told 37 = .ok (.invokevirtual 89, 3) := by decide +kernel
theorem dX9_told_40 : decode cX9_told 40 = .ok (.ireturn, 1) := by decide +kernel
theorem dX9_told_41 : decode cX9_told 41 = .ok (.iload_n 2, 1) := by decide +kernel
theorem dX9_told_42 : decode cX9_told 42 = .ok (.bipush 20, 2) := by decide +kernel
theorem dX9_told_44 : decode cX9_told 44 = .ok (.bipush 23, 2) := by decide +kernel
theorem dX9_told_46 : decode cX9_told 46 = .ok (.invokestatic 64, 3) := by decide +kernel
theorem dX9_told_49 : decode cX9_told 49 = .ok (.ifCond .eq 16, 3) := by decide +kernel
theorem dX9_told_52 : decode cX9_told 52 = .ok (.aload_n 0, 1) := by decide +kernel
theorem dX9_told_53 : decode cX9_told 53 = .ok (.iload_n 3, 1) := by decide +kernel
theorem dX9_told_54 : decode cX9_told 54 = .ok (.bipush 9, 2) := by decide +kernel
theorem dX9_told_56 : decode cX9_told 56 = .ok (.iload_n 2, 1) := by decide +kernel
theorem dX9_told_57 : decode cX9_told 57 = .ok (.iadd, 1) := by decide +kernel
theorem dX9_told_58 : decode cX9_told 58 = .ok (.bipush 20, 2) := by decide +kernel
theorem dX9_told_60 : decode cX9_told 60 = .ok (.isub, 1) := by decide +kernel
theorem dX9_told_61 : decode cX9_told 61 = .ok (.invokevirtual 89, 3) := by decide +kernel
theorem dX9_told_64 : decode cX9_told 64 = .ok (.ireturn, 1) := by decide +kernel
theorem dX9_told_65 : decode cX9_told 65 = .ok (.iload_n 2, 1) := by decide +kernel
theorem dX9_told_66 : decode cX9_told 66 = .ok (.bipush 30, 2) := by decide +kernel
theorem dX9_told_68 : decode cX9_told 68 = .ok (.bipush 32, 2) := by decide +kernel
theorem dX9_told_70 : decode cX9_told 70 = .ok (.invokestatic 64, 3) := by decide +kernel
theorem dX9_told_73 : decode cX9_told 73 = .ok (.ifCond .eq 16, 3) := by decide +kernel
theorem dX9_told_76 : decode cX9_told 76 = .ok (.aload_n 0, 1) := by decide +kernel
theorem dX9_told_77 : decode cX9_told 77 = .ok (.iload_n 3, 1) := by decide +kernel
theorem dX9_told_78 : decode cX9_told 78 = .ok (.bipush 13, 2) := by decide +kernel
theorem dX9_told_80 : decode cX9_told 80 = .ok (.iload_n 2, 1) := by decide +kernel
theorem dX9_told_81 : decode cX9_told 81 = .ok (.iadd, 1) := by decide +kernel
theorem dX9_told_82 : decode cX9_told 82 = .ok (.bipush 30, 2) := by decide +kernel
theorem dX9_told_84 : decode cX9_told 84 = .ok (.isub, 1) := by decide +kernel
theorem dX9_told_85 : decode cX9_told 85 = .ok (.invokevirtual 89, 3) := by decide +kernel
theorem dX9_told_88 : decode cX9_told 88 = .ok (.ireturn, 1) := by decide +kernel
theorem dX9_told_89 : decode cX9_told 89 = .ok (.iload_n 2, 1) := by decide +kernel
theorem dX9_told_90 : decode cX9_told 90 = .ok (.tableswitch 67 0 4 #[34, 41, 48, 55, 61], 34) := by decide +kernel
theorem dX9_told_124 : decode cX9_told 124 = .ok (.aload_n 0, 1) := by decide +kernel
theorem dX9_told_125 : decode cX9_told 125 = .ok (.iload_n 3, 1) := by decide +kernel
theorem dX9_told_126 : decode cX9_told 126 = .ok (.iconst 0, 1) := by decide +kernel
theorem dX9_told_127 : decode cX9_told 127 = .ok (.invokevirtual 89, 3) := by decide +kernel
theorem dX9_told_130 : decode cX9_told 130 = .ok (.ireturn, 1) := by decide +kernel
theorem dX9_told_131 : decode cX9_told 131 = .ok (.aload_n 0, 1) := by decide +kernel
theorem dX9_told_132 : decode cX9_told 132 = .ok (.iload_n 3, 1) := by decide +kernel
theorem dX9_told_133 : decode cX9_told 133 = .ok (.iconst 0, 1) := by decide +kernel
theorem dX9_told_134 : decode cX9_told 134 = .ok (.invokevirtual 95, 3) := by decide +kernel
theorem dX9_told_137 : decode cX9_told 137 = .ok (.ireturn, 1) := by decide +kernel
theorem dX9_told_138 : decode cX9_told 138 = .ok (.aload_n 0, 1) := by decide +kernel
theorem dX9_told_139 : decode cX9_told 139 = .ok (.iload_n 3, 1) := by decide +kernel
theorem dX9_told_140 : decode cX9_told 140 = .ok (.iconst 1, 1) := by decide +kernel
theorem dX9_told_141 : decode cX9_told 141 = .ok (.invokevirtual 95, 3) := by decide +kernel
theorem dX9_told_144 : decode cX9_told 144 = .ok (.ireturn, 1) := by decide +kernel
theorem dX9_told_145 : decode cX9_told 145 = .ok (.aload_n 0, 1) := by decide +kernel
theorem dX9_told_146 : decode cX9_told 146 = .ok (.iload_n 3, 1) := by decide +kernel
theorem dX9_told_147 : decode cX9_told 147 = .ok (.invokevirtual 85, 3) := by decide +kernel
theorem dX9_told_150 : decode cX9_told 150 = .ok (.ireturn, 1) := by decide +kernel
theorem dX9_told_151 : decode cX9_told 151 = .ok (.aload_n 0, 1) := by decide +kernel
theorem dX9_told_152 : decode cX9_told 152 = .ok (.iload_n 3, 1) := by decide +kernel
theorem dX9_told_153 : decode cX9_told 153 = .ok (.invokevirtual 106, 3) := by decide +kernel
theorem dX9_told_156 : decode cX9_told 156 = .ok (.ireturn, 1) := by decide +kernel
theorem dX9_told_157 : decode cX9_told 157 = .ok (.iconst (-1), 1) := by decide +kernel
theorem dX9_told_158 : decode cX9_told 158 = .ok (.ireturn, 1) := by decide +kernel
theorem dX9_ofMissing_0 : decode cX9_ofMissing 0 = .ok (.aload_n 0, 1) := by decide +kernel
theorem dX9_ofMissing_1 : decode cX9_ofMissing 1 = .ok (.getfield 13, 3) := by decide +kernel
theorem dX9_ofMissing_4 : decode cX9_ofMissing 4 = .ok (.bipush 19, 2) := by decide +kernel
theorem dX9_ofMissing_6 : decode cX9_ofMissing 6 = .ok (.iload_n 1, 1) := by decide +kernel
theorem dX9_ofMissing_7 : decode cX9_ofMissing 7 = .ok (.imul, 1) := by decide +kernel
theorem dX9_ofMissing_8 : decode cX9_ofMissing 8 = .ok (.iload_n 2, 1) := by decide +kernel
theorem dX9_ofMissing_9 : decode cX9_ofMissing 9 = .ok (.iadd, 1) := by decide +kernel
theorem dX9_ofMissing_10 : decode cX9_ofMissing 10 = .ok (.iaload, 1) := by decide +kernel
theorem dX9_ofMissing_11 : decode cX9_ofMissing 11 = .ok (.ireturn, 1) := by decide +kernel
theorem dX9_sharesNone_0 : decode cX9_sharesNone 0 = .ok (.iload_n 0, 1) := by decide +kernel
theorem dX9_sharesNone_1 : decode cX9_sharesNone 1 = .ok (.bipush 10, 2) := by decide +kernel
theorem dX9_sharesNone_3 : decode cX9_sharesNone 3 = .ok (.irem, 1) := by decide +kernel
theorem dX9_sharesNone_4 : decode cX9_sharesNone 4 = .ok (.iload_n 1, 1) := by decide +kernel
theorem dX9_sharesNone_5 : decode cX9_sharesNone 5 = .ok (.bipush 10, 2) := by decide +kernel
theorem dX9_sharesNone_7 : decode cX9_sharesNone 7 = .ok (.irem, 1) := by decide +kernel
theorem dX9_sharesNone_8 : decode cX9_sharesNone 8 = .ok (.if_icmp .eq 40, 3) := by decide +kernel
theorem dX9_sharesNone_11 : decode cX9_sharesNone 11 = .ok (.iload_n 0, 1) := by decide +kernel
theorem dX9_sharesNone_12 : decode cX9_sharesNone 12 = .ok (.bipush 10, 2) := by decide +kernel
theorem dX9_sharesNone_14 : decode cX9_sharesNone 14 = .ok (.irem, 1) := by decide +kernel
theorem dX9_sharesNone_15 : decode cX9_sharesNone 15 = .ok (.iload_n 1, 1) := by decide +kernel
theorem dX9_sharesNone_16 : decode cX9_sharesNone 16 = .ok (.bipush 10, 2) := by decide +kernel
theorem dX9_sharesNone_18 : decode cX9_sharesNone 18 = .ok (.idiv, 1) := by decide +kernel
theorem dX9_sharesNone_19 : decode cX9_sharesNone 19 = .ok (.if_icmp .eq 29, 3) := by decide +kernel
theorem dX9_sharesNone_22 : decode cX9_sharesNone 22 = .ok (.iload_n 0, 1) := by decide +kernel
theorem dX9_sharesNone_23 : decode cX9_sharesNone 23 = .ok (.bipush 10, 2) := by decide +kernel
theorem dX9_sharesNone_25 : decode cX9_sharesNone 25 = .ok (.idiv, 1) := by decide +kernel
theorem dX9_sharesNone_26 : decode cX9_sharesNone 26 = .ok (.iload_n 1, 1) := by decide +kernel
theorem dX9_sharesNone_27 : decode cX9_sharesNone 27 = .ok (.bipush 10, 2) := by decide +kernel
theorem dX9_sharesNone_29 : decode cX9_sharesNone 29 = .ok (.irem, 1) := by decide +kernel
theorem dX9_sharesNone_30 : decode cX9_sharesNone 30 = .ok (.if_icmp .eq 18, 3) := by decide +kernel
theorem dX9_sharesNone_33 : decode cX9_sharesNone 33 = .ok (.iload_n 0, 1) := by decide +kernel
theorem dX9_sharesNone_34 : decode cX9_sharesNone 34 = .ok (.bipush 10, 2) := by decide +kernel
theorem dX9_sharesNone_36 : decode cX9_sharesNone 36 = .ok (.idiv, 1) := by decide +kernel
theorem dX9_sharesNone_37 : decode cX9_sharesNone 37 = .ok (.iload_n 1, 1) := by decide +kernel
theorem dX9_sharesNone_38 : decode cX9_sharesNone 38 = .ok (.bipush 10, 2) := by decide +kernel
theorem dX9_sharesNone_40 : decode cX9_sharesNone 40 = .ok (.idiv, 1) := by decide +kernel
theorem dX9_sharesNone_41 : decode cX9_sharesNone 41 = .ok (.if_icmp .eq 7, 3) := by decide +kernel
theorem dX9_sharesNone_44 : decode cX9_sharesNone 44 = .ok (.iconst 1, 1) := by decide +kernel
theorem dX9_sharesNone_45 : decode cX9_sharesNone 45 = .ok (.goto 4, 3) := by decide +kernel
theorem dX9_sharesNone_48 : decode cX9_sharesNone 48 = .ok (.iconst 0, 1) := by decide +kernel
theorem dX9_sharesNone_49 : decode cX9_sharesNone 49 = .ok (.ireturn, 1) := by decide +kernel
theorem dX9_shutOf_0 : decode cX9_shutOf 0 = .ok (.aload_n 0, 1) := by decide +kernel
theorem dX9_shutOf_1 : decode cX9_shutOf 1 = .ok (.iload_n 1, 1) := by decide +kernel
theorem dX9_shutOf_2 : decode cX9_shutOf 2 = .ok (.iconst 0, 1) := by decide +kernel
theorem dX9_shutOf_3 : decode cX9_shutOf 3 = .ok (.invokevirtual 89, 3) := by decide +kernel
theorem dX9_shutOf_6 : decode cX9_shutOf 6 = .ok (.aload_n 0, 1) := by decide +kernel
theorem dX9_shutOf_7 : decode cX9_shutOf 7 = .ok (.iload_n 2, 1) := by decide +kernel
theorem dX9_shutOf_8 : decode cX9_shutOf 8 = .ok (.iconst 0, 1) := by decide +kernel
theorem dX9_shutOf_9 : decode cX9_shutOf 9 = .ok (.invokevirtual 109, 3) := by decide +kernel
theorem dX9_shutOf_12 : decode cX9_shutOf 12 = .ok (.invokestatic 92, 3) := by decide +kernel
theorem dX9_shutOf_15 : decode cX9_shutOf 15 = .ok (.ifCond .eq 5, 3) := by decide +kernel
theorem dX9_shutOf_18 : decode cX9_shutOf 18 = .ok (.iconst 1, 1) := by decide +kernel
theorem dX9_shutOf_19 : decode cX9_shutOf 19 = .ok (.ireturn, 1) := by decide +kernel
theorem dX9_shutOf_20 : decode cX9_shutOf 20 = .ok (.aload_n 0, 1) := by decide +kernel
theorem dX9_shutOf_21 : decode cX9_shutOf 21 = .ok (.iload_n 1, 1) := by decide +kernel
theorem dX9_shutOf_22 : decode cX9_shutOf 22 = .ok (.iconst 0, 1) := by decide +kernel
theorem dX9_shutOf_23 : decode cX9_shutOf 23 = .ok (.invokevirtual 95, 3) := by decide +kernel
theorem dX9_shutOf_26 : decode cX9_shutOf 26 = .ok (.aload_n 0, 1) := by decide +kernel
theorem dX9_shutOf_27 : decode cX9_shutOf 27 = .ok (.getfield 16, 3) := by decide +kernel
theorem dX9_shutOf_30 : decode cX9_shutOf 30 = .ok (.iload_n 2, 1) := by decide +kernel
theorem dX9_shutOf_31 : decode cX9_shutOf 31 = .ok (.iaload, 1) := by decide +kernel
theorem dX9_shutOf_32 : decode cX9_shutOf 32 = .ok (.invokestatic 82, 3) := by decide +kernel
theorem dX9_shutOf_35 : decode cX9_shutOf 35 = .ok (.aload_n 0, 1) := by decide +kernel
theorem dX9_shutOf_36 : decode cX9_shutOf 36 = .ok (.iload_n 1, 1) := by decide +kernel
theorem dX9_shutOf_37 : decode cX9_shutOf 37 = .ok (.iconst 1, 1) := by decide +kernel
theorem dX9_shutOf_38 : decode cX9_shutOf 38 = .ok (.invokevirtual 95, 3) := by decide +kernel
theorem dX9_shutOf_41 : decode cX9_shutOf 41 = .ok (.aload_n 0, 1) := by decide +kernel
theorem dX9_shutOf_42 : decode cX9_shutOf 42 = .ok (.getfield 19, 3) := by decide +kernel
theorem dX9_shutOf_45 : decode cX9_shutOf 45 = .ok (.iload_n 2, 1) := by decide +kernel
theorem dX9_shutOf_46 : decode cX9_shutOf 46 = .ok (.iaload, 1) := by decide +kernel
theorem dX9_shutOf_47 : decode cX9_shutOf 47 = .ok (.invokestatic 76, 3) := by decide +kernel
theorem dX9_shutOf_50 : decode cX9_shutOf 50 = .ok (.if_icmp .le 5, 3) := by decide +kernel
theorem dX9_shutOf_53 : decode cX9_shutOf 53 = .ok (.iconst 2, 1) := by decide +kernel
theorem dX9_shutOf_54 : decode cX9_shutOf 54 = .ok (.ireturn, 1) := by decide +kernel
theorem dX9_shutOf_55 : decode cX9_shutOf 55 = .ok (.iconst 1, 1) := by decide +kernel
theorem dX9_shutOf_56 : decode cX9_shutOf 56 = .ok (.istore_n 3, 1) := by decide +kernel
theorem dX9_shutOf_57 : decode cX9_shutOf 57 = .ok (.iload_n 3, 1) := by decide +kernel
theorem dX9_shutOf_58 : decode cX9_shutOf 58 = .ok (.bipush 9, 2) := by decide +kernel
theorem dX9_shutOf_60 : decode cX9_shutOf 60 = .ok (.if_icmp .ge 35, 3) := by decide +kernel
theorem dX9_shutOf_63 : decode cX9_shutOf 63 = .ok (.aload_n 0, 1) := by decide +kernel
theorem dX9_shutOf_64 : decode cX9_shutOf 64 = .ok (.iload_n 1, 1) := by decide +kernel
theorem dX9_shutOf_65 : decode cX9_shutOf 65 = .ok (.iload_n 3, 1) := by decide +kernel
theorem dX9_shutOf_66 : decode cX9_shutOf 66 = .ok (.invokevirtual 89, 3) := by decide +kernel
theorem dX9_shutOf_69 : decode cX9_shutOf 69 = .ok (.ifCond .eq 20, 3) := by decide +kernel
theorem dX9_shutOf_72 : decode cX9_shutOf 72 = .ok (.aload_n 0, 1) := by decide +kernel
theorem dX9_shutOf_73 : decode cX9_shutOf 73 = .ok (.iload_n 1, 1) := by decide +kernel
theorem dX9_shutOf_74 : decode cX9_shutOf 74 = .ok (.iload_n 3, 1) := by decide +kernel
theorem dX9_shutOf_75 : decode cX9_shutOf 75 = .ok (.invokevirtual 89, 3) := by decide +kernel
theorem dX9_shutOf_78 : decode cX9_shutOf 78 = .ok (.aload_n 0, 1) := by decide +kernel
theorem dX9_shutOf_79 : decode cX9_shutOf 79 = .ok (.iload_n 2, 1) := by decide +kernel
theorem dX9_shutOf_80 : decode cX9_shutOf 80 = .ok (.iload_n 3, 1) := by decide +kernel
theorem dX9_shutOf_81 : decode cX9_shutOf 81 = .ok (.invokevirtual 109, 3) := by decide +kernel
theorem dX9_shutOf_84 : decode cX9_shutOf 84 = .ok (.if_icmp .ge 5, 3) := by decide +kernel
theorem dX9_shutOf_87 : decode cX9_shutOf 87 = .ok (.iconst 3, 1) := by decide +kernel
theorem dX9_shutOf_88 : decode cX9_shutOf 88 = .ok (.ireturn, 1) := by decide +kernel
theorem dX9_shutOf_89 : decode cX9_shutOf 89 = .ok (.iinc 3 1, 3) := by decide +kernel
theorem dX9_shutOf_92 : decode cX9_shutOf 92 = .ok (.goto (-35), 3) := by decide +kernel
theorem dX9_shutOf_95 : decode cX9_shutOf 95 = .ok (.bipush 13, 2) := by decide +kernel
theorem dX9_shutOf_97 : decode cX9_shutOf 97 = .ok (.istore_n 3, 1) := by decide +kernel
theorem dX9_shutOf_98 : decode cX9_shutOf 98 = .ok (.iload_n 3, 1) := by decide +kernel
theorem dX9_shutOf_99 : decode cX9_shutOf 99 = .ok (.bipush 16, 2) := by decide +kernel
theorem dX9_shutOf_101 : decode cX9_shutOf 101 = .ok (.if_icmp .ge 29, 3) := by decide +kernel
theorem dX9_shutOf_104 : decode cX9_shutOf 104 = .ok (.aload_n 0, 1) := by decide +kernel
theorem dX9_shutOf_105 : decode cX9_shutOf 105 = .ok (.iload_n 1, 1) := by decide +kernel
theorem dX9_shutOf_106 : decode cX9_shutOf 106 = .ok (.iload_n 3, 1) := by decide +kernel
theorem dX9_shutOf_107 : decode cX9_shutOf 107 = .ok (.invokevirtual 89, 3) := by decide +kernel
theorem dX9_shutOf_110 : decode cX9_shutOf 110 = .ok (.aload_n 0, 1) := by decide +kernel
theorem dX9_shutOf_111 : decode cX9_shutOf 111 = .ok (.iload_n 2, 1) := by decide +kernel
theorem dX9_shutOf_112 : decode cX9_shutOf 112 = .ok (.iload_n 3, 1) := by decide +kernel
theorem dX9_shutOf_113 : decode cX9_shutOf 113 = .ok (.invokevirtual 109, 3) := by decide +kernel
theorem dX9_shutOf_116 : decode cX9_shutOf 116 = .ok (.invokestatic 92, 3) := by decide +kernel
theorem dX9_shutOf_119 : decode cX9_shutOf 119 = .ok (.ifCond .eq 5, 3) := by decide +kernel
theorem dX9_shutOf_122 : decode cX9_shutOf 122 = .ok (.iconst 4, 1) := by decide +kernel
theorem dX9_shutOf_123 : decode cX9_shutOf 123 = .ok (.ireturn, 1) := by decide +kernel
theorem dX9_shutOf_124 : decode cX9_shutOf 124 = .ok (.iinc 3 1, 3) := by decide +kernel
theorem dX9_shutOf_127 : decode cX9_shutOf 127 = .ok (.goto (-29), 3) := by decide +kernel
theorem dX9_shutOf_130 : decode cX9_shutOf 130 = .ok (.iconst 0, 1) := by decide +kernel
theorem dX9_shutOf_131 : decode cX9_shutOf 131 = .ok (.istore_n 3, 1) := by decide +kernel
theorem dX9_shutOf_132 : decode cX9_shutOf 132 = .ok (.iload_n 3, 1) := by decide +kernel
theorem dX9_shutOf_133 : decode cX9_shutOf 133 = .ok (.iconst 3, 1) := by decide +kernel
theorem dX9_shutOf_134 : decode cX9_shutOf 134 = .ok (.if_icmp .ge 53, 3) := by decide +kernel
theorem dX9_shutOf_137 : decode cX9_shutOf 137 = .ok (.aload_n 0, 1) := by decide +kernel
theorem dX9_shutOf_138 : decode cX9_shutOf 138 = .ok (.iload_n 1, 1) := by decide +kernel
theorem dX9_shutOf_139 : decode cX9_shutOf 139 = .ok (.bipush 13, 2) := by decide +kernel
theorem dX9_shutOf_141 : decode cX9_shutOf 141 = .ok (.iload_n 3, 1) := by decide +kernel
theorem dX9_shutOf_142 : decode cX9_shutOf 142 = .ok (.iadd, 1) := by decide +kernel
theorem dX9_shutOf_143 : decode cX9_shutOf 143 = .ok (.invokevirtual 89, 3) := by decide +kernel
theorem dX9_shutOf_146 : decode cX9_shutOf 146 = .ok (.istore 4, 2) := by decide +kernel
theorem dX9_shutOf_148 : decode cX9_shutOf 148 = .ok (.aload_n 0, 1) := by decide +kernel
theorem dX9_shutOf_149 : decode cX9_shutOf 149 = .ok (.iload_n 2, 1) := by decide +kernel
theorem dX9_shutOf_150 : decode cX9_shutOf 150 = .ok (.bipush 16, 2) := by decide +kernel
theorem dX9_shutOf_152 : decode cX9_shutOf 152 = .ok (.iload_n 3, 1) := by decide +kernel
theorem dX9_shutOf_153 : decode cX9_shutOf 153 = .ok (.iadd, 1) := by decide +kernel
theorem dX9_shutOf_154 : decode cX9_shutOf 154 = .ok (.invokevirtual 109, 3) := by decide +kernel
theorem dX9_shutOf_157 : decode cX9_shutOf 157 = .ok (.istore 5, 2) := by decide +kernel
theorem dX9_shutOf_159 : decode cX9_shutOf 159 = .ok (.iload 4, 2) := by decide +kernel
theorem dX9_shutOf_161 : decode cX9_shutOf 161 = .ok (.ifCond .eq 20, 3) := by decide +kernel
theorem dX9_shutOf_164 : decode cX9_shutOf 164 = .ok (.iload 5, 2) := by decide +kernel
theorem dX9_shutOf_166 : decode cX9_shutOf 166 = .ok (.ifCond .eq 15, 3) := by decide +kernel
theorem dX9_shutOf_169 : decode cX9_shutOf 169 = .ok (.iload 4, 2) := by decide +kernel
theorem dX9_shutOf_171 : decode cX9_shutOf 171 = .ok (.iload 5, 2) := by decide +kernel
theorem dX9_shutOf_173 : decode cX9_shutOf 173 = .ok (.invokestatic 112, 3) := by decide +kernel
theorem dX9_shutOf_176 : decode cX9_shutOf 176 = .ok (.ifCond .eq 5, 3) := by decide +kernel
theorem dX9_shutOf_179 : decode cX9_shutOf 179 = .ok (.iconst 5, 1) := by decide +kernel
theorem dX9_shutOf_180 : decode cX9_shutOf 180 = .ok (.ireturn, 1) := by decide +kernel
theorem dX9_shutOf_181 : decode cX9_shutOf 181 = .ok (.iinc 3 1, 3) := by decide +kernel
theorem dX9_shutOf_184 : decode cX9_shutOf 184 = .ok (.goto (-52), 3) := by decide +kernel
theorem dX9_shutOf_187 : decode cX9_shutOf 187 = .ok (.iconst 0, 1) := by decide +kernel
theorem dX9_shutOf_188 : decode cX9_shutOf 188 = .ok (.ireturn, 1) := by decide +kernel
theorem dX9_isPair_0 : decode cX9_isPair 0 = .ok (.aload_n 0, 1) := by decide +kernel
theorem dX9_isPair_1 : decode cX9_isPair 1 = .ok (.iconst 1, 1) := by decide +kernel
theorem dX9_isPair_2 : decode cX9_isPair 2 = .ok (.iload_n 1, 1) := by decide +kernel
theorem dX9_isPair_3 : decode cX9_isPair 3 = .ok (.invokevirtual 68, 3) := by decide +kernel
theorem dX9_isPair_6 : decode cX9_isPair 6 = .ok (.ifCond .eq 16, 3) := by decide +kernel
theorem dX9_isPair_9 : decode cX9_isPair 9 = .ok (.aload_n 0, 1) := by decide +kernel
theorem dX9_isPair_10 : decode cX9_isPair 10 = .ok (.iconst 0, 1) := by decide +kernel
theorem dX9_isPair_11 : decode cX9_isPair 11 = .ok (.iload_n 2, 1) := by decide +kernel
theorem dX9_isPair_12 : decode cX9_isPair 12 = .ok (.invokevirtual 68, 3) := by decide +kernel
theorem dX9_isPair_15 : decode cX9_isPair 15 = .ok (.ifCond .eq 7, 3) := by decide +kernel
theorem dX9_isPair_18 : decode cX9_isPair 18 = .ok (.iconst 1, 1) := by decide +kernel
theorem dX9_isPair_19 : decode cX9_isPair 19 = .ok (.goto 4, 3) := by decide +kernel
theorem dX9_isPair_22 : decode cX9_isPair 22 = .ok (.iconst 0, 1) := by decide +kernel
theorem dX9_isPair_23 : decode cX9_isPair 23 = .ok (.ireturn, 1) := by decide +kernel
theorem dX9_shut_0 : decode cX9_shut 0 = .ok (.aload_n 0, 1) := by decide +kernel
theorem dX9_shut_1 : decode cX9_shut 1 = .ok (.iload_n 1, 1) := by decide +kernel
theorem dX9_shut_2 : decode cX9_shut 2 = .ok (.iload_n 2, 1) := by decide +kernel
theorem dX9_shut_3 : decode cX9_shut 3 = .ok (.invokevirtual 115, 3) := by decide +kernel
theorem dX9_shut_6 : decode cX9_shut 6 = .ok (.ifCond .eq 17, 3) := by decide +kernel
theorem dX9_shut_9 : decode cX9_shut 9 = .ok (.aload_n 0, 1) := by decide +kernel
theorem dX9_shut_10 : decode cX9_shut 10 = .ok (.aload_n 0, 1) := by decide +kernel
theorem dX9_shut_11 : decode cX9_shut 11 = .ok (.getfield 25, 3) := by decide +kernel
theorem dX9_shut_14 : decode cX9_shut 14 = .ok (.iload_n 1, 1) := by decide +kernel
theorem dX9_shut_15 : decode cX9_shut 15 = .ok (.iaload, 1) := by decide +kernel
theorem dX9_shut_16 : decode cX9_shut 16 = .ok (.iload_n 2, 1) := by decide +kernel
theorem dX9_shut_17 : decode cX9_shut 17 = .ok (.invokevirtual 118, 3) := by decide +kernel
theorem dX9_shut_20 : decode cX9_shut 20 = .ok (.goto 4, 3) := by decide +kernel
theorem dX9_shut_23 : decode cX9_shut 23 = .ok (.iconst (-1), 1) := by decide +kernel
theorem dX9_shut_24 : decode cX9_shut 24 = .ok (.ireturn, 1) := by decide +kernel
theorem dX9_pointsOf_0 : decode cX9_pointsOf 0 = .ok (.aload_n 0, 1) := by decide +kernel
theorem dX9_pointsOf_1 : decode cX9_pointsOf 1 = .ok (.iload_n 1, 1) := by decide +kernel
theorem dX9_pointsOf_2 : decode cX9_pointsOf 2 = .ok (.iload_n 2, 1) := by decide +kernel
theorem dX9_pointsOf_3 : decode cX9_pointsOf 3 = .ok (.invokevirtual 118, 3) := by decide +kernel
theorem dX9_pointsOf_6 : decode cX9_pointsOf 6 = .ok (.ifCond .eq 6, 3) := by decide +kernel
theorem dX9_pointsOf_9 : decode cX9_pointsOf 9 = .ok (.ldc 121, 2) := by decide +kernel
theorem dX9_pointsOf_11 : decode cX9_pointsOf 11 = .ok (.ireturn, 1) := by decide +kernel
theorem dX9_pointsOf_12 : decode cX9_pointsOf 12 = .ok (.iconst 0, 1) := by decide +kernel
theorem dX9_pointsOf_13 : decode cX9_pointsOf 13 = .ok (.istore_n 3, 1) := by decide +kernel
theorem dX9_pointsOf_14 : decode cX9_pointsOf 14 = .ok (.iconst 1, 1) := by decide +kernel
theorem dX9_pointsOf_15 : decode cX9_pointsOf 15 = .ok (.istore 4, 2) := by decide +kernel
theorem dX9_pointsOf_17 : decode cX9_pointsOf 17 = .ok (.iload 4, 2) := by decide +kernel
theorem dX9_pointsOf_19 : decode cX9_pointsOf 19 = .ok (.bipush 9, 2) := by decide +kernel
theorem dX9_pointsOf_21 : decode cX9_pointsOf 21 = .ok (.if_icmp .ge 51, 3) := by decide +kernel
theorem dX9_pointsOf_24 : decode cX9_pointsOf 24 = .ok (.aload_n 0, 1) := by decide +kernel
theorem dX9_pointsOf_25 : decode cX9_pointsOf 25 = .ok (.iload_n 1, 1) := by decide +kernel
theorem dX9_pointsOf_26 : decode cX9_pointsOf 26 = .ok (.iload 4, 2) := by decide +kernel
theorem dX9_pointsOf_28 : decode cX9_pointsOf 28 = .ok (.invokevirtual 89, 3) := by decide +kernel
theorem dX9_pointsOf_31 : decode cX9_pointsOf 31 = .ok (.ifCond .eq 35, 3) := by decide +kernel
theorem dX9_pointsOf_34 : decode cX9_pointsOf 34 = .ok (.aload_n 0, 1) := by decide +kernel
theorem dX9_pointsOf_35 : decode cX9_pointsOf 35 = .ok (.iload_n 1, 1) := by decide +kernel
theorem dX9_pointsOf_36 : decode cX9_pointsOf 36 = .ok (.iload 4, 2) := by decide +kernel
theorem dX9_pointsOf_38 : decode cX9_pointsOf 38 = .ok (.invokevirtual 89, 3) := by decide +kernel
theorem dX9_pointsOf_41 : decode cX9_pointsOf 41 = .ok (.aload_n 0, 1) := by decide +kernel
theorem dX9_pointsOf_42 : decode cX9_pointsOf 42 = .ok (.iload_n 2, 1) := by decide +kernel
theorem dX9_pointsOf_43 : decode cX9_pointsOf 43 = .ok (.iload 4, 2) := by decide +kernel
theorem dX9_pointsOf_45 : decode cX9_pointsOf 45 = .ok (.invokevirtual 109, 3) := by decide +kernel
theorem dX9_pointsOf_48 : decode cX9_pointsOf 48 = .ok (.if_icmp .ne 18, 3) := by decide +kernel
theorem dX9_pointsOf_51 : decode cX9_pointsOf 51 = .ok (.iload_n 3, 1) := by decide +kernel
theorem dX9_pointsOf_52 : decode cX9_pointsOf 52 = .ok (.aload_n 0, 1) := by decide +kernel
theorem dX9_pointsOf_53 : decode cX9_pointsOf 53 = .ok (.getfield 50, 3) := by decide +kernel
theorem dX9_pointsOf_56 : decode cX9_pointsOf 56 = .ok (.aload_n 0, 1) := by decide +kernel
theorem dX9_pointsOf_57 : decode cX9_pointsOf 57 = .ok (.iload_n 1, 1) := by decide +kernel
theorem dX9_pointsOf_58 : decode cX9_pointsOf 58 = .ok (.iload 4, 2) := by decide +kernel
theorem dX9_pointsOf_60 : decode cX9_pointsOf 60 = .ok (.invokevirtual 89, 3) := by decide +kernel
theorem dX9_pointsOf_63 : decode cX9_pointsOf 63 = .ok (.iaload, 1) := by decide +kernel
theorem dX9_pointsOf_64 : decode cX9_pointsOf 64 = .ok (.iadd, 1) := by decide +kernel
theorem dX9_pointsOf_65 : decode cX9_pointsOf 65 = .ok (.istore_n 3, 1) := by decide +kernel
theorem dX9_pointsOf_66 : decode cX9_pointsOf 66 = .ok (.iinc 4 1, 3) := by decide +kernel
theorem dX9_pointsOf_69 : decode cX9_pointsOf 69 = .ok (.goto (-52), 3) := by decide +kernel
theorem dX9_pointsOf_72 : decode cX9_pointsOf 72 = .ok (.iconst 0, 1) := by decide +kernel
theorem dX9_pointsOf_73 : decode cX9_pointsOf 73 = .ok (.istore 4, 2) := by decide +kernel
theorem dX9_pointsOf_75 : decode cX9_pointsOf 75 = .ok (.iload 4, 2) := by decide +kernel
theorem dX9_pointsOf_77 : decode cX9_pointsOf 77 = .ok (.iconst 4, 1) := by decide +kernel
theorem dX9_pointsOf_78 : decode cX9_pointsOf 78 = .ok (.if_icmp .ge 75, 3) := by decide +kernel
theorem dX9_pointsOf_81 : decode cX9_pointsOf 81 = .ok (.aload_n 0, 1) := by decide +kernel
theorem dX9_pointsOf_82 : decode cX9_pointsOf 82 = .ok (.iload_n 1, 1) := by decide +kernel
theorem dX9_pointsOf_83 : decode cX9_pointsOf 83 = .ok (.bipush 9, 2) := by decide +kernel
theorem dX9_pointsOf_85 : decode cX9_pointsOf 85 = .ok (.iload 4, 2) := by decide +kernel
theorem dX9_pointsOf_87 : decode cX9_pointsOf 87 = .ok (.iadd, 1) := by decide +kernel
theorem dX9_pointsOf_88 : decode cX9_pointsOf 88 = .ok (.invokevirtual 89, 3) := by decide +kernel
theorem dX9_pointsOf_91 : decode cX9_pointsOf 91 = .ok (.istore 5, 2) := by decide +kernel
theorem dX9_pointsOf_93 : decode cX9_pointsOf 93 = .ok (.aload_n 0, 1) := by decide +kernel
theorem dX9_pointsOf_94 : decode cX9_pointsOf 94 = .ok (.iload_n 2, 1) := by decide +kernel
theorem dX9_pointsOf_95 : decode cX9_pointsOf 95 = .ok (.bipush 9, 2) := by decide +kernel
theorem dX9_pointsOf_97 : decode cX9_pointsOf 97 = .ok (.iload 4, 2) := by decide +kernel
theorem dX9_pointsOf_99 : decode cX9_pointsOf 99 = .ok (.iadd, 1) := by decide +kernel
theorem dX9_pointsOf_100 : decode cX9_pointsOf 100 = .ok (.invokevirtual 109, 3) := by decide +kernel
theorem dX9_pointsOf_103 : decode cX9_pointsOf 103 = .ok (.istore 6, 2) := by decide +kernel
theorem dX9_pointsOf_105 : decode cX9_pointsOf 105 = .ok (.iload 5, 2) := by decide +kernel
theorem dX9_pointsOf_107 : decode cX9_pointsOf 107 = .ok (.ifCond .eq 40, 3) := by decide +kernel
theorem dX9_pointsOf_110 : decode cX9_pointsOf 110 = .ok (.iload 6, 2) := by decide +kernel
theorem dX9_pointsOf_112 : decode cX9_pointsOf 112 = .ok (.ifCond .eq 35, 3) := by decide +kernel
theorem dX9_pointsOf_115 : decode cX9_pointsOf 115 = .ok (.iload_n 3, 1) := by decide +kernel
theorem dX9_pointsOf_116 : decode cX9_pointsOf 116 = .ok (.iload 5, 2) := by decide +kernel
theorem dX9_pointsOf_118 : decode cX9_pointsOf 118 = .ok (.iload 6, 2) := by decide +kernel
theorem dX9_pointsOf_120 : decode cX9_pointsOf 120 = .ok (.if_icmp .ne 15, 3) := by decide +kernel
theorem dX9_pointsOf_123 : decode cX9_pointsOf 123 = .ok (.aload_n 0, 1) := by decide +kernel
theorem dX9_pointsOf_124 : decode cX9_pointsOf 124 = .ok (.getfield 50, 3) := by decide +kernel
theorem dX9_pointsOf_127 : decode cX9_pointsOf 127 = .ok (.iconst 4, 1) := by decide +kernel
theorem dX9_pointsOf_128 : decode cX9_pointsOf 128 = .ok (.iload 4, 2) := by decide +kernel
theorem dX9_pointsOf_130 : decode cX9_pointsOf 130 = .ok (.iadd, 1) := by decide +kernel
theorem dX9_pointsOf_131 : decode cX9_pointsOf 131 = .ok (.iaload, 1) := by decide +kernel
theorem dX9_pointsOf_132 : decode cX9_pointsOf 132 = .ok (.goto 13, 3) := by decide +kernel
theorem dX9_pointsOf_135 : decode cX9_pointsOf 135 = .ok (.aload_n 0, 1) := by decide +kernel
theorem dX9_pointsOf_136 : decode cX9_pointsOf 136 = .ok (.getfield 50, 3) := by decide +kernel
theorem dX9_pointsOf_139 : decode cX9_pointsOf 139 = .ok (.iconst 4, 1) := by decide +kernel
theorem dX9_pointsOf_140 : decode cX9_pointsOf 140 = .ok (.iload 4, 2) := by decide +kernel
theorem dX9_pointsOf_142 : decode cX9_pointsOf 142 = .ok (.iadd, 1) := by decide +kernel
theorem dX9_pointsOf_143 : decode cX9_pointsOf 143 = .ok (.iaload, 1) := by decide +kernel
theorem dX9_pointsOf_144 : decode cX9_pointsOf 144 = .ok (.ineg, 1) := by decide +kernel
theorem dX9_pointsOf_145 : decode cX9_pointsOf 145 = .ok (.iadd, 1) := by decide +kernel
theorem dX9_pointsOf_146 : decode cX9_pointsOf 146 = .ok (.istore_n 3, 1) := by decide +kernel
theorem dX9_pointsOf_147 : decode cX9_pointsOf 147 = .ok (.iinc 4 1, 3) := by decide +kernel
theorem dX9_pointsOf_150 : decode cX9_pointsOf 150 = .ok (.goto (-75), 3) := by decide +kernel
theorem dX9_pointsOf_153 : decode cX9_pointsOf 153 = .ok (.iconst 0, 1) := by decide +kernel
theorem dX9_pointsOf_154 : decode cX9_pointsOf 154 = .ok (.istore 4, 2) := by decide +kernel
theorem dX9_pointsOf_156 : decode cX9_pointsOf 156 = .ok (.iload 4, 2) := by decide +kernel
theorem dX9_pointsOf_158 : decode cX9_pointsOf 158 = .ok (.iconst 3, 1) := by decide +kernel
theorem dX9_pointsOf_159 : decode cX9_pointsOf 159 = .ok (.if_icmp .ge 97, 3) := by decide +kernel
theorem dX9_pointsOf_162 : decode cX9_pointsOf 162 = .ok (.aload_n 0, 1) := by decide +kernel
theorem dX9_pointsOf_163 : decode cX9_pointsOf 163 = .ok (.iload_n 1, 1) := by decide +kernel
theorem dX9_pointsOf_164 : decode cX9_pointsOf 164 = .ok (.bipush 13, 2) := by decide +kernel
theorem dX9_pointsOf_166 : decode cX9_pointsOf 166 = .ok (.iload 4, 2) := by decide +kernel
theorem dX9_pointsOf_168 : decode cX9_pointsOf 168 = .ok (.iadd, 1) := by decide +kernel
theorem dX9_pointsOf_169 : decode cX9_pointsOf 169 = .ok (.invokevirtual 89, 3) := by decide +kernel
theorem dX9_pointsOf_172 : decode cX9_pointsOf 172 = .ok (.istore 5, 2) := by decide +kernel
theorem dX9_pointsOf_174 : decode cX9_pointsOf 174 = .ok (.iload 5, 2) := by decide +kernel
theorem dX9_pointsOf_176 : decode cX9_pointsOf 176 = .ok (.ifCond .eq 46, 3) := by decide +kernel
theorem dX9_pointsOf_179 : decode cX9_pointsOf 179 = .ok (.aload_n 0, 1) := by decide +kernel
theorem dX9_pointsOf_180 : decode cX9_pointsOf 180 = .ok (.iload_n 2, 1) := by decide +kernel
theorem dX9_pointsOf_181 : decode cX9_pointsOf 181 = .ok (.bipush 13, 2) := by decide +kernel
theorem dX9_pointsOf_183 : decode cX9_pointsOf 183 = .ok (.iload 4, 2) := by decide +kernel
theorem dX9_pointsOf_185 : decode cX9_pointsOf 185 = .ok (.iadd, 1) := by decide +kernel
theorem dX9_pointsOf_186 : decode cX9_pointsOf 186 = .ok (.invokevirtual 109, 3) := by decide +kernel
theorem dX9_pointsOf_189 : decode cX9_pointsOf 189 = .ok (.ifCond .eq 33, 3) := by decide +kernel
theorem dX9_pointsOf_192 : decode cX9_pointsOf 192 = .ok (.iload_n 3, 1) := by decide +kernel
theorem dX9_pointsOf_193 : decode cX9_pointsOf 193 = .ok (.aload_n 0, 1) := by decide +kernel
theorem dX9_pointsOf_194 : decode cX9_pointsOf 194 = .ok (.getfield 50, 3) := by decide +kernel
theorem dX9_pointsOf_197 : decode cX9_pointsOf 197 = .ok (.bipush 7, 2) := by decide +kernel
theorem dX9_pointsOf_199 : decode cX9_pointsOf 199 = .ok (.iload 5, 2) := by decide +kernel
theorem dX9_pointsOf_201 : decode cX9_pointsOf 201 = .ok (.bipush 10, 2) := by decide +kernel
theorem dX9_pointsOf_203 : decode cX9_pointsOf 203 = .ok (.idiv, 1) := by decide +kernel
theorem dX9_pointsOf_204 : decode cX9_pointsOf 204 = .ok (.iadd, 1) := by decide +kernel
theorem dX9_pointsOf_205 : decode cX9_pointsOf 205 = .ok (.iaload, 1) := by decide +kernel
theorem dX9_pointsOf_206 : decode cX9_pointsOf 206 = .ok (.aload_n 0, 1) := by decide +kernel
theorem dX9_pointsOf_207 : decode cX9_pointsOf 207 = .ok (.getfield 50, 3) := by decide +kernel
theorem dX9_pointsOf_210 : decode cX9_pointsOf 210 = .ok (.bipush 7, 2) := by decide +kernel
theorem dX9_pointsOf_212 : decode cX9_pointsOf 212 = .ok (.iload 5, 2) := by decide +kernel
theorem dX9_pointsOf_214 : decode cX9_pointsOf 214 = .ok (.bipush 10, 2) := by decide +kernel
theorem dX9_pointsOf_216 : decode cX9_pointsOf 216 = .ok (.irem, 1) := by decide +kernel
theorem dX9_pointsOf_217 : decode cX9_pointsOf 217 = .ok (.iadd, 1) := by decide +kernel
theorem dX9_pointsOf_218 : decode cX9_pointsOf 218 = .ok (.iaload, 1) := by decide +kernel
theorem dX9_pointsOf_219 : decode cX9_pointsOf 219 = .ok (.iadd, 1) := by decide +kernel
theorem dX9_pointsOf_220 : decode cX9_pointsOf 220 = .ok (.iadd, 1) := by decide +kernel
theorem dX9_pointsOf_221 : decode cX9_pointsOf 221 = .ok (.istore_n 3, 1) := by decide +kernel
theorem dX9_pointsOf_222 : decode cX9_pointsOf 222 = .ok (.iload 5, 2) := by decide +kernel
theorem dX9_pointsOf_224 : decode cX9_pointsOf 224 = .ok (.ifCond .eq 26, 3) := by decide +kernel
theorem dX9_pointsOf_227 : decode cX9_pointsOf 227 = .ok (.aload_n 0, 1) := by decide +kernel
theorem dX9_pointsOf_228 : decode cX9_pointsOf 228 = .ok (.iload_n 2, 1) := by decide +kernel
theorem dX9_pointsOf_229 : decode cX9_pointsOf 229 = .ok (.bipush 16, 2) := by decide +kernel
theorem dX9_pointsOf_231 : decode cX9_pointsOf 231 = .ok (.iload 4, 2) := by decide +kernel
theorem dX9_pointsOf_233 : decode cX9_pointsOf 233 = .ok (.iadd, 1) := by decide +kernel
theorem dX9_pointsOf_234 : decode cX9_pointsOf 234 = .ok (.invokevirtual 109, 3) := by decide +kernel
theorem dX9_pointsOf_237 : decode cX9_pointsOf 237 = .ok (.ifCond .eq 13, 3) := by decide +kernel
theorem dX9_pointsOf_240 : decode cX9_pointsOf 240 = .ok (.iload_n 3, 1) := by decide +kernel
theorem dX9_pointsOf_241 : decode cX9_pointsOf 241 = .ok (.aload_n 0, 1) := by decide +kernel
theorem dX9_pointsOf_242 : decode cX9_pointsOf 242 = .ok (.getfield 50, 3) := by decide +kernel
theorem dX9_pointsOf_245 : decode cX9_pointsOf 245 = .ok (.bipush 17, 2) := by decide +kernel
theorem dX9_pointsOf_247 : decode cX9_pointsOf 247 = .ok (.iaload, 1) := by decide +kernel
theorem dX9_pointsOf_248 : decode cX9_pointsOf 248 = .ok (.iadd, 1) := by decide +kernel
theorem dX9_pointsOf_249 : decode cX9_pointsOf 249 = .ok (.istore_n 3, 1) := by decide +kernel
theorem dX9_pointsOf_250 : decode cX9_pointsOf 250 = .ok (.iinc 4 1, 3) := by decide +kernel
theorem dX9_pointsOf_253 : decode cX9_pointsOf 253 = .ok (.goto (-97), 3) := by decide +kernel
theorem dX9_pointsOf_256 : decode cX9_pointsOf 256 = .ok (.iload_n 3, 1) := by decide +kernel
theorem dX9_pointsOf_257 : decode cX9_pointsOf 257 = .ok (.ireturn, 1) := by decide +kernel
theorem dX9_points_0 : decode cX9_points 0 = .ok (.aload_n 0, 1) := by decide +kernel
theorem dX9_points_1 : decode cX9_points 1 = .ok (.iload_n 1, 1) := by decide +kernel
theorem dX9_points_2 : decode cX9_points 2 = .ok (.iload_n 2, 1) := by decide +kernel
theorem dX9_points_3 : decode cX9_points 3 = .ok (.invokevirtual 115, 3) := by decide +kernel
theorem dX9_points_6 : decode cX9_points 6 = .ok (.ifCond .eq 17, 3) := by decide +kernel
theorem dX9_points_9 : decode cX9_points 9 = .ok (.aload_n 0, 1) := by decide +kernel
theorem dX9_points_10 : decode cX9_points 10 = .ok (.aload_n 0, 1) := by decide +kernel
theorem dX9_points_11 : decode cX9_points 11 = .ok (.getfield 25, 3) := by decide +kernel
theorem dX9_points_14 : decode cX9_points 14 = .ok (.iload_n 1, 1) := by decide +kernel
theorem dX9_points_15 : decode cX9_points 15 = .ok (.iaload, 1) := by decide +kernel
theorem dX9_points_16 : decode cX9_points 16 = .ok (.iload_n 2, 1) := by decide +kernel
theorem dX9_points_17 : decode cX9_points 17 = .ok (.invokevirtual 122, 3) := by decide +kernel
theorem dX9_points_20 : decode cX9_points 20 = .ok (.goto 4, 3) := by decide +kernel
theorem dX9_points_23 : decode cX9_points 23 = .ok (.iconst (-1), 1) := by decide +kernel
theorem dX9_points_24 : decode cX9_points 24 = .ok (.ireturn, 1) := by decide +kernel
theorem dX9_isNamed_0 : decode cX9_isNamed 0 = .ok (.iconst 0, 1) := by decide +kernel
theorem dX9_isNamed_1 : decode cX9_isNamed 1 = .ok (.istore_n 2, 1) := by decide +kernel
theorem dX9_isNamed_2 : decode cX9_isNamed 2 = .ok (.iconst 0, 1) := by decide +kernel
theorem dX9_isNamed_3 : decode cX9_isNamed 3 = .ok (.istore_n 3, 1) := by decide +kernel
theorem dX9_isNamed_4 : decode cX9_isNamed 4 = .ok (.iload_n 3, 1) := by decide +kernel
theorem dX9_isNamed_5 : decode cX9_isNamed 5 = .ok (.aload_n 0, 1) := by decide +kernel
theorem dX9_isNamed_6 : decode cX9_isNamed 6 = .ok (.getfield 7, 3) := by decide +kernel
theorem dX9_isNamed_9 : decode cX9_isNamed 9 = .ok (.iconst 1, 1) := by decide +kernel
theorem dX9_isNamed_10 : decode cX9_isNamed 10 = .ok (.iaload, 1) := by decide +kernel
theorem dX9_isNamed_11 : decode cX9_isNamed 11 = .ok (.if_icmp .ge 29, 3) := by decide +kernel
theorem dX9_isNamed_14 : decode cX9_isNamed 14 = .ok (.iload_n 2, 1) := by decide +kernel
theorem dX9_isNamed_15 : decode cX9_isNamed 15 = .ok (.ifCond .ne 13, 3) := by decide +kernel
theorem dX9_isNamed_18 : decode cX9_isNamed 18 = .ok (.aload_n 0, 1) := by decide +kernel
theorem dX9_isNamed_19 : decode cX9_isNamed 19 = .ok (.getfield 28, 3) := by decide +kernel
theorem dX9_isNamed_22 : decode cX9_isNamed 22 = .ok (.iload_n 3, 1) := by decide +kernel
theorem dX9_isNamed_23 : decode cX9_isNamed 23 = .ok (.iaload, 1) := by decide +kernel
theorem dX9_isNamed_24 : decode cX9_isNamed 24 = .ok (.iload_n 1, 1) := by decide +kernel
theorem dX9_isNamed_25 : decode cX9_isNamed 25 = .ok (.if_icmp .ne 7, 3) := by decide +kernel
theorem dX9_isNamed_28 : decode cX9_isNamed 28 = .ok (.iconst 1, 1) := by decide +kernel
theorem dX9_isNamed_29 : decode cX9_isNamed 29 = .ok (.goto 4, 3) := by decide +kernel
theorem dX9_isNamed_32 : decode cX9_isNamed 32 = .ok (.iconst 0, 1) := by decide +kernel
theorem dX9_isNamed_33 : decode cX9_isNamed 33 = .ok (.istore_n 2, 1) := by decide +kernel
theorem dX9_isNamed_34 : decode cX9_isNamed 34 = .ok (.iinc 3 1, 3) := by decide +kernel
theorem dX9_isNamed_37 : decode cX9_isNamed 37 = .ok (.goto (-33), 3) := by decide +kernel
theorem dX9_isNamed_40 : decode cX9_isNamed 40 = .ok (.iload_n 2, 1) := by decide +kernel
theorem dX9_isNamed_41 : decode cX9_isNamed 41 = .ok (.ireturn, 1) := by decide +kernel
theorem dX9_measures_0 : decode cX9_measures 0 = .ok (.iconst 0, 1) := by decide +kernel
theorem dX9_measures_1 : decode cX9_measures 1 = .ok (.istore_n 1, 1) := by decide +kernel
theorem dX9_measures_2 : decode cX9_measures 2 = .ok (.iload_n 1, 1) := by decide +kernel
theorem dX9_measures_3 : decode cX9_measures 3 = .ok (.aload_n 0, 1) := by decide +kernel
theorem dX9_measures_4 : decode cX9_measures 4 = .ok (.getfield 7, 3) := by decide +kernel
theorem dX9_measures_7 : decode cX9_measures 7 = .ok (.iconst 1, 1) := by decide +kernel
theorem dX9_measures_8 : decode cX9_measures 8 = .ok (.iaload, 1) := by decide +kernel
theorem dX9_measures_9 : decode cX9_measures 9 = .ok (.if_icmp .ge 90, 3) := by decide +kernel
theorem dX9_measures_12 : decode cX9_measures 12 = .ok (.iconst 0, 1) := by decide +kernel
theorem dX9_measures_13 : decode cX9_measures 13 = .ok (.istore_n 2, 1) := by decide +kernel
theorem dX9_measures_14 : decode cX9_measures 14 = .ok (.iload_n 2, 1) := by decide +kernel
theorem dX9_measures_15 : decode cX9_measures 15 = .ok (.aload_n 0, 1) := by decide +kernel
theorem dX9_measures_16 : decode cX9_measures 16 = .ok (.getfield 7, 3) := by decide +kernel
theorem dX9_measures_19 : decode cX9_measures 19 = .ok (.iconst 0, 1) := by decide +kernel
theorem dX9_measures_20 : decode cX9_measures 20 = .ok (.iaload, 1) := by decide +kernel
theorem dX9_measures_21 : decode cX9_measures 21 = .ok (.if_icmp .ge 72, 3) := by decide +kernel
theorem dX9_measures_24 : decode cX9_measures 24 = .ok (.aload_n 0, 1) := by decide +kernel
theorem dX9_measures_25 : decode cX9_measures 25 = .ok (.getfield 25, 3) := by decide +kernel
theorem dX9_measures_28 : decode cX9_measures 28 = .ok (.iload_n 1, 1) := by decide +kernel
theorem dX9_measures_29 : decode cX9_measures 29 = .ok (.iaload, 1) := by decide +kernel
theorem dX9_measures_30 : decode cX9_measures 30 = .ok (.iload_n 1, 1) := by decide +kernel
theorem dX9_measures_31 : decode cX9_measures 31 = .ok (.if_icmp .ne 25, 3) := by decide +kernel
theorem dX9_measures_34 : decode cX9_measures 34 = .ok (.aload_n 0, 1) := by decide +kernel
theorem dX9_measures_35 : decode cX9_measures 35 = .ok (.getfield 28, 3) := by decide +kernel
theorem dX9_measures_38 : decode cX9_measures 38 = .ok (.iload_n 1, 1) := by decide +kernel
theorem dX9_measures_39 : decode cX9_measures 39 = .ok (.iaload, 1) := by decide +kernel
theorem dX9_measures_40 : decode cX9_measures 40 = .ok (.iconst (-1), 1) := by decide +kernel
theorem dX9_measures_41 : decode cX9_measures 41 = .ok (.if_icmp .ne 15, 3) := by decide +kernel
theorem dX9_measures_44 : decode cX9_measures 44 = .ok (.aload_n 0, 1) := by decide +kernel
theorem dX9_measures_45 : decode cX9_measures 45 = .ok (.iload_n 2, 1) := by decide +kernel
theorem dX9_measures_46 : decode cX9_measures 46 = .ok (.invokevirtual 125, 3) := by decide +kernel
theorem dX9_measures_49 : decode cX9_measures 49 = .ok (.ifCond .ne 7, 3) := by decide +kernel
theorem dX9_measures_52 : decode cX9_measures 52 = .ok (.iconst 1, 1) := by decide +kernel
theorem dX9_measures_53 : decode cX9_measures 53 = .ok (.goto 4, 3) := by decide +kernel
theorem dX9_measures_56 : decode cX9_measures 56 = .ok (.iconst 0, 1) := by decide +kernel
theorem dX9_measures_57 : decode cX9_measures 57 = .ok (.istore_n 3, 1) := by decide +kernel
theorem dX9_measures_58 : decode cX9_measures 58 = .ok (.aload_n 0, 1) := by decide +kernel
theorem dX9_measures_59 : decode cX9_measures 59 = .ok (.getfield 31, 3) := by decide +kernel
theorem dX9_measures_62 : decode cX9_measures 62 = .ok (.bipush 12, 2) := by decide +kernel
theorem dX9_measures_64 : decode cX9_measures 64 = .ok (.iload_n 1, 1) := by decide +kernel
theorem dX9_measures_65 : decode cX9_measures 65 = .ok (.imul, 1) := by decide +kernel
theorem dX9_measures_66 : decode cX9_measures 66 = .ok (.iload_n 2, 1) := by decide +kernel
theorem dX9_measures_67 : decode cX9_measures 67 = .ok (.iadd, 1) := by decide +kernel
theorem dX9_measures_68 : decode cX9_measures 68 = .ok (.iload_n 3, 1) := by decide +kernel
theorem dX9_measures_69 : decode cX9_measures 69 = .ok (.ifCond .eq 16, 3) := by decide +kernel
theorem dX9_measures_72 : decode cX9_measures 72 = .ok (.iconst 0, 1) := by decide +kernel
theorem dX9_measures_73 : decode cX9_measures 73 = .ok (.aload_n 0, 1) := by decide +kernel
theorem dX9_measures_74 : decode cX9_measures 74 = .ok (.iload_n 1, 1) := by decide +kernel
theorem dX9_measures_75 : decode cX9_measures 75 = .ok (.iload_n 2, 1) := by decide +kernel
theorem dX9_measures_76 : decode cX9_measures 76 = .ok (.invokevirtual 122, 3) := by decide +kernel
theorem dX9_measures_79 : decode cX9_measures 79 = .ok (.invokestatic 82, 3) := by decide +kernel
theorem dX9_measures_82 : decode cX9_measures 82 = .ok (.goto 4, 3) := by decide +kernel
theorem dX9_measures_85 : decode cX9_measures 85 = .ok (.iconst 0, 1) := by decide +kernel
theorem dX9_measures_86 : decode cX9_measures 86 = .ok (.iastore, 1) := by decide +kernel
theorem dX9_measures_87 : decode cX9_measures 87 = .ok (.iinc 2 1, 3) := by decide +kernel
theorem dX9_measures_90 : decode cX9_measures 90 = .ok (.goto (-76), 3) := by decide +kernel
theorem dX9_measures_93 : decode cX9_measures 93 = .ok (.iinc 1 1, 3) := by decide +kernel
theorem dX9_measures_96 : decode cX9_measures 96 = .ok (.goto (-94), 3) := by decide +kernel
theorem dX9_measures_99 : decode cX9_measures 99 = .ok (.return_, 1) := by decide +kernel
theorem dX9_pairs_0 : decode cX9_pairs 0 = .ok (.aload_n 0, 1) := by decide +kernel
theorem dX9_pairs_1 : decode cX9_pairs 1 = .ok (.getfield 7, 3) := by decide +kernel
theorem dX9_pairs_4 : decode cX9_pairs 4 = .ok (.iconst 1, 1) := by decide +kernel
theorem dX9_pairs_5 : decode cX9_pairs 5 = .ok (.iaload, 1) := by decide +kernel
theorem dX9_pairs_6 : decode cX9_pairs 6 = .ok (.istore_n 1, 1) := by decide +kernel
theorem dX9_pairs_7 : decode cX9_pairs 7 = .ok (.iconst 1, 1) := by decide +kernel
theorem dX9_pairs_8 : decode cX9_pairs 8 = .ok (.aload_n 0, 1) := by decide +kernel
theorem dX9_pairs_9 : decode cX9_pairs 9 = .ok (.getfield 7, 3) := by decide +kernel
theorem dX9_pairs_12 : decode cX9_pairs 12 = .ok (.iconst 0, 1) := by decide +kernel
theorem dX9_pairs_13 : decode cX9_pairs 13 = .ok (.iaload, 1) := by decide +kernel
theorem dX9_pairs_14 : decode cX9_pairs 14 = .ok (.ishl, 1) := by decide +kernel
theorem dX9_pairs_15 : decode cX9_pairs 15 = .ok (.istore_n 2, 1) := by decide +kernel
theorem dX9_pairs_16 : decode cX9_pairs 16 = .ok (.iconst 0, 1) := by decide +kernel
theorem dX9_pairs_17 : decode cX9_pairs 17 = .ok (.istore_n 3, 1) := by decide +kernel
theorem dX9_pairs_18 : decode cX9_pairs 18 = .ok (.iload_n 3, 1) := by decide +kernel
theorem dX9_pairs_19 : decode cX9_pairs 19 = .ok (.iload_n 2, 1) := by decide +kernel
theorem dX9_pairs_20 : decode cX9_pairs 20 = .ok (.if_icmp .ge 22, 3) := by decide +kernel
theorem dX9_pairs_23 : decode cX9_pairs 23 = .ok (.aload_n 0, 1) := by decide +kernel
theorem dX9_pairs_24 : decode cX9_pairs 24 = .ok (.getfield 35, 3) := by decide +kernel
theorem dX9_pairs_27 : decode cX9_pairs 27 = .ok (.sipush 4096, 3) := by decide +kernel
theorem dX9_pairs_30 : decode cX9_pairs 30 = .ok (.iload_n 1, 1) := by decide +kernel
theorem dX9_pairs_31 : decode cX9_pairs 31 = .ok (.imul, 1) := by decide +kernel
theorem dX9_pairs_32 : decode cX9_pairs 32 = .ok (.iload_n 3, 1) := by decide +kernel
theorem dX9_pairs_33 : decode cX9_pairs 33 = .ok (.iadd, 1) := by decide +kernel
theorem dX9_pairs_34 : decode cX9_pairs 34 = .ok (.iconst 0, 1) := by decide +kernel
theorem dX9_pairs_35 : decode cX9_pairs 35 = .ok (.iastore, 1) := by decide +kernel
theorem dX9_pairs_36 : decode cX9_pairs 36 = .ok (.iinc 3 1, 3) := by decide +kernel
theorem dX9_pairs_39 : decode cX9_pairs 39 = .ok (.goto (-21), 3) := by decide +kernel
theorem dX9_pairs_42 : decode cX9_pairs 42 = .ok (.iload_n 1, 1) := by decide +kernel
theorem dX9_pairs_43 : decode cX9_pairs 43 = .ok (.iconst 1, 1) := by decide +kernel
theorem dX9_pairs_44 : decode cX9_pairs 44 = .ok (.isub, 1) := by decide +kernel
theorem dX9_pairs_45 : decode cX9_pairs 45 = .ok (.istore_n 3, 1) := by decide +kernel
theorem dX9_pairs_46 : decode cX9_pairs 46 = .ok (.iload_n 3, 1) := by decide +kernel
theorem dX9_pairs_47 : decode cX9_pairs 47 = .ok (.ifCond .lt 145, 3) := by decide +kernel
theorem dX9_pairs_50 : decode cX9_pairs 50 = .ok (.iconst 0, 1) := by decide +kernel
theorem dX9_pairs_51 : decode cX9_pairs 51 = .ok (.istore 4, 2) := by decide +kernel
theorem dX9_pairs_53 : decode cX9_pairs 53 = .ok (.iload 4, 2) := by decide +kernel
theorem dX9_pairs_55 : decode cX9_pairs 55 = .ok (.iload_n 2, 1) := by decide +kernel
theorem dX9_pairs_56 : decode cX9_pairs 56 = .ok (.if_icmp .ge 130, 3) := by decide +kernel
theorem dX9_pairs_59 : decode cX9_pairs 59 = .ok (.aload_n 0, 1) := by decide +kernel
theorem dX9_pairs_60 : decode cX9_pairs 60 = .ok (.getfield 35, 3) := by decide +kernel
theorem dX9_pairs_63 : decode cX9_pairs 63 = .ok (.sipush 4096, 3) := by decide +kernel
theorem dX9_pairs_66 : decode cX9_pairs 66 = .ok (.iload_n 3, 1) := by decide +kernel
theorem dX9_pairs_67 : decode cX9_pairs 67 = .ok (.imul, 1) := by decide +kernel
theorem dX9_pairs_68 : decode cX9_pairs 68 = .ok (.sipush 4096, 3) := by decide +kernel
theorem dX9_pairs_71 : decode cX9_pairs 71 = .ok (.iadd, 1) := by decide +kernel
theorem dX9_pairs_72 : decode cX9_pairs 72 = .ok (.iload 4, 2) := by decide +kernel
theorem dX9_pairs_74 : decode cX9_pairs 74 = .ok (.iadd, 1) := by decide +kernel
theorem dX9_pairs_75 : decode cX9_pairs 75 = .ok (.iaload, 1) := by decide +kernel
theorem dX9_pairs_76 : decode cX9_pairs 76 = .ok (.istore 5, 2) := by decide +kernel
theorem dX9_pairs_78 : decode cX9_pairs 78 = .ok (.iconst 0, 1) := by decide +kernel
theorem dX9_pairs_79 : decode cX9_pairs 79 = .ok (.istore 6, 2) := by decide +kernel
theorem dX9_pairs_81 : decode cX9_pairs 81 = .ok (.iload 6, 2) := by decide +kernel
theorem dX9_pairs_83 : decode cX9_pairs 83 = .ok (.aload_n 0, 1) := by decide +kernel
theorem dX9_pairs_84 : decode cX9_pairs 84 = .ok (.getfield 7, 3) := by decide +kernel
theorem dX9_pairs_87 : decode cX9_pairs 87 = .ok (.iconst 0, 1) := by decide +kernel
theorem dX9_pairs_88 : decode cX9_pairs 88 = .ok (.iaload, 1) := by decide +kernel
theorem dX9_pairs_89 : decode cX9_pairs 89 = .ok (.if_icmp .ge 76, 3) := by decide +kernel
theorem dX9_pairs_92 : decode cX9_pairs 92 = .ok (.iload 4, 2) := by decide +kernel
theorem dX9_pairs_94 : decode cX9_pairs 94 = .ok (.iload 6, 2) := by decide +kernel
theorem dX9_pairs_96 : decode cX9_pairs 96 = .ok (.ishr, 1) := by decide +kernel
theorem dX9_pairs_97 : decode cX9_pairs 97 = .ok (.iconst 1, 1) := by decide +kernel
theorem dX9_pairs_98 : decode cX9_pairs 98 = .ok (.iand, 1) := by decide +kernel
theorem dX9_pairs_99 : decode cX9_pairs 99 = .ok (.ifCond .ne 60, 3) := by decide +kernel
theorem dX9_pairs_102 : decode cX9_pairs 102 = .ok (.aload_n 0, 1) := by decide +kernel
theorem dX9_pairs_103 : decode cX9_pairs 103 = .ok (.getfield 31, 3) := by decide +kernel
theorem dX9_pairs_106 : decode cX9_pairs 106 = .ok (.bipush 12, 2) := by decide +kernel
theorem dX9_pairs_108 : decode cX9_pairs 108 = .ok (.iload_n 3, 1) := by decide +kernel
theorem dX9_pairs_109 : decode cX9_pairs 109 = .ok (.imul, 1) := by decide +kernel
theorem dX9_pairs_110 : decode cX9_pairs 110 = .ok (.iload 6, 2) := by decide +kernel
theorem dX9_pairs_112 : decode cX9_pairs 112 = .ok (.iadd, 1) := by decide +kernel
theorem dX9_pairs_113 : decode cX9_pairs 113 = .ok (.iaload, 1) := by decide +kernel
theorem dX9_pairs_114 : decode cX9_pairs 114 = .ok (.ifCond .le 45, 3) := by decide +kernel
theorem dX9_pairs_117 : decode cX9_pairs 117 = .ok (.iload 5, 2) := by decide +kernel
theorem dX9_pairs_119 : decode cX9_pairs 119 = .ok (.aload_n 0, 1) := by decide +kernel
theorem dX9_pairs_120 : decode cX9_pairs 120 = .ok (.getfield 31, 3) := by decide +kernel
theorem dX9_pairs_123 : decode cX9_pairs 123 = .ok (.bipush 12, 2) := by decide +kernel
theorem dX9_pairs_125 : decode cX9_pairs 125 = .ok (.iload_n 3, 1) := by decide +kernel
theorem dX9_pairs_126 : decode cX9_pairs 126 = .ok (.imul, 1) := by decide +kernel
theorem dX9_pairs_127 : decode cX9_pairs 127 = .ok (.iload 6, 2) := by decide +kernel
theorem dX9_pairs_129 : decode cX9_pairs 129 = .ok (.iadd, 1) := by decide +kernel
theorem dX9_pairs_130 : decode cX9_pairs 130 = .ok (.iaload, 1) := by decide +kernel
theorem dX9_pairs_131 : decode cX9_pairs 131 = .ok (.aload_n 0, 1) := by decide +kernel
theorem dX9_pairs_132 : decode cX9_pairs 132 = .ok (.getfield 35, 3) := by decide +kernel
theorem dX9_pairs_135 : decode cX9_pairs 135 = .ok (.sipush 4096, 3) := by decide +kernel
theorem dX9_pairs_138 : decode cX9_pairs 138 = .ok (.iload_n 3, 1) := by decide +kernel
theorem dX9_pairs_139 : decode cX9_pairs 139 = .ok (.imul, 1) := by decide +kernel
theorem dX9_pairs_140 : decode cX9_pairs 140 = .ok (.sipush 4096, 3) := by decide +kernel
theorem dX9_pairs_143 : decode cX9_pairs 143 = .ok (.iadd, 1) := by decide +kernel
theorem dX9_pairs_144 : decode cX9_pairs 144 = .ok (.iload 4, 2) := by decide +kernel
theorem dX9_pairs_146 : decode cX9_pairs 146 = .ok (.iconst 1, 1) := by decide +kernel
theorem dX9_pairs_147 : decode cX9_pairs 147 = .ok (.iload 6, 2) := by decide +kernel
theorem dX9_pairs_149 : decode cX9_pairs 149 = .ok (.ishl, 1) := by decide +kernel
theorem dX9_pairs_150 : decode cX9_pairs 150 = .ok (.ior, 1) := by decide +kernel
theorem dX9_pairs_151 : decode cX9_pairs 151 = .ok (.iadd, 1) := by decide +kernel
theorem dX9_pairs_152 : decode cX9_pairs 152 = .ok (.iaload, 1) := by decide +kernel
theorem dX9_pairs_153 : decode cX9_pairs 153 = .ok (.iadd, 1) := by decide +kernel
theorem dX9_pairs_154 : decode cX9_pairs 154 = .ok (.invokestatic 82, 3) := by decide +kernel
theorem dX9_pairs_157 : decode cX9_pairs 157 = .ok (.istore 5, 2) := by decide +kernel
theorem dX9_pairs_159 : decode cX9_pairs 159 = .ok (.iinc 6 1, 3) := by decide +kernel
theorem dX9_pairs_162 : decode cX9_pairs 162 = .ok (.goto (-81), 3) := by decide +kernel
theorem dX9_pairs_165 : decode cX9_pairs 165 = .ok (.aload_n 0, 1) := by decide +kernel
theorem dX9_pairs_166 : decode cX9_pairs 166 = .ok (.getfield 35, 3) := by decide +kernel
theorem dX9_pairs_169 : decode cX9_pairs 169 = .ok (.sipush 4096, 3) := by decide +kernel
theorem dX9_pairs_172 : decode cX9_pairs 172 = .ok (.iload_n 3, 1) := by decide +kernel
theorem dX9_pairs_173 : decode cX9_pairs 173 = .ok (.imul, 1) := by decide +kernel
theorem dX9_pairs_174 : decode cX9_pairs 174 = .ok (.iload 4, 2) := by decide +kernel
theorem dX9_pairs_176 : decode cX9_pairs 176 = .ok (.iadd, 1) := by decide +kernel
theorem dX9_pairs_177 : decode cX9_pairs 177 = .ok (.iload 5, 2) := by decide +kernel
theorem dX9_pairs_179 : decode cX9_pairs 179 = .ok (.iastore, 1) := by decide +kernel
theorem dX9_pairs_180 : decode cX9_pairs 180 = .ok (.iinc 4 1, 3) := by decide +kernel
theorem dX9_pairs_183 : decode cX9_pairs 183 = .ok (.goto (-130), 3) := by decide +kernel
theorem dX9_pairs_186 : decode cX9_pairs 186 = .ok (.iinc 3 (-1), 3) := by decide +kernel
theorem dX9_pairs_189 : decode cX9_pairs 189 = .ok (.goto (-143), 3) := by decide +kernel
theorem dX9_pairs_192 : decode cX9_pairs 192 = .ok (.aload_n 0, 1) := by decide +kernel
theorem dX9_pairs_193 : decode cX9_pairs 193 = .ok (.getfield 35, 3) := by decide +kernel
theorem dX9_pairs_196 : decode cX9_pairs 196 = .ok (.iconst 0, 1) := by decide +kernel
theorem dX9_pairs_197 : decode cX9_pairs 197 = .ok (.iaload, 1) := by decide +kernel
theorem dX9_pairs_198 : decode cX9_pairs 198 = .ok (.ireturn, 1) := by decide +kernel
theorem dX9_shares_0 : decode cX9_shares 0 = .ok (.aload_n 0, 1) := by decide +kernel
theorem dX9_shares_1 : decode cX9_shares 1 = .ok (.invokevirtual 129, 3) := by decide +kernel
theorem dX9_shares_4 : decode cX9_shares 4 = .ok (.aload_n 0, 1) := by decide +kernel
theorem dX9_shares_5 : decode cX9_shares 5 = .ok (.invokevirtual 132, 3) := by decide +kernel
theorem dX9_shares_8 : decode cX9_shares 8 = .ok (.pop, 1) := by decide +kernel
theorem dX9_shares_9 : decode cX9_shares 9 = .ok (.iconst 0, 1) := by decide +kernel
theorem dX9_shares_10 : decode cX9_shares 10 = .ok (.istore_n 1, 1) := by decide +kernel
theorem dX9_shares_11 : decode cX9_shares 11 = .ok (.iconst 0, 1) := by decide +kernel
theorem dX9_shares_12 : decode cX9_shares 12 = .ok (.istore_n 2, 1) := by decide +kernel
theorem dX9_shares_13 : decode cX9_shares 13 = .ok (.iload_n 2, 1) := by decide +kernel
theorem dX9_shares_14 : decode cX9_shares 14 = .ok (.aload_n 0, 1) := by decide +kernel
theorem dX9_shares_15 : decode cX9_shares 15 = .ok (.getfield 7, 3) := by decide +kernel
theorem dX9_shares_18 : decode cX9_shares 18 = .ok (.iconst 1, 1) := by decide +kernel
theorem dX9_shares_19 : decode cX9_shares 19 = .ok (.iaload, 1) := by decide +kernel
theorem dX9_shares_20 : decode cX9_shares 20 = .ok (.if_icmp .ge 132, 3) := by decide +kernel
theorem dX9_shares_23 : decode cX9_shares 23 = .ok (.aload_n 0, 1) := by decide +kernel
theorem dX9_shares_24 : decode cX9_shares 24 = .ok (.getfield 38, 3) := by decide +kernel
theorem dX9_shares_27 : decode cX9_shares 27 = .ok (.iload_n 2, 1) := by decide +kernel
theorem dX9_shares_28 : decode cX9_shares 28 = .ok (.iconst (-1), 1) := by decide +kernel
theorem dX9_shares_29 : decode cX9_shares 29 = .ok (.iastore, 1) := by decide +kernel
theorem dX9_shares_30 : decode cX9_shares 30 = .ok (.aload_n 0, 1) := by decide +kernel
theorem dX9_shares_31 : decode cX9_shares 31 = .ok (.getfield 7, 3) := by decide +kernel
theorem dX9_shares_34 : decode cX9_shares 34 = .ok (.iconst 0, 1) := by decide +kernel
theorem dX9_shares_35 : decode cX9_shares 35 = .ok (.iaload, 1) := by decide +kernel
theorem dX9_shares_36 : decode cX9_shares 36 = .ok (.iconst 1, 1) := by decide +kernel
theorem dX9_shares_37 : decode cX9_shares 37 = .ok (.isub, 1) := by decide +kernel
theorem dX9_shares_38 : decode cX9_shares 38 = .ok (.istore_n 3, 1) := by decide +kernel
theorem dX9_shares_39 : decode cX9_shares 39 = .ok (.iload_n 3, 1) := by decide +kernel
theorem dX9_shares_40 : decode cX9_shares 40 = .ok (.ifCond .lt 85, 3) := by decide +kernel
theorem dX9_shares_43 : decode cX9_shares 43 = .ok (.iload_n 1, 1) := by decide +kernel
theorem dX9_shares_44 : decode cX9_shares 44 = .ok (.iload_n 3, 1) := by decide +kernel
theorem dX9_shares_45 : decode cX9_shares 45 = .ok (.ishr, 1) := by decide +kernel
theorem dX9_shares_46 : decode cX9_shares 46 = .ok (.iconst 1, 1) := by decide +kernel
theorem dX9_shares_47 : decode cX9_shares 47 = .ok (.iand, 1) := by decide +kernel
theorem dX9_shares_48 : decode cX9_shares 48 = .ok (.ifCond .ne 71, 3) := by decide +kernel
theorem dX9_shares_51 : decode cX9_shares 51 = .ok (.aload_n 0, 1) := by decide +kernel
theorem dX9_shares_52 : decode cX9_shares 52 = .ok (.getfield 31, 3) := by decide +kernel
theorem dX9_shares_55 : decode cX9_shares 55 = .ok (.bipush 12, 2) := by decide +kernel
theorem dX9_shares_57 : decode cX9_shares 57 = .ok (.iload_n 2, 1) := by decide +kernel
theorem dX9_shares_58 : decode cX9_shares 58 = .ok (.imul, 1) := by decide +kernel
theorem dX9_shares_59 : decode cX9_shares 59 = .ok (.iload_n 3, 1) := by decide +kernel
theorem dX9_shares_60 : decode cX9_shares 60 = .ok (.iadd, 1) := by decide +kernel
theorem dX9_shares_61 : decode cX9_shares 61 = .ok (.iaload, 1) := by decide +kernel
theorem dX9_shares_62 : decode cX9_shares 62 = .ok (.ifCond .le 57, 3) := by decide +kernel
theorem dX9_shares_65 : decode cX9_shares 65 = .ok (.aload_n 0, 1) := by decide +kernel
theorem dX9_shares_66 : decode cX9_shares 66 = .ok (.getfield 31, 3) := by decide +kernel
theorem dX9_shares_69 : decode cX9_shares 69 = .ok (.bipush 12, 2) := by decide +kernel
theorem dX9_shares_71 : decode cX9_shares 71 = .ok (.iload_n 2, 1) := by decide +kernel
theorem dX9_shares_72 : decode cX9_shares 72 = .ok (.imul, 1) := by decide +kernel
theorem dX9_shares_73 : decode cX9_shares 73 = .ok (.iload_n 3, 1) := by decide +kernel
theorem dX9_shares_74 : decode cX9_shares 74 = .ok (.iadd, 1) := by decide +kernel
theorem dX9_shares_75 : decode cX9_shares 75 = .ok (.iaload, 1) := by decide +kernel
theorem dX9_shares_76 : decode cX9_shares 76 = .ok (.aload_n 0, 1) := by decide +kernel
theorem dX9_shares_77 : decode cX9_shares 77 = .ok (.getfield 35, 3) := by decide +kernel
theorem dX9_shares_80 : decode cX9_shares 80 = .ok (.sipush 4096, 3) := by decide +kernel
theorem dX9_shares_83 : decode cX9_shares 83 = .ok (.iload_n 2, 1) := by decide +kernel
theorem dX9_shares_84 : decode cX9_shares 84 = .ok (.imul, 1) := by decide +kernel
theorem dX9_shares_85 : decode cX9_shares 85 = .ok (.sipush 4096, 3) := by decide +kernel
theorem dX9_shares_88 : decode cX9_shares 88 = .ok (.iadd, 1) := by decide +kernel
theorem dX9_shares_89 : decode cX9_shares 89 = .ok (.iload_n 1, 1) := by decide +kernel
theorem dX9_shares_90 : decode cX9_shares 90 = .ok (.iconst 1, 1) := by decide +kernel
theorem dX9_shares_91 : decode cX9_shares 91 = .ok (.iload_n 3, 1) := by decide +kernel
theorem dX9_shares_92 : decode cX9_shares 92 = .ok (.ishl, 1) := by decide +kernel
theorem dX9_shares_93 : decode cX9_shares 93 = .ok (.ior, 1) := by decide +kernel
theorem dX9_shares_94 : decode cX9_shares 94 = .ok (.iadd, 1) := by decide +kernel
theorem dX9_shares_95 : decode cX9_shares 95 = .ok (.iaload, 1) := by decide +kernel
theorem dX9_shares_96 : decode cX9_shares 96 = .ok (.iadd, 1) := by decide +kernel
theorem dX9_shares_97 : decode cX9_shares 97 = .ok (.aload_n 0, 1) := by decide +kernel
theorem dX9_shares_98 : decode cX9_shares 98 = .ok (.getfield 35, 3) := by decide +kernel
theorem dX9_shares_101 : decode cX9_shares 101 = .ok (.sipush 4096, 3) := by decide +kernel
theorem dX9_shares_104 : decode cX9_shares 104 = .ok (.iload_n 2, 1) := by decide +kernel
theorem dX9_shares_105 : decode cX9_shares 105 = .ok (.imul, 1) := by decide +kernel
theorem dX9_shares_106 : decode cX9_shares 106 = .ok (.iload_n 1, 1) := by decide +kernel
theorem dX9_shares_107 : decode cX9_shares 107 = .ok (.iadd, 1) := by decide +kernel
theorem dX9_shares_108 : decode cX9_shares 108 = .ok (.iaload, 1) := by decide +kernel
theorem dX9_shares_109 : decode cX9_shares 109 = .ok (.if_icmp .ne 10, 3) := by decide +kernel
theorem dX9_shares_112 : decode cX9_shares 112 = .ok (.aload_n 0, 1) := by decide +kernel
theorem dX9_shares_113 : decode cX9_shares 113 = .ok (.getfield 38, 3) := by decide +kernel
theorem dX9_shares_116 : decode cX9_shares 116 = .ok (.iload_n 2, 1) := by decide +kernel
theorem dX9_shares_117 : decode cX9_shares 117 = .ok (.iload_n 3, 1) := by decide +kernel
theorem dX9_shares_118 : decode cX9_shares 118 = .ok (.iastore, 1) := by decide +kernel
theorem dX9_shares_119 : decode cX9_shares 119 = .ok (.iinc 3 (-1), 3) := by decide +kernel
theorem dX9_shares_122 : decode cX9_shares 122 = .ok (.goto (-83), 3) := by decide +kernel
theorem dX9_shares_125 : decode cX9_shares 125 = .ok (.aload_n 0, 1) := by decide +kernel
theorem dX9_shares_126 : decode cX9_shares 126 = .ok (.getfield 38, 3) := by decide +kernel
theorem dX9_shares_129 : decode cX9_shares 129 = .ok (.iload_n 2, 1) := by decide +kernel
theorem dX9_shares_130 : decode cX9_shares 130 = .ok (.iaload, 1) := by decide +kernel
theorem dX9_shares_131 : decode cX9_shares 131 = .ok (.iconst (-1), 1) := by decide +kernel
theorem dX9_shares_132 : decode cX9_shares 132 = .ok (.if_icmp .eq 14, 3) := by decide +kernel
theorem dX9_shares_135 : decode cX9_shares 135 = .ok (.iload_n 1, 1) := by decide +kernel
theorem dX9_shares_136 : decode cX9_shares 136 = .ok (.iconst 1, 1) := by decide +kernel
theorem dX9_shares_137 : decode cX9_shares 137 = .ok (.aload_n 0, 1) := by decide +kernel
theorem dX9_shares_138 : decode cX9_shares 138 = .ok (.getfield 38, 3) := by decide +kernel
theorem dX9_shares_141 : decode cX9_shares 141 = .ok (.iload_n 2, 1) := by decide +kernel
theorem dX9_shares_142 : decode cX9_shares 142 = .ok (.iaload, 1) := by decide +kernel
theorem dX9_shares_143 : decode cX9_shares 143 = .ok (.ishl, 1) := by decide +kernel
theorem dX9_shares_144 : decode cX9_shares 144 = .ok (.ior, 1) := by decide +kernel
theorem dX9_shares_145 : decode cX9_shares 145 = .ok (.istore_n 1, 1) := by decide +kernel
theorem dX9_shares_146 : decode cX9_shares 146 = .ok (.iinc 2 1, 3) := by decide +kernel
theorem dX9_shares_149 : decode cX9_shares 149 = .ok (.goto (-136), 3) := by decide +kernel
theorem dX9_shares_152 : decode cX9_shares 152 = .ok (.return_, 1) := by decide +kernel
theorem dX9_pairing_0 : decode cX9_pairing 0 = .ok (.iload_n 1, 1) := by decide +kernel
theorem dX9_pairing_1 : decode cX9_pairing 1 = .ok (.iconst (-1), 1) := by decide +kernel
theorem dX9_pairing_2 : decode cX9_pairing 2 = .ok (.if_icmp .eq 15, 3) := by decide +kernel
theorem dX9_pairing_5 : decode cX9_pairing 5 = .ok (.aload_n 0, 1) := by decide +kernel
theorem dX9_pairing_6 : decode cX9_pairing 6 = .ok (.iconst 1, 1) := by decide +kernel
theorem dX9_pairing_7 : decode cX9_pairing 7 = .ok (.iload_n 1, 1) := by decide +kernel
theorem dX9_pairing_8 : decode cX9_pairing 8 = .ok (.invokevirtual 68, 3) := by decide +kernel
theorem dX9_pairing_11 : decode cX9_pairing 11 = .ok (.ifCond .ne 6, 3) := by decide +kernel
theorem dX9_pairing_14 : decode cX9_pairing 14 = .ok (.ldc 121, 2) := by decide +kernel
theorem dX9_pairing_16 : decode cX9_pairing 16 = .ok (.ireturn, 1) := by decide +kernel
theorem dX9_pairing_17 : decode cX9_pairing 17 = .ok (.aload_n 0, 1) := by decide +kernel
theorem dX9_pairing_18 : decode cX9_pairing 18 = .ok (.invokevirtual 136, 3) := by decide +kernel
theorem dX9_pairing_21 : decode cX9_pairing 21 = .ok (.iload_n 1, 1) := by decide +kernel
theorem dX9_pairing_22 : decode cX9_pairing 22 = .ok (.iconst (-1), 1) := by decide +kernel
theorem dX9_pairing_23 : decode cX9_pairing 23 = .ok (.if_icmp .ne 10, 3) := by decide +kernel
theorem dX9_pairing_26 : decode cX9_pairing 26 = .ok (.aload_n 0, 1) := by decide +kernel
theorem dX9_pairing_27 : decode cX9_pairing 27 = .ok (.getfield 35, 3) := by decide +kernel
theorem dX9_pairing_30 : decode cX9_pairing 30 = .ok (.iconst 0, 1) := by decide +kernel
theorem dX9_pairing_31 : decode cX9_pairing 31 = .ok (.iaload, 1) := by decide +kernel
theorem dX9_pairing_32 : decode cX9_pairing 32 = .ok (.ireturn, 1) := by decide +kernel
theorem dX9_pairing_33 : decode cX9_pairing 33 = .ok (.aload_n 0, 1) := by decide +kernel
theorem dX9_pairing_34 : decode cX9_pairing 34 = .ok (.getfield 25, 3) := by decide +kernel
theorem dX9_pairing_37 : decode cX9_pairing 37 = .ok (.iload_n 1, 1) := by decide +kernel
theorem dX9_pairing_38 : decode cX9_pairing 38 = .ok (.iaload, 1) := by decide +kernel
theorem dX9_pairing_39 : decode cX9_pairing 39 = .ok (.istore_n 2, 1) := by decide +kernel
theorem dX9_pairing_40 : decode cX9_pairing 40 = .ok (.aload_n 0, 1) := by decide +kernel
theorem dX9_pairing_41 : decode cX9_pairing 41 = .ok (.getfield 28, 3) := by decide +kernel
theorem dX9_pairing_44 : decode cX9_pairing 44 = .ok (.iload_n 2, 1) := by decide +kernel
theorem dX9_pairing_45 : decode cX9_pairing 45 = .ok (.iaload, 1) := by decide +kernel
theorem dX9_pairing_46 : decode cX9_pairing 46 = .ok (.iconst (-1), 1) := by decide +kernel
theorem dX9_pairing_47 : decode cX9_pairing 47 = .ok (.if_icmp .eq 12, 3) := by decide +kernel
theorem dX9_pairing_50 : decode cX9_pairing 50 = .ok (.aload_n 0, 1) := by decide +kernel
theorem dX9_pairing_51 : decode cX9_pairing 51 = .ok (.getfield 28, 3) := by decide +kernel
theorem dX9_pairing_54 : decode cX9_pairing 54 = .ok (.iload_n 2, 1) := by decide +kernel
theorem dX9_pairing_55 : decode cX9_pairing 55 = .ok (.iaload, 1) := by decide +kernel
theorem dX9_pairing_56 : decode cX9_pairing 56 = .ok (.goto 9, 3) := by decide +kernel
theorem dX9_pairing_59 : decode cX9_pairing 59 = .ok (.aload_n 0, 1) := by decide +kernel
theorem dX9_pairing_60 : decode cX9_pairing 60 = .ok (.getfield 38, 3) := by decide +kernel
theorem dX9_pairing_63 : decode cX9_pairing 63 = .ok (.iload_n 2, 1) := by decide +kernel
theorem dX9_pairing_64 : decode cX9_pairing 64 = .ok (.iaload, 1) := by decide +kernel
theorem dX9_pairing_65 : decode cX9_pairing 65 = .ok (.ireturn, 1) := by decide +kernel
theorem dX9_marginOf_0 : decode cX9_marginOf 0 = .ok (.aload_n 0, 1) := by decide +kernel
theorem dX9_marginOf_1 : decode cX9_marginOf 1 = .ok (.getfield 35, 3) := by decide +kernel
theorem dX9_marginOf_4 : decode cX9_marginOf 4 = .ok (.iconst 0, 1) := by decide +kernel
theorem dX9_marginOf_5 : decode cX9_marginOf 5 = .ok (.iaload, 1) := by decide +kernel
theorem dX9_marginOf_6 : decode cX9_marginOf 6 = .ok (.istore_n 2, 1) := by decide +kernel
theorem dX9_marginOf_7 : decode cX9_marginOf 7 = .ok (.bipush 12, 2) := by decide +kernel
theorem dX9_marginOf_9 : decode cX9_marginOf 9 = .ok (.iload_n 1, 1) := by decide +kernel
theorem dX9_marginOf_10 : decode cX9_marginOf 10 = .ok (.imul, 1) := by decide +kernel
theorem dX9_marginOf_11 : decode cX9_marginOf 11 = .ok (.aload_n 0, 1) := by decide +kernel
theorem dX9_marginOf_12 : decode cX9_marginOf 12 = .ok (.getfield 38, 3) := by decide +kernel
theorem dX9_marginOf_15 : decode cX9_marginOf 15 = .ok (.iload_n 1, 1) := by decide +kernel
theorem dX9_marginOf_16 : decode cX9_marginOf 16 = .ok (.iaload, 1) := by decide +kernel
theorem dX9_marginOf_17 : decode cX9_marginOf 17 = .ok (.iadd, 1) := by decide +kernel
theorem dX9_marginOf_18 : decode cX9_marginOf 18 = .ok (.istore_n 3, 1) := by decide +kernel
theorem dX9_marginOf_19 : decode cX9_marginOf 19 = .ok (.aload_n 0, 1) := by decide +kernel
theorem dX9_marginOf_20 : decode cX9_marginOf 20 = .ok (.getfield 31, 3) := by decide +kernel
theorem dX9_marginOf_23 : decode cX9_marginOf 23 = .ok (.iload_n 3, 1) := by decide +kernel
theorem dX9_marginOf_24 : decode cX9_marginOf 24 = .ok (.iaload, 1) := by decide +kernel
theorem dX9_marginOf_25 : decode cX9_marginOf 25 = .ok (.istore 4, 2) := by decide +kernel
theorem dX9_marginOf_27 : decode cX9_marginOf 27 = .ok (.aload_n 0, 1) := by decide +kernel
theorem dX9_marginOf_28 : decode cX9_marginOf 28 = .ok (.getfield 31, 3) := by decide +kernel
theorem dX9_marginOf_31 : decode cX9_marginOf 31 = .ok (.iload_n 3, 1) := by decide +kernel
theorem dX9_marginOf_32 : decode cX9_marginOf 32 = .ok (.iconst 0, 1) := by decide +kernel
theorem dX9_marginOf_33 : decode cX9_marginOf 33 = .ok (.iastore, 1) := by decide +kernel
theorem dX9_marginOf_34 : decode cX9_marginOf 34 = .ok (.aload_n 0, 1) := by decide +kernel
theorem dX9_marginOf_35 : decode cX9_marginOf 35 = .ok (.invokevirtual 132, 3) := by decide +kernel
theorem dX9_marginOf_38 : decode cX9_marginOf 38 = .ok (.istore 5, 2) := by decide +kernel
theorem dX9_marginOf_40 : decode cX9_marginOf 40 = .ok (.aload_n 0, 1) := by decide +kernel
theorem dX9_marginOf_41 : decode cX9_marginOf 41 = .ok (.getfield 31, 3) := by decide +kernel
theorem dX9_marginOf_44 : decode cX9_marginOf 44 = .ok (.iload_n 3, 1) := by decide +kernel
theorem dX9_marginOf_45 : decode cX9_marginOf 45 = .ok (.iload 4, 2) := by decide +kernel
theorem dX9_marginOf_47 : decode cX9_marginOf 47 = .ok (.iastore, 1) := by decide +kernel
theorem dX9_marginOf_48 : decode cX9_marginOf 48 = .ok (.iload_n 2, 1) := by decide +kernel
theorem dX9_marginOf_49 : decode cX9_marginOf 49 = .ok (.iload 5, 2) := by decide +kernel
theorem dX9_marginOf_51 : decode cX9_marginOf 51 = .ok (.isub, 1) := by decide +kernel
theorem dX9_marginOf_52 : decode cX9_marginOf 52 = .ok (.ireturn, 1) := by decide +kernel
theorem dX9_margin_0 : decode cX9_margin 0 = .ok (.aload_n 0, 1) := by decide +kernel
theorem dX9_margin_1 : decode cX9_margin 1 = .ok (.iconst 1, 1) := by decide +kernel
theorem dX9_margin_2 : decode cX9_margin 2 = .ok (.iload_n 1, 1) := by decide +kernel
theorem dX9_margin_3 : decode cX9_margin 3 = .ok (.invokevirtual 68, 3) := by decide +kernel
theorem dX9_margin_6 : decode cX9_margin 6 = .ok (.ifCond .ne 5, 3) := by decide +kernel
theorem dX9_margin_9 : decode cX9_margin 9 = .ok (.iconst (-1), 1) := by decide +kernel
theorem dX9_margin_10 : decode cX9_margin 10 = .ok (.ireturn, 1) := by decide +kernel
theorem dX9_margin_11 : decode cX9_margin 11 = .ok (.aload_n 0, 1) := by decide +kernel
theorem dX9_margin_12 : decode cX9_margin 12 = .ok (.invokevirtual 136, 3) := by decide +kernel
theorem dX9_margin_15 : decode cX9_margin 15 = .ok (.aload_n 0, 1) := by decide +kernel
theorem dX9_margin_16 : decode cX9_margin 16 = .ok (.getfield 25, 3) := by decide +kernel
theorem dX9_margin_19 : decode cX9_margin 19 = .ok (.iload_n 1, 1) := by decide +kernel
theorem dX9_margin_20 : decode cX9_margin 20 = .ok (.iaload, 1) := by decide +kernel
theorem dX9_margin_21 : decode cX9_margin 21 = .ok (.istore_n 2, 1) := by decide +kernel
theorem dX9_margin_22 : decode cX9_margin 22 = .ok (.aload_n 0, 1) := by decide +kernel
theorem dX9_margin_23 : decode cX9_margin 23 = .ok (.getfield 38, 3) := by decide +kernel
theorem dX9_margin_26 : decode cX9_margin 26 = .ok (.iload_n 2, 1) := by decide +kernel
theorem dX9_margin_27 : decode cX9_margin 27 = .ok (.iaload, 1) := by decide +kernel
theorem dX9_margin_28 : decode cX9_margin 28 = .ok (.iconst (-1), 1) := by decide +kernel
theorem dX9_margin_29 : decode cX9_margin 29 = .ok (.if_icmp .ne 7, 3) := by decide +kernel
theorem dX9_margin_32 : decode cX9_margin 32 = .ok (.iconst (-1), 1) := by decide +kernel
theorem dX9_margin_33 : decode cX9_margin 33 = .ok (.goto 8, 3) := by decide +kernel
theorem dX9_margin_36 : decode cX9_margin 36 = .ok (.aload_n 0, 1) := by decide +kernel
theorem dX9_margin_37 : decode cX9_margin 37 = .ok (.iload_n 2, 1) := by decide +kernel
theorem dX9_margin_38 : decode cX9_margin 38 = .ok (.invokevirtual 139, 3) := by decide +kernel
theorem dX9_margin_41 : decode cX9_margin 41 = .ok (.ireturn, 1) := by decide +kernel
theorem dX9_sealed_0 : decode cX9_sealed 0 = .ok (.iconst 0, 1) := by decide +kernel
theorem dX9_sealed_1 : decode cX9_sealed 1 = .ok (.istore_n 3, 1) := by decide +kernel
theorem dX9_sealed_2 : decode cX9_sealed 2 = .ok (.iconst 0, 1) := by decide +kernel
theorem dX9_sealed_3 : decode cX9_sealed 3 = .ok (.istore 4, 2) := by decide +kernel
theorem dX9_sealed_5 : decode cX9_sealed 5 = .ok (.iload 4, 2) := by decide +kernel
theorem dX9_sealed_7 : decode cX9_sealed 7 = .ok (.aload_n 0, 1) := by decide +kernel
theorem dX9_sealed_8 : decode cX9_sealed 8 = .ok (.getfield 142, 3) := by decide +kernel
theorem dX9_sealed_11 : decode cX9_sealed 11 = .ok (.if_icmp .ge 43, 3) := by decide +kernel
theorem dX9_sealed_14 : decode cX9_sealed 14 = .ok (.aload_n 0, 1) := by decide +kernel
theorem dX9_sealed_15 : decode cX9_sealed 15 = .ok (.getfield 41, 3) := by decide +kernel
theorem dX9_sealed_18 : decode cX9_sealed 18 = .ok (.iload 4, 2) := by decide +kernel
theorem dX9_sealed_20 : decode cX9_sealed 20 = .ok (.iaload, 1) := by decide +kernel
theorem dX9_sealed_21 : decode cX9_sealed 21 = .ok (.iload_n 1, 1) := by decide +kernel
theorem dX9_sealed_22 : decode cX9_sealed 22 = .ok (.if_icmp .ne 26, 3) := by decide +kernel
theorem dX9_sealed_25 : decode cX9_sealed 25 = .ok (.aload_n 0, 1) := by decide +kernel
theorem dX9_sealed_26 : decode cX9_sealed 26 = .ok (.getfield 44, 3) := by decide +kernel
theorem dX9_sealed_29 : decode cX9_sealed 29 = .ok (.iload 4, 2) := by decide +kernel
theorem dX9_sealed_31 : decode cX9_sealed 31 = .ok (.iaload, 1) := by decide +kernel
theorem dX9_sealed_32 : decode cX9_sealed 32 = .ok (.iload_n 2, 1) := by decide +kernel
theorem dX9_sealed_33 : decode cX9_sealed 33 = .ok (.if_icmp .ne 15, 3) := by decide +kernel
theorem dX9_sealed_36 : decode cX9_sealed 36 = .ok (.iload_n 3, 1) := by decide +kernel
theorem dX9_sealed_37 : decode cX9_sealed 37 = .ok (.iconst 1, 1) := by decide +kernel
theorem dX9_sealed_38 : decode cX9_sealed 38 = .ok (.aload_n 0, 1) := by decide +kernel
theorem dX9_sealed_39 : decode cX9_sealed 39 = .ok (.getfield 47, 3) := by decide +kernel
theorem dX9_sealed_42 : decode cX9_sealed 42 = .ok (.iload 4, 2) := by decide +kernel
theorem dX9_sealed_44 : decode cX9_sealed 44 = .ok (.iaload, 1) := by decide +kernel
theorem dX9_sealed_45 : decode cX9_sealed 45 = .ok (.ishl, 1) := by decide +kernel
theorem dX9_sealed_46 : decode cX9_sealed 46 = .ok (.ior, 1) := by decide +kernel
theorem dX9_sealed_47 : decode cX9_sealed 47 = .ok (.istore_n 3, 1) := by decide +kernel
theorem dX9_sealed_48 : decode cX9_sealed 48 = .ok (.iinc 4 1, 3) := by decide +kernel
theorem dX9_sealed_51 : decode cX9_sealed 51 = .ok (.goto (-46), 3) := by decide +kernel
theorem dX9_sealed_54 : decode cX9_sealed 54 = .ok (.iload_n 3, 1) := by decide +kernel
theorem dX9_sealed_55 : decode cX9_sealed 55 = .ok (.ireturn, 1) := by decide +kernel
theorem dX9_bits_0 : decode cX9_bits 0 = .ok (.iconst 0, 1) := by decide +kernel
theorem dX9_bits_1 : decode cX9_bits 1 = .ok (.istore_n 1, 1) := by decide +kernel
theorem dX9_bits_2 : decode cX9_bits 2 = .ok (.iload_n 0, 1) := by decide +kernel
theorem dX9_bits_3 : decode cX9_bits 3 = .ok (.istore_n 2, 1) := by decide +kernel
theorem dX9_bits_4 : decode cX9_bits 4 = .ok (.iload_n 2, 1) := by decide +kernel
theorem dX9_bits_5 : decode cX9_bits 5 = .ok (.ifCond .le 16, 3) := by decide +kernel
theorem dX9_bits_8 : decode cX9_bits 8 = .ok (.iload_n 1, 1) := by decide +kernel
theorem dX9_bits_9 : decode cX9_bits 9 = .ok (.iload_n 2, 1) := by decide +kernel
theorem dX9_bits_10 : decode cX9_bits 10 = .ok (.iconst 1, 1) := by decide +kernel
theorem dX9_bits_11 : decode cX9_bits 11 = .ok (.iand, 1) := by decide +kernel
theorem dX9_bits_12 : decode cX9_bits 12 = .ok (.iadd, 1) := by decide +kernel
theorem dX9_bits_13 : decode cX9_bits 13 = .ok (.istore_n 1, 1) := by decide +kernel
theorem dX9_bits_14 : decode cX9_bits 14 = .ok (.iload_n 2, 1) := by decide +kernel
theorem dX9_bits_15 : decode cX9_bits 15 = .ok (.iconst 1, 1) := by decide +kernel
theorem dX9_bits_16 : decode cX9_bits 16 = .ok (.ishr, 1) := by decide +kernel
theorem dX9_bits_17 : decode cX9_bits 17 = .ok (.istore_n 2, 1) := by decide +kernel
theorem dX9_bits_18 : decode cX9_bits 18 = .ok (.goto (-14), 3) := by decide +kernel
theorem dX9_bits_21 : decode cX9_bits 21 = .ok (.iload_n 1, 1) := by decide +kernel
theorem dX9_bits_22 : decode cX9_bits 22 = .ok (.ireturn, 1) := by decide +kernel
theorem dX9_seal_0 : decode cX9_seal 0 = .ok (.aload_n 0, 1) := by decide +kernel
theorem dX9_seal_1 : decode cX9_seal 1 = .ok (.iload_n 1, 1) := by decide +kernel
theorem dX9_seal_2 : decode cX9_seal 2 = .ok (.iload_n 2, 1) := by decide +kernel
theorem dX9_seal_3 : decode cX9_seal 3 = .ok (.invokevirtual 115, 3) := by decide +kernel
theorem dX9_seal_6 : decode cX9_seal 6 = .ok (.ifCond .eq 13, 3) := by decide +kernel
theorem dX9_seal_9 : decode cX9_seal 9 = .ok (.iload_n 3, 1) := by decide +kernel
theorem dX9_seal_10 : decode cX9_seal 10 = .ok (.iconst 0, 1) := by decide +kernel
theorem dX9_seal_11 : decode cX9_seal 11 = .ok (.bipush 9, 2) := by decide +kernel
theorem dX9_seal_13 : decode cX9_seal 13 = .ok (.invokestatic 64, 3) := by decide +kernel
theorem dX9_seal_16 : decode cX9_seal 16 = .ok (.ifCond .ne 5, 3) := by decide +kernel
theorem dX9_seal_19 : decode cX9_seal 19 = .ok (.iconst (-1), 1) := by decide +kernel
theorem dX9_seal_20 : decode cX9_seal 20 = .ok (.ireturn, 1) := by decide +kernel
theorem dX9_seal_21 : decode cX9_seal 21 = .ok (.aload_n 0, 1) := by decide +kernel
theorem dX9_seal_22 : decode cX9_seal 22 = .ok (.getfield 25, 3) := by decide +kernel
theorem dX9_seal_25 : decode cX9_seal 25 = .ok (.iload_n 1, 1) := by decide +kernel
theorem dX9_seal_26 : decode cX9_seal 26 = .ok (.iaload, 1) := by decide +kernel
theorem dX9_seal_27 : decode cX9_seal 27 = .ok (.istore 4, 2) := by decide +kernel
theorem dX9_seal_29 : decode cX9_seal 29 = .ok (.aload_n 0, 1) := by decide +kernel
theorem dX9_seal_30 : decode cX9_seal 30 = .ok (.iload 4, 2) := by decide +kernel
theorem dX9_seal_32 : decode cX9_seal 32 = .ok (.iload_n 2, 1) := by decide +kernel
theorem dX9_seal_33 : decode cX9_seal 33 = .ok (.invokevirtual 145, 3) := by decide +kernel
theorem dX9_seal_36 : decode cX9_seal 36 = .ok (.iload_n 3, 1) := by decide +kernel
theorem dX9_seal_37 : decode cX9_seal 37 = .ok (.ishr, 1) := by decide +kernel
theorem dX9_seal_38 : decode cX9_seal 38 = .ok (.iconst 1, 1) := by decide +kernel
theorem dX9_seal_39 : decode cX9_seal 39 = .ok (.iand, 1) := by decide +kernel
theorem dX9_seal_40 : decode cX9_seal 40 = .ok (.iconst 1, 1) := by decide +kernel
theorem dX9_seal_41 : decode cX9_seal 41 = .ok (.if_icmp .ne 6, 3) := by decide +kernel
theorem dX9_seal_44 : decode cX9_seal 44 = .ok (.bipush (-2), 2) := by decide +kernel
theorem dX9_seal_46 : decode cX9_seal 46 = .ok (.ireturn, 1) := by decide +kernel
theorem dX9_seal_47 : decode cX9_seal 47 = .ok (.aload_n 0, 1) := by decide +kernel
theorem dX9_seal_48 : decode cX9_seal 48 = .ok (.getfield 142, 3) := by decide +kernel
theorem dX9_seal_51 : decode cX9_seal 51 = .ok (.bipush 60, 2) := by decide +kernel
theorem dX9_seal_53 : decode cX9_seal 53 = .ok (.if_icmp .ne 6, 3) := by decide +kernel
theorem dX9_seal_56 : decode cX9_seal 56 = .ok (.bipush (-3), 2) := by decide +kernel
theorem dX9_seal_58 : decode cX9_seal 58 = .ok (.ireturn, 1) := by decide +kernel
theorem dX9_seal_59 : decode cX9_seal 59 = .ok (.aload_n 0, 1) := by decide +kernel
theorem dX9_seal_60 : decode cX9_seal 60 = .ok (.getfield 41, 3) := by decide +kernel
theorem dX9_seal_63 : decode cX9_seal 63 = .ok (.aload_n 0, 1) := by decide +kernel
theorem dX9_seal_64 : decode cX9_seal 64 = .ok (.getfield 142, 3) := by decide +kernel
theorem dX9_seal_67 : decode cX9_seal 67 = .ok (.iload 4, 2) := by decide +kernel
theorem dX9_seal_69 : decode cX9_seal 69 = .ok (.iastore, 1) := by decide +kernel
theorem dX9_seal_70 : decode cX9_seal 70 = .ok (.aload_n 0, 1) := by decide +kernel
theorem dX9_seal_71 : decode cX9_seal 71 = .ok (.getfield 44, 3) := by decide +kernel
theorem dX9_seal_74 : decode cX9_seal 74 = .ok (.aload_n 0, 1) := by decide +kernel
theorem dX9_seal_75 : decode cX9_seal 75 = .ok (.getfield 142, 3) := by decide +kernel
theorem dX9_seal_78 : decode cX9_seal 78 = .ok (.iload_n 2, 1) := by decide +kernel
theorem dX9_seal_79 : decode cX9_seal 79 = .ok (.iastore, 1) := by decide +kernel
theorem dX9_seal_80 : decode cX9_seal 80 = .ok (.aload_n 0, 1) := by decide +kernel
theorem dX9_seal_81 : decode cX9_seal 81 = .ok (.getfield 47, 3) := by decide +kernel
theorem dX9_seal_84 : decode cX9_seal 84 = .ok (.aload_n 0, 1) := by decide +kernel
theorem dX9_seal_85 : decode cX9_seal 85 = .ok (.getfield 142, 3) := by decide +kernel
theorem dX9_seal_88 : decode cX9_seal 88 = .ok (.iload_n 3, 1) := by decide +kernel
theorem dX9_seal_89 : decode cX9_seal 89 = .ok (.iastore, 1) := by decide +kernel
theorem dX9_seal_90 : decode cX9_seal 90 = .ok (.aload_n 0, 1) := by decide +kernel
theorem dX9_seal_91 : decode cX9_seal 91 = .ok (.dup, 1) := by decide +kernel
theorem dX9_seal_92 : decode cX9_seal 92 = .ok (.getfield 142, 3) := by decide +kernel
theorem dX9_seal_95 : decode cX9_seal 95 = .ok (.iconst 1, 1) := by decide +kernel
theorem dX9_seal_96 : decode cX9_seal 96 = .ok (.iadd, 1) := by decide +kernel
theorem dX9_seal_97 : decode cX9_seal 97 = .ok (.putfield 142, 3) := by decide +kernel
theorem dX9_seal_100 : decode cX9_seal 100 = .ok (.aload_n 0, 1) := by decide +kernel
theorem dX9_seal_101 : decode cX9_seal 101 = .ok (.iload 4, 2) := by decide +kernel
theorem dX9_seal_103 : decode cX9_seal 103 = .ok (.iload_n 2, 1) := by decide +kernel
theorem dX9_seal_104 : decode cX9_seal 104 = .ok (.invokevirtual 145, 3) := by decide +kernel
theorem dX9_seal_107 : decode cX9_seal 107 = .ok (.invokestatic 148, 3) := by decide +kernel
theorem dX9_seal_110 : decode cX9_seal 110 = .ok (.ireturn, 1) := by decide +kernel
theorem dX9_give_0 : decode cX9_give 0 = .ok (.aload_n 0, 1) := by decide +kernel
theorem dX9_give_1 : decode cX9_give 1 = .ok (.iconst 1, 1) := by decide +kernel
theorem dX9_give_2 : decode cX9_give 2 = .ok (.iload_n 1, 1) := by decide +kernel
theorem dX9_give_3 : decode cX9_give 3 = .ok (.invokevirtual 68, 3) := by decide +kernel
theorem dX9_give_6 : decode cX9_give 6 = .ok (.ifCond .eq 18, 3) := by decide +kernel
theorem dX9_give_9 : decode cX9_give 9 = .ok (.aload_n 0, 1) := by decide +kernel
theorem dX9_give_10 : decode cX9_give 10 = .ok (.getfield 28, 3) := by decide +kernel
theorem dX9_give_13 : decode cX9_give 13 = .ok (.aload_n 0, 1) := by decide +kernel
theorem dX9_give_14 : decode cX9_give 14 = .ok (.getfield 25, 3) := by decide +kernel
theorem dX9_give_17 : decode cX9_give 17 = .ok (.iload_n 1, 1) := by decide +kernel
theorem dX9_give_18 : decode cX9_give 18 = .ok (.iaload, 1) := by decide +kernel
theorem dX9_give_19 : decode cX9_give 19 = .ok (.iaload, 1) := by decide +kernel
theorem dX9_give_20 : decode cX9_give 20 = .ok (.iconst (-1), 1) := by decide +kernel
theorem dX9_give_21 : decode cX9_give 21 = .ok (.if_icmp .eq 6, 3) := by decide +kernel
theorem dX9_give_24 : decode cX9_give 24 = .ok (.bipush (-2), 2) := by decide +kernel
theorem dX9_give_26 : decode cX9_give 26 = .ok (.ireturn, 1) := by decide +kernel
theorem dX9_give_27 : decode cX9_give 27 = .ok (.aload_n 0, 1) := by decide +kernel
theorem dX9_give_28 : decode cX9_give 28 = .ok (.getfield 25, 3) := by decide +kernel
theorem dX9_give_31 : decode cX9_give 31 = .ok (.iload_n 1, 1) := by decide +kernel
theorem dX9_give_32 : decode cX9_give 32 = .ok (.iaload, 1) := by decide +kernel
theorem dX9_give_33 : decode cX9_give 33 = .ok (.istore_n 2, 1) := by decide +kernel
theorem dX9_give_34 : decode cX9_give 34 = .ok (.aload_n 0, 1) := by decide +kernel
theorem dX9_give_35 : decode cX9_give 35 = .ok (.invokevirtual 136, 3) := by decide +kernel
theorem dX9_give_38 : decode cX9_give 38 = .ok (.aload_n 0, 1) := by decide +kernel
theorem dX9_give_39 : decode cX9_give 39 = .ok (.getfield 38, 3) := by decide +kernel
theorem dX9_give_42 : decode cX9_give 42 = .ok (.iload_n 2, 1) := by decide +kernel
theorem dX9_give_43 : decode cX9_give 43 = .ok (.iaload, 1) := by decide +kernel
theorem dX9_give_44 : decode cX9_give 44 = .ok (.istore_n 3, 1) := by decide +kernel
theorem dX9_give_45 : decode cX9_give 45 = .ok (.iload_n 3, 1) := by decide +kernel
theorem dX9_give_46 : decode cX9_give 46 = .ok (.iconst (-1), 1) := by decide +kernel
theorem dX9_give_47 : decode cX9_give 47 = .ok (.if_icmp .ne 6, 3) := by decide +kernel
theorem dX9_give_50 : decode cX9_give 50 = .ok (.bipush (-3), 2) := by decide +kernel
theorem dX9_give_52 : decode cX9_give 52 = .ok (.ireturn, 1) := by decide +kernel
theorem dX9_give_53 : decode cX9_give 53 = .ok (.aload_n 0, 1) := by decide +kernel
theorem dX9_give_54 : decode cX9_give 54 = .ok (.getfield 31, 3) := by decide +kernel
theorem dX9_give_57 : decode cX9_give 57 = .ok (.bipush 12, 2) := by decide +kernel
theorem dX9_give_59 : decode cX9_give 59 = .ok (.iload_n 2, 1) := by decide +kernel
theorem dX9_give_60 : decode cX9_give 60 = .ok (.imul, 1) := by decide +kernel
theorem dX9_give_61 : decode cX9_give 61 = .ok (.iload_n 3, 1) := by decide +kernel
theorem dX9_give_62 : decode cX9_give 62 = .ok (.iadd, 1) := by decide +kernel
theorem dX9_give_63 : decode cX9_give 63 = .ok (.iaload, 1) := by decide +kernel
theorem dX9_give_64 : decode cX9_give 64 = .ok (.aload_n 0, 1) := by decide +kernel
theorem dX9_give_65 : decode cX9_give 65 = .ok (.getfield 50, 3) := by decide +kernel
theorem dX9_give_68 : decode cX9_give 68 = .ok (.bipush 18, 2) := by decide +kernel
theorem dX9_give_70 : decode cX9_give 70 = .ok (.iaload, 1) := by decide +kernel
theorem dX9_give_71 : decode cX9_give 71 = .ok (.if_icmp .ge 6, 3) := by decide +kernel
theorem dX9_give_74 : decode cX9_give 74 = .ok (.bipush (-4), 2) := by decide +kernel
theorem dX9_give_76 : decode cX9_give 76 = .ok (.ireturn, 1) := by decide +kernel
theorem dX9_give_77 : decode cX9_give 77 = .ok (.aload_n 0, 1) := by decide +kernel
theorem dX9_give_78 : decode cX9_give 78 = .ok (.iload_n 2, 1) := by decide +kernel
theorem dX9_give_79 : decode cX9_give 79 = .ok (.invokevirtual 139, 3) := by decide +kernel
theorem dX9_give_82 : decode cX9_give 82 = .ok (.aload_n 0, 1) := by decide +kernel
theorem dX9_give_83 : decode cX9_give 83 = .ok (.getfield 50, 3) := by decide +kernel
theorem dX9_give_86 : decode cX9_give 86 = .ok (.bipush 19, 2) := by decide +kernel
theorem dX9_give_88 : decode cX9_give 88 = .ok (.iaload, 1) := by decide +kernel
theorem dX9_give_89 : decode cX9_give 89 = .ok (.if_icmp .ge 6, 3) := by decide +kernel
theorem dX9_give_92 : decode cX9_give 92 = .ok (.bipush (-5), 2) := by decide +kernel
theorem dX9_give_94 : decode cX9_give 94 = .ok (.ireturn, 1) := by decide +kernel
theorem dX9_give_95 : decode cX9_give 95 = .ok (.aload_n 0, 1) := by decide +kernel
theorem dX9_give_96 : decode cX9_give 96 = .ok (.iload_n 2, 1) := by decide +kernel
theorem dX9_give_97 : decode cX9_give 97 = .ok (.iload_n 3, 1) := by decide +kernel
theorem dX9_give_98 : decode cX9_give 98 = .ok (.invokevirtual 145, 3) := by decide +kernel
theorem dX9_give_101 : decode cX9_give 101 = .ok (.invokestatic 148, 3) := by decide +kernel
theorem dX9_give_104 : decode cX9_give 104 = .ok (.aload_n 0, 1) := by decide +kernel
theorem dX9_give_105 : decode cX9_give 105 = .ok (.getfield 50, 3) := by decide +kernel
theorem dX9_give_108 : decode cX9_give 108 = .ok (.bipush 20, 2) := by decide +kernel
theorem dX9_give_110 : decode cX9_give 110 = .ok (.iaload, 1) := by decide +kernel
theorem dX9_give_111 : decode cX9_give 111 = .ok (.if_icmp .ge 6, 3) := by decide +kernel
theorem dX9_give_114 : decode cX9_give 114 = .ok (.bipush (-6), 2) := by decide +kernel
theorem dX9_give_116 : decode cX9_give 116 = .ok (.ireturn, 1) := by decide +kernel
theorem dX9_give_117 : decode cX9_give 117 = .ok (.aload_n 0, 1) := by decide +kernel
theorem dX9_give_118 : decode cX9_give 118 = .ok (.getfield 28, 3) := by decide +kernel
theorem dX9_give_121 : decode cX9_give 121 = .ok (.iload_n 2, 1) := by decide +kernel
theorem dX9_give_122 : decode cX9_give 122 = .ok (.iload_n 3, 1) := by decide +kernel
theorem dX9_give_123 : decode cX9_give 123 = .ok (.iastore, 1) := by decide +kernel
theorem dX9_give_124 : decode cX9_give 124 = .ok (.iload_n 3, 1) := by decide +kernel
theorem dX9_give_125 : decode cX9_give 125 = .ok (.ireturn, 1) := by decide +kernel
theorem dX9_isDoubted_0 : decode cX9_isDoubted 0 = .ok (.aload_n 0, 1) := by decide +kernel
theorem dX9_isDoubted_1 : decode cX9_isDoubted 1 = .ok (.getfield 28, 3) := by decide +kernel
theorem dX9_isDoubted_4 : decode cX9_isDoubted 4 = .ok (.iload_n 1, 1) := by decide +kernel
theorem dX9_isDoubted_5 : decode cX9_isDoubted 5 = .ok (.iaload, 1) := by decide +kernel
theorem dX9_isDoubted_6 : decode cX9_isDoubted 6 = .ok (.iconst (-1), 1) := by decide +kernel
theorem dX9_isDoubted_7 : decode cX9_isDoubted 7 = .ok (.if_icmp .eq 21, 3) := by decide +kernel
theorem dX9_isDoubted_10 : decode cX9_isDoubted 10 = .ok (.aload_n 0, 1) := by decide +kernel
theorem dX9_isDoubted_11 : decode cX9_isDoubted 11 = .ok (.iload_n 1, 1) := by decide +kernel
theorem dX9_isDoubted_12 : decode cX9_isDoubted 12 = .ok (.aload_n 0, 1) := by decide +kernel
theorem dX9_isDoubted_13 : decode cX9_isDoubted 13 = .ok (.getfield 28, 3) := by decide +kernel
theorem dX9_isDoubted_16 : decode cX9_isDoubted 16 = .ok (.iload_n 1, 1) := by decide +kernel
theorem dX9_isDoubted_17 : decode cX9_isDoubted 17 = .ok (.iaload, 1) := by decide +kernel
theorem dX9_isDoubted_18 : decode cX9_isDoubted 18 = .ok (.invokevirtual 118, 3) := by decide +kernel
theorem dX9_isDoubted_21 : decode cX9_isDoubted 21 = .ok (.ifCond .eq 7, 3) := by decide +kernel
theorem dX9_isDoubted_24 : decode cX9_isDoubted 24 = .ok (.iconst 1, 1) := by decide +kernel
theorem dX9_isDoubted_25 : decode cX9_isDoubted 25 = .ok (.goto 4, 3) := by decide +kernel
theorem dX9_isDoubted_28 : decode cX9_isDoubted 28 = .ok (.iconst 0, 1) := by decide +kernel
theorem dX9_isDoubted_29 : decode cX9_isDoubted 29 = .ok (.ireturn, 1) := by decide +kernel
theorem dX9_named_0 : decode cX9_named 0 = .ok (.aload_n 0, 1) := by decide +kernel
theorem dX9_named_1 : decode cX9_named 1 = .ok (.iconst 1, 1) := by decide +kernel
theorem dX9_named_2 : decode cX9_named 2 = .ok (.iload_n 1, 1) := by decide +kernel
theorem dX9_named_3 : decode cX9_named 3 = .ok (.invokevirtual 68, 3) := by decide +kernel
theorem dX9_named_6 : decode cX9_named 6 = .ok (.ifCond .ne 7, 3) := by decide +kernel
theorem dX9_named_9 : decode cX9_named 9 = .ok (.iconst (-1), 1) := by decide +kernel
theorem dX9_named_10 : decode cX9_named 10 = .ok (.goto 43, 3) := by decide +kernel
theorem dX9_named_13 : decode cX9_named 13 = .ok (.iload_n 2, 1) := by decide +kernel
theorem dX9_named_14 : decode cX9_named 14 = .ok (.ifCond .ne 17, 3) := by decide +kernel
theorem dX9_named_17 : decode cX9_named 17 = .ok (.aload_n 0, 1) := by decide +kernel
theorem dX9_named_18 : decode cX9_named 18 = .ok (.getfield 28, 3) := by decide +kernel
theorem dX9_named_21 : decode cX9_named 21 = .ok (.aload_n 0, 1) := by decide +kernel
theorem dX9_named_22 : decode cX9_named 22 = .ok (.getfield 25, 3) := by decide +kernel
theorem dX9_named_25 : decode cX9_named 25 = .ok (.iload_n 1, 1) := by decide +kernel
theorem dX9_named_26 : decode cX9_named 26 = .ok (.iaload, 1) := by decide +kernel
theorem dX9_named_27 : decode cX9_named 27 = .ok (.iaload, 1) := by decide +kernel
theorem dX9_named_28 : decode cX9_named 28 = .ok (.goto 25, 3) := by decide +kernel
theorem dX9_named_31 : decode cX9_named 31 = .ok (.iload_n 2, 1) := by decide +kernel
theorem dX9_named_32 : decode cX9_named 32 = .ok (.iconst 1, 1) := by decide +kernel
theorem dX9_named_33 : decode cX9_named 33 = .ok (.if_icmp .ne 19, 3) := by decide +kernel
theorem dX9_named_36 : decode cX9_named 36 = .ok (.aload_n 0, 1) := by decide +kernel
theorem dX9_named_37 : decode cX9_named 37 = .ok (.aload_n 0, 1) := by decide +kernel
theorem dX9_named_38 : decode cX9_named 38 = .ok (.getfield 25, 3) := by decide +kernel
theorem dX9_named_41 : decode cX9_named 41 = .ok (.iload_n 1, 1) := by decide +kernel
theorem dX9_named_42 : decode cX9_named 42 = .ok (.iaload, 1) := by decide +kernel
theorem dX9_named_43 : decode cX9_named 43 = .ok (.invokevirtual 151, 3) := by decide +kernel
theorem dX9_named_46 : decode cX9_named 46 = .ok (.invokestatic 102, 3) := by decide +kernel
theorem dX9_named_49 : decode cX9_named 49 = .ok (.goto 4, 3) := by decide +kernel
theorem dX9_named_52 : decode cX9_named 52 = .ok (.iconst (-1), 1) := by decide +kernel
theorem dX9_named_53 : decode cX9_named 53 = .ok (.ireturn, 1) := by decide +kernel
theorem dX9_unname_0 : decode cX9_unname 0 = .ok (.aload_n 0, 1) := by decide +kernel
theorem dX9_unname_1 : decode cX9_unname 1 = .ok (.iconst 1, 1) := by decide +kernel
theorem dX9_unname_2 : decode cX9_unname 2 = .ok (.iload_n 1, 1) := by decide +kernel
theorem dX9_unname_3 : decode cX9_unname 3 = .ok (.invokevirtual 68, 3) := by decide +kernel
theorem dX9_unname_6 : decode cX9_unname 6 = .ok (.ifCond .eq 16, 3) := by decide +kernel
theorem dX9_unname_9 : decode cX9_unname 9 = .ok (.aload_n 0, 1) := by decide +kernel
theorem dX9_unname_10 : decode cX9_unname 10 = .ok (.aload_n 0, 1) := by decide +kernel
theorem dX9_unname_11 : decode cX9_unname 11 = .ok (.getfield 25, 3) := by decide +kernel
theorem dX9_unname_14 : decode cX9_unname 14 = .ok (.iload_n 1, 1) := by decide +kernel
theorem dX9_unname_15 : decode cX9_unname 15 = .ok (.iaload, 1) := by decide +kernel
theorem dX9_unname_16 : decode cX9_unname 16 = .ok (.invokevirtual 151, 3) := by decide +kernel
theorem dX9_unname_19 : decode cX9_unname 19 = .ok (.ifCond .ne 5, 3) := by decide +kernel
theorem dX9_unname_22 : decode cX9_unname 22 = .ok (.iconst 0, 1) := by decide +kernel
theorem dX9_unname_23 : decode cX9_unname 23 = .ok (.ireturn, 1) := by decide +kernel
theorem dX9_unname_24 : decode cX9_unname 24 = .ok (.aload_n 0, 1) := by decide +kernel
theorem dX9_unname_25 : decode cX9_unname 25 = .ok (.getfield 28, 3) := by decide +kernel
theorem dX9_unname_28 : decode cX9_unname 28 = .ok (.aload_n 0, 1) := by decide +kernel
theorem dX9_unname_29 : decode cX9_unname 29 = .ok (.getfield 25, 3) := by decide +kernel
theorem dX9_unname_32 : decode cX9_unname 32 = .ok (.iload_n 1, 1) := by decide +kernel
theorem dX9_unname_33 : decode cX9_unname 33 = .ok (.iaload, 1) := by decide +kernel
theorem dX9_unname_34 : decode cX9_unname 34 = .ok (.iconst (-1), 1) := by decide +kernel
theorem dX9_unname_35 : decode cX9_unname 35 = .ok (.iastore, 1) := by decide +kernel
theorem dX9_unname_36 : decode cX9_unname 36 = .ok (.iconst 1, 1) := by decide +kernel
theorem dX9_unname_37 : decode cX9_unname 37 = .ok (.ireturn, 1) := by decide +kernel
theorem dX9_feed_0 : decode cX9_feed 0 = .ok (.aload_n 0, 1) := by decide +kernel
theorem dX9_feed_1 : decode cX9_feed 1 = .ok (.getfield 154, 3) := by decide +kernel
theorem dX9_feed_4 : decode cX9_feed 4 = .ok (.bipush 20, 2) := by decide +kernel
theorem dX9_feed_6 : decode cX9_feed 6 = .ok (.iadd, 1) := by decide +kernel
theorem dX9_feed_7 : decode cX9_feed 7 = .ok (.sipush 500, 3) := by decide +kernel
theorem dX9_feed_10 : decode cX9_feed 10 = .ok (.if_icmp .le 5, 3) := by decide +kernel
theorem dX9_feed_13 : decode cX9_feed 13 = .ok (.iconst (-1), 1) := by decide +kernel
theorem dX9_feed_14 : decode cX9_feed 14 = .ok (.ireturn, 1) := by decide +kernel
theorem dX9_feed_15 : decode cX9_feed 15 = .ok (.aload_n 0, 1) := by decide +kernel
theorem dX9_feed_16 : decode cX9_feed 16 = .ok (.iload_n 1, 1) := by decide +kernel
theorem dX9_feed_17 : decode cX9_feed 17 = .ok (.invokevirtual 157, 3) := by decide +kernel
theorem dX9_feed_20 : decode cX9_feed 20 = .ok (.aload_n 0, 1) := by decide +kernel
theorem dX9_feed_21 : decode cX9_feed 21 = .ok (.iload_n 2, 1) := by decide +kernel
theorem dX9_feed_22 : decode cX9_feed 22 = .ok (.invokevirtual 157, 3) := by decide +kernel
theorem dX9_feed_25 : decode cX9_feed 25 = .ok (.aload_n 0, 1) := by decide +kernel
theorem dX9_feed_26 : decode cX9_feed 26 = .ok (.iload_n 3, 1) := by decide +kernel
theorem dX9_feed_27 : decode cX9_feed 27 = .ok (.invokevirtual 157, 3) := by decide +kernel
theorem dX9_feed_30 : decode cX9_feed 30 = .ok (.aload_n 0, 1) := by decide +kernel
theorem dX9_feed_31 : decode cX9_feed 31 = .ok (.iload 4, 2) := by decide +kernel
theorem dX9_feed_33 : decode cX9_feed 33 = .ok (.invokevirtual 157, 3) := by decide +kernel
theorem dX9_feed_36 : decode cX9_feed 36 = .ok (.aload_n 0, 1) := by decide +kernel
theorem dX9_feed_37 : decode cX9_feed 37 = .ok (.iload 5, 2) := by decide +kernel
theorem dX9_feed_39 : decode cX9_feed 39 = .ok (.invokevirtual 157, 3) := by decide +kernel
theorem dX9_feed_42 : decode cX9_feed 42 = .ok (.aload_n 0, 1) := by decide +kernel
theorem dX9_feed_43 : decode cX9_feed 43 = .ok (.getfield 154, 3) := by decide +kernel
theorem dX9_feed_46 : decode cX9_feed 46 = .ok (.ireturn, 1) := by decide +kernel
theorem dX9_four_0 : decode cX9_four 0 = .ok (.bipush 24, 2) := by decide +kernel
theorem dX9_four_2 : decode cX9_four 2 = .ok (.istore_n 2, 1) := by decide +kernel
theorem dX9_four_3 : decode cX9_four 3 = .ok (.iload_n 2, 1) := by decide +kernel
theorem dX9_four_4 : decode cX9_four 4 = .ok (.ifCond .lt 32, 3) := by decide +kernel
theorem dX9_four_7 : decode cX9_four 7 = .ok (.aload_n 0, 1) := by decide +kernel
theorem dX9_four_8 : decode cX9_four 8 = .ok (.getfield 53, 3) := by decide +kernel
theorem dX9_four_11 : decode cX9_four 11 = .ok (.aload_n 0, 1) := by decide +kernel
