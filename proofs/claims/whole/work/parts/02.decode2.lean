theorem dX5_skipBlanks_15 : decode cX5_skipBlanks 15 = .ok (.aload_n 0, 1) := by decide +kernel
theorem dX5_skipBlanks_16 : decode cX5_skipBlanks 16 = .ok (.getfield 28, 3) := by decide +kernel
theorem dX5_skipBlanks_19 : decode cX5_skipBlanks 19 = .ok (.baload, 1) := by decide +kernel
theorem dX5_skipBlanks_20 : decode cX5_skipBlanks 20 = .ok (.bipush 32, 2) := by decide +kernel
theorem dX5_skipBlanks_22 : decode cX5_skipBlanks 22 = .ok (.if_icmp .eq 17, 3) := by decide +kernel
theorem dX5_skipBlanks_25 : decode cX5_skipBlanks 25 = .ok (.aload_n 0, 1) := by decide +kernel
theorem dX5_skipBlanks_26 : decode cX5_skipBlanks 26 = .ok (.getfield 9, 3) := by decide +kernel
theorem dX5_skipBlanks_29 : decode cX5_skipBlanks 29 = .ok (.aload_n 0, 1) := by decide +kernel
theorem dX5_skipBlanks_30 : decode cX5_skipBlanks 30 = .ok (.getfield 28, 3) := by decide +kernel
theorem dX5_skipBlanks_33 : decode cX5_skipBlanks 33 = .ok (.baload, 1) := by decide +kernel
theorem dX5_skipBlanks_34 : decode cX5_skipBlanks 34 = .ok (.bipush 10, 2) := by decide +kernel
theorem dX5_skipBlanks_36 : decode cX5_skipBlanks 36 = .ok (.if_icmp .ne 16, 3) := by decide +kernel
theorem dX5_skipBlanks_39 : decode cX5_skipBlanks 39 = .ok (.aload_n 0, 1) := by decide +kernel
theorem dX5_skipBlanks_40 : decode cX5_skipBlanks 40 = .ok (.dup, 1) := by decide +kernel
theorem dX5_skipBlanks_41 : decode cX5_skipBlanks 41 = .ok (.getfield 28, 3) := by decide +kernel
theorem dX5_skipBlanks_44 : decode cX5_skipBlanks 44 = .ok (.iconst 1, 1) := by decide +kernel
theorem dX5_skipBlanks_45 : decode cX5_skipBlanks 45 = .ok (.iadd, 1) := by decide +kernel
theorem dX5_skipBlanks_46 : decode cX5_skipBlanks 46 = .ok (.putfield 28, 3) := by decide +kernel
theorem dX5_skipBlanks_49 : decode cX5_skipBlanks 49 = .ok (.goto (-49), 3) := by decide +kernel
theorem dX5_skipBlanks_52 : decode cX5_skipBlanks 52 = .ok (.return_, 1) := by decide +kernel
theorem dX5_endOfRun_0 : decode cX5_endOfRun 0 = .ok (.aload_n 0, 1) := by decide +kernel
theorem dX5_endOfRun_1 : decode cX5_endOfRun 1 = .ok (.getfield 28, 3) := by decide +kernel
theorem dX5_endOfRun_4 : decode cX5_endOfRun 4 = .ok (.istore_n 3, 1) := by decide +kernel
theorem dX5_endOfRun_5 : decode cX5_endOfRun 5 = .ok (.iload_n 3, 1) := by decide +kernel
theorem dX5_endOfRun_6 : decode cX5_endOfRun 6 = .ok (.aload_n 0, 1) := by decide +kernel
theorem dX5_endOfRun_7 : decode cX5_endOfRun 7 = .ok (.getfield 25, 3) := by decide +kernel
theorem dX5_endOfRun_10 : decode cX5_endOfRun 10 = .ok (.if_icmp .ge 23, 3) := by decide +kernel
theorem dX5_endOfRun_13 : decode cX5_endOfRun 13 = .ok (.aload_n 0, 1) := by decide +kernel
theorem dX5_endOfRun_14 : decode cX5_endOfRun 14 = .ok (.getfield 9, 3) := by decide +kernel
theorem dX5_endOfRun_17 : decode cX5_endOfRun 17 = .ok (.iload_n 3, 1) := by decide +kernel
theorem dX5_endOfRun_18 : decode cX5_endOfRun 18 = .ok (.baload, 1) := by decide +kernel
theorem dX5_endOfRun_19 : decode cX5_endOfRun 19 = .ok (.iload_n 1, 1) := by decide +kernel
theorem dX5_endOfRun_20 : decode cX5_endOfRun 20 = .ok (.iload_n 2, 1) := by decide +kernel
theorem dX5_endOfRun_21 : decode cX5_endOfRun 21 = .ok (.invokestatic 105, 3) := by decide +kernel
theorem dX5_endOfRun_24 : decode cX5_endOfRun 24 = .ok (.ifCond .eq 9, 3) := by decide +kernel
theorem dX5_endOfRun_27 : decode cX5_endOfRun 27 = .ok (.iinc 3 1, 3) := by decide +kernel
theorem dX5_endOfRun_30 : decode cX5_endOfRun 30 = .ok (.goto (-25), 3) := by decide +kernel
theorem dX5_endOfRun_33 : decode cX5_endOfRun 33 = .ok (.iload_n 3, 1) := by decide +kernel
theorem dX5_endOfRun_34 : decode cX5_endOfRun 34 = .ok (.ireturn, 1) := by decide +kernel
theorem dX6_init_0 : decode cX6_init 0 = .ok (.aload_n 0, 1) := by decide +kernel
theorem dX6_init_1 : decode cX6_init 1 = .ok (.invokespecial 3, 3) := by decide +kernel
theorem dX6_init_4 : decode cX6_init 4 = .ok (.aload_n 0, 1) := by decide +kernel
theorem dX6_init_5 : decode cX6_init 5 = .ok (.bipush 60, 2) := by decide +kernel
theorem dX6_init_7 : decode cX6_init 7 = .ok (.newarray .int, 2) := by decide +kernel
theorem dX6_init_9 : decode cX6_init 9 = .ok (.putfield 9, 3) := by decide +kernel
theorem dX6_init_12 : decode cX6_init 12 = .ok (.aload_n 0, 1) := by decide +kernel
theorem dX6_init_13 : decode cX6_init 13 = .ok (.bipush 60, 2) := by decide +kernel
theorem dX6_init_15 : decode cX6_init 15 = .ok (.newarray .int, 2) := by decide +kernel
theorem dX6_init_17 : decode cX6_init 17 = .ok (.putfield 15, 3) := by decide +kernel
theorem dX6_init_20 : decode cX6_init 20 = .ok (.return_, 1) := by decide +kernel
theorem dX6_bears_0 : decode cX6_bears 0 = .ok (.iconst 0, 1) := by decide +kernel
theorem dX6_bears_1 : decode cX6_bears 1 = .ok (.istore 4, 2) := by decide +kernel
theorem dX6_bears_3 : decode cX6_bears 3 = .ok (.iload 4, 2) := by decide +kernel
theorem dX6_bears_5 : decode cX6_bears 5 = .ok (.aload_n 0, 1) := by decide +kernel
theorem dX6_bears_6 : decode cX6_bears 6 = .ok (.getfield 18, 3) := by decide +kernel
theorem dX6_bears_9 : decode cX6_bears 9 = .ok (.if_icmp .ge 37, 3) := by decide +kernel
theorem dX6_bears_12 : decode cX6_bears 12 = .ok (.aload_n 0, 1) := by decide +kernel
theorem dX6_bears_13 : decode cX6_bears 13 = .ok (.getfield 9, 3) := by decide +kernel
theorem dX6_bears_16 : decode cX6_bears 16 = .ok (.iload 4, 2) := by decide +kernel
theorem dX6_bears_18 : decode cX6_bears 18 = .ok (.iaload, 1) := by decide +kernel
theorem dX6_bears_19 : decode cX6_bears 19 = .ok (.iload_n 1, 1) := by decide +kernel
theorem dX6_bears_20 : decode cX6_bears 20 = .ok (.iload_n 2, 1) := by decide +kernel
theorem dX6_bears_21 : decode cX6_bears 21 = .ok (.invokestatic 22, 3) := by decide +kernel
theorem dX6_bears_24 : decode cX6_bears 24 = .ok (.if_icmp .ne 16, 3) := by decide +kernel
theorem dX6_bears_27 : decode cX6_bears 27 = .ok (.aload_n 0, 1) := by decide +kernel
theorem dX6_bears_28 : decode cX6_bears 28 = .ok (.getfield 15, 3) := by decide +kernel
theorem dX6_bears_31 : decode cX6_bears 31 = .ok (.iload 4, 2) := by decide +kernel
theorem dX6_bears_33 : decode cX6_bears 33 = .ok (.iaload, 1) := by decide +kernel
theorem dX6_bears_34 : decode cX6_bears 34 = .ok (.iload_n 3, 1) := by decide +kernel
theorem dX6_bears_35 : decode cX6_bears 35 = .ok (.if_icmp .ne 5, 3) := by decide +kernel
theorem dX6_bears_38 : decode cX6_bears 38 = .ok (.iconst 1, 1) := by decide +kernel
theorem dX6_bears_39 : decode cX6_bears 39 = .ok (.ireturn, 1) := by decide +kernel
theorem dX6_bears_40 : decode cX6_bears 40 = .ok (.iinc 4 1, 3) := by decide +kernel
theorem dX6_bears_43 : decode cX6_bears 43 = .ok (.goto (-40), 3) := by decide +kernel
theorem dX6_bears_46 : decode cX6_bears 46 = .ok (.iconst 0, 1) := by decide +kernel
theorem dX6_bears_47 : decode cX6_bears 47 = .ok (.ireturn, 1) := by decide +kernel
theorem dX6_personsOn_0 : decode cX6_personsOn 0 = .ok (.iconst 0, 1) := by decide +kernel
theorem dX6_personsOn_1 : decode cX6_personsOn 1 = .ok (.istore_n 3, 1) := by decide +kernel
theorem dX6_personsOn_2 : decode cX6_personsOn 2 = .ok (.iconst 0, 1) := by decide +kernel
theorem dX6_personsOn_3 : decode cX6_personsOn 3 = .ok (.istore 4, 2) := by decide +kernel
theorem dX6_personsOn_5 : decode cX6_personsOn 5 = .ok (.iload 4, 2) := by decide +kernel
theorem dX6_personsOn_7 : decode cX6_personsOn 7 = .ok (.aload_n 0, 1) := by decide +kernel
theorem dX6_personsOn_8 : decode cX6_personsOn 8 = .ok (.getfield 18, 3) := by decide +kernel
theorem dX6_personsOn_11 : decode cX6_personsOn 11 = .ok (.if_icmp .ge 27, 3) := by decide +kernel
theorem dX6_personsOn_14 : decode cX6_personsOn 14 = .ok (.aload_n 0, 1) := by decide +kernel
theorem dX6_personsOn_15 : decode cX6_personsOn 15 = .ok (.getfield 9, 3) := by decide +kernel
theorem dX6_personsOn_18 : decode cX6_personsOn 18 = .ok (.iload 4, 2) := by decide +kernel
theorem dX6_personsOn_20 : decode cX6_personsOn 20 = .ok (.iaload, 1) := by decide +kernel
theorem dX6_personsOn_21 : decode cX6_personsOn 21 = .ok (.iload_n 1, 1) := by decide +kernel
theorem dX6_personsOn_22 : decode cX6_personsOn 22 = .ok (.iload_n 2, 1) := by decide +kernel
theorem dX6_personsOn_23 : decode cX6_personsOn 23 = .ok (.invokestatic 22, 3) := by decide +kernel
theorem dX6_personsOn_26 : decode cX6_personsOn 26 = .ok (.if_icmp .ne 6, 3) := by decide +kernel
theorem dX6_personsOn_29 : decode cX6_personsOn 29 = .ok (.iinc 3 1, 3) := by decide +kernel
theorem dX6_personsOn_32 : decode cX6_personsOn 32 = .ok (.iinc 4 1, 3) := by decide +kernel
theorem dX6_personsOn_35 : decode cX6_personsOn 35 = .ok (.goto (-30), 3) := by decide +kernel
theorem dX6_personsOn_38 : decode cX6_personsOn 38 = .ok (.iload_n 3, 1) := by decide +kernel
theorem dX6_personsOn_39 : decode cX6_personsOn 39 = .ok (.ireturn, 1) := by decide +kernel
theorem dX6_put_0 : decode cX6_put 0 = .ok (.aload_n 0, 1) := by decide +kernel
theorem dX6_put_1 : decode cX6_put 1 = .ok (.getfield 18, 3) := by decide +kernel
theorem dX6_put_4 : decode cX6_put 4 = .ok (.bipush 60, 2) := by decide +kernel
theorem dX6_put_6 : decode cX6_put 6 = .ok (.if_icmp .lt 5, 3) := by decide +kernel
theorem dX6_put_9 : decode cX6_put 9 = .ok (.iconst 0, 1) := by decide +kernel
theorem dX6_put_10 : decode cX6_put 10 = .ok (.ireturn, 1) := by decide +kernel
theorem dX6_put_11 : decode cX6_put 11 = .ok (.aload_n 0, 1) := by decide +kernel
theorem dX6_put_12 : decode cX6_put 12 = .ok (.getfield 9, 3) := by decide +kernel
theorem dX6_put_15 : decode cX6_put 15 = .ok (.aload_n 0, 1) := by decide +kernel
theorem dX6_put_16 : decode cX6_put 16 = .ok (.getfield 18, 3) := by decide +kernel
theorem dX6_put_19 : decode cX6_put 19 = .ok (.iload_n 1, 1) := by decide +kernel
theorem dX6_put_20 : decode cX6_put 20 = .ok (.iload_n 2, 1) := by decide +kernel
theorem dX6_put_21 : decode cX6_put 21 = .ok (.invokestatic 22, 3) := by decide +kernel
theorem dX6_put_24 : decode cX6_put 24 = .ok (.iastore, 1) := by decide +kernel
theorem dX6_put_25 : decode cX6_put 25 = .ok (.aload_n 0, 1) := by decide +kernel
theorem dX6_put_26 : decode cX6_put 26 = .ok (.getfield 15, 3) := by decide +kernel
theorem dX6_put_29 : decode cX6_put 29 = .ok (.aload_n 0, 1) := by decide +kernel
theorem dX6_put_30 : decode cX6_put 30 = .ok (.getfield 18, 3) := by decide +kernel
theorem dX6_put_33 : decode cX6_put 33 = .ok (.iload_n 3, 1) := by decide +kernel
theorem dX6_put_34 : decode cX6_put 34 = .ok (.iastore, 1) := by decide +kernel
theorem dX6_put_35 : decode cX6_put 35 = .ok (.aload_n 0, 1) := by decide +kernel
theorem dX6_put_36 : decode cX6_put 36 = .ok (.dup, 1) := by decide +kernel
theorem dX6_put_37 : decode cX6_put 37 = .ok (.getfield 18, 3) := by decide +kernel
theorem dX6_put_40 : decode cX6_put 40 = .ok (.iconst 1, 1) := by decide +kernel
theorem dX6_put_41 : decode cX6_put 41 = .ok (.iadd, 1) := by decide +kernel
theorem dX6_put_42 : decode cX6_put 42 = .ok (.putfield 18, 3) := by decide +kernel
theorem dX6_put_45 : decode cX6_put 45 = .ok (.iconst 1, 1) := by decide +kernel
theorem dX6_put_46 : decode cX6_put 46 = .ok (.ireturn, 1) := by decide +kernel
theorem dX6_pairOf_0 : decode cX6_pairOf 0 = .ok (.iload_n 0, 1) := by decide +kernel
theorem dX6_pairOf_1 : decode cX6_pairOf 1 = .ok (.bipush 12, 2) := by decide +kernel
theorem dX6_pairOf_3 : decode cX6_pairOf 3 = .ok (.imul, 1) := by decide +kernel
theorem dX6_pairOf_4 : decode cX6_pairOf 4 = .ok (.iload_n 1, 1) := by decide +kernel
theorem dX6_pairOf_5 : decode cX6_pairOf 5 = .ok (.iadd, 1) := by decide +kernel
theorem dX6_pairOf_6 : decode cX6_pairOf 6 = .ok (.ireturn, 1) := by decide +kernel
theorem dX7_init_0 : decode cX7_init 0 = .ok (.aload_n 0, 1) := by decide +kernel
theorem dX7_init_1 : decode cX7_init 1 = .ok (.invokespecial 3, 3) := by decide +kernel
theorem dX7_init_4 : decode cX7_init 4 = .ok (.aload_n 0, 1) := by decide +kernel
theorem dX7_init_5 : decode cX7_init 5 = .ok (.sipush 500, 3) := by decide +kernel
theorem dX7_init_8 : decode cX7_init 8 = .ok (.newarray .byte, 2) := by decide +kernel
theorem dX7_init_10 : decode cX7_init 10 = .ok (.putfield 9, 3) := by decide +kernel
theorem dX7_init_13 : decode cX7_init 13 = .ok (.return_, 1) := by decide +kernel
theorem dX7_hasRoomFor_0 : decode cX7_hasRoomFor 0 = .ok (.aload_n 0, 1) := by decide +kernel
theorem dX7_hasRoomFor_1 : decode cX7_hasRoomFor 1 = .ok (.getfield 15, 3) := by decide +kernel
theorem dX7_hasRoomFor_4 : decode cX7_hasRoomFor 4 = .ok (.iload_n 1, 1) := by decide +kernel
theorem dX7_hasRoomFor_5 : decode cX7_hasRoomFor 5 = .ok (.iadd, 1) := by decide +kernel
theorem dX7_hasRoomFor_6 : decode cX7_hasRoomFor 6 = .ok (.sipush 500, 3) := by decide +kernel
theorem dX7_hasRoomFor_9 : decode cX7_hasRoomFor 9 = .ok (.if_icmp .gt 7, 3) := by decide +kernel
theorem dX7_hasRoomFor_12 : decode cX7_hasRoomFor 12 = .ok (.iconst 1, 1) := by decide +kernel
theorem dX7_hasRoomFor_13 : decode cX7_hasRoomFor 13 = .ok (.goto 4, 3) := by decide +kernel
theorem dX7_hasRoomFor_16 : decode cX7_hasRoomFor 16 = .ok (.iconst 0, 1) := by decide +kernel
theorem dX7_hasRoomFor_17 : decode cX7_hasRoomFor 17 = .ok (.ireturn, 1) := by decide +kernel
theorem dX7_put_0 : decode cX7_put 0 = .ok (.bipush 24, 2) := by decide +kernel
theorem dX7_put_2 : decode cX7_put 2 = .ok (.istore_n 2, 1) := by decide +kernel
theorem dX7_put_3 : decode cX7_put 3 = .ok (.iload_n 2, 1) := by decide +kernel
theorem dX7_put_4 : decode cX7_put 4 = .ok (.ifCond .lt 42, 3) := by decide +kernel
theorem dX7_put_7 : decode cX7_put 7 = .ok (.aload_n 0, 1) := by decide +kernel
theorem dX7_put_8 : decode cX7_put 8 = .ok (.getfield 15, 3) := by decide +kernel
theorem dX7_put_11 : decode cX7_put 11 = .ok (.sipush 500, 3) := by decide +kernel
theorem dX7_put_14 : decode cX7_put 14 = .ok (.if_icmp .ge 32, 3) := by decide +kernel
theorem dX7_put_17 : decode cX7_put 17 = .ok (.aload_n 0, 1) := by decide +kernel
theorem dX7_put_18 : decode cX7_put 18 = .ok (.getfield 9, 3) := by decide +kernel
theorem dX7_put_21 : decode cX7_put 21 = .ok (.aload_n 0, 1) := by decide +kernel
theorem dX7_put_22 : decode cX7_put 22 = .ok (.getfield 15, 3) := by decide +kernel
theorem dX7_put_25 : decode cX7_put 25 = .ok (.iload_n 1, 1) := by decide +kernel
theorem dX7_put_26 : decode cX7_put 26 = .ok (.iload_n 2, 1) := by decide +kernel
theorem dX7_put_27 : decode cX7_put 27 = .ok (.ishr, 1) := by decide +kernel
theorem dX7_put_28 : decode cX7_put 28 = .ok (.i2b, 1) := by decide +kernel
theorem dX7_put_29 : decode cX7_put 29 = .ok (.bastore, 1) := by decide +kernel
theorem dX7_put_30 : decode cX7_put 30 = .ok (.aload_n 0, 1) := by decide +kernel
theorem dX7_put_31 : decode cX7_put 31 = .ok (.dup, 1) := by decide +kernel
theorem dX7_put_32 : decode cX7_put 32 = .ok (.getfield 15, 3) := by decide +kernel
theorem dX7_put_35 : decode cX7_put 35 = .ok (.iconst 1, 1) := by decide +kernel
theorem dX7_put_36 : decode cX7_put 36 = .ok (.iadd, 1) := by decide +kernel
theorem dX7_put_37 : decode cX7_put 37 = .ok (.putfield 15, 3) := by decide +kernel
theorem dX7_put_40 : decode cX7_put 40 = .ok (.iinc 2 (-8), 3) := by decide +kernel
theorem dX7_put_43 : decode cX7_put 43 = .ok (.goto (-40), 3) := by decide +kernel
theorem dX7_put_46 : decode cX7_put 46 = .ok (.return_, 1) := by decide +kernel
theorem dX8_init_0 : decode cX8_init 0 = .ok (.aload_n 0, 1) := by decide +kernel
theorem dX8_init_1 : decode cX8_init 1 = .ok (.invokespecial 1, 3) := by decide +kernel
theorem dX8_init_4 : decode cX8_init 4 = .ok (.aload_n 0, 1) := by decide +kernel
theorem dX8_init_5 : decode cX8_init 5 = .ok (.new 7, 3) := by decide +kernel
theorem dX8_init_8 : decode cX8_init 8 = .ok (.dup, 1) := by decide +kernel
theorem dX8_init_9 : decode cX8_init 9 = .ok (.invokespecial 9, 3) := by decide +kernel
theorem dX8_init_12 : decode cX8_init 12 = .ok (.putfield 10, 3) := by decide +kernel
theorem dX8_init_15 : decode cX8_init 15 = .ok (.aload_n 0, 1) := by decide +kernel
theorem dX8_init_16 : decode cX8_init 16 = .ok (.new 16, 3) := by decide +kernel
theorem dX8_init_19 : decode cX8_init 19 = .ok (.dup, 1) := by decide +kernel
theorem dX8_init_20 : decode cX8_init 20 = .ok (.invokespecial 18, 3) := by decide +kernel
theorem dX8_init_23 : decode cX8_init 23 = .ok (.putfield 19, 3) := by decide +kernel
theorem dX8_init_26 : decode cX8_init 26 = .ok (.aload_n 0, 1) := by decide +kernel
theorem dX8_init_27 : decode cX8_init 27 = .ok (.new 23, 3) := by decide +kernel
theorem dX8_init_30 : decode cX8_init 30 = .ok (.dup, 1) := by decide +kernel
theorem dX8_init_31 : decode cX8_init 31 = .ok (.invokespecial 25, 3) := by decide +kernel
theorem dX8_init_34 : decode cX8_init 34 = .ok (.putfield 26, 3) := by decide +kernel
theorem dX8_init_37 : decode cX8_init 37 = .ok (.aload_n 0, 1) := by decide +kernel
theorem dX8_init_38 : decode cX8_init 38 = .ok (.new 30, 3) := by decide +kernel
theorem dX8_init_41 : decode cX8_init 41 = .ok (.dup, 1) := by decide +kernel
theorem dX8_init_42 : decode cX8_init 42 = .ok (.invokespecial 32, 3) := by decide +kernel
theorem dX8_init_45 : decode cX8_init 45 = .ok (.putfield 33, 3) := by decide +kernel
theorem dX8_init_48 : decode cX8_init 48 = .ok (.aload_n 0, 1) := by decide +kernel
theorem dX8_init_49 : decode cX8_init 49 = .ok (.new 37, 3) := by decide +kernel
theorem dX8_init_52 : decode cX8_init 52 = .ok (.dup, 1) := by decide +kernel
theorem dX8_init_53 : decode cX8_init 53 = .ok (.invokespecial 39, 3) := by decide +kernel
theorem dX8_init_56 : decode cX8_init 56 = .ok (.putfield 40, 3) := by decide +kernel
theorem dX8_init_59 : decode cX8_init 59 = .ok (.aload_n 0, 1) := by decide +kernel
theorem dX8_init_60 : decode cX8_init 60 = .ok (.new 44, 3) := by decide +kernel
theorem dX8_init_63 : decode cX8_init 63 = .ok (.dup, 1) := by decide +kernel
theorem dX8_init_64 : decode cX8_init 64 = .ok (.invokespecial 46, 3) := by decide +kernel
theorem dX8_init_67 : decode cX8_init 67 = .ok (.putfield 47, 3) := by decide +kernel
theorem dX8_init_70 : decode cX8_init 70 = .ok (.aload_n 0, 1) := by decide +kernel
theorem dX8_init_71 : decode cX8_init 71 = .ok (.new 51, 3) := by decide +kernel
theorem dX8_init_74 : decode cX8_init 74 = .ok (.dup, 1) := by decide +kernel
theorem dX8_init_75 : decode cX8_init 75 = .ok (.invokespecial 53, 3) := by decide +kernel
theorem dX8_init_78 : decode cX8_init 78 = .ok (.putfield 54, 3) := by decide +kernel
theorem dX8_init_81 : decode cX8_init 81 = .ok (.aload_n 0, 1) := by decide +kernel
theorem dX8_init_82 : decode cX8_init 82 = .ok (.new 51, 3) := by decide +kernel
theorem dX8_init_85 : decode cX8_init 85 = .ok (.dup, 1) := by decide +kernel
theorem dX8_init_86 : decode cX8_init 86 = .ok (.invokespecial 53, 3) := by decide +kernel
theorem dX8_init_89 : decode cX8_init 89 = .ok (.putfield 58, 3) := by decide +kernel
theorem dX8_init_92 : decode cX8_init 92 = .ok (.aload_n 0, 1) := by decide +kernel
theorem dX8_init_93 : decode cX8_init 93 = .ok (.new 61, 3) := by decide +kernel
theorem dX8_init_96 : decode cX8_init 96 = .ok (.dup, 1) := by decide +kernel
theorem dX8_init_97 : decode cX8_init 97 = .ok (.invokespecial 63, 3) := by decide +kernel
theorem dX8_init_100 : decode cX8_init 100 = .ok (.putfield 64, 3) := by decide +kernel
theorem dX8_init_103 : decode cX8_init 103 = .ok (.aload_n 0, 1) := by decide +kernel
theorem dX8_init_104 : decode cX8_init 104 = .ok (.new 61, 3) := by decide +kernel
theorem dX8_init_107 : decode cX8_init 107 = .ok (.dup, 1) := by decide +kernel
theorem dX8_init_108 : decode cX8_init 108 = .ok (.invokespecial 63, 3) := by decide +kernel
theorem dX8_init_111 : decode cX8_init 111 = .ok (.putfield 68, 3) := by decide +kernel
theorem dX8_init_114 : decode cX8_init 114 = .ok (.return_, 1) := by decide +kernel
theorem dX8_file_0 : decode cX8_file 0 = .ok (.iload_n 1, 1) := by decide +kernel
theorem dX8_file_1 : decode cX8_file 1 = .ok (.ifCond .ne 11, 3) := by decide +kernel
theorem dX8_file_4 : decode cX8_file 4 = .ok (.aload_n 0, 1) := by decide +kernel
theorem dX8_file_5 : decode cX8_file 5 = .ok (.getfield 10, 3) := by decide +kernel
theorem dX8_file_8 : decode cX8_file 8 = .ok (.invokevirtual 71, 3) := by decide +kernel
theorem dX8_file_11 : decode cX8_file 11 = .ok (.ireturn, 1) := by decide +kernel
theorem dX8_file_12 : decode cX8_file 12 = .ok (.iload_n 1, 1) := by decide +kernel
theorem dX8_file_13 : decode cX8_file 13 = .ok (.iconst 1, 1) := by decide +kernel
theorem dX8_file_14 : decode cX8_file 14 = .ok (.if_icmp .ne 14, 3) := by decide +kernel
theorem dX8_file_17 : decode cX8_file 17 = .ok (.aload_n 0, 1) := by decide +kernel
theorem dX8_file_18 : decode cX8_file 18 = .ok (.getfield 19, 3) := by decide +kernel
theorem dX8_file_21 : decode cX8_file 21 = .ok (.getfield 75, 3) := by decide +kernel
theorem dX8_file_24 : decode cX8_file 24 = .ok (.invokevirtual 71, 3) := by decide +kernel
theorem dX8_file_27 : decode cX8_file 27 = .ok (.ireturn, 1) := by decide +kernel
theorem dX8_file_28 : decode cX8_file 28 = .ok (.iconst (-1), 1) := by decide +kernel
theorem dX8_file_29 : decode cX8_file 29 = .ok (.ireturn, 1) := by decide +kernel
theorem dX8_sex_0 : decode cX8_sex 0 = .ok (.aload_n 0, 1) := by decide +kernel
theorem dX8_sex_1 : decode cX8_sex 1 = .ok (.iload_n 1, 1) := by decide +kernel
theorem dX8_sex_2 : decode cX8_sex 2 = .ok (.iload_n 2, 1) := by decide +kernel
theorem dX8_sex_3 : decode cX8_sex 3 = .ok (.invokevirtual 78, 3) := by decide +kernel
theorem dX8_sex_6 : decode cX8_sex 6 = .ok (.astore 4, 2) := by decide +kernel
theorem dX8_sex_8 : decode cX8_sex 8 = .ok (.aload 4, 2) := by decide +kernel
theorem dX8_sex_10 : decode cX8_sex 10 = .ok (.ifnull 12, 3) := by decide +kernel
theorem dX8_sex_13 : decode cX8_sex 13 = .ok (.iload_n 3, 1) := by decide +kernel
theorem dX8_sex_14 : decode cX8_sex 14 = .ok (.iconst 0, 1) := by decide +kernel
theorem dX8_sex_15 : decode cX8_sex 15 = .ok (.iconst 2, 1) := by decide +kernel
theorem dX8_sex_16 : decode cX8_sex 16 = .ok (.invokestatic 82, 3) := by decide +kernel
theorem dX8_sex_19 : decode cX8_sex 19 = .ok (.ifCond .ne 5, 3) := by decide +kernel
theorem dX8_sex_22 : decode cX8_sex 22 = .ok (.iconst 0, 1) := by decide +kernel
theorem dX8_sex_23 : decode cX8_sex 23 = .ok (.ireturn, 1) := by decide +kernel
theorem dX8_sex_24 : decode cX8_sex 24 = .ok (.aload 4, 2) := by decide +kernel
theorem dX8_sex_26 : decode cX8_sex 26 = .ok (.iload_n 3, 1) := by decide +kernel
theorem dX8_sex_27 : decode cX8_sex 27 = .ok (.putfield 86, 3) := by decide +kernel
theorem dX8_sex_30 : decode cX8_sex 30 = .ok (.iconst 1, 1) := by decide +kernel
theorem dX8_sex_31 : decode cX8_sex 31 = .ok (.ireturn, 1) := by decide +kernel
theorem dX8_age_0 : decode cX8_age 0 = .ok (.aload_n 0, 1) := by decide +kernel
theorem dX8_age_1 : decode cX8_age 1 = .ok (.iload_n 1, 1) := by decide +kernel
theorem dX8_age_2 : decode cX8_age 2 = .ok (.iload_n 2, 1) := by decide +kernel
theorem dX8_age_3 : decode cX8_age 3 = .ok (.invokevirtual 78, 3) := by decide +kernel
theorem dX8_age_6 : decode cX8_age 6 = .ok (.astore 5, 2) := by decide +kernel
theorem dX8_age_8 : decode cX8_age 8 = .ok (.aload 5, 2) := by decide +kernel
theorem dX8_age_10 : decode cX8_age 10 = .ok (.ifnull 20, 3) := by decide +kernel
theorem dX8_age_13 : decode cX8_age 13 = .ok (.iload_n 3, 1) := by decide +kernel
theorem dX8_age_14 : decode cX8_age 14 = .ok (.ifCond .lt 16, 3) := by decide +kernel
theorem dX8_age_17 : decode cX8_age 17 = .ok (.iload_n 3, 1) := by decide +kernel
theorem dX8_age_18 : decode cX8_age 18 = .ok (.iload 4, 2) := by decide +kernel
theorem dX8_age_20 : decode cX8_age 20 = .ok (.if_icmp .gt 10, 3) := by decide +kernel
theorem dX8_age_23 : decode cX8_age 23 = .ok (.iload 4, 2) := by decide +kernel
theorem dX8_age_25 : decode cX8_age 25 = .ok (.bipush 120, 2) := by decide +kernel
theorem dX8_age_27 : decode cX8_age 27 = .ok (.if_icmp .le 5, 3) := by decide +kernel
theorem dX8_age_30 : decode cX8_age 30 = .ok (.iconst 0, 1) := by decide +kernel
theorem dX8_age_31 : decode cX8_age 31 = .ok (.ireturn, 1) := by decide +kernel
theorem dX8_age_32 : decode cX8_age 32 = .ok (.aload 5, 2) := by decide +kernel
theorem dX8_age_34 : decode cX8_age 34 = .ok (.iload_n 3, 1) := by decide +kernel
theorem dX8_age_35 : decode cX8_age 35 = .ok (.putfield 90, 3) := by decide +kernel
theorem dX8_age_38 : decode cX8_age 38 = .ok (.aload 5, 2) := by decide +kernel
theorem dX8_age_40 : decode cX8_age 40 = .ok (.iload 4, 2) := by decide +kernel
theorem dX8_age_42 : decode cX8_age 42 = .ok (.putfield 93, 3) := by decide +kernel
theorem dX8_age_45 : decode cX8_age 45 = .ok (.iconst 1, 1) := by decide +kernel
theorem dX8_age_46 : decode cX8_age 46 = .ok (.ireturn, 1) := by decide +kernel
theorem dX8_tooth_0 : decode cX8_tooth 0 = .ok (.aload_n 0, 1) := by decide +kernel
theorem dX8_tooth_1 : decode cX8_tooth 1 = .ok (.iload_n 1, 1) := by decide +kernel
theorem dX8_tooth_2 : decode cX8_tooth 2 = .ok (.iload_n 2, 1) := by decide +kernel
theorem dX8_tooth_3 : decode cX8_tooth 3 = .ok (.invokevirtual 78, 3) := by decide +kernel
theorem dX8_tooth_6 : decode cX8_tooth 6 = .ok (.astore 5, 2) := by decide +kernel
theorem dX8_tooth_8 : decode cX8_tooth 8 = .ok (.aload 5, 2) := by decide +kernel
theorem dX8_tooth_10 : decode cX8_tooth 10 = .ok (.ifnull 23, 3) := by decide +kernel
theorem dX8_tooth_13 : decode cX8_tooth 13 = .ok (.iload_n 3, 1) := by decide +kernel
theorem dX8_tooth_14 : decode cX8_tooth 14 = .ok (.iconst 0, 1) := by decide +kernel
theorem dX8_tooth_15 : decode cX8_tooth 15 = .ok (.bipush 7, 2) := by decide +kernel
theorem dX8_tooth_17 : decode cX8_tooth 17 = .ok (.invokestatic 82, 3) := by decide +kernel
theorem dX8_tooth_20 : decode cX8_tooth 20 = .ok (.ifCond .eq 13, 3) := by decide +kernel
theorem dX8_tooth_23 : decode cX8_tooth 23 = .ok (.iload 4, 2) := by decide +kernel
theorem dX8_tooth_25 : decode cX8_tooth 25 = .ok (.iconst 0, 1) := by decide +kernel
theorem dX8_tooth_26 : decode cX8_tooth 26 = .ok (.iconst 3, 1) := by decide +kernel
theorem dX8_tooth_27 : decode cX8_tooth 27 = .ok (.invokestatic 82, 3) := by decide +kernel
theorem dX8_tooth_30 : decode cX8_tooth 30 = .ok (.ifCond .ne 5, 3) := by decide +kernel
theorem dX8_tooth_33 : decode cX8_tooth 33 = .ok (.iconst 0, 1) := by decide +kernel
theorem dX8_tooth_34 : decode cX8_tooth 34 = .ok (.ireturn, 1) := by decide +kernel
theorem dX8_tooth_35 : decode cX8_tooth 35 = .ok (.aload 5, 2) := by decide +kernel
theorem dX8_tooth_37 : decode cX8_tooth 37 = .ok (.getfield 96, 3) := by decide +kernel
theorem dX8_tooth_40 : decode cX8_tooth 40 = .ok (.iload_n 3, 1) := by decide +kernel
theorem dX8_tooth_41 : decode cX8_tooth 41 = .ok (.iload 4, 2) := by decide +kernel
theorem dX8_tooth_43 : decode cX8_tooth 43 = .ok (.iastore, 1) := by decide +kernel
theorem dX8_tooth_44 : decode cX8_tooth 44 = .ok (.iconst 1, 1) := by decide +kernel
theorem dX8_tooth_45 : decode cX8_tooth 45 = .ok (.ireturn, 1) := by decide +kernel
theorem dX8_mark_0 : decode cX8_mark 0 = .ok (.aload_n 0, 1) := by decide +kernel
theorem dX8_mark_1 : decode cX8_mark 1 = .ok (.iload_n 1, 1) := by decide +kernel
theorem dX8_mark_2 : decode cX8_mark 2 = .ok (.iload_n 2, 1) := by decide +kernel
theorem dX8_mark_3 : decode cX8_mark 3 = .ok (.invokevirtual 78, 3) := by decide +kernel
theorem dX8_mark_6 : decode cX8_mark 6 = .ok (.astore 5, 2) := by decide +kernel
theorem dX8_mark_8 : decode cX8_mark 8 = .ok (.aload 5, 2) := by decide +kernel
theorem dX8_mark_10 : decode cX8_mark 10 = .ok (.ifnull 23, 3) := by decide +kernel
theorem dX8_mark_13 : decode cX8_mark 13 = .ok (.iload_n 3, 1) := by decide +kernel
theorem dX8_mark_14 : decode cX8_mark 14 = .ok (.iconst 0, 1) := by decide +kernel
theorem dX8_mark_15 : decode cX8_mark 15 = .ok (.iconst 3, 1) := by decide +kernel
theorem dX8_mark_16 : decode cX8_mark 16 = .ok (.invokestatic 82, 3) := by decide +kernel
theorem dX8_mark_19 : decode cX8_mark 19 = .ok (.ifCond .eq 14, 3) := by decide +kernel
theorem dX8_mark_22 : decode cX8_mark 22 = .ok (.iload 4, 2) := by decide +kernel
theorem dX8_mark_24 : decode cX8_mark 24 = .ok (.iconst 0, 1) := by decide +kernel
theorem dX8_mark_25 : decode cX8_mark 25 = .ok (.bipush 9, 2) := by decide +kernel
theorem dX8_mark_27 : decode cX8_mark 27 = .ok (.invokestatic 82, 3) := by decide +kernel
theorem dX8_mark_30 : decode cX8_mark 30 = .ok (.ifCond .ne 5, 3) := by decide +kernel
theorem dX8_mark_33 : decode cX8_mark 33 = .ok (.iconst 0, 1) := by decide +kernel
theorem dX8_mark_34 : decode cX8_mark 34 = .ok (.ireturn, 1) := by decide +kernel
theorem dX8_mark_35 : decode cX8_mark 35 = .ok (.aload 5, 2) := by decide +kernel
theorem dX8_mark_37 : decode cX8_mark 37 = .ok (.getfield 100, 3) := by decide +kernel
theorem dX8_mark_40 : decode cX8_mark 40 = .ok (.iload_n 3, 1) := by decide +kernel
theorem dX8_mark_41 : decode cX8_mark 41 = .ok (.iload 4, 2) := by decide +kernel
theorem dX8_mark_43 : decode cX8_mark 43 = .ok (.iastore, 1) := by decide +kernel
theorem dX8_mark_44 : decode cX8_mark 44 = .ok (.iconst 1, 1) := by decide +kernel
theorem dX8_mark_45 : decode cX8_mark 45 = .ok (.ireturn, 1) := by decide +kernel
theorem dX8_tissue_0 : decode cX8_tissue 0 = .ok (.iload_n 1, 1) := by decide +kernel
theorem dX8_tissue_1 : decode cX8_tissue 1 = .ok (.iconst 2, 1) := by decide +kernel
theorem dX8_tissue_2 : decode cX8_tissue 2 = .ok (.if_icmp .ne 7, 3) := by decide +kernel
theorem dX8_tissue_5 : decode cX8_tissue 5 = .ok (.iconst 1, 1) := by decide +kernel
theorem dX8_tissue_6 : decode cX8_tissue 6 = .ok (.goto 4, 3) := by decide +kernel
theorem dX8_tissue_9 : decode cX8_tissue 9 = .ok (.iconst 0, 1) := by decide +kernel
theorem dX8_tissue_10 : decode cX8_tissue 10 = .ok (.istore 6, 2) := by decide +kernel
theorem dX8_tissue_12 : decode cX8_tissue 12 = .ok (.aload_n 0, 1) := by decide +kernel
theorem dX8_tissue_13 : decode cX8_tissue 13 = .ok (.iload 6, 2) := by decide +kernel
theorem dX8_tissue_15 : decode cX8_tissue 15 = .ok (.ifCond .eq 7, 3) := by decide +kernel
theorem dX8_tissue_18 : decode cX8_tissue 18 = .ok (.iconst 0, 1) := by decide +kernel
theorem dX8_tissue_19 : decode cX8_tissue 19 = .ok (.goto 4, 3) := by decide +kernel
theorem dX8_tissue_22 : decode cX8_tissue 22 = .ok (.iload_n 1, 1) := by decide +kernel
theorem dX8_tissue_23 : decode cX8_tissue 23 = .ok (.iload_n 2, 1) := by decide +kernel
theorem dX8_tissue_24 : decode cX8_tissue 24 = .ok (.invokevirtual 78, 3) := by decide +kernel
theorem dX8_tissue_27 : decode cX8_tissue 27 = .ok (.astore 7, 2) := by decide +kernel
theorem dX8_tissue_29 : decode cX8_tissue 29 = .ok (.aload 7, 2) := by decide +kernel
theorem dX8_tissue_31 : decode cX8_tissue 31 = .ok (.ifnull 12, 3) := by decide +kernel
theorem dX8_tissue_34 : decode cX8_tissue 34 = .ok (.iload_n 3, 1) := by decide +kernel
theorem dX8_tissue_35 : decode cX8_tissue 35 = .ok (.iconst 0, 1) := by decide +kernel
theorem dX8_tissue_36 : decode cX8_tissue 36 = .ok (.iconst 2, 1) := by decide +kernel
theorem dX8_tissue_37 : decode cX8_tissue 37 = .ok (.invokestatic 82, 3) := by decide +kernel
theorem dX8_tissue_40 : decode cX8_tissue 40 = .ok (.ifCond .ne 5, 3) := by decide +kernel
theorem dX8_tissue_43 : decode cX8_tissue 43 = .ok (.iconst 0, 1) := by decide +kernel
theorem dX8_tissue_44 : decode cX8_tissue 44 = .ok (.ireturn, 1) := by decide +kernel
theorem dX8_tissue_45 : decode cX8_tissue 45 = .ok (.iload 4, 2) := by decide +kernel
theorem dX8_tissue_47 : decode cX8_tissue 47 = .ok (.ifCond .eq 27, 3) := by decide +kernel
theorem dX8_tissue_50 : decode cX8_tissue 50 = .ok (.iload 4, 2) := by decide +kernel
theorem dX8_tissue_52 : decode cX8_tissue 52 = .ok (.iconst 1, 1) := by decide +kernel
theorem dX8_tissue_53 : decode cX8_tissue 53 = .ok (.bipush 9, 2) := by decide +kernel
theorem dX8_tissue_55 : decode cX8_tissue 55 = .ok (.invokestatic 82, 3) := by decide +kernel
theorem dX8_tissue_58 : decode cX8_tissue 58 = .ok (.ifCond .eq 14, 3) := by decide +kernel
theorem dX8_tissue_61 : decode cX8_tissue 61 = .ok (.iload 5, 2) := by decide +kernel
theorem dX8_tissue_63 : decode cX8_tissue 63 = .ok (.iconst 1, 1) := by decide +kernel
theorem dX8_tissue_64 : decode cX8_tissue 64 = .ok (.bipush 9, 2) := by decide +kernel
theorem dX8_tissue_66 : decode cX8_tissue 66 = .ok (.invokestatic 82, 3) := by decide +kernel
theorem dX8_tissue_69 : decode cX8_tissue 69 = .ok (.ifCond .ne 5, 3) := by decide +kernel
theorem dX8_tissue_72 : decode cX8_tissue 72 = .ok (.iconst 0, 1) := by decide +kernel
theorem dX8_tissue_73 : decode cX8_tissue 73 = .ok (.ireturn, 1) := by decide +kernel
theorem dX8_tissue_74 : decode cX8_tissue 74 = .ok (.iload 6, 2) := by decide +kernel
theorem dX8_tissue_76 : decode cX8_tissue 76 = .ok (.ifCond .eq 11, 3) := by decide +kernel
theorem dX8_tissue_79 : decode cX8_tissue 79 = .ok (.aload 7, 2) := by decide +kernel
theorem dX8_tissue_81 : decode cX8_tissue 81 = .ok (.getfield 103, 3) := by decide +kernel
theorem dX8_tissue_84 : decode cX8_tissue 84 = .ok (.goto 8, 3) := by decide +kernel
theorem dX8_tissue_87 : decode cX8_tissue 87 = .ok (.aload 7, 2) := by decide +kernel
theorem dX8_tissue_89 : decode cX8_tissue 89 = .ok (.getfield 106, 3) := by decide +kernel
theorem dX8_tissue_92 : decode cX8_tissue 92 = .ok (.astore 8, 2) := by decide +kernel
theorem dX8_tissue_94 : decode cX8_tissue 94 = .ok (.aload 8, 2) := by decide +kernel
theorem dX8_tissue_96 : decode cX8_tissue 96 = .ok (.iload_n 3, 1) := by decide +kernel
theorem dX8_tissue_97 : decode cX8_tissue 97 = .ok (.iload 4, 2) := by decide +kernel
theorem dX8_tissue_99 : decode cX8_tissue 99 = .ok (.ifCond .ne 7, 3) := by decide +kernel
theorem dX8_tissue_102 : decode cX8_tissue 102 = .ok (.iconst 0, 1) := by decide +kernel
theorem dX8_tissue_103 : decode cX8_tissue 103 = .ok (.goto 21, 3) := by decide +kernel
theorem dX8_tissue_106 : decode cX8_tissue 106 = .ok (.bipush 10, 2) := by decide +kernel
theorem dX8_tissue_108 : decode cX8_tissue 108 = .ok (.iload 4, 2) := by decide +kernel
theorem dX8_tissue_110 : decode cX8_tissue 110 = .ok (.iload 5, 2) := by decide +kernel
theorem dX8_tissue_112 : decode cX8_tissue 112 = .ok (.invokestatic 109, 3) := by decide +kernel
theorem dX8_tissue_115 : decode cX8_tissue 115 = .ok (.imul, 1) := by decide +kernel
theorem dX8_tissue_116 : decode cX8_tissue 116 = .ok (.iload 4, 2) := by decide +kernel
theorem dX8_tissue_118 : decode cX8_tissue 118 = .ok (.iload 5, 2) := by decide +kernel
theorem dX8_tissue_120 : decode cX8_tissue 120 = .ok (.invokestatic 115, 3) := by decide +kernel
theorem dX8_tissue_123 : decode cX8_tissue 123 = .ok (.iadd, 1) := by decide +kernel
theorem dX8_tissue_124 : decode cX8_tissue 124 = .ok (.iastore, 1) := by decide +kernel
theorem dX8_tissue_125 : decode cX8_tissue 125 = .ok (.iconst 1, 1) := by decide +kernel
theorem dX8_tissue_126 : decode cX8_tissue 126 = .ok (.ireturn, 1) := by decide +kernel
theorem dX8_pieces_0 : decode cX8_pieces 0 = .ok (.aload_n 0, 1) := by decide +kernel
theorem dX8_pieces_1 : decode cX8_pieces 1 = .ok (.getfield 19, 3) := by decide +kernel
theorem dX8_pieces_4 : decode cX8_pieces 4 = .ok (.getfield 75, 3) := by decide +kernel
theorem dX8_pieces_7 : decode cX8_pieces 7 = .ok (.iload_n 1, 1) := by decide +kernel
theorem dX8_pieces_8 : decode cX8_pieces 8 = .ok (.invokevirtual 118, 3) := by decide +kernel
theorem dX8_pieces_11 : decode cX8_pieces 11 = .ok (.astore_n 3, 1) := by decide +kernel
theorem dX8_pieces_12 : decode cX8_pieces 12 = .ok (.aload_n 3, 1) := by decide +kernel
theorem dX8_pieces_13 : decode cX8_pieces 13 = .ok (.ifnull 14, 3) := by decide +kernel
theorem dX8_pieces_16 : decode cX8_pieces 16 = .ok (.iload_n 2, 1) := by decide +kernel
theorem dX8_pieces_17 : decode cX8_pieces 17 = .ok (.iconst 0, 1) := by decide +kernel
theorem dX8_pieces_18 : decode cX8_pieces 18 = .ok (.sipush 255, 3) := by decide +kernel
theorem dX8_pieces_21 : decode cX8_pieces 21 = .ok (.invokestatic 82, 3) := by decide +kernel
theorem dX8_pieces_24 : decode cX8_pieces 24 = .ok (.ifCond .ne 5, 3) := by decide +kernel
theorem dX8_pieces_27 : decode cX8_pieces 27 = .ok (.iconst 0, 1) := by decide +kernel
theorem dX8_pieces_28 : decode cX8_pieces 28 = .ok (.ireturn, 1) := by decide +kernel
theorem dX8_pieces_29 : decode cX8_pieces 29 = .ok (.aload_n 0, 1) := by decide +kernel
theorem dX8_pieces_30 : decode cX8_pieces 30 = .ok (.getfield 19, 3) := by decide +kernel
theorem dX8_pieces_33 : decode cX8_pieces 33 = .ok (.iload_n 1, 1) := by decide +kernel
theorem dX8_pieces_34 : decode cX8_pieces 34 = .ok (.invokevirtual 122, 3) := by decide +kernel
theorem dX8_pieces_37 : decode cX8_pieces 37 = .ok (.iload_n 2, 1) := by decide +kernel
theorem dX8_pieces_38 : decode cX8_pieces 38 = .ok (.iand, 1) := by decide +kernel
theorem dX8_pieces_39 : decode cX8_pieces 39 = .ok (.ifCond .eq 5, 3) := by decide +kernel
theorem dX8_pieces_42 : decode cX8_pieces 42 = .ok (.iconst 0, 1) := by decide +kernel
theorem dX8_pieces_43 : decode cX8_pieces 43 = .ok (.ireturn, 1) := by decide +kernel
theorem dX8_pieces_44 : decode cX8_pieces 44 = .ok (.aload_n 3, 1) := by decide +kernel
theorem dX8_pieces_45 : decode cX8_pieces 45 = .ok (.iload_n 2, 1) := by decide +kernel
theorem dX8_pieces_46 : decode cX8_pieces 46 = .ok (.putfield 126, 3) := by decide +kernel
theorem dX8_pieces_49 : decode cX8_pieces 49 = .ok (.iconst 1, 1) := by decide +kernel
theorem dX8_pieces_50 : decode cX8_pieces 50 = .ok (.ireturn, 1) := by decide +kernel
theorem dX8_unfit_0 : decode cX8_unfit 0 = .ok (.aload_n 0, 1) := by decide +kernel
theorem dX8_unfit_1 : decode cX8_unfit 1 = .ok (.getfield 19, 3) := by decide +kernel
theorem dX8_unfit_4 : decode cX8_unfit 4 = .ok (.iload_n 1, 1) := by decide +kernel
theorem dX8_unfit_5 : decode cX8_unfit 5 = .ok (.invokevirtual 129, 3) := by decide +kernel
theorem dX8_unfit_8 : decode cX8_unfit 8 = .ok (.istore_n 3, 1) := by decide +kernel
theorem dX8_unfit_9 : decode cX8_unfit 9 = .ok (.aload_n 0, 1) := by decide +kernel
theorem dX8_unfit_10 : decode cX8_unfit 10 = .ok (.getfield 19, 3) := by decide +kernel
theorem dX8_unfit_13 : decode cX8_unfit 13 = .ok (.iload_n 2, 1) := by decide +kernel
theorem dX8_unfit_14 : decode cX8_unfit 14 = .ok (.invokevirtual 129, 3) := by decide +kernel
theorem dX8_unfit_17 : decode cX8_unfit 17 = .ok (.istore 4, 2) := by decide +kernel
theorem dX8_unfit_19 : decode cX8_unfit 19 = .ok (.iload_n 3, 1) := by decide +kernel
theorem dX8_unfit_20 : decode cX8_unfit 20 = .ok (.iconst (-1), 1) := by decide +kernel
theorem dX8_unfit_21 : decode cX8_unfit 21 = .ok (.if_icmp .eq 15, 3) := by decide +kernel
theorem dX8_unfit_24 : decode cX8_unfit 24 = .ok (.iload 4, 2) := by decide +kernel
theorem dX8_unfit_26 : decode cX8_unfit 26 = .ok (.iconst (-1), 1) := by decide +kernel
theorem dX8_unfit_27 : decode cX8_unfit 27 = .ok (.if_icmp .eq 9, 3) := by decide +kernel
theorem dX8_unfit_30 : decode cX8_unfit 30 = .ok (.iload_n 3, 1) := by decide +kernel
theorem dX8_unfit_31 : decode cX8_unfit 31 = .ok (.iload 4, 2) := by decide +kernel
theorem dX8_unfit_33 : decode cX8_unfit 33 = .ok (.if_icmp .ne 5, 3) := by decide +kernel
theorem dX8_unfit_36 : decode cX8_unfit 36 = .ok (.iconst 1, 1) := by decide +kernel
theorem dX8_unfit_37 : decode cX8_unfit 37 = .ok (.ireturn, 1) := by decide +kernel
theorem dX8_unfit_38 : decode cX8_unfit 38 = .ok (.aload_n 0, 1) := by decide +kernel
theorem dX8_unfit_39 : decode cX8_unfit 39 = .ok (.getfield 19, 3) := by decide +kernel
theorem dX8_unfit_42 : decode cX8_unfit 42 = .ok (.iload_n 3, 1) := by decide +kernel
theorem dX8_unfit_43 : decode cX8_unfit 43 = .ok (.aload_n 0, 1) := by decide +kernel
theorem dX8_unfit_44 : decode cX8_unfit 44 = .ok (.getfield 54, 3) := by decide +kernel
theorem dX8_unfit_47 : decode cX8_unfit 47 = .ok (.invokevirtual 132, 3) := by decide +kernel
theorem dX8_unfit_50 : decode cX8_unfit 50 = .ok (.aload_n 0, 1) := by decide +kernel
theorem dX8_unfit_51 : decode cX8_unfit 51 = .ok (.getfield 19, 3) := by decide +kernel
theorem dX8_unfit_54 : decode cX8_unfit 54 = .ok (.iload 4, 2) := by decide +kernel
theorem dX8_unfit_56 : decode cX8_unfit 56 = .ok (.aload_n 0, 1) := by decide +kernel
theorem dX8_unfit_57 : decode cX8_unfit 57 = .ok (.getfield 58, 3) := by decide +kernel
theorem dX8_unfit_60 : decode cX8_unfit 60 = .ok (.invokevirtual 132, 3) := by decide +kernel
theorem dX8_unfit_63 : decode cX8_unfit 63 = .ok (.aload_n 0, 1) := by decide +kernel
theorem dX8_unfit_64 : decode cX8_unfit 64 = .ok (.getfield 54, 3) := by decide +kernel
theorem dX8_unfit_67 : decode cX8_unfit 67 = .ok (.getfield 126, 3) := by decide +kernel
theorem dX8_unfit_70 : decode cX8_unfit 70 = .ok (.aload_n 0, 1) := by decide +kernel
theorem dX8_unfit_71 : decode cX8_unfit 71 = .ok (.getfield 58, 3) := by decide +kernel
theorem dX8_unfit_74 : decode cX8_unfit 74 = .ok (.getfield 126, 3) := by decide +kernel
theorem dX8_unfit_77 : decode cX8_unfit 77 = .ok (.iand, 1) := by decide +kernel
theorem dX8_unfit_78 : decode cX8_unfit 78 = .ok (.ifCond .eq 5, 3) := by decide +kernel
theorem dX8_unfit_81 : decode cX8_unfit 81 = .ok (.iconst 2, 1) := by decide +kernel
theorem dX8_unfit_82 : decode cX8_unfit 82 = .ok (.ireturn, 1) := by decide +kernel
theorem dX8_unfit_83 : decode cX8_unfit 83 = .ok (.aload_n 0, 1) := by decide +kernel
theorem dX8_unfit_84 : decode cX8_unfit 84 = .ok (.getfield 54, 3) := by decide +kernel
theorem dX8_unfit_87 : decode cX8_unfit 87 = .ok (.aload_n 0, 1) := by decide +kernel
theorem dX8_unfit_88 : decode cX8_unfit 88 = .ok (.getfield 58, 3) := by decide +kernel
theorem dX8_unfit_91 : decode cX8_unfit 91 = .ok (.invokevirtual 136, 3) := by decide +kernel
theorem dX8_unfit_94 : decode cX8_unfit 94 = .ok (.ifCond .eq 5, 3) := by decide +kernel
theorem dX8_unfit_97 : decode cX8_unfit 97 = .ok (.iconst 3, 1) := by decide +kernel
theorem dX8_unfit_98 : decode cX8_unfit 98 = .ok (.ireturn, 1) := by decide +kernel
theorem dX8_unfit_99 : decode cX8_unfit 99 = .ok (.aload_n 0, 1) := by decide +kernel
theorem dX8_unfit_100 : decode cX8_unfit 100 = .ok (.getfield 54, 3) := by decide +kernel
theorem dX8_unfit_103 : decode cX8_unfit 103 = .ok (.aload_n 0, 1) := by decide +kernel
theorem dX8_unfit_104 : decode cX8_unfit 104 = .ok (.getfield 58, 3) := by decide +kernel
theorem dX8_unfit_107 : decode cX8_unfit 107 = .ok (.invokevirtual 140, 3) := by decide +kernel
theorem dX8_unfit_110 : decode cX8_unfit 110 = .ok (.ifCond .ne 5, 3) := by decide +kernel
theorem dX8_unfit_113 : decode cX8_unfit 113 = .ok (.iconst 4, 1) := by decide +kernel
theorem dX8_unfit_114 : decode cX8_unfit 114 = .ok (.ireturn, 1) := by decide +kernel
theorem dX8_unfit_115 : decode cX8_unfit 115 = .ok (.aload_n 0, 1) := by decide +kernel
theorem dX8_unfit_116 : decode cX8_unfit 116 = .ok (.getfield 54, 3) := by decide +kernel
theorem dX8_unfit_119 : decode cX8_unfit 119 = .ok (.aload_n 0, 1) := by decide +kernel
theorem dX8_unfit_120 : decode cX8_unfit 120 = .ok (.getfield 58, 3) := by decide +kernel
theorem dX8_unfit_123 : decode cX8_unfit 123 = .ok (.invokevirtual 143, 3) := by decide +kernel
theorem dX8_unfit_126 : decode cX8_unfit 126 = .ok (.ifCond .eq 5, 3) := by decide +kernel
theorem dX8_unfit_129 : decode cX8_unfit 129 = .ok (.iconst 5, 1) := by decide +kernel
theorem dX8_unfit_130 : decode cX8_unfit 130 = .ok (.ireturn, 1) := by decide +kernel
theorem dX8_unfit_131 : decode cX8_unfit 131 = .ok (.aload_n 0, 1) := by decide +kernel
theorem dX8_unfit_132 : decode cX8_unfit 132 = .ok (.getfield 19, 3) := by decide +kernel
theorem dX8_unfit_135 : decode cX8_unfit 135 = .ok (.getfield 146, 3) := by decide +kernel
theorem dX8_unfit_138 : decode cX8_unfit 138 = .ok (.iload_n 3, 1) := by decide +kernel
theorem dX8_unfit_139 : decode cX8_unfit 139 = .ok (.iaload, 1) := by decide +kernel
theorem dX8_unfit_140 : decode cX8_unfit 140 = .ok (.iconst (-1), 1) := by decide +kernel
theorem dX8_unfit_141 : decode cX8_unfit 141 = .ok (.if_icmp .ne 17, 3) := by decide +kernel
theorem dX8_unfit_144 : decode cX8_unfit 144 = .ok (.aload_n 0, 1) := by decide +kernel
theorem dX8_unfit_145 : decode cX8_unfit 145 = .ok (.getfield 19, 3) := by decide +kernel
theorem dX8_unfit_148 : decode cX8_unfit 148 = .ok (.getfield 146, 3) := by decide +kernel
theorem dX8_unfit_151 : decode cX8_unfit 151 = .ok (.iload 4, 2) := by decide +kernel
theorem dX8_unfit_153 : decode cX8_unfit 153 = .ok (.iaload, 1) := by decide +kernel
theorem dX8_unfit_154 : decode cX8_unfit 154 = .ok (.iconst (-1), 1) := by decide +kernel
theorem dX8_unfit_155 : decode cX8_unfit 155 = .ok (.if_icmp .eq 8, 3) := by decide +kernel
theorem dX8_unfit_158 : decode cX8_unfit 158 = .ok (.bipush 6, 2) := by decide +kernel
theorem dX8_unfit_160 : decode cX8_unfit 160 = .ok (.goto 4, 3) := by decide +kernel
theorem dX8_unfit_163 : decode cX8_unfit 163 = .ok (.iconst 0, 1) := by decide +kernel
theorem dX8_unfit_164 : decode cX8_unfit 164 = .ok (.ireturn, 1) := by decide +kernel
theorem dX8_join_0 : decode cX8_join 0 = .ok (.aload_n 0, 1) := by decide +kernel
theorem dX8_join_1 : decode cX8_join 1 = .ok (.iload_n 1, 1) := by decide +kernel
theorem dX8_join_2 : decode cX8_join 2 = .ok (.iload_n 2, 1) := by decide +kernel
theorem dX8_join_3 : decode cX8_join 3 = .ok (.invokevirtual 149, 3) := by decide +kernel
theorem dX8_join_6 : decode cX8_join 6 = .ok (.ifCond .eq 5, 3) := by decide +kernel
theorem dX8_join_9 : decode cX8_join 9 = .ok (.iconst 0, 1) := by decide +kernel
theorem dX8_join_10 : decode cX8_join 10 = .ok (.ireturn, 1) := by decide +kernel
theorem dX8_join_11 : decode cX8_join 11 = .ok (.aload_n 0, 1) := by decide +kernel
theorem dX8_join_12 : decode cX8_join 12 = .ok (.getfield 19, 3) := by decide +kernel
theorem dX8_join_15 : decode cX8_join 15 = .ok (.aload_n 0, 1) := by decide +kernel
theorem dX8_join_16 : decode cX8_join 16 = .ok (.getfield 19, 3) := by decide +kernel
theorem dX8_join_19 : decode cX8_join 19 = .ok (.iload_n 1, 1) := by decide +kernel
theorem dX8_join_20 : decode cX8_join 20 = .ok (.invokevirtual 129, 3) := by decide +kernel
theorem dX8_join_23 : decode cX8_join 23 = .ok (.aload_n 0, 1) := by decide +kernel
theorem dX8_join_24 : decode cX8_join 24 = .ok (.getfield 19, 3) := by decide +kernel
theorem dX8_join_27 : decode cX8_join 27 = .ok (.iload_n 2, 1) := by decide +kernel
theorem dX8_join_28 : decode cX8_join 28 = .ok (.invokevirtual 129, 3) := by decide +kernel
theorem dX8_join_31 : decode cX8_join 31 = .ok (.invokevirtual 152, 3) := by decide +kernel
theorem dX8_join_34 : decode cX8_join 34 = .ok (.iconst 1, 1) := by decide +kernel
theorem dX8_join_35 : decode cX8_join 35 = .ok (.ireturn, 1) := by decide +kernel
theorem dX8_body_0 : decode cX8_body 0 = .ok (.aload_n 0, 1) := by decide +kernel
theorem dX8_body_1 : decode cX8_body 1 = .ok (.getfield 19, 3) := by decide +kernel
theorem dX8_body_4 : decode cX8_body 4 = .ok (.iload_n 1, 1) := by decide +kernel
theorem dX8_body_5 : decode cX8_body 5 = .ok (.invokevirtual 129, 3) := by decide +kernel
theorem dX8_body_8 : decode cX8_body 8 = .ok (.ireturn, 1) := by decide +kernel
theorem dX8_told_0 : decode cX8_told 0 = .ok (.aload_n 0, 1) := by decide +kernel
theorem dX8_told_1 : decode cX8_told 1 = .ok (.getfield 19, 3) := by decide +kernel
theorem dX8_told_4 : decode cX8_told 4 = .ok (.iload_n 1, 1) := by decide +kernel
theorem dX8_told_5 : decode cX8_told 5 = .ok (.invokevirtual 129, 3) := by decide +kernel
theorem dX8_told_8 : decode cX8_told 8 = .ok (.istore_n 3, 1) := by decide +kernel
theorem dX8_told_9 : decode cX8_told 9 = .ok (.iload_n 3, 1) := by decide +kernel
theorem dX8_told_10 : decode cX8_told 10 = .ok (.iconst (-1), 1) := by decide +kernel
theorem dX8_told_11 : decode cX8_told 11 = .ok (.if_icmp .ne 5, 3) := by decide +kernel
theorem dX8_told_14 : decode cX8_told 14 = .ok (.iconst (-1), 1) := by decide +kernel
theorem dX8_told_15 : decode cX8_told 15 = .ok (.ireturn, 1) := by decide +kernel
theorem dX8_told_16 : decode cX8_told 16 = .ok (.iload_n 2, 1) := by decide +kernel
theorem dX8_told_17 : decode cX8_told 17 = .ok (.iconst 4, 1) := by decide +kernel
theorem dX8_told_18 : decode cX8_told 18 = .ok (.if_icmp .ne 12, 3) := by decide +kernel
theorem dX8_told_21 : decode cX8_told 21 = .ok (.aload_n 0, 1) := by decide +kernel
theorem dX8_told_22 : decode cX8_told 22 = .ok (.getfield 19, 3) := by decide +kernel
theorem dX8_told_25 : decode cX8_told 25 = .ok (.iload_n 3, 1) := by decide +kernel
theorem dX8_told_26 : decode cX8_told 26 = .ok (.invokevirtual 156, 3) := by decide +kernel
theorem dX8_told_29 : decode cX8_told 29 = .ok (.ireturn, 1) := by decide +kernel
theorem dX8_told_30 : decode cX8_told 30 = .ok (.aload_n 0, 1) := by decide +kernel
theorem dX8_told_31 : decode cX8_told 31 = .ok (.getfield 19, 3) := by decide +kernel
theorem dX8_told_34 : decode cX8_told 34 = .ok (.iload_n 3, 1) := by decide +kernel
theorem dX8_told_35 : decode cX8_told 35 = .ok (.aload_n 0, 1) := by decide +kernel
theorem dX8_told_36 : decode cX8_told 36 = .ok (.getfield 54, 3) := by decide +kernel
theorem dX8_told_39 : decode cX8_told 39 = .ok (.invokevirtual 132, 3) := by decide +kernel
theorem dX8_told_42 : decode cX8_told 42 = .ok (.aload_n 0, 1) := by decide +kernel
theorem dX8_told_43 : decode cX8_told 43 = .ok (.getfield 54, 3) := by decide +kernel
theorem dX8_told_46 : decode cX8_told 46 = .ok (.iload_n 2, 1) := by decide +kernel
theorem dX8_told_47 : decode cX8_told 47 = .ok (.invokevirtual 159, 3) := by decide +kernel
theorem dX8_told_50 : decode cX8_told 50 = .ok (.ireturn, 1) := by decide +kernel
theorem dX8_shut_0 : decode cX8_shut 0 = .ok (.aload_n 0, 1) := by decide +kernel
theorem dX8_shut_1 : decode cX8_shut 1 = .ok (.getfield 19, 3) := by decide +kernel
theorem dX8_shut_4 : decode cX8_shut 4 = .ok (.iload_n 1, 1) := by decide +kernel
theorem dX8_shut_5 : decode cX8_shut 5 = .ok (.invokevirtual 129, 3) := by decide +kernel
theorem dX8_shut_8 : decode cX8_shut 8 = .ok (.istore_n 3, 1) := by decide +kernel
theorem dX8_shut_9 : decode cX8_shut 9 = .ok (.aload_n 0, 1) := by decide +kernel
theorem dX8_shut_10 : decode cX8_shut 10 = .ok (.getfield 10, 3) := by decide +kernel
theorem dX8_shut_13 : decode cX8_shut 13 = .ok (.iload_n 2, 1) := by decide +kernel
theorem dX8_shut_14 : decode cX8_shut 14 = .ok (.invokevirtual 118, 3) := by decide +kernel
theorem dX8_shut_17 : decode cX8_shut 17 = .ok (.astore 4, 2) := by decide +kernel
theorem dX8_shut_19 : decode cX8_shut 19 = .ok (.iload_n 3, 1) := by decide +kernel
theorem dX8_shut_20 : decode cX8_shut 20 = .ok (.iconst (-1), 1) := by decide +kernel
theorem dX8_shut_21 : decode cX8_shut 21 = .ok (.if_icmp .eq 8, 3) := by decide +kernel
theorem dX8_shut_24 : decode cX8_shut 24 = .ok (.aload 4, 2) := by decide +kernel
theorem dX8_shut_26 : decode cX8_shut 26 = .ok (.ifnonnull 5, 3) := by decide +kernel
theorem dX8_shut_29 : decode cX8_shut 29 = .ok (.iconst (-1), 1) := by decide +kernel
theorem dX8_shut_30 : decode cX8_shut 30 = .ok (.ireturn, 1) := by decide +kernel
theorem dX8_shut_31 : decode cX8_shut 31 = .ok (.aload_n 0, 1) := by decide +kernel
theorem dX8_shut_32 : decode cX8_shut 32 = .ok (.iload_n 3, 1) := by decide +kernel
theorem dX8_shut_33 : decode cX8_shut 33 = .ok (.aload 4, 2) := by decide +kernel
theorem dX8_shut_35 : decode cX8_shut 35 = .ok (.invokevirtual 162, 3) := by decide +kernel
theorem dX8_shut_38 : decode cX8_shut 38 = .ok (.ireturn, 1) := by decide +kernel
theorem dX8_points_0 : decode cX8_points 0 = .ok (.aload_n 0, 1) := by decide +kernel
theorem dX8_points_1 : decode cX8_points 1 = .ok (.getfield 19, 3) := by decide +kernel
theorem dX8_points_4 : decode cX8_points 4 = .ok (.iload_n 1, 1) := by decide +kernel
theorem dX8_points_5 : decode cX8_points 5 = .ok (.invokevirtual 129, 3) := by decide +kernel
theorem dX8_points_8 : decode cX8_points 8 = .ok (.istore_n 3, 1) := by decide +kernel
theorem dX8_points_9 : decode cX8_points 9 = .ok (.aload_n 0, 1) := by decide +kernel
theorem dX8_points_10 : decode cX8_points 10 = .ok (.getfield 10, 3) := by decide +kernel
theorem dX8_points_13 : decode cX8_points 13 = .ok (.iload_n 2, 1) := by decide +kernel
theorem dX8_points_14 : decode cX8_points 14 = .ok (.invokevirtual 118, 3) := by decide +kernel
theorem dX8_points_17 : decode cX8_points 17 = .ok (.astore 4, 2) := by decide +kernel
theorem dX8_points_19 : decode cX8_points 19 = .ok (.iload_n 3, 1) := by decide +kernel
theorem dX8_points_20 : decode cX8_points 20 = .ok (.iconst (-1), 1) := by decide +kernel
theorem dX8_points_21 : decode cX8_points 21 = .ok (.if_icmp .eq 8, 3) := by decide +kernel
theorem dX8_points_24 : decode cX8_points 24 = .ok (.aload 4, 2) := by decide +kernel
theorem dX8_points_26 : decode cX8_points 26 = .ok (.ifnonnull 5, 3) := by decide +kernel
theorem dX8_points_29 : decode cX8_points 29 = .ok (.iconst (-1), 1) := by decide +kernel
theorem dX8_points_30 : decode cX8_points 30 = .ok (.ireturn, 1) := by decide +kernel
theorem dX8_points_31 : decode cX8_points 31 = .ok (.aload_n 0, 1) := by decide +kernel
theorem dX8_points_32 : decode cX8_points 32 = .ok (.getfield 19, 3) := by decide +kernel
theorem dX8_points_35 : decode cX8_points 35 = .ok (.iload_n 3, 1) := by decide +kernel
theorem dX8_points_36 : decode cX8_points 36 = .ok (.aload_n 0, 1) := by decide +kernel
theorem dX8_points_37 : decode cX8_points 37 = .ok (.getfield 54, 3) := by decide +kernel
theorem dX8_points_40 : decode cX8_points 40 = .ok (.invokevirtual 132, 3) := by decide +kernel
theorem dX8_points_43 : decode cX8_points 43 = .ok (.aload_n 0, 1) := by decide +kernel
theorem dX8_points_44 : decode cX8_points 44 = .ok (.getfield 64, 3) := by decide +kernel
theorem dX8_points_47 : decode cX8_points 47 = .ok (.aload_n 0, 1) := by decide +kernel
theorem dX8_points_48 : decode cX8_points 48 = .ok (.getfield 54, 3) := by decide +kernel
theorem dX8_points_51 : decode cX8_points 51 = .ok (.aload 4, 2) := by decide +kernel
theorem dX8_points_53 : decode cX8_points 53 = .ok (.invokevirtual 166, 3) := by decide +kernel
theorem dX8_points_56 : decode cX8_points 56 = .ok (.ireturn, 1) := by decide +kernel
theorem dX8_pairing_0 : decode cX8_pairing 0 = .ok (.aload_n 0, 1) := by decide +kernel
theorem dX8_pairing_1 : decode cX8_pairing 1 = .ok (.getfield 19, 3) := by decide +kernel
theorem dX8_pairing_4 : decode cX8_pairing 4 = .ok (.iload_n 1, 1) := by decide +kernel
theorem dX8_pairing_5 : decode cX8_pairing 5 = .ok (.invokevirtual 129, 3) := by decide +kernel
theorem dX8_pairing_8 : decode cX8_pairing 8 = .ok (.istore_n 2, 1) := by decide +kernel
theorem dX8_pairing_9 : decode cX8_pairing 9 = .ok (.iload_n 1, 1) := by decide +kernel
theorem dX8_pairing_10 : decode cX8_pairing 10 = .ok (.iconst (-1), 1) := by decide +kernel
theorem dX8_pairing_11 : decode cX8_pairing 11 = .ok (.if_icmp .eq 11, 3) := by decide +kernel
theorem dX8_pairing_14 : decode cX8_pairing 14 = .ok (.iload_n 2, 1) := by decide +kernel
theorem dX8_pairing_15 : decode cX8_pairing 15 = .ok (.iconst (-1), 1) := by decide +kernel
theorem dX8_pairing_16 : decode cX8_pairing 16 = .ok (.if_icmp .ne 6, 3) := by decide +kernel
theorem dX8_pairing_19 : decode cX8_pairing 19 = .ok (.ldc 170, 2) := by decide +kernel
theorem dX8_pairing_21 : decode cX8_pairing 21 = .ok (.ireturn, 1) := by decide +kernel
theorem dX8_pairing_22 : decode cX8_pairing 22 = .ok (.aload_n 0, 1) := by decide +kernel
theorem dX8_pairing_23 : decode cX8_pairing 23 = .ok (.invokevirtual 171, 3) := by decide +kernel
theorem dX8_pairing_26 : decode cX8_pairing 26 = .ok (.iload_n 2, 1) := by decide +kernel
theorem dX8_pairing_27 : decode cX8_pairing 27 = .ok (.iconst (-1), 1) := by decide +kernel
theorem dX8_pairing_28 : decode cX8_pairing 28 = .ok (.if_icmp .ne 13, 3) := by decide +kernel
theorem dX8_pairing_31 : decode cX8_pairing 31 = .ok (.aload_n 0, 1) := by decide +kernel
theorem dX8_pairing_32 : decode cX8_pairing 32 = .ok (.getfield 33, 3) := by decide +kernel
theorem dX8_pairing_35 : decode cX8_pairing 35 = .ok (.getfield 174, 3) := by decide +kernel
theorem dX8_pairing_38 : decode cX8_pairing 38 = .ok (.goto 12, 3) := by decide +kernel
theorem dX8_pairing_41 : decode cX8_pairing 41 = .ok (.aload_n 0, 1) := by decide +kernel
theorem dX8_pairing_42 : decode cX8_pairing 42 = .ok (.getfield 33, 3) := by decide +kernel
theorem dX8_pairing_45 : decode cX8_pairing 45 = .ok (.getfield 177, 3) := by decide +kernel
theorem dX8_pairing_48 : decode cX8_pairing 48 = .ok (.iload_n 2, 1) := by decide +kernel
theorem dX8_pairing_49 : decode cX8_pairing 49 = .ok (.iaload, 1) := by decide +kernel
theorem dX8_pairing_50 : decode cX8_pairing 50 = .ok (.ireturn, 1) := by decide +kernel
theorem dX8_margin_0 : decode cX8_margin 0 = .ok (.aload_n 0, 1) := by decide +kernel
theorem dX8_margin_1 : decode cX8_margin 1 = .ok (.getfield 19, 3) := by decide +kernel
theorem dX8_margin_4 : decode cX8_margin 4 = .ok (.iload_n 1, 1) := by decide +kernel
theorem dX8_margin_5 : decode cX8_margin 5 = .ok (.invokevirtual 129, 3) := by decide +kernel
theorem dX8_margin_8 : decode cX8_margin 8 = .ok (.istore_n 2, 1) := by decide +kernel
theorem dX8_margin_9 : decode cX8_margin 9 = .ok (.iload_n 2, 1) := by decide +kernel
theorem dX8_margin_10 : decode cX8_margin 10 = .ok (.iconst (-1), 1) := by decide +kernel
theorem dX8_margin_11 : decode cX8_margin 11 = .ok (.if_icmp .eq 16, 3) := by decide +kernel
theorem dX8_margin_14 : decode cX8_margin 14 = .ok (.aload_n 0, 1) := by decide +kernel
theorem dX8_margin_15 : decode cX8_margin 15 = .ok (.getfield 19, 3) := by decide +kernel
theorem dX8_margin_18 : decode cX8_margin 18 = .ok (.getfield 146, 3) := by decide +kernel
theorem dX8_margin_21 : decode cX8_margin 21 = .ok (.iload_n 2, 1) := by decide +kernel
theorem dX8_margin_22 : decode cX8_margin 22 = .ok (.iaload, 1) := by decide +kernel
theorem dX8_margin_23 : decode cX8_margin 23 = .ok (.iconst (-1), 1) := by decide +kernel
theorem dX8_margin_24 : decode cX8_margin 24 = .ok (.if_icmp .eq 5, 3) := by decide +kernel
theorem dX8_margin_27 : decode cX8_margin 27 = .ok (.iconst (-1), 1) := by decide +kernel
theorem dX8_margin_28 : decode cX8_margin 28 = .ok (.ireturn, 1) := by decide +kernel
theorem dX8_margin_29 : decode cX8_margin 29 = .ok (.aload_n 0, 1) := by decide +kernel
theorem dX8_margin_30 : decode cX8_margin 30 = .ok (.invokevirtual 171, 3) := by decide +kernel
theorem dX8_margin_33 : decode cX8_margin 33 = .ok (.aload_n 0, 1) := by decide +kernel
theorem dX8_margin_34 : decode cX8_margin 34 = .ok (.getfield 33, 3) := by decide +kernel
theorem dX8_margin_37 : decode cX8_margin 37 = .ok (.getfield 177, 3) := by decide +kernel
theorem dX8_margin_40 : decode cX8_margin 40 = .ok (.iload_n 2, 1) := by decide +kernel
theorem dX8_margin_41 : decode cX8_margin 41 = .ok (.iaload, 1) := by decide +kernel
theorem dX8_margin_42 : decode cX8_margin 42 = .ok (.iconst (-1), 1) := by decide +kernel
theorem dX8_margin_43 : decode cX8_margin 43 = .ok (.if_icmp .ne 7, 3) := by decide +kernel
theorem dX8_margin_46 : decode cX8_margin 46 = .ok (.iconst (-1), 1) := by decide +kernel
theorem dX8_margin_47 : decode cX8_margin 47 = .ok (.goto 11, 3) := by decide +kernel
theorem dX8_margin_50 : decode cX8_margin 50 = .ok (.aload_n 0, 1) := by decide +kernel
theorem dX8_margin_51 : decode cX8_margin 51 = .ok (.getfield 33, 3) := by decide +kernel
theorem dX8_margin_54 : decode cX8_margin 54 = .ok (.iload_n 2, 1) := by decide +kernel
theorem dX8_margin_55 : decode cX8_margin 55 = .ok (.invokevirtual 180, 3) := by decide +kernel
theorem dX8_margin_58 : decode cX8_margin 58 = .ok (.ireturn, 1) := by decide +kernel
theorem dX8_seal_0 : decode cX8_seal 0 = .ok (.aload_n 0, 1) := by decide +kernel
theorem dX8_seal_1 : decode cX8_seal 1 = .ok (.getfield 19, 3) := by decide +kernel
theorem dX8_seal_4 : decode cX8_seal 4 = .ok (.iload_n 1, 1) := by decide +kernel
theorem dX8_seal_5 : decode cX8_seal 5 = .ok (.invokevirtual 129, 3) := by decide +kernel
theorem dX8_seal_8 : decode cX8_seal 8 = .ok (.istore 4, 2) := by decide +kernel
theorem dX8_seal_10 : decode cX8_seal 10 = .ok (.iload 4, 2) := by decide +kernel
theorem dX8_seal_12 : decode cX8_seal 12 = .ok (.iconst (-1), 1) := by decide +kernel
theorem dX8_seal_13 : decode cX8_seal 13 = .ok (.if_icmp .eq 24, 3) := by decide +kernel
theorem dX8_seal_16 : decode cX8_seal 16 = .ok (.aload_n 0, 1) := by decide +kernel
theorem dX8_seal_17 : decode cX8_seal 17 = .ok (.getfield 10, 3) := by decide +kernel
theorem dX8_seal_20 : decode cX8_seal 20 = .ok (.iload_n 2, 1) := by decide +kernel
theorem dX8_seal_21 : decode cX8_seal 21 = .ok (.invokevirtual 118, 3) := by decide +kernel
theorem dX8_seal_24 : decode cX8_seal 24 = .ok (.ifnull 13, 3) := by decide +kernel
theorem dX8_seal_27 : decode cX8_seal 27 = .ok (.iload_n 3, 1) := by decide +kernel
theorem dX8_seal_28 : decode cX8_seal 28 = .ok (.iconst 0, 1) := by decide +kernel
theorem dX8_seal_29 : decode cX8_seal 29 = .ok (.bipush 9, 2) := by decide +kernel
theorem dX8_seal_31 : decode cX8_seal 31 = .ok (.invokestatic 82, 3) := by decide +kernel
theorem dX8_seal_34 : decode cX8_seal 34 = .ok (.ifCond .ne 5, 3) := by decide +kernel
theorem dX8_seal_37 : decode cX8_seal 37 = .ok (.iconst (-1), 1) := by decide +kernel
theorem dX8_seal_38 : decode cX8_seal 38 = .ok (.ireturn, 1) := by decide +kernel
theorem dX8_seal_39 : decode cX8_seal 39 = .ok (.aload_n 0, 1) := by decide +kernel
theorem dX8_seal_40 : decode cX8_seal 40 = .ok (.getfield 26, 3) := by decide +kernel
theorem dX8_seal_43 : decode cX8_seal 43 = .ok (.iload 4, 2) := by decide +kernel
theorem dX8_seal_45 : decode cX8_seal 45 = .ok (.iload_n 2, 1) := by decide +kernel
theorem dX8_seal_46 : decode cX8_seal 46 = .ok (.iload_n 3, 1) := by decide +kernel
theorem dX8_seal_47 : decode cX8_seal 47 = .ok (.invokevirtual 183, 3) := by decide +kernel
theorem dX8_seal_50 : decode cX8_seal 50 = .ok (.ifCond .eq 6, 3) := by decide +kernel
theorem dX8_seal_53 : decode cX8_seal 53 = .ok (.bipush (-2), 2) := by decide +kernel
theorem dX8_seal_55 : decode cX8_seal 55 = .ok (.ireturn, 1) := by decide +kernel
theorem dX8_seal_56 : decode cX8_seal 56 = .ok (.aload_n 0, 1) := by decide +kernel
theorem dX8_seal_57 : decode cX8_seal 57 = .ok (.getfield 26, 3) := by decide +kernel
theorem dX8_seal_60 : decode cX8_seal 60 = .ok (.iload 4, 2) := by decide +kernel
theorem dX8_seal_62 : decode cX8_seal 62 = .ok (.iload_n 2, 1) := by decide +kernel
theorem dX8_seal_63 : decode cX8_seal 63 = .ok (.iload_n 3, 1) := by decide +kernel
theorem dX8_seal_64 : decode cX8_seal 64 = .ok (.invokevirtual 186, 3) := by decide +kernel
theorem dX8_seal_67 : decode cX8_seal 67 = .ok (.ifCond .ne 6, 3) := by decide +kernel
theorem dX8_seal_70 : decode cX8_seal 70 = .ok (.bipush (-3), 2) := by decide +kernel
theorem dX8_seal_72 : decode cX8_seal 72 = .ok (.ireturn, 1) := by decide +kernel
theorem dX8_seal_73 : decode cX8_seal 73 = .ok (.aload_n 0, 1) := by decide +kernel
theorem dX8_seal_74 : decode cX8_seal 74 = .ok (.getfield 26, 3) := by decide +kernel
theorem dX8_seal_77 : decode cX8_seal 77 = .ok (.iload 4, 2) := by decide +kernel
theorem dX8_seal_79 : decode cX8_seal 79 = .ok (.iload_n 2, 1) := by decide +kernel
theorem dX8_seal_80 : decode cX8_seal 80 = .ok (.invokevirtual 189, 3) := by decide +kernel
theorem dX8_seal_83 : decode cX8_seal 83 = .ok (.ireturn, 1) := by decide +kernel
theorem dX8_give_0 : decode cX8_give 0 = .ok (.aload_n 0, 1) := by decide +kernel
theorem dX8_give_1 : decode cX8_give 1 = .ok (.getfield 19, 3) := by decide +kernel
theorem dX8_give_4 : decode cX8_give 4 = .ok (.iload_n 1, 1) := by decide +kernel
theorem dX8_give_5 : decode cX8_give 5 = .ok (.invokevirtual 129, 3) := by decide +kernel
theorem dX8_give_8 : decode cX8_give 8 = .ok (.istore_n 2, 1) := by decide +kernel
theorem dX8_give_9 : decode cX8_give 9 = .ok (.iload_n 2, 1) := by decide +kernel
theorem dX8_give_10 : decode cX8_give 10 = .ok (.iconst (-1), 1) := by decide +kernel
theorem dX8_give_11 : decode cX8_give 11 = .ok (.if_icmp .eq 16, 3) := by decide +kernel
theorem dX8_give_14 : decode cX8_give 14 = .ok (.aload_n 0, 1) := by decide +kernel
theorem dX8_give_15 : decode cX8_give 15 = .ok (.getfield 19, 3) := by decide +kernel
theorem dX8_give_18 : decode cX8_give 18 = .ok (.getfield 146, 3) := by decide +kernel
theorem dX8_give_21 : decode cX8_give 21 = .ok (.iload_n 2, 1) := by decide +kernel
theorem dX8_give_22 : decode cX8_give 22 = .ok (.iaload, 1) := by decide +kernel
theorem dX8_give_23 : decode cX8_give 23 = .ok (.iconst (-1), 1) := by decide +kernel
theorem dX8_give_24 : decode cX8_give 24 = .ok (.if_icmp .eq 6, 3) := by decide +kernel
theorem dX8_give_27 : decode cX8_give 27 = .ok (.bipush (-2), 2) := by decide +kernel
theorem dX8_give_29 : decode cX8_give 29 = .ok (.ireturn, 1) := by decide +kernel
theorem dX8_give_30 : decode cX8_give 30 = .ok (.aload_n 0, 1) := by decide +kernel
theorem dX8_give_31 : decode cX8_give 31 = .ok (.invokevirtual 171, 3) := by decide +kernel
theorem dX8_give_34 : decode cX8_give 34 = .ok (.aload_n 0, 1) := by decide +kernel
theorem dX8_give_35 : decode cX8_give 35 = .ok (.getfield 33, 3) := by decide +kernel
theorem dX8_give_38 : decode cX8_give 38 = .ok (.getfield 177, 3) := by decide +kernel
theorem dX8_give_41 : decode cX8_give 41 = .ok (.iload_n 2, 1) := by decide +kernel
theorem dX8_give_42 : decode cX8_give 42 = .ok (.iaload, 1) := by decide +kernel
theorem dX8_give_43 : decode cX8_give 43 = .ok (.istore_n 3, 1) := by decide +kernel
theorem dX8_give_44 : decode cX8_give 44 = .ok (.iload_n 3, 1) := by decide +kernel
theorem dX8_give_45 : decode cX8_give 45 = .ok (.iconst (-1), 1) := by decide +kernel
theorem dX8_give_46 : decode cX8_give 46 = .ok (.if_icmp .ne 6, 3) := by decide +kernel
theorem dX8_give_49 : decode cX8_give 49 = .ok (.bipush (-3), 2) := by decide +kernel
theorem dX8_give_51 : decode cX8_give 51 = .ok (.ireturn, 1) := by decide +kernel
theorem dX8_give_52 : decode cX8_give 52 = .ok (.aload_n 0, 1) := by decide +kernel
theorem dX8_give_53 : decode cX8_give 53 = .ok (.getfield 33, 3) := by decide +kernel
theorem dX8_give_56 : decode cX8_give 56 = .ok (.getfield 192, 3) := by decide +kernel
theorem dX8_give_59 : decode cX8_give 59 = .ok (.iload_n 2, 1) := by decide +kernel
theorem dX8_give_60 : decode cX8_give 60 = .ok (.aaload, 1) := by decide +kernel
theorem dX8_give_61 : decode cX8_give 61 = .ok (.iload_n 3, 1) := by decide +kernel
theorem dX8_give_62 : decode cX8_give 62 = .ok (.iaload, 1) := by decide +kernel
theorem dX8_give_63 : decode cX8_give 63 = .ok (.aload_n 0, 1) := by decide +kernel
theorem dX8_give_64 : decode cX8_give 64 = .ok (.getfield 64, 3) := by decide +kernel
theorem dX8_give_67 : decode cX8_give 67 = .ok (.getfield 196, 3) := by decide +kernel
theorem dX8_give_70 : decode cX8_give 70 = .ok (.iconst 1, 1) := by decide +kernel
theorem dX8_give_71 : decode cX8_give 71 = .ok (.iaload, 1) := by decide +kernel
theorem dX8_give_72 : decode cX8_give 72 = .ok (.if_icmp .ge 6, 3) := by decide +kernel
theorem dX8_give_75 : decode cX8_give 75 = .ok (.bipush (-4), 2) := by decide +kernel
theorem dX8_give_77 : decode cX8_give 77 = .ok (.ireturn, 1) := by decide +kernel
theorem dX8_give_78 : decode cX8_give 78 = .ok (.aload_n 0, 1) := by decide +kernel
theorem dX8_give_79 : decode cX8_give 79 = .ok (.getfield 33, 3) := by decide +kernel
theorem dX8_give_82 : decode cX8_give 82 = .ok (.iload_n 2, 1) := by decide +kernel
theorem dX8_give_83 : decode cX8_give 83 = .ok (.invokevirtual 180, 3) := by decide +kernel
theorem dX8_give_86 : decode cX8_give 86 = .ok (.aload_n 0, 1) := by decide +kernel
theorem dX8_give_87 : decode cX8_give 87 = .ok (.getfield 64, 3) := by decide +kernel
theorem dX8_give_90 : decode cX8_give 90 = .ok (.getfield 196, 3) := by decide +kernel
theorem dX8_give_93 : decode cX8_give 93 = .ok (.iconst 2, 1) := by decide +kernel
theorem dX8_give_94 : decode cX8_give 94 = .ok (.iaload, 1) := by decide +kernel
theorem dX8_give_95 : decode cX8_give 95 = .ok (.if_icmp .ge 6, 3) := by decide +kernel
theorem dX8_give_98 : decode cX8_give 98 = .ok (.bipush (-5), 2) := by decide +kernel
theorem dX8_give_100 : decode cX8_give 100 = .ok (.ireturn, 1) := by decide +kernel
theorem dX8_give_101 : decode cX8_give 101 = .ok (.aload_n 0, 1) := by decide +kernel
theorem dX8_give_102 : decode cX8_give 102 = .ok (.getfield 26, 3) := by decide +kernel
theorem dX8_give_105 : decode cX8_give 105 = .ok (.iload_n 2, 1) := by decide +kernel
theorem dX8_give_106 : decode cX8_give 106 = .ok (.iload_n 3, 1) := by decide +kernel
theorem dX8_give_107 : decode cX8_give 107 = .ok (.invokevirtual 189, 3) := by decide +kernel
theorem dX8_give_110 : decode cX8_give 110 = .ok (.aload_n 0, 1) := by decide +kernel
theorem dX8_give_111 : decode cX8_give 111 = .ok (.getfield 64, 3) := by decide +kernel
theorem dX8_give_114 : decode cX8_give 114 = .ok (.getfield 196, 3) := by decide +kernel
theorem dX8_give_117 : decode cX8_give 117 = .ok (.iconst 3, 1) := by decide +kernel
theorem dX8_give_118 : decode cX8_give 118 = .ok (.iaload, 1) := by decide +kernel
theorem dX8_give_119 : decode cX8_give 119 = .ok (.if_icmp .ge 6, 3) := by decide +kernel
theorem dX8_give_122 : decode cX8_give 122 = .ok (.bipush (-6), 2) := by decide +kernel
theorem dX8_give_124 : decode cX8_give 124 = .ok (.ireturn, 1) := by decide +kernel
theorem dX8_give_125 : decode cX8_give 125 = .ok (.aload_n 0, 1) := by decide +kernel
theorem dX8_give_126 : decode cX8_give 126 = .ok (.getfield 19, 3) := by decide +kernel
theorem dX8_give_129 : decode cX8_give 129 = .ok (.getfield 146, 3) := by decide +kernel
theorem dX8_give_132 : decode cX8_give 132 = .ok (.iload_n 2, 1) := by decide +kernel
theorem dX8_give_133 : decode cX8_give 133 = .ok (.iload_n 3, 1) := by decide +kernel
theorem dX8_give_134 : decode cX8_give 134 = .ok (.iastore, 1) := by decide +kernel
theorem dX8_give_135 : decode cX8_give 135 = .ok (.iload_n 3, 1) := by decide +kernel
theorem dX8_give_136 : decode cX8_give 136 = .ok (.ireturn, 1) := by decide +kernel
theorem dX8_named_0 : decode cX8_named 0 = .ok (.aload_n 0, 1) := by decide +kernel
theorem dX8_named_1 : decode cX8_named 1 = .ok (.getfield 19, 3) := by decide +kernel
theorem dX8_named_4 : decode cX8_named 4 = .ok (.iload_n 1, 1) := by decide +kernel
theorem dX8_named_5 : decode cX8_named 5 = .ok (.invokevirtual 129, 3) := by decide +kernel
theorem dX8_named_8 : decode cX8_named 8 = .ok (.istore_n 3, 1) := by decide +kernel
theorem dX8_named_9 : decode cX8_named 9 = .ok (.iload_n 3, 1) := by decide +kernel
theorem dX8_named_10 : decode cX8_named 10 = .ok (.iconst (-1), 1) := by decide +kernel
theorem dX8_named_11 : decode cX8_named 11 = .ok (.if_icmp .eq 12, 3) := by decide +kernel
theorem dX8_named_14 : decode cX8_named 14 = .ok (.iload_n 2, 1) := by decide +kernel
theorem dX8_named_15 : decode cX8_named 15 = .ok (.iconst 0, 1) := by decide +kernel
theorem dX8_named_16 : decode cX8_named 16 = .ok (.iconst 1, 1) := by decide +kernel
theorem dX8_named_17 : decode cX8_named 17 = .ok (.invokestatic 82, 3) := by decide +kernel
theorem dX8_named_20 : decode cX8_named 20 = .ok (.ifCond .ne 5, 3) := by decide +kernel
theorem dX8_named_23 : decode cX8_named 23 = .ok (.iconst (-1), 1) := by decide +kernel
theorem dX8_named_24 : decode cX8_named 24 = .ok (.ireturn, 1) := by decide +kernel
theorem dX8_named_25 : decode cX8_named 25 = .ok (.iload_n 2, 1) := by decide +kernel
theorem dX8_named_26 : decode cX8_named 26 = .ok (.ifCond .ne 13, 3) := by decide +kernel
theorem dX8_named_29 : decode cX8_named 29 = .ok (.aload_n 0, 1) := by decide +kernel
theorem dX8_named_30 : decode cX8_named 30 = .ok (.getfield 19, 3) := by decide +kernel
theorem dX8_named_33 : decode cX8_named 33 = .ok (.getfield 146, 3) := by decide +kernel
theorem dX8_named_36 : decode cX8_named 36 = .ok (.iload_n 3, 1) := by decide +kernel
theorem dX8_named_37 : decode cX8_named 37 = .ok (.iaload, 1) := by decide +kernel
theorem dX8_named_38 : decode cX8_named 38 = .ok (.ireturn, 1) := by decide +kernel
theorem dX8_named_39 : decode cX8_named 39 = .ok (.aload_n 0, 1) := by decide +kernel
theorem dX8_named_40 : decode cX8_named 40 = .ok (.iload_n 3, 1) := by decide +kernel
theorem dX8_named_41 : decode cX8_named 41 = .ok (.invokevirtual 199, 3) := by decide +kernel
theorem dX8_named_44 : decode cX8_named 44 = .ok (.ifCond .eq 7, 3) := by decide +kernel
theorem dX8_named_47 : decode cX8_named 47 = .ok (.iconst 1, 1) := by decide +kernel
theorem dX8_named_48 : decode cX8_named 48 = .ok (.goto 4, 3) := by decide +kernel
theorem dX8_named_51 : decode cX8_named 51 = .ok (.iconst 0, 1) := by decide +kernel
theorem dX8_named_52 : decode cX8_named 52 = .ok (.ireturn, 1) := by decide +kernel
theorem dX8_unname_0 : decode cX8_unname 0 = .ok (.aload_n 0, 1) := by decide +kernel
theorem dX8_unname_1 : decode cX8_unname 1 = .ok (.getfield 19, 3) := by decide +kernel
theorem dX8_unname_4 : decode cX8_unname 4 = .ok (.iload_n 1, 1) := by decide +kernel
theorem dX8_unname_5 : decode cX8_unname 5 = .ok (.invokevirtual 129, 3) := by decide +kernel
theorem dX8_unname_8 : decode cX8_unname 8 = .ok (.istore_n 2, 1) := by decide +kernel
theorem dX8_unname_9 : decode cX8_unname 9 = .ok (.iload_n 2, 1) := by decide +kernel
theorem dX8_unname_10 : decode cX8_unname 10 = .ok (.iconst (-1), 1) := by decide +kernel
theorem dX8_unname_11 : decode cX8_unname 11 = .ok (.if_icmp .eq 11, 3) := by decide +kernel
theorem dX8_unname_14 : decode cX8_unname 14 = .ok (.aload_n 0, 1) := by decide +kernel
theorem dX8_unname_15 : decode cX8_unname 15 = .ok (.iload_n 2, 1) := by decide +kernel
theorem dX8_unname_16 : decode cX8_unname 16 = .ok (.invokevirtual 199, 3) := by decide +kernel
theorem dX8_unname_19 : decode cX8_unname 19 = .ok (.ifCond .ne 5, 3) := by decide +kernel
theorem dX8_unname_22 : decode cX8_unname 22 = .ok (.iconst 0, 1) := by decide +kernel
theorem dX8_unname_23 : decode cX8_unname 23 = .ok (.ireturn, 1) := by decide +kernel
theorem dX8_unname_24 : decode cX8_unname 24 = .ok (.aload_n 0, 1) := by decide +kernel
theorem dX8_unname_25 : decode cX8_unname 25 = .ok (.getfield 19, 3) := by decide +kernel
theorem dX8_unname_28 : decode cX8_unname 28 = .ok (.getfield 146, 3) := by decide +kernel
theorem dX8_unname_31 : decode cX8_unname 31 = .ok (.iload_n 2, 1) := by decide +kernel
theorem dX8_unname_32 : decode cX8_unname 32 = .ok (.iconst (-1), 1) := by decide +kernel
theorem dX8_unname_33 : decode cX8_unname 33 = .ok (.iastore, 1) := by decide +kernel
theorem dX8_unname_34 : decode cX8_unname 34 = .ok (.iconst 1, 1) := by decide +kernel
theorem dX8_unname_35 : decode cX8_unname 35 = .ok (.ireturn, 1) := by decide +kernel
theorem dX8_feed_0 : decode cX8_feed 0 = .ok (.aload_n 0, 1) := by decide +kernel
theorem dX8_feed_1 : decode cX8_feed 1 = .ok (.getfield 40, 3) := by decide +kernel
theorem dX8_feed_4 : decode cX8_feed 4 = .ok (.bipush 20, 2) := by decide +kernel
theorem dX8_feed_6 : decode cX8_feed 6 = .ok (.invokevirtual 203, 3) := by decide +kernel
theorem dX8_feed_9 : decode cX8_feed 9 = .ok (.ifCond .ne 5, 3) := by decide +kernel
theorem dX8_feed_12 : decode cX8_feed 12 = .ok (.iconst (-1), 1) := by decide +kernel
theorem dX8_feed_13 : decode cX8_feed 13 = .ok (.ireturn, 1) := by decide +kernel
theorem dX8_feed_14 : decode cX8_feed 14 = .ok (.aload_n 0, 1) := by decide +kernel
theorem dX8_feed_15 : decode cX8_feed 15 = .ok (.getfield 40, 3) := by decide +kernel
theorem dX8_feed_18 : decode cX8_feed 18 = .ok (.iload_n 1, 1) := by decide +kernel
theorem dX8_feed_19 : decode cX8_feed 19 = .ok (.invokevirtual 206, 3) := by decide +kernel
theorem dX8_feed_22 : decode cX8_feed 22 = .ok (.aload_n 0, 1) := by decide +kernel
theorem dX8_feed_23 : decode cX8_feed 23 = .ok (.getfield 40, 3) := by decide +kernel
theorem dX8_feed_26 : decode cX8_feed 26 = .ok (.iload_n 2, 1) := by decide +kernel
theorem dX8_feed_27 : decode cX8_feed 27 = .ok (.invokevirtual 206, 3) := by decide +kernel
theorem dX8_feed_30 : decode cX8_feed 30 = .ok (.aload_n 0, 1) := by decide +kernel
theorem dX8_feed_31 : decode cX8_feed 31 = .ok (.getfield 40, 3) := by decide +kernel
theorem dX8_feed_34 : decode cX8_feed 34 = .ok (.iload_n 3, 1) := by decide +kernel
theorem dX8_feed_35 : decode cX8_feed 35 = .ok (.invokevirtual 206, 3) := by decide +kernel
theorem dX8_feed_38 : decode cX8_feed 38 = .ok (.aload_n 0, 1) := by decide +kernel
theorem dX8_feed_39 : decode cX8_feed 39 = .ok (.getfield 40, 3) := by decide +kernel
theorem dX8_feed_42 : decode cX8_feed 42 = .ok (.iload 4, 2) := by decide +kernel
theorem dX8_feed_44 : decode cX8_feed 44 = .ok (.invokevirtual 206, 3) := by decide +kernel
theorem dX8_feed_47 : decode cX8_feed 47 = .ok (.aload_n 0, 1) := by decide +kernel
theorem dX8_feed_48 : decode cX8_feed 48 = .ok (.getfield 40, 3) := by decide +kernel
theorem dX8_feed_51 : decode cX8_feed 51 = .ok (.iload 5, 2) := by decide +kernel
theorem dX8_feed_53 : decode cX8_feed 53 = .ok (.invokevirtual 206, 3) := by decide +kernel
theorem dX8_feed_56 : decode cX8_feed 56 = .ok (.aload_n 0, 1) := by decide +kernel
theorem dX8_feed_57 : decode cX8_feed 57 = .ok (.getfield 40, 3) := by decide +kernel
theorem dX8_feed_60 : decode cX8_feed 60 = .ok (.getfield 209, 3) := by decide +kernel
theorem dX8_feed_63 : decode cX8_feed 63 = .ok (.ireturn, 1) := by decide +kernel
theorem dX8_law_0 : decode cX8_law 0 = .ok (.iload_n 1, 1) := by decide +kernel
theorem dX8_law_1 : decode cX8_law 1 = .ok (.ifCond .lt 14, 3) := by decide +kernel
theorem dX8_law_4 : decode cX8_law 4 = .ok (.iload_n 1, 1) := by decide +kernel
theorem dX8_law_5 : decode cX8_law 5 = .ok (.aload_n 0, 1) := by decide +kernel
theorem dX8_law_6 : decode cX8_law 6 = .ok (.getfield 40, 3) := by decide +kernel
theorem dX8_law_9 : decode cX8_law 9 = .ok (.getfield 209, 3) := by decide +kernel
theorem dX8_law_12 : decode cX8_law 12 = .ok (.if_icmp .le 6, 3) := by decide +kernel
theorem dX8_law_15 : decode cX8_law 15 = .ok (.bipush (-2), 2) := by decide +kernel
theorem dX8_law_17 : decode cX8_law 17 = .ok (.ireturn, 1) := by decide +kernel
theorem dX8_law_18 : decode cX8_law 18 = .ok (.aload_n 0, 1) := by decide +kernel
theorem dX8_law_19 : decode cX8_law 19 = .ok (.getfield 47, 3) := by decide +kernel
theorem dX8_law_22 : decode cX8_law 22 = .ok (.aload_n 0, 1) := by decide +kernel
theorem dX8_law_23 : decode cX8_law 23 = .ok (.getfield 40, 3) := by decide +kernel
theorem dX8_law_26 : decode cX8_law 26 = .ok (.getfield 212, 3) := by decide +kernel
theorem dX8_law_29 : decode cX8_law 29 = .ok (.iload_n 1, 1) := by decide +kernel
theorem dX8_law_30 : decode cX8_law 30 = .ok (.aload_n 0, 1) := by decide +kernel
theorem dX8_law_31 : decode cX8_law 31 = .ok (.getfield 68, 3) := by decide +kernel
theorem dX8_law_34 : decode cX8_law 34 = .ok (.invokevirtual 216, 3) := by decide +kernel
theorem dX8_law_37 : decode cX8_law 37 = .ok (.istore_n 2, 1) := by decide +kernel
theorem dX8_law_38 : decode cX8_law 38 = .ok (.aload_n 0, 1) := by decide +kernel
theorem dX8_law_39 : decode cX8_law 39 = .ok (.getfield 40, 3) := by decide +kernel
theorem dX8_law_42 : decode cX8_law 42 = .ok (.iconst 0, 1) := by decide +kernel
theorem dX8_law_43 : decode cX8_law 43 = .ok (.putfield 209, 3) := by decide +kernel
theorem dX8_law_46 : decode cX8_law 46 = .ok (.iload_n 2, 1) := by decide +kernel
theorem dX8_law_47 : decode cX8_law 47 = .ok (.iconst (-1), 1) := by decide +kernel
theorem dX8_law_48 : decode cX8_law 48 = .ok (.if_icmp .eq 21, 3) := by decide +kernel
theorem dX8_law_51 : decode cX8_law 51 = .ok (.aload_n 0, 1) := by decide +kernel
theorem dX8_law_52 : decode cX8_law 52 = .ok (.getfield 64, 3) := by decide +kernel
theorem dX8_law_55 : decode cX8_law 55 = .ok (.astore_n 3, 1) := by decide +kernel
theorem dX8_law_56 : decode cX8_law 56 = .ok (.aload_n 0, 1) := by decide +kernel
theorem dX8_law_57 : decode cX8_law 57 = .ok (.aload_n 0, 1) := by decide +kernel
theorem dX8_law_58 : decode cX8_law 58 = .ok (.getfield 68, 3) := by decide +kernel
theorem dX8_law_61 : decode cX8_law 61 = .ok (.putfield 64, 3) := by decide +kernel
theorem dX8_law_64 : decode cX8_law 64 = .ok (.aload_n 0, 1) := by decide +kernel
theorem dX8_law_65 : decode cX8_law 65 = .ok (.aload_n 3, 1) := by decide +kernel
theorem dX8_law_66 : decode cX8_law 66 = .ok (.putfield 68, 3) := by decide +kernel
theorem dX8_law_69 : decode cX8_law 69 = .ok (.iload_n 2, 1) := by decide +kernel
theorem dX8_law_70 : decode cX8_law 70 = .ok (.ireturn, 1) := by decide +kernel
theorem dX8_fault_0 : decode cX8_fault 0 = .ok (.aload_n 0, 1) := by decide +kernel
theorem dX8_fault_1 : decode cX8_fault 1 = .ok (.getfield 47, 3) := by decide +kernel
theorem dX8_fault_4 : decode cX8_fault 4 = .ok (.getfield 220, 3) := by decide +kernel
theorem dX8_fault_7 : decode cX8_fault 7 = .ok (.ireturn, 1) := by decide +kernel
theorem dX8_count_0 : decode cX8_count 0 = .ok (.iload_n 1, 1) := by decide +kernel
theorem dX8_count_1 : decode cX8_count 1 = .ok (.tableswitch 150 0 10 #[59, 67, 78, 86, 94, 102, 107, 112, 120, 130, 140], 59) := by decide +kernel
theorem dX8_count_60 : decode cX8_count 60 = .ok (.aload_n 0, 1) := by decide +kernel
theorem dX8_count_61 : decode cX8_count 61 = .ok (.getfield 10, 3) := by decide +kernel
theorem dX8_count_64 : decode cX8_count 64 = .ok (.getfield 223, 3) := by decide +kernel
theorem dX8_count_67 : decode cX8_count 67 = .ok (.ireturn, 1) := by decide +kernel
theorem dX8_count_68 : decode cX8_count 68 = .ok (.aload_n 0, 1) := by decide +kernel
theorem dX8_count_69 : decode cX8_count 69 = .ok (.getfield 19, 3) := by decide +kernel
theorem dX8_count_72 : decode cX8_count 72 = .ok (.getfield 75, 3) := by decide +kernel
theorem dX8_count_75 : decode cX8_count 75 = .ok (.getfield 223, 3) := by decide +kernel
theorem dX8_count_78 : decode cX8_count 78 = .ok (.ireturn, 1) := by decide +kernel
theorem dX8_count_79 : decode cX8_count 79 = .ok (.aload_n 0, 1) := by decide +kernel
theorem dX8_count_80 : decode cX8_count 80 = .ok (.getfield 19, 3) := by decide +kernel
theorem dX8_count_83 : decode cX8_count 83 = .ok (.invokevirtual 226, 3) := by decide +kernel
theorem dX8_count_86 : decode cX8_count 86 = .ok (.ireturn, 1) := by decide +kernel
theorem dX8_count_87 : decode cX8_count 87 = .ok (.aload_n 0, 1) := by decide +kernel
theorem dX8_count_88 : decode cX8_count 88 = .ok (.getfield 19, 3) := by decide +kernel
theorem dX8_count_91 : decode cX8_count 91 = .ok (.invokevirtual 229, 3) := by decide +kernel
theorem dX8_count_94 : decode cX8_count 94 = .ok (.ireturn, 1) := by decide +kernel
theorem dX8_count_95 : decode cX8_count 95 = .ok (.aload_n 0, 1) := by decide +kernel
theorem dX8_count_96 : decode cX8_count 96 = .ok (.getfield 26, 3) := by decide +kernel
theorem dX8_count_99 : decode cX8_count 99 = .ok (.getfield 232, 3) := by decide +kernel
theorem dX8_count_102 : decode cX8_count 102 = .ok (.ireturn, 1) := by decide +kernel
theorem dX8_count_103 : decode cX8_count 103 = .ok (.aload_n 0, 1) := by decide +kernel
theorem dX8_count_104 : decode cX8_count 104 = .ok (.invokevirtual 233, 3) := by decide +kernel
theorem dX8_count_107 : decode cX8_count 107 = .ok (.ireturn, 1) := by decide +kernel
theorem dX8_count_108 : decode cX8_count 108 = .ok (.aload_n 0, 1) := by decide +kernel
theorem dX8_count_109 : decode cX8_count 109 = .ok (.invokevirtual 236, 3) := by decide +kernel
theorem dX8_count_112 : decode cX8_count 112 = .ok (.ireturn, 1) := by decide +kernel
theorem dX8_count_113 : decode cX8_count 113 = .ok (.aload_n 0, 1) := by decide +kernel
theorem dX8_count_114 : decode cX8_count 114 = .ok (.getfield 40, 3) := by decide +kernel
theorem dX8_count_117 : decode cX8_count 117 = .ok (.getfield 209, 3) := by decide +kernel
theorem dX8_count_120 : decode cX8_count 120 = .ok (.ireturn, 1) := by decide +kernel
theorem dX8_count_121 : decode cX8_count 121 = .ok (.aload_n 0, 1) := by decide +kernel
theorem dX8_count_122 : decode cX8_count 122 = .ok (.getfield 64, 3) := by decide +kernel
theorem dX8_count_125 : decode cX8_count 125 = .ok (.getfield 196, 3) := by decide +kernel
theorem dX8_count_128 : decode cX8_count 128 = .ok (.iconst 1, 1) := by decide +kernel
theorem dX8_count_129 : decode cX8_count 129 = .ok (.iaload, 1) := by decide +kernel
theorem dX8_count_130 : decode cX8_count 130 = .ok (.ireturn, 1) := by decide +kernel
theorem dX8_count_131 : decode cX8_count 131 = .ok (.aload_n 0, 1) := by decide +kernel
theorem dX8_count_132 : decode cX8_count 132 = .ok (.getfield 64, 3) := by decide +kernel
theorem dX8_count_135 : decode cX8_count 135 = .ok (.getfield 196, 3) := by decide +kernel
theorem dX8_count_138 : decode cX8_count 138 = .ok (.iconst 2, 1) := by decide +kernel
theorem dX8_count_139 : decode cX8_count 139 = .ok (.iaload, 1) := by decide +kernel
theorem dX8_count_140 : decode cX8_count 140 = .ok (.ireturn, 1) := by decide +kernel
theorem dX8_count_141 : decode cX8_count 141 = .ok (.aload_n 0, 1) := by decide +kernel
theorem dX8_count_142 : decode cX8_count 142 = .ok (.getfield 64, 3) := by decide +kernel
theorem dX8_count_145 : decode cX8_count 145 = .ok (.getfield 196, 3) := by decide +kernel
theorem dX8_count_148 : decode cX8_count 148 = .ok (.iconst 3, 1) := by decide +kernel
theorem dX8_count_149 : decode cX8_count 149 = .ok (.iaload, 1) := by decide +kernel
theorem dX8_count_150 : decode cX8_count 150 = .ok (.ireturn, 1) := by decide +kernel
theorem dX8_count_151 : decode cX8_count 151 = .ok (.iconst (-1), 1) := by decide +kernel
theorem dX8_count_152 : decode cX8_count 152 = .ok (.ireturn, 1) := by decide +kernel
theorem dX8_within_0 : decode cX8_within 0 = .ok (.iload_n 0, 1) := by decide +kernel
theorem dX8_within_1 : decode cX8_within 1 = .ok (.iload_n 1, 1) := by decide +kernel
theorem dX8_within_2 : decode cX8_within 2 = .ok (.if_icmp .lt 12, 3) := by decide +kernel
theorem dX8_within_5 : decode cX8_within 5 = .ok (.iload_n 0, 1) := by decide +kernel
theorem dX8_within_6 : decode cX8_within 6 = .ok (.iload_n 2, 1) := by decide +kernel
theorem dX8_within_7 : decode cX8_within 7 = .ok (.if_icmp .gt 7, 3) := by decide +kernel
theorem dX8_within_10 : decode cX8_within 10 = .ok (.iconst 1, 1) := by decide +kernel
theorem dX8_within_11 : decode cX8_within 11 = .ok (.goto 4, 3) := by decide +kernel
theorem dX8_within_14 : decode cX8_within 14 = .ok (.iconst 0, 1) := by decide +kernel
theorem dX8_within_15 : decode cX8_within 15 = .ok (.ireturn, 1) := by decide +kernel
theorem dX8_cardOf_0 : decode cX8_cardOf 0 = .ok (.iload_n 1, 1) := by decide +kernel
theorem dX8_cardOf_1 : decode cX8_cardOf 1 = .ok (.ifCond .ne 12, 3) := by decide +kernel
theorem dX8_cardOf_4 : decode cX8_cardOf 4 = .ok (.aload_n 0, 1) := by decide +kernel
theorem dX8_cardOf_5 : decode cX8_cardOf 5 = .ok (.getfield 10, 3) := by decide +kernel
theorem dX8_cardOf_8 : decode cX8_cardOf 8 = .ok (.iload_n 2, 1) := by decide +kernel
theorem dX8_cardOf_9 : decode cX8_cardOf 9 = .ok (.invokevirtual 118, 3) := by decide +kernel
theorem dX8_cardOf_12 : decode cX8_cardOf 12 = .ok (.areturn, 1) := by decide +kernel
theorem dX8_cardOf_13 : decode cX8_cardOf 13 = .ok (.iload_n 1, 1) := by decide +kernel
theorem dX8_cardOf_14 : decode cX8_cardOf 14 = .ok (.iconst 1, 1) := by decide +kernel
theorem dX8_cardOf_15 : decode cX8_cardOf 15 = .ok (.if_icmp .ne 15, 3) := by decide +kernel
theorem dX8_cardOf_18 : decode cX8_cardOf 18 = .ok (.aload_n 0, 1) := by decide +kernel
theorem dX8_cardOf_19 : decode cX8_cardOf 19 = .ok (.getfield 19, 3) := by decide +kernel
theorem dX8_cardOf_22 : decode cX8_cardOf 22 = .ok (.getfield 75, 3) := by decide +kernel
theorem dX8_cardOf_25 : decode cX8_cardOf 25 = .ok (.iload_n 2, 1) := by decide +kernel
theorem dX8_cardOf_26 : decode cX8_cardOf 26 = .ok (.invokevirtual 118, 3) := by decide +kernel
theorem dX8_cardOf_29 : decode cX8_cardOf 29 = .ok (.areturn, 1) := by decide +kernel
theorem dX8_cardOf_30 : decode cX8_cardOf 30 = .ok (.aconst_null, 1) := by decide +kernel
theorem dX8_cardOf_31 : decode cX8_cardOf 31 = .ok (.areturn, 1) := by decide +kernel
theorem dX8_barOf_0 : decode cX8_barOf 0 = .ok (.aload_n 0, 1) := by decide +kernel
theorem dX8_barOf_1 : decode cX8_barOf 1 = .ok (.getfield 19, 3) := by decide +kernel
theorem dX8_barOf_4 : decode cX8_barOf 4 = .ok (.iload_n 1, 1) := by decide +kernel
theorem dX8_barOf_5 : decode cX8_barOf 5 = .ok (.aload_n 0, 1) := by decide +kernel
theorem dX8_barOf_6 : decode cX8_barOf 6 = .ok (.getfield 54, 3) := by decide +kernel
theorem dX8_barOf_9 : decode cX8_barOf 9 = .ok (.invokevirtual 132, 3) := by decide +kernel
theorem dX8_barOf_12 : decode cX8_barOf 12 = .ok (.aload_n 0, 1) := by decide +kernel
theorem dX8_barOf_13 : decode cX8_barOf 13 = .ok (.getfield 54, 3) := by decide +kernel
theorem dX8_barOf_16 : decode cX8_barOf 16 = .ok (.aload_n 2, 1) := by decide +kernel
theorem dX8_barOf_17 : decode cX8_barOf 17 = .ok (.invokevirtual 239, 3) := by decide +kernel
theorem dX8_barOf_20 : decode cX8_barOf 20 = .ok (.ireturn, 1) := by decide +kernel
theorem dX8_inDoubt_0 : decode cX8_inDoubt 0 = .ok (.aload_n 0, 1) := by decide +kernel
theorem dX8_inDoubt_1 : decode cX8_inDoubt 1 = .ok (.getfield 10, 3) := by decide +kernel
theorem dX8_inDoubt_4 : decode cX8_inDoubt 4 = .ok (.aload_n 0, 1) := by decide +kernel
theorem dX8_inDoubt_5 : decode cX8_inDoubt 5 = .ok (.getfield 19, 3) := by decide +kernel
theorem dX8_inDoubt_8 : decode cX8_inDoubt 8 = .ok (.getfield 146, 3) := by decide +kernel
theorem dX8_inDoubt_11 : decode cX8_inDoubt 11 = .ok (.iload_n 1, 1) := by decide +kernel
theorem dX8_inDoubt_12 : decode cX8_inDoubt 12 = .ok (.iaload, 1) := by decide +kernel
theorem dX8_inDoubt_13 : decode cX8_inDoubt 13 = .ok (.invokevirtual 118, 3) := by decide +kernel
theorem dX8_inDoubt_16 : decode cX8_inDoubt 16 = .ok (.astore_n 2, 1) := by decide +kernel
theorem dX8_inDoubt_17 : decode cX8_inDoubt 17 = .ok (.aload_n 2, 1) := by decide +kernel
theorem dX8_inDoubt_18 : decode cX8_inDoubt 18 = .ok (.ifnull 16, 3) := by decide +kernel
theorem dX8_inDoubt_21 : decode cX8_inDoubt 21 = .ok (.aload_n 0, 1) := by decide +kernel
theorem dX8_inDoubt_22 : decode cX8_inDoubt 22 = .ok (.iload_n 1, 1) := by decide +kernel
theorem dX8_inDoubt_23 : decode cX8_inDoubt 23 = .ok (.aload_n 2, 1) := by decide +kernel
theorem dX8_inDoubt_24 : decode cX8_inDoubt 24 = .ok (.invokevirtual 162, 3) := by decide +kernel
theorem dX8_inDoubt_27 : decode cX8_inDoubt 27 = .ok (.ifCond .eq 7, 3) := by decide +kernel
theorem dX8_inDoubt_30 : decode cX8_inDoubt 30 = .ok (.iconst 1, 1) := by decide +kernel
theorem dX8_inDoubt_31 : decode cX8_inDoubt 31 = .ok (.goto 4, 3) := by decide +kernel
theorem dX8_inDoubt_34 : decode cX8_inDoubt 34 = .ok (.iconst 0, 1) := by decide +kernel
theorem dX8_inDoubt_35 : decode cX8_inDoubt 35 = .ok (.ireturn, 1) := by decide +kernel
theorem dX8_howManyInDoubt_0 : decode cX8_howManyInDoubt 0 = .ok (.iconst 0, 1) := by decide +kernel
theorem dX8_howManyInDoubt_1 : decode cX8_howManyInDoubt 1 = .ok (.istore_n 1, 1) := by decide +kernel
theorem dX8_howManyInDoubt_2 : decode cX8_howManyInDoubt 2 = .ok (.iconst 0, 1) := by decide +kernel
theorem dX8_howManyInDoubt_3 : decode cX8_howManyInDoubt 3 = .ok (.istore_n 2, 1) := by decide +kernel
theorem dX8_howManyInDoubt_4 : decode cX8_howManyInDoubt 4 = .ok (.iload_n 2, 1) := by decide +kernel
theorem dX8_howManyInDoubt_5 : decode cX8_howManyInDoubt 5 = .ok (.aload_n 0, 1) := by decide +kernel
theorem dX8_howManyInDoubt_6 : decode cX8_howManyInDoubt 6 = .ok (.getfield 19, 3) := by decide +kernel
theorem dX8_howManyInDoubt_9 : decode cX8_howManyInDoubt 9 = .ok (.getfield 75, 3) := by decide +kernel
theorem dX8_howManyInDoubt_12 : decode cX8_howManyInDoubt 12 = .ok (.getfield 223, 3) := by decide +kernel
theorem dX8_howManyInDoubt_15 : decode cX8_howManyInDoubt 15 = .ok (.if_icmp .ge 31, 3) := by decide +kernel
theorem dX8_howManyInDoubt_18 : decode cX8_howManyInDoubt 18 = .ok (.aload_n 0, 1) := by decide +kernel
theorem dX8_howManyInDoubt_19 : decode cX8_howManyInDoubt 19 = .ok (.getfield 19, 3) := by decide +kernel
theorem dX8_howManyInDoubt_22 : decode cX8_howManyInDoubt 22 = .ok (.iload_n 2, 1) := by decide +kernel
theorem dX8_howManyInDoubt_23 : decode cX8_howManyInDoubt 23 = .ok (.invokevirtual 243, 3) := by decide +kernel
theorem dX8_howManyInDoubt_26 : decode cX8_howManyInDoubt 26 = .ok (.ifCond .eq 14, 3) := by decide +kernel
theorem dX8_howManyInDoubt_29 : decode cX8_howManyInDoubt 29 = .ok (.aload_n 0, 1) := by decide +kernel
theorem dX8_howManyInDoubt_30 : decode cX8_howManyInDoubt 30 = .ok (.iload_n 2, 1) := by decide +kernel
theorem dX8_howManyInDoubt_31 : decode cX8_howManyInDoubt 31 = .ok (.invokevirtual 199, 3) := by decide +kernel
theorem dX8_howManyInDoubt_34 : decode cX8_howManyInDoubt 34 = .ok (.ifCond .eq 6, 3) := by decide +kernel
theorem dX8_howManyInDoubt_37 : decode cX8_howManyInDoubt 37 = .ok (.iinc 1 1, 3) := by decide +kernel
theorem dX8_howManyInDoubt_40 : decode cX8_howManyInDoubt 40 = .ok (.iinc 2 1, 3) := by decide +kernel
theorem dX8_howManyInDoubt_43 : decode cX8_howManyInDoubt 43 = .ok (.goto (-39), 3) := by decide +kernel
theorem dX8_howManyInDoubt_46 : decode cX8_howManyInDoubt 46 = .ok (.iload_n 1, 1) := by decide +kernel
theorem dX8_howManyInDoubt_47 : decode cX8_howManyInDoubt 47 = .ok (.ireturn, 1) := by decide +kernel
theorem dX8_howManyUnpaired_0 : decode cX8_howManyUnpaired 0 = .ok (.aload_n 0, 1) := by decide +kernel
theorem dX8_howManyUnpaired_1 : decode cX8_howManyUnpaired 1 = .ok (.invokevirtual 171, 3) := by decide +kernel
theorem dX8_howManyUnpaired_4 : decode cX8_howManyUnpaired 4 = .ok (.aload_n 0, 1) := by decide +kernel
theorem dX8_howManyUnpaired_5 : decode cX8_howManyUnpaired 5 = .ok (.getfield 10, 3) := by decide +kernel
theorem dX8_howManyUnpaired_8 : decode cX8_howManyUnpaired 8 = .ok (.getfield 223, 3) := by decide +kernel
theorem dX8_howManyUnpaired_11 : decode cX8_howManyUnpaired 11 = .ok (.istore_n 1, 1) := by decide +kernel
theorem dX8_howManyUnpaired_12 : decode cX8_howManyUnpaired 12 = .ok (.iconst 0, 1) := by decide +kernel
theorem dX8_howManyUnpaired_13 : decode cX8_howManyUnpaired 13 = .ok (.istore_n 2, 1) := by decide +kernel
theorem dX8_howManyUnpaired_14 : decode cX8_howManyUnpaired 14 = .ok (.iload_n 2, 1) := by decide +kernel
theorem dX8_howManyUnpaired_15 : decode cX8_howManyUnpaired 15 = .ok (.bipush 12, 2) := by decide +kernel
theorem dX8_howManyUnpaired_17 : decode cX8_howManyUnpaired 17 = .ok (.if_icmp .ge 25, 3) := by decide +kernel
theorem dX8_howManyUnpaired_20 : decode cX8_howManyUnpaired 20 = .ok (.aload_n 0, 1) := by decide +kernel
theorem dX8_howManyUnpaired_21 : decode cX8_howManyUnpaired 21 = .ok (.getfield 33, 3) := by decide +kernel
theorem dX8_howManyUnpaired_24 : decode cX8_howManyUnpaired 24 = .ok (.getfield 177, 3) := by decide +kernel
theorem dX8_howManyUnpaired_27 : decode cX8_howManyUnpaired 27 = .ok (.iload_n 2, 1) := by decide +kernel
theorem dX8_howManyUnpaired_28 : decode cX8_howManyUnpaired 28 = .ok (.iaload, 1) := by decide +kernel
theorem dX8_howManyUnpaired_29 : decode cX8_howManyUnpaired 29 = .ok (.iconst (-1), 1) := by decide +kernel
theorem dX8_howManyUnpaired_30 : decode cX8_howManyUnpaired 30 = .ok (.if_icmp .eq 6, 3) := by decide +kernel
theorem dX8_howManyUnpaired_33 : decode cX8_howManyUnpaired 33 = .ok (.iinc 1 (-1), 3) := by decide +kernel
theorem dX8_howManyUnpaired_36 : decode cX8_howManyUnpaired 36 = .ok (.iinc 2 1, 3) := by decide +kernel
theorem dX8_howManyUnpaired_39 : decode cX8_howManyUnpaired 39 = .ok (.goto (-25), 3) := by decide +kernel
theorem dX8_howManyUnpaired_42 : decode cX8_howManyUnpaired 42 = .ok (.iload_n 1, 1) := by decide +kernel
theorem dX8_howManyUnpaired_43 : decode cX8_howManyUnpaired 43 = .ok (.ireturn, 1) := by decide +kernel
theorem dX8_pairUp_0 : decode cX8_pairUp 0 = .ok (.iconst 0, 1) := by decide +kernel
theorem dX8_pairUp_1 : decode cX8_pairUp 1 = .ok (.istore_n 1, 1) := by decide +kernel
theorem dX8_pairUp_2 : decode cX8_pairUp 2 = .ok (.iload_n 1, 1) := by decide +kernel
theorem dX8_pairUp_3 : decode cX8_pairUp 3 = .ok (.bipush 12, 2) := by decide +kernel
theorem dX8_pairUp_5 : decode cX8_pairUp 5 = .ok (.if_icmp .ge 143, 3) := by decide +kernel
theorem dX8_pairUp_8 : decode cX8_pairUp 8 = .ok (.aload_n 0, 1) := by decide +kernel
theorem dX8_pairUp_9 : decode cX8_pairUp 9 = .ok (.getfield 19, 3) := by decide +kernel
theorem dX8_pairUp_12 : decode cX8_pairUp 12 = .ok (.iload_n 1, 1) := by decide +kernel
theorem dX8_pairUp_13 : decode cX8_pairUp 13 = .ok (.invokevirtual 243, 3) := by decide +kernel
theorem dX8_pairUp_16 : decode cX8_pairUp 16 = .ok (.ifCond .eq 20, 3) := by decide +kernel
theorem dX8_pairUp_19 : decode cX8_pairUp 19 = .ok (.aload_n 0, 1) := by decide +kernel
theorem dX8_pairUp_20 : decode cX8_pairUp 20 = .ok (.getfield 19, 3) := by decide +kernel
theorem dX8_pairUp_23 : decode cX8_pairUp 23 = .ok (.getfield 146, 3) := by decide +kernel
theorem dX8_pairUp_26 : decode cX8_pairUp 26 = .ok (.iload_n 1, 1) := by decide +kernel
theorem dX8_pairUp_27 : decode cX8_pairUp 27 = .ok (.iaload, 1) := by decide +kernel
theorem dX8_pairUp_28 : decode cX8_pairUp 28 = .ok (.iconst (-1), 1) := by decide +kernel
theorem dX8_pairUp_29 : decode cX8_pairUp 29 = .ok (.if_icmp .ne 7, 3) := by decide +kernel
theorem dX8_pairUp_32 : decode cX8_pairUp 32 = .ok (.iconst 1, 1) := by decide +kernel
theorem dX8_pairUp_33 : decode cX8_pairUp 33 = .ok (.goto 4, 3) := by decide +kernel
theorem dX8_pairUp_36 : decode cX8_pairUp 36 = .ok (.iconst 0, 1) := by decide +kernel
theorem dX8_pairUp_37 : decode cX8_pairUp 37 = .ok (.istore_n 2, 1) := by decide +kernel
theorem dX8_pairUp_38 : decode cX8_pairUp 38 = .ok (.iload_n 2, 1) := by decide +kernel
theorem dX8_pairUp_39 : decode cX8_pairUp 39 = .ok (.ifCond .eq 15, 3) := by decide +kernel
theorem dX8_pairUp_42 : decode cX8_pairUp 42 = .ok (.aload_n 0, 1) := by decide +kernel
theorem dX8_pairUp_43 : decode cX8_pairUp 43 = .ok (.getfield 19, 3) := by decide +kernel
theorem dX8_pairUp_46 : decode cX8_pairUp 46 = .ok (.iload_n 1, 1) := by decide +kernel
theorem dX8_pairUp_47 : decode cX8_pairUp 47 = .ok (.aload_n 0, 1) := by decide +kernel
theorem dX8_pairUp_48 : decode cX8_pairUp 48 = .ok (.getfield 54, 3) := by decide +kernel
theorem dX8_pairUp_51 : decode cX8_pairUp 51 = .ok (.invokevirtual 132, 3) := by decide +kernel
theorem dX8_pairUp_54 : decode cX8_pairUp 54 = .ok (.iconst 0, 1) := by decide +kernel
theorem dX8_pairUp_55 : decode cX8_pairUp 55 = .ok (.istore_n 3, 1) := by decide +kernel
theorem dX8_pairUp_56 : decode cX8_pairUp 56 = .ok (.iload_n 3, 1) := by decide +kernel
theorem dX8_pairUp_57 : decode cX8_pairUp 57 = .ok (.bipush 12, 2) := by decide +kernel
theorem dX8_pairUp_59 : decode cX8_pairUp 59 = .ok (.if_icmp .ge 83, 3) := by decide +kernel
theorem dX8_pairUp_62 : decode cX8_pairUp 62 = .ok (.aload_n 0, 1) := by decide +kernel
theorem dX8_pairUp_63 : decode cX8_pairUp 63 = .ok (.getfield 10, 3) := by decide +kernel
theorem dX8_pairUp_66 : decode cX8_pairUp 66 = .ok (.iload_n 3, 1) := by decide +kernel
theorem dX8_pairUp_67 : decode cX8_pairUp 67 = .ok (.invokevirtual 118, 3) := by decide +kernel
theorem dX8_pairUp_70 : decode cX8_pairUp 70 = .ok (.astore 4, 2) := by decide +kernel
theorem dX8_pairUp_72 : decode cX8_pairUp 72 = .ok (.iload_n 2, 1) := by decide +kernel
theorem dX8_pairUp_73 : decode cX8_pairUp 73 = .ok (.ifCond .eq 23, 3) := by decide +kernel
theorem dX8_pairUp_76 : decode cX8_pairUp 76 = .ok (.aload 4, 2) := by decide +kernel
theorem dX8_pairUp_78 : decode cX8_pairUp 78 = .ok (.ifnull 18, 3) := by decide +kernel
theorem dX8_pairUp_81 : decode cX8_pairUp 81 = .ok (.aload_n 0, 1) := by decide +kernel
theorem dX8_pairUp_82 : decode cX8_pairUp 82 = .ok (.getfield 19, 3) := by decide +kernel
theorem dX8_pairUp_85 : decode cX8_pairUp 85 = .ok (.iload_n 3, 1) := by decide +kernel
theorem dX8_pairUp_86 : decode cX8_pairUp 86 = .ok (.invokevirtual 246, 3) := by decide +kernel
theorem dX8_pairUp_89 : decode cX8_pairUp 89 = .ok (.ifCond .ne 7, 3) := by decide +kernel
theorem dX8_pairUp_92 : decode cX8_pairUp 92 = .ok (.iconst 1, 1) := by decide +kernel
theorem dX8_pairUp_93 : decode cX8_pairUp 93 = .ok (.goto 4, 3) := by decide +kernel
theorem dX8_pairUp_96 : decode cX8_pairUp 96 = .ok (.iconst 0, 1) := by decide +kernel
theorem dX8_pairUp_97 : decode cX8_pairUp 97 = .ok (.istore 5, 2) := by decide +kernel
theorem dX8_pairUp_99 : decode cX8_pairUp 99 = .ok (.aload_n 0, 1) := by decide +kernel
theorem dX8_pairUp_100 : decode cX8_pairUp 100 = .ok (.getfield 33, 3) := by decide +kernel
theorem dX8_pairUp_103 : decode cX8_pairUp 103 = .ok (.getfield 192, 3) := by decide +kernel
theorem dX8_pairUp_106 : decode cX8_pairUp 106 = .ok (.iload_n 1, 1) := by decide +kernel
theorem dX8_pairUp_107 : decode cX8_pairUp 107 = .ok (.aaload, 1) := by decide +kernel
theorem dX8_pairUp_108 : decode cX8_pairUp 108 = .ok (.iload_n 3, 1) := by decide +kernel
theorem dX8_pairUp_109 : decode cX8_pairUp 109 = .ok (.iload 5, 2) := by decide +kernel
theorem dX8_pairUp_111 : decode cX8_pairUp 111 = .ok (.ifCond .eq 23, 3) := by decide +kernel
theorem dX8_pairUp_114 : decode cX8_pairUp 114 = .ok (.iconst 0, 1) := by decide +kernel
theorem dX8_pairUp_115 : decode cX8_pairUp 115 = .ok (.aload_n 0, 1) := by decide +kernel
theorem dX8_pairUp_116 : decode cX8_pairUp 116 = .ok (.getfield 64, 3) := by decide +kernel
theorem dX8_pairUp_119 : decode cX8_pairUp 119 = .ok (.aload_n 0, 1) := by decide +kernel
theorem dX8_pairUp_120 : decode cX8_pairUp 120 = .ok (.getfield 54, 3) := by decide +kernel
theorem dX8_pairUp_123 : decode cX8_pairUp 123 = .ok (.aload 4, 2) := by decide +kernel
theorem dX8_pairUp_125 : decode cX8_pairUp 125 = .ok (.invokevirtual 166, 3) := by decide +kernel
theorem dX8_pairUp_128 : decode cX8_pairUp 128 = .ok (.invokestatic 115, 3) := by decide +kernel
theorem dX8_pairUp_131 : decode cX8_pairUp 131 = .ok (.goto 4, 3) := by decide +kernel
theorem dX8_pairUp_134 : decode cX8_pairUp 134 = .ok (.iconst 0, 1) := by decide +kernel
theorem dX8_pairUp_135 : decode cX8_pairUp 135 = .ok (.iastore, 1) := by decide +kernel
theorem dX8_pairUp_136 : decode cX8_pairUp 136 = .ok (.iinc 3 1, 3) := by decide +kernel
theorem dX8_pairUp_139 : decode cX8_pairUp 139 = .ok (.goto (-83), 3) := by decide +kernel
theorem dX8_pairUp_142 : decode cX8_pairUp 142 = .ok (.iinc 1 1, 3) := by decide +kernel
theorem dX8_pairUp_145 : decode cX8_pairUp 145 = .ok (.goto (-143), 3) := by decide +kernel
theorem dX8_pairUp_148 : decode cX8_pairUp 148 = .ok (.aload_n 0, 1) := by decide +kernel
theorem dX8_pairUp_149 : decode cX8_pairUp 149 = .ok (.getfield 33, 3) := by decide +kernel
theorem dX8_pairUp_152 : decode cX8_pairUp 152 = .ok (.invokevirtual 249, 3) := by decide +kernel
theorem dX8_pairUp_155 : decode cX8_pairUp 155 = .ok (.iconst 0, 1) := by decide +kernel
theorem dX8_pairUp_156 : decode cX8_pairUp 156 = .ok (.istore_n 1, 1) := by decide +kernel
theorem dX8_pairUp_157 : decode cX8_pairUp 157 = .ok (.iload_n 1, 1) := by decide +kernel
theorem dX8_pairUp_158 : decode cX8_pairUp 158 = .ok (.bipush 12, 2) := by decide +kernel
theorem dX8_pairUp_160 : decode cX8_pairUp 160 = .ok (.if_icmp .ge 40, 3) := by decide +kernel
theorem dX8_pairUp_163 : decode cX8_pairUp 163 = .ok (.aload_n 0, 1) := by decide +kernel
theorem dX8_pairUp_164 : decode cX8_pairUp 164 = .ok (.getfield 19, 3) := by decide +kernel
theorem dX8_pairUp_167 : decode cX8_pairUp 167 = .ok (.getfield 146, 3) := by decide +kernel
theorem dX8_pairUp_170 : decode cX8_pairUp 170 = .ok (.iload_n 1, 1) := by decide +kernel
theorem dX8_pairUp_171 : decode cX8_pairUp 171 = .ok (.iaload, 1) := by decide +kernel
theorem dX8_pairUp_172 : decode cX8_pairUp 172 = .ok (.iconst (-1), 1) := by decide +kernel
theorem dX8_pairUp_173 : decode cX8_pairUp 173 = .ok (.if_icmp .eq 21, 3) := by decide +kernel
theorem dX8_pairUp_176 : decode cX8_pairUp 176 = .ok (.aload_n 0, 1) := by decide +kernel
theorem dX8_pairUp_177 : decode cX8_pairUp 177 = .ok (.getfield 33, 3) := by decide +kernel
theorem dX8_pairUp_180 : decode cX8_pairUp 180 = .ok (.getfield 177, 3) := by decide +kernel
theorem dX8_pairUp_183 : decode cX8_pairUp 183 = .ok (.iload_n 1, 1) := by decide +kernel
theorem dX8_pairUp_184 : decode cX8_pairUp 184 = .ok (.aload_n 0, 1) := by decide +kernel
theorem dX8_pairUp_185 : decode cX8_pairUp 185 = .ok (.getfield 19, 3) := by decide +kernel
theorem dX8_pairUp_188 : decode cX8_pairUp 188 = .ok (.getfield 146, 3) := by decide +kernel
theorem dX8_pairUp_191 : decode cX8_pairUp 191 = .ok (.iload_n 1, 1) := by decide +kernel
theorem dX8_pairUp_192 : decode cX8_pairUp 192 = .ok (.iaload, 1) := by decide +kernel
theorem dX8_pairUp_193 : decode cX8_pairUp 193 = .ok (.iastore, 1) := by decide +kernel
theorem dX8_pairUp_194 : decode cX8_pairUp 194 = .ok (.iinc 1 1, 3) := by decide +kernel
theorem dX8_pairUp_197 : decode cX8_pairUp 197 = .ok (.goto (-40), 3) := by decide +kernel
theorem dX8_pairUp_200 : decode cX8_pairUp 200 = .ok (.return_, 1) := by decide +kernel
theorem dX9_init_0 : decode cX9_init 0 = .ok (.aload_n 0, 1) := by decide +kernel
theorem dX9_init_1 : decode cX9_init 1 = .ok (.invokespecial 1, 3) := by decide +kernel
theorem dX9_init_4 : decode cX9_init 4 = .ok (.aload_n 0, 1) := by decide +kernel
theorem dX9_init_5 : decode cX9_init 5 = .ok (.iconst 2, 1) := by decide +kernel
theorem dX9_init_6 : decode cX9_init 6 = .ok (.newarray .int, 2) := by decide +kernel
theorem dX9_init_8 : decode cX9_init 8 = .ok (.putfield 7, 3) := by decide +kernel
theorem dX9_init_11 : decode cX9_init 11 = .ok (.aload_n 0, 1) := by decide +kernel
theorem dX9_init_12 : decode cX9_init 12 = .ok (.sipush 456, 3) := by decide +kernel
theorem dX9_init_15 : decode cX9_init 15 = .ok (.newarray .int, 2) := by decide +kernel
theorem dX9_init_17 : decode cX9_init 17 = .ok (.putfield 13, 3) := by decide +kernel
theorem dX9_init_20 : decode cX9_init 20 = .ok (.aload_n 0, 1) := by decide +kernel
theorem dX9_init_21 : decode cX9_init 21 = .ok (.bipush 24, 2) := by decide +kernel
theorem dX9_init_23 : decode cX9_init 23 = .ok (.newarray .int, 2) := by decide +kernel
theorem dX9_init_25 : decode cX9_init 25 = .ok (.putfield 16, 3) := by decide +kernel
theorem dX9_init_28 : decode cX9_init 28 = .ok (.aload_n 0, 1) := by decide +kernel
theorem dX9_init_29 : decode cX9_init 29 = .ok (.bipush 24, 2) := by decide +kernel
theorem dX9_init_31 : decode cX9_init 31 = .ok (.newarray .int, 2) := by decide +kernel
theorem dX9_init_33 : decode cX9_init 33 = .ok (.putfield 19, 3) := by decide +kernel
theorem dX9_init_36 : decode cX9_init 36 = .ok (.aload_n 0, 1) := by decide +kernel
theorem dX9_init_37 : decode cX9_init 37 = .ok (.bipush 12, 2) := by decide +kernel
theorem dX9_init_39 : decode cX9_init 39 = .ok (.newarray .int, 2) := by decide +kernel
theorem dX9_init_41 : decode cX9_init 41 = .ok (.putfield 22, 3) := by decide +kernel
theorem dX9_init_44 : decode cX9_init 44 = .ok (.aload_n 0, 1) := by decide +kernel
theorem dX9_init_45 : decode cX9_init 45 = .ok (.bipush 12, 2) := by decide +kernel
theorem dX9_init_47 : decode cX9_init 47 = .ok (.newarray .int, 2) := by decide +kernel
theorem dX9_init_49 : decode cX9_init 49 = .ok (.putfield 25, 3) := by decide +kernel
theorem dX9_init_52 : decode cX9_init 52 = .ok (.aload_n 0, 1) := by decide +kernel
theorem dX9_init_53 : decode cX9_init 53 = .ok (.bipush 12, 2) := by decide +kernel
theorem dX9_init_55 : decode cX9_init 55 = .ok (.newarray .int, 2) := by decide +kernel
theorem dX9_init_57 : decode cX9_init 57 = .ok (.putfield 28, 3) := by decide +kernel
theorem dX9_init_60 : decode cX9_init 60 = .ok (.aload_n 0, 1) := by decide +kernel
theorem dX9_init_61 : decode cX9_init 61 = .ok (.sipush 144, 3) := by decide +kernel
theorem dX9_init_64 : decode cX9_init 64 = .ok (.newarray .int, 2) := by decide +kernel
theorem dX9_init_66 : decode cX9_init 66 = .ok (.putfield 31, 3) := by decide +kernel
theorem dX9_init_69 : decode cX9_init 69 = .ok (.aload_n 0, 1) := by decide +kernel
theorem dX9_init_70 : decode cX9_init 70 = .ok (.ldc 34, 2) := by decide +kernel
theorem dX9_init_72 : decode cX9_init 72 = .ok (.newarray .int, 2) := by decide +kernel
theorem dX9_init_74 : decode cX9_init 74 = .ok (.putfield 35, 3) := by decide +kernel
theorem dX9_init_77 : decode cX9_init 77 = .ok (.aload_n 0, 1) := by decide +kernel
theorem dX9_init_78 : decode cX9_init 78 = .ok (.bipush 12, 2) := by decide +kernel
theorem dX9_init_80 : decode cX9_init 80 = .ok (.newarray .int, 2) := by decide +kernel
theorem dX9_init_82 : decode cX9_init 82 = .ok (.putfield 38, 3) := by decide +kernel
theorem dX9_init_85 : decode cX9_init 85 = .ok (.aload_n 0, 1) := by decide +kernel
theorem dX9_init_86 : decode cX9_init 86 = .ok (.bipush 60, 2) := by decide +kernel
theorem dX9_init_88 : decode cX9_init 88 = .ok (.newarray .int, 2) := by decide +kernel
theorem dX9_init_90 : decode cX9_init 90 = .ok (.putfield 41, 3) := by decide +kernel
theorem dX9_init_93 : decode cX9_init 93 = .ok (.aload_n 0, 1) := by decide +kernel
theorem dX9_init_94 : decode cX9_init 94 = .ok (.bipush 60, 2) := by decide +kernel
theorem dX9_init_96 : decode cX9_init 96 = .ok (.newarray .int, 2) := by decide +kernel
theorem dX9_init_98 : decode cX9_init 98 = .ok (.putfield 44, 3) := by decide +kernel
theorem dX9_init_101 : decode cX9_init 101 = .ok (.aload_n 0, 1) := by decide +kernel
theorem dX9_init_102 : decode cX9_init 102 = .ok (.bipush 60, 2) := by decide +kernel
theorem dX9_init_104 : decode cX9_init 104 = .ok (.newarray .int, 2) := by decide +kernel
theorem dX9_init_106 : decode cX9_init 106 = .ok (.putfield 47, 3) := by decide +kernel
theorem dX9_init_109 : decode cX9_init 109 = .ok (.aload_n 0, 1) := by decide +kernel
theorem dX9_init_110 : decode cX9_init 110 = .ok (.bipush 42, 2) := by decide +kernel
theorem dX9_init_112 : decode cX9_init 112 = .ok (.newarray .int, 2) := by decide +kernel
theorem dX9_init_114 : decode cX9_init 114 = .ok (.dup, 1) := by decide +kernel
theorem dX9_init_115 : decode cX9_init 115 = .ok (.iconst 0, 1) := by decide +kernel
theorem dX9_init_116 : decode cX9_init 116 = .ok (.iconst 0, 1) := by decide +kernel
theorem dX9_init_117 : decode cX9_init 117 = .ok (.iastore, 1) := by decide +kernel
theorem dX9_init_118 : decode cX9_init 118 = .ok (.dup, 1) := by decide +kernel
theorem dX9_init_119 : decode cX9_init 119 = .ok (.iconst 1, 1) := by decide +kernel
theorem dX9_init_120 : decode cX9_init 120 = .ok (.iconst 1, 1) := by decide +kernel
theorem dX9_init_121 : decode cX9_init 121 = .ok (.iastore, 1) := by decide +kernel
theorem dX9_init_122 : decode cX9_init 122 = .ok (.dup, 1) := by decide +kernel
theorem dX9_init_123 : decode cX9_init 123 = .ok (.iconst 2, 1) := by decide +kernel
theorem dX9_init_124 : decode cX9_init 124 = .ok (.iconst 4, 1) := by decide +kernel
theorem dX9_init_125 : decode cX9_init 125 = .ok (.iastore, 1) := by decide +kernel
theorem dX9_init_126 : decode cX9_init 126 = .ok (.dup, 1) := by decide +kernel
theorem dX9_init_127 : decode cX9_init 127 = .ok (.iconst 3, 1) := by decide +kernel
theorem dX9_init_128 : decode cX9_init 128 = .ok (.bipush 6, 2) := by decide +kernel
theorem dX9_init_130 : decode cX9_init 130 = .ok (.iastore, 1) := by decide +kernel
theorem dX9_init_131 : decode cX9_init 131 = .ok (.dup, 1) := by decide +kernel
theorem dX9_init_132 : decode cX9_init 132 = .ok (.iconst 4, 1) := by decide +kernel
theorem dX9_init_133 : decode cX9_init 133 = .ok (.iconst 5, 1) := by decide +kernel
theorem dX9_init_134 : decode cX9_init 134 = .ok (.iastore, 1) := by decide +kernel
theorem dX9_init_135 : decode cX9_init 135 = .ok (.dup, 1) := by decide +kernel
theorem dX9_init_136 : decode cX9_init 136 = .ok (.iconst 5, 1) := by decide +kernel
theorem dX9_init_137 : decode cX9_init 137 = .ok (.iconst 5, 1) := by decide +kernel
theorem dX9_init_138 : decode cX9_init 138 = .ok (.iastore, 1) := by decide +kernel
theorem dX9_init_139 : decode cX9_init 139 = .ok (.dup, 1) := by decide +kernel
theorem dX9_init_140 : decode cX9_init 140 = .ok (.bipush 6, 2) := by decide +kernel
theorem dX9_init_142 : decode cX9_init 142 = .ok (.iconst 5, 1) := by decide +kernel
theorem dX9_init_143 : decode cX9_init 143 = .ok (.iastore, 1) := by decide +kernel
theorem dX9_init_144 : decode cX9_init 144 = .ok (.dup, 1) := by decide +kernel
theorem dX9_init_145 : decode cX9_init 145 = .ok (.bipush 7, 2) := by decide +kernel
theorem dX9_init_147 : decode cX9_init 147 = .ok (.iconst 5, 1) := by decide +kernel
theorem dX9_init_148 : decode cX9_init 148 = .ok (.iastore, 1) := by decide +kernel
theorem dX9_init_149 : decode cX9_init 149 = .ok (.dup, 1) := by decide +kernel
theorem dX9_init_150 : decode cX9_init 150 = .ok (.bipush 8, 2) := by decide +kernel
theorem dX9_init_152 : decode cX9_init 152 = .ok (.iconst 3, 1) := by decide +kernel
theorem dX9_init_153 : decode cX9_init 153 = .ok (.iastore, 1) := by decide +kernel
theorem dX9_init_154 : decode cX9_init 154 = .ok (.dup, 1) := by decide +kernel
theorem dX9_init_155 : decode cX9_init 155 = .ok (.bipush 9, 2) := by decide +kernel
theorem dX9_init_157 : decode cX9_init 157 = .ok (.iconst 3, 1) := by decide +kernel
theorem dX9_init_158 : decode cX9_init 158 = .ok (.iastore, 1) := by decide +kernel
theorem dX9_init_159 : decode cX9_init 159 = .ok (.dup, 1) := by decide +kernel
theorem dX9_init_160 : decode cX9_init 160 = .ok (.bipush 10, 2) := by decide +kernel
theorem dX9_init_162 : decode cX9_init 162 = .ok (.iconst 3, 1) := by decide +kernel
theorem dX9_init_163 : decode cX9_init 163 = .ok (.iastore, 1) := by decide +kernel
theorem dX9_init_164 : decode cX9_init 164 = .ok (.dup, 1) := by decide +kernel
theorem dX9_init_165 : decode cX9_init 165 = .ok (.bipush 11, 2) := by decide +kernel
theorem dX9_init_167 : decode cX9_init 167 = .ok (.iconst 3, 1) := by decide +kernel
theorem dX9_init_168 : decode cX9_init 168 = .ok (.iastore, 1) := by decide +kernel
theorem dX9_init_169 : decode cX9_init 169 = .ok (.dup, 1) := by decide +kernel
theorem dX9_init_170 : decode cX9_init 170 = .ok (.bipush 12, 2) := by decide +kernel
theorem dX9_init_172 : decode cX9_init 172 = .ok (.iconst 3, 1) := by decide +kernel
theorem dX9_init_173 : decode cX9_init 173 = .ok (.iastore, 1) := by decide +kernel
theorem dX9_init_174 : decode cX9_init 174 = .ok (.dup, 1) := by decide +kernel
theorem dX9_init_175 : decode cX9_init 175 = .ok (.bipush 13, 2) := by decide +kernel
theorem dX9_init_177 : decode cX9_init 177 = .ok (.iconst 3, 1) := by decide +kernel
theorem dX9_init_178 : decode cX9_init 178 = .ok (.iastore, 1) := by decide +kernel
theorem dX9_init_179 : decode cX9_init 179 = .ok (.dup, 1) := by decide +kernel
theorem dX9_init_180 : decode cX9_init 180 = .ok (.bipush 14, 2) := by decide +kernel
theorem dX9_init_182 : decode cX9_init 182 = .ok (.iconst 3, 1) := by decide +kernel
theorem dX9_init_183 : decode cX9_init 183 = .ok (.iastore, 1) := by decide +kernel
theorem dX9_init_184 : decode cX9_init 184 = .ok (.dup, 1) := by decide +kernel
theorem dX9_init_185 : decode cX9_init 185 = .ok (.bipush 15, 2) := by decide +kernel
theorem dX9_init_187 : decode cX9_init 187 = .ok (.iconst 3, 1) := by decide +kernel
theorem dX9_init_188 : decode cX9_init 188 = .ok (.iastore, 1) := by decide +kernel
theorem dX9_init_189 : decode cX9_init 189 = .ok (.dup, 1) := by decide +kernel
theorem dX9_init_190 : decode cX9_init 190 = .ok (.bipush 16, 2) := by decide +kernel
theorem dX9_init_192 : decode cX9_init 192 = .ok (.iconst 3, 1) := by decide +kernel
theorem dX9_init_193 : decode cX9_init 193 = .ok (.iastore, 1) := by decide +kernel
theorem dX9_init_194 : decode cX9_init 194 = .ok (.dup, 1) := by decide +kernel
theorem dX9_init_195 : decode cX9_init 195 = .ok (.bipush 17, 2) := by decide +kernel
theorem dX9_init_197 : decode cX9_init 197 = .ok (.iconst 2, 1) := by decide +kernel
theorem dX9_init_198 : decode cX9_init 198 = .ok (.iastore, 1) := by decide +kernel
theorem dX9_init_199 : decode cX9_init 199 = .ok (.dup, 1) := by decide +kernel
theorem dX9_init_200 : decode cX9_init 200 = .ok (.bipush 18, 2) := by decide +kernel
theorem dX9_init_202 : decode cX9_init 202 = .ok (.bipush 20, 2) := by decide +kernel
theorem dX9_init_204 : decode cX9_init 204 = .ok (.iastore, 1) := by decide +kernel
theorem dX9_init_205 : decode cX9_init 205 = .ok (.dup, 1) := by decide +kernel
theorem dX9_init_206 : decode cX9_init 206 = .ok (.bipush 19, 2) := by decide +kernel
theorem dX9_init_208 : decode cX9_init 208 = .ok (.iconst 5, 1) := by decide +kernel
theorem dX9_init_209 : decode cX9_init 209 = .ok (.iastore, 1) := by decide +kernel
theorem dX9_init_210 : decode cX9_init 210 = .ok (.dup, 1) := by decide +kernel
theorem dX9_init_211 : decode cX9_init 211 = .ok (.bipush 20, 2) := by decide +kernel
theorem dX9_init_213 : decode cX9_init 213 = .ok (.iconst 2, 1) := by decide +kernel
theorem dX9_init_214 : decode cX9_init 214 = .ok (.iastore, 1) := by decide +kernel
theorem dX9_init_215 : decode cX9_init 215 = .ok (.dup, 1) := by decide +kernel
theorem dX9_init_216 : decode cX9_init 216 = .ok (.bipush 21, 2) := by decide +kernel
theorem dX9_init_218 : decode cX9_init 218 = .ok (.iconst 0, 1) := by decide +kernel
theorem dX9_init_219 : decode cX9_init 219 = .ok (.iastore, 1) := by decide +kernel
theorem dX9_init_220 : decode cX9_init 220 = .ok (.dup, 1) := by decide +kernel
theorem dX9_init_221 : decode cX9_init 221 = .ok (.bipush 22, 2) := by decide +kernel
theorem dX9_init_223 : decode cX9_init 223 = .ok (.iconst 0, 1) := by decide +kernel
theorem dX9_init_224 : decode cX9_init 224 = .ok (.iastore, 1) := by decide +kernel
theorem dX9_init_225 : decode cX9_init 225 = .ok (.dup, 1) := by decide +kernel
theorem dX9_init_226 : decode cX9_init 226 = .ok (.bipush 23, 2) := by decide +kernel
theorem dX9_init_228 : decode cX9_init 228 = .ok (.iconst 0, 1) := by decide +kernel
theorem dX9_init_229 : decode cX9_init 229 = .ok (.iastore, 1) := by decide +kernel
theorem dX9_init_230 : decode cX9_init 230 = .ok (.dup, 1) := by decide +kernel
theorem dX9_init_231 : decode cX9_init 231 = .ok (.bipush 24, 2) := by decide +kernel
theorem dX9_init_233 : decode cX9_init 233 = .ok (.iconst 0, 1) := by decide +kernel
theorem dX9_init_234 : decode cX9_init 234 = .ok (.iastore, 1) := by decide +kernel
theorem dX9_init_235 : decode cX9_init 235 = .ok (.dup, 1) := by decide +kernel
theorem dX9_init_236 : decode cX9_init 236 = .ok (.bipush 25, 2) := by decide +kernel
theorem dX9_init_238 : decode cX9_init 238 = .ok (.iconst 0, 1) := by decide +kernel
theorem dX9_init_239 : decode cX9_init 239 = .ok (.iastore, 1) := by decide +kernel
theorem dX9_init_240 : decode cX9_init 240 = .ok (.dup, 1) := by decide +kernel
theorem dX9_init_241 : decode cX9_init 241 = .ok (.bipush 26, 2) := by decide +kernel
theorem dX9_init_243 : decode cX9_init 243 = .ok (.iconst 0, 1) := by decide +kernel
theorem dX9_init_244 : decode cX9_init 244 = .ok (.iastore, 1) := by decide +kernel
theorem dX9_init_245 : decode cX9_init 245 = .ok (.dup, 1) := by decide +kernel
theorem dX9_init_246 : decode cX9_init 246 = .ok (.bipush 27, 2) := by decide +kernel
theorem dX9_init_248 : decode cX9_init 248 = .ok (.iconst 0, 1) := by decide +kernel
theorem dX9_init_249 : decode cX9_init 249 = .ok (.iastore, 1) := by decide +kernel
theorem dX9_init_250 : decode cX9_init 250 = .ok (.dup, 1) := by decide +kernel
theorem dX9_init_251 : decode cX9_init 251 = .ok (.bipush 28, 2) := by decide +kernel
theorem dX9_init_253 : decode cX9_init 253 = .ok (.iconst 0, 1) := by decide +kernel
theorem dX9_init_254 : decode cX9_init 254 = .ok (.iastore, 1) := by decide +kernel
theorem dX9_init_255 : decode cX9_init 255 = .ok (.dup, 1) := by decide +kernel
theorem dX9_init_256 : decode cX9_init 256 = .ok (.bipush 29, 2) := by decide +kernel
theorem dX9_init_258 : decode cX9_init 258 = .ok (.iconst 0, 1) := by decide +kernel
theorem dX9_init_259 : decode cX9_init 259 = .ok (.iastore, 1) := by decide +kernel
theorem dX9_init_260 : decode cX9_init 260 = .ok (.dup, 1) := by decide +kernel
theorem dX9_init_261 : decode cX9_init 261 = .ok (.bipush 30, 2) := by decide +kernel
theorem dX9_init_263 : decode cX9_init 263 = .ok (.iconst 0, 1) := by decide +kernel
theorem dX9_init_264 : decode cX9_init 264 = .ok (.iastore, 1) := by decide +kernel
theorem dX9_init_265 : decode cX9_init 265 = .ok (.dup, 1) := by decide +kernel
theorem dX9_init_266 : decode cX9_init 266 = .ok (.bipush 31, 2) := by decide +kernel
theorem dX9_init_268 : decode cX9_init 268 = .ok (.iconst 0, 1) := by decide +kernel
theorem dX9_init_269 : decode cX9_init 269 = .ok (.iastore, 1) := by decide +kernel
theorem dX9_init_270 : decode cX9_init 270 = .ok (.dup, 1) := by decide +kernel
theorem dX9_init_271 : decode cX9_init 271 = .ok (.bipush 32, 2) := by decide +kernel
theorem dX9_init_273 : decode cX9_init 273 = .ok (.iconst 0, 1) := by decide +kernel
theorem dX9_init_274 : decode cX9_init 274 = .ok (.iastore, 1) := by decide +kernel
theorem dX9_init_275 : decode cX9_init 275 = .ok (.dup, 1) := by decide +kernel
theorem dX9_init_276 : decode cX9_init 276 = .ok (.bipush 33, 2) := by decide +kernel
theorem dX9_init_278 : decode cX9_init 278 = .ok (.iconst 0, 1) := by decide +kernel
theorem dX9_init_279 : decode cX9_init 279 = .ok (.iastore, 1) := by decide +kernel
theorem dX9_init_280 : decode cX9_init 280 = .ok (.dup, 1) := by decide +kernel
theorem dX9_init_281 : decode cX9_init 281 = .ok (.bipush 34, 2) := by decide +kernel
theorem dX9_init_283 : decode cX9_init 283 = .ok (.iconst 0, 1) := by decide +kernel
theorem dX9_init_284 : decode cX9_init 284 = .ok (.iastore, 1) := by decide +kernel
theorem dX9_init_285 : decode cX9_init 285 = .ok (.dup, 1) := by decide +kernel
theorem dX9_init_286 : decode cX9_init 286 = .ok (.bipush 35, 2) := by decide +kernel
theorem dX9_init_288 : decode cX9_init 288 = .ok (.iconst 0, 1) := by decide +kernel
theorem dX9_init_289 : decode cX9_init 289 = .ok (.iastore, 1) := by decide +kernel
theorem dX9_init_290 : decode cX9_init 290 = .ok (.dup, 1) := by decide +kernel
theorem dX9_init_291 : decode cX9_init 291 = .ok (.bipush 36, 2) := by decide +kernel
theorem dX9_init_293 : decode cX9_init 293 = .ok (.iconst 0, 1) := by decide +kernel
theorem dX9_init_294 : decode cX9_init 294 = .ok (.iastore, 1) := by decide +kernel
theorem dX9_init_295 : decode cX9_init 295 = .ok (.dup, 1) := by decide +kernel
theorem dX9_init_296 : decode cX9_init 296 = .ok (.bipush 37, 2) := by decide +kernel
theorem dX9_init_298 : decode cX9_init 298 = .ok (.iconst 0, 1) := by decide +kernel
theorem dX9_init_299 : decode cX9_init 299 = .ok (.iastore, 1) := by decide +kernel
theorem dX9_init_300 : decode cX9_init 300 = .ok (.dup, 1) := by decide +kernel
theorem dX9_init_301 : decode cX9_init 301 = .ok (.bipush 38, 2) := by decide +kernel
theorem dX9_init_303 : decode cX9_init 303 = .ok (.iconst 0, 1) := by decide +kernel
theorem dX9_init_304 : decode cX9_init 304 = .ok (.iastore, 1) := by decide +kernel
theorem dX9_init_305 : decode cX9_init 305 = .ok (.dup, 1) := by decide +kernel
theorem dX9_init_306 : decode cX9_init 306 = .ok (.bipush 39, 2) := by decide +kernel
theorem dX9_init_308 : decode cX9_init 308 = .ok (.iconst 0, 1) := by decide +kernel
theorem dX9_init_309 : decode cX9_init 309 = .ok (.iastore, 1) := by decide +kernel
theorem dX9_init_310 : decode cX9_init 310 = .ok (.dup, 1) := by decide +kernel
theorem dX9_init_311 : decode cX9_init 311 = .ok (.bipush 40, 2) := by decide +kernel
theorem dX9_init_313 : decode cX9_init 313 = .ok (.iconst 0, 1) := by decide +kernel
theorem dX9_init_314 : decode cX9_init 314 = .ok (.iastore, 1) := by decide +kernel
theorem dX9_init_315 : decode cX9_init 315 = .ok (.dup, 1) := by decide +kernel
theorem dX9_init_316 : decode cX9_init 316 = .ok (.bipush 41, 2) := by decide +kernel
theorem dX9_init_318 : decode cX9_init 318 = .ok (.iconst 0, 1) := by decide +kernel
theorem dX9_init_319 : decode cX9_init 319 = .ok (.iastore, 1) := by decide +kernel
theorem dX9_init_320 : decode cX9_init 320 = .ok (.putfield 50, 3) := by decide +kernel
theorem dX9_init_323 : decode cX9_init 323 = .ok (.aload_n 0, 1) := by decide +kernel
theorem dX9_init_324 : decode cX9_init 324 = .ok (.sipush 500, 3) := by decide +kernel
theorem dX9_init_327 : decode cX9_init 327 = .ok (.newarray .byte, 2) := by decide +kernel
theorem dX9_init_329 : decode cX9_init 329 = .ok (.putfield 53, 3) := by decide +kernel
theorem dX9_init_332 : decode cX9_init 332 = .ok (.aload_n 0, 1) := by decide +kernel
theorem dX9_init_333 : decode cX9_init 333 = .ok (.sipush 500, 3) := by decide +kernel
theorem dX9_init_336 : decode cX9_init 336 = .ok (.newarray .byte, 2) := by decide +kernel
theorem dX9_init_338 : decode cX9_init 338 = .ok (.putfield 57, 3) := by decide +kernel
theorem dX9_init_341 : decode cX9_init 341 = .ok (.aload_n 0, 1) := by decide +kernel
theorem dX9_init_342 : decode cX9_init 342 = .ok (.iconst (-1), 1) := by decide +kernel
theorem dX9_init_343 : decode cX9_init 343 = .ok (.putfield 60, 3) := by decide +kernel
theorem dX9_init_346 : decode cX9_init 346 = .ok (.return_, 1) := by decide +kernel
theorem dX9_isIn_0 : decode cX9_isIn 0 = .ok (.iload_n 0, 1) := by decide +kernel
theorem dX9_isIn_1 : decode cX9_isIn 1 = .ok (.iload_n 1, 1) := by decide +kernel
theorem dX9_isIn_2 : decode cX9_isIn 2 = .ok (.if_icmp .lt 12, 3) := by decide +kernel
theorem dX9_isIn_5 : decode cX9_isIn 5 = .ok (.iload_n 0, 1) := by decide +kernel
theorem dX9_isIn_6 : decode cX9_isIn 6 = .ok (.iload_n 2, 1) := by decide +kernel
theorem dX9_isIn_7 : decode cX9_isIn 7 = .ok (.if_icmp .gt 7, 3) := by decide +kernel
theorem dX9_isIn_10 : decode cX9_isIn 10 = .ok (.iconst 1, 1) := by decide +kernel
theorem dX9_isIn_11 : decode cX9_isIn 11 = .ok (.goto 4, 3) := by decide +kernel
theorem dX9_isIn_14 : decode cX9_isIn 14 = .ok (.iconst 0, 1) := by decide +kernel
theorem dX9_isIn_15 : decode cX9_isIn 15 = .ok (.ireturn, 1) := by decide +kernel
theorem dX9_one_0 : decode cX9_one 0 = .ok (.iload_n 0, 1) := by decide +kernel
theorem dX9_one_1 : decode cX9_one 1 = .ok (.ifCond .eq 7, 3) := by decide +kernel
theorem dX9_one_4 : decode cX9_one 4 = .ok (.iconst 1, 1) := by decide +kernel
theorem dX9_one_5 : decode cX9_one 5 = .ok (.goto 4, 3) := by decide +kernel
theorem dX9_one_8 : decode cX9_one 8 = .ok (.iconst 0, 1) := by decide +kernel
theorem dX9_one_9 : decode cX9_one 9 = .ok (.ireturn, 1) := by decide +kernel
theorem dX9_isFile_0 : decode cX9_isFile 0 = .ok (.iload_n 1, 1) := by decide +kernel
theorem dX9_isFile_1 : decode cX9_isFile 1 = .ok (.iconst 0, 1) := by decide +kernel
theorem dX9_isFile_2 : decode cX9_isFile 2 = .ok (.iconst 1, 1) := by decide +kernel
theorem dX9_isFile_3 : decode cX9_isFile 3 = .ok (.invokestatic 64, 3) := by decide +kernel
theorem dX9_isFile_6 : decode cX9_isFile 6 = .ok (.ifCond .eq 23, 3) := by decide +kernel
theorem dX9_isFile_9 : decode cX9_isFile 9 = .ok (.iload_n 2, 1) := by decide +kernel
theorem dX9_isFile_10 : decode cX9_isFile 10 = .ok (.iconst 0, 1) := by decide +kernel
theorem dX9_isFile_11 : decode cX9_isFile 11 = .ok (.aload_n 0, 1) := by decide +kernel
theorem dX9_isFile_12 : decode cX9_isFile 12 = .ok (.getfield 7, 3) := by decide +kernel
theorem dX9_isFile_15 : decode cX9_isFile 15 = .ok (.iload_n 1, 1) := by decide +kernel
theorem dX9_isFile_16 : decode cX9_isFile 16 = .ok (.iaload, 1) := by decide +kernel
theorem dX9_isFile_17 : decode cX9_isFile 17 = .ok (.iconst 1, 1) := by decide +kernel
theorem dX9_isFile_18 : decode cX9_isFile 18 = .ok (.isub, 1) := by decide +kernel
theorem dX9_isFile_19 : decode cX9_isFile 19 = .ok (.invokestatic 64, 3) := by decide +kernel
theorem dX9_isFile_22 : decode cX9_isFile 22 = .ok (.ifCond .eq 7, 3) := by decide +kernel
theorem dX9_isFile_25 : decode cX9_isFile 25 = .ok (.iconst 1, 1) := by decide +kernel
theorem dX9_isFile_26 : decode cX9_isFile 26 = .ok (.goto 4, 3) := by decide +kernel
theorem dX9_isFile_29 : decode cX9_isFile 29 = .ok (.iconst 0, 1) := by decide +kernel
theorem dX9_isFile_30 : decode cX9_isFile 30 = .ok (.ireturn, 1) := by decide +kernel
theorem dX9_file_0 : decode cX9_file 0 = .ok (.iload_n 1, 1) := by decide +kernel
theorem dX9_file_1 : decode cX9_file 1 = .ok (.iconst 0, 1) := by decide +kernel
theorem dX9_file_2 : decode cX9_file 2 = .ok (.iconst 1, 1) := by decide +kernel
theorem dX9_file_3 : decode cX9_file 3 = .ok (.invokestatic 64, 3) := by decide +kernel
theorem dX9_file_6 : decode cX9_file 6 = .ok (.ifCond .eq 14, 3) := by decide +kernel
theorem dX9_file_9 : decode cX9_file 9 = .ok (.aload_n 0, 1) := by decide +kernel
theorem dX9_file_10 : decode cX9_file 10 = .ok (.getfield 7, 3) := by decide +kernel
theorem dX9_file_13 : decode cX9_file 13 = .ok (.iload_n 1, 1) := by decide +kernel
theorem dX9_file_14 : decode cX9_file 14 = .ok (.iaload, 1) := by decide +kernel
theorem dX9_file_15 : decode cX9_file 15 = .ok (.bipush 12, 2) := by decide +kernel
theorem dX9_file_17 : decode cX9_file 17 = .ok (.if_icmp .ne 5, 3) := by decide +kernel
theorem dX9_file_20 : decode cX9_file 20 = .ok (.iconst (-1), 1) := by decide +kernel
theorem dX9_file_21 : decode cX9_file 21 = .ok (.ireturn, 1) := by decide +kernel
theorem dX9_file_22 : decode cX9_file 22 = .ok (.aload_n 0, 1) := by decide +kernel
theorem dX9_file_23 : decode cX9_file 23 = .ok (.getfield 7, 3) := by decide +kernel
theorem dX9_file_26 : decode cX9_file 26 = .ok (.iload_n 1, 1) := by decide +kernel
theorem dX9_file_27 : decode cX9_file 27 = .ok (.iaload, 1) := by decide +kernel
theorem dX9_file_28 : decode cX9_file 28 = .ok (.istore_n 2, 1) := by decide +kernel
theorem dX9_file_29 : decode cX9_file 29 = .ok (.aload_n 0, 1) := by decide +kernel
theorem dX9_file_30 : decode cX9_file 30 = .ok (.getfield 7, 3) := by decide +kernel
theorem dX9_file_33 : decode cX9_file 33 = .ok (.iload_n 1, 1) := by decide +kernel
theorem dX9_file_34 : decode cX9_file 34 = .ok (.dup2, 1) := by decide +kernel
theorem dX9_file_35 : decode cX9_file 35 = .ok (.iaload, 1) := by decide +kernel
theorem dX9_file_36 : decode cX9_file 36 = .ok (.iconst 1, 1) := by decide +kernel
theorem dX9_file_37 : decode cX9_file 37 = .ok (.iadd, 1) := by decide +kernel
theorem dX9_file_38 : decode cX9_file 38 = .ok (.iastore, 1) := by decide +kernel
theorem dX9_file_39 : decode cX9_file 39 = .ok (.aload_n 0, 1) := by decide +kernel
theorem dX9_file_40 : decode cX9_file 40 = .ok (.getfield 19, 3) := by decide +kernel
theorem dX9_file_43 : decode cX9_file 43 = .ok (.bipush 12, 2) := by decide +kernel
theorem dX9_file_45 : decode cX9_file 45 = .ok (.iload_n 1, 1) := by decide +kernel
theorem dX9_file_46 : decode cX9_file 46 = .ok (.imul, 1) := by decide +kernel
theorem dX9_file_47 : decode cX9_file 47 = .ok (.iload_n 2, 1) := by decide +kernel
theorem dX9_file_48 : decode cX9_file 48 = .ok (.iadd, 1) := by decide +kernel
theorem dX9_file_49 : decode cX9_file 49 = .ok (.bipush 120, 2) := by decide +kernel
theorem dX9_file_51 : decode cX9_file 51 = .ok (.iastore, 1) := by decide +kernel
theorem dX9_file_52 : decode cX9_file 52 = .ok (.iload_n 1, 1) := by decide +kernel
theorem dX9_file_53 : decode cX9_file 53 = .ok (.iconst 1, 1) := by decide +kernel
theorem dX9_file_54 : decode cX9_file 54 = .ok (.if_icmp .ne 17, 3) := by decide +kernel
theorem dX9_file_57 : decode cX9_file 57 = .ok (.aload_n 0, 1) := by decide +kernel
theorem dX9_file_58 : decode cX9_file 58 = .ok (.getfield 25, 3) := by decide +kernel
theorem dX9_file_61 : decode cX9_file 61 = .ok (.iload_n 2, 1) := by decide +kernel
theorem dX9_file_62 : decode cX9_file 62 = .ok (.iload_n 2, 1) := by decide +kernel
theorem dX9_file_63 : decode cX9_file 63 = .ok (.iastore, 1) := by decide +kernel
theorem dX9_file_64 : decode cX9_file 64 = .ok (.aload_n 0, 1) := by decide +kernel
theorem dX9_file_65 : decode cX9_file 65 = .ok (.getfield 28, 3) := by decide +kernel
theorem dX9_file_68 : decode cX9_file 68 = .ok (.iload_n 2, 1) := by decide +kernel
theorem dX9_file_69 : decode cX9_file 69 = .ok (.iconst (-1), 1) := by decide +kernel
theorem dX9_file_70 : decode cX9_file 70 = .ok (.iastore, 1) := by decide +kernel
theorem dX9_file_71 : decode cX9_file 71 = .ok (.iload_n 2, 1) := by decide +kernel
theorem dX9_file_72 : decode cX9_file 72 = .ok (.ireturn, 1) := by decide +kernel
theorem dX9_mends_0 : decode cX9_mends 0 = .ok (.aload_n 0, 1) := by decide +kernel
theorem dX9_mends_1 : decode cX9_mends 1 = .ok (.getfield 13, 3) := by decide +kernel
theorem dX9_mends_4 : decode cX9_mends 4 = .ok (.bipush 19, 2) := by decide +kernel
theorem dX9_mends_6 : decode cX9_mends 6 = .ok (.bipush 12, 2) := by decide +kernel
theorem dX9_mends_8 : decode cX9_mends 8 = .ok (.iload_n 1, 1) := by decide +kernel
theorem dX9_mends_9 : decode cX9_mends 9 = .ok (.imul, 1) := by decide +kernel
theorem dX9_mends_10 : decode cX9_mends 10 = .ok (.iload_n 2, 1) := by decide +kernel
theorem dX9_mends_11 : decode cX9_mends 11 = .ok (.iadd, 1) := by decide +kernel
theorem dX9_mends_12 : decode cX9_mends 12 = .ok (.imul, 1) := by decide +kernel
theorem dX9_mends_13 : decode cX9_mends 13 = .ok (.iload_n 3, 1) := by decide +kernel
theorem dX9_mends_14 : decode cX9_mends 14 = .ok (.iadd, 1) := by decide +kernel
theorem dX9_mends_15 : decode cX9_mends 15 = .ok (.iload 4, 2) := by decide +kernel
theorem dX9_mends_17 : decode cX9_mends 17 = .ok (.iastore, 1) := by decide +kernel
theorem dX9_mends_18 : decode cX9_mends 18 = .ok (.iconst 1, 1) := by decide +kernel
theorem dX9_mends_19 : decode cX9_mends 19 = .ok (.ireturn, 1) := by decide +kernel
theorem dX9_sex_0 : decode cX9_sex 0 = .ok (.aload_n 0, 1) := by decide +kernel
theorem dX9_sex_1 : decode cX9_sex 1 = .ok (.iload_n 1, 1) := by decide +kernel
theorem dX9_sex_2 : decode cX9_sex 2 = .ok (.iload_n 2, 1) := by decide +kernel
theorem dX9_sex_3 : decode cX9_sex 3 = .ok (.invokevirtual 68, 3) := by decide +kernel
theorem dX9_sex_6 : decode cX9_sex 6 = .ok (.ifCond .eq 27, 3) := by decide +kernel
theorem dX9_sex_9 : decode cX9_sex 9 = .ok (.iload_n 3, 1) := by decide +kernel
theorem dX9_sex_10 : decode cX9_sex 10 = .ok (.iconst 0, 1) := by decide +kernel
theorem dX9_sex_11 : decode cX9_sex 11 = .ok (.iconst 2, 1) := by decide +kernel
theorem dX9_sex_12 : decode cX9_sex 12 = .ok (.invokestatic 64, 3) := by decide +kernel
theorem dX9_sex_15 : decode cX9_sex 15 = .ok (.ifCond .eq 18, 3) := by decide +kernel
theorem dX9_sex_18 : decode cX9_sex 18 = .ok (.aload_n 0, 1) := by decide +kernel
theorem dX9_sex_19 : decode cX9_sex 19 = .ok (.iload_n 1, 1) := by decide +kernel
theorem dX9_sex_20 : decode cX9_sex 20 = .ok (.iload_n 2, 1) := by decide +kernel
theorem dX9_sex_21 : decode cX9_sex 21 = .ok (.iconst 0, 1) := by decide +kernel
theorem dX9_sex_22 : decode cX9_sex 22 = .ok (.iload_n 3, 1) := by decide +kernel
theorem dX9_sex_23 : decode cX9_sex 23 = .ok (.invokevirtual 72, 3) := by decide +kernel
theorem dX9_sex_26 : decode cX9_sex 26 = .ok (.ifCond .eq 7, 3) := by decide +kernel
theorem dX9_sex_29 : decode cX9_sex 29 = .ok (.iconst 1, 1) := by decide +kernel
theorem dX9_sex_30 : decode cX9_sex 30 = .ok (.goto 4, 3) := by decide +kernel
theorem dX9_sex_33 : decode cX9_sex 33 = .ok (.iconst 0, 1) := by decide +kernel
theorem dX9_sex_34 : decode cX9_sex 34 = .ok (.ireturn, 1) := by decide +kernel
theorem dX9_age_0 : decode cX9_age 0 = .ok (.aload_n 0, 1) := by decide +kernel
theorem dX9_age_1 : decode cX9_age 1 = .ok (.iload_n 1, 1) := by decide +kernel
theorem dX9_age_2 : decode cX9_age 2 = .ok (.iload_n 2, 1) := by decide +kernel
theorem dX9_age_3 : decode cX9_age 3 = .ok (.invokevirtual 68, 3) := by decide +kernel
theorem dX9_age_6 : decode cX9_age 6 = .ok (.ifCond .eq 20, 3) := by decide +kernel
theorem dX9_age_9 : decode cX9_age 9 = .ok (.iload_n 3, 1) := by decide +kernel
theorem dX9_age_10 : decode cX9_age 10 = .ok (.ifCond .lt 16, 3) := by decide +kernel
theorem dX9_age_13 : decode cX9_age 13 = .ok (.iload_n 3, 1) := by decide +kernel
theorem dX9_age_14 : decode cX9_age 14 = .ok (.iload 4, 2) := by decide +kernel
theorem dX9_age_16 : decode cX9_age 16 = .ok (.if_icmp .gt 10, 3) := by decide +kernel
theorem dX9_age_19 : decode cX9_age 19 = .ok (.iload 4, 2) := by decide +kernel
theorem dX9_age_21 : decode cX9_age 21 = .ok (.bipush 120, 2) := by decide +kernel
theorem dX9_age_23 : decode cX9_age 23 = .ok (.if_icmp .le 5, 3) := by decide +kernel
theorem dX9_age_26 : decode cX9_age 26 = .ok (.iconst 0, 1) := by decide +kernel
theorem dX9_age_27 : decode cX9_age 27 = .ok (.ireturn, 1) := by decide +kernel
theorem dX9_age_28 : decode cX9_age 28 = .ok (.aload_n 0, 1) := by decide +kernel
theorem dX9_age_29 : decode cX9_age 29 = .ok (.getfield 16, 3) := by decide +kernel
theorem dX9_age_32 : decode cX9_age 32 = .ok (.bipush 12, 2) := by decide +kernel
theorem dX9_age_34 : decode cX9_age 34 = .ok (.iload_n 1, 1) := by decide +kernel
theorem dX9_age_35 : decode cX9_age 35 = .ok (.imul, 1) := by decide +kernel
theorem dX9_age_36 : decode cX9_age 36 = .ok (.iload_n 2, 1) := by decide +kernel
theorem dX9_age_37 : decode cX9_age 37 = .ok (.iadd, 1) := by decide +kernel
theorem dX9_age_38 : decode cX9_age 38 = .ok (.iload_n 3, 1) := by decide +kernel
theorem dX9_age_39 : decode cX9_age 39 = .ok (.iastore, 1) := by decide +kernel
theorem dX9_age_40 : decode cX9_age 40 = .ok (.aload_n 0, 1) := by decide +kernel
theorem dX9_age_41 : decode cX9_age 41 = .ok (.getfield 19, 3) := by decide +kernel
theorem dX9_age_44 : decode cX9_age 44 = .ok (.bipush 12, 2) := by decide +kernel
theorem dX9_age_46 : decode cX9_age 46 = .ok (.iload_n 1, 1) := by decide +kernel
theorem dX9_age_47 : decode cX9_age 47 = .ok (.imul, 1) := by decide +kernel
theorem dX9_age_48 : decode cX9_age 48 = .ok (.iload_n 2, 1) := by decide +kernel
theorem dX9_age_49 : decode cX9_age 49 = .ok (.iadd, 1) := by decide +kernel
theorem dX9_age_50 : decode cX9_age 50 = .ok (.iload 4, 2) := by decide +kernel
theorem dX9_age_52 : decode cX9_age 52 = .ok (.iastore, 1) := by decide +kernel
theorem dX9_age_53 : decode cX9_age 53 = .ok (.iconst 1, 1) := by decide +kernel
theorem dX9_age_54 : decode cX9_age 54 = .ok (.ireturn, 1) := by decide +kernel
theorem dX9_tooth_0 : decode cX9_tooth 0 = .ok (.aload_n 0, 1) := by decide +kernel
theorem dX9_tooth_1 : decode cX9_tooth 1 = .ok (.iload_n 1, 1) := by decide +kernel
theorem dX9_tooth_2 : decode cX9_tooth 2 = .ok (.iload_n 2, 1) := by decide +kernel
theorem dX9_tooth_3 : decode cX9_tooth 3 = .ok (.invokevirtual 68, 3) := by decide +kernel
theorem dX9_tooth_6 : decode cX9_tooth 6 = .ok (.ifCond .eq 41, 3) := by decide +kernel
theorem dX9_tooth_9 : decode cX9_tooth 9 = .ok (.iload_n 3, 1) := by decide +kernel
theorem dX9_tooth_10 : decode cX9_tooth 10 = .ok (.iconst 0, 1) := by decide +kernel
theorem dX9_tooth_11 : decode cX9_tooth 11 = .ok (.bipush 7, 2) := by decide +kernel
theorem dX9_tooth_13 : decode cX9_tooth 13 = .ok (.invokestatic 64, 3) := by decide +kernel
theorem dX9_tooth_16 : decode cX9_tooth 16 = .ok (.ifCond .eq 31, 3) := by decide +kernel
theorem dX9_tooth_19 : decode cX9_tooth 19 = .ok (.iload 4, 2) := by decide +kernel
