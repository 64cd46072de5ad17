theorem dX0_init_0 : decode cX0_init 0 = .ok (.aload_n 0, 1) := by decide +kernel
theorem dX0_init_1 : decode cX0_init 1 = .ok (.invokespecial 1, 3) := by decide +kernel
theorem dX0_init_4 : decode cX0_init 4 = .ok (.aload_n 0, 1) := by decide +kernel
theorem dX0_init_5 : decode cX0_init 5 = .ok (.bipush 60, 2) := by decide +kernel
theorem dX0_init_7 : decode cX0_init 7 = .ok (.newarray .int, 2) := by decide +kernel
theorem dX0_init_9 : decode cX0_init 9 = .ok (.putfield 9, 3) := by decide +kernel
theorem dX0_init_12 : decode cX0_init 12 = .ok (.aload_n 0, 1) := by decide +kernel
theorem dX0_init_13 : decode cX0_init 13 = .ok (.bipush 60, 2) := by decide +kernel
theorem dX0_init_15 : decode cX0_init 15 = .ok (.newarray .long, 2) := by decide +kernel
theorem dX0_init_17 : decode cX0_init 17 = .ok (.putfield 13, 3) := by decide +kernel
theorem dX0_init_20 : decode cX0_init 20 = .ok (.return_, 1) := by decide +kernel
theorem dX0_clear_0 : decode cX0_clear 0 = .ok (.aload_n 0, 1) := by decide +kernel
theorem dX0_clear_1 : decode cX0_clear 1 = .ok (.iconst 0, 1) := by decide +kernel
theorem dX0_clear_2 : decode cX0_clear 2 = .ok (.putfield 17, 3) := by decide +kernel
theorem dX0_clear_5 : decode cX0_clear 5 = .ok (.aload_n 0, 1) := by decide +kernel
theorem dX0_clear_6 : decode cX0_clear 6 = .ok (.lconst 0, 1) := by decide +kernel
theorem dX0_clear_7 : decode cX0_clear 7 = .ok (.putfield 21, 3) := by decide +kernel
theorem dX0_clear_10 : decode cX0_clear 10 = .ok (.aload_n 0, 1) := by decide +kernel
theorem dX0_clear_11 : decode cX0_clear 11 = .ok (.lconst 0, 1) := by decide +kernel
theorem dX0_clear_12 : decode cX0_clear 12 = .ok (.putfield 25, 3) := by decide +kernel
theorem dX0_clear_15 : decode cX0_clear 15 = .ok (.aload_n 0, 1) := by decide +kernel
theorem dX0_clear_16 : decode cX0_clear 16 = .ok (.iconst 0, 1) := by decide +kernel
theorem dX0_clear_17 : decode cX0_clear 17 = .ok (.putfield 28, 3) := by decide +kernel
theorem dX0_clear_20 : decode cX0_clear 20 = .ok (.return_, 1) := by decide +kernel
theorem dX0_isFull_0 : decode cX0_isFull 0 = .ok (.aload_n 0, 1) := by decide +kernel
theorem dX0_isFull_1 : decode cX0_isFull 1 = .ok (.getfield 17, 3) := by decide +kernel
theorem dX0_isFull_4 : decode cX0_isFull 4 = .ok (.bipush 60, 2) := by decide +kernel
theorem dX0_isFull_6 : decode cX0_isFull 6 = .ok (.if_icmp .lt 7, 3) := by decide +kernel
theorem dX0_isFull_9 : decode cX0_isFull 9 = .ok (.iconst 1, 1) := by decide +kernel
theorem dX0_isFull_10 : decode cX0_isFull 10 = .ok (.goto 4, 3) := by decide +kernel
theorem dX0_isFull_13 : decode cX0_isFull 13 = .ok (.iconst 0, 1) := by decide +kernel
theorem dX0_isFull_14 : decode cX0_isFull 14 = .ok (.ireturn, 1) := by decide +kernel
theorem dX0_has_0 : decode cX0_has 0 = .ok (.iload_n 1, 1) := by decide +kernel
theorem dX0_has_1 : decode cX0_has 1 = .ok (.ifCond .lt 15, 3) := by decide +kernel
theorem dX0_has_4 : decode cX0_has 4 = .ok (.iload_n 1, 1) := by decide +kernel
theorem dX0_has_5 : decode cX0_has 5 = .ok (.aload_n 0, 1) := by decide +kernel
theorem dX0_has_6 : decode cX0_has 6 = .ok (.getfield 17, 3) := by decide +kernel
theorem dX0_has_9 : decode cX0_has 9 = .ok (.if_icmp .ge 7, 3) := by decide +kernel
theorem dX0_has_12 : decode cX0_has 12 = .ok (.iconst 1, 1) := by decide +kernel
theorem dX0_has_13 : decode cX0_has 13 = .ok (.goto 4, 3) := by decide +kernel
theorem dX0_has_16 : decode cX0_has 16 = .ok (.iconst 0, 1) := by decide +kernel
theorem dX0_has_17 : decode cX0_has 17 = .ok (.ireturn, 1) := by decide +kernel
theorem dX0_addPlace_0 : decode cX0_addPlace 0 = .ok (.aload_n 0, 1) := by decide +kernel
theorem dX0_addPlace_1 : decode cX0_addPlace 1 = .ok (.invokevirtual 32, 3) := by decide +kernel
theorem dX0_addPlace_4 : decode cX0_addPlace 4 = .ok (.ifCond .eq 4, 3) := by decide +kernel
theorem dX0_addPlace_7 : decode cX0_addPlace 7 = .ok (.return_, 1) := by decide +kernel
theorem dX0_addPlace_8 : decode cX0_addPlace 8 = .ok (.aload_n 0, 1) := by decide +kernel
theorem dX0_addPlace_9 : decode cX0_addPlace 9 = .ok (.getfield 9, 3) := by decide +kernel
theorem dX0_addPlace_12 : decode cX0_addPlace 12 = .ok (.aload_n 0, 1) := by decide +kernel
theorem dX0_addPlace_13 : decode cX0_addPlace 13 = .ok (.getfield 17, 3) := by decide +kernel
theorem dX0_addPlace_16 : decode cX0_addPlace 16 = .ok (.iload_n 1, 1) := by decide +kernel
theorem dX0_addPlace_17 : decode cX0_addPlace 17 = .ok (.iastore, 1) := by decide +kernel
theorem dX0_addPlace_18 : decode cX0_addPlace 18 = .ok (.aload_n 0, 1) := by decide +kernel
theorem dX0_addPlace_19 : decode cX0_addPlace 19 = .ok (.getfield 13, 3) := by decide +kernel
theorem dX0_addPlace_22 : decode cX0_addPlace 22 = .ok (.aload_n 0, 1) := by decide +kernel
theorem dX0_addPlace_23 : decode cX0_addPlace 23 = .ok (.getfield 17, 3) := by decide +kernel
theorem dX0_addPlace_26 : decode cX0_addPlace 26 = .ok (.lconst 0, 1) := by decide +kernel
theorem dX0_addPlace_27 : decode cX0_addPlace 27 = .ok (.lastore, 1) := by decide +kernel
theorem dX0_addPlace_28 : decode cX0_addPlace 28 = .ok (.aload_n 0, 1) := by decide +kernel
theorem dX0_addPlace_29 : decode cX0_addPlace 29 = .ok (.dup, 1) := by decide +kernel
theorem dX0_addPlace_30 : decode cX0_addPlace 30 = .ok (.getfield 17, 3) := by decide +kernel
theorem dX0_addPlace_33 : decode cX0_addPlace 33 = .ok (.iconst 1, 1) := by decide +kernel
theorem dX0_addPlace_34 : decode cX0_addPlace 34 = .ok (.iadd, 1) := by decide +kernel
theorem dX0_addPlace_35 : decode cX0_addPlace 35 = .ok (.putfield 17, 3) := by decide +kernel
theorem dX0_addPlace_38 : decode cX0_addPlace 38 = .ok (.return_, 1) := by decide +kernel
theorem dX0_connect_0 : decode cX0_connect 0 = .ok (.iconst 0, 1) := by decide +kernel
theorem dX0_connect_1 : decode cX0_connect 1 = .ok (.istore 5, 2) := by decide +kernel
theorem dX0_connect_3 : decode cX0_connect 3 = .ok (.iload 5, 2) := by decide +kernel
theorem dX0_connect_5 : decode cX0_connect 5 = .ok (.aload_n 0, 1) := by decide +kernel
theorem dX0_connect_6 : decode cX0_connect 6 = .ok (.getfield 17, 3) := by decide +kernel
theorem dX0_connect_9 : decode cX0_connect 9 = .ok (.if_icmp .ge 29, 3) := by decide +kernel
theorem dX0_connect_12 : decode cX0_connect 12 = .ok (.lload_n 1, 1) := by decide +kernel
theorem dX0_connect_13 : decode cX0_connect 13 = .ok (.iload 5, 2) := by decide +kernel
theorem dX0_connect_15 : decode cX0_connect 15 = .ok (.invokestatic 36, 3) := by decide +kernel
theorem dX0_connect_18 : decode cX0_connect 18 = .ok (.ifCond .eq 14, 3) := by decide +kernel
theorem dX0_connect_21 : decode cX0_connect 21 = .ok (.aload_n 0, 1) := by decide +kernel
theorem dX0_connect_22 : decode cX0_connect 22 = .ok (.getfield 13, 3) := by decide +kernel
theorem dX0_connect_25 : decode cX0_connect 25 = .ok (.iload 5, 2) := by decide +kernel
theorem dX0_connect_27 : decode cX0_connect 27 = .ok (.dup2, 1) := by decide +kernel
theorem dX0_connect_28 : decode cX0_connect 28 = .ok (.laload, 1) := by decide +kernel
theorem dX0_connect_29 : decode cX0_connect 29 = .ok (.lload_n 3, 1) := by decide +kernel
theorem dX0_connect_30 : decode cX0_connect 30 = .ok (.lor, 1) := by decide +kernel
theorem dX0_connect_31 : decode cX0_connect 31 = .ok (.lastore, 1) := by decide +kernel
theorem dX0_connect_32 : decode cX0_connect 32 = .ok (.iinc 5 1, 3) := by decide +kernel
theorem dX0_connect_35 : decode cX0_connect 35 = .ok (.goto (-32), 3) := by decide +kernel
theorem dX0_connect_38 : decode cX0_connect 38 = .ok (.return_, 1) := by decide +kernel
theorem dX0_nextBehindAny_0 : decode cX0_nextBehindAny 0 = .ok (.lconst 0, 1) := by decide +kernel
theorem dX0_nextBehindAny_1 : decode cX0_nextBehindAny 1 = .ok (.lstore_n 3, 1) := by decide +kernel
theorem dX0_nextBehindAny_2 : decode cX0_nextBehindAny 2 = .ok (.iconst 0, 1) := by decide +kernel
theorem dX0_nextBehindAny_3 : decode cX0_nextBehindAny 3 = .ok (.istore 5, 2) := by decide +kernel
theorem dX0_nextBehindAny_5 : decode cX0_nextBehindAny 5 = .ok (.iload 5, 2) := by decide +kernel
theorem dX0_nextBehindAny_7 : decode cX0_nextBehindAny 7 = .ok (.aload_n 0, 1) := by decide +kernel
theorem dX0_nextBehindAny_8 : decode cX0_nextBehindAny 8 = .ok (.getfield 17, 3) := by decide +kernel
theorem dX0_nextBehindAny_11 : decode cX0_nextBehindAny 11 = .ok (.if_icmp .ge 28, 3) := by decide +kernel
theorem dX0_nextBehindAny_14 : decode cX0_nextBehindAny 14 = .ok (.lload_n 1, 1) := by decide +kernel
theorem dX0_nextBehindAny_15 : decode cX0_nextBehindAny 15 = .ok (.iload 5, 2) := by decide +kernel
theorem dX0_nextBehindAny_17 : decode cX0_nextBehindAny 17 = .ok (.invokestatic 36, 3) := by decide +kernel
theorem dX0_nextBehindAny_20 : decode cX0_nextBehindAny 20 = .ok (.ifCond .eq 13, 3) := by decide +kernel
theorem dX0_nextBehindAny_23 : decode cX0_nextBehindAny 23 = .ok (.lload_n 3, 1) := by decide +kernel
theorem dX0_nextBehindAny_24 : decode cX0_nextBehindAny 24 = .ok (.aload_n 0, 1) := by decide +kernel
theorem dX0_nextBehindAny_25 : decode cX0_nextBehindAny 25 = .ok (.getfield 13, 3) := by decide +kernel
theorem dX0_nextBehindAny_28 : decode cX0_nextBehindAny 28 = .ok (.iload 5, 2) := by decide +kernel
theorem dX0_nextBehindAny_30 : decode cX0_nextBehindAny 30 = .ok (.laload, 1) := by decide +kernel
theorem dX0_nextBehindAny_31 : decode cX0_nextBehindAny 31 = .ok (.lor, 1) := by decide +kernel
theorem dX0_nextBehindAny_32 : decode cX0_nextBehindAny 32 = .ok (.lstore_n 3, 1) := by decide +kernel
theorem dX0_nextBehindAny_33 : decode cX0_nextBehindAny 33 = .ok (.iinc 5 1, 3) := by decide +kernel
theorem dX0_nextBehindAny_36 : decode cX0_nextBehindAny 36 = .ok (.goto (-31), 3) := by decide +kernel
theorem dX0_nextBehindAny_39 : decode cX0_nextBehindAny 39 = .ok (.lload_n 3, 1) := by decide +kernel
theorem dX0_nextBehindAny_40 : decode cX0_nextBehindAny 40 = .ok (.lreturn, 1) := by decide +kernel
theorem dX0_placesNamed_0 : decode cX0_placesNamed 0 = .ok (.lconst 0, 1) := by decide +kernel
theorem dX0_placesNamed_1 : decode cX0_placesNamed 1 = .ok (.lstore 4, 2) := by decide +kernel
theorem dX0_placesNamed_3 : decode cX0_placesNamed 3 = .ok (.iconst 0, 1) := by decide +kernel
theorem dX0_placesNamed_4 : decode cX0_placesNamed 4 = .ok (.istore 6, 2) := by decide +kernel
theorem dX0_placesNamed_6 : decode cX0_placesNamed 6 = .ok (.iload 6, 2) := by decide +kernel
theorem dX0_placesNamed_8 : decode cX0_placesNamed 8 = .ok (.aload_n 0, 1) := by decide +kernel
theorem dX0_placesNamed_9 : decode cX0_placesNamed 9 = .ok (.getfield 17, 3) := by decide +kernel
theorem dX0_placesNamed_12 : decode cX0_placesNamed 12 = .ok (.if_icmp .ge 38, 3) := by decide +kernel
theorem dX0_placesNamed_15 : decode cX0_placesNamed 15 = .ok (.aload_n 0, 1) := by decide +kernel
theorem dX0_placesNamed_16 : decode cX0_placesNamed 16 = .ok (.getfield 9, 3) := by decide +kernel
theorem dX0_placesNamed_19 : decode cX0_placesNamed 19 = .ok (.iload 6, 2) := by decide +kernel
theorem dX0_placesNamed_21 : decode cX0_placesNamed 21 = .ok (.iaload, 1) := by decide +kernel
theorem dX0_placesNamed_22 : decode cX0_placesNamed 22 = .ok (.iload_n 1, 1) := by decide +kernel
theorem dX0_placesNamed_23 : decode cX0_placesNamed 23 = .ok (.if_icmp .ne 21, 3) := by decide +kernel
theorem dX0_placesNamed_26 : decode cX0_placesNamed 26 = .ok (.lload_n 2, 1) := by decide +kernel
theorem dX0_placesNamed_27 : decode cX0_placesNamed 27 = .ok (.iload 6, 2) := by decide +kernel
theorem dX0_placesNamed_29 : decode cX0_placesNamed 29 = .ok (.invokestatic 36, 3) := by decide +kernel
theorem dX0_placesNamed_32 : decode cX0_placesNamed 32 = .ok (.ifCond .eq 12, 3) := by decide +kernel
theorem dX0_placesNamed_35 : decode cX0_placesNamed 35 = .ok (.lload 4, 2) := by decide +kernel
theorem dX0_placesNamed_37 : decode cX0_placesNamed 37 = .ok (.lconst 1, 1) := by decide +kernel
theorem dX0_placesNamed_38 : decode cX0_placesNamed 38 = .ok (.iload 6, 2) := by decide +kernel
theorem dX0_placesNamed_40 : decode cX0_placesNamed 40 = .ok (.lshl, 1) := by decide +kernel
theorem dX0_placesNamed_41 : decode cX0_placesNamed 41 = .ok (.lor, 1) := by decide +kernel
theorem dX0_placesNamed_42 : decode cX0_placesNamed 42 = .ok (.lstore 4, 2) := by decide +kernel
theorem dX0_placesNamed_44 : decode cX0_placesNamed 44 = .ok (.iinc 6 1, 3) := by decide +kernel
theorem dX0_placesNamed_47 : decode cX0_placesNamed 47 = .ok (.goto (-41), 3) := by decide +kernel
theorem dX0_placesNamed_50 : decode cX0_placesNamed 50 = .ok (.lload 4, 2) := by decide +kernel
theorem dX0_placesNamed_52 : decode cX0_placesNamed 52 = .ok (.lreturn, 1) := by decide +kernel
theorem dX0_namesOf_0 : decode cX0_namesOf 0 = .ok (.iconst 0, 1) := by decide +kernel
theorem dX0_namesOf_1 : decode cX0_namesOf 1 = .ok (.istore_n 3, 1) := by decide +kernel
theorem dX0_namesOf_2 : decode cX0_namesOf 2 = .ok (.iconst 0, 1) := by decide +kernel
theorem dX0_namesOf_3 : decode cX0_namesOf 3 = .ok (.istore 4, 2) := by decide +kernel
theorem dX0_namesOf_5 : decode cX0_namesOf 5 = .ok (.iload 4, 2) := by decide +kernel
theorem dX0_namesOf_7 : decode cX0_namesOf 7 = .ok (.aload_n 0, 1) := by decide +kernel
theorem dX0_namesOf_8 : decode cX0_namesOf 8 = .ok (.getfield 17, 3) := by decide +kernel
theorem dX0_namesOf_11 : decode cX0_namesOf 11 = .ok (.if_icmp .ge 30, 3) := by decide +kernel
theorem dX0_namesOf_14 : decode cX0_namesOf 14 = .ok (.lload_n 1, 1) := by decide +kernel
theorem dX0_namesOf_15 : decode cX0_namesOf 15 = .ok (.iload 4, 2) := by decide +kernel
theorem dX0_namesOf_17 : decode cX0_namesOf 17 = .ok (.invokestatic 36, 3) := by decide +kernel
theorem dX0_namesOf_20 : decode cX0_namesOf 20 = .ok (.ifCond .eq 15, 3) := by decide +kernel
theorem dX0_namesOf_23 : decode cX0_namesOf 23 = .ok (.iload_n 3, 1) := by decide +kernel
theorem dX0_namesOf_24 : decode cX0_namesOf 24 = .ok (.iconst 1, 1) := by decide +kernel
theorem dX0_namesOf_25 : decode cX0_namesOf 25 = .ok (.aload_n 0, 1) := by decide +kernel
theorem dX0_namesOf_26 : decode cX0_namesOf 26 = .ok (.getfield 9, 3) := by decide +kernel
theorem dX0_namesOf_29 : decode cX0_namesOf 29 = .ok (.iload 4, 2) := by decide +kernel
theorem dX0_namesOf_31 : decode cX0_namesOf 31 = .ok (.iaload, 1) := by decide +kernel
theorem dX0_namesOf_32 : decode cX0_namesOf 32 = .ok (.ishl, 1) := by decide +kernel
theorem dX0_namesOf_33 : decode cX0_namesOf 33 = .ok (.ior, 1) := by decide +kernel
theorem dX0_namesOf_34 : decode cX0_namesOf 34 = .ok (.istore_n 3, 1) := by decide +kernel
theorem dX0_namesOf_35 : decode cX0_namesOf 35 = .ok (.iinc 4 1, 3) := by decide +kernel
theorem dX0_namesOf_38 : decode cX0_namesOf 38 = .ok (.goto (-33), 3) := by decide +kernel
theorem dX0_namesOf_41 : decode cX0_namesOf 41 = .ok (.iload_n 3, 1) := by decide +kernel
theorem dX0_namesOf_42 : decode cX0_namesOf 42 = .ok (.ireturn, 1) := by decide +kernel
theorem dX0_competingNames_0 : decode cX0_competingNames 0 = .ok (.aload_n 0, 1) := by decide +kernel
theorem dX0_competingNames_1 : decode cX0_competingNames 1 = .ok (.aload_n 0, 1) := by decide +kernel
theorem dX0_competingNames_2 : decode cX0_competingNames 2 = .ok (.getfield 21, 3) := by decide +kernel
theorem dX0_competingNames_5 : decode cX0_competingNames 5 = .ok (.invokevirtual 40, 3) := by decide +kernel
theorem dX0_competingNames_8 : decode cX0_competingNames 8 = .ok (.istore_n 1, 1) := by decide +kernel
theorem dX0_competingNames_9 : decode cX0_competingNames 9 = .ok (.iconst 0, 1) := by decide +kernel
theorem dX0_competingNames_10 : decode cX0_competingNames 10 = .ok (.istore_n 2, 1) := by decide +kernel
theorem dX0_competingNames_11 : decode cX0_competingNames 11 = .ok (.iload_n 2, 1) := by decide +kernel
theorem dX0_competingNames_12 : decode cX0_competingNames 12 = .ok (.aload_n 0, 1) := by decide +kernel
theorem dX0_competingNames_13 : decode cX0_competingNames 13 = .ok (.getfield 17, 3) := by decide +kernel
theorem dX0_competingNames_16 : decode cX0_competingNames 16 = .ok (.if_icmp .ge 22, 3) := by decide +kernel
theorem dX0_competingNames_19 : decode cX0_competingNames 19 = .ok (.iload_n 1, 1) := by decide +kernel
theorem dX0_competingNames_20 : decode cX0_competingNames 20 = .ok (.aload_n 0, 1) := by decide +kernel
theorem dX0_competingNames_21 : decode cX0_competingNames 21 = .ok (.aload_n 0, 1) := by decide +kernel
theorem dX0_competingNames_22 : decode cX0_competingNames 22 = .ok (.getfield 13, 3) := by decide +kernel
theorem dX0_competingNames_25 : decode cX0_competingNames 25 = .ok (.iload_n 2, 1) := by decide +kernel
theorem dX0_competingNames_26 : decode cX0_competingNames 26 = .ok (.laload, 1) := by decide +kernel
theorem dX0_competingNames_27 : decode cX0_competingNames 27 = .ok (.invokevirtual 40, 3) := by decide +kernel
theorem dX0_competingNames_30 : decode cX0_competingNames 30 = .ok (.ior, 1) := by decide +kernel
theorem dX0_competingNames_31 : decode cX0_competingNames 31 = .ok (.istore_n 1, 1) := by decide +kernel
theorem dX0_competingNames_32 : decode cX0_competingNames 32 = .ok (.iinc 2 1, 3) := by decide +kernel
theorem dX0_competingNames_35 : decode cX0_competingNames 35 = .ok (.goto (-24), 3) := by decide +kernel
theorem dX0_competingNames_38 : decode cX0_competingNames 38 = .ok (.iload_n 1, 1) := by decide +kernel
theorem dX0_competingNames_39 : decode cX0_competingNames 39 = .ok (.ireturn, 1) := by decide +kernel
theorem dX0_namesTwiceIn_0 : decode cX0_namesTwiceIn 0 = .ok (.iconst 0, 1) := by decide +kernel
theorem dX0_namesTwiceIn_1 : decode cX0_namesTwiceIn 1 = .ok (.istore_n 3, 1) := by decide +kernel
theorem dX0_namesTwiceIn_2 : decode cX0_namesTwiceIn 2 = .ok (.iconst 0, 1) := by decide +kernel
theorem dX0_namesTwiceIn_3 : decode cX0_namesTwiceIn 3 = .ok (.istore 4, 2) := by decide +kernel
theorem dX0_namesTwiceIn_5 : decode cX0_namesTwiceIn 5 = .ok (.iconst 0, 1) := by decide +kernel
theorem dX0_namesTwiceIn_6 : decode cX0_namesTwiceIn 6 = .ok (.istore 5, 2) := by decide +kernel
theorem dX0_namesTwiceIn_8 : decode cX0_namesTwiceIn 8 = .ok (.iload 5, 2) := by decide +kernel
theorem dX0_namesTwiceIn_10 : decode cX0_namesTwiceIn 10 = .ok (.aload_n 0, 1) := by decide +kernel
theorem dX0_namesTwiceIn_11 : decode cX0_namesTwiceIn 11 = .ok (.getfield 17, 3) := by decide +kernel
theorem dX0_namesTwiceIn_14 : decode cX0_namesTwiceIn 14 = .ok (.if_icmp .ge 43, 3) := by decide +kernel
theorem dX0_namesTwiceIn_17 : decode cX0_namesTwiceIn 17 = .ok (.lload_n 1, 1) := by decide +kernel
theorem dX0_namesTwiceIn_18 : decode cX0_namesTwiceIn 18 = .ok (.iload 5, 2) := by decide +kernel
theorem dX0_namesTwiceIn_20 : decode cX0_namesTwiceIn 20 = .ok (.invokestatic 36, 3) := by decide +kernel
theorem dX0_namesTwiceIn_23 : decode cX0_namesTwiceIn 23 = .ok (.ifCond .eq 28, 3) := by decide +kernel
theorem dX0_namesTwiceIn_26 : decode cX0_namesTwiceIn 26 = .ok (.iconst 1, 1) := by decide +kernel
theorem dX0_namesTwiceIn_27 : decode cX0_namesTwiceIn 27 = .ok (.aload_n 0, 1) := by decide +kernel
theorem dX0_namesTwiceIn_28 : decode cX0_namesTwiceIn 28 = .ok (.getfield 9, 3) := by decide +kernel
theorem dX0_namesTwiceIn_31 : decode cX0_namesTwiceIn 31 = .ok (.iload 5, 2) := by decide +kernel
theorem dX0_namesTwiceIn_33 : decode cX0_namesTwiceIn 33 = .ok (.iaload, 1) := by decide +kernel
theorem dX0_namesTwiceIn_34 : decode cX0_namesTwiceIn 34 = .ok (.ishl, 1) := by decide +kernel
theorem dX0_namesTwiceIn_35 : decode cX0_namesTwiceIn 35 = .ok (.istore 6, 2) := by decide +kernel
theorem dX0_namesTwiceIn_37 : decode cX0_namesTwiceIn 37 = .ok (.iload 4, 2) := by decide +kernel
theorem dX0_namesTwiceIn_39 : decode cX0_namesTwiceIn 39 = .ok (.iload_n 3, 1) := by decide +kernel
theorem dX0_namesTwiceIn_40 : decode cX0_namesTwiceIn 40 = .ok (.iload 6, 2) := by decide +kernel
theorem dX0_namesTwiceIn_42 : decode cX0_namesTwiceIn 42 = .ok (.iand, 1) := by decide +kernel
theorem dX0_namesTwiceIn_43 : decode cX0_namesTwiceIn 43 = .ok (.ior, 1) := by decide +kernel
theorem dX0_namesTwiceIn_44 : decode cX0_namesTwiceIn 44 = .ok (.istore 4, 2) := by decide +kernel
theorem dX0_namesTwiceIn_46 : decode cX0_namesTwiceIn 46 = .ok (.iload_n 3, 1) := by decide +kernel
theorem dX0_namesTwiceIn_47 : decode cX0_namesTwiceIn 47 = .ok (.iload 6, 2) := by decide +kernel
theorem dX0_namesTwiceIn_49 : decode cX0_namesTwiceIn 49 = .ok (.ior, 1) := by decide +kernel
theorem dX0_namesTwiceIn_50 : decode cX0_namesTwiceIn 50 = .ok (.istore_n 3, 1) := by decide +kernel
theorem dX0_namesTwiceIn_51 : decode cX0_namesTwiceIn 51 = .ok (.iinc 5 1, 3) := by decide +kernel
theorem dX0_namesTwiceIn_54 : decode cX0_namesTwiceIn 54 = .ok (.goto (-46), 3) := by decide +kernel
theorem dX0_namesTwiceIn_57 : decode cX0_namesTwiceIn 57 = .ok (.iload 4, 2) := by decide +kernel
theorem dX0_namesTwiceIn_59 : decode cX0_namesTwiceIn 59 = .ok (.ireturn, 1) := by decide +kernel
theorem dX0_holds_0 : decode cX0_holds 0 = .ok (.lload_n 0, 1) := by decide +kernel
theorem dX0_holds_1 : decode cX0_holds 1 = .ok (.iload_n 2, 1) := by decide +kernel
theorem dX0_holds_2 : decode cX0_holds 2 = .ok (.lushr, 1) := by decide +kernel
theorem dX0_holds_3 : decode cX0_holds 3 = .ok (.lconst 1, 1) := by decide +kernel
theorem dX0_holds_4 : decode cX0_holds 4 = .ok (.land, 1) := by decide +kernel
theorem dX0_holds_5 : decode cX0_holds 5 = .ok (.lconst 0, 1) := by decide +kernel
theorem dX0_holds_6 : decode cX0_holds 6 = .ok (.lcmp, 1) := by decide +kernel
theorem dX0_holds_7 : decode cX0_holds 7 = .ok (.ifCond .eq 7, 3) := by decide +kernel
theorem dX0_holds_10 : decode cX0_holds 10 = .ok (.iconst 1, 1) := by decide +kernel
theorem dX0_holds_11 : decode cX0_holds 11 = .ok (.goto 4, 3) := by decide +kernel
theorem dX0_holds_14 : decode cX0_holds 14 = .ok (.iconst 0, 1) := by decide +kernel
theorem dX0_holds_15 : decode cX0_holds 15 = .ok (.ireturn, 1) := by decide +kernel
theorem dX1_init_0 : decode cX1_init 0 = .ok (.aload_n 0, 1) := by decide +kernel
theorem dX1_init_1 : decode cX1_init 1 = .ok (.invokespecial 1, 3) := by decide +kernel
theorem dX1_init_4 : decode cX1_init 4 = .ok (.aload_n 0, 1) := by decide +kernel
theorem dX1_init_5 : decode cX1_init 5 = .ok (.new 7, 3) := by decide +kernel
theorem dX1_init_8 : decode cX1_init 8 = .ok (.dup, 1) := by decide +kernel
theorem dX1_init_9 : decode cX1_init 9 = .ok (.invokespecial 9, 3) := by decide +kernel
theorem dX1_init_12 : decode cX1_init 12 = .ok (.putfield 10, 3) := by decide +kernel
theorem dX1_init_15 : decode cX1_init 15 = .ok (.aload_n 0, 1) := by decide +kernel
theorem dX1_init_16 : decode cX1_init 16 = .ok (.bipush 12, 2) := by decide +kernel
theorem dX1_init_18 : decode cX1_init 18 = .ok (.newarray .long, 2) := by decide +kernel
theorem dX1_init_20 : decode cX1_init 20 = .ok (.putfield 16, 3) := by decide +kernel
theorem dX1_init_23 : decode cX1_init 23 = .ok (.aload_n 0, 1) := by decide +kernel
theorem dX1_init_24 : decode cX1_init 24 = .ok (.bipush 12, 2) := by decide +kernel
theorem dX1_init_26 : decode cX1_init 26 = .ok (.newarray .long, 2) := by decide +kernel
theorem dX1_init_28 : decode cX1_init 28 = .ok (.putfield 20, 3) := by decide +kernel
theorem dX1_init_31 : decode cX1_init 31 = .ok (.aload_n 0, 1) := by decide +kernel
theorem dX1_init_32 : decode cX1_init 32 = .ok (.bipush 12, 2) := by decide +kernel
theorem dX1_init_34 : decode cX1_init 34 = .ok (.newarray .boolean, 2) := by decide +kernel
theorem dX1_init_36 : decode cX1_init 36 = .ok (.putfield 23, 3) := by decide +kernel
theorem dX1_init_39 : decode cX1_init 39 = .ok (.aload_n 0, 1) := by decide +kernel
theorem dX1_init_40 : decode cX1_init 40 = .ok (.bipush 12, 2) := by decide +kernel
theorem dX1_init_42 : decode cX1_init 42 = .ok (.newarray .int, 2) := by decide +kernel
theorem dX1_init_44 : decode cX1_init 44 = .ok (.putfield 27, 3) := by decide +kernel
theorem dX1_init_47 : decode cX1_init 47 = .ok (.return_, 1) := by decide +kernel
theorem dX1_begin_0 : decode cX1_begin 0 = .ok (.aload_n 0, 1) := by decide +kernel
theorem dX1_begin_1 : decode cX1_begin 1 = .ok (.getfield 10, 3) := by decide +kernel
theorem dX1_begin_4 : decode cX1_begin 4 = .ok (.invokevirtual 31, 3) := by decide +kernel
theorem dX1_begin_7 : decode cX1_begin 7 = .ok (.aload_n 0, 1) := by decide +kernel
theorem dX1_begin_8 : decode cX1_begin 8 = .ok (.iconst 0, 1) := by decide +kernel
theorem dX1_begin_9 : decode cX1_begin 9 = .ok (.putfield 34, 3) := by decide +kernel
theorem dX1_begin_12 : decode cX1_begin 12 = .ok (.aload_n 0, 1) := by decide +kernel
theorem dX1_begin_13 : decode cX1_begin 13 = .ok (.iconst 0, 1) := by decide +kernel
theorem dX1_begin_14 : decode cX1_begin 14 = .ok (.putfield 38, 3) := by decide +kernel
theorem dX1_begin_17 : decode cX1_begin 17 = .ok (.return_, 1) := by decide +kernel
theorem dX1_take_0 : decode cX1_take 0 = .ok (.aload_n 0, 1) := by decide +kernel
theorem dX1_take_1 : decode cX1_take 1 = .ok (.getfield 38, 3) := by decide +kernel
theorem dX1_take_4 : decode cX1_take 4 = .ok (.ifCond .ne 18, 3) := by decide +kernel
theorem dX1_take_7 : decode cX1_take 7 = .ok (.iload_n 1, 1) := by decide +kernel
theorem dX1_take_8 : decode cX1_take 8 = .ok (.bipush 40, 2) := by decide +kernel
theorem dX1_take_10 : decode cX1_take 10 = .ok (.if_icmp .ne 10, 3) := by decide +kernel
theorem dX1_take_13 : decode cX1_take 13 = .ok (.aload_n 0, 1) := by decide +kernel
theorem dX1_take_14 : decode cX1_take 14 = .ok (.invokevirtual 41, 3) := by decide +kernel
theorem dX1_take_17 : decode cX1_take 17 = .ok (.goto 4, 3) := by decide +kernel
theorem dX1_take_20 : decode cX1_take 20 = .ok (.iconst 1, 1) := by decide +kernel
theorem dX1_take_21 : decode cX1_take 21 = .ok (.ireturn, 1) := by decide +kernel
theorem dX1_take_22 : decode cX1_take 22 = .ok (.aload_n 0, 1) := by decide +kernel
theorem dX1_take_23 : decode cX1_take 23 = .ok (.getfield 38, 3) := by decide +kernel
theorem dX1_take_26 : decode cX1_take 26 = .ok (.iconst 1, 1) := by decide +kernel
theorem dX1_take_27 : decode cX1_take 27 = .ok (.if_icmp .ne 9, 3) := by decide +kernel
theorem dX1_take_30 : decode cX1_take 30 = .ok (.aload_n 0, 1) := by decide +kernel
theorem dX1_take_31 : decode cX1_take 31 = .ok (.iload_n 1, 1) := by decide +kernel
theorem dX1_take_32 : decode cX1_take 32 = .ok (.invokevirtual 45, 3) := by decide +kernel
theorem dX1_take_35 : decode cX1_take 35 = .ok (.ireturn, 1) := by decide +kernel
theorem dX1_take_36 : decode cX1_take 36 = .ok (.iload_n 1, 1) := by decide +kernel
theorem dX1_take_37 : decode cX1_take 37 = .ok (.invokestatic 49, 3) := by decide +kernel
theorem dX1_take_40 : decode cX1_take 40 = .ok (.ifCond .eq 9, 3) := by decide +kernel
theorem dX1_take_43 : decode cX1_take 43 = .ok (.aload_n 0, 1) := by decide +kernel
theorem dX1_take_44 : decode cX1_take 44 = .ok (.iload_n 1, 1) := by decide +kernel
theorem dX1_take_45 : decode cX1_take 45 = .ok (.invokevirtual 53, 3) := by decide +kernel
theorem dX1_take_48 : decode cX1_take 48 = .ok (.ireturn, 1) := by decide +kernel
theorem dX1_take_49 : decode cX1_take 49 = .ok (.aload_n 0, 1) := by decide +kernel
theorem dX1_take_50 : decode cX1_take 50 = .ok (.getfield 34, 3) := by decide +kernel
theorem dX1_take_53 : decode cX1_take 53 = .ok (.ifCond .ne 5, 3) := by decide +kernel
theorem dX1_take_56 : decode cX1_take 56 = .ok (.iconst 1, 1) := by decide +kernel
theorem dX1_take_57 : decode cX1_take 57 = .ok (.ireturn, 1) := by decide +kernel
theorem dX1_take_58 : decode cX1_take 58 = .ok (.iload_n 1, 1) := by decide +kernel
theorem dX1_take_59 : decode cX1_take 59 = .ok (.bipush 32, 2) := by decide +kernel
theorem dX1_take_61 : decode cX1_take 61 = .ok (.if_icmp .ne 10, 3) := by decide +kernel
theorem dX1_take_64 : decode cX1_take 64 = .ok (.aload_n 0, 1) := by decide +kernel
theorem dX1_take_65 : decode cX1_take 65 = .ok (.iconst 3, 1) := by decide +kernel
theorem dX1_take_66 : decode cX1_take 66 = .ok (.putfield 38, 3) := by decide +kernel
theorem dX1_take_69 : decode cX1_take 69 = .ok (.iconst 0, 1) := by decide +kernel
theorem dX1_take_70 : decode cX1_take 70 = .ok (.ireturn, 1) := by decide +kernel
theorem dX1_take_71 : decode cX1_take 71 = .ok (.iload_n 1, 1) := by decide +kernel
theorem dX1_take_72 : decode cX1_take 72 = .ok (.bipush 41, 2) := by decide +kernel
theorem dX1_take_74 : decode cX1_take 74 = .ok (.if_icmp .ne 8, 3) := by decide +kernel
theorem dX1_take_77 : decode cX1_take 77 = .ok (.aload_n 0, 1) := by decide +kernel
theorem dX1_take_78 : decode cX1_take 78 = .ok (.invokevirtual 56, 3) := by decide +kernel
theorem dX1_take_81 : decode cX1_take 81 = .ok (.ireturn, 1) := by decide +kernel
theorem dX1_take_82 : decode cX1_take 82 = .ok (.iload_n 1, 1) := by decide +kernel
theorem dX1_take_83 : decode cX1_take 83 = .ok (.bipush 124, 2) := by decide +kernel
theorem dX1_take_85 : decode cX1_take 85 = .ok (.if_icmp .eq 9, 3) := by decide +kernel
theorem dX1_take_88 : decode cX1_take 88 = .ok (.iload_n 1, 1) := by decide +kernel
theorem dX1_take_89 : decode cX1_take 89 = .ok (.bipush 44, 2) := by decide +kernel
theorem dX1_take_91 : decode cX1_take 91 = .ok (.if_icmp .ne 11, 3) := by decide +kernel
theorem dX1_take_94 : decode cX1_take 94 = .ok (.aload_n 0, 1) := by decide +kernel
theorem dX1_take_95 : decode cX1_take 95 = .ok (.iload_n 1, 1) := by decide +kernel
theorem dX1_take_96 : decode cX1_take 96 = .ok (.invokevirtual 59, 3) := by decide +kernel
theorem dX1_take_99 : decode cX1_take 99 = .ok (.goto 4, 3) := by decide +kernel
theorem dX1_take_102 : decode cX1_take 102 = .ok (.iconst 1, 1) := by decide +kernel
theorem dX1_take_103 : decode cX1_take 103 = .ok (.ireturn, 1) := by decide +kernel
theorem dX1_finish_0 : decode cX1_finish 0 = .ok (.aload_n 0, 1) := by decide +kernel
theorem dX1_finish_1 : decode cX1_finish 1 = .ok (.getfield 34, 3) := by decide +kernel
theorem dX1_finish_4 : decode cX1_finish 4 = .ok (.ifCond .gt 10, 3) := by decide +kernel
theorem dX1_finish_7 : decode cX1_finish 7 = .ok (.aload_n 0, 1) := by decide +kernel
theorem dX1_finish_8 : decode cX1_finish 8 = .ok (.getfield 38, 3) := by decide +kernel
theorem dX1_finish_11 : decode cX1_finish 11 = .ok (.ifCond .ne 5, 3) := by decide +kernel
theorem dX1_finish_14 : decode cX1_finish 14 = .ok (.iconst 0, 1) := by decide +kernel
theorem dX1_finish_15 : decode cX1_finish 15 = .ok (.ireturn, 1) := by decide +kernel
theorem dX1_finish_16 : decode cX1_finish 16 = .ok (.aload_n 0, 1) := by decide +kernel
theorem dX1_finish_17 : decode cX1_finish 17 = .ok (.getfield 10, 3) := by decide +kernel
theorem dX1_finish_20 : decode cX1_finish 20 = .ok (.aload_n 0, 1) := by decide +kernel
theorem dX1_finish_21 : decode cX1_finish 21 = .ok (.getfield 62, 3) := by decide +kernel
theorem dX1_finish_24 : decode cX1_finish 24 = .ok (.putfield 66, 3) := by decide +kernel
theorem dX1_finish_27 : decode cX1_finish 27 = .ok (.aload_n 0, 1) := by decide +kernel
theorem dX1_finish_28 : decode cX1_finish 28 = .ok (.getfield 10, 3) := by decide +kernel
theorem dX1_finish_31 : decode cX1_finish 31 = .ok (.aload_n 0, 1) := by decide +kernel
theorem dX1_finish_32 : decode cX1_finish 32 = .ok (.getfield 69, 3) := by decide +kernel
theorem dX1_finish_35 : decode cX1_finish 35 = .ok (.putfield 72, 3) := by decide +kernel
theorem dX1_finish_38 : decode cX1_finish 38 = .ok (.aload_n 0, 1) := by decide +kernel
theorem dX1_finish_39 : decode cX1_finish 39 = .ok (.getfield 10, 3) := by decide +kernel
theorem dX1_finish_42 : decode cX1_finish 42 = .ok (.aload_n 0, 1) := by decide +kernel
theorem dX1_finish_43 : decode cX1_finish 43 = .ok (.getfield 75, 3) := by decide +kernel
theorem dX1_finish_46 : decode cX1_finish 46 = .ok (.putfield 79, 3) := by decide +kernel
theorem dX1_finish_49 : decode cX1_finish 49 = .ok (.iconst 1, 1) := by decide +kernel
theorem dX1_finish_50 : decode cX1_finish 50 = .ok (.ireturn, 1) := by decide +kernel
theorem dX1_takeBeforePart_0 : decode cX1_takeBeforePart 0 = .ok (.iload_n 1, 1) := by decide +kernel
theorem dX1_takeBeforePart_1 : decode cX1_takeBeforePart 1 = .ok (.bipush 32, 2) := by decide +kernel
theorem dX1_takeBeforePart_3 : decode cX1_takeBeforePart 3 = .ok (.if_icmp .ne 5, 3) := by decide +kernel
theorem dX1_takeBeforePart_6 : decode cX1_takeBeforePart 6 = .ok (.iconst 0, 1) := by decide +kernel
theorem dX1_takeBeforePart_7 : decode cX1_takeBeforePart 7 = .ok (.ireturn, 1) := by decide +kernel
theorem dX1_takeBeforePart_8 : decode cX1_takeBeforePart 8 = .ok (.iload_n 1, 1) := by decide +kernel
theorem dX1_takeBeforePart_9 : decode cX1_takeBeforePart 9 = .ok (.bipush 40, 2) := by decide +kernel
theorem dX1_takeBeforePart_11 : decode cX1_takeBeforePart 11 = .ok (.if_icmp .ne 8, 3) := by decide +kernel
theorem dX1_takeBeforePart_14 : decode cX1_takeBeforePart 14 = .ok (.aload_n 0, 1) := by decide +kernel
theorem dX1_takeBeforePart_15 : decode cX1_takeBeforePart 15 = .ok (.invokevirtual 41, 3) := by decide +kernel
theorem dX1_takeBeforePart_18 : decode cX1_takeBeforePart 18 = .ok (.ireturn, 1) := by decide +kernel
theorem dX1_takeBeforePart_19 : decode cX1_takeBeforePart 19 = .ok (.iload_n 1, 1) := by decide +kernel
theorem dX1_takeBeforePart_20 : decode cX1_takeBeforePart 20 = .ok (.bipush 97, 2) := by decide +kernel
theorem dX1_takeBeforePart_22 : decode cX1_takeBeforePart 22 = .ok (.if_icmp .lt 20, 3) := by decide +kernel
theorem dX1_takeBeforePart_25 : decode cX1_takeBeforePart 25 = .ok (.iload_n 1, 1) := by decide +kernel
theorem dX1_takeBeforePart_26 : decode cX1_takeBeforePart 26 = .ok (.bipush 122, 2) := by decide +kernel
theorem dX1_takeBeforePart_28 : decode cX1_takeBeforePart 28 = .ok (.if_icmp .gt 14, 3) := by decide +kernel
theorem dX1_takeBeforePart_31 : decode cX1_takeBeforePart 31 = .ok (.aload_n 0, 1) := by decide +kernel
theorem dX1_takeBeforePart_32 : decode cX1_takeBeforePart 32 = .ok (.iload_n 1, 1) := by decide +kernel
theorem dX1_takeBeforePart_33 : decode cX1_takeBeforePart 33 = .ok (.bipush 97, 2) := by decide +kernel
theorem dX1_takeBeforePart_35 : decode cX1_takeBeforePart 35 = .ok (.isub, 1) := by decide +kernel
theorem dX1_takeBeforePart_36 : decode cX1_takeBeforePart 36 = .ok (.invokevirtual 82, 3) := by decide +kernel
theorem dX1_takeBeforePart_39 : decode cX1_takeBeforePart 39 = .ok (.goto 4, 3) := by decide +kernel
theorem dX1_takeBeforePart_42 : decode cX1_takeBeforePart 42 = .ok (.iconst 1, 1) := by decide +kernel
theorem dX1_takeBeforePart_43 : decode cX1_takeBeforePart 43 = .ok (.ireturn, 1) := by decide +kernel
theorem dX1_open_0 : decode cX1_open 0 = .ok (.aload_n 0, 1) := by decide +kernel
theorem dX1_open_1 : decode cX1_open 1 = .ok (.getfield 34, 3) := by decide +kernel
theorem dX1_open_4 : decode cX1_open 4 = .ok (.bipush 12, 2) := by decide +kernel
theorem dX1_open_6 : decode cX1_open 6 = .ok (.if_icmp .lt 5, 3) := by decide +kernel
theorem dX1_open_9 : decode cX1_open 9 = .ok (.iconst 2, 1) := by decide +kernel
theorem dX1_open_10 : decode cX1_open 10 = .ok (.ireturn, 1) := by decide +kernel
theorem dX1_open_11 : decode cX1_open 11 = .ok (.aload_n 0, 1) := by decide +kernel
theorem dX1_open_12 : decode cX1_open 12 = .ok (.getfield 27, 3) := by decide +kernel
theorem dX1_open_15 : decode cX1_open 15 = .ok (.aload_n 0, 1) := by decide +kernel
theorem dX1_open_16 : decode cX1_open 16 = .ok (.getfield 34, 3) := by decide +kernel
theorem dX1_open_19 : decode cX1_open 19 = .ok (.iconst 0, 1) := by decide +kernel
theorem dX1_open_20 : decode cX1_open 20 = .ok (.iastore, 1) := by decide +kernel
theorem dX1_open_21 : decode cX1_open 21 = .ok (.aload_n 0, 1) := by decide +kernel
theorem dX1_open_22 : decode cX1_open 22 = .ok (.dup, 1) := by decide +kernel
theorem dX1_open_23 : decode cX1_open 23 = .ok (.getfield 34, 3) := by decide +kernel
theorem dX1_open_26 : decode cX1_open 26 = .ok (.iconst 1, 1) := by decide +kernel
theorem dX1_open_27 : decode cX1_open 27 = .ok (.iadd, 1) := by decide +kernel
theorem dX1_open_28 : decode cX1_open 28 = .ok (.putfield 34, 3) := by decide +kernel
theorem dX1_open_31 : decode cX1_open 31 = .ok (.aload_n 0, 1) := by decide +kernel
theorem dX1_open_32 : decode cX1_open 32 = .ok (.iconst 1, 1) := by decide +kernel
theorem dX1_open_33 : decode cX1_open 33 = .ok (.putfield 38, 3) := by decide +kernel
theorem dX1_open_36 : decode cX1_open 36 = .ok (.iconst 0, 1) := by decide +kernel
theorem dX1_open_37 : decode cX1_open 37 = .ok (.ireturn, 1) := by decide +kernel
theorem dX1_takeName_0 : decode cX1_takeName 0 = .ok (.aload_n 0, 1) := by decide +kernel
theorem dX1_takeName_1 : decode cX1_takeName 1 = .ok (.getfield 10, 3) := by decide +kernel
theorem dX1_takeName_4 : decode cX1_takeName 4 = .ok (.invokevirtual 85, 3) := by decide +kernel
theorem dX1_takeName_7 : decode cX1_takeName 7 = .ok (.ifCond .eq 5, 3) := by decide +kernel
theorem dX1_takeName_10 : decode cX1_takeName 10 = .ok (.iconst 2, 1) := by decide +kernel
theorem dX1_takeName_11 : decode cX1_takeName 11 = .ok (.ireturn, 1) := by decide +kernel
theorem dX1_takeName_12 : decode cX1_takeName 12 = .ok (.aload_n 0, 1) := by decide +kernel
theorem dX1_takeName_13 : decode cX1_takeName 13 = .ok (.lconst 1, 1) := by decide +kernel
theorem dX1_takeName_14 : decode cX1_takeName 14 = .ok (.aload_n 0, 1) := by decide +kernel
theorem dX1_takeName_15 : decode cX1_takeName 15 = .ok (.getfield 10, 3) := by decide +kernel
theorem dX1_takeName_18 : decode cX1_takeName 18 = .ok (.getfield 89, 3) := by decide +kernel
theorem dX1_takeName_21 : decode cX1_takeName 21 = .ok (.lshl, 1) := by decide +kernel
theorem dX1_takeName_22 : decode cX1_takeName 22 = .ok (.putfield 62, 3) := by decide +kernel
theorem dX1_takeName_25 : decode cX1_takeName 25 = .ok (.aload_n 0, 1) := by decide +kernel
theorem dX1_takeName_26 : decode cX1_takeName 26 = .ok (.aload_n 0, 1) := by decide +kernel
theorem dX1_takeName_27 : decode cX1_takeName 27 = .ok (.getfield 62, 3) := by decide +kernel
theorem dX1_takeName_30 : decode cX1_takeName 30 = .ok (.putfield 69, 3) := by decide +kernel
theorem dX1_takeName_33 : decode cX1_takeName 33 = .ok (.aload_n 0, 1) := by decide +kernel
theorem dX1_takeName_34 : decode cX1_takeName 34 = .ok (.iconst 0, 1) := by decide +kernel
theorem dX1_takeName_35 : decode cX1_takeName 35 = .ok (.putfield 75, 3) := by decide +kernel
theorem dX1_takeName_38 : decode cX1_takeName 38 = .ok (.aload_n 0, 1) := by decide +kernel
theorem dX1_takeName_39 : decode cX1_takeName 39 = .ok (.getfield 10, 3) := by decide +kernel
theorem dX1_takeName_42 : decode cX1_takeName 42 = .ok (.iload_n 1, 1) := by decide +kernel
theorem dX1_takeName_43 : decode cX1_takeName 43 = .ok (.invokevirtual 92, 3) := by decide +kernel
theorem dX1_takeName_46 : decode cX1_takeName 46 = .ok (.aload_n 0, 1) := by decide +kernel
theorem dX1_takeName_47 : decode cX1_takeName 47 = .ok (.iconst 2, 1) := by decide +kernel
theorem dX1_takeName_48 : decode cX1_takeName 48 = .ok (.putfield 38, 3) := by decide +kernel
theorem dX1_takeName_51 : decode cX1_takeName 51 = .ok (.iconst 0, 1) := by decide +kernel
theorem dX1_takeName_52 : decode cX1_takeName 52 = .ok (.ireturn, 1) := by decide +kernel
theorem dX1_takeSign_0 : decode cX1_takeSign 0 = .ok (.aload_n 0, 1) := by decide +kernel
theorem dX1_takeSign_1 : decode cX1_takeSign 1 = .ok (.getfield 38, 3) := by decide +kernel
theorem dX1_takeSign_4 : decode cX1_takeSign 4 = .ok (.iconst 2, 1) := by decide +kernel
theorem dX1_takeSign_5 : decode cX1_takeSign 5 = .ok (.if_icmp .eq 5, 3) := by decide +kernel
theorem dX1_takeSign_8 : decode cX1_takeSign 8 = .ok (.iconst 1, 1) := by decide +kernel
theorem dX1_takeSign_9 : decode cX1_takeSign 9 = .ok (.ireturn, 1) := by decide +kernel
theorem dX1_takeSign_10 : decode cX1_takeSign 10 = .ok (.iload_n 1, 1) := by decide +kernel
theorem dX1_takeSign_11 : decode cX1_takeSign 11 = .ok (.bipush 63, 2) := by decide +kernel
theorem dX1_takeSign_13 : decode cX1_takeSign 13 = .ok (.if_icmp .eq 18, 3) := by decide +kernel
theorem dX1_takeSign_16 : decode cX1_takeSign 16 = .ok (.aload_n 0, 1) := by decide +kernel
theorem dX1_takeSign_17 : decode cX1_takeSign 17 = .ok (.getfield 10, 3) := by decide +kernel
theorem dX1_takeSign_20 : decode cX1_takeSign 20 = .ok (.aload_n 0, 1) := by decide +kernel
theorem dX1_takeSign_21 : decode cX1_takeSign 21 = .ok (.getfield 69, 3) := by decide +kernel
theorem dX1_takeSign_24 : decode cX1_takeSign 24 = .ok (.aload_n 0, 1) := by decide +kernel
theorem dX1_takeSign_25 : decode cX1_takeSign 25 = .ok (.getfield 62, 3) := by decide +kernel
theorem dX1_takeSign_28 : decode cX1_takeSign 28 = .ok (.invokevirtual 96, 3) := by decide +kernel
theorem dX1_takeSign_31 : decode cX1_takeSign 31 = .ok (.iload_n 1, 1) := by decide +kernel
theorem dX1_takeSign_32 : decode cX1_takeSign 32 = .ok (.bipush 43, 2) := by decide +kernel
theorem dX1_takeSign_34 : decode cX1_takeSign 34 = .ok (.if_icmp .eq 8, 3) := by decide +kernel
theorem dX1_takeSign_37 : decode cX1_takeSign 37 = .ok (.aload_n 0, 1) := by decide +kernel
theorem dX1_takeSign_38 : decode cX1_takeSign 38 = .ok (.iconst 1, 1) := by decide +kernel
theorem dX1_takeSign_39 : decode cX1_takeSign 39 = .ok (.putfield 75, 3) := by decide +kernel
theorem dX1_takeSign_42 : decode cX1_takeSign 42 = .ok (.aload_n 0, 1) := by decide +kernel
theorem dX1_takeSign_43 : decode cX1_takeSign 43 = .ok (.iconst 3, 1) := by decide +kernel
theorem dX1_takeSign_44 : decode cX1_takeSign 44 = .ok (.putfield 38, 3) := by decide +kernel
theorem dX1_takeSign_47 : decode cX1_takeSign 47 = .ok (.iconst 0, 1) := by decide +kernel
theorem dX1_takeSign_48 : decode cX1_takeSign 48 = .ok (.ireturn, 1) := by decide +kernel
theorem dX1_takeSeparator_0 : decode cX1_takeSeparator 0 = .ok (.aload_n 0, 1) := by decide +kernel
theorem dX1_takeSeparator_1 : decode cX1_takeSeparator 1 = .ok (.getfield 34, 3) := by decide +kernel
theorem dX1_takeSeparator_4 : decode cX1_takeSeparator 4 = .ok (.iconst 1, 1) := by decide +kernel
theorem dX1_takeSeparator_5 : decode cX1_takeSeparator 5 = .ok (.isub, 1) := by decide +kernel
theorem dX1_takeSeparator_6 : decode cX1_takeSeparator 6 = .ok (.istore_n 2, 1) := by decide +kernel
theorem dX1_takeSeparator_7 : decode cX1_takeSeparator 7 = .ok (.iload_n 2, 1) := by decide +kernel
theorem dX1_takeSeparator_8 : decode cX1_takeSeparator 8 = .ok (.ifCond .lt 9, 3) := by decide +kernel
theorem dX1_takeSeparator_11 : decode cX1_takeSeparator 11 = .ok (.iload_n 2, 1) := by decide +kernel
theorem dX1_takeSeparator_12 : decode cX1_takeSeparator 12 = .ok (.bipush 12, 2) := by decide +kernel
theorem dX1_takeSeparator_14 : decode cX1_takeSeparator 14 = .ok (.if_icmp .lt 5, 3) := by decide +kernel
theorem dX1_takeSeparator_17 : decode cX1_takeSeparator 17 = .ok (.iconst 1, 1) := by decide +kernel
theorem dX1_takeSeparator_18 : decode cX1_takeSeparator 18 = .ok (.ireturn, 1) := by decide +kernel
theorem dX1_takeSeparator_19 : decode cX1_takeSeparator 19 = .ok (.aload_n 0, 1) := by decide +kernel
theorem dX1_takeSeparator_20 : decode cX1_takeSeparator 20 = .ok (.getfield 27, 3) := by decide +kernel
theorem dX1_takeSeparator_23 : decode cX1_takeSeparator 23 = .ok (.iload_n 2, 1) := by decide +kernel
theorem dX1_takeSeparator_24 : decode cX1_takeSeparator 24 = .ok (.iaload, 1) := by decide +kernel
theorem dX1_takeSeparator_25 : decode cX1_takeSeparator 25 = .ok (.ifCond .eq 15, 3) := by decide +kernel
theorem dX1_takeSeparator_28 : decode cX1_takeSeparator 28 = .ok (.aload_n 0, 1) := by decide +kernel
theorem dX1_takeSeparator_29 : decode cX1_takeSeparator 29 = .ok (.getfield 27, 3) := by decide +kernel
theorem dX1_takeSeparator_32 : decode cX1_takeSeparator 32 = .ok (.iload_n 2, 1) := by decide +kernel
theorem dX1_takeSeparator_33 : decode cX1_takeSeparator 33 = .ok (.iaload, 1) := by decide +kernel
theorem dX1_takeSeparator_34 : decode cX1_takeSeparator 34 = .ok (.iload_n 1, 1) := by decide +kernel
theorem dX1_takeSeparator_35 : decode cX1_takeSeparator 35 = .ok (.if_icmp .eq 5, 3) := by decide +kernel
theorem dX1_takeSeparator_38 : decode cX1_takeSeparator 38 = .ok (.iconst 1, 1) := by decide +kernel
theorem dX1_takeSeparator_39 : decode cX1_takeSeparator 39 = .ok (.ireturn, 1) := by decide +kernel
theorem dX1_takeSeparator_40 : decode cX1_takeSeparator 40 = .ok (.aload_n 0, 1) := by decide +kernel
theorem dX1_takeSeparator_41 : decode cX1_takeSeparator 41 = .ok (.iload_n 2, 1) := by decide +kernel
theorem dX1_takeSeparator_42 : decode cX1_takeSeparator 42 = .ok (.invokevirtual 100, 3) := by decide +kernel
theorem dX1_takeSeparator_45 : decode cX1_takeSeparator 45 = .ok (.aload_n 0, 1) := by decide +kernel
theorem dX1_takeSeparator_46 : decode cX1_takeSeparator 46 = .ok (.getfield 27, 3) := by decide +kernel
theorem dX1_takeSeparator_49 : decode cX1_takeSeparator 49 = .ok (.iload_n 2, 1) := by decide +kernel
theorem dX1_takeSeparator_50 : decode cX1_takeSeparator 50 = .ok (.iload_n 1, 1) := by decide +kernel
theorem dX1_takeSeparator_51 : decode cX1_takeSeparator 51 = .ok (.iastore, 1) := by decide +kernel
theorem dX1_takeSeparator_52 : decode cX1_takeSeparator 52 = .ok (.aload_n 0, 1) := by decide +kernel
theorem dX1_takeSeparator_53 : decode cX1_takeSeparator 53 = .ok (.iconst 1, 1) := by decide +kernel
theorem dX1_takeSeparator_54 : decode cX1_takeSeparator 54 = .ok (.putfield 38, 3) := by decide +kernel
theorem dX1_takeSeparator_57 : decode cX1_takeSeparator 57 = .ok (.iconst 0, 1) := by decide +kernel
theorem dX1_takeSeparator_58 : decode cX1_takeSeparator 58 = .ok (.ireturn, 1) := by decide +kernel
theorem dX1_close_0 : decode cX1_close 0 = .ok (.aload_n 0, 1) := by decide +kernel
theorem dX1_close_1 : decode cX1_close 1 = .ok (.getfield 34, 3) := by decide +kernel
theorem dX1_close_4 : decode cX1_close 4 = .ok (.iconst 1, 1) := by decide +kernel
theorem dX1_close_5 : decode cX1_close 5 = .ok (.isub, 1) := by decide +kernel
theorem dX1_close_6 : decode cX1_close 6 = .ok (.istore_n 1, 1) := by decide +kernel
theorem dX1_close_7 : decode cX1_close 7 = .ok (.iload_n 1, 1) := by decide +kernel
theorem dX1_close_8 : decode cX1_close 8 = .ok (.ifCond .lt 9, 3) := by decide +kernel
theorem dX1_close_11 : decode cX1_close 11 = .ok (.iload_n 1, 1) := by decide +kernel
theorem dX1_close_12 : decode cX1_close 12 = .ok (.bipush 12, 2) := by decide +kernel
theorem dX1_close_14 : decode cX1_close 14 = .ok (.if_icmp .lt 5, 3) := by decide +kernel
theorem dX1_close_17 : decode cX1_close 17 = .ok (.iconst 1, 1) := by decide +kernel
theorem dX1_close_18 : decode cX1_close 18 = .ok (.ireturn, 1) := by decide +kernel
theorem dX1_close_19 : decode cX1_close 19 = .ok (.aload_n 0, 1) := by decide +kernel
theorem dX1_close_20 : decode cX1_close 20 = .ok (.iload_n 1, 1) := by decide +kernel
theorem dX1_close_21 : decode cX1_close 21 = .ok (.invokevirtual 100, 3) := by decide +kernel
theorem dX1_close_24 : decode cX1_close 24 = .ok (.aload_n 0, 1) := by decide +kernel
theorem dX1_close_25 : decode cX1_close 25 = .ok (.aload_n 0, 1) := by decide +kernel
theorem dX1_close_26 : decode cX1_close 26 = .ok (.getfield 16, 3) := by decide +kernel
theorem dX1_close_29 : decode cX1_close 29 = .ok (.iload_n 1, 1) := by decide +kernel
theorem dX1_close_30 : decode cX1_close 30 = .ok (.laload, 1) := by decide +kernel
theorem dX1_close_31 : decode cX1_close 31 = .ok (.putfield 62, 3) := by decide +kernel
theorem dX1_close_34 : decode cX1_close 34 = .ok (.aload_n 0, 1) := by decide +kernel
theorem dX1_close_35 : decode cX1_close 35 = .ok (.aload_n 0, 1) := by decide +kernel
theorem dX1_close_36 : decode cX1_close 36 = .ok (.getfield 20, 3) := by decide +kernel
theorem dX1_close_39 : decode cX1_close 39 = .ok (.iload_n 1, 1) := by decide +kernel
theorem dX1_close_40 : decode cX1_close 40 = .ok (.laload, 1) := by decide +kernel
theorem dX1_close_41 : decode cX1_close 41 = .ok (.putfield 69, 3) := by decide +kernel
theorem dX1_close_44 : decode cX1_close 44 = .ok (.aload_n 0, 1) := by decide +kernel
theorem dX1_close_45 : decode cX1_close 45 = .ok (.aload_n 0, 1) := by decide +kernel
theorem dX1_close_46 : decode cX1_close 46 = .ok (.getfield 23, 3) := by decide +kernel
theorem dX1_close_49 : decode cX1_close 49 = .ok (.iload_n 1, 1) := by decide +kernel
theorem dX1_close_50 : decode cX1_close 50 = .ok (.baload, 1) := by decide +kernel
theorem dX1_close_51 : decode cX1_close 51 = .ok (.putfield 75, 3) := by decide +kernel
theorem dX1_close_54 : decode cX1_close 54 = .ok (.aload_n 0, 1) := by decide +kernel
theorem dX1_close_55 : decode cX1_close 55 = .ok (.iload_n 1, 1) := by decide +kernel
theorem dX1_close_56 : decode cX1_close 56 = .ok (.putfield 34, 3) := by decide +kernel
theorem dX1_close_59 : decode cX1_close 59 = .ok (.aload_n 0, 1) := by decide +kernel
theorem dX1_close_60 : decode cX1_close 60 = .ok (.iconst 2, 1) := by decide +kernel
theorem dX1_close_61 : decode cX1_close 61 = .ok (.putfield 38, 3) := by decide +kernel
theorem dX1_close_64 : decode cX1_close 64 = .ok (.iconst 0, 1) := by decide +kernel
theorem dX1_close_65 : decode cX1_close 65 = .ok (.ireturn, 1) := by decide +kernel
theorem dX1_joinPart_0 : decode cX1_joinPart 0 = .ok (.aload_n 0, 1) := by decide +kernel
theorem dX1_joinPart_1 : decode cX1_joinPart 1 = .ok (.getfield 27, 3) := by decide +kernel
theorem dX1_joinPart_4 : decode cX1_joinPart 4 = .ok (.iload_n 1, 1) := by decide +kernel
theorem dX1_joinPart_5 : decode cX1_joinPart 5 = .ok (.iaload, 1) := by decide +kernel
theorem dX1_joinPart_6 : decode cX1_joinPart 6 = .ok (.ifCond .ne 36, 3) := by decide +kernel
theorem dX1_joinPart_9 : decode cX1_joinPart 9 = .ok (.aload_n 0, 1) := by decide +kernel
theorem dX1_joinPart_10 : decode cX1_joinPart 10 = .ok (.getfield 16, 3) := by decide +kernel
theorem dX1_joinPart_13 : decode cX1_joinPart 13 = .ok (.iload_n 1, 1) := by decide +kernel
theorem dX1_joinPart_14 : decode cX1_joinPart 14 = .ok (.aload_n 0, 1) := by decide +kernel
theorem dX1_joinPart_15 : decode cX1_joinPart 15 = .ok (.getfield 62, 3) := by decide +kernel
theorem dX1_joinPart_18 : decode cX1_joinPart 18 = .ok (.lastore, 1) := by decide +kernel
theorem dX1_joinPart_19 : decode cX1_joinPart 19 = .ok (.aload_n 0, 1) := by decide +kernel
theorem dX1_joinPart_20 : decode cX1_joinPart 20 = .ok (.getfield 20, 3) := by decide +kernel
theorem dX1_joinPart_23 : decode cX1_joinPart 23 = .ok (.iload_n 1, 1) := by decide +kernel
theorem dX1_joinPart_24 : decode cX1_joinPart 24 = .ok (.aload_n 0, 1) := by decide +kernel
theorem dX1_joinPart_25 : decode cX1_joinPart 25 = .ok (.getfield 69, 3) := by decide +kernel
theorem dX1_joinPart_28 : decode cX1_joinPart 28 = .ok (.lastore, 1) := by decide +kernel
theorem dX1_joinPart_29 : decode cX1_joinPart 29 = .ok (.aload_n 0, 1) := by decide +kernel
theorem dX1_joinPart_30 : decode cX1_joinPart 30 = .ok (.getfield 23, 3) := by decide +kernel
theorem dX1_joinPart_33 : decode cX1_joinPart 33 = .ok (.iload_n 1, 1) := by decide +kernel
theorem dX1_joinPart_34 : decode cX1_joinPart 34 = .ok (.aload_n 0, 1) := by decide +kernel
theorem dX1_joinPart_35 : decode cX1_joinPart 35 = .ok (.getfield 75, 3) := by decide +kernel
theorem dX1_joinPart_38 : decode cX1_joinPart 38 = .ok (.bastore, 1) := by decide +kernel
theorem dX1_joinPart_39 : decode cX1_joinPart 39 = .ok (.goto 167, 3) := by decide +kernel
theorem dX1_joinPart_42 : decode cX1_joinPart 42 = .ok (.aload_n 0, 1) := by decide +kernel
theorem dX1_joinPart_43 : decode cX1_joinPart 43 = .ok (.getfield 27, 3) := by decide +kernel
theorem dX1_joinPart_46 : decode cX1_joinPart 46 = .ok (.iload_n 1, 1) := by decide +kernel
theorem dX1_joinPart_47 : decode cX1_joinPart 47 = .ok (.iaload, 1) := by decide +kernel
theorem dX1_joinPart_48 : decode cX1_joinPart 48 = .ok (.bipush 124, 2) := by decide +kernel
theorem dX1_joinPart_50 : decode cX1_joinPart 50 = .ok (.if_icmp .ne 59, 3) := by decide +kernel
theorem dX1_joinPart_53 : decode cX1_joinPart 53 = .ok (.aload_n 0, 1) := by decide +kernel
theorem dX1_joinPart_54 : decode cX1_joinPart 54 = .ok (.getfield 16, 3) := by decide +kernel
theorem dX1_joinPart_57 : decode cX1_joinPart 57 = .ok (.iload_n 1, 1) := by decide +kernel
theorem dX1_joinPart_58 : decode cX1_joinPart 58 = .ok (.dup2, 1) := by decide +kernel
theorem dX1_joinPart_59 : decode cX1_joinPart 59 = .ok (.laload, 1) := by decide +kernel
theorem dX1_joinPart_60 : decode cX1_joinPart 60 = .ok (.aload_n 0, 1) := by decide +kernel
theorem dX1_joinPart_61 : decode cX1_joinPart 61 = .ok (.getfield 62, 3) := by decide +kernel
theorem dX1_joinPart_64 : decode cX1_joinPart 64 = .ok (.lor, 1) := by decide +kernel
theorem dX1_joinPart_65 : decode cX1_joinPart 65 = .ok (.lastore, 1) := by decide +kernel
theorem dX1_joinPart_66 : decode cX1_joinPart 66 = .ok (.aload_n 0, 1) := by decide +kernel
theorem dX1_joinPart_67 : decode cX1_joinPart 67 = .ok (.getfield 20, 3) := by decide +kernel
theorem dX1_joinPart_70 : decode cX1_joinPart 70 = .ok (.iload_n 1, 1) := by decide +kernel
theorem dX1_joinPart_71 : decode cX1_joinPart 71 = .ok (.dup2, 1) := by decide +kernel
theorem dX1_joinPart_72 : decode cX1_joinPart 72 = .ok (.laload, 1) := by decide +kernel
theorem dX1_joinPart_73 : decode cX1_joinPart 73 = .ok (.aload_n 0, 1) := by decide +kernel
theorem dX1_joinPart_74 : decode cX1_joinPart 74 = .ok (.getfield 69, 3) := by decide +kernel
theorem dX1_joinPart_77 : decode cX1_joinPart 77 = .ok (.lor, 1) := by decide +kernel
theorem dX1_joinPart_78 : decode cX1_joinPart 78 = .ok (.lastore, 1) := by decide +kernel
theorem dX1_joinPart_79 : decode cX1_joinPart 79 = .ok (.aload_n 0, 1) := by decide +kernel
theorem dX1_joinPart_80 : decode cX1_joinPart 80 = .ok (.getfield 23, 3) := by decide +kernel
theorem dX1_joinPart_83 : decode cX1_joinPart 83 = .ok (.iload_n 1, 1) := by decide +kernel
theorem dX1_joinPart_84 : decode cX1_joinPart 84 = .ok (.aload_n 0, 1) := by decide +kernel
theorem dX1_joinPart_85 : decode cX1_joinPart 85 = .ok (.getfield 23, 3) := by decide +kernel
theorem dX1_joinPart_88 : decode cX1_joinPart 88 = .ok (.iload_n 1, 1) := by decide +kernel
theorem dX1_joinPart_89 : decode cX1_joinPart 89 = .ok (.baload, 1) := by decide +kernel
theorem dX1_joinPart_90 : decode cX1_joinPart 90 = .ok (.ifCond .ne 10, 3) := by decide +kernel
theorem dX1_joinPart_93 : decode cX1_joinPart 93 = .ok (.aload_n 0, 1) := by decide +kernel
theorem dX1_joinPart_94 : decode cX1_joinPart 94 = .ok (.getfield 75, 3) := by decide +kernel
theorem dX1_joinPart_97 : decode cX1_joinPart 97 = .ok (.ifCond .eq 7, 3) := by decide +kernel
theorem dX1_joinPart_100 : decode cX1_joinPart 100 = .ok (.iconst 1, 1) := by decide +kernel
theorem dX1_joinPart_101 : decode cX1_joinPart 101 = .ok (.goto 4, 3) := by decide +kernel
theorem dX1_joinPart_104 : decode cX1_joinPart 104 = .ok (.iconst 0, 1) := by decide +kernel
theorem dX1_joinPart_105 : decode cX1_joinPart 105 = .ok (.bastore, 1) := by decide +kernel
theorem dX1_joinPart_106 : decode cX1_joinPart 106 = .ok (.goto 100, 3) := by decide +kernel
theorem dX1_joinPart_109 : decode cX1_joinPart 109 = .ok (.aload_n 0, 1) := by decide +kernel
theorem dX1_joinPart_110 : decode cX1_joinPart 110 = .ok (.getfield 10, 3) := by decide +kernel
theorem dX1_joinPart_113 : decode cX1_joinPart 113 = .ok (.aload_n 0, 1) := by decide +kernel
theorem dX1_joinPart_114 : decode cX1_joinPart 114 = .ok (.getfield 20, 3) := by decide +kernel
theorem dX1_joinPart_117 : decode cX1_joinPart 117 = .ok (.iload_n 1, 1) := by decide +kernel
theorem dX1_joinPart_118 : decode cX1_joinPart 118 = .ok (.laload, 1) := by decide +kernel
theorem dX1_joinPart_119 : decode cX1_joinPart 119 = .ok (.aload_n 0, 1) := by decide +kernel
theorem dX1_joinPart_120 : decode cX1_joinPart 120 = .ok (.getfield 62, 3) := by decide +kernel
theorem dX1_joinPart_123 : decode cX1_joinPart 123 = .ok (.invokevirtual 96, 3) := by decide +kernel
theorem dX1_joinPart_126 : decode cX1_joinPart 126 = .ok (.aload_n 0, 1) := by decide +kernel
theorem dX1_joinPart_127 : decode cX1_joinPart 127 = .ok (.getfield 23, 3) := by decide +kernel
theorem dX1_joinPart_130 : decode cX1_joinPart 130 = .ok (.iload_n 1, 1) := by decide +kernel
theorem dX1_joinPart_131 : decode cX1_joinPart 131 = .ok (.baload, 1) := by decide +kernel
theorem dX1_joinPart_132 : decode cX1_joinPart 132 = .ok (.ifCond .eq 16, 3) := by decide +kernel
theorem dX1_joinPart_135 : decode cX1_joinPart 135 = .ok (.aload_n 0, 1) := by decide +kernel
theorem dX1_joinPart_136 : decode cX1_joinPart 136 = .ok (.getfield 16, 3) := by decide +kernel
theorem dX1_joinPart_139 : decode cX1_joinPart 139 = .ok (.iload_n 1, 1) := by decide +kernel
theorem dX1_joinPart_140 : decode cX1_joinPart 140 = .ok (.dup2, 1) := by decide +kernel
theorem dX1_joinPart_141 : decode cX1_joinPart 141 = .ok (.laload, 1) := by decide +kernel
theorem dX1_joinPart_142 : decode cX1_joinPart 142 = .ok (.aload_n 0, 1) := by decide +kernel
theorem dX1_joinPart_143 : decode cX1_joinPart 143 = .ok (.getfield 62, 3) := by decide +kernel
theorem dX1_joinPart_146 : decode cX1_joinPart 146 = .ok (.lor, 1) := by decide +kernel
theorem dX1_joinPart_147 : decode cX1_joinPart 147 = .ok (.lastore, 1) := by decide +kernel
theorem dX1_joinPart_148 : decode cX1_joinPart 148 = .ok (.aload_n 0, 1) := by decide +kernel
theorem dX1_joinPart_149 : decode cX1_joinPart 149 = .ok (.getfield 20, 3) := by decide +kernel
theorem dX1_joinPart_152 : decode cX1_joinPart 152 = .ok (.iload_n 1, 1) := by decide +kernel
theorem dX1_joinPart_153 : decode cX1_joinPart 153 = .ok (.aload_n 0, 1) := by decide +kernel
theorem dX1_joinPart_154 : decode cX1_joinPart 154 = .ok (.getfield 75, 3) := by decide +kernel
theorem dX1_joinPart_157 : decode cX1_joinPart 157 = .ok (.ifCond .eq 17, 3) := by decide +kernel
theorem dX1_joinPart_160 : decode cX1_joinPart 160 = .ok (.aload_n 0, 1) := by decide +kernel
theorem dX1_joinPart_161 : decode cX1_joinPart 161 = .ok (.getfield 20, 3) := by decide +kernel
theorem dX1_joinPart_164 : decode cX1_joinPart 164 = .ok (.iload_n 1, 1) := by decide +kernel
theorem dX1_joinPart_165 : decode cX1_joinPart 165 = .ok (.laload, 1) := by decide +kernel
theorem dX1_joinPart_166 : decode cX1_joinPart 166 = .ok (.aload_n 0, 1) := by decide +kernel
theorem dX1_joinPart_167 : decode cX1_joinPart 167 = .ok (.getfield 69, 3) := by decide +kernel
theorem dX1_joinPart_170 : decode cX1_joinPart 170 = .ok (.lor, 1) := by decide +kernel
theorem dX1_joinPart_171 : decode cX1_joinPart 171 = .ok (.goto 7, 3) := by decide +kernel
theorem dX1_joinPart_174 : decode cX1_joinPart 174 = .ok (.aload_n 0, 1) := by decide +kernel
theorem dX1_joinPart_175 : decode cX1_joinPart 175 = .ok (.getfield 69, 3) := by decide +kernel
theorem dX1_joinPart_178 : decode cX1_joinPart 178 = .ok (.lastore, 1) := by decide +kernel
theorem dX1_joinPart_179 : decode cX1_joinPart 179 = .ok (.aload_n 0, 1) := by decide +kernel
theorem dX1_joinPart_180 : decode cX1_joinPart 180 = .ok (.getfield 23, 3) := by decide +kernel
theorem dX1_joinPart_183 : decode cX1_joinPart 183 = .ok (.iload_n 1, 1) := by decide +kernel
theorem dX1_joinPart_184 : decode cX1_joinPart 184 = .ok (.aload_n 0, 1) := by decide +kernel
theorem dX1_joinPart_185 : decode cX1_joinPart 185 = .ok (.getfield 23, 3) := by decide +kernel
theorem dX1_joinPart_188 : decode cX1_joinPart 188 = .ok (.iload_n 1, 1) := by decide +kernel
theorem dX1_joinPart_189 : decode cX1_joinPart 189 = .ok (.baload, 1) := by decide +kernel
theorem dX1_joinPart_190 : decode cX1_joinPart 190 = .ok (.ifCond .eq 14, 3) := by decide +kernel
theorem dX1_joinPart_193 : decode cX1_joinPart 193 = .ok (.aload_n 0, 1) := by decide +kernel
theorem dX1_joinPart_194 : decode cX1_joinPart 194 = .ok (.getfield 75, 3) := by decide +kernel
theorem dX1_joinPart_197 : decode cX1_joinPart 197 = .ok (.ifCond .eq 7, 3) := by decide +kernel
theorem dX1_joinPart_200 : decode cX1_joinPart 200 = .ok (.iconst 1, 1) := by decide +kernel
theorem dX1_joinPart_201 : decode cX1_joinPart 201 = .ok (.goto 4, 3) := by decide +kernel
theorem dX1_joinPart_204 : decode cX1_joinPart 204 = .ok (.iconst 0, 1) := by decide +kernel
theorem dX1_joinPart_205 : decode cX1_joinPart 205 = .ok (.bastore, 1) := by decide +kernel
theorem dX1_joinPart_206 : decode cX1_joinPart 206 = .ok (.return_, 1) := by decide +kernel
theorem dX1_isSign_0 : decode cX1_isSign 0 = .ok (.iload_n 0, 1) := by decide +kernel
theorem dX1_isSign_1 : decode cX1_isSign 1 = .ok (.bipush 63, 2) := by decide +kernel
theorem dX1_isSign_3 : decode cX1_isSign 3 = .ok (.if_icmp .eq 15, 3) := by decide +kernel
theorem dX1_isSign_6 : decode cX1_isSign 6 = .ok (.iload_n 0, 1) := by decide +kernel
theorem dX1_isSign_7 : decode cX1_isSign 7 = .ok (.bipush 42, 2) := by decide +kernel
theorem dX1_isSign_9 : decode cX1_isSign 9 = .ok (.if_icmp .eq 9, 3) := by decide +kernel
theorem dX1_isSign_12 : decode cX1_isSign 12 = .ok (.iload_n 0, 1) := by decide +kernel
theorem dX1_isSign_13 : decode cX1_isSign 13 = .ok (.bipush 43, 2) := by decide +kernel
theorem dX1_isSign_15 : decode cX1_isSign 15 = .ok (.if_icmp .ne 7, 3) := by decide +kernel
theorem dX1_isSign_18 : decode cX1_isSign 18 = .ok (.iconst 1, 1) := by decide +kernel
theorem dX1_isSign_19 : decode cX1_isSign 19 = .ok (.goto 4, 3) := by decide +kernel
theorem dX1_isSign_22 : decode cX1_isSign 22 = .ok (.iconst 0, 1) := by decide +kernel
theorem dX1_isSign_23 : decode cX1_isSign 23 = .ok (.ireturn, 1) := by decide +kernel
theorem dX2_init_0 : decode cX2_init 0 = .ok (.aload_n 0, 1) := by decide +kernel
theorem dX2_init_1 : decode cX2_init 1 = .ok (.invokespecial 1, 3) := by decide +kernel
theorem dX2_init_4 : decode cX2_init 4 = .ok (.aload_n 0, 1) := by decide +kernel
theorem dX2_init_5 : decode cX2_init 5 = .ok (.sipush 300, 3) := by decide +kernel
theorem dX2_init_8 : decode cX2_init 8 = .ok (.newarray .byte, 2) := by decide +kernel
theorem dX2_init_10 : decode cX2_init 10 = .ok (.putfield 9, 3) := by decide +kernel
theorem dX2_init_13 : decode cX2_init 13 = .ok (.aload_n 0, 1) := by decide +kernel
theorem dX2_init_14 : decode cX2_init 14 = .ok (.new 13, 3) := by decide +kernel
theorem dX2_init_17 : decode cX2_init 17 = .ok (.dup, 1) := by decide +kernel
theorem dX2_init_18 : decode cX2_init 18 = .ok (.invokespecial 15, 3) := by decide +kernel
theorem dX2_init_21 : decode cX2_init 21 = .ok (.putfield 16, 3) := by decide +kernel
theorem dX2_init_24 : decode cX2_init 24 = .ok (.aload_n 0, 1) := by decide +kernel
theorem dX2_init_25 : decode cX2_init 25 = .ok (.aload_n 0, 1) := by decide +kernel
theorem dX2_init_26 : decode cX2_init 26 = .ok (.getfield 16, 3) := by decide +kernel
theorem dX2_init_29 : decode cX2_init 29 = .ok (.getfield 20, 3) := by decide +kernel
theorem dX2_init_32 : decode cX2_init 32 = .ok (.putfield 24, 3) := by decide +kernel
theorem dX2_init_35 : decode cX2_init 35 = .ok (.return_, 1) := by decide +kernel
theorem dX2_put_0 : decode cX2_put 0 = .ok (.iload_n 3, 1) := by decide +kernel
theorem dX2_put_1 : decode cX2_put 1 = .ok (.iconst 1, 1) := by decide +kernel
theorem dX2_put_2 : decode cX2_put 2 = .ok (.if_icmp .lt 21, 3) := by decide +kernel
theorem dX2_put_5 : decode cX2_put 5 = .ok (.iload_n 3, 1) := by decide +kernel
theorem dX2_put_6 : decode cX2_put 6 = .ok (.bipush 8, 2) := by decide +kernel
theorem dX2_put_8 : decode cX2_put 8 = .ok (.if_icmp .gt 15, 3) := by decide +kernel
theorem dX2_put_11 : decode cX2_put 11 = .ok (.aload_n 0, 1) := by decide +kernel
theorem dX2_put_12 : decode cX2_put 12 = .ok (.getfield 25, 3) := by decide +kernel
theorem dX2_put_15 : decode cX2_put 15 = .ok (.iload_n 3, 1) := by decide +kernel
theorem dX2_put_16 : decode cX2_put 16 = .ok (.iadd, 1) := by decide +kernel
theorem dX2_put_17 : decode cX2_put 17 = .ok (.sipush 300, 3) := by decide +kernel
theorem dX2_put_20 : decode cX2_put 20 = .ok (.if_icmp .le 5, 3) := by decide +kernel
theorem dX2_put_23 : decode cX2_put 23 = .ok (.iconst 0, 1) := by decide +kernel
theorem dX2_put_24 : decode cX2_put 24 = .ok (.ireturn, 1) := by decide +kernel
theorem dX2_put_25 : decode cX2_put 25 = .ok (.iload_n 3, 1) := by decide +kernel
theorem dX2_put_26 : decode cX2_put 26 = .ok (.iconst 1, 1) := by decide +kernel
theorem dX2_put_27 : decode cX2_put 27 = .ok (.isub, 1) := by decide +kernel
theorem dX2_put_28 : decode cX2_put 28 = .ok (.istore 4, 2) := by decide +kernel
theorem dX2_put_30 : decode cX2_put 30 = .ok (.iload 4, 2) := by decide +kernel
theorem dX2_put_32 : decode cX2_put 32 = .ok (.ifCond .lt 37, 3) := by decide +kernel
theorem dX2_put_35 : decode cX2_put 35 = .ok (.aload_n 0, 1) := by decide +kernel
theorem dX2_put_36 : decode cX2_put 36 = .ok (.getfield 9, 3) := by decide +kernel
theorem dX2_put_39 : decode cX2_put 39 = .ok (.aload_n 0, 1) := by decide +kernel
theorem dX2_put_40 : decode cX2_put 40 = .ok (.getfield 25, 3) := by decide +kernel
theorem dX2_put_43 : decode cX2_put 43 = .ok (.lload_n 1, 1) := by decide +kernel
theorem dX2_put_44 : decode cX2_put 44 = .ok (.bipush 8, 2) := by decide +kernel
theorem dX2_put_46 : decode cX2_put 46 = .ok (.iload 4, 2) := by decide +kernel
theorem dX2_put_48 : decode cX2_put 48 = .ok (.imul, 1) := by decide +kernel
theorem dX2_put_49 : decode cX2_put 49 = .ok (.lushr, 1) := by decide +kernel
theorem dX2_put_50 : decode cX2_put 50 = .ok (.l2i, 1) := by decide +kernel
theorem dX2_put_51 : decode cX2_put 51 = .ok (.i2b, 1) := by decide +kernel
theorem dX2_put_52 : decode cX2_put 52 = .ok (.bastore, 1) := by decide +kernel
theorem dX2_put_53 : decode cX2_put 53 = .ok (.aload_n 0, 1) := by decide +kernel
theorem dX2_put_54 : decode cX2_put 54 = .ok (.dup, 1) := by decide +kernel
theorem dX2_put_55 : decode cX2_put 55 = .ok (.getfield 25, 3) := by decide +kernel
theorem dX2_put_58 : decode cX2_put 58 = .ok (.iconst 1, 1) := by decide +kernel
theorem dX2_put_59 : decode cX2_put 59 = .ok (.iadd, 1) := by decide +kernel
theorem dX2_put_60 : decode cX2_put 60 = .ok (.putfield 25, 3) := by decide +kernel
theorem dX2_put_63 : decode cX2_put 63 = .ok (.iinc 4 (-1), 3) := by decide +kernel
theorem dX2_put_66 : decode cX2_put 66 = .ok (.goto (-36), 3) := by decide +kernel
theorem dX2_put_69 : decode cX2_put 69 = .ok (.iconst 1, 1) := by decide +kernel
theorem dX2_put_70 : decode cX2_put 70 = .ok (.ireturn, 1) := by decide +kernel
theorem dX2_read_0 : decode cX2_read 0 = .ok (.aload_n 0, 1) := by decide +kernel
theorem dX2_read_1 : decode cX2_read 1 = .ok (.invokevirtual 29, 3) := by decide +kernel
theorem dX2_read_4 : decode cX2_read 4 = .ok (.istore_n 1, 1) := by decide +kernel
theorem dX2_read_5 : decode cX2_read 5 = .ok (.iload_n 1, 1) := by decide +kernel
theorem dX2_read_6 : decode cX2_read 6 = .ok (.ifCond .ge 10, 3) := by decide +kernel
theorem dX2_read_9 : decode cX2_read 9 = .ok (.aload_n 0, 1) := by decide +kernel
theorem dX2_read_10 : decode cX2_read 10 = .ok (.getfield 24, 3) := by decide +kernel
theorem dX2_read_13 : decode cX2_read 13 = .ok (.invokevirtual 33, 3) := by decide +kernel
theorem dX2_read_16 : decode cX2_read 16 = .ok (.aload_n 0, 1) := by decide +kernel
theorem dX2_read_17 : decode cX2_read 17 = .ok (.iconst 0, 1) := by decide +kernel
theorem dX2_read_18 : decode cX2_read 18 = .ok (.putfield 25, 3) := by decide +kernel
theorem dX2_read_21 : decode cX2_read 21 = .ok (.aload_n 0, 1) := by decide +kernel
theorem dX2_read_22 : decode cX2_read 22 = .ok (.invokevirtual 38, 3) := by decide +kernel
theorem dX2_read_25 : decode cX2_read 25 = .ok (.iload_n 1, 1) := by decide +kernel
theorem dX2_read_26 : decode cX2_read 26 = .ok (.ireturn, 1) := by decide +kernel
theorem dX2_isClear_0 : decode cX2_isClear 0 = .ok (.aload_n 0, 1) := by decide +kernel
theorem dX2_isClear_1 : decode cX2_isClear 1 = .ok (.getfield 24, 3) := by decide +kernel
theorem dX2_isClear_4 : decode cX2_isClear 4 = .ok (.getfield 41, 3) := by decide +kernel
theorem dX2_isClear_7 : decode cX2_isClear 7 = .ok (.ifCond .le 17, 3) := by decide +kernel
theorem dX2_isClear_10 : decode cX2_isClear 10 = .ok (.aload_n 0, 1) := by decide +kernel
theorem dX2_isClear_11 : decode cX2_isClear 11 = .ok (.getfield 24, 3) := by decide +kernel
theorem dX2_isClear_14 : decode cX2_isClear 14 = .ok (.invokevirtual 44, 3) := by decide +kernel
theorem dX2_isClear_17 : decode cX2_isClear 17 = .ok (.ifCond .ne 7, 3) := by decide +kernel
theorem dX2_isClear_20 : decode cX2_isClear 20 = .ok (.iconst 1, 1) := by decide +kernel
theorem dX2_isClear_21 : decode cX2_isClear 21 = .ok (.goto 4, 3) := by decide +kernel
theorem dX2_isClear_24 : decode cX2_isClear 24 = .ok (.iconst 0, 1) := by decide +kernel
theorem dX2_isClear_25 : decode cX2_isClear 25 = .ok (.ireturn, 1) := by decide +kernel
theorem dX2_competing_0 : decode cX2_competing 0 = .ok (.aload_n 0, 1) := by decide +kernel
theorem dX2_competing_1 : decode cX2_competing 1 = .ok (.getfield 24, 3) := by decide +kernel
theorem dX2_competing_4 : decode cX2_competing 4 = .ok (.invokevirtual 44, 3) := by decide +kernel
theorem dX2_competing_7 : decode cX2_competing 7 = .ok (.ireturn, 1) := by decide +kernel
theorem dX2_isEmpty_0 : decode cX2_isEmpty 0 = .ok (.aload_n 0, 1) := by decide +kernel
theorem dX2_isEmpty_1 : decode cX2_isEmpty 1 = .ok (.getfield 24, 3) := by decide +kernel
theorem dX2_isEmpty_4 : decode cX2_isEmpty 4 = .ok (.getfield 47, 3) := by decide +kernel
theorem dX2_isEmpty_7 : decode cX2_isEmpty 7 = .ok (.ireturn, 1) := by decide +kernel
theorem dX2_first_0 : decode cX2_first 0 = .ok (.aload_n 0, 1) := by decide +kernel
theorem dX2_first_1 : decode cX2_first 1 = .ok (.getfield 24, 3) := by decide +kernel
theorem dX2_first_4 : decode cX2_first 4 = .ok (.getfield 51, 3) := by decide +kernel
theorem dX2_first_7 : decode cX2_first 7 = .ok (.lreturn, 1) := by decide +kernel
theorem dX2_next_0 : decode cX2_next 0 = .ok (.aload_n 0, 1) := by decide +kernel
theorem dX2_next_1 : decode cX2_next 1 = .ok (.getfield 24, 3) := by decide +kernel
theorem dX2_next_4 : decode cX2_next 4 = .ok (.iload_n 1, 1) := by decide +kernel
theorem dX2_next_5 : decode cX2_next 5 = .ok (.invokevirtual 55, 3) := by decide +kernel
theorem dX2_next_8 : decode cX2_next 8 = .ok (.ifCond .eq 15, 3) := by decide +kernel
theorem dX2_next_11 : decode cX2_next 11 = .ok (.aload_n 0, 1) := by decide +kernel
theorem dX2_next_12 : decode cX2_next 12 = .ok (.getfield 24, 3) := by decide +kernel
theorem dX2_next_15 : decode cX2_next 15 = .ok (.getfield 59, 3) := by decide +kernel
theorem dX2_next_18 : decode cX2_next 18 = .ok (.iload_n 1, 1) := by decide +kernel
theorem dX2_next_19 : decode cX2_next 19 = .ok (.laload, 1) := by decide +kernel
theorem dX2_next_20 : decode cX2_next 20 = .ok (.goto 4, 3) := by decide +kernel
theorem dX2_next_23 : decode cX2_next 23 = .ok (.lconst 0, 1) := by decide +kernel
theorem dX2_next_24 : decode cX2_next 24 = .ok (.lreturn, 1) := by decide +kernel
theorem dX2_last_0 : decode cX2_last 0 = .ok (.aload_n 0, 1) := by decide +kernel
theorem dX2_last_1 : decode cX2_last 1 = .ok (.getfield 24, 3) := by decide +kernel
theorem dX2_last_4 : decode cX2_last 4 = .ok (.getfield 63, 3) := by decide +kernel
theorem dX2_last_7 : decode cX2_last 7 = .ok (.lreturn, 1) := by decide +kernel
theorem dX2_name_0 : decode cX2_name 0 = .ok (.aload_n 0, 1) := by decide +kernel
theorem dX2_name_1 : decode cX2_name 1 = .ok (.getfield 24, 3) := by decide +kernel
theorem dX2_name_4 : decode cX2_name 4 = .ok (.iload_n 1, 1) := by decide +kernel
theorem dX2_name_5 : decode cX2_name 5 = .ok (.invokevirtual 55, 3) := by decide +kernel
theorem dX2_name_8 : decode cX2_name 8 = .ok (.ifCond .eq 15, 3) := by decide +kernel
theorem dX2_name_11 : decode cX2_name 11 = .ok (.aload_n 0, 1) := by decide +kernel
theorem dX2_name_12 : decode cX2_name 12 = .ok (.getfield 24, 3) := by decide +kernel
theorem dX2_name_15 : decode cX2_name 15 = .ok (.getfield 66, 3) := by decide +kernel
theorem dX2_name_18 : decode cX2_name 18 = .ok (.iload_n 1, 1) := by decide +kernel
theorem dX2_name_19 : decode cX2_name 19 = .ok (.iaload, 1) := by decide +kernel
theorem dX2_name_20 : decode cX2_name 20 = .ok (.goto 4, 3) := by decide +kernel
theorem dX2_name_23 : decode cX2_name 23 = .ok (.iconst (-1), 1) := by decide +kernel
theorem dX2_name_24 : decode cX2_name 24 = .ok (.ireturn, 1) := by decide +kernel
theorem dX2_come_0 : decode cX2_come 0 = .ok (.aload_n 0, 1) := by decide +kernel
theorem dX2_come_1 : decode cX2_come 1 = .ok (.getfield 24, 3) := by decide +kernel
theorem dX2_come_4 : decode cX2_come 4 = .ok (.iload_n 1, 1) := by decide +kernel
theorem dX2_come_5 : decode cX2_come 5 = .ok (.aload_n 0, 1) := by decide +kernel
theorem dX2_come_6 : decode cX2_come 6 = .ok (.getfield 70, 3) := by decide +kernel
theorem dX2_come_9 : decode cX2_come 9 = .ok (.invokevirtual 73, 3) := by decide +kernel
theorem dX2_come_12 : decode cX2_come 12 = .ok (.lstore_n 2, 1) := by decide +kernel
theorem dX2_come_13 : decode cX2_come 13 = .ok (.lload_n 2, 1) := by decide +kernel
theorem dX2_come_14 : decode cX2_come 14 = .ok (.lconst 0, 1) := by decide +kernel
theorem dX2_come_15 : decode cX2_come 15 = .ok (.lcmp, 1) := by decide +kernel
theorem dX2_come_16 : decode cX2_come 16 = .ok (.ifCond .ne 5, 3) := by decide +kernel
theorem dX2_come_19 : decode cX2_come 19 = .ok (.iconst 0, 1) := by decide +kernel
theorem dX2_come_20 : decode cX2_come 20 = .ok (.ireturn, 1) := by decide +kernel
theorem dX2_come_21 : decode cX2_come 21 = .ok (.aload_n 0, 1) := by decide +kernel
theorem dX2_come_22 : decode cX2_come 22 = .ok (.aload_n 0, 1) := by decide +kernel
theorem dX2_come_23 : decode cX2_come 23 = .ok (.getfield 24, 3) := by decide +kernel
theorem dX2_come_26 : decode cX2_come 26 = .ok (.lload_n 2, 1) := by decide +kernel
theorem dX2_come_27 : decode cX2_come 27 = .ok (.invokevirtual 77, 3) := by decide +kernel
theorem dX2_come_30 : decode cX2_come 30 = .ok (.putfield 70, 3) := by decide +kernel
theorem dX2_come_33 : decode cX2_come 33 = .ok (.aload_n 0, 1) := by decide +kernel
theorem dX2_come_34 : decode cX2_come 34 = .ok (.lload_n 2, 1) := by decide +kernel
theorem dX2_come_35 : decode cX2_come 35 = .ok (.aload_n 0, 1) := by decide +kernel
theorem dX2_come_36 : decode cX2_come 36 = .ok (.getfield 24, 3) := by decide +kernel
theorem dX2_come_39 : decode cX2_come 39 = .ok (.getfield 63, 3) := by decide +kernel
theorem dX2_come_42 : decode cX2_come 42 = .ok (.land, 1) := by decide +kernel
theorem dX2_come_43 : decode cX2_come 43 = .ok (.lconst 0, 1) := by decide +kernel
theorem dX2_come_44 : decode cX2_come 44 = .ok (.lcmp, 1) := by decide +kernel
theorem dX2_come_45 : decode cX2_come 45 = .ok (.ifCond .eq 7, 3) := by decide +kernel
theorem dX2_come_48 : decode cX2_come 48 = .ok (.iconst 1, 1) := by decide +kernel
theorem dX2_come_49 : decode cX2_come 49 = .ok (.goto 4, 3) := by decide +kernel
theorem dX2_come_52 : decode cX2_come 52 = .ok (.iconst 0, 1) := by decide +kernel
theorem dX2_come_53 : decode cX2_come 53 = .ok (.putfield 81, 3) := by decide +kernel
theorem dX2_come_56 : decode cX2_come 56 = .ok (.aload_n 0, 1) := by decide +kernel
theorem dX2_come_57 : decode cX2_come 57 = .ok (.dup, 1) := by decide +kernel
theorem dX2_come_58 : decode cX2_come 58 = .ok (.getfield 84, 3) := by decide +kernel
theorem dX2_come_61 : decode cX2_come 61 = .ok (.iconst 1, 1) := by decide +kernel
theorem dX2_come_62 : decode cX2_come 62 = .ok (.iadd, 1) := by decide +kernel
theorem dX2_come_63 : decode cX2_come 63 = .ok (.putfield 84, 3) := by decide +kernel
theorem dX2_come_66 : decode cX2_come 66 = .ok (.iconst 1, 1) := by decide +kernel
theorem dX2_come_67 : decode cX2_come 67 = .ok (.ireturn, 1) := by decide +kernel
theorem dX2_isWhole_0 : decode cX2_isWhole 0 = .ok (.aload_n 0, 1) := by decide +kernel
theorem dX2_isWhole_1 : decode cX2_isWhole 1 = .ok (.getfield 81, 3) := by decide +kernel
theorem dX2_isWhole_4 : decode cX2_isWhole 4 = .ok (.ireturn, 1) := by decide +kernel
theorem dX2_may_0 : decode cX2_may 0 = .ok (.aload_n 0, 1) := by decide +kernel
theorem dX2_may_1 : decode cX2_may 1 = .ok (.getfield 24, 3) := by decide +kernel
theorem dX2_may_4 : decode cX2_may 4 = .ok (.aload_n 0, 1) := by decide +kernel
theorem dX2_may_5 : decode cX2_may 5 = .ok (.getfield 70, 3) := by decide +kernel
theorem dX2_may_8 : decode cX2_may 8 = .ok (.invokevirtual 87, 3) := by decide +kernel
theorem dX2_may_11 : decode cX2_may 11 = .ok (.ireturn, 1) := by decide +kernel
theorem dX2_again_0 : decode cX2_again 0 = .ok (.aload_n 0, 1) := by decide +kernel
theorem dX2_again_1 : decode cX2_again 1 = .ok (.getfield 84, 3) := by decide +kernel
theorem dX2_again_4 : decode cX2_again 4 = .ok (.istore_n 1, 1) := by decide +kernel
theorem dX2_again_5 : decode cX2_again 5 = .ok (.aload_n 0, 1) := by decide +kernel
theorem dX2_again_6 : decode cX2_again 6 = .ok (.invokevirtual 38, 3) := by decide +kernel
theorem dX2_again_9 : decode cX2_again 9 = .ok (.iload_n 1, 1) := by decide +kernel
theorem dX2_again_10 : decode cX2_again 10 = .ok (.ireturn, 1) := by decide +kernel
theorem dX2_readText_0 : decode cX2_readText 0 = .ok (.aload_n 0, 1) := by decide +kernel
theorem dX2_readText_1 : decode cX2_readText 1 = .ok (.getfield 16, 3) := by decide +kernel
theorem dX2_readText_4 : decode cX2_readText 4 = .ok (.invokevirtual 91, 3) := by decide +kernel
theorem dX2_readText_7 : decode cX2_readText 7 = .ok (.iconst 0, 1) := by decide +kernel
theorem dX2_readText_8 : decode cX2_readText 8 = .ok (.istore_n 1, 1) := by decide +kernel
theorem dX2_readText_9 : decode cX2_readText 9 = .ok (.iload_n 1, 1) := by decide +kernel
theorem dX2_readText_10 : decode cX2_readText 10 = .ok (.aload_n 0, 1) := by decide +kernel
theorem dX2_readText_11 : decode cX2_readText 11 = .ok (.getfield 25, 3) := by decide +kernel
theorem dX2_readText_14 : decode cX2_readText 14 = .ok (.if_icmp .ge 43, 3) := by decide +kernel
theorem dX2_readText_17 : decode cX2_readText 17 = .ok (.aload_n 0, 1) := by decide +kernel
theorem dX2_readText_18 : decode cX2_readText 18 = .ok (.getfield 16, 3) := by decide +kernel
theorem dX2_readText_21 : decode cX2_readText 21 = .ok (.aload_n 0, 1) := by decide +kernel
theorem dX2_readText_22 : decode cX2_readText 22 = .ok (.getfield 9, 3) := by decide +kernel
theorem dX2_readText_25 : decode cX2_readText 25 = .ok (.iload_n 1, 1) := by decide +kernel
theorem dX2_readText_26 : decode cX2_readText 26 = .ok (.baload, 1) := by decide +kernel
theorem dX2_readText_27 : decode cX2_readText 27 = .ok (.invokevirtual 94, 3) := by decide +kernel
theorem dX2_readText_30 : decode cX2_readText 30 = .ok (.istore_n 2, 1) := by decide +kernel
theorem dX2_readText_31 : decode cX2_readText 31 = .ok (.iload_n 2, 1) := by decide +kernel
theorem dX2_readText_32 : decode cX2_readText 32 = .ok (.iconst 1, 1) := by decide +kernel
theorem dX2_readText_33 : decode cX2_readText 33 = .ok (.if_icmp .ne 7, 3) := by decide +kernel
theorem dX2_readText_36 : decode cX2_readText 36 = .ok (.iconst (-1), 1) := by decide +kernel
theorem dX2_readText_37 : decode cX2_readText 37 = .ok (.iload_n 1, 1) := by decide +kernel
theorem dX2_readText_38 : decode cX2_readText 38 = .ok (.isub, 1) := by decide +kernel
theorem dX2_readText_39 : decode cX2_readText 39 = .ok (.ireturn, 1) := by decide +kernel
theorem dX2_readText_40 : decode cX2_readText 40 = .ok (.iload_n 2, 1) := by decide +kernel
theorem dX2_readText_41 : decode cX2_readText 41 = .ok (.iconst 2, 1) := by decide +kernel
theorem dX2_readText_42 : decode cX2_readText 42 = .ok (.if_icmp .ne 9, 3) := by decide +kernel
theorem dX2_readText_45 : decode cX2_readText 45 = .ok (.sipush (-1000), 3) := by decide +kernel
theorem dX2_readText_48 : decode cX2_readText 48 = .ok (.iload_n 1, 1) := by decide +kernel
theorem dX2_readText_49 : decode cX2_readText 49 = .ok (.isub, 1) := by decide +kernel
theorem dX2_readText_50 : decode cX2_readText 50 = .ok (.ireturn, 1) := by decide +kernel
theorem dX2_readText_51 : decode cX2_readText 51 = .ok (.iinc 1 1, 3) := by decide +kernel
theorem dX2_readText_54 : decode cX2_readText 54 = .ok (.goto (-45), 3) := by decide +kernel
theorem dX2_readText_57 : decode cX2_readText 57 = .ok (.aload_n 0, 1) := by decide +kernel
theorem dX2_readText_58 : decode cX2_readText 58 = .ok (.getfield 16, 3) := by decide +kernel
theorem dX2_readText_61 : decode cX2_readText 61 = .ok (.invokevirtual 98, 3) := by decide +kernel
theorem dX2_readText_64 : decode cX2_readText 64 = .ok (.ifCond .eq 13, 3) := by decide +kernel
theorem dX2_readText_67 : decode cX2_readText 67 = .ok (.aload_n 0, 1) := by decide +kernel
theorem dX2_readText_68 : decode cX2_readText 68 = .ok (.getfield 24, 3) := by decide +kernel
theorem dX2_readText_71 : decode cX2_readText 71 = .ok (.getfield 41, 3) := by decide +kernel
theorem dX2_readText_74 : decode cX2_readText 74 = .ok (.goto 9, 3) := by decide +kernel
theorem dX2_readText_77 : decode cX2_readText 77 = .ok (.iconst (-1), 1) := by decide +kernel
theorem dX2_readText_78 : decode cX2_readText 78 = .ok (.aload_n 0, 1) := by decide +kernel
theorem dX2_readText_79 : decode cX2_readText 79 = .ok (.getfield 25, 3) := by decide +kernel
theorem dX2_readText_82 : decode cX2_readText 82 = .ok (.isub, 1) := by decide +kernel
theorem dX2_readText_83 : decode cX2_readText 83 = .ok (.ireturn, 1) := by decide +kernel
theorem dX2_startRow_0 : decode cX2_startRow 0 = .ok (.aload_n 0, 1) := by decide +kernel
theorem dX2_startRow_1 : decode cX2_startRow 1 = .ok (.aload_n 0, 1) := by decide +kernel
theorem dX2_startRow_2 : decode cX2_startRow 2 = .ok (.getfield 24, 3) := by decide +kernel
theorem dX2_startRow_5 : decode cX2_startRow 5 = .ok (.getfield 51, 3) := by decide +kernel
theorem dX2_startRow_8 : decode cX2_startRow 8 = .ok (.putfield 70, 3) := by decide +kernel
theorem dX2_startRow_11 : decode cX2_startRow 11 = .ok (.aload_n 0, 1) := by decide +kernel
theorem dX2_startRow_12 : decode cX2_startRow 12 = .ok (.aload_n 0, 1) := by decide +kernel
theorem dX2_startRow_13 : decode cX2_startRow 13 = .ok (.getfield 24, 3) := by decide +kernel
theorem dX2_startRow_16 : decode cX2_startRow 16 = .ok (.getfield 47, 3) := by decide +kernel
theorem dX2_startRow_19 : decode cX2_startRow 19 = .ok (.putfield 81, 3) := by decide +kernel
theorem dX2_startRow_22 : decode cX2_startRow 22 = .ok (.aload_n 0, 1) := by decide +kernel
theorem dX2_startRow_23 : decode cX2_startRow 23 = .ok (.iconst 0, 1) := by decide +kernel
theorem dX2_startRow_24 : decode cX2_startRow 24 = .ok (.putfield 84, 3) := by decide +kernel
theorem dX2_startRow_27 : decode cX2_startRow 27 = .ok (.return_, 1) := by decide +kernel
