theorem dX3_init_0 : decode cX3_init 0 = .ok (.aload_n 0, 1) := by decide +kernel
theorem dX3_init_1 : decode cX3_init 1 = .ok (.invokespecial 1, 3) := by decide +kernel
theorem dX3_init_4 : decode cX3_init 4 = .ok (.aload_n 0, 1) := by decide +kernel
theorem dX3_init_5 : decode cX3_init 5 = .ok (.sipush 300, 3) := by decide +kernel
theorem dX3_init_8 : decode cX3_init 8 = .ok (.newarray .int, 2) := by decide +kernel
theorem dX3_init_10 : decode cX3_init 10 = .ok (.putfield 7, 3) := by decide +kernel
theorem dX3_init_13 : decode cX3_init 13 = .ok (.aload_n 0, 1) := by decide +kernel
theorem dX3_init_14 : decode cX3_init 14 = .ok (.sipush 700, 3) := by decide +kernel
theorem dX3_init_17 : decode cX3_init 17 = .ok (.newarray .int, 2) := by decide +kernel
theorem dX3_init_19 : decode cX3_init 19 = .ok (.putfield 13, 3) := by decide +kernel
theorem dX3_init_22 : decode cX3_init 22 = .ok (.aload_n 0, 1) := by decide +kernel
theorem dX3_init_23 : decode cX3_init 23 = .ok (.sipush 700, 3) := by decide +kernel
theorem dX3_init_26 : decode cX3_init 26 = .ok (.newarray .int, 2) := by decide +kernel
theorem dX3_init_28 : decode cX3_init 28 = .ok (.putfield 16, 3) := by decide +kernel
theorem dX3_init_31 : decode cX3_init 31 = .ok (.aload_n 0, 1) := by decide +kernel
theorem dX3_init_32 : decode cX3_init 32 = .ok (.sipush 700, 3) := by decide +kernel
theorem dX3_init_35 : decode cX3_init 35 = .ok (.newarray .int, 2) := by decide +kernel
theorem dX3_init_37 : decode cX3_init 37 = .ok (.putfield 19, 3) := by decide +kernel
theorem dX3_init_40 : decode cX3_init 40 = .ok (.aload_n 0, 1) := by decide +kernel
theorem dX3_init_41 : decode cX3_init 41 = .ok (.sipush 700, 3) := by decide +kernel
theorem dX3_init_44 : decode cX3_init 44 = .ok (.newarray .int, 2) := by decide +kernel
theorem dX3_init_46 : decode cX3_init 46 = .ok (.putfield 22, 3) := by decide +kernel
theorem dX3_init_49 : decode cX3_init 49 = .ok (.aload_n 0, 1) := by decide +kernel
theorem dX3_init_50 : decode cX3_init 50 = .ok (.sipush 700, 3) := by decide +kernel
theorem dX3_init_53 : decode cX3_init 53 = .ok (.newarray .boolean, 2) := by decide +kernel
theorem dX3_init_55 : decode cX3_init 55 = .ok (.putfield 25, 3) := by decide +kernel
theorem dX3_init_58 : decode cX3_init 58 = .ok (.aload_n 0, 1) := by decide +kernel
theorem dX3_init_59 : decode cX3_init 59 = .ok (.bipush 60, 2) := by decide +kernel
theorem dX3_init_61 : decode cX3_init 61 = .ok (.newarray .int, 2) := by decide +kernel
theorem dX3_init_63 : decode cX3_init 63 = .ok (.putfield 29, 3) := by decide +kernel
theorem dX3_init_66 : decode cX3_init 66 = .ok (.aload_n 0, 1) := by decide +kernel
theorem dX3_init_67 : decode cX3_init 67 = .ok (.bipush 60, 2) := by decide +kernel
theorem dX3_init_69 : decode cX3_init 69 = .ok (.newarray .int, 2) := by decide +kernel
theorem dX3_init_71 : decode cX3_init 71 = .ok (.putfield 32, 3) := by decide +kernel
theorem dX3_init_74 : decode cX3_init 74 = .ok (.aload_n 0, 1) := by decide +kernel
theorem dX3_init_75 : decode cX3_init 75 = .ok (.bipush 12, 2) := by decide +kernel
theorem dX3_init_77 : decode cX3_init 77 = .ok (.newarray .int, 2) := by decide +kernel
theorem dX3_init_79 : decode cX3_init 79 = .ok (.putfield 35, 3) := by decide +kernel
theorem dX3_init_82 : decode cX3_init 82 = .ok (.aload_n 0, 1) := by decide +kernel
theorem dX3_init_83 : decode cX3_init 83 = .ok (.bipush 12, 2) := by decide +kernel
theorem dX3_init_85 : decode cX3_init 85 = .ok (.newarray .int, 2) := by decide +kernel
theorem dX3_init_87 : decode cX3_init 87 = .ok (.putfield 38, 3) := by decide +kernel
theorem dX3_init_90 : decode cX3_init 90 = .ok (.return_, 1) := by decide +kernel
theorem dX3_put_0 : decode cX3_put 0 = .ok (.iload_n 3, 1) := by decide +kernel
theorem dX3_put_1 : decode cX3_put 1 = .ok (.iconst 1, 1) := by decide +kernel
theorem dX3_put_2 : decode cX3_put 2 = .ok (.if_icmp .lt 21, 3) := by decide +kernel
theorem dX3_put_5 : decode cX3_put 5 = .ok (.iload_n 3, 1) := by decide +kernel
theorem dX3_put_6 : decode cX3_put 6 = .ok (.bipush 8, 2) := by decide +kernel
theorem dX3_put_8 : decode cX3_put 8 = .ok (.if_icmp .gt 15, 3) := by decide +kernel
theorem dX3_put_11 : decode cX3_put 11 = .ok (.aload_n 0, 1) := by decide +kernel
theorem dX3_put_12 : decode cX3_put 12 = .ok (.getfield 41, 3) := by decide +kernel
theorem dX3_put_15 : decode cX3_put 15 = .ok (.iload_n 3, 1) := by decide +kernel
theorem dX3_put_16 : decode cX3_put 16 = .ok (.iadd, 1) := by decide +kernel
theorem dX3_put_17 : decode cX3_put 17 = .ok (.sipush 300, 3) := by decide +kernel
theorem dX3_put_20 : decode cX3_put 20 = .ok (.if_icmp .le 5, 3) := by decide +kernel
theorem dX3_put_23 : decode cX3_put 23 = .ok (.iconst 0, 1) := by decide +kernel
theorem dX3_put_24 : decode cX3_put 24 = .ok (.ireturn, 1) := by decide +kernel
theorem dX3_put_25 : decode cX3_put 25 = .ok (.iconst 0, 1) := by decide +kernel
theorem dX3_put_26 : decode cX3_put 26 = .ok (.istore 4, 2) := by decide +kernel
theorem dX3_put_28 : decode cX3_put 28 = .ok (.iload 4, 2) := by decide +kernel
theorem dX3_put_30 : decode cX3_put 30 = .ok (.iload_n 3, 1) := by decide +kernel
theorem dX3_put_31 : decode cX3_put 31 = .ok (.if_icmp .ge 37, 3) := by decide +kernel
theorem dX3_put_34 : decode cX3_put 34 = .ok (.aload_n 0, 1) := by decide +kernel
theorem dX3_put_35 : decode cX3_put 35 = .ok (.getfield 7, 3) := by decide +kernel
theorem dX3_put_38 : decode cX3_put 38 = .ok (.aload_n 0, 1) := by decide +kernel
theorem dX3_put_39 : decode cX3_put 39 = .ok (.getfield 41, 3) := by decide +kernel
theorem dX3_put_42 : decode cX3_put 42 = .ok (.iload 4, 2) := by decide +kernel
theorem dX3_put_44 : decode cX3_put 44 = .ok (.iadd, 1) := by decide +kernel
theorem dX3_put_45 : decode cX3_put 45 = .ok (.lload_n 1, 1) := by decide +kernel
theorem dX3_put_46 : decode cX3_put 46 = .ok (.bipush 8, 2) := by decide +kernel
theorem dX3_put_48 : decode cX3_put 48 = .ok (.iload_n 3, 1) := by decide +kernel
theorem dX3_put_49 : decode cX3_put 49 = .ok (.iconst 1, 1) := by decide +kernel
theorem dX3_put_50 : decode cX3_put 50 = .ok (.isub, 1) := by decide +kernel
theorem dX3_put_51 : decode cX3_put 51 = .ok (.iload 4, 2) := by decide +kernel
theorem dX3_put_53 : decode cX3_put 53 = .ok (.isub, 1) := by decide +kernel
theorem dX3_put_54 : decode cX3_put 54 = .ok (.imul, 1) := by decide +kernel
theorem dX3_put_55 : decode cX3_put 55 = .ok (.lshr, 1) := by decide +kernel
theorem dX3_put_56 : decode cX3_put 56 = .ok (.ldc2_w 45, 3) := by decide +kernel
theorem dX3_put_59 : decode cX3_put 59 = .ok (.land, 1) := by decide +kernel
theorem dX3_put_60 : decode cX3_put 60 = .ok (.l2i, 1) := by decide +kernel
theorem dX3_put_61 : decode cX3_put 61 = .ok (.iastore, 1) := by decide +kernel
theorem dX3_put_62 : decode cX3_put 62 = .ok (.iinc 4 1, 3) := by decide +kernel
theorem dX3_put_65 : decode cX3_put 65 = .ok (.goto (-37), 3) := by decide +kernel
theorem dX3_put_68 : decode cX3_put 68 = .ok (.aload_n 0, 1) := by decide +kernel
theorem dX3_put_69 : decode cX3_put 69 = .ok (.aload_n 0, 1) := by decide +kernel
theorem dX3_put_70 : decode cX3_put 70 = .ok (.getfield 41, 3) := by decide +kernel
theorem dX3_put_73 : decode cX3_put 73 = .ok (.iload_n 3, 1) := by decide +kernel
theorem dX3_put_74 : decode cX3_put 74 = .ok (.iadd, 1) := by decide +kernel
theorem dX3_put_75 : decode cX3_put 75 = .ok (.putfield 41, 3) := by decide +kernel
theorem dX3_put_78 : decode cX3_put 78 = .ok (.iconst 1, 1) := by decide +kernel
theorem dX3_put_79 : decode cX3_put 79 = .ok (.ireturn, 1) := by decide +kernel
theorem dX3_at_0 : decode cX3_at 0 = .ok (.iload_n 1, 1) := by decide +kernel
theorem dX3_at_1 : decode cX3_at 1 = .ok (.aload_n 0, 1) := by decide +kernel
theorem dX3_at_2 : decode cX3_at 2 = .ok (.getfield 41, 3) := by decide +kernel
theorem dX3_at_5 : decode cX3_at 5 = .ok (.if_icmp .ge 12, 3) := by decide +kernel
theorem dX3_at_8 : decode cX3_at 8 = .ok (.aload_n 0, 1) := by decide +kernel
theorem dX3_at_9 : decode cX3_at 9 = .ok (.getfield 7, 3) := by decide +kernel
theorem dX3_at_12 : decode cX3_at 12 = .ok (.iload_n 1, 1) := by decide +kernel
theorem dX3_at_13 : decode cX3_at 13 = .ok (.iaload, 1) := by decide +kernel
theorem dX3_at_14 : decode cX3_at 14 = .ok (.goto 4, 3) := by decide +kernel
theorem dX3_at_17 : decode cX3_at 17 = .ok (.iconst (-1), 1) := by decide +kernel
theorem dX3_at_18 : decode cX3_at 18 = .ok (.ireturn, 1) := by decide +kernel
theorem dX3_node_0 : decode cX3_node 0 = .ok (.aload_n 0, 1) := by decide +kernel
theorem dX3_node_1 : decode cX3_node 1 = .ok (.getfield 13, 3) := by decide +kernel
theorem dX3_node_4 : decode cX3_node 4 = .ok (.aload_n 0, 1) := by decide +kernel
theorem dX3_node_5 : decode cX3_node 5 = .ok (.getfield 47, 3) := by decide +kernel
theorem dX3_node_8 : decode cX3_node 8 = .ok (.iload_n 1, 1) := by decide +kernel
theorem dX3_node_9 : decode cX3_node 9 = .ok (.iastore, 1) := by decide +kernel
theorem dX3_node_10 : decode cX3_node 10 = .ok (.aload_n 0, 1) := by decide +kernel
theorem dX3_node_11 : decode cX3_node 11 = .ok (.getfield 16, 3) := by decide +kernel
theorem dX3_node_14 : decode cX3_node 14 = .ok (.aload_n 0, 1) := by decide +kernel
theorem dX3_node_15 : decode cX3_node 15 = .ok (.getfield 47, 3) := by decide +kernel
theorem dX3_node_18 : decode cX3_node 18 = .ok (.iconst (-1), 1) := by decide +kernel
theorem dX3_node_19 : decode cX3_node 19 = .ok (.iastore, 1) := by decide +kernel
theorem dX3_node_20 : decode cX3_node 20 = .ok (.aload_n 0, 1) := by decide +kernel
theorem dX3_node_21 : decode cX3_node 21 = .ok (.getfield 19, 3) := by decide +kernel
theorem dX3_node_24 : decode cX3_node 24 = .ok (.aload_n 0, 1) := by decide +kernel
theorem dX3_node_25 : decode cX3_node 25 = .ok (.getfield 47, 3) := by decide +kernel
theorem dX3_node_28 : decode cX3_node 28 = .ok (.iconst (-1), 1) := by decide +kernel
theorem dX3_node_29 : decode cX3_node 29 = .ok (.iastore, 1) := by decide +kernel
theorem dX3_node_30 : decode cX3_node 30 = .ok (.aload_n 0, 1) := by decide +kernel
theorem dX3_node_31 : decode cX3_node 31 = .ok (.getfield 22, 3) := by decide +kernel
theorem dX3_node_34 : decode cX3_node 34 = .ok (.aload_n 0, 1) := by decide +kernel
theorem dX3_node_35 : decode cX3_node 35 = .ok (.getfield 47, 3) := by decide +kernel
theorem dX3_node_38 : decode cX3_node 38 = .ok (.iconst (-1), 1) := by decide +kernel
theorem dX3_node_39 : decode cX3_node 39 = .ok (.iastore, 1) := by decide +kernel
theorem dX3_node_40 : decode cX3_node 40 = .ok (.aload_n 0, 1) := by decide +kernel
theorem dX3_node_41 : decode cX3_node 41 = .ok (.getfield 25, 3) := by decide +kernel
theorem dX3_node_44 : decode cX3_node 44 = .ok (.aload_n 0, 1) := by decide +kernel
theorem dX3_node_45 : decode cX3_node 45 = .ok (.getfield 47, 3) := by decide +kernel
theorem dX3_node_48 : decode cX3_node 48 = .ok (.iload_n 1, 1) := by decide +kernel
theorem dX3_node_49 : decode cX3_node 49 = .ok (.iconst 3, 1) := by decide +kernel
theorem dX3_node_50 : decode cX3_node 50 = .ok (.if_icmp .eq 8, 3) := by decide +kernel
theorem dX3_node_53 : decode cX3_node 53 = .ok (.iload_n 1, 1) := by decide +kernel
theorem dX3_node_54 : decode cX3_node 54 = .ok (.iconst 4, 1) := by decide +kernel
theorem dX3_node_55 : decode cX3_node 55 = .ok (.if_icmp .ne 7, 3) := by decide +kernel
theorem dX3_node_58 : decode cX3_node 58 = .ok (.iconst 1, 1) := by decide +kernel
theorem dX3_node_59 : decode cX3_node 59 = .ok (.goto 4, 3) := by decide +kernel
theorem dX3_node_62 : decode cX3_node 62 = .ok (.iconst 0, 1) := by decide +kernel
theorem dX3_node_63 : decode cX3_node 63 = .ok (.bastore, 1) := by decide +kernel
theorem dX3_node_64 : decode cX3_node 64 = .ok (.aload_n 0, 1) := by decide +kernel
theorem dX3_node_65 : decode cX3_node 65 = .ok (.aload_n 0, 1) := by decide +kernel
theorem dX3_node_66 : decode cX3_node 66 = .ok (.getfield 47, 3) := by decide +kernel
theorem dX3_node_69 : decode cX3_node 69 = .ok (.iconst 1, 1) := by decide +kernel
theorem dX3_node_70 : decode cX3_node 70 = .ok (.iadd, 1) := by decide +kernel
theorem dX3_node_71 : decode cX3_node 71 = .ok (.putfield 47, 3) := by decide +kernel
theorem dX3_node_74 : decode cX3_node 74 = .ok (.aload_n 0, 1) := by decide +kernel
theorem dX3_node_75 : decode cX3_node 75 = .ok (.getfield 47, 3) := by decide +kernel
theorem dX3_node_78 : decode cX3_node 78 = .ok (.iconst 1, 1) := by decide +kernel
theorem dX3_node_79 : decode cX3_node 79 = .ok (.isub, 1) := by decide +kernel
theorem dX3_node_80 : decode cX3_node 80 = .ok (.ireturn, 1) := by decide +kernel
theorem dX3_add_0 : decode cX3_add 0 = .ok (.aload_n 0, 1) := by decide +kernel
theorem dX3_add_1 : decode cX3_add 1 = .ok (.getfield 35, 3) := by decide +kernel
theorem dX3_add_4 : decode cX3_add 4 = .ok (.aload_n 0, 1) := by decide +kernel
theorem dX3_add_5 : decode cX3_add 5 = .ok (.getfield 50, 3) := by decide +kernel
theorem dX3_add_8 : decode cX3_add 8 = .ok (.iconst 1, 1) := by decide +kernel
theorem dX3_add_9 : decode cX3_add 9 = .ok (.isub, 1) := by decide +kernel
theorem dX3_add_10 : decode cX3_add 10 = .ok (.iaload, 1) := by decide +kernel
theorem dX3_add_11 : decode cX3_add 11 = .ok (.istore_n 2, 1) := by decide +kernel
theorem dX3_add_12 : decode cX3_add 12 = .ok (.aload_n 0, 1) := by decide +kernel
theorem dX3_add_13 : decode cX3_add 13 = .ok (.getfield 19, 3) := by decide +kernel
theorem dX3_add_16 : decode cX3_add 16 = .ok (.iload_n 1, 1) := by decide +kernel
theorem dX3_add_17 : decode cX3_add 17 = .ok (.iload_n 2, 1) := by decide +kernel
theorem dX3_add_18 : decode cX3_add 18 = .ok (.iastore, 1) := by decide +kernel
theorem dX3_add_19 : decode cX3_add 19 = .ok (.iload_n 2, 1) := by decide +kernel
theorem dX3_add_20 : decode cX3_add 20 = .ok (.ifCond .lt 10, 3) := by decide +kernel
theorem dX3_add_23 : decode cX3_add 23 = .ok (.aload_n 0, 1) := by decide +kernel
theorem dX3_add_24 : decode cX3_add 24 = .ok (.getfield 22, 3) := by decide +kernel
theorem dX3_add_27 : decode cX3_add 27 = .ok (.iload_n 2, 1) := by decide +kernel
theorem dX3_add_28 : decode cX3_add 28 = .ok (.iload_n 1, 1) := by decide +kernel
theorem dX3_add_29 : decode cX3_add 29 = .ok (.iastore, 1) := by decide +kernel
theorem dX3_add_30 : decode cX3_add 30 = .ok (.aload_n 0, 1) := by decide +kernel
theorem dX3_add_31 : decode cX3_add 31 = .ok (.getfield 35, 3) := by decide +kernel
theorem dX3_add_34 : decode cX3_add 34 = .ok (.aload_n 0, 1) := by decide +kernel
theorem dX3_add_35 : decode cX3_add 35 = .ok (.getfield 50, 3) := by decide +kernel
theorem dX3_add_38 : decode cX3_add 38 = .ok (.iconst 1, 1) := by decide +kernel
theorem dX3_add_39 : decode cX3_add 39 = .ok (.isub, 1) := by decide +kernel
theorem dX3_add_40 : decode cX3_add 40 = .ok (.iload_n 1, 1) := by decide +kernel
theorem dX3_add_41 : decode cX3_add 41 = .ok (.iastore, 1) := by decide +kernel
theorem dX3_add_42 : decode cX3_add 42 = .ok (.return_, 1) := by decide +kernel
theorem dX3_signed_0 : decode cX3_signed 0 = .ok (.aload_n 0, 1) := by decide +kernel
theorem dX3_signed_1 : decode cX3_signed 1 = .ok (.iload_n 2, 1) := by decide +kernel
theorem dX3_signed_2 : decode cX3_signed 2 = .ok (.bipush 63, 2) := by decide +kernel
theorem dX3_signed_4 : decode cX3_signed 4 = .ok (.if_icmp .ne 7, 3) := by decide +kernel
theorem dX3_signed_7 : decode cX3_signed 7 = .ok (.iconst 3, 1) := by decide +kernel
theorem dX3_signed_8 : decode cX3_signed 8 = .ok (.goto 14, 3) := by decide +kernel
theorem dX3_signed_11 : decode cX3_signed 11 = .ok (.iload_n 2, 1) := by decide +kernel
theorem dX3_signed_12 : decode cX3_signed 12 = .ok (.bipush 42, 2) := by decide +kernel
theorem dX3_signed_14 : decode cX3_signed 14 = .ok (.if_icmp .ne 7, 3) := by decide +kernel
theorem dX3_signed_17 : decode cX3_signed 17 = .ok (.iconst 4, 1) := by decide +kernel
theorem dX3_signed_18 : decode cX3_signed 18 = .ok (.goto 4, 3) := by decide +kernel
theorem dX3_signed_21 : decode cX3_signed 21 = .ok (.iconst 5, 1) := by decide +kernel
theorem dX3_signed_22 : decode cX3_signed 22 = .ok (.invokevirtual 53, 3) := by decide +kernel
theorem dX3_signed_25 : decode cX3_signed 25 = .ok (.istore_n 3, 1) := by decide +kernel
theorem dX3_signed_26 : decode cX3_signed 26 = .ok (.aload_n 0, 1) := by decide +kernel
theorem dX3_signed_27 : decode cX3_signed 27 = .ok (.getfield 16, 3) := by decide +kernel
theorem dX3_signed_30 : decode cX3_signed 30 = .ok (.iload_n 1, 1) := by decide +kernel
theorem dX3_signed_31 : decode cX3_signed 31 = .ok (.iload_n 3, 1) := by decide +kernel
theorem dX3_signed_32 : decode cX3_signed 32 = .ok (.iastore, 1) := by decide +kernel
theorem dX3_signed_33 : decode cX3_signed 33 = .ok (.iload_n 2, 1) := by decide +kernel
theorem dX3_signed_34 : decode cX3_signed 34 = .ok (.bipush 43, 2) := by decide +kernel
theorem dX3_signed_36 : decode cX3_signed 36 = .ok (.if_icmp .ne 15, 3) := by decide +kernel
theorem dX3_signed_39 : decode cX3_signed 39 = .ok (.aload_n 0, 1) := by decide +kernel
theorem dX3_signed_40 : decode cX3_signed 40 = .ok (.getfield 25, 3) := by decide +kernel
theorem dX3_signed_43 : decode cX3_signed 43 = .ok (.iload_n 3, 1) := by decide +kernel
theorem dX3_signed_44 : decode cX3_signed 44 = .ok (.aload_n 0, 1) := by decide +kernel
theorem dX3_signed_45 : decode cX3_signed 45 = .ok (.getfield 25, 3) := by decide +kernel
theorem dX3_signed_48 : decode cX3_signed 48 = .ok (.iload_n 1, 1) := by decide +kernel
theorem dX3_signed_49 : decode cX3_signed 49 = .ok (.baload, 1) := by decide +kernel
theorem dX3_signed_50 : decode cX3_signed 50 = .ok (.bastore, 1) := by decide +kernel
theorem dX3_signed_51 : decode cX3_signed 51 = .ok (.iload_n 3, 1) := by decide +kernel
theorem dX3_signed_52 : decode cX3_signed 52 = .ok (.ireturn, 1) := by decide +kernel
theorem dX3_isSign_0 : decode cX3_isSign 0 = .ok (.iload_n 0, 1) := by decide +kernel
theorem dX3_isSign_1 : decode cX3_isSign 1 = .ok (.bipush 63, 2) := by decide +kernel
theorem dX3_isSign_3 : decode cX3_isSign 3 = .ok (.if_icmp .eq 15, 3) := by decide +kernel
theorem dX3_isSign_6 : decode cX3_isSign 6 = .ok (.iload_n 0, 1) := by decide +kernel
theorem dX3_isSign_7 : decode cX3_isSign 7 = .ok (.bipush 42, 2) := by decide +kernel
theorem dX3_isSign_9 : decode cX3_isSign 9 = .ok (.if_icmp .eq 9, 3) := by decide +kernel
theorem dX3_isSign_12 : decode cX3_isSign 12 = .ok (.iload_n 0, 1) := by decide +kernel
theorem dX3_isSign_13 : decode cX3_isSign 13 = .ok (.bipush 43, 2) := by decide +kernel
theorem dX3_isSign_15 : decode cX3_isSign 15 = .ok (.if_icmp .ne 7, 3) := by decide +kernel
theorem dX3_isSign_18 : decode cX3_isSign 18 = .ok (.iconst 1, 1) := by decide +kernel
theorem dX3_isSign_19 : decode cX3_isSign 19 = .ok (.goto 4, 3) := by decide +kernel
theorem dX3_isSign_22 : decode cX3_isSign 22 = .ok (.iconst 0, 1) := by decide +kernel
theorem dX3_isSign_23 : decode cX3_isSign 23 = .ok (.ireturn, 1) := by decide +kernel
theorem dX3_close_0 : decode cX3_close 0 = .ok (.aload_n 0, 1) := by decide +kernel
theorem dX3_close_1 : decode cX3_close 1 = .ok (.aload_n 0, 1) := by decide +kernel
theorem dX3_close_2 : decode cX3_close 2 = .ok (.getfield 38, 3) := by decide +kernel
theorem dX3_close_5 : decode cX3_close 5 = .ok (.aload_n 0, 1) := by decide +kernel
theorem dX3_close_6 : decode cX3_close 6 = .ok (.getfield 50, 3) := by decide +kernel
theorem dX3_close_9 : decode cX3_close 9 = .ok (.iconst 1, 1) := by decide +kernel
theorem dX3_close_10 : decode cX3_close 10 = .ok (.isub, 1) := by decide +kernel
theorem dX3_close_11 : decode cX3_close 11 = .ok (.iaload, 1) := by decide +kernel
theorem dX3_close_12 : decode cX3_close 12 = .ok (.iconst 1, 1) := by decide +kernel
theorem dX3_close_13 : decode cX3_close 13 = .ok (.if_icmp .ne 7, 3) := by decide +kernel
theorem dX3_close_16 : decode cX3_close 16 = .ok (.iconst 1, 1) := by decide +kernel
theorem dX3_close_17 : decode cX3_close 17 = .ok (.goto 4, 3) := by decide +kernel
theorem dX3_close_20 : decode cX3_close 20 = .ok (.iconst 2, 1) := by decide +kernel
theorem dX3_close_21 : decode cX3_close 21 = .ok (.invokevirtual 53, 3) := by decide +kernel
theorem dX3_close_24 : decode cX3_close 24 = .ok (.istore_n 1, 1) := by decide +kernel
theorem dX3_close_25 : decode cX3_close 25 = .ok (.iconst 1, 1) := by decide +kernel
theorem dX3_close_26 : decode cX3_close 26 = .ok (.istore_n 2, 1) := by decide +kernel
theorem dX3_close_27 : decode cX3_close 27 = .ok (.iconst 0, 1) := by decide +kernel
theorem dX3_close_28 : decode cX3_close 28 = .ok (.istore_n 3, 1) := by decide +kernel
theorem dX3_close_29 : decode cX3_close 29 = .ok (.aload_n 0, 1) := by decide +kernel
theorem dX3_close_30 : decode cX3_close 30 = .ok (.getfield 35, 3) := by decide +kernel
theorem dX3_close_33 : decode cX3_close 33 = .ok (.aload_n 0, 1) := by decide +kernel
theorem dX3_close_34 : decode cX3_close 34 = .ok (.getfield 50, 3) := by decide +kernel
theorem dX3_close_37 : decode cX3_close 37 = .ok (.iconst 1, 1) := by decide +kernel
theorem dX3_close_38 : decode cX3_close 38 = .ok (.isub, 1) := by decide +kernel
theorem dX3_close_39 : decode cX3_close 39 = .ok (.iaload, 1) := by decide +kernel
theorem dX3_close_40 : decode cX3_close 40 = .ok (.istore 4, 2) := by decide +kernel
theorem dX3_close_42 : decode cX3_close 42 = .ok (.iload 4, 2) := by decide +kernel
theorem dX3_close_44 : decode cX3_close 44 = .ok (.ifCond .lt 63, 3) := by decide +kernel
theorem dX3_close_47 : decode cX3_close 47 = .ok (.aload_n 0, 1) := by decide +kernel
theorem dX3_close_48 : decode cX3_close 48 = .ok (.getfield 16, 3) := by decide +kernel
theorem dX3_close_51 : decode cX3_close 51 = .ok (.iload 4, 2) := by decide +kernel
theorem dX3_close_53 : decode cX3_close 53 = .ok (.iload_n 1, 1) := by decide +kernel
theorem dX3_close_54 : decode cX3_close 54 = .ok (.iastore, 1) := by decide +kernel
theorem dX3_close_55 : decode cX3_close 55 = .ok (.iload_n 2, 1) := by decide +kernel
theorem dX3_close_56 : decode cX3_close 56 = .ok (.ifCond .eq 17, 3) := by decide +kernel
theorem dX3_close_59 : decode cX3_close 59 = .ok (.aload_n 0, 1) := by decide +kernel
theorem dX3_close_60 : decode cX3_close 60 = .ok (.getfield 25, 3) := by decide +kernel
theorem dX3_close_63 : decode cX3_close 63 = .ok (.iload 4, 2) := by decide +kernel
theorem dX3_close_65 : decode cX3_close 65 = .ok (.baload, 1) := by decide +kernel
theorem dX3_close_66 : decode cX3_close 66 = .ok (.ifCond .eq 7, 3) := by decide +kernel
theorem dX3_close_69 : decode cX3_close 69 = .ok (.iconst 1, 1) := by decide +kernel
theorem dX3_close_70 : decode cX3_close 70 = .ok (.goto 4, 3) := by decide +kernel
theorem dX3_close_73 : decode cX3_close 73 = .ok (.iconst 0, 1) := by decide +kernel
theorem dX3_close_74 : decode cX3_close 74 = .ok (.istore_n 2, 1) := by decide +kernel
theorem dX3_close_75 : decode cX3_close 75 = .ok (.iload_n 3, 1) := by decide +kernel
theorem dX3_close_76 : decode cX3_close 76 = .ok (.ifCond .ne 13, 3) := by decide +kernel
theorem dX3_close_79 : decode cX3_close 79 = .ok (.aload_n 0, 1) := by decide +kernel
theorem dX3_close_80 : decode cX3_close 80 = .ok (.getfield 25, 3) := by decide +kernel
theorem dX3_close_83 : decode cX3_close 83 = .ok (.iload 4, 2) := by decide +kernel
theorem dX3_close_85 : decode cX3_close 85 = .ok (.baload, 1) := by decide +kernel
theorem dX3_close_86 : decode cX3_close 86 = .ok (.ifCond .eq 7, 3) := by decide +kernel
theorem dX3_close_89 : decode cX3_close 89 = .ok (.iconst 1, 1) := by decide +kernel
theorem dX3_close_90 : decode cX3_close 90 = .ok (.goto 4, 3) := by decide +kernel
theorem dX3_close_93 : decode cX3_close 93 = .ok (.iconst 0, 1) := by decide +kernel
theorem dX3_close_94 : decode cX3_close 94 = .ok (.istore_n 3, 1) := by decide +kernel
theorem dX3_close_95 : decode cX3_close 95 = .ok (.aload_n 0, 1) := by decide +kernel
theorem dX3_close_96 : decode cX3_close 96 = .ok (.getfield 19, 3) := by decide +kernel
theorem dX3_close_99 : decode cX3_close 99 = .ok (.iload 4, 2) := by decide +kernel
theorem dX3_close_101 : decode cX3_close 101 = .ok (.iaload, 1) := by decide +kernel
theorem dX3_close_102 : decode cX3_close 102 = .ok (.istore 4, 2) := by decide +kernel
theorem dX3_close_104 : decode cX3_close 104 = .ok (.goto (-62), 3) := by decide +kernel
theorem dX3_close_107 : decode cX3_close 107 = .ok (.aload_n 0, 1) := by decide +kernel
theorem dX3_close_108 : decode cX3_close 108 = .ok (.getfield 25, 3) := by decide +kernel
theorem dX3_close_111 : decode cX3_close 111 = .ok (.iload_n 1, 1) := by decide +kernel
theorem dX3_close_112 : decode cX3_close 112 = .ok (.aload_n 0, 1) := by decide +kernel
theorem dX3_close_113 : decode cX3_close 113 = .ok (.getfield 13, 3) := by decide +kernel
theorem dX3_close_116 : decode cX3_close 116 = .ok (.iload_n 1, 1) := by decide +kernel
theorem dX3_close_117 : decode cX3_close 117 = .ok (.iaload, 1) := by decide +kernel
theorem dX3_close_118 : decode cX3_close 118 = .ok (.iconst 1, 1) := by decide +kernel
theorem dX3_close_119 : decode cX3_close 119 = .ok (.if_icmp .ne 7, 3) := by decide +kernel
theorem dX3_close_122 : decode cX3_close 122 = .ok (.iload_n 3, 1) := by decide +kernel
theorem dX3_close_123 : decode cX3_close 123 = .ok (.goto 4, 3) := by decide +kernel
theorem dX3_close_126 : decode cX3_close 126 = .ok (.iload_n 2, 1) := by decide +kernel
theorem dX3_close_127 : decode cX3_close 127 = .ok (.bastore, 1) := by decide +kernel
theorem dX3_close_128 : decode cX3_close 128 = .ok (.aload_n 0, 1) := by decide +kernel
theorem dX3_close_129 : decode cX3_close 129 = .ok (.aload_n 0, 1) := by decide +kernel
theorem dX3_close_130 : decode cX3_close 130 = .ok (.getfield 50, 3) := by decide +kernel
theorem dX3_close_133 : decode cX3_close 133 = .ok (.iconst 1, 1) := by decide +kernel
theorem dX3_close_134 : decode cX3_close 134 = .ok (.isub, 1) := by decide +kernel
theorem dX3_close_135 : decode cX3_close 135 = .ok (.putfield 50, 3) := by decide +kernel
theorem dX3_close_138 : decode cX3_close 138 = .ok (.iload_n 1, 1) := by decide +kernel
theorem dX3_close_139 : decode cX3_close 139 = .ok (.ireturn, 1) := by decide +kernel
theorem dX3_open_0 : decode cX3_open 0 = .ok (.aload_n 0, 1) := by decide +kernel
theorem dX3_open_1 : decode cX3_open 1 = .ok (.getfield 50, 3) := by decide +kernel
theorem dX3_open_4 : decode cX3_open 4 = .ok (.bipush 12, 2) := by decide +kernel
theorem dX3_open_6 : decode cX3_open 6 = .ok (.if_icmp .ne 5, 3) := by decide +kernel
theorem dX3_open_9 : decode cX3_open 9 = .ok (.iconst 0, 1) := by decide +kernel
theorem dX3_open_10 : decode cX3_open 10 = .ok (.ireturn, 1) := by decide +kernel
theorem dX3_open_11 : decode cX3_open 11 = .ok (.aload_n 0, 1) := by decide +kernel
theorem dX3_open_12 : decode cX3_open 12 = .ok (.getfield 35, 3) := by decide +kernel
theorem dX3_open_15 : decode cX3_open 15 = .ok (.aload_n 0, 1) := by decide +kernel
theorem dX3_open_16 : decode cX3_open 16 = .ok (.getfield 50, 3) := by decide +kernel
theorem dX3_open_19 : decode cX3_open 19 = .ok (.iconst (-1), 1) := by decide +kernel
theorem dX3_open_20 : decode cX3_open 20 = .ok (.iastore, 1) := by decide +kernel
theorem dX3_open_21 : decode cX3_open 21 = .ok (.aload_n 0, 1) := by decide +kernel
theorem dX3_open_22 : decode cX3_open 22 = .ok (.getfield 38, 3) := by decide +kernel
theorem dX3_open_25 : decode cX3_open 25 = .ok (.aload_n 0, 1) := by decide +kernel
theorem dX3_open_26 : decode cX3_open 26 = .ok (.getfield 50, 3) := by decide +kernel
theorem dX3_open_29 : decode cX3_open 29 = .ok (.iconst (-1), 1) := by decide +kernel
theorem dX3_open_30 : decode cX3_open 30 = .ok (.iastore, 1) := by decide +kernel
theorem dX3_open_31 : decode cX3_open 31 = .ok (.aload_n 0, 1) := by decide +kernel
theorem dX3_open_32 : decode cX3_open 32 = .ok (.aload_n 0, 1) := by decide +kernel
theorem dX3_open_33 : decode cX3_open 33 = .ok (.getfield 50, 3) := by decide +kernel
theorem dX3_open_36 : decode cX3_open 36 = .ok (.iconst 1, 1) := by decide +kernel
theorem dX3_open_37 : decode cX3_open 37 = .ok (.iadd, 1) := by decide +kernel
theorem dX3_open_38 : decode cX3_open 38 = .ok (.putfield 50, 3) := by decide +kernel
theorem dX3_open_41 : decode cX3_open 41 = .ok (.iconst 1, 1) := by decide +kernel
theorem dX3_open_42 : decode cX3_open 42 = .ok (.ireturn, 1) := by decide +kernel
theorem dX3_parse_0 : decode cX3_parse 0 = .ok (.aload_n 0, 1) := by decide +kernel
theorem dX3_parse_1 : decode cX3_parse 1 = .ok (.iconst 0, 1) := by decide +kernel
theorem dX3_parse_2 : decode cX3_parse 2 = .ok (.invokevirtual 57, 3) := by decide +kernel
theorem dX3_parse_5 : decode cX3_parse 5 = .ok (.bipush 40, 2) := by decide +kernel
theorem dX3_parse_7 : decode cX3_parse 7 = .ok (.if_icmp .eq 5, 3) := by decide +kernel
theorem dX3_parse_10 : decode cX3_parse 10 = .ok (.iconst (-1), 1) := by decide +kernel
theorem dX3_parse_11 : decode cX3_parse 11 = .ok (.ireturn, 1) := by decide +kernel
theorem dX3_parse_12 : decode cX3_parse 12 = .ok (.aload_n 0, 1) := by decide +kernel
theorem dX3_parse_13 : decode cX3_parse 13 = .ok (.invokevirtual 60, 3) := by decide +kernel
theorem dX3_parse_16 : decode cX3_parse 16 = .ok (.pop, 1) := by decide +kernel
theorem dX3_parse_17 : decode cX3_parse 17 = .ok (.iconst 1, 1) := by decide +kernel
theorem dX3_parse_18 : decode cX3_parse 18 = .ok (.istore_n 1, 1) := by decide +kernel
theorem dX3_parse_19 : decode cX3_parse 19 = .ok (.iconst 1, 1) := by decide +kernel
theorem dX3_parse_20 : decode cX3_parse 20 = .ok (.istore_n 2, 1) := by decide +kernel
theorem dX3_parse_21 : decode cX3_parse 21 = .ok (.aload_n 0, 1) := by decide +kernel
theorem dX3_parse_22 : decode cX3_parse 22 = .ok (.getfield 50, 3) := by decide +kernel
theorem dX3_parse_25 : decode cX3_parse 25 = .ok (.ifCond .le 332, 3) := by decide +kernel
theorem dX3_parse_28 : decode cX3_parse 28 = .ok (.aload_n 0, 1) := by decide +kernel
theorem dX3_parse_29 : decode cX3_parse 29 = .ok (.iload_n 1, 1) := by decide +kernel
theorem dX3_parse_30 : decode cX3_parse 30 = .ok (.invokevirtual 57, 3) := by decide +kernel
theorem dX3_parse_33 : decode cX3_parse 33 = .ok (.bipush 32, 2) := by decide +kernel
theorem dX3_parse_35 : decode cX3_parse 35 = .ok (.if_icmp .ne 10, 3) := by decide +kernel
theorem dX3_parse_38 : decode cX3_parse 38 = .ok (.iload_n 1, 1) := by decide +kernel
theorem dX3_parse_39 : decode cX3_parse 39 = .ok (.iconst 1, 1) := by decide +kernel
theorem dX3_parse_40 : decode cX3_parse 40 = .ok (.iadd, 1) := by decide +kernel
theorem dX3_parse_41 : decode cX3_parse 41 = .ok (.istore_n 1, 1) := by decide +kernel
theorem dX3_parse_42 : decode cX3_parse 42 = .ok (.goto (-14), 3) := by decide +kernel
theorem dX3_parse_45 : decode cX3_parse 45 = .ok (.aload_n 0, 1) := by decide +kernel
theorem dX3_parse_46 : decode cX3_parse 46 = .ok (.iload_n 1, 1) := by decide +kernel
theorem dX3_parse_47 : decode cX3_parse 47 = .ok (.invokevirtual 57, 3) := by decide +kernel
theorem dX3_parse_50 : decode cX3_parse 50 = .ok (.istore_n 3, 1) := by decide +kernel
theorem dX3_parse_51 : decode cX3_parse 51 = .ok (.iload_n 2, 1) := by decide +kernel
theorem dX3_parse_52 : decode cX3_parse 52 = .ok (.ifCond .eq 29, 3) := by decide +kernel
theorem dX3_parse_55 : decode cX3_parse 55 = .ok (.iload_n 3, 1) := by decide +kernel
theorem dX3_parse_56 : decode cX3_parse 56 = .ok (.bipush 40, 2) := by decide +kernel
theorem dX3_parse_58 : decode cX3_parse 58 = .ok (.if_icmp .ne 23, 3) := by decide +kernel
theorem dX3_parse_61 : decode cX3_parse 61 = .ok (.aload_n 0, 1) := by decide +kernel
theorem dX3_parse_62 : decode cX3_parse 62 = .ok (.invokevirtual 60, 3) := by decide +kernel
theorem dX3_parse_65 : decode cX3_parse 65 = .ok (.ifCond .ne 9, 3) := by decide +kernel
theorem dX3_parse_68 : decode cX3_parse 68 = .ok (.sipush (-1000), 3) := by decide +kernel
theorem dX3_parse_71 : decode cX3_parse 71 = .ok (.iload_n 1, 1) := by decide +kernel
theorem dX3_parse_72 : decode cX3_parse 72 = .ok (.isub, 1) := by decide +kernel
theorem dX3_parse_73 : decode cX3_parse 73 = .ok (.ireturn, 1) := by decide +kernel
theorem dX3_parse_74 : decode cX3_parse 74 = .ok (.iload_n 1, 1) := by decide +kernel
theorem dX3_parse_75 : decode cX3_parse 75 = .ok (.iconst 1, 1) := by decide +kernel
theorem dX3_parse_76 : decode cX3_parse 76 = .ok (.iadd, 1) := by decide +kernel
theorem dX3_parse_77 : decode cX3_parse 77 = .ok (.istore_n 1, 1) := by decide +kernel
theorem dX3_parse_78 : decode cX3_parse 78 = .ok (.goto 276, 3) := by decide +kernel
theorem dX3_parse_81 : decode cX3_parse 81 = .ok (.iload_n 2, 1) := by decide +kernel
theorem dX3_parse_82 : decode cX3_parse 82 = .ok (.ifCond .eq 118, 3) := by decide +kernel
theorem dX3_parse_85 : decode cX3_parse 85 = .ok (.iload_n 3, 1) := by decide +kernel
theorem dX3_parse_86 : decode cX3_parse 86 = .ok (.bipush 97, 2) := by decide +kernel
theorem dX3_parse_88 : decode cX3_parse 88 = .ok (.if_icmp .lt 9, 3) := by decide +kernel
theorem dX3_parse_91 : decode cX3_parse 91 = .ok (.iload_n 3, 1) := by decide +kernel
theorem dX3_parse_92 : decode cX3_parse 92 = .ok (.bipush 122, 2) := by decide +kernel
theorem dX3_parse_94 : decode cX3_parse 94 = .ok (.if_icmp .le 7, 3) := by decide +kernel
theorem dX3_parse_97 : decode cX3_parse 97 = .ok (.iconst (-1), 1) := by decide +kernel
theorem dX3_parse_98 : decode cX3_parse 98 = .ok (.iload_n 1, 1) := by decide +kernel
theorem dX3_parse_99 : decode cX3_parse 99 = .ok (.isub, 1) := by decide +kernel
theorem dX3_parse_100 : decode cX3_parse 100 = .ok (.ireturn, 1) := by decide +kernel
theorem dX3_parse_101 : decode cX3_parse 101 = .ok (.aload_n 0, 1) := by decide +kernel
theorem dX3_parse_102 : decode cX3_parse 102 = .ok (.getfield 64, 3) := by decide +kernel
theorem dX3_parse_105 : decode cX3_parse 105 = .ok (.bipush 60, 2) := by decide +kernel
theorem dX3_parse_107 : decode cX3_parse 107 = .ok (.if_icmp .ne 9, 3) := by decide +kernel
theorem dX3_parse_110 : decode cX3_parse 110 = .ok (.sipush (-1000), 3) := by decide +kernel
theorem dX3_parse_113 : decode cX3_parse 113 = .ok (.iload_n 1, 1) := by decide +kernel
theorem dX3_parse_114 : decode cX3_parse 114 = .ok (.isub, 1) := by decide +kernel
theorem dX3_parse_115 : decode cX3_parse 115 = .ok (.ireturn, 1) := by decide +kernel
theorem dX3_parse_116 : decode cX3_parse 116 = .ok (.aload_n 0, 1) := by decide +kernel
theorem dX3_parse_117 : decode cX3_parse 117 = .ok (.iconst 0, 1) := by decide +kernel
theorem dX3_parse_118 : decode cX3_parse 118 = .ok (.invokevirtual 53, 3) := by decide +kernel
theorem dX3_parse_121 : decode cX3_parse 121 = .ok (.istore 4, 2) := by decide +kernel
theorem dX3_parse_123 : decode cX3_parse 123 = .ok (.aload_n 0, 1) := by decide +kernel
theorem dX3_parse_124 : decode cX3_parse 124 = .ok (.getfield 29, 3) := by decide +kernel
theorem dX3_parse_127 : decode cX3_parse 127 = .ok (.aload_n 0, 1) := by decide +kernel
theorem dX3_parse_128 : decode cX3_parse 128 = .ok (.getfield 64, 3) := by decide +kernel
theorem dX3_parse_131 : decode cX3_parse 131 = .ok (.iload 4, 2) := by decide +kernel
theorem dX3_parse_133 : decode cX3_parse 133 = .ok (.iastore, 1) := by decide +kernel
theorem dX3_parse_134 : decode cX3_parse 134 = .ok (.aload_n 0, 1) := by decide +kernel
theorem dX3_parse_135 : decode cX3_parse 135 = .ok (.getfield 32, 3) := by decide +kernel
theorem dX3_parse_138 : decode cX3_parse 138 = .ok (.aload_n 0, 1) := by decide +kernel
theorem dX3_parse_139 : decode cX3_parse 139 = .ok (.getfield 64, 3) := by decide +kernel
theorem dX3_parse_142 : decode cX3_parse 142 = .ok (.iload_n 3, 1) := by decide +kernel
theorem dX3_parse_143 : decode cX3_parse 143 = .ok (.bipush 97, 2) := by decide +kernel
theorem dX3_parse_145 : decode cX3_parse 145 = .ok (.isub, 1) := by decide +kernel
theorem dX3_parse_146 : decode cX3_parse 146 = .ok (.iastore, 1) := by decide +kernel
theorem dX3_parse_147 : decode cX3_parse 147 = .ok (.aload_n 0, 1) := by decide +kernel
theorem dX3_parse_148 : decode cX3_parse 148 = .ok (.aload_n 0, 1) := by decide +kernel
theorem dX3_parse_149 : decode cX3_parse 149 = .ok (.getfield 64, 3) := by decide +kernel
theorem dX3_parse_152 : decode cX3_parse 152 = .ok (.iconst 1, 1) := by decide +kernel
theorem dX3_parse_153 : decode cX3_parse 153 = .ok (.iadd, 1) := by decide +kernel
theorem dX3_parse_154 : decode cX3_parse 154 = .ok (.putfield 64, 3) := by decide +kernel
theorem dX3_parse_157 : decode cX3_parse 157 = .ok (.iload_n 1, 1) := by decide +kernel
theorem dX3_parse_158 : decode cX3_parse 158 = .ok (.iconst 1, 1) := by decide +kernel
theorem dX3_parse_159 : decode cX3_parse 159 = .ok (.iadd, 1) := by decide +kernel
theorem dX3_parse_160 : decode cX3_parse 160 = .ok (.istore_n 1, 1) := by decide +kernel
theorem dX3_parse_161 : decode cX3_parse 161 = .ok (.aload_n 0, 1) := by decide +kernel
theorem dX3_parse_162 : decode cX3_parse 162 = .ok (.iload_n 1, 1) := by decide +kernel
theorem dX3_parse_163 : decode cX3_parse 163 = .ok (.invokevirtual 57, 3) := by decide +kernel
theorem dX3_parse_166 : decode cX3_parse 166 = .ok (.invokestatic 67, 3) := by decide +kernel
theorem dX3_parse_169 : decode cX3_parse 169 = .ok (.ifCond .eq 20, 3) := by decide +kernel
theorem dX3_parse_172 : decode cX3_parse 172 = .ok (.aload_n 0, 1) := by decide +kernel
theorem dX3_parse_173 : decode cX3_parse 173 = .ok (.iload 4, 2) := by decide +kernel
theorem dX3_parse_175 : decode cX3_parse 175 = .ok (.aload_n 0, 1) := by decide +kernel
theorem dX3_parse_176 : decode cX3_parse 176 = .ok (.iload_n 1, 1) := by decide +kernel
theorem dX3_parse_177 : decode cX3_parse 177 = .ok (.invokevirtual 57, 3) := by decide +kernel
theorem dX3_parse_180 : decode cX3_parse 180 = .ok (.invokevirtual 71, 3) := by decide +kernel
theorem dX3_parse_183 : decode cX3_parse 183 = .ok (.istore 4, 2) := by decide +kernel
theorem dX3_parse_185 : decode cX3_parse 185 = .ok (.iload_n 1, 1) := by decide +kernel
theorem dX3_parse_186 : decode cX3_parse 186 = .ok (.iconst 1, 1) := by decide +kernel
theorem dX3_parse_187 : decode cX3_parse 187 = .ok (.iadd, 1) := by decide +kernel
theorem dX3_parse_188 : decode cX3_parse 188 = .ok (.istore_n 1, 1) := by decide +kernel
theorem dX3_parse_189 : decode cX3_parse 189 = .ok (.aload_n 0, 1) := by decide +kernel
theorem dX3_parse_190 : decode cX3_parse 190 = .ok (.iload 4, 2) := by decide +kernel
theorem dX3_parse_192 : decode cX3_parse 192 = .ok (.invokevirtual 75, 3) := by decide +kernel
theorem dX3_parse_195 : decode cX3_parse 195 = .ok (.iconst 0, 1) := by decide +kernel
theorem dX3_parse_196 : decode cX3_parse 196 = .ok (.istore_n 2, 1) := by decide +kernel
theorem dX3_parse_197 : decode cX3_parse 197 = .ok (.goto 157, 3) := by decide +kernel
theorem dX3_parse_200 : decode cX3_parse 200 = .ok (.iload_n 3, 1) := by decide +kernel
theorem dX3_parse_201 : decode cX3_parse 201 = .ok (.bipush 124, 2) := by decide +kernel
theorem dX3_parse_203 : decode cX3_parse 203 = .ok (.if_icmp .eq 9, 3) := by decide +kernel
theorem dX3_parse_206 : decode cX3_parse 206 = .ok (.iload_n 3, 1) := by decide +kernel
theorem dX3_parse_207 : decode cX3_parse 207 = .ok (.bipush 44, 2) := by decide +kernel
theorem dX3_parse_209 : decode cX3_parse 209 = .ok (.if_icmp .ne 72, 3) := by decide +kernel
theorem dX3_parse_212 : decode cX3_parse 212 = .ok (.iload_n 3, 1) := by decide +kernel
theorem dX3_parse_213 : decode cX3_parse 213 = .ok (.bipush 124, 2) := by decide +kernel
theorem dX3_parse_215 : decode cX3_parse 215 = .ok (.if_icmp .ne 7, 3) := by decide +kernel
theorem dX3_parse_218 : decode cX3_parse 218 = .ok (.iconst 1, 1) := by decide +kernel
theorem dX3_parse_219 : decode cX3_parse 219 = .ok (.goto 4, 3) := by decide +kernel
theorem dX3_parse_222 : decode cX3_parse 222 = .ok (.iconst 2, 1) := by decide +kernel
theorem dX3_parse_223 : decode cX3_parse 223 = .ok (.istore 4, 2) := by decide +kernel
theorem dX3_parse_225 : decode cX3_parse 225 = .ok (.aload_n 0, 1) := by decide +kernel
theorem dX3_parse_226 : decode cX3_parse 226 = .ok (.getfield 38, 3) := by decide +kernel
theorem dX3_parse_229 : decode cX3_parse 229 = .ok (.aload_n 0, 1) := by decide +kernel
theorem dX3_parse_230 : decode cX3_parse 230 = .ok (.getfield 50, 3) := by decide +kernel
theorem dX3_parse_233 : decode cX3_parse 233 = .ok (.iconst 1, 1) := by decide +kernel
theorem dX3_parse_234 : decode cX3_parse 234 = .ok (.isub, 1) := by decide +kernel
theorem dX3_parse_235 : decode cX3_parse 235 = .ok (.iaload, 1) := by decide +kernel
theorem dX3_parse_236 : decode cX3_parse 236 = .ok (.ifCond .lt 23, 3) := by decide +kernel
theorem dX3_parse_239 : decode cX3_parse 239 = .ok (.aload_n 0, 1) := by decide +kernel
theorem dX3_parse_240 : decode cX3_parse 240 = .ok (.getfield 38, 3) := by decide +kernel
theorem dX3_parse_243 : decode cX3_parse 243 = .ok (.aload_n 0, 1) := by decide +kernel
theorem dX3_parse_244 : decode cX3_parse 244 = .ok (.getfield 50, 3) := by decide +kernel
theorem dX3_parse_247 : decode cX3_parse 247 = .ok (.iconst 1, 1) := by decide +kernel
theorem dX3_parse_248 : decode cX3_parse 248 = .ok (.isub, 1) := by decide +kernel
theorem dX3_parse_249 : decode cX3_parse 249 = .ok (.iaload, 1) := by decide +kernel
theorem dX3_parse_250 : decode cX3_parse 250 = .ok (.iload 4, 2) := by decide +kernel
theorem dX3_parse_252 : decode cX3_parse 252 = .ok (.if_icmp .eq 7, 3) := by decide +kernel
theorem dX3_parse_255 : decode cX3_parse 255 = .ok (.iconst (-1), 1) := by decide +kernel
theorem dX3_parse_256 : decode cX3_parse 256 = .ok (.iload_n 1, 1) := by decide +kernel
theorem dX3_parse_257 : decode cX3_parse 257 = .ok (.isub, 1) := by decide +kernel
theorem dX3_parse_258 : decode cX3_parse 258 = .ok (.ireturn, 1) := by decide +kernel
theorem dX3_parse_259 : decode cX3_parse 259 = .ok (.aload_n 0, 1) := by decide +kernel
theorem dX3_parse_260 : decode cX3_parse 260 = .ok (.getfield 38, 3) := by decide +kernel
theorem dX3_parse_263 : decode cX3_parse 263 = .ok (.aload_n 0, 1) := by decide +kernel
theorem dX3_parse_264 : decode cX3_parse 264 = .ok (.getfield 50, 3) := by decide +kernel
theorem dX3_parse_267 : decode cX3_parse 267 = .ok (.iconst 1, 1) := by decide +kernel
theorem dX3_parse_268 : decode cX3_parse 268 = .ok (.isub, 1) := by decide +kernel
theorem dX3_parse_269 : decode cX3_parse 269 = .ok (.iload 4, 2) := by decide +kernel
theorem dX3_parse_271 : decode cX3_parse 271 = .ok (.iastore, 1) := by decide +kernel
theorem dX3_parse_272 : decode cX3_parse 272 = .ok (.iload_n 1, 1) := by decide +kernel
theorem dX3_parse_273 : decode cX3_parse 273 = .ok (.iconst 1, 1) := by decide +kernel
theorem dX3_parse_274 : decode cX3_parse 274 = .ok (.iadd, 1) := by decide +kernel
theorem dX3_parse_275 : decode cX3_parse 275 = .ok (.istore_n 1, 1) := by decide +kernel
theorem dX3_parse_276 : decode cX3_parse 276 = .ok (.iconst 1, 1) := by decide +kernel
theorem dX3_parse_277 : decode cX3_parse 277 = .ok (.istore_n 2, 1) := by decide +kernel
theorem dX3_parse_278 : decode cX3_parse 278 = .ok (.goto 76, 3) := by decide +kernel
theorem dX3_parse_281 : decode cX3_parse 281 = .ok (.iload_n 3, 1) := by decide +kernel
theorem dX3_parse_282 : decode cX3_parse 282 = .ok (.bipush 41, 2) := by decide +kernel
theorem dX3_parse_284 : decode cX3_parse 284 = .ok (.if_icmp .ne 66, 3) := by decide +kernel
theorem dX3_parse_287 : decode cX3_parse 287 = .ok (.aload_n 0, 1) := by decide +kernel
theorem dX3_parse_288 : decode cX3_parse 288 = .ok (.invokevirtual 79, 3) := by decide +kernel
theorem dX3_parse_291 : decode cX3_parse 291 = .ok (.istore 4, 2) := by decide +kernel
theorem dX3_parse_293 : decode cX3_parse 293 = .ok (.iload_n 1, 1) := by decide +kernel
theorem dX3_parse_294 : decode cX3_parse 294 = .ok (.iconst 1, 1) := by decide +kernel
theorem dX3_parse_295 : decode cX3_parse 295 = .ok (.iadd, 1) := by decide +kernel
theorem dX3_parse_296 : decode cX3_parse 296 = .ok (.istore_n 1, 1) := by decide +kernel
theorem dX3_parse_297 : decode cX3_parse 297 = .ok (.aload_n 0, 1) := by decide +kernel
theorem dX3_parse_298 : decode cX3_parse 298 = .ok (.iload_n 1, 1) := by decide +kernel
theorem dX3_parse_299 : decode cX3_parse 299 = .ok (.invokevirtual 57, 3) := by decide +kernel
theorem dX3_parse_302 : decode cX3_parse 302 = .ok (.invokestatic 67, 3) := by decide +kernel
theorem dX3_parse_305 : decode cX3_parse 305 = .ok (.ifCond .eq 20, 3) := by decide +kernel
theorem dX3_parse_308 : decode cX3_parse 308 = .ok (.aload_n 0, 1) := by decide +kernel
theorem dX3_parse_309 : decode cX3_parse 309 = .ok (.iload 4, 2) := by decide +kernel
theorem dX3_parse_311 : decode cX3_parse 311 = .ok (.aload_n 0, 1) := by decide +kernel
theorem dX3_parse_312 : decode cX3_parse 312 = .ok (.iload_n 1, 1) := by decide +kernel
theorem dX3_parse_313 : decode cX3_parse 313 = .ok (.invokevirtual 57, 3) := by decide +kernel
theorem dX3_parse_316 : decode cX3_parse 316 = .ok (.invokevirtual 71, 3) := by decide +kernel
theorem dX3_parse_319 : decode cX3_parse 319 = .ok (.istore 4, 2) := by decide +kernel
theorem dX3_parse_321 : decode cX3_parse 321 = .ok (.iload_n 1, 1) := by decide +kernel
theorem dX3_parse_322 : decode cX3_parse 322 = .ok (.iconst 1, 1) := by decide +kernel
theorem dX3_parse_323 : decode cX3_parse 323 = .ok (.iadd, 1) := by decide +kernel
theorem dX3_parse_324 : decode cX3_parse 324 = .ok (.istore_n 1, 1) := by decide +kernel
theorem dX3_parse_325 : decode cX3_parse 325 = .ok (.aload_n 0, 1) := by decide +kernel
theorem dX3_parse_326 : decode cX3_parse 326 = .ok (.getfield 50, 3) := by decide +kernel
theorem dX3_parse_329 : decode cX3_parse 329 = .ok (.ifCond .le 12, 3) := by decide +kernel
theorem dX3_parse_332 : decode cX3_parse 332 = .ok (.aload_n 0, 1) := by decide +kernel
theorem dX3_parse_333 : decode cX3_parse 333 = .ok (.iload 4, 2) := by decide +kernel
theorem dX3_parse_335 : decode cX3_parse 335 = .ok (.invokevirtual 75, 3) := by decide +kernel
theorem dX3_parse_338 : decode cX3_parse 338 = .ok (.goto 9, 3) := by decide +kernel
theorem dX3_parse_341 : decode cX3_parse 341 = .ok (.aload_n 0, 1) := by decide +kernel
theorem dX3_parse_342 : decode cX3_parse 342 = .ok (.iload 4, 2) := by decide +kernel
theorem dX3_parse_344 : decode cX3_parse 344 = .ok (.putfield 83, 3) := by decide +kernel
theorem dX3_parse_347 : decode cX3_parse 347 = .ok (.goto 7, 3) := by decide +kernel
theorem dX3_parse_350 : decode cX3_parse 350 = .ok (.iconst (-1), 1) := by decide +kernel
theorem dX3_parse_351 : decode cX3_parse 351 = .ok (.iload_n 1, 1) := by decide +kernel
theorem dX3_parse_352 : decode cX3_parse 352 = .ok (.isub, 1) := by decide +kernel
theorem dX3_parse_353 : decode cX3_parse 353 = .ok (.ireturn, 1) := by decide +kernel
theorem dX3_parse_354 : decode cX3_parse 354 = .ok (.goto (-333), 3) := by decide +kernel
theorem dX3_parse_357 : decode cX3_parse 357 = .ok (.iload_n 1, 1) := by decide +kernel
theorem dX3_parse_358 : decode cX3_parse 358 = .ok (.aload_n 0, 1) := by decide +kernel
theorem dX3_parse_359 : decode cX3_parse 359 = .ok (.getfield 41, 3) := by decide +kernel
theorem dX3_parse_362 : decode cX3_parse 362 = .ok (.if_icmp .ge 9, 3) := by decide +kernel
theorem dX3_parse_365 : decode cX3_parse 365 = .ok (.iconst (-1), 1) := by decide +kernel
theorem dX3_parse_366 : decode cX3_parse 366 = .ok (.iload_n 1, 1) := by decide +kernel
theorem dX3_parse_367 : decode cX3_parse 367 = .ok (.isub, 1) := by decide +kernel
theorem dX3_parse_368 : decode cX3_parse 368 = .ok (.goto 7, 3) := by decide +kernel
theorem dX3_parse_371 : decode cX3_parse 371 = .ok (.aload_n 0, 1) := by decide +kernel
theorem dX3_parse_372 : decode cX3_parse 372 = .ok (.getfield 64, 3) := by decide +kernel
theorem dX3_parse_375 : decode cX3_parse 375 = .ok (.ireturn, 1) := by decide +kernel
theorem dX3_read_0 : decode cX3_read 0 = .ok (.aload_n 0, 1) := by decide +kernel
theorem dX3_read_1 : decode cX3_read 1 = .ok (.iconst 0, 1) := by decide +kernel
theorem dX3_read_2 : decode cX3_read 2 = .ok (.putfield 47, 3) := by decide +kernel
theorem dX3_read_5 : decode cX3_read 5 = .ok (.aload_n 0, 1) := by decide +kernel
theorem dX3_read_6 : decode cX3_read 6 = .ok (.iconst 0, 1) := by decide +kernel
theorem dX3_read_7 : decode cX3_read 7 = .ok (.putfield 64, 3) := by decide +kernel
theorem dX3_read_10 : decode cX3_read 10 = .ok (.aload_n 0, 1) := by decide +kernel
theorem dX3_read_11 : decode cX3_read 11 = .ok (.iconst 0, 1) := by decide +kernel
theorem dX3_read_12 : decode cX3_read 12 = .ok (.putfield 50, 3) := by decide +kernel
theorem dX3_read_15 : decode cX3_read 15 = .ok (.aload_n 0, 1) := by decide +kernel
theorem dX3_read_16 : decode cX3_read 16 = .ok (.iconst 0, 1) := by decide +kernel
theorem dX3_read_17 : decode cX3_read 17 = .ok (.putfield 86, 3) := by decide +kernel
theorem dX3_read_20 : decode cX3_read 20 = .ok (.aload_n 0, 1) := by decide +kernel
theorem dX3_read_21 : decode cX3_read 21 = .ok (.lconst 0, 1) := by decide +kernel
theorem dX3_read_22 : decode cX3_read 22 = .ok (.putfield 89, 3) := by decide +kernel
theorem dX3_read_25 : decode cX3_read 25 = .ok (.aload_n 0, 1) := by decide +kernel
theorem dX3_read_26 : decode cX3_read 26 = .ok (.invokevirtual 93, 3) := by decide +kernel
theorem dX3_read_29 : decode cX3_read 29 = .ok (.istore_n 1, 1) := by decide +kernel
theorem dX3_read_30 : decode cX3_read 30 = .ok (.aload_n 0, 1) := by decide +kernel
theorem dX3_read_31 : decode cX3_read 31 = .ok (.iconst 0, 1) := by decide +kernel
theorem dX3_read_32 : decode cX3_read 32 = .ok (.putfield 41, 3) := by decide +kernel
theorem dX3_read_35 : decode cX3_read 35 = .ok (.aload_n 0, 1) := by decide +kernel
theorem dX3_read_36 : decode cX3_read 36 = .ok (.iload_n 1, 1) := by decide +kernel
theorem dX3_read_37 : decode cX3_read 37 = .ok (.ifCond .lt 7, 3) := by decide +kernel
theorem dX3_read_40 : decode cX3_read 40 = .ok (.iconst 1, 1) := by decide +kernel
theorem dX3_read_41 : decode cX3_read 41 = .ok (.goto 4, 3) := by decide +kernel
theorem dX3_read_44 : decode cX3_read 44 = .ok (.iconst 0, 1) := by decide +kernel
theorem dX3_read_45 : decode cX3_read 45 = .ok (.putfield 96, 3) := by decide +kernel
theorem dX3_read_48 : decode cX3_read 48 = .ok (.aload_n 0, 1) := by decide +kernel
theorem dX3_read_49 : decode cX3_read 49 = .ok (.getfield 96, 3) := by decide +kernel
theorem dX3_read_52 : decode cX3_read 52 = .ok (.ifCond .ne 8, 3) := by decide +kernel
theorem dX3_read_55 : decode cX3_read 55 = .ok (.aload_n 0, 1) := by decide +kernel
theorem dX3_read_56 : decode cX3_read 56 = .ok (.iconst 0, 1) := by decide +kernel
theorem dX3_read_57 : decode cX3_read 57 = .ok (.putfield 64, 3) := by decide +kernel
theorem dX3_read_60 : decode cX3_read 60 = .ok (.iload_n 1, 1) := by decide +kernel
theorem dX3_read_61 : decode cX3_read 61 = .ok (.ireturn, 1) := by decide +kernel
theorem dX3_begins_0 : decode cX3_begins 0 = .ok (.aload_n 0, 1) := by decide +kernel
theorem dX3_begins_1 : decode cX3_begins 1 = .ok (.getfield 29, 3) := by decide +kernel
theorem dX3_begins_4 : decode cX3_begins 4 = .ok (.iload_n 1, 1) := by decide +kernel
theorem dX3_begins_5 : decode cX3_begins 5 = .ok (.iaload, 1) := by decide +kernel
theorem dX3_begins_6 : decode cX3_begins 6 = .ok (.istore_n 3, 1) := by decide +kernel
theorem dX3_begins_7 : decode cX3_begins 7 = .ok (.iload_n 3, 1) := by decide +kernel
theorem dX3_begins_8 : decode cX3_begins 8 = .ok (.iload_n 2, 1) := by decide +kernel
theorem dX3_begins_9 : decode cX3_begins 9 = .ok (.if_icmp .eq 72, 3) := by decide +kernel
theorem dX3_begins_12 : decode cX3_begins 12 = .ok (.aload_n 0, 1) := by decide +kernel
theorem dX3_begins_13 : decode cX3_begins 13 = .ok (.getfield 16, 3) := by decide +kernel
theorem dX3_begins_16 : decode cX3_begins 16 = .ok (.iload_n 3, 1) := by decide +kernel
theorem dX3_begins_17 : decode cX3_begins 17 = .ok (.iaload, 1) := by decide +kernel
theorem dX3_begins_18 : decode cX3_begins 18 = .ok (.istore 4, 2) := by decide +kernel
theorem dX3_begins_20 : decode cX3_begins 20 = .ok (.iload 4, 2) := by decide +kernel
theorem dX3_begins_22 : decode cX3_begins 22 = .ok (.ifCond .ge 5, 3) := by decide +kernel
theorem dX3_begins_25 : decode cX3_begins 25 = .ok (.iconst 0, 1) := by decide +kernel
theorem dX3_begins_26 : decode cX3_begins 26 = .ok (.ireturn, 1) := by decide +kernel
theorem dX3_begins_27 : decode cX3_begins 27 = .ok (.aload_n 0, 1) := by decide +kernel
theorem dX3_begins_28 : decode cX3_begins 28 = .ok (.getfield 19, 3) := by decide +kernel
theorem dX3_begins_31 : decode cX3_begins 31 = .ok (.iload_n 3, 1) := by decide +kernel
theorem dX3_begins_32 : decode cX3_begins 32 = .ok (.iaload, 1) := by decide +kernel
theorem dX3_begins_33 : decode cX3_begins 33 = .ok (.istore 5, 2) := by decide +kernel
theorem dX3_begins_35 : decode cX3_begins 35 = .ok (.iload 5, 2) := by decide +kernel
theorem dX3_begins_37 : decode cX3_begins 37 = .ok (.ifCond .lt 38, 3) := by decide +kernel
theorem dX3_begins_40 : decode cX3_begins 40 = .ok (.aload_n 0, 1) := by decide +kernel
theorem dX3_begins_41 : decode cX3_begins 41 = .ok (.getfield 13, 3) := by decide +kernel
theorem dX3_begins_44 : decode cX3_begins 44 = .ok (.iload 4, 2) := by decide +kernel
theorem dX3_begins_46 : decode cX3_begins 46 = .ok (.iaload, 1) := by decide +kernel
theorem dX3_begins_47 : decode cX3_begins 47 = .ok (.iconst 2, 1) := by decide +kernel
theorem dX3_begins_48 : decode cX3_begins 48 = .ok (.if_icmp .ne 27, 3) := by decide +kernel
theorem dX3_begins_51 : decode cX3_begins 51 = .ok (.aload_n 0, 1) := by decide +kernel
theorem dX3_begins_52 : decode cX3_begins 52 = .ok (.getfield 25, 3) := by decide +kernel
theorem dX3_begins_55 : decode cX3_begins 55 = .ok (.iload 5, 2) := by decide +kernel
theorem dX3_begins_57 : decode cX3_begins 57 = .ok (.baload, 1) := by decide +kernel
theorem dX3_begins_58 : decode cX3_begins 58 = .ok (.ifCond .ne 5, 3) := by decide +kernel
theorem dX3_begins_61 : decode cX3_begins 61 = .ok (.iconst 0, 1) := by decide +kernel
theorem dX3_begins_62 : decode cX3_begins 62 = .ok (.ireturn, 1) := by decide +kernel
theorem dX3_begins_63 : decode cX3_begins 63 = .ok (.aload_n 0, 1) := by decide +kernel
theorem dX3_begins_64 : decode cX3_begins 64 = .ok (.getfield 19, 3) := by decide +kernel
theorem dX3_begins_67 : decode cX3_begins 67 = .ok (.iload 5, 2) := by decide +kernel
theorem dX3_begins_69 : decode cX3_begins 69 = .ok (.iaload, 1) := by decide +kernel
theorem dX3_begins_70 : decode cX3_begins 70 = .ok (.istore 5, 2) := by decide +kernel
theorem dX3_begins_72 : decode cX3_begins 72 = .ok (.goto (-37), 3) := by decide +kernel
theorem dX3_begins_75 : decode cX3_begins 75 = .ok (.iload 4, 2) := by decide +kernel
theorem dX3_begins_77 : decode cX3_begins 77 = .ok (.istore_n 3, 1) := by decide +kernel
theorem dX3_begins_78 : decode cX3_begins 78 = .ok (.goto (-71), 3) := by decide +kernel
theorem dX3_begins_81 : decode cX3_begins 81 = .ok (.iconst 1, 1) := by decide +kernel
theorem dX3_begins_82 : decode cX3_begins 82 = .ok (.ireturn, 1) := by decide +kernel
theorem dX3_firsts_0 : decode cX3_firsts 0 = .ok (.lconst 0, 1) := by decide +kernel
theorem dX3_firsts_1 : decode cX3_firsts 1 = .ok (.lstore_n 2, 1) := by decide +kernel
theorem dX3_firsts_2 : decode cX3_firsts 2 = .ok (.iconst 0, 1) := by decide +kernel
theorem dX3_firsts_3 : decode cX3_firsts 3 = .ok (.istore 4, 2) := by decide +kernel
theorem dX3_firsts_5 : decode cX3_firsts 5 = .ok (.iload 4, 2) := by decide +kernel
theorem dX3_firsts_7 : decode cX3_firsts 7 = .ok (.aload_n 0, 1) := by decide +kernel
theorem dX3_firsts_8 : decode cX3_firsts 8 = .ok (.getfield 64, 3) := by decide +kernel
theorem dX3_firsts_11 : decode cX3_firsts 11 = .ok (.if_icmp .ge 30, 3) := by decide +kernel
theorem dX3_firsts_14 : decode cX3_firsts 14 = .ok (.lload_n 2, 1) := by decide +kernel
theorem dX3_firsts_15 : decode cX3_firsts 15 = .ok (.aload_n 0, 1) := by decide +kernel
theorem dX3_firsts_16 : decode cX3_firsts 16 = .ok (.iload 4, 2) := by decide +kernel
theorem dX3_firsts_18 : decode cX3_firsts 18 = .ok (.iload_n 1, 1) := by decide +kernel
theorem dX3_firsts_19 : decode cX3_firsts 19 = .ok (.invokevirtual 100, 3) := by decide +kernel
theorem dX3_firsts_22 : decode cX3_firsts 22 = .ok (.ifCond .eq 10, 3) := by decide +kernel
theorem dX3_firsts_25 : decode cX3_firsts 25 = .ok (.lconst 1, 1) := by decide +kernel
theorem dX3_firsts_26 : decode cX3_firsts 26 = .ok (.iload 4, 2) := by decide +kernel
theorem dX3_firsts_28 : decode cX3_firsts 28 = .ok (.lshl, 1) := by decide +kernel
theorem dX3_firsts_29 : decode cX3_firsts 29 = .ok (.goto 4, 3) := by decide +kernel
theorem dX3_firsts_32 : decode cX3_firsts 32 = .ok (.lconst 0, 1) := by decide +kernel
theorem dX3_firsts_33 : decode cX3_firsts 33 = .ok (.lor, 1) := by decide +kernel
theorem dX3_firsts_34 : decode cX3_firsts 34 = .ok (.lstore_n 2, 1) := by decide +kernel
theorem dX3_firsts_35 : decode cX3_firsts 35 = .ok (.iinc 4 1, 3) := by decide +kernel
theorem dX3_firsts_38 : decode cX3_firsts 38 = .ok (.goto (-33), 3) := by decide +kernel
theorem dX3_firsts_41 : decode cX3_firsts 41 = .ok (.lload_n 2, 1) := by decide +kernel
theorem dX3_firsts_42 : decode cX3_firsts 42 = .ok (.lreturn, 1) := by decide +kernel
theorem dX3_ends_0 : decode cX3_ends 0 = .ok (.aload_n 0, 1) := by decide +kernel
theorem dX3_ends_1 : decode cX3_ends 1 = .ok (.getfield 29, 3) := by decide +kernel
theorem dX3_ends_4 : decode cX3_ends 4 = .ok (.iload_n 1, 1) := by decide +kernel
theorem dX3_ends_5 : decode cX3_ends 5 = .ok (.iaload, 1) := by decide +kernel
theorem dX3_ends_6 : decode cX3_ends 6 = .ok (.istore_n 2, 1) := by decide +kernel
theorem dX3_ends_7 : decode cX3_ends 7 = .ok (.aload_n 0, 1) := by decide +kernel
theorem dX3_ends_8 : decode cX3_ends 8 = .ok (.getfield 16, 3) := by decide +kernel
theorem dX3_ends_11 : decode cX3_ends 11 = .ok (.iload_n 2, 1) := by decide +kernel
theorem dX3_ends_12 : decode cX3_ends 12 = .ok (.iaload, 1) := by decide +kernel
theorem dX3_ends_13 : decode cX3_ends 13 = .ok (.ifCond .lt 60, 3) := by decide +kernel
theorem dX3_ends_16 : decode cX3_ends 16 = .ok (.aload_n 0, 1) := by decide +kernel
theorem dX3_ends_17 : decode cX3_ends 17 = .ok (.getfield 22, 3) := by decide +kernel
theorem dX3_ends_20 : decode cX3_ends 20 = .ok (.iload_n 2, 1) := by decide +kernel
theorem dX3_ends_21 : decode cX3_ends 21 = .ok (.iaload, 1) := by decide +kernel
theorem dX3_ends_22 : decode cX3_ends 22 = .ok (.istore_n 3, 1) := by decide +kernel
theorem dX3_ends_23 : decode cX3_ends 23 = .ok (.iload_n 3, 1) := by decide +kernel
theorem dX3_ends_24 : decode cX3_ends 24 = .ok (.ifCond .lt 39, 3) := by decide +kernel
theorem dX3_ends_27 : decode cX3_ends 27 = .ok (.aload_n 0, 1) := by decide +kernel
theorem dX3_ends_28 : decode cX3_ends 28 = .ok (.getfield 13, 3) := by decide +kernel
theorem dX3_ends_31 : decode cX3_ends 31 = .ok (.aload_n 0, 1) := by decide +kernel
theorem dX3_ends_32 : decode cX3_ends 32 = .ok (.getfield 16, 3) := by decide +kernel
theorem dX3_ends_35 : decode cX3_ends 35 = .ok (.iload_n 2, 1) := by decide +kernel
theorem dX3_ends_36 : decode cX3_ends 36 = .ok (.iaload, 1) := by decide +kernel
theorem dX3_ends_37 : decode cX3_ends 37 = .ok (.iaload, 1) := by decide +kernel
theorem dX3_ends_38 : decode cX3_ends 38 = .ok (.iconst 2, 1) := by decide +kernel
theorem dX3_ends_39 : decode cX3_ends 39 = .ok (.if_icmp .ne 24, 3) := by decide +kernel
theorem dX3_ends_42 : decode cX3_ends 42 = .ok (.aload_n 0, 1) := by decide +kernel
theorem dX3_ends_43 : decode cX3_ends 43 = .ok (.getfield 25, 3) := by decide +kernel
theorem dX3_ends_46 : decode cX3_ends 46 = .ok (.iload_n 3, 1) := by decide +kernel
theorem dX3_ends_47 : decode cX3_ends 47 = .ok (.baload, 1) := by decide +kernel
theorem dX3_ends_48 : decode cX3_ends 48 = .ok (.ifCond .ne 5, 3) := by decide +kernel
theorem dX3_ends_51 : decode cX3_ends 51 = .ok (.iconst 0, 1) := by decide +kernel
theorem dX3_ends_52 : decode cX3_ends 52 = .ok (.ireturn, 1) := by decide +kernel
theorem dX3_ends_53 : decode cX3_ends 53 = .ok (.aload_n 0, 1) := by decide +kernel
theorem dX3_ends_54 : decode cX3_ends 54 = .ok (.getfield 22, 3) := by decide +kernel
theorem dX3_ends_57 : decode cX3_ends 57 = .ok (.iload_n 3, 1) := by decide +kernel
theorem dX3_ends_58 : decode cX3_ends 58 = .ok (.iaload, 1) := by decide +kernel
theorem dX3_ends_59 : decode cX3_ends 59 = .ok (.istore_n 3, 1) := by decide +kernel
theorem dX3_ends_60 : decode cX3_ends 60 = .ok (.goto (-37), 3) := by decide +kernel
theorem dX3_ends_63 : decode cX3_ends 63 = .ok (.aload_n 0, 1) := by decide +kernel
theorem dX3_ends_64 : decode cX3_ends 64 = .ok (.getfield 16, 3) := by decide +kernel
theorem dX3_ends_67 : decode cX3_ends 67 = .ok (.iload_n 2, 1) := by decide +kernel
theorem dX3_ends_68 : decode cX3_ends 68 = .ok (.iaload, 1) := by decide +kernel
theorem dX3_ends_69 : decode cX3_ends 69 = .ok (.istore_n 2, 1) := by decide +kernel
theorem dX3_ends_70 : decode cX3_ends 70 = .ok (.goto (-63), 3) := by decide +kernel
theorem dX3_ends_73 : decode cX3_ends 73 = .ok (.iconst 1, 1) := by decide +kernel
theorem dX3_ends_74 : decode cX3_ends 74 = .ok (.ireturn, 1) := by decide +kernel
theorem dX3_first_0 : decode cX3_first 0 = .ok (.aload_n 0, 1) := by decide +kernel
theorem dX3_first_1 : decode cX3_first 1 = .ok (.getfield 96, 3) := by decide +kernel
theorem dX3_first_4 : decode cX3_first 4 = .ok (.ifCond .eq 14, 3) := by decide +kernel
theorem dX3_first_7 : decode cX3_first 7 = .ok (.aload_n 0, 1) := by decide +kernel
theorem dX3_first_8 : decode cX3_first 8 = .ok (.aload_n 0, 1) := by decide +kernel
theorem dX3_first_9 : decode cX3_first 9 = .ok (.getfield 83, 3) := by decide +kernel
theorem dX3_first_12 : decode cX3_first 12 = .ok (.invokevirtual 104, 3) := by decide +kernel
theorem dX3_first_15 : decode cX3_first 15 = .ok (.goto 4, 3) := by decide +kernel
theorem dX3_first_18 : decode cX3_first 18 = .ok (.lconst 0, 1) := by decide +kernel
theorem dX3_first_19 : decode cX3_first 19 = .ok (.lreturn, 1) := by decide +kernel
theorem dX3_next_0 : decode cX3_next 0 = .ok (.iload_n 1, 1) := by decide +kernel
theorem dX3_next_1 : decode cX3_next 1 = .ok (.ifCond .lt 11, 3) := by decide +kernel
theorem dX3_next_4 : decode cX3_next 4 = .ok (.iload_n 1, 1) := by decide +kernel
theorem dX3_next_5 : decode cX3_next 5 = .ok (.aload_n 0, 1) := by decide +kernel
theorem dX3_next_6 : decode cX3_next 6 = .ok (.getfield 64, 3) := by decide +kernel
theorem dX3_next_9 : decode cX3_next 9 = .ok (.if_icmp .lt 5, 3) := by decide +kernel
theorem dX3_next_12 : decode cX3_next 12 = .ok (.lconst 0, 1) := by decide +kernel
theorem dX3_next_13 : decode cX3_next 13 = .ok (.lreturn, 1) := by decide +kernel
theorem dX3_next_14 : decode cX3_next 14 = .ok (.lconst 0, 1) := by decide +kernel
theorem dX3_next_15 : decode cX3_next 15 = .ok (.lstore_n 2, 1) := by decide +kernel
theorem dX3_next_16 : decode cX3_next 16 = .ok (.aload_n 0, 1) := by decide +kernel
theorem dX3_next_17 : decode cX3_next 17 = .ok (.getfield 29, 3) := by decide +kernel
theorem dX3_next_20 : decode cX3_next 20 = .ok (.iload_n 1, 1) := by decide +kernel
theorem dX3_next_21 : decode cX3_next 21 = .ok (.iaload, 1) := by decide +kernel
theorem dX3_next_22 : decode cX3_next 22 = .ok (.istore 4, 2) := by decide +kernel
theorem dX3_next_24 : decode cX3_next 24 = .ok (.aload_n 0, 1) := by decide +kernel
theorem dX3_next_25 : decode cX3_next 25 = .ok (.getfield 16, 3) := by decide +kernel
theorem dX3_next_28 : decode cX3_next 28 = .ok (.iload 4, 2) := by decide +kernel
theorem dX3_next_30 : decode cX3_next 30 = .ok (.iaload, 1) := by decide +kernel
theorem dX3_next_31 : decode cX3_next 31 = .ok (.ifCond .lt 108, 3) := by decide +kernel
theorem dX3_next_34 : decode cX3_next 34 = .ok (.aload_n 0, 1) := by decide +kernel
theorem dX3_next_35 : decode cX3_next 35 = .ok (.getfield 16, 3) := by decide +kernel
theorem dX3_next_38 : decode cX3_next 38 = .ok (.iload 4, 2) := by decide +kernel
theorem dX3_next_40 : decode cX3_next 40 = .ok (.iaload, 1) := by decide +kernel
theorem dX3_next_41 : decode cX3_next 41 = .ok (.istore 5, 2) := by decide +kernel
theorem dX3_next_43 : decode cX3_next 43 = .ok (.aload_n 0, 1) := by decide +kernel
theorem dX3_next_44 : decode cX3_next 44 = .ok (.getfield 13, 3) := by decide +kernel
theorem dX3_next_47 : decode cX3_next 47 = .ok (.iload 5, 2) := by decide +kernel
theorem dX3_next_49 : decode cX3_next 49 = .ok (.iaload, 1) := by decide +kernel
theorem dX3_next_50 : decode cX3_next 50 = .ok (.iconst 4, 1) := by decide +kernel
theorem dX3_next_51 : decode cX3_next 51 = .ok (.if_icmp .eq 14, 3) := by decide +kernel
theorem dX3_next_54 : decode cX3_next 54 = .ok (.aload_n 0, 1) := by decide +kernel
theorem dX3_next_55 : decode cX3_next 55 = .ok (.getfield 13, 3) := by decide +kernel
theorem dX3_next_58 : decode cX3_next 58 = .ok (.iload 5, 2) := by decide +kernel
theorem dX3_next_60 : decode cX3_next 60 = .ok (.iaload, 1) := by decide +kernel
theorem dX3_next_61 : decode cX3_next 61 = .ok (.iconst 5, 1) := by decide +kernel
theorem dX3_next_62 : decode cX3_next 62 = .ok (.if_icmp .ne 12, 3) := by decide +kernel
theorem dX3_next_65 : decode cX3_next 65 = .ok (.lload_n 2, 1) := by decide +kernel
theorem dX3_next_66 : decode cX3_next 66 = .ok (.aload_n 0, 1) := by decide +kernel
theorem dX3_next_67 : decode cX3_next 67 = .ok (.iload 4, 2) := by decide +kernel
theorem dX3_next_69 : decode cX3_next 69 = .ok (.invokevirtual 104, 3) := by decide +kernel
theorem dX3_next_72 : decode cX3_next 72 = .ok (.lor, 1) := by decide +kernel
theorem dX3_next_73 : decode cX3_next 73 = .ok (.lstore_n 2, 1) := by decide +kernel
theorem dX3_next_74 : decode cX3_next 74 = .ok (.aload_n 0, 1) := by decide +kernel
theorem dX3_next_75 : decode cX3_next 75 = .ok (.getfield 22, 3) := by decide +kernel
theorem dX3_next_78 : decode cX3_next 78 = .ok (.iload 4, 2) := by decide +kernel
theorem dX3_next_80 : decode cX3_next 80 = .ok (.iaload, 1) := by decide +kernel
theorem dX3_next_81 : decode cX3_next 81 = .ok (.istore 6, 2) := by decide +kernel
theorem dX3_next_83 : decode cX3_next 83 = .ok (.iload 6, 2) := by decide +kernel
theorem dX3_next_85 : decode cX3_next 85 = .ok (.ifCond .lt 47, 3) := by decide +kernel
theorem dX3_next_88 : decode cX3_next 88 = .ok (.aload_n 0, 1) := by decide +kernel
theorem dX3_next_89 : decode cX3_next 89 = .ok (.getfield 13, 3) := by decide +kernel
theorem dX3_next_92 : decode cX3_next 92 = .ok (.iload 5, 2) := by decide +kernel
theorem dX3_next_94 : decode cX3_next 94 = .ok (.iaload, 1) := by decide +kernel
theorem dX3_next_95 : decode cX3_next 95 = .ok (.iconst 2, 1) := by decide +kernel
theorem dX3_next_96 : decode cX3_next 96 = .ok (.if_icmp .ne 36, 3) := by decide +kernel
theorem dX3_next_99 : decode cX3_next 99 = .ok (.lload_n 2, 1) := by decide +kernel
theorem dX3_next_100 : decode cX3_next 100 = .ok (.aload_n 0, 1) := by decide +kernel
theorem dX3_next_101 : decode cX3_next 101 = .ok (.iload 6, 2) := by decide +kernel
theorem dX3_next_103 : decode cX3_next 103 = .ok (.invokevirtual 104, 3) := by decide +kernel
theorem dX3_next_106 : decode cX3_next 106 = .ok (.lor, 1) := by decide +kernel
theorem dX3_next_107 : decode cX3_next 107 = .ok (.lstore_n 2, 1) := by decide +kernel
theorem dX3_next_108 : decode cX3_next 108 = .ok (.aload_n 0, 1) := by decide +kernel
theorem dX3_next_109 : decode cX3_next 109 = .ok (.getfield 25, 3) := by decide +kernel
theorem dX3_next_112 : decode cX3_next 112 = .ok (.iload 6, 2) := by decide +kernel
theorem dX3_next_114 : decode cX3_next 114 = .ok (.baload, 1) := by decide +kernel
theorem dX3_next_115 : decode cX3_next 115 = .ok (.ifCond .ne 5, 3) := by decide +kernel
theorem dX3_next_118 : decode cX3_next 118 = .ok (.lload_n 2, 1) := by decide +kernel
theorem dX3_next_119 : decode cX3_next 119 = .ok (.lreturn, 1) := by decide +kernel
theorem dX3_next_120 : decode cX3_next 120 = .ok (.aload_n 0, 1) := by decide +kernel
theorem dX3_next_121 : decode cX3_next 121 = .ok (.getfield 22, 3) := by decide +kernel
theorem dX3_next_124 : decode cX3_next 124 = .ok (.iload 6, 2) := by decide +kernel
theorem dX3_next_126 : decode cX3_next 126 = .ok (.iaload, 1) := by decide +kernel
theorem dX3_next_127 : decode cX3_next 127 = .ok (.istore 6, 2) := by decide +kernel
theorem dX3_next_129 : decode cX3_next 129 = .ok (.goto (-46), 3) := by decide +kernel
theorem dX3_next_132 : decode cX3_next 132 = .ok (.iload 5, 2) := by decide +kernel
theorem dX3_next_134 : decode cX3_next 134 = .ok (.istore 4, 2) := by decide +kernel
theorem dX3_next_136 : decode cX3_next 136 = .ok (.goto (-112), 3) := by decide +kernel
theorem dX3_next_139 : decode cX3_next 139 = .ok (.lload_n 2, 1) := by decide +kernel
theorem dX3_next_140 : decode cX3_next 140 = .ok (.lreturn, 1) := by decide +kernel
theorem dX3_last_0 : decode cX3_last 0 = .ok (.lconst 0, 1) := by decide +kernel
theorem dX3_last_1 : decode cX3_last 1 = .ok (.lstore_n 1, 1) := by decide +kernel
theorem dX3_last_2 : decode cX3_last 2 = .ok (.iconst 0, 1) := by decide +kernel
theorem dX3_last_3 : decode cX3_last 3 = .ok (.istore_n 3, 1) := by decide +kernel
theorem dX3_last_4 : decode cX3_last 4 = .ok (.iload_n 3, 1) := by decide +kernel
theorem dX3_last_5 : decode cX3_last 5 = .ok (.aload_n 0, 1) := by decide +kernel
theorem dX3_last_6 : decode cX3_last 6 = .ok (.getfield 64, 3) := by decide +kernel
theorem dX3_last_9 : decode cX3_last 9 = .ok (.if_icmp .ge 27, 3) := by decide +kernel
theorem dX3_last_12 : decode cX3_last 12 = .ok (.lload_n 1, 1) := by decide +kernel
theorem dX3_last_13 : decode cX3_last 13 = .ok (.aload_n 0, 1) := by decide +kernel
theorem dX3_last_14 : decode cX3_last 14 = .ok (.iload_n 3, 1) := by decide +kernel
theorem dX3_last_15 : decode cX3_last 15 = .ok (.invokevirtual 108, 3) := by decide +kernel
theorem dX3_last_18 : decode cX3_last 18 = .ok (.ifCond .eq 9, 3) := by decide +kernel
theorem dX3_last_21 : decode cX3_last 21 = .ok (.lconst 1, 1) := by decide +kernel
theorem dX3_last_22 : decode cX3_last 22 = .ok (.iload_n 3, 1) := by decide +kernel
theorem dX3_last_23 : decode cX3_last 23 = .ok (.lshl, 1) := by decide +kernel
theorem dX3_last_24 : decode cX3_last 24 = .ok (.goto 4, 3) := by decide +kernel
theorem dX3_last_27 : decode cX3_last 27 = .ok (.lconst 0, 1) := by decide +kernel
theorem dX3_last_28 : decode cX3_last 28 = .ok (.lor, 1) := by decide +kernel
theorem dX3_last_29 : decode cX3_last 29 = .ok (.lstore_n 1, 1) := by decide +kernel
theorem dX3_last_30 : decode cX3_last 30 = .ok (.iinc 3 1, 3) := by decide +kernel
theorem dX3_last_33 : decode cX3_last 33 = .ok (.goto (-29), 3) := by decide +kernel
theorem dX3_last_36 : decode cX3_last 36 = .ok (.lload_n 1, 1) := by decide +kernel
theorem dX3_last_37 : decode cX3_last 37 = .ok (.lreturn, 1) := by decide +kernel
theorem dX3_twice_0 : decode cX3_twice 0 = .ok (.iconst 0, 1) := by decide +kernel
theorem dX3_twice_1 : decode cX3_twice 1 = .ok (.istore_n 3, 1) := by decide +kernel
theorem dX3_twice_2 : decode cX3_twice 2 = .ok (.iconst 0, 1) := by decide +kernel
theorem dX3_twice_3 : decode cX3_twice 3 = .ok (.istore 4, 2) := by decide +kernel
theorem dX3_twice_5 : decode cX3_twice 5 = .ok (.iconst 0, 1) := by decide +kernel
theorem dX3_twice_6 : decode cX3_twice 6 = .ok (.istore 5, 2) := by decide +kernel
theorem dX3_twice_8 : decode cX3_twice 8 = .ok (.iload 5, 2) := by decide +kernel
theorem dX3_twice_10 : decode cX3_twice 10 = .ok (.aload_n 0, 1) := by decide +kernel
theorem dX3_twice_11 : decode cX3_twice 11 = .ok (.getfield 64, 3) := by decide +kernel
theorem dX3_twice_14 : decode cX3_twice 14 = .ok (.if_icmp .ge 49, 3) := by decide +kernel
theorem dX3_twice_17 : decode cX3_twice 17 = .ok (.lload_n 1, 1) := by decide +kernel
theorem dX3_twice_18 : decode cX3_twice 18 = .ok (.iload 5, 2) := by decide +kernel
theorem dX3_twice_20 : decode cX3_twice 20 = .ok (.lshr, 1) := by decide +kernel
theorem dX3_twice_21 : decode cX3_twice 21 = .ok (.lconst 1, 1) := by decide +kernel
theorem dX3_twice_22 : decode cX3_twice 22 = .ok (.land, 1) := by decide +kernel
theorem dX3_twice_23 : decode cX3_twice 23 = .ok (.lconst 1, 1) := by decide +kernel
theorem dX3_twice_24 : decode cX3_twice 24 = .ok (.lcmp, 1) := by decide +kernel
theorem dX3_twice_25 : decode cX3_twice 25 = .ok (.ifCond .ne 15, 3) := by decide +kernel
theorem dX3_twice_28 : decode cX3_twice 28 = .ok (.iconst 1, 1) := by decide +kernel
theorem dX3_twice_29 : decode cX3_twice 29 = .ok (.aload_n 0, 1) := by decide +kernel
theorem dX3_twice_30 : decode cX3_twice 30 = .ok (.getfield 32, 3) := by decide +kernel
theorem dX3_twice_33 : decode cX3_twice 33 = .ok (.iload 5, 2) := by decide +kernel
theorem dX3_twice_35 : decode cX3_twice 35 = .ok (.iaload, 1) := by decide +kernel
theorem dX3_twice_36 : decode cX3_twice 36 = .ok (.ishl, 1) := by decide +kernel
theorem dX3_twice_37 : decode cX3_twice 37 = .ok (.goto 4, 3) := by decide +kernel
theorem dX3_twice_40 : decode cX3_twice 40 = .ok (.iconst 0, 1) := by decide +kernel
theorem dX3_twice_41 : decode cX3_twice 41 = .ok (.istore 6, 2) := by decide +kernel
theorem dX3_twice_43 : decode cX3_twice 43 = .ok (.iload 4, 2) := by decide +kernel
theorem dX3_twice_45 : decode cX3_twice 45 = .ok (.iload_n 3, 1) := by decide +kernel
theorem dX3_twice_46 : decode cX3_twice 46 = .ok (.iload 6, 2) := by decide +kernel
theorem dX3_twice_48 : decode cX3_twice 48 = .ok (.iand, 1) := by decide +kernel
theorem dX3_twice_49 : decode cX3_twice 49 = .ok (.ior, 1) := by decide +kernel
theorem dX3_twice_50 : decode cX3_twice 50 = .ok (.istore 4, 2) := by decide +kernel
theorem dX3_twice_52 : decode cX3_twice 52 = .ok (.iload_n 3, 1) := by decide +kernel
theorem dX3_twice_53 : decode cX3_twice 53 = .ok (.iload 6, 2) := by decide +kernel
theorem dX3_twice_55 : decode cX3_twice 55 = .ok (.ior, 1) := by decide +kernel
theorem dX3_twice_56 : decode cX3_twice 56 = .ok (.istore_n 3, 1) := by decide +kernel
theorem dX3_twice_57 : decode cX3_twice 57 = .ok (.iinc 5 1, 3) := by decide +kernel
theorem dX3_twice_60 : decode cX3_twice 60 = .ok (.goto (-52), 3) := by decide +kernel
theorem dX3_twice_63 : decode cX3_twice 63 = .ok (.iload 4, 2) := by decide +kernel
theorem dX3_twice_65 : decode cX3_twice 65 = .ok (.ireturn, 1) := by decide +kernel
theorem dX3_competing_0 : decode cX3_competing 0 = .ok (.aload_n 0, 1) := by decide +kernel
theorem dX3_competing_1 : decode cX3_competing 1 = .ok (.aload_n 0, 1) := by decide +kernel
theorem dX3_competing_2 : decode cX3_competing 2 = .ok (.invokevirtual 111, 3) := by decide +kernel
theorem dX3_competing_5 : decode cX3_competing 5 = .ok (.invokevirtual 115, 3) := by decide +kernel
theorem dX3_competing_8 : decode cX3_competing 8 = .ok (.istore_n 1, 1) := by decide +kernel
theorem dX3_competing_9 : decode cX3_competing 9 = .ok (.iconst 0, 1) := by decide +kernel
theorem dX3_competing_10 : decode cX3_competing 10 = .ok (.istore_n 2, 1) := by decide +kernel
theorem dX3_competing_11 : decode cX3_competing 11 = .ok (.iload_n 2, 1) := by decide +kernel
theorem dX3_competing_12 : decode cX3_competing 12 = .ok (.aload_n 0, 1) := by decide +kernel
theorem dX3_competing_13 : decode cX3_competing 13 = .ok (.getfield 64, 3) := by decide +kernel
theorem dX3_competing_16 : decode cX3_competing 16 = .ok (.if_icmp .ge 21, 3) := by decide +kernel
theorem dX3_competing_19 : decode cX3_competing 19 = .ok (.iload_n 1, 1) := by decide +kernel
theorem dX3_competing_20 : decode cX3_competing 20 = .ok (.aload_n 0, 1) := by decide +kernel
theorem dX3_competing_21 : decode cX3_competing 21 = .ok (.aload_n 0, 1) := by decide +kernel
theorem dX3_competing_22 : decode cX3_competing 22 = .ok (.iload_n 2, 1) := by decide +kernel
theorem dX3_competing_23 : decode cX3_competing 23 = .ok (.invokevirtual 119, 3) := by decide +kernel
theorem dX3_competing_26 : decode cX3_competing 26 = .ok (.invokevirtual 115, 3) := by decide +kernel
theorem dX3_competing_29 : decode cX3_competing 29 = .ok (.ior, 1) := by decide +kernel
theorem dX3_competing_30 : decode cX3_competing 30 = .ok (.istore_n 1, 1) := by decide +kernel
theorem dX3_competing_31 : decode cX3_competing 31 = .ok (.iinc 2 1, 3) := by decide +kernel
theorem dX3_competing_34 : decode cX3_competing 34 = .ok (.goto (-23), 3) := by decide +kernel
theorem dX3_competing_37 : decode cX3_competing 37 = .ok (.iload_n 1, 1) := by decide +kernel
theorem dX3_competing_38 : decode cX3_competing 38 = .ok (.ireturn, 1) := by decide +kernel
theorem dX3_isClear_0 : decode cX3_isClear 0 = .ok (.aload_n 0, 1) := by decide +kernel
theorem dX3_isClear_1 : decode cX3_isClear 1 = .ok (.getfield 96, 3) := by decide +kernel
theorem dX3_isClear_4 : decode cX3_isClear 4 = .ok (.ifCond .eq 14, 3) := by decide +kernel
theorem dX3_isClear_7 : decode cX3_isClear 7 = .ok (.aload_n 0, 1) := by decide +kernel
theorem dX3_isClear_8 : decode cX3_isClear 8 = .ok (.invokevirtual 122, 3) := by decide +kernel
theorem dX3_isClear_11 : decode cX3_isClear 11 = .ok (.ifCond .ne 7, 3) := by decide +kernel
theorem dX3_isClear_14 : decode cX3_isClear 14 = .ok (.iconst 1, 1) := by decide +kernel
theorem dX3_isClear_15 : decode cX3_isClear 15 = .ok (.goto 4, 3) := by decide +kernel
theorem dX3_isClear_18 : decode cX3_isClear 18 = .ok (.iconst 0, 1) := by decide +kernel
theorem dX3_isClear_19 : decode cX3_isClear 19 = .ok (.ireturn, 1) := by decide +kernel
theorem dX3_isEmpty_0 : decode cX3_isEmpty 0 = .ok (.aload_n 0, 1) := by decide +kernel
theorem dX3_isEmpty_1 : decode cX3_isEmpty 1 = .ok (.getfield 96, 3) := by decide +kernel
theorem dX3_isEmpty_4 : decode cX3_isEmpty 4 = .ok (.ifCond .eq 19, 3) := by decide +kernel
theorem dX3_isEmpty_7 : decode cX3_isEmpty 7 = .ok (.aload_n 0, 1) := by decide +kernel
theorem dX3_isEmpty_8 : decode cX3_isEmpty 8 = .ok (.getfield 25, 3) := by decide +kernel
theorem dX3_isEmpty_11 : decode cX3_isEmpty 11 = .ok (.aload_n 0, 1) := by decide +kernel
theorem dX3_isEmpty_12 : decode cX3_isEmpty 12 = .ok (.getfield 83, 3) := by decide +kernel
theorem dX3_isEmpty_15 : decode cX3_isEmpty 15 = .ok (.baload, 1) := by decide +kernel
theorem dX3_isEmpty_16 : decode cX3_isEmpty 16 = .ok (.ifCond .eq 7, 3) := by decide +kernel
theorem dX3_isEmpty_19 : decode cX3_isEmpty 19 = .ok (.iconst 1, 1) := by decide +kernel
theorem dX3_isEmpty_20 : decode cX3_isEmpty 20 = .ok (.goto 4, 3) := by decide +kernel
theorem dX3_isEmpty_23 : decode cX3_isEmpty 23 = .ok (.iconst 0, 1) := by decide +kernel
theorem dX3_isEmpty_24 : decode cX3_isEmpty 24 = .ok (.ireturn, 1) := by decide +kernel
theorem dX3_name_0 : decode cX3_name 0 = .ok (.iload_n 1, 1) := by decide +kernel
theorem dX3_name_1 : decode cX3_name 1 = .ok (.ifCond .lt 20, 3) := by decide +kernel
theorem dX3_name_4 : decode cX3_name 4 = .ok (.iload_n 1, 1) := by decide +kernel
theorem dX3_name_5 : decode cX3_name 5 = .ok (.aload_n 0, 1) := by decide +kernel
theorem dX3_name_6 : decode cX3_name 6 = .ok (.getfield 64, 3) := by decide +kernel
theorem dX3_name_9 : decode cX3_name 9 = .ok (.if_icmp .ge 12, 3) := by decide +kernel
theorem dX3_name_12 : decode cX3_name 12 = .ok (.aload_n 0, 1) := by decide +kernel
theorem dX3_name_13 : decode cX3_name 13 = .ok (.getfield 32, 3) := by decide +kernel
theorem dX3_name_16 : decode cX3_name 16 = .ok (.iload_n 1, 1) := by decide +kernel
theorem dX3_name_17 : decode cX3_name 17 = .ok (.iaload, 1) := by decide +kernel
theorem dX3_name_18 : decode cX3_name 18 = .ok (.goto 4, 3) := by decide +kernel
theorem dX3_name_21 : decode cX3_name 21 = .ok (.iconst (-1), 1) := by decide +kernel
theorem dX3_name_22 : decode cX3_name 22 = .ok (.ireturn, 1) := by decide +kernel
theorem dX3_able_0 : decode cX3_able 0 = .ok (.aload_n 0, 1) := by decide +kernel
theorem dX3_able_1 : decode cX3_able 1 = .ok (.getfield 86, 3) := by decide +kernel
theorem dX3_able_4 : decode cX3_able 4 = .ok (.ifCond .ne 8, 3) := by decide +kernel
theorem dX3_able_7 : decode cX3_able 7 = .ok (.aload_n 0, 1) := by decide +kernel
theorem dX3_able_8 : decode cX3_able 8 = .ok (.invokevirtual 111, 3) := by decide +kernel
theorem dX3_able_11 : decode cX3_able 11 = .ok (.lreturn, 1) := by decide +kernel
theorem dX3_able_12 : decode cX3_able 12 = .ok (.lconst 0, 1) := by decide +kernel
theorem dX3_able_13 : decode cX3_able 13 = .ok (.lstore_n 3, 1) := by decide +kernel
theorem dX3_able_14 : decode cX3_able 14 = .ok (.iconst 0, 1) := by decide +kernel
theorem dX3_able_15 : decode cX3_able 15 = .ok (.istore 5, 2) := by decide +kernel
theorem dX3_able_17 : decode cX3_able 17 = .ok (.iload 5, 2) := by decide +kernel
theorem dX3_able_19 : decode cX3_able 19 = .ok (.aload_n 0, 1) := by decide +kernel
theorem dX3_able_20 : decode cX3_able 20 = .ok (.getfield 64, 3) := by decide +kernel
theorem dX3_able_23 : decode cX3_able 23 = .ok (.if_icmp .ge 33, 3) := by decide +kernel
theorem dX3_able_26 : decode cX3_able 26 = .ok (.lload_n 3, 1) := by decide +kernel
theorem dX3_able_27 : decode cX3_able 27 = .ok (.lload_n 1, 1) := by decide +kernel
theorem dX3_able_28 : decode cX3_able 28 = .ok (.iload 5, 2) := by decide +kernel
theorem dX3_able_30 : decode cX3_able 30 = .ok (.lshr, 1) := by decide +kernel
theorem dX3_able_31 : decode cX3_able 31 = .ok (.lconst 1, 1) := by decide +kernel
theorem dX3_able_32 : decode cX3_able 32 = .ok (.land, 1) := by decide +kernel
theorem dX3_able_33 : decode cX3_able 33 = .ok (.lconst 1, 1) := by decide +kernel
theorem dX3_able_34 : decode cX3_able 34 = .ok (.lcmp, 1) := by decide +kernel
theorem dX3_able_35 : decode cX3_able 35 = .ok (.ifCond .ne 12, 3) := by decide +kernel
theorem dX3_able_38 : decode cX3_able 38 = .ok (.aload_n 0, 1) := by decide +kernel
theorem dX3_able_39 : decode cX3_able 39 = .ok (.iload 5, 2) := by decide +kernel
theorem dX3_able_41 : decode cX3_able 41 = .ok (.invokevirtual 119, 3) := by decide +kernel
theorem dX3_able_44 : decode cX3_able 44 = .ok (.goto 4, 3) := by decide +kernel
theorem dX3_able_47 : decode cX3_able 47 = .ok (.lconst 0, 1) := by decide +kernel
theorem dX3_able_48 : decode cX3_able 48 = .ok (.lor, 1) := by decide +kernel
theorem dX3_able_49 : decode cX3_able 49 = .ok (.lstore_n 3, 1) := by decide +kernel
theorem dX3_able_50 : decode cX3_able 50 = .ok (.iinc 5 1, 3) := by decide +kernel
theorem dX3_able_53 : decode cX3_able 53 = .ok (.goto (-36), 3) := by decide +kernel
theorem dX3_able_56 : decode cX3_able 56 = .ok (.lload_n 3, 1) := by decide +kernel
theorem dX3_able_57 : decode cX3_able 57 = .ok (.lreturn, 1) := by decide +kernel
theorem dX3_come_0 : decode cX3_come 0 = .ok (.aload_n 0, 1) := by decide +kernel
theorem dX3_come_1 : decode cX3_come 1 = .ok (.aload_n 0, 1) := by decide +kernel
theorem dX3_come_2 : decode cX3_come 2 = .ok (.getfield 89, 3) := by decide +kernel
theorem dX3_come_5 : decode cX3_come 5 = .ok (.invokevirtual 125, 3) := by decide +kernel
theorem dX3_come_8 : decode cX3_come 8 = .ok (.lstore_n 2, 1) := by decide +kernel
theorem dX3_come_9 : decode cX3_come 9 = .ok (.lconst 0, 1) := by decide +kernel
theorem dX3_come_10 : decode cX3_come 10 = .ok (.lstore 4, 2) := by decide +kernel
theorem dX3_come_12 : decode cX3_come 12 = .ok (.iconst 0, 1) := by decide +kernel
theorem dX3_come_13 : decode cX3_come 13 = .ok (.istore 6, 2) := by decide +kernel
theorem dX3_come_15 : decode cX3_come 15 = .ok (.iload 6, 2) := by decide +kernel
theorem dX3_come_17 : decode cX3_come 17 = .ok (.aload_n 0, 1) := by decide +kernel
theorem dX3_come_18 : decode cX3_come 18 = .ok (.getfield 64, 3) := by decide +kernel
theorem dX3_come_21 : decode cX3_come 21 = .ok (.if_icmp .ge 35, 3) := by decide +kernel
theorem dX3_come_24 : decode cX3_come 24 = .ok (.lload 4, 2) := by decide +kernel
theorem dX3_come_26 : decode cX3_come 26 = .ok (.aload_n 0, 1) := by decide +kernel
theorem dX3_come_27 : decode cX3_come 27 = .ok (.getfield 32, 3) := by decide +kernel
theorem dX3_come_30 : decode cX3_come 30 = .ok (.iload 6, 2) := by decide +kernel
theorem dX3_come_32 : decode cX3_come 32 = .ok (.iaload, 1) := by decide +kernel
theorem dX3_come_33 : decode cX3_come 33 = .ok (.iload_n 1, 1) := by decide +kernel
theorem dX3_come_34 : decode cX3_come 34 = .ok (.if_icmp .ne 12, 3) := by decide +kernel
theorem dX3_come_37 : decode cX3_come 37 = .ok (.lload_n 2, 1) := by decide +kernel
theorem dX3_come_38 : decode cX3_come 38 = .ok (.lconst 1, 1) := by decide +kernel
theorem dX3_come_39 : decode cX3_come 39 = .ok (.iload 6, 2) := by decide +kernel
theorem dX3_come_41 : decode cX3_come 41 = .ok (.lshl, 1) := by decide +kernel
theorem dX3_come_42 : decode cX3_come 42 = .ok (.land, 1) := by decide +kernel
theorem dX3_come_43 : decode cX3_come 43 = .ok (.goto 4, 3) := by decide +kernel
theorem dX3_come_46 : decode cX3_come 46 = .ok (.lconst 0, 1) := by decide +kernel
theorem dX3_come_47 : decode cX3_come 47 = .ok (.lor, 1) := by decide +kernel
theorem dX3_come_48 : decode cX3_come 48 = .ok (.lstore 4, 2) := by decide +kernel
theorem dX3_come_50 : decode cX3_come 50 = .ok (.iinc 6 1, 3) := by decide +kernel
theorem dX3_come_53 : decode cX3_come 53 = .ok (.goto (-38), 3) := by decide +kernel
theorem dX3_come_56 : decode cX3_come 56 = .ok (.lload 4, 2) := by decide +kernel
theorem dX3_come_58 : decode cX3_come 58 = .ok (.lconst 0, 1) := by decide +kernel
theorem dX3_come_59 : decode cX3_come 59 = .ok (.lcmp, 1) := by decide +kernel
theorem dX3_come_60 : decode cX3_come 60 = .ok (.ifCond .ne 5, 3) := by decide +kernel
theorem dX3_come_63 : decode cX3_come 63 = .ok (.iconst 0, 1) := by decide +kernel
theorem dX3_come_64 : decode cX3_come 64 = .ok (.ireturn, 1) := by decide +kernel
theorem dX3_come_65 : decode cX3_come 65 = .ok (.aload_n 0, 1) := by decide +kernel
theorem dX3_come_66 : decode cX3_come 66 = .ok (.lload 4, 2) := by decide +kernel
theorem dX3_come_68 : decode cX3_come 68 = .ok (.putfield 89, 3) := by decide +kernel
theorem dX3_come_71 : decode cX3_come 71 = .ok (.aload_n 0, 1) := by decide +kernel
theorem dX3_come_72 : decode cX3_come 72 = .ok (.aload_n 0, 1) := by decide +kernel
theorem dX3_come_73 : decode cX3_come 73 = .ok (.getfield 86, 3) := by decide +kernel
theorem dX3_come_76 : decode cX3_come 76 = .ok (.iconst 1, 1) := by decide +kernel
theorem dX3_come_77 : decode cX3_come 77 = .ok (.iadd, 1) := by decide +kernel
theorem dX3_come_78 : decode cX3_come 78 = .ok (.putfield 86, 3) := by decide +kernel
theorem dX3_come_81 : decode cX3_come 81 = .ok (.iconst 1, 1) := by decide +kernel
theorem dX3_come_82 : decode cX3_come 82 = .ok (.ireturn, 1) := by decide +kernel
theorem dX3_isWhole_0 : decode cX3_isWhole 0 = .ok (.aload_n 0, 1) := by decide +kernel
theorem dX3_isWhole_1 : decode cX3_isWhole 1 = .ok (.getfield 96, 3) := by decide +kernel
theorem dX3_isWhole_4 : decode cX3_isWhole 4 = .ok (.ifCond .eq 43, 3) := by decide +kernel
theorem dX3_isWhole_7 : decode cX3_isWhole 7 = .ok (.aload_n 0, 1) := by decide +kernel
theorem dX3_isWhole_8 : decode cX3_isWhole 8 = .ok (.getfield 86, 3) := by decide +kernel
theorem dX3_isWhole_11 : decode cX3_isWhole 11 = .ok (.ifCond .ne 18, 3) := by decide +kernel
theorem dX3_isWhole_14 : decode cX3_isWhole 14 = .ok (.aload_n 0, 1) := by decide +kernel
theorem dX3_isWhole_15 : decode cX3_isWhole 15 = .ok (.getfield 25, 3) := by decide +kernel
theorem dX3_isWhole_18 : decode cX3_isWhole 18 = .ok (.aload_n 0, 1) := by decide +kernel
theorem dX3_isWhole_19 : decode cX3_isWhole 19 = .ok (.getfield 83, 3) := by decide +kernel
theorem dX3_isWhole_22 : decode cX3_isWhole 22 = .ok (.baload, 1) := by decide +kernel
theorem dX3_isWhole_23 : decode cX3_isWhole 23 = .ok (.ifCond .eq 24, 3) := by decide +kernel
theorem dX3_isWhole_26 : decode cX3_isWhole 26 = .ok (.goto 17, 3) := by decide +kernel
theorem dX3_isWhole_29 : decode cX3_isWhole 29 = .ok (.aload_n 0, 1) := by decide +kernel
theorem dX3_isWhole_30 : decode cX3_isWhole 30 = .ok (.getfield 89, 3) := by decide +kernel
theorem dX3_isWhole_33 : decode cX3_isWhole 33 = .ok (.aload_n 0, 1) := by decide +kernel
theorem dX3_isWhole_34 : decode cX3_isWhole 34 = .ok (.invokevirtual 129, 3) := by decide +kernel
theorem dX3_isWhole_37 : decode cX3_isWhole 37 = .ok (.land, 1) := by decide +kernel
theorem dX3_isWhole_38 : decode cX3_isWhole 38 = .ok (.lconst 0, 1) := by decide +kernel
theorem dX3_isWhole_39 : decode cX3_isWhole 39 = .ok (.lcmp, 1) := by decide +kernel
theorem dX3_isWhole_40 : decode cX3_isWhole 40 = .ok (.ifCond .eq 7, 3) := by decide +kernel
theorem dX3_isWhole_43 : decode cX3_isWhole 43 = .ok (.iconst 1, 1) := by decide +kernel
theorem dX3_isWhole_44 : decode cX3_isWhole 44 = .ok (.goto 4, 3) := by decide +kernel
theorem dX3_isWhole_47 : decode cX3_isWhole 47 = .ok (.iconst 0, 1) := by decide +kernel
theorem dX3_isWhole_48 : decode cX3_isWhole 48 = .ok (.ireturn, 1) := by decide +kernel
theorem dX3_may_0 : decode cX3_may 0 = .ok (.aload_n 0, 1) := by decide +kernel
theorem dX3_may_1 : decode cX3_may 1 = .ok (.aload_n 0, 1) := by decide +kernel
theorem dX3_may_2 : decode cX3_may 2 = .ok (.getfield 89, 3) := by decide +kernel
theorem dX3_may_5 : decode cX3_may 5 = .ok (.invokevirtual 125, 3) := by decide +kernel
theorem dX3_may_8 : decode cX3_may 8 = .ok (.lstore_n 1, 1) := by decide +kernel
theorem dX3_may_9 : decode cX3_may 9 = .ok (.iconst 0, 1) := by decide +kernel
theorem dX3_may_10 : decode cX3_may 10 = .ok (.istore_n 3, 1) := by decide +kernel
theorem dX3_may_11 : decode cX3_may 11 = .ok (.iconst 0, 1) := by decide +kernel
theorem dX3_may_12 : decode cX3_may 12 = .ok (.istore 4, 2) := by decide +kernel
theorem dX3_may_14 : decode cX3_may 14 = .ok (.iload 4, 2) := by decide +kernel
theorem dX3_may_16 : decode cX3_may 16 = .ok (.aload_n 0, 1) := by decide +kernel
theorem dX3_may_17 : decode cX3_may 17 = .ok (.getfield 64, 3) := by decide +kernel
theorem dX3_may_20 : decode cX3_may 20 = .ok (.if_icmp .ge 36, 3) := by decide +kernel
theorem dX3_may_23 : decode cX3_may 23 = .ok (.iload_n 3, 1) := by decide +kernel
theorem dX3_may_24 : decode cX3_may 24 = .ok (.lload_n 1, 1) := by decide +kernel
theorem dX3_may_25 : decode cX3_may 25 = .ok (.iload 4, 2) := by decide +kernel
theorem dX3_may_27 : decode cX3_may 27 = .ok (.lshr, 1) := by decide +kernel
theorem dX3_may_28 : decode cX3_may 28 = .ok (.lconst 1, 1) := by decide +kernel
theorem dX3_may_29 : decode cX3_may 29 = .ok (.land, 1) := by decide +kernel
theorem dX3_may_30 : decode cX3_may 30 = .ok (.lconst 1, 1) := by decide +kernel
theorem dX3_may_31 : decode cX3_may 31 = .ok (.lcmp, 1) := by decide +kernel
theorem dX3_may_32 : decode cX3_may 32 = .ok (.ifCond .ne 15, 3) := by decide +kernel
theorem dX3_may_35 : decode cX3_may 35 = .ok (.iconst 1, 1) := by decide +kernel
theorem dX3_may_36 : decode cX3_may 36 = .ok (.aload_n 0, 1) := by decide +kernel
theorem dX3_may_37 : decode cX3_may 37 = .ok (.getfield 32, 3) := by decide +kernel
theorem dX3_may_40 : decode cX3_may 40 = .ok (.iload 4, 2) := by decide +kernel
theorem dX3_may_42 : decode cX3_may 42 = .ok (.iaload, 1) := by decide +kernel
theorem dX3_may_43 : decode cX3_may 43 = .ok (.ishl, 1) := by decide +kernel
theorem dX3_may_44 : decode cX3_may 44 = .ok (.goto 4, 3) := by decide +kernel
theorem dX3_may_47 : decode cX3_may 47 = .ok (.iconst 0, 1) := by decide +kernel
theorem dX3_may_48 : decode cX3_may 48 = .ok (.ior, 1) := by decide +kernel
theorem dX3_may_49 : decode cX3_may 49 = .ok (.istore_n 3, 1) := by decide +kernel
theorem dX3_may_50 : decode cX3_may 50 = .ok (.iinc 4 1, 3) := by decide +kernel
theorem dX3_may_53 : decode cX3_may 53 = .ok (.goto (-39), 3) := by decide +kernel
theorem dX3_may_56 : decode cX3_may 56 = .ok (.iload_n 3, 1) := by decide +kernel
theorem dX3_may_57 : decode cX3_may 57 = .ok (.ireturn, 1) := by decide +kernel
theorem dX3_again_0 : decode cX3_again 0 = .ok (.aload_n 0, 1) := by decide +kernel
theorem dX3_again_1 : decode cX3_again 1 = .ok (.getfield 86, 3) := by decide +kernel
theorem dX3_again_4 : decode cX3_again 4 = .ok (.istore_n 1, 1) := by decide +kernel
theorem dX3_again_5 : decode cX3_again 5 = .ok (.aload_n 0, 1) := by decide +kernel
theorem dX3_again_6 : decode cX3_again 6 = .ok (.iconst 0, 1) := by decide +kernel
theorem dX3_again_7 : decode cX3_again 7 = .ok (.putfield 86, 3) := by decide +kernel
theorem dX3_again_10 : decode cX3_again 10 = .ok (.aload_n 0, 1) := by decide +kernel
theorem dX3_again_11 : decode cX3_again 11 = .ok (.lconst 0, 1) := by decide +kernel
theorem dX3_again_12 : decode cX3_again 12 = .ok (.putfield 89, 3) := by decide +kernel
theorem dX3_again_15 : decode cX3_again 15 = .ok (.iload_n 1, 1) := by decide +kernel
theorem dX3_again_16 : decode cX3_again 16 = .ok (.ireturn, 1) := by decide +kernel
