theorem dX5_init_0 : decode cX5_init 0 = .ok (.aload_n 0, 1) := by decide +kernel
theorem dX5_init_1 : decode cX5_init 1 = .ok (.invokespecial 1, 3) := by decide +kernel
theorem dX5_init_4 : decode cX5_init 4 = .ok (.aload_n 0, 1) := by decide +kernel
theorem dX5_init_5 : decode cX5_init 5 = .ok (.sipush 6432, 3) := by decide +kernel
theorem dX5_init_8 : decode cX5_init 8 = .ok (.newarray .int, 2) := by decide +kernel
theorem dX5_init_10 : decode cX5_init 10 = .ok (.putfield 7, 3) := by decide +kernel
theorem dX5_init_13 : decode cX5_init 13 = .ok (.aload_n 0, 1) := by decide +kernel
theorem dX5_init_14 : decode cX5_init 14 = .ok (.sipush 201, 3) := by decide +kernel
theorem dX5_init_17 : decode cX5_init 17 = .ok (.newarray .int, 2) := by decide +kernel
theorem dX5_init_19 : decode cX5_init 19 = .ok (.putfield 13, 3) := by decide +kernel
theorem dX5_init_22 : decode cX5_init 22 = .ok (.aload_n 0, 1) := by decide +kernel
theorem dX5_init_23 : decode cX5_init 23 = .ok (.sipush 201, 3) := by decide +kernel
theorem dX5_init_26 : decode cX5_init 26 = .ok (.newarray .int, 2) := by decide +kernel
theorem dX5_init_28 : decode cX5_init 28 = .ok (.putfield 16, 3) := by decide +kernel
theorem dX5_init_31 : decode cX5_init 31 = .ok (.aload_n 0, 1) := by decide +kernel
theorem dX5_init_32 : decode cX5_init 32 = .ok (.bipush 60, 2) := by decide +kernel
theorem dX5_init_34 : decode cX5_init 34 = .ok (.newarray .int, 2) := by decide +kernel
theorem dX5_init_36 : decode cX5_init 36 = .ok (.putfield 19, 3) := by decide +kernel
theorem dX5_init_39 : decode cX5_init 39 = .ok (.aload_n 0, 1) := by decide +kernel
theorem dX5_init_40 : decode cX5_init 40 = .ok (.bipush 60, 2) := by decide +kernel
theorem dX5_init_42 : decode cX5_init 42 = .ok (.newarray .int, 2) := by decide +kernel
theorem dX5_init_44 : decode cX5_init 44 = .ok (.putfield 22, 3) := by decide +kernel
theorem dX5_init_47 : decode cX5_init 47 = .ok (.aload_n 0, 1) := by decide +kernel
theorem dX5_init_48 : decode cX5_init 48 = .ok (.bipush 60, 2) := by decide +kernel
theorem dX5_init_50 : decode cX5_init 50 = .ok (.newarray .int, 2) := by decide +kernel
theorem dX5_init_52 : decode cX5_init 52 = .ok (.putfield 25, 3) := by decide +kernel
theorem dX5_init_55 : decode cX5_init 55 = .ok (.aload_n 0, 1) := by decide +kernel
theorem dX5_init_56 : decode cX5_init 56 = .ok (.sipush 400, 3) := by decide +kernel
theorem dX5_init_59 : decode cX5_init 59 = .ok (.newarray .int, 2) := by decide +kernel
theorem dX5_init_61 : decode cX5_init 61 = .ok (.putfield 28, 3) := by decide +kernel
theorem dX5_init_64 : decode cX5_init 64 = .ok (.aload_n 0, 1) := by decide +kernel
theorem dX5_init_65 : decode cX5_init 65 = .ok (.sipush 400, 3) := by decide +kernel
theorem dX5_init_68 : decode cX5_init 68 = .ok (.newarray .int, 2) := by decide +kernel
theorem dX5_init_70 : decode cX5_init 70 = .ok (.putfield 31, 3) := by decide +kernel
theorem dX5_init_73 : decode cX5_init 73 = .ok (.aload_n 0, 1) := by decide +kernel
theorem dX5_init_74 : decode cX5_init 74 = .ok (.sipush 400, 3) := by decide +kernel
theorem dX5_init_77 : decode cX5_init 77 = .ok (.newarray .int, 2) := by decide +kernel
theorem dX5_init_79 : decode cX5_init 79 = .ok (.putfield 34, 3) := by decide +kernel
theorem dX5_init_82 : decode cX5_init 82 = .ok (.aload_n 0, 1) := by decide +kernel
theorem dX5_init_83 : decode cX5_init 83 = .ok (.sipush 400, 3) := by decide +kernel
theorem dX5_init_86 : decode cX5_init 86 = .ok (.newarray .int, 2) := by decide +kernel
theorem dX5_init_88 : decode cX5_init 88 = .ok (.putfield 37, 3) := by decide +kernel
theorem dX5_init_91 : decode cX5_init 91 = .ok (.aload_n 0, 1) := by decide +kernel
theorem dX5_init_92 : decode cX5_init 92 = .ok (.sipush 400, 3) := by decide +kernel
theorem dX5_init_95 : decode cX5_init 95 = .ok (.newarray .int, 2) := by decide +kernel
theorem dX5_init_97 : decode cX5_init 97 = .ok (.putfield 40, 3) := by decide +kernel
theorem dX5_init_100 : decode cX5_init 100 = .ok (.aload_n 0, 1) := by decide +kernel
theorem dX5_init_101 : decode cX5_init 101 = .ok (.iconst 5, 1) := by decide +kernel
theorem dX5_init_102 : decode cX5_init 102 = .ok (.newarray .int, 2) := by decide +kernel
theorem dX5_init_104 : decode cX5_init 104 = .ok (.putfield 43, 3) := by decide +kernel
theorem dX5_init_107 : decode cX5_init 107 = .ok (.aload_n 0, 1) := by decide +kernel
theorem dX5_init_108 : decode cX5_init 108 = .ok (.bipush 64, 2) := by decide +kernel
theorem dX5_init_110 : decode cX5_init 110 = .ok (.newarray .int, 2) := by decide +kernel
theorem dX5_init_112 : decode cX5_init 112 = .ok (.putfield 46, 3) := by decide +kernel
theorem dX5_init_115 : decode cX5_init 115 = .ok (.aload_n 0, 1) := by decide +kernel
theorem dX5_init_116 : decode cX5_init 116 = .ok (.invokevirtual 49, 3) := by decide +kernel
theorem dX5_init_119 : decode cX5_init 119 = .ok (.return_, 1) := by decide +kernel
theorem dX5_in_0 : decode cX5_in 0 = .ok (.iload_n 0, 1) := by decide +kernel
theorem dX5_in_1 : decode cX5_in 1 = .ok (.iload_n 1, 1) := by decide +kernel
theorem dX5_in_2 : decode cX5_in 2 = .ok (.if_icmp .lt 12, 3) := by decide +kernel
theorem dX5_in_5 : decode cX5_in 5 = .ok (.iload_n 0, 1) := by decide +kernel
theorem dX5_in_6 : decode cX5_in 6 = .ok (.iload_n 2, 1) := by decide +kernel
theorem dX5_in_7 : decode cX5_in 7 = .ok (.if_icmp .gt 7, 3) := by decide +kernel
theorem dX5_in_10 : decode cX5_in 10 = .ok (.iconst 1, 1) := by decide +kernel
theorem dX5_in_11 : decode cX5_in 11 = .ok (.goto 4, 3) := by decide +kernel
theorem dX5_in_14 : decode cX5_in 14 = .ok (.iconst 0, 1) := by decide +kernel
theorem dX5_in_15 : decode cX5_in 15 = .ok (.ireturn, 1) := by decide +kernel
theorem dX5_begin_0 : decode cX5_begin 0 = .ok (.aload_n 0, 1) := by decide +kernel
theorem dX5_begin_1 : decode cX5_begin 1 = .ok (.iconst 0, 1) := by decide +kernel
theorem dX5_begin_2 : decode cX5_begin 2 = .ok (.putfield 52, 3) := by decide +kernel
theorem dX5_begin_5 : decode cX5_begin 5 = .ok (.aload_n 0, 1) := by decide +kernel
theorem dX5_begin_6 : decode cX5_begin 6 = .ok (.iconst 0, 1) := by decide +kernel
theorem dX5_begin_7 : decode cX5_begin 7 = .ok (.putfield 56, 3) := by decide +kernel
theorem dX5_begin_10 : decode cX5_begin 10 = .ok (.aload_n 0, 1) := by decide +kernel
theorem dX5_begin_11 : decode cX5_begin 11 = .ok (.iconst 0, 1) := by decide +kernel
theorem dX5_begin_12 : decode cX5_begin 12 = .ok (.putfield 59, 3) := by decide +kernel
theorem dX5_begin_15 : decode cX5_begin 15 = .ok (.aload_n 0, 1) := by decide +kernel
theorem dX5_begin_16 : decode cX5_begin 16 = .ok (.iconst 0, 1) := by decide +kernel
theorem dX5_begin_17 : decode cX5_begin 17 = .ok (.putfield 62, 3) := by decide +kernel
theorem dX5_begin_20 : decode cX5_begin 20 = .ok (.aload_n 0, 1) := by decide +kernel
theorem dX5_begin_21 : decode cX5_begin 21 = .ok (.iconst 0, 1) := by decide +kernel
theorem dX5_begin_22 : decode cX5_begin 22 = .ok (.putfield 65, 3) := by decide +kernel
theorem dX5_begin_25 : decode cX5_begin 25 = .ok (.iconst 0, 1) := by decide +kernel
theorem dX5_begin_26 : decode cX5_begin 26 = .ok (.istore_n 1, 1) := by decide +kernel
theorem dX5_begin_27 : decode cX5_begin 27 = .ok (.iload_n 1, 1) := by decide +kernel
theorem dX5_begin_28 : decode cX5_begin 28 = .ok (.bipush 32, 2) := by decide +kernel
theorem dX5_begin_30 : decode cX5_begin 30 = .ok (.if_icmp .ge 16, 3) := by decide +kernel
theorem dX5_begin_33 : decode cX5_begin 33 = .ok (.aload_n 0, 1) := by decide +kernel
theorem dX5_begin_34 : decode cX5_begin 34 = .ok (.getfield 7, 3) := by decide +kernel
theorem dX5_begin_37 : decode cX5_begin 37 = .ok (.iload_n 1, 1) := by decide +kernel
theorem dX5_begin_38 : decode cX5_begin 38 = .ok (.iconst 0, 1) := by decide +kernel
theorem dX5_begin_39 : decode cX5_begin 39 = .ok (.iastore, 1) := by decide +kernel
theorem dX5_begin_40 : decode cX5_begin 40 = .ok (.iinc 1 1, 3) := by decide +kernel
theorem dX5_begin_43 : decode cX5_begin 43 = .ok (.goto (-16), 3) := by decide +kernel
theorem dX5_begin_46 : decode cX5_begin 46 = .ok (.aload_n 0, 1) := by decide +kernel
theorem dX5_begin_47 : decode cX5_begin 47 = .ok (.getfield 16, 3) := by decide +kernel
theorem dX5_begin_50 : decode cX5_begin 50 = .ok (.iconst 0, 1) := by decide +kernel
theorem dX5_begin_51 : decode cX5_begin 51 = .ok (.iconst 0, 1) := by decide +kernel
theorem dX5_begin_52 : decode cX5_begin 52 = .ok (.iastore, 1) := by decide +kernel
theorem dX5_begin_53 : decode cX5_begin 53 = .ok (.iconst 0, 1) := by decide +kernel
theorem dX5_begin_54 : decode cX5_begin 54 = .ok (.istore_n 1, 1) := by decide +kernel
theorem dX5_begin_55 : decode cX5_begin 55 = .ok (.iload_n 1, 1) := by decide +kernel
theorem dX5_begin_56 : decode cX5_begin 56 = .ok (.iconst 5, 1) := by decide +kernel
theorem dX5_begin_57 : decode cX5_begin 57 = .ok (.if_icmp .ge 16, 3) := by decide +kernel
theorem dX5_begin_60 : decode cX5_begin 60 = .ok (.aload_n 0, 1) := by decide +kernel
theorem dX5_begin_61 : decode cX5_begin 61 = .ok (.getfield 43, 3) := by decide +kernel
theorem dX5_begin_64 : decode cX5_begin 64 = .ok (.iload_n 1, 1) := by decide +kernel
theorem dX5_begin_65 : decode cX5_begin 65 = .ok (.iconst 0, 1) := by decide +kernel
theorem dX5_begin_66 : decode cX5_begin 66 = .ok (.iastore, 1) := by decide +kernel
theorem dX5_begin_67 : decode cX5_begin 67 = .ok (.iinc 1 1, 3) := by decide +kernel
theorem dX5_begin_70 : decode cX5_begin 70 = .ok (.goto (-15), 3) := by decide +kernel
theorem dX5_begin_73 : decode cX5_begin 73 = .ok (.aload_n 0, 1) := by decide +kernel
theorem dX5_begin_74 : decode cX5_begin 74 = .ok (.getfield 13, 3) := by decide +kernel
theorem dX5_begin_77 : decode cX5_begin 77 = .ok (.iconst 0, 1) := by decide +kernel
theorem dX5_begin_78 : decode cX5_begin 78 = .ok (.aload_n 0, 1) := by decide +kernel
theorem dX5_begin_79 : decode cX5_begin 79 = .ok (.iconst 0, 1) := by decide +kernel
theorem dX5_begin_80 : decode cX5_begin 80 = .ok (.invokevirtual 68, 3) := by decide +kernel
theorem dX5_begin_83 : decode cX5_begin 83 = .ok (.iastore, 1) := by decide +kernel
theorem dX5_begin_84 : decode cX5_begin 84 = .ok (.return_, 1) := by decide +kernel
theorem dX5_isLeaf_0 : decode cX5_isLeaf 0 = .ok (.iload_n 0, 1) := by decide +kernel
theorem dX5_isLeaf_1 : decode cX5_isLeaf 1 = .ok (.iconst 0, 1) := by decide +kernel
theorem dX5_isLeaf_2 : decode cX5_isLeaf 2 = .ok (.bipush 31, 2) := by decide +kernel
theorem dX5_isLeaf_4 : decode cX5_isLeaf 4 = .ok (.invokestatic 72, 3) := by decide +kernel
theorem dX5_isLeaf_7 : decode cX5_isLeaf 7 = .ok (.ireturn, 1) := by decide +kernel
theorem dX5_isHeight_0 : decode cX5_isHeight 0 = .ok (.iload_n 1, 1) := by decide +kernel
theorem dX5_isHeight_1 : decode cX5_isHeight 1 = .ok (.iconst 0, 1) := by decide +kernel
theorem dX5_isHeight_2 : decode cX5_isHeight 2 = .ok (.aload_n 0, 1) := by decide +kernel
theorem dX5_isHeight_3 : decode cX5_isHeight 3 = .ok (.getfield 52, 3) := by decide +kernel
theorem dX5_isHeight_6 : decode cX5_isHeight 6 = .ok (.invokestatic 72, 3) := by decide +kernel
theorem dX5_isHeight_9 : decode cX5_isHeight 9 = .ok (.ireturn, 1) := by decide +kernel
theorem dX5_ofLeaf_0 : decode cX5_ofLeaf 0 = .ok (.iload_n 1, 1) := by decide +kernel
theorem dX5_ofLeaf_1 : decode cX5_ofLeaf 1 = .ok (.bipush 31, 2) := by decide +kernel
theorem dX5_ofLeaf_3 : decode cX5_ofLeaf 3 = .ok (.imul, 1) := by decide +kernel
theorem dX5_ofLeaf_4 : decode cX5_ofLeaf 4 = .ok (.iload_n 0, 1) := by decide +kernel
theorem dX5_ofLeaf_5 : decode cX5_ofLeaf 5 = .ok (.iadd, 1) := by decide +kernel
theorem dX5_ofLeaf_6 : decode cX5_ofLeaf 6 = .ok (.ireturn, 1) := by decide +kernel
theorem dX5_ofTwo_0 : decode cX5_ofTwo 0 = .ok (.bipush 31, 2) := by decide +kernel
theorem dX5_ofTwo_2 : decode cX5_ofTwo 2 = .ok (.iload_n 0, 1) := by decide +kernel
theorem dX5_ofTwo_3 : decode cX5_ofTwo 3 = .ok (.imul, 1) := by decide +kernel
theorem dX5_ofTwo_4 : decode cX5_ofTwo 4 = .ok (.iload_n 1, 1) := by decide +kernel
theorem dX5_ofTwo_5 : decode cX5_ofTwo 5 = .ok (.iadd, 1) := by decide +kernel
theorem dX5_ofTwo_6 : decode cX5_ofTwo 6 = .ok (.istore_n 2, 1) := by decide +kernel
theorem dX5_ofTwo_7 : decode cX5_ofTwo 7 = .ok (.iload_n 2, 1) := by decide +kernel
theorem dX5_ofTwo_8 : decode cX5_ofTwo 8 = .ok (.iload_n 2, 1) := by decide +kernel
theorem dX5_ofTwo_9 : decode cX5_ofTwo 9 = .ok (.bipush 15, 2) := by decide +kernel
theorem dX5_ofTwo_11 : decode cX5_ofTwo 11 = .ok (.iushr, 1) := by decide +kernel
theorem dX5_ofTwo_12 : decode cX5_ofTwo 12 = .ok (.ixor, 1) := by decide +kernel
theorem dX5_ofTwo_13 : decode cX5_ofTwo 13 = .ok (.istore_n 2, 1) := by decide +kernel
theorem dX5_ofTwo_14 : decode cX5_ofTwo 14 = .ok (.iload_n 2, 1) := by decide +kernel
theorem dX5_ofTwo_15 : decode cX5_ofTwo 15 = .ok (.ldc 76, 2) := by decide +kernel
theorem dX5_ofTwo_17 : decode cX5_ofTwo 17 = .ok (.imul, 1) := by decide +kernel
theorem dX5_ofTwo_18 : decode cX5_ofTwo 18 = .ok (.ireturn, 1) := by decide +kernel
theorem dX5_digestOf_0 : decode cX5_digestOf 0 = .ok (.iconst 0, 1) := by decide +kernel
theorem dX5_digestOf_1 : decode cX5_digestOf 1 = .ok (.istore_n 2, 1) := by decide +kernel
theorem dX5_digestOf_2 : decode cX5_digestOf 2 = .ok (.iload_n 2, 1) := by decide +kernel
theorem dX5_digestOf_3 : decode cX5_digestOf 3 = .ok (.bipush 32, 2) := by decide +kernel
theorem dX5_digestOf_5 : decode cX5_digestOf 5 = .ok (.if_icmp .ge 33, 3) := by decide +kernel
theorem dX5_digestOf_8 : decode cX5_digestOf 8 = .ok (.aload_n 0, 1) := by decide +kernel
theorem dX5_digestOf_9 : decode cX5_digestOf 9 = .ok (.getfield 46, 3) := by decide +kernel
theorem dX5_digestOf_12 : decode cX5_digestOf 12 = .ok (.bipush 32, 2) := by decide +kernel
theorem dX5_digestOf_14 : decode cX5_digestOf 14 = .ok (.iload_n 2, 1) := by decide +kernel
theorem dX5_digestOf_15 : decode cX5_digestOf 15 = .ok (.iadd, 1) := by decide +kernel
theorem dX5_digestOf_16 : decode cX5_digestOf 16 = .ok (.iload_n 2, 1) := by decide +kernel
theorem dX5_digestOf_17 : decode cX5_digestOf 17 = .ok (.aload_n 0, 1) := by decide +kernel
theorem dX5_digestOf_18 : decode cX5_digestOf 18 = .ok (.getfield 7, 3) := by decide +kernel
theorem dX5_digestOf_21 : decode cX5_digestOf 21 = .ok (.bipush 32, 2) := by decide +kernel
theorem dX5_digestOf_23 : decode cX5_digestOf 23 = .ok (.iload_n 1, 1) := by decide +kernel
theorem dX5_digestOf_24 : decode cX5_digestOf 24 = .ok (.imul, 1) := by decide +kernel
theorem dX5_digestOf_25 : decode cX5_digestOf 25 = .ok (.iload_n 2, 1) := by decide +kernel
theorem dX5_digestOf_26 : decode cX5_digestOf 26 = .ok (.iadd, 1) := by decide +kernel
theorem dX5_digestOf_27 : decode cX5_digestOf 27 = .ok (.iaload, 1) := by decide +kernel
theorem dX5_digestOf_28 : decode cX5_digestOf 28 = .ok (.invokestatic 77, 3) := by decide +kernel
theorem dX5_digestOf_31 : decode cX5_digestOf 31 = .ok (.iastore, 1) := by decide +kernel
theorem dX5_digestOf_32 : decode cX5_digestOf 32 = .ok (.iinc 2 1, 3) := by decide +kernel
theorem dX5_digestOf_35 : decode cX5_digestOf 35 = .ok (.goto (-33), 3) := by decide +kernel
theorem dX5_digestOf_38 : decode cX5_digestOf 38 = .ok (.bipush 31, 2) := by decide +kernel
theorem dX5_digestOf_40 : decode cX5_digestOf 40 = .ok (.istore_n 2, 1) := by decide +kernel
theorem dX5_digestOf_41 : decode cX5_digestOf 41 = .ok (.iload_n 2, 1) := by decide +kernel
theorem dX5_digestOf_42 : decode cX5_digestOf 42 = .ok (.ifCond .le 36, 3) := by decide +kernel
theorem dX5_digestOf_45 : decode cX5_digestOf 45 = .ok (.aload_n 0, 1) := by decide +kernel
theorem dX5_digestOf_46 : decode cX5_digestOf 46 = .ok (.getfield 46, 3) := by decide +kernel
theorem dX5_digestOf_49 : decode cX5_digestOf 49 = .ok (.iload_n 2, 1) := by decide +kernel
theorem dX5_digestOf_50 : decode cX5_digestOf 50 = .ok (.aload_n 0, 1) := by decide +kernel
theorem dX5_digestOf_51 : decode cX5_digestOf 51 = .ok (.getfield 46, 3) := by decide +kernel
theorem dX5_digestOf_54 : decode cX5_digestOf 54 = .ok (.iconst 2, 1) := by decide +kernel
theorem dX5_digestOf_55 : decode cX5_digestOf 55 = .ok (.iload_n 2, 1) := by decide +kernel
theorem dX5_digestOf_56 : decode cX5_digestOf 56 = .ok (.imul, 1) := by decide +kernel
theorem dX5_digestOf_57 : decode cX5_digestOf 57 = .ok (.iaload, 1) := by decide +kernel
theorem dX5_digestOf_58 : decode cX5_digestOf 58 = .ok (.aload_n 0, 1) := by decide +kernel
theorem dX5_digestOf_59 : decode cX5_digestOf 59 = .ok (.getfield 46, 3) := by decide +kernel
theorem dX5_digestOf_62 : decode cX5_digestOf 62 = .ok (.iconst 2, 1) := by decide +kernel
theorem dX5_digestOf_63 : decode cX5_digestOf 63 = .ok (.iload_n 2, 1) := by decide +kernel
theorem dX5_digestOf_64 : decode cX5_digestOf 64 = .ok (.imul, 1) := by decide +kernel
theorem dX5_digestOf_65 : decode cX5_digestOf 65 = .ok (.iconst 1, 1) := by decide +kernel
theorem dX5_digestOf_66 : decode cX5_digestOf 66 = .ok (.iadd, 1) := by decide +kernel
theorem dX5_digestOf_67 : decode cX5_digestOf 67 = .ok (.iaload, 1) := by decide +kernel
theorem dX5_digestOf_68 : decode cX5_digestOf 68 = .ok (.invokestatic 81, 3) := by decide +kernel
theorem dX5_digestOf_71 : decode cX5_digestOf 71 = .ok (.iastore, 1) := by decide +kernel
theorem dX5_digestOf_72 : decode cX5_digestOf 72 = .ok (.iinc 2 (-1), 3) := by decide +kernel
theorem dX5_digestOf_75 : decode cX5_digestOf 75 = .ok (.goto (-34), 3) := by decide +kernel
theorem dX5_digestOf_78 : decode cX5_digestOf 78 = .ok (.aload_n 0, 1) := by decide +kernel
theorem dX5_digestOf_79 : decode cX5_digestOf 79 = .ok (.getfield 46, 3) := by decide +kernel
theorem dX5_digestOf_82 : decode cX5_digestOf 82 = .ok (.iconst 1, 1) := by decide +kernel
theorem dX5_digestOf_83 : decode cX5_digestOf 83 = .ok (.iaload, 1) := by decide +kernel
theorem dX5_digestOf_84 : decode cX5_digestOf 84 = .ok (.ireturn, 1) := by decide +kernel
theorem dX5_write_0 : decode cX5_write 0 = .ok (.iload_n 2, 1) := by decide +kernel
theorem dX5_write_1 : decode cX5_write 1 = .ok (.invokestatic 84, 3) := by decide +kernel
theorem dX5_write_4 : decode cX5_write 4 = .ok (.ifCond .ne 6, 3) := by decide +kernel
theorem dX5_write_7 : decode cX5_write 7 = .ok (.bipush (-101), 2) := by decide +kernel
theorem dX5_write_9 : decode cX5_write 9 = .ok (.ireturn, 1) := by decide +kernel
theorem dX5_write_10 : decode cX5_write 10 = .ok (.iload_n 1, 1) := by decide +kernel
theorem dX5_write_11 : decode cX5_write 11 = .ok (.iconst 0, 1) := by decide +kernel
theorem dX5_write_12 : decode cX5_write 12 = .ok (.sipush 999, 3) := by decide +kernel
theorem dX5_write_15 : decode cX5_write 15 = .ok (.invokestatic 72, 3) := by decide +kernel
theorem dX5_write_18 : decode cX5_write 18 = .ok (.ifCond .ne 6, 3) := by decide +kernel
theorem dX5_write_21 : decode cX5_write 21 = .ok (.bipush (-102), 2) := by decide +kernel
theorem dX5_write_23 : decode cX5_write 23 = .ok (.ireturn, 1) := by decide +kernel
theorem dX5_write_24 : decode cX5_write 24 = .ok (.aload_n 0, 1) := by decide +kernel
theorem dX5_write_25 : decode cX5_write 25 = .ok (.getfield 56, 3) := by decide +kernel
theorem dX5_write_28 : decode cX5_write 28 = .ok (.ifCond .le 21, 3) := by decide +kernel
theorem dX5_write_31 : decode cX5_write 31 = .ok (.iload_n 1, 1) := by decide +kernel
theorem dX5_write_32 : decode cX5_write 32 = .ok (.aload_n 0, 1) := by decide +kernel
theorem dX5_write_33 : decode cX5_write 33 = .ok (.getfield 19, 3) := by decide +kernel
theorem dX5_write_36 : decode cX5_write 36 = .ok (.aload_n 0, 1) := by decide +kernel
theorem dX5_write_37 : decode cX5_write 37 = .ok (.getfield 56, 3) := by decide +kernel
theorem dX5_write_40 : decode cX5_write 40 = .ok (.iconst 1, 1) := by decide +kernel
theorem dX5_write_41 : decode cX5_write 41 = .ok (.isub, 1) := by decide +kernel
theorem dX5_write_42 : decode cX5_write 42 = .ok (.iaload, 1) := by decide +kernel
theorem dX5_write_43 : decode cX5_write 43 = .ok (.if_icmp .ge 6, 3) := by decide +kernel
theorem dX5_write_46 : decode cX5_write 46 = .ok (.bipush (-103), 2) := by decide +kernel
theorem dX5_write_48 : decode cX5_write 48 = .ok (.ireturn, 1) := by decide +kernel
theorem dX5_write_49 : decode cX5_write 49 = .ok (.aload_n 0, 1) := by decide +kernel
theorem dX5_write_50 : decode cX5_write 50 = .ok (.getfield 56, 3) := by decide +kernel
theorem dX5_write_53 : decode cX5_write 53 = .ok (.bipush 60, 2) := by decide +kernel
theorem dX5_write_55 : decode cX5_write 55 = .ok (.if_icmp .ne 6, 3) := by decide +kernel
theorem dX5_write_58 : decode cX5_write 58 = .ok (.bipush (-105), 2) := by decide +kernel
theorem dX5_write_60 : decode cX5_write 60 = .ok (.ireturn, 1) := by decide +kernel
theorem dX5_write_61 : decode cX5_write 61 = .ok (.aload_n 0, 1) := by decide +kernel
theorem dX5_write_62 : decode cX5_write 62 = .ok (.getfield 19, 3) := by decide +kernel
theorem dX5_write_65 : decode cX5_write 65 = .ok (.aload_n 0, 1) := by decide +kernel
theorem dX5_write_66 : decode cX5_write 66 = .ok (.getfield 56, 3) := by decide +kernel
theorem dX5_write_69 : decode cX5_write 69 = .ok (.iload_n 1, 1) := by decide +kernel
theorem dX5_write_70 : decode cX5_write 70 = .ok (.iastore, 1) := by decide +kernel
theorem dX5_write_71 : decode cX5_write 71 = .ok (.aload_n 0, 1) := by decide +kernel
theorem dX5_write_72 : decode cX5_write 72 = .ok (.getfield 22, 3) := by decide +kernel
theorem dX5_write_75 : decode cX5_write 75 = .ok (.aload_n 0, 1) := by decide +kernel
theorem dX5_write_76 : decode cX5_write 76 = .ok (.getfield 56, 3) := by decide +kernel
theorem dX5_write_79 : decode cX5_write 79 = .ok (.iload_n 2, 1) := by decide +kernel
theorem dX5_write_80 : decode cX5_write 80 = .ok (.iastore, 1) := by decide +kernel
theorem dX5_write_81 : decode cX5_write 81 = .ok (.aload_n 0, 1) := by decide +kernel
theorem dX5_write_82 : decode cX5_write 82 = .ok (.getfield 25, 3) := by decide +kernel
theorem dX5_write_85 : decode cX5_write 85 = .ok (.aload_n 0, 1) := by decide +kernel
theorem dX5_write_86 : decode cX5_write 86 = .ok (.getfield 56, 3) := by decide +kernel
theorem dX5_write_89 : decode cX5_write 89 = .ok (.iload_n 3, 1) := by decide +kernel
theorem dX5_write_90 : decode cX5_write 90 = .ok (.iastore, 1) := by decide +kernel
theorem dX5_write_91 : decode cX5_write 91 = .ok (.aload_n 0, 1) := by decide +kernel
theorem dX5_write_92 : decode cX5_write 92 = .ok (.dup, 1) := by decide +kernel
theorem dX5_write_93 : decode cX5_write 93 = .ok (.getfield 56, 3) := by decide +kernel
theorem dX5_write_96 : decode cX5_write 96 = .ok (.iconst 1, 1) := by decide +kernel
theorem dX5_write_97 : decode cX5_write 97 = .ok (.iadd, 1) := by decide +kernel
theorem dX5_write_98 : decode cX5_write 98 = .ok (.putfield 56, 3) := by decide +kernel
theorem dX5_write_101 : decode cX5_write 101 = .ok (.aload_n 0, 1) := by decide +kernel
theorem dX5_write_102 : decode cX5_write 102 = .ok (.getfield 56, 3) := by decide +kernel
theorem dX5_write_105 : decode cX5_write 105 = .ok (.ireturn, 1) := by decide +kernel
theorem dX5_lastOf_0 : decode cX5_lastOf 0 = .ok (.iconst (-1), 1) := by decide +kernel
theorem dX5_lastOf_1 : decode cX5_lastOf 1 = .ok (.istore_n 2, 1) := by decide +kernel
theorem dX5_lastOf_2 : decode cX5_lastOf 2 = .ok (.iconst 0, 1) := by decide +kernel
theorem dX5_lastOf_3 : decode cX5_lastOf 3 = .ok (.istore_n 3, 1) := by decide +kernel
theorem dX5_lastOf_4 : decode cX5_lastOf 4 = .ok (.iload_n 3, 1) := by decide +kernel
theorem dX5_lastOf_5 : decode cX5_lastOf 5 = .ok (.aload_n 0, 1) := by decide +kernel
theorem dX5_lastOf_6 : decode cX5_lastOf 6 = .ok (.getfield 56, 3) := by decide +kernel
theorem dX5_lastOf_9 : decode cX5_lastOf 9 = .ok (.if_icmp .ge 25, 3) := by decide +kernel
theorem dX5_lastOf_12 : decode cX5_lastOf 12 = .ok (.aload_n 0, 1) := by decide +kernel
theorem dX5_lastOf_13 : decode cX5_lastOf 13 = .ok (.getfield 22, 3) := by decide +kernel
theorem dX5_lastOf_16 : decode cX5_lastOf 16 = .ok (.iload_n 3, 1) := by decide +kernel
theorem dX5_lastOf_17 : decode cX5_lastOf 17 = .ok (.iaload, 1) := by decide +kernel
theorem dX5_lastOf_18 : decode cX5_lastOf 18 = .ok (.iload_n 1, 1) := by decide +kernel
theorem dX5_lastOf_19 : decode cX5_lastOf 19 = .ok (.if_icmp .ne 7, 3) := by decide +kernel
theorem dX5_lastOf_22 : decode cX5_lastOf 22 = .ok (.iload_n 3, 1) := by decide +kernel
theorem dX5_lastOf_23 : decode cX5_lastOf 23 = .ok (.goto 4, 3) := by decide +kernel
theorem dX5_lastOf_26 : decode cX5_lastOf 26 = .ok (.iload_n 2, 1) := by decide +kernel
theorem dX5_lastOf_27 : decode cX5_lastOf 27 = .ok (.istore_n 2, 1) := by decide +kernel
theorem dX5_lastOf_28 : decode cX5_lastOf 28 = .ok (.iinc 3 1, 3) := by decide +kernel
theorem dX5_lastOf_31 : decode cX5_lastOf 31 = .ok (.goto (-27), 3) := by decide +kernel
theorem dX5_lastOf_34 : decode cX5_lastOf 34 = .ok (.iload_n 2, 1) := by decide +kernel
theorem dX5_lastOf_35 : decode cX5_lastOf 35 = .ok (.ireturn, 1) := by decide +kernel
theorem dX5_nowOf_0 : decode cX5_nowOf 0 = .ok (.aload_n 0, 1) := by decide +kernel
theorem dX5_nowOf_1 : decode cX5_nowOf 1 = .ok (.iload_n 1, 1) := by decide +kernel
theorem dX5_nowOf_2 : decode cX5_nowOf 2 = .ok (.invokevirtual 88, 3) := by decide +kernel
theorem dX5_nowOf_5 : decode cX5_nowOf 5 = .ok (.istore_n 2, 1) := by decide +kernel
theorem dX5_nowOf_6 : decode cX5_nowOf 6 = .ok (.iload_n 2, 1) := by decide +kernel
theorem dX5_nowOf_7 : decode cX5_nowOf 7 = .ok (.ifCond .ge 20, 3) := by decide +kernel
theorem dX5_nowOf_10 : decode cX5_nowOf 10 = .ok (.aload_n 0, 1) := by decide +kernel
theorem dX5_nowOf_11 : decode cX5_nowOf 11 = .ok (.getfield 7, 3) := by decide +kernel
theorem dX5_nowOf_14 : decode cX5_nowOf 14 = .ok (.bipush 32, 2) := by decide +kernel
theorem dX5_nowOf_16 : decode cX5_nowOf 16 = .ok (.aload_n 0, 1) := by decide +kernel
theorem dX5_nowOf_17 : decode cX5_nowOf 17 = .ok (.getfield 52, 3) := by decide +kernel
theorem dX5_nowOf_20 : decode cX5_nowOf 20 = .ok (.imul, 1) := by decide +kernel
theorem dX5_nowOf_21 : decode cX5_nowOf 21 = .ok (.iload_n 1, 1) := by decide +kernel
theorem dX5_nowOf_22 : decode cX5_nowOf 22 = .ok (.iadd, 1) := by decide +kernel
theorem dX5_nowOf_23 : decode cX5_nowOf 23 = .ok (.iaload, 1) := by decide +kernel
theorem dX5_nowOf_24 : decode cX5_nowOf 24 = .ok (.goto 9, 3) := by decide +kernel
theorem dX5_nowOf_27 : decode cX5_nowOf 27 = .ok (.aload_n 0, 1) := by decide +kernel
theorem dX5_nowOf_28 : decode cX5_nowOf 28 = .ok (.getfield 25, 3) := by decide +kernel
theorem dX5_nowOf_31 : decode cX5_nowOf 31 = .ok (.iload_n 2, 1) := by decide +kernel
theorem dX5_nowOf_32 : decode cX5_nowOf 32 = .ok (.iaload, 1) := by decide +kernel
theorem dX5_nowOf_33 : decode cX5_nowOf 33 = .ok (.ireturn, 1) := by decide +kernel
theorem dX5_seal_0 : decode cX5_seal 0 = .ok (.iconst 0, 1) := by decide +kernel
theorem dX5_seal_1 : decode cX5_seal 1 = .ok (.istore_n 1, 1) := by decide +kernel
theorem dX5_seal_2 : decode cX5_seal 2 = .ok (.iconst 0, 1) := by decide +kernel
theorem dX5_seal_3 : decode cX5_seal 3 = .ok (.istore_n 2, 1) := by decide +kernel
theorem dX5_seal_4 : decode cX5_seal 4 = .ok (.iload_n 2, 1) := by decide +kernel
theorem dX5_seal_5 : decode cX5_seal 5 = .ok (.bipush 32, 2) := by decide +kernel
theorem dX5_seal_7 : decode cX5_seal 7 = .ok (.if_icmp .ge 39, 3) := by decide +kernel
theorem dX5_seal_10 : decode cX5_seal 10 = .ok (.iload_n 1, 1) := by decide +kernel
theorem dX5_seal_11 : decode cX5_seal 11 = .ok (.aload_n 0, 1) := by decide +kernel
theorem dX5_seal_12 : decode cX5_seal 12 = .ok (.iload_n 2, 1) := by decide +kernel
theorem dX5_seal_13 : decode cX5_seal 13 = .ok (.invokevirtual 91, 3) := by decide +kernel
theorem dX5_seal_16 : decode cX5_seal 16 = .ok (.aload_n 0, 1) := by decide +kernel
theorem dX5_seal_17 : decode cX5_seal 17 = .ok (.getfield 7, 3) := by decide +kernel
theorem dX5_seal_20 : decode cX5_seal 20 = .ok (.bipush 32, 2) := by decide +kernel
theorem dX5_seal_22 : decode cX5_seal 22 = .ok (.aload_n 0, 1) := by decide +kernel
theorem dX5_seal_23 : decode cX5_seal 23 = .ok (.getfield 52, 3) := by decide +kernel
theorem dX5_seal_26 : decode cX5_seal 26 = .ok (.imul, 1) := by decide +kernel
theorem dX5_seal_27 : decode cX5_seal 27 = .ok (.iload_n 2, 1) := by decide +kernel
theorem dX5_seal_28 : decode cX5_seal 28 = .ok (.iadd, 1) := by decide +kernel
theorem dX5_seal_29 : decode cX5_seal 29 = .ok (.iaload, 1) := by decide +kernel
theorem dX5_seal_30 : decode cX5_seal 30 = .ok (.if_icmp .eq 7, 3) := by decide +kernel
theorem dX5_seal_33 : decode cX5_seal 33 = .ok (.iconst 1, 1) := by decide +kernel
theorem dX5_seal_34 : decode cX5_seal 34 = .ok (.goto 4, 3) := by decide +kernel
theorem dX5_seal_37 : decode cX5_seal 37 = .ok (.iconst 0, 1) := by decide +kernel
theorem dX5_seal_38 : decode cX5_seal 38 = .ok (.iadd, 1) := by decide +kernel
theorem dX5_seal_39 : decode cX5_seal 39 = .ok (.istore_n 1, 1) := by decide +kernel
theorem dX5_seal_40 : decode cX5_seal 40 = .ok (.iinc 2 1, 3) := by decide +kernel
theorem dX5_seal_43 : decode cX5_seal 43 = .ok (.goto (-39), 3) := by decide +kernel
theorem dX5_seal_46 : decode cX5_seal 46 = .ok (.aload_n 0, 1) := by decide +kernel
theorem dX5_seal_47 : decode cX5_seal 47 = .ok (.getfield 52, 3) := by decide +kernel
theorem dX5_seal_50 : decode cX5_seal 50 = .ok (.sipush 200, 3) := by decide +kernel
theorem dX5_seal_53 : decode cX5_seal 53 = .ok (.if_icmp .eq 15, 3) := by decide +kernel
theorem dX5_seal_56 : decode cX5_seal 56 = .ok (.aload_n 0, 1) := by decide +kernel
theorem dX5_seal_57 : decode cX5_seal 57 = .ok (.getfield 59, 3) := by decide +kernel
theorem dX5_seal_60 : decode cX5_seal 60 = .ok (.iload_n 1, 1) := by decide +kernel
theorem dX5_seal_61 : decode cX5_seal 61 = .ok (.iadd, 1) := by decide +kernel
theorem dX5_seal_62 : decode cX5_seal 62 = .ok (.sipush 400, 3) := by decide +kernel
theorem dX5_seal_65 : decode cX5_seal 65 = .ok (.if_icmp .le 6, 3) := by decide +kernel
theorem dX5_seal_68 : decode cX5_seal 68 = .ok (.bipush (-105), 2) := by decide +kernel
theorem dX5_seal_70 : decode cX5_seal 70 = .ok (.ireturn, 1) := by decide +kernel
theorem dX5_seal_71 : decode cX5_seal 71 = .ok (.aload_n 0, 1) := by decide +kernel
theorem dX5_seal_72 : decode cX5_seal 72 = .ok (.getfield 52, 3) := by decide +kernel
theorem dX5_seal_75 : decode cX5_seal 75 = .ok (.iconst 1, 1) := by decide +kernel
theorem dX5_seal_76 : decode cX5_seal 76 = .ok (.iadd, 1) := by decide +kernel
theorem dX5_seal_77 : decode cX5_seal 77 = .ok (.istore_n 2, 1) := by decide +kernel
theorem dX5_seal_78 : decode cX5_seal 78 = .ok (.iconst 0, 1) := by decide +kernel
theorem dX5_seal_79 : decode cX5_seal 79 = .ok (.istore_n 3, 1) := by decide +kernel
theorem dX5_seal_80 : decode cX5_seal 80 = .ok (.iload_n 3, 1) := by decide +kernel
theorem dX5_seal_81 : decode cX5_seal 81 = .ok (.bipush 32, 2) := by decide +kernel
theorem dX5_seal_83 : decode cX5_seal 83 = .ok (.if_icmp .ge 118, 3) := by decide +kernel
theorem dX5_seal_86 : decode cX5_seal 86 = .ok (.aload_n 0, 1) := by decide +kernel
theorem dX5_seal_87 : decode cX5_seal 87 = .ok (.iload_n 3, 1) := by decide +kernel
theorem dX5_seal_88 : decode cX5_seal 88 = .ok (.invokevirtual 91, 3) := by decide +kernel
theorem dX5_seal_91 : decode cX5_seal 91 = .ok (.istore 4, 2) := by decide +kernel
theorem dX5_seal_93 : decode cX5_seal 93 = .ok (.aload_n 0, 1) := by decide +kernel
theorem dX5_seal_94 : decode cX5_seal 94 = .ok (.getfield 7, 3) := by decide +kernel
theorem dX5_seal_97 : decode cX5_seal 97 = .ok (.bipush 32, 2) := by decide +kernel
theorem dX5_seal_99 : decode cX5_seal 99 = .ok (.iload_n 2, 1) := by decide +kernel
theorem dX5_seal_100 : decode cX5_seal 100 = .ok (.imul, 1) := by decide +kernel
theorem dX5_seal_101 : decode cX5_seal 101 = .ok (.iload_n 3, 1) := by decide +kernel
theorem dX5_seal_102 : decode cX5_seal 102 = .ok (.iadd, 1) := by decide +kernel
theorem dX5_seal_103 : decode cX5_seal 103 = .ok (.iload 4, 2) := by decide +kernel
theorem dX5_seal_105 : decode cX5_seal 105 = .ok (.iastore, 1) := by decide +kernel
theorem dX5_seal_106 : decode cX5_seal 106 = .ok (.iload 4, 2) := by decide +kernel
theorem dX5_seal_108 : decode cX5_seal 108 = .ok (.aload_n 0, 1) := by decide +kernel
theorem dX5_seal_109 : decode cX5_seal 109 = .ok (.getfield 7, 3) := by decide +kernel
theorem dX5_seal_112 : decode cX5_seal 112 = .ok (.bipush 32, 2) := by decide +kernel
theorem dX5_seal_114 : decode cX5_seal 114 = .ok (.aload_n 0, 1) := by decide +kernel
theorem dX5_seal_115 : decode cX5_seal 115 = .ok (.getfield 52, 3) := by decide +kernel
theorem dX5_seal_118 : decode cX5_seal 118 = .ok (.imul, 1) := by decide +kernel
theorem dX5_seal_119 : decode cX5_seal 119 = .ok (.iload_n 3, 1) := by decide +kernel
theorem dX5_seal_120 : decode cX5_seal 120 = .ok (.iadd, 1) := by decide +kernel
theorem dX5_seal_121 : decode cX5_seal 121 = .ok (.iaload, 1) := by decide +kernel
theorem dX5_seal_122 : decode cX5_seal 122 = .ok (.if_icmp .eq 73, 3) := by decide +kernel
theorem dX5_seal_125 : decode cX5_seal 125 = .ok (.aload_n 0, 1) := by decide +kernel
theorem dX5_seal_126 : decode cX5_seal 126 = .ok (.getfield 28, 3) := by decide +kernel
theorem dX5_seal_129 : decode cX5_seal 129 = .ok (.aload_n 0, 1) := by decide +kernel
theorem dX5_seal_130 : decode cX5_seal 130 = .ok (.getfield 59, 3) := by decide +kernel
theorem dX5_seal_133 : decode cX5_seal 133 = .ok (.iload_n 3, 1) := by decide +kernel
theorem dX5_seal_134 : decode cX5_seal 134 = .ok (.iastore, 1) := by decide +kernel
theorem dX5_seal_135 : decode cX5_seal 135 = .ok (.aload_n 0, 1) := by decide +kernel
theorem dX5_seal_136 : decode cX5_seal 136 = .ok (.getfield 31, 3) := by decide +kernel
theorem dX5_seal_139 : decode cX5_seal 139 = .ok (.aload_n 0, 1) := by decide +kernel
theorem dX5_seal_140 : decode cX5_seal 140 = .ok (.getfield 59, 3) := by decide +kernel
theorem dX5_seal_143 : decode cX5_seal 143 = .ok (.iload_n 2, 1) := by decide +kernel
theorem dX5_seal_144 : decode cX5_seal 144 = .ok (.iastore, 1) := by decide +kernel
theorem dX5_seal_145 : decode cX5_seal 145 = .ok (.aload_n 0, 1) := by decide +kernel
theorem dX5_seal_146 : decode cX5_seal 146 = .ok (.getfield 34, 3) := by decide +kernel
theorem dX5_seal_149 : decode cX5_seal 149 = .ok (.aload_n 0, 1) := by decide +kernel
theorem dX5_seal_150 : decode cX5_seal 150 = .ok (.getfield 59, 3) := by decide +kernel
theorem dX5_seal_153 : decode cX5_seal 153 = .ok (.iload 4, 2) := by decide +kernel
theorem dX5_seal_155 : decode cX5_seal 155 = .ok (.iastore, 1) := by decide +kernel
theorem dX5_seal_156 : decode cX5_seal 156 = .ok (.aload_n 0, 1) := by decide +kernel
theorem dX5_seal_157 : decode cX5_seal 157 = .ok (.getfield 37, 3) := by decide +kernel
theorem dX5_seal_160 : decode cX5_seal 160 = .ok (.aload_n 0, 1) := by decide +kernel
theorem dX5_seal_161 : decode cX5_seal 161 = .ok (.getfield 59, 3) := by decide +kernel
theorem dX5_seal_164 : decode cX5_seal 164 = .ok (.aload_n 0, 1) := by decide +kernel
theorem dX5_seal_165 : decode cX5_seal 165 = .ok (.getfield 19, 3) := by decide +kernel
theorem dX5_seal_168 : decode cX5_seal 168 = .ok (.aload_n 0, 1) := by decide +kernel
theorem dX5_seal_169 : decode cX5_seal 169 = .ok (.iload_n 3, 1) := by decide +kernel
theorem dX5_seal_170 : decode cX5_seal 170 = .ok (.invokevirtual 88, 3) := by decide +kernel
theorem dX5_seal_173 : decode cX5_seal 173 = .ok (.iaload, 1) := by decide +kernel
theorem dX5_seal_174 : decode cX5_seal 174 = .ok (.iastore, 1) := by decide +kernel
theorem dX5_seal_175 : decode cX5_seal 175 = .ok (.aload_n 0, 1) := by decide +kernel
theorem dX5_seal_176 : decode cX5_seal 176 = .ok (.getfield 40, 3) := by decide +kernel
theorem dX5_seal_179 : decode cX5_seal 179 = .ok (.aload_n 0, 1) := by decide +kernel
theorem dX5_seal_180 : decode cX5_seal 180 = .ok (.getfield 59, 3) := by decide +kernel
theorem dX5_seal_183 : decode cX5_seal 183 = .ok (.iconst 0, 1) := by decide +kernel
theorem dX5_seal_184 : decode cX5_seal 184 = .ok (.iastore, 1) := by decide +kernel
theorem dX5_seal_185 : decode cX5_seal 185 = .ok (.aload_n 0, 1) := by decide +kernel
theorem dX5_seal_186 : decode cX5_seal 186 = .ok (.dup, 1) := by decide +kernel
theorem dX5_seal_187 : decode cX5_seal 187 = .ok (.getfield 59, 3) := by decide +kernel
theorem dX5_seal_190 : decode cX5_seal 190 = .ok (.iconst 1, 1) := by decide +kernel
theorem dX5_seal_191 : decode cX5_seal 191 = .ok (.iadd, 1) := by decide +kernel
theorem dX5_seal_192 : decode cX5_seal 192 = .ok (.putfield 59, 3) := by decide +kernel
theorem dX5_seal_195 : decode cX5_seal 195 = .ok (.iinc 3 1, 3) := by decide +kernel
theorem dX5_seal_198 : decode cX5_seal 198 = .ok (.goto (-118), 3) := by decide +kernel
theorem dX5_seal_201 : decode cX5_seal 201 = .ok (.aload_n 0, 1) := by decide +kernel
theorem dX5_seal_202 : decode cX5_seal 202 = .ok (.iload_n 2, 1) := by decide +kernel
theorem dX5_seal_203 : decode cX5_seal 203 = .ok (.putfield 52, 3) := by decide +kernel
theorem dX5_seal_206 : decode cX5_seal 206 = .ok (.aload_n 0, 1) := by decide +kernel
theorem dX5_seal_207 : decode cX5_seal 207 = .ok (.iconst 0, 1) := by decide +kernel
theorem dX5_seal_208 : decode cX5_seal 208 = .ok (.putfield 56, 3) := by decide +kernel
theorem dX5_seal_211 : decode cX5_seal 211 = .ok (.aload_n 0, 1) := by decide +kernel
theorem dX5_seal_212 : decode cX5_seal 212 = .ok (.getfield 16, 3) := by decide +kernel
theorem dX5_seal_215 : decode cX5_seal 215 = .ok (.iload_n 2, 1) := by decide +kernel
theorem dX5_seal_216 : decode cX5_seal 216 = .ok (.iconst 0, 1) := by decide +kernel
theorem dX5_seal_217 : decode cX5_seal 217 = .ok (.iastore, 1) := by decide +kernel
theorem dX5_seal_218 : decode cX5_seal 218 = .ok (.aload_n 0, 1) := by decide +kernel
theorem dX5_seal_219 : decode cX5_seal 219 = .ok (.getfield 13, 3) := by decide +kernel
theorem dX5_seal_222 : decode cX5_seal 222 = .ok (.iload_n 2, 1) := by decide +kernel
theorem dX5_seal_223 : decode cX5_seal 223 = .ok (.aload_n 0, 1) := by decide +kernel
theorem dX5_seal_224 : decode cX5_seal 224 = .ok (.iload_n 2, 1) := by decide +kernel
theorem dX5_seal_225 : decode cX5_seal 225 = .ok (.invokevirtual 68, 3) := by decide +kernel
theorem dX5_seal_228 : decode cX5_seal 228 = .ok (.iastore, 1) := by decide +kernel
theorem dX5_seal_229 : decode cX5_seal 229 = .ok (.iload_n 2, 1) := by decide +kernel
theorem dX5_seal_230 : decode cX5_seal 230 = .ok (.ireturn, 1) := by decide +kernel
theorem dX5_drop_0 : decode cX5_drop 0 = .ok (.aload_n 0, 1) := by decide +kernel
theorem dX5_drop_1 : decode cX5_drop 1 = .ok (.getfield 56, 3) := by decide +kernel
theorem dX5_drop_4 : decode cX5_drop 4 = .ok (.istore_n 1, 1) := by decide +kernel
theorem dX5_drop_5 : decode cX5_drop 5 = .ok (.aload_n 0, 1) := by decide +kernel
theorem dX5_drop_6 : decode cX5_drop 6 = .ok (.iconst 0, 1) := by decide +kernel
theorem dX5_drop_7 : decode cX5_drop 7 = .ok (.putfield 56, 3) := by decide +kernel
theorem dX5_drop_10 : decode cX5_drop 10 = .ok (.iload_n 1, 1) := by decide +kernel
theorem dX5_drop_11 : decode cX5_drop 11 = .ok (.ireturn, 1) := by decide +kernel
theorem dX5_at_0 : decode cX5_at 0 = .ok (.iload_n 1, 1) := by decide +kernel
theorem dX5_at_1 : decode cX5_at 1 = .ok (.invokestatic 84, 3) := by decide +kernel
theorem dX5_at_4 : decode cX5_at 4 = .ok (.ifCond .eq 11, 3) := by decide +kernel
theorem dX5_at_7 : decode cX5_at 7 = .ok (.aload_n 0, 1) := by decide +kernel
theorem dX5_at_8 : decode cX5_at 8 = .ok (.iload_n 2, 1) := by decide +kernel
theorem dX5_at_9 : decode cX5_at 9 = .ok (.invokevirtual 94, 3) := by decide +kernel
theorem dX5_at_12 : decode cX5_at 12 = .ok (.ifCond .ne 7, 3) := by decide +kernel
theorem dX5_at_15 : decode cX5_at 15 = .ok (.ldc2_w 97, 3) := by decide +kernel
theorem dX5_at_18 : decode cX5_at 18 = .ok (.lreturn, 1) := by decide +kernel
theorem dX5_at_19 : decode cX5_at 19 = .ok (.aload_n 0, 1) := by decide +kernel
theorem dX5_at_20 : decode cX5_at 20 = .ok (.getfield 16, 3) := by decide +kernel
theorem dX5_at_23 : decode cX5_at 23 = .ok (.iload_n 2, 1) := by decide +kernel
theorem dX5_at_24 : decode cX5_at 24 = .ok (.iaload, 1) := by decide +kernel
theorem dX5_at_25 : decode cX5_at 25 = .ok (.ifCond .le 9, 3) := by decide +kernel
theorem dX5_at_28 : decode cX5_at 28 = .ok (.ldc2_w 99, 3) := by decide +kernel
theorem dX5_at_31 : decode cX5_at 31 = .ok (.goto 15, 3) := by decide +kernel
theorem dX5_at_34 : decode cX5_at 34 = .ok (.aload_n 0, 1) := by decide +kernel
theorem dX5_at_35 : decode cX5_at 35 = .ok (.getfield 7, 3) := by decide +kernel
theorem dX5_at_38 : decode cX5_at 38 = .ok (.bipush 32, 2) := by decide +kernel
theorem dX5_at_40 : decode cX5_at 40 = .ok (.iload_n 2, 1) := by decide +kernel
theorem dX5_at_41 : decode cX5_at 41 = .ok (.imul, 1) := by decide +kernel
theorem dX5_at_42 : decode cX5_at 42 = .ok (.iload_n 1, 1) := by decide +kernel
theorem dX5_at_43 : decode cX5_at 43 = .ok (.iadd, 1) := by decide +kernel
theorem dX5_at_44 : decode cX5_at 44 = .ok (.iaload, 1) := by decide +kernel
theorem dX5_at_45 : decode cX5_at 45 = .ok (.i2l, 1) := by decide +kernel
theorem dX5_at_46 : decode cX5_at 46 = .ok (.lreturn, 1) := by decide +kernel
theorem dX5_now_0 : decode cX5_now 0 = .ok (.iload_n 1, 1) := by decide +kernel
theorem dX5_now_1 : decode cX5_now 1 = .ok (.invokestatic 84, 3) := by decide +kernel
theorem dX5_now_4 : decode cX5_now 4 = .ok (.ifCond .eq 12, 3) := by decide +kernel
theorem dX5_now_7 : decode cX5_now 7 = .ok (.aload_n 0, 1) := by decide +kernel
theorem dX5_now_8 : decode cX5_now 8 = .ok (.iload_n 1, 1) := by decide +kernel
theorem dX5_now_9 : decode cX5_now 9 = .ok (.invokevirtual 91, 3) := by decide +kernel
theorem dX5_now_12 : decode cX5_now 12 = .ok (.i2l, 1) := by decide +kernel
theorem dX5_now_13 : decode cX5_now 13 = .ok (.goto 6, 3) := by decide +kernel
theorem dX5_now_16 : decode cX5_now 16 = .ok (.ldc2_w 97, 3) := by decide +kernel
theorem dX5_now_19 : decode cX5_now 19 = .ok (.lreturn, 1) := by decide +kernel
theorem dX5_digest_0 : decode cX5_digest 0 = .ok (.aload_n 0, 1) := by decide +kernel
theorem dX5_digest_1 : decode cX5_digest 1 = .ok (.iload_n 1, 1) := by decide +kernel
theorem dX5_digest_2 : decode cX5_digest 2 = .ok (.invokevirtual 94, 3) := by decide +kernel
theorem dX5_digest_5 : decode cX5_digest 5 = .ok (.ifCond .eq 13, 3) := by decide +kernel
theorem dX5_digest_8 : decode cX5_digest 8 = .ok (.aload_n 0, 1) := by decide +kernel
theorem dX5_digest_9 : decode cX5_digest 9 = .ok (.getfield 13, 3) := by decide +kernel
theorem dX5_digest_12 : decode cX5_digest 12 = .ok (.iload_n 1, 1) := by decide +kernel
theorem dX5_digest_13 : decode cX5_digest 13 = .ok (.iaload, 1) := by decide +kernel
theorem dX5_digest_14 : decode cX5_digest 14 = .ok (.i2l, 1) := by decide +kernel
theorem dX5_digest_15 : decode cX5_digest 15 = .ok (.goto 6, 3) := by decide +kernel
theorem dX5_digest_18 : decode cX5_digest 18 = .ok (.ldc2_w 97, 3) := by decide +kernel
theorem dX5_digest_21 : decode cX5_digest 21 = .ok (.lreturn, 1) := by decide +kernel
theorem dX5_blame_0 : decode cX5_blame 0 = .ok (.iload_n 1, 1) := by decide +kernel
theorem dX5_blame_1 : decode cX5_blame 1 = .ok (.invokestatic 84, 3) := by decide +kernel
theorem dX5_blame_4 : decode cX5_blame 4 = .ok (.ifCond .eq 11, 3) := by decide +kernel
theorem dX5_blame_7 : decode cX5_blame 7 = .ok (.aload_n 0, 1) := by decide +kernel
theorem dX5_blame_8 : decode cX5_blame 8 = .ok (.iload_n 2, 1) := by decide +kernel
theorem dX5_blame_9 : decode cX5_blame 9 = .ok (.invokevirtual 94, 3) := by decide +kernel
theorem dX5_blame_12 : decode cX5_blame 12 = .ok (.ifCond .ne 6, 3) := by decide +kernel
theorem dX5_blame_15 : decode cX5_blame 15 = .ok (.bipush (-101), 2) := by decide +kernel
theorem dX5_blame_17 : decode cX5_blame 17 = .ok (.ireturn, 1) := by decide +kernel
theorem dX5_blame_18 : decode cX5_blame 18 = .ok (.iload_n 3, 1) := by decide +kernel
theorem dX5_blame_19 : decode cX5_blame 19 = .ok (.iconst 0, 1) := by decide +kernel
theorem dX5_blame_20 : decode cX5_blame 20 = .ok (.iconst 1, 1) := by decide +kernel
theorem dX5_blame_21 : decode cX5_blame 21 = .ok (.invokestatic 72, 3) := by decide +kernel
theorem dX5_blame_24 : decode cX5_blame 24 = .ok (.ifCond .ne 6, 3) := by decide +kernel
theorem dX5_blame_27 : decode cX5_blame 27 = .ok (.bipush (-102), 2) := by decide +kernel
theorem dX5_blame_29 : decode cX5_blame 29 = .ok (.ireturn, 1) := by decide +kernel
theorem dX5_blame_30 : decode cX5_blame 30 = .ok (.aload_n 0, 1) := by decide +kernel
theorem dX5_blame_31 : decode cX5_blame 31 = .ok (.getfield 16, 3) := by decide +kernel
theorem dX5_blame_34 : decode cX5_blame 34 = .ok (.iload_n 2, 1) := by decide +kernel
theorem dX5_blame_35 : decode cX5_blame 35 = .ok (.iaload, 1) := by decide +kernel
theorem dX5_blame_36 : decode cX5_blame 36 = .ok (.ifCond .le 6, 3) := by decide +kernel
theorem dX5_blame_39 : decode cX5_blame 39 = .ok (.bipush (-104), 2) := by decide +kernel
theorem dX5_blame_41 : decode cX5_blame 41 = .ok (.ireturn, 1) := by decide +kernel
theorem dX5_blame_42 : decode cX5_blame 42 = .ok (.iconst (-1), 1) := by decide +kernel
theorem dX5_blame_43 : decode cX5_blame 43 = .ok (.istore 4, 2) := by decide +kernel
theorem dX5_blame_45 : decode cX5_blame 45 = .ok (.iconst 0, 1) := by decide +kernel
theorem dX5_blame_46 : decode cX5_blame 46 = .ok (.istore 5, 2) := by decide +kernel
theorem dX5_blame_48 : decode cX5_blame 48 = .ok (.iload 5, 2) := by decide +kernel
theorem dX5_blame_50 : decode cX5_blame 50 = .ok (.aload_n 0, 1) := by decide +kernel
theorem dX5_blame_51 : decode cX5_blame 51 = .ok (.getfield 59, 3) := by decide +kernel
theorem dX5_blame_54 : decode cX5_blame 54 = .ok (.if_icmp .ge 81, 3) := by decide +kernel
theorem dX5_blame_57 : decode cX5_blame 57 = .ok (.aload_n 0, 1) := by decide +kernel
theorem dX5_blame_58 : decode cX5_blame 58 = .ok (.getfield 40, 3) := by decide +kernel
theorem dX5_blame_61 : decode cX5_blame 61 = .ok (.iload 5, 2) := by decide +kernel
theorem dX5_blame_63 : decode cX5_blame 63 = .ok (.iaload, 1) := by decide +kernel
theorem dX5_blame_64 : decode cX5_blame 64 = .ok (.ifCond .ne 29, 3) := by decide +kernel
theorem dX5_blame_67 : decode cX5_blame 67 = .ok (.aload_n 0, 1) := by decide +kernel
theorem dX5_blame_68 : decode cX5_blame 68 = .ok (.getfield 28, 3) := by decide +kernel
theorem dX5_blame_71 : decode cX5_blame 71 = .ok (.iload 5, 2) := by decide +kernel
theorem dX5_blame_73 : decode cX5_blame 73 = .ok (.iaload, 1) := by decide +kernel
theorem dX5_blame_74 : decode cX5_blame 74 = .ok (.iload_n 1, 1) := by decide +kernel
theorem dX5_blame_75 : decode cX5_blame 75 = .ok (.if_icmp .ne 18, 3) := by decide +kernel
theorem dX5_blame_78 : decode cX5_blame 78 = .ok (.aload_n 0, 1) := by decide +kernel
theorem dX5_blame_79 : decode cX5_blame 79 = .ok (.getfield 31, 3) := by decide +kernel
theorem dX5_blame_82 : decode cX5_blame 82 = .ok (.iload 5, 2) := by decide +kernel
theorem dX5_blame_84 : decode cX5_blame 84 = .ok (.iaload, 1) := by decide +kernel
theorem dX5_blame_85 : decode cX5_blame 85 = .ok (.iload_n 2, 1) := by decide +kernel
theorem dX5_blame_86 : decode cX5_blame 86 = .ok (.if_icmp .gt 7, 3) := by decide +kernel
theorem dX5_blame_89 : decode cX5_blame 89 = .ok (.iconst 1, 1) := by decide +kernel
theorem dX5_blame_90 : decode cX5_blame 90 = .ok (.goto 4, 3) := by decide +kernel
theorem dX5_blame_93 : decode cX5_blame 93 = .ok (.iconst 0, 1) := by decide +kernel
theorem dX5_blame_94 : decode cX5_blame 94 = .ok (.istore 6, 2) := by decide +kernel
theorem dX5_blame_96 : decode cX5_blame 96 = .ok (.iload 6, 2) := by decide +kernel
theorem dX5_blame_98 : decode cX5_blame 98 = .ok (.ifCond .eq 27, 3) := by decide +kernel
theorem dX5_blame_101 : decode cX5_blame 101 = .ok (.iload_n 3, 1) := by decide +kernel
theorem dX5_blame_102 : decode cX5_blame 102 = .ok (.ifCond .ne 13, 3) := by decide +kernel
theorem dX5_blame_105 : decode cX5_blame 105 = .ok (.aload_n 0, 1) := by decide +kernel
theorem dX5_blame_106 : decode cX5_blame 106 = .ok (.getfield 37, 3) := by decide +kernel
theorem dX5_blame_109 : decode cX5_blame 109 = .ok (.iload 5, 2) := by decide +kernel
theorem dX5_blame_111 : decode cX5_blame 111 = .ok (.iaload, 1) := by decide +kernel
theorem dX5_blame_112 : decode cX5_blame 112 = .ok (.goto 15, 3) := by decide +kernel
theorem dX5_blame_115 : decode cX5_blame 115 = .ok (.aload_n 0, 1) := by decide +kernel
theorem dX5_blame_116 : decode cX5_blame 116 = .ok (.getfield 31, 3) := by decide +kernel
theorem dX5_blame_119 : decode cX5_blame 119 = .ok (.iload 5, 2) := by decide +kernel
theorem dX5_blame_121 : decode cX5_blame 121 = .ok (.iaload, 1) := by decide +kernel
theorem dX5_blame_122 : decode cX5_blame 122 = .ok (.goto 5, 3) := by decide +kernel
theorem dX5_blame_125 : decode cX5_blame 125 = .ok (.iload 4, 2) := by decide +kernel
theorem dX5_blame_127 : decode cX5_blame 127 = .ok (.istore 4, 2) := by decide +kernel
theorem dX5_blame_129 : decode cX5_blame 129 = .ok (.iinc 5 1, 3) := by decide +kernel
theorem dX5_blame_132 : decode cX5_blame 132 = .ok (.goto (-84), 3) := by decide +kernel
theorem dX5_blame_135 : decode cX5_blame 135 = .ok (.iload 4, 2) := by decide +kernel
theorem dX5_blame_137 : decode cX5_blame 137 = .ok (.ireturn, 1) := by decide +kernel
theorem dX5_first_0 : decode cX5_first 0 = .ok (.iload_n 1, 1) := by decide +kernel
theorem dX5_first_1 : decode cX5_first 1 = .ok (.invokestatic 84, 3) := by decide +kernel
theorem dX5_first_4 : decode cX5_first 4 = .ok (.ifCond .ne 6, 3) := by decide +kernel
theorem dX5_first_7 : decode cX5_first 7 = .ok (.bipush (-101), 2) := by decide +kernel
theorem dX5_first_9 : decode cX5_first 9 = .ok (.ireturn, 1) := by decide +kernel
theorem dX5_first_10 : decode cX5_first 10 = .ok (.iconst 0, 1) := by decide +kernel
theorem dX5_first_11 : decode cX5_first 11 = .ok (.istore_n 3, 1) := by decide +kernel
theorem dX5_first_12 : decode cX5_first 12 = .ok (.iload_n 3, 1) := by decide +kernel
theorem dX5_first_13 : decode cX5_first 13 = .ok (.aload_n 0, 1) := by decide +kernel
theorem dX5_first_14 : decode cX5_first 14 = .ok (.getfield 52, 3) := by decide +kernel
theorem dX5_first_17 : decode cX5_first 17 = .ok (.if_icmp .gt 35, 3) := by decide +kernel
theorem dX5_first_20 : decode cX5_first 20 = .ok (.aload_n 0, 1) := by decide +kernel
theorem dX5_first_21 : decode cX5_first 21 = .ok (.getfield 16, 3) := by decide +kernel
theorem dX5_first_24 : decode cX5_first 24 = .ok (.iload_n 3, 1) := by decide +kernel
theorem dX5_first_25 : decode cX5_first 25 = .ok (.iaload, 1) := by decide +kernel
theorem dX5_first_26 : decode cX5_first 26 = .ok (.ifCond .ne 20, 3) := by decide +kernel
theorem dX5_first_29 : decode cX5_first 29 = .ok (.aload_n 0, 1) := by decide +kernel
theorem dX5_first_30 : decode cX5_first 30 = .ok (.getfield 7, 3) := by decide +kernel
theorem dX5_first_33 : decode cX5_first 33 = .ok (.bipush 32, 2) := by decide +kernel
theorem dX5_first_35 : decode cX5_first 35 = .ok (.iload_n 3, 1) := by decide +kernel
theorem dX5_first_36 : decode cX5_first 36 = .ok (.imul, 1) := by decide +kernel
theorem dX5_first_37 : decode cX5_first 37 = .ok (.iload_n 1, 1) := by decide +kernel
theorem dX5_first_38 : decode cX5_first 38 = .ok (.iadd, 1) := by decide +kernel
theorem dX5_first_39 : decode cX5_first 39 = .ok (.iaload, 1) := by decide +kernel
theorem dX5_first_40 : decode cX5_first 40 = .ok (.iload_n 2, 1) := by decide +kernel
theorem dX5_first_41 : decode cX5_first 41 = .ok (.if_icmp .ne 5, 3) := by decide +kernel
theorem dX5_first_44 : decode cX5_first 44 = .ok (.iload_n 3, 1) := by decide +kernel
theorem dX5_first_45 : decode cX5_first 45 = .ok (.ireturn, 1) := by decide +kernel
theorem dX5_first_46 : decode cX5_first 46 = .ok (.iinc 3 1, 3) := by decide +kernel
theorem dX5_first_49 : decode cX5_first 49 = .ok (.goto (-37), 3) := by decide +kernel
theorem dX5_first_52 : decode cX5_first 52 = .ok (.iconst (-1), 1) := by decide +kernel
theorem dX5_first_53 : decode cX5_first 53 = .ok (.ireturn, 1) := by decide +kernel
theorem dX5_bars_0 : decode cX5_bars 0 = .ok (.aload_n 0, 1) := by decide +kernel
theorem dX5_bars_1 : decode cX5_bars 1 = .ok (.iload_n 1, 1) := by decide +kernel
theorem dX5_bars_2 : decode cX5_bars 2 = .ok (.invokevirtual 94, 3) := by decide +kernel
theorem dX5_bars_5 : decode cX5_bars 5 = .ok (.ifCond .eq 11, 3) := by decide +kernel
theorem dX5_bars_8 : decode cX5_bars 8 = .ok (.aload_n 0, 1) := by decide +kernel
theorem dX5_bars_9 : decode cX5_bars 9 = .ok (.iload_n 2, 1) := by decide +kernel
theorem dX5_bars_10 : decode cX5_bars 10 = .ok (.invokevirtual 94, 3) := by decide +kernel
theorem dX5_bars_13 : decode cX5_bars 13 = .ok (.ifCond .ne 6, 3) := by decide +kernel
theorem dX5_bars_16 : decode cX5_bars 16 = .ok (.bipush (-101), 2) := by decide +kernel
theorem dX5_bars_18 : decode cX5_bars 18 = .ok (.ireturn, 1) := by decide +kernel
theorem dX5_bars_19 : decode cX5_bars 19 = .ok (.aload_n 0, 1) := by decide +kernel
theorem dX5_bars_20 : decode cX5_bars 20 = .ok (.getfield 16, 3) := by decide +kernel
theorem dX5_bars_23 : decode cX5_bars 23 = .ok (.iload_n 1, 1) := by decide +kernel
theorem dX5_bars_24 : decode cX5_bars 24 = .ok (.iaload, 1) := by decide +kernel
theorem dX5_bars_25 : decode cX5_bars 25 = .ok (.ifCond .gt 12, 3) := by decide +kernel
theorem dX5_bars_28 : decode cX5_bars 28 = .ok (.aload_n 0, 1) := by decide +kernel
theorem dX5_bars_29 : decode cX5_bars 29 = .ok (.getfield 16, 3) := by decide +kernel
theorem dX5_bars_32 : decode cX5_bars 32 = .ok (.iload_n 2, 1) := by decide +kernel
theorem dX5_bars_33 : decode cX5_bars 33 = .ok (.iaload, 1) := by decide +kernel
theorem dX5_bars_34 : decode cX5_bars 34 = .ok (.ifCond .le 8, 3) := by decide +kernel
theorem dX5_bars_37 : decode cX5_bars 37 = .ok (.bipush (-104), 2) := by decide +kernel
theorem dX5_bars_39 : decode cX5_bars 39 = .ok (.goto 4, 3) := by decide +kernel
theorem dX5_bars_42 : decode cX5_bars 42 = .ok (.iconst 0, 1) := by decide +kernel
theorem dX5_bars_43 : decode cX5_bars 43 = .ok (.ireturn, 1) := by decide +kernel
theorem dX5_differs_0 : decode cX5_differs 0 = .ok (.aload_n 0, 1) := by decide +kernel
theorem dX5_differs_1 : decode cX5_differs 1 = .ok (.iload_n 1, 1) := by decide +kernel
theorem dX5_differs_2 : decode cX5_differs 2 = .ok (.iload_n 2, 1) := by decide +kernel
theorem dX5_differs_3 : decode cX5_differs 3 = .ok (.invokevirtual 101, 3) := by decide +kernel
theorem dX5_differs_6 : decode cX5_differs 6 = .ok (.istore_n 3, 1) := by decide +kernel
theorem dX5_differs_7 : decode cX5_differs 7 = .ok (.iload_n 3, 1) := by decide +kernel
theorem dX5_differs_8 : decode cX5_differs 8 = .ok (.ifCond .ge 5, 3) := by decide +kernel
theorem dX5_differs_11 : decode cX5_differs 11 = .ok (.iload_n 3, 1) := by decide +kernel
theorem dX5_differs_12 : decode cX5_differs 12 = .ok (.ireturn, 1) := by decide +kernel
theorem dX5_differs_13 : decode cX5_differs 13 = .ok (.iconst 0, 1) := by decide +kernel
theorem dX5_differs_14 : decode cX5_differs 14 = .ok (.istore 4, 2) := by decide +kernel
theorem dX5_differs_16 : decode cX5_differs 16 = .ok (.iconst 0, 1) := by decide +kernel
theorem dX5_differs_17 : decode cX5_differs 17 = .ok (.istore 5, 2) := by decide +kernel
theorem dX5_differs_19 : decode cX5_differs 19 = .ok (.iload 5, 2) := by decide +kernel
theorem dX5_differs_21 : decode cX5_differs 21 = .ok (.bipush 32, 2) := by decide +kernel
theorem dX5_differs_23 : decode cX5_differs 23 = .ok (.if_icmp .ge 46, 3) := by decide +kernel
theorem dX5_differs_26 : decode cX5_differs 26 = .ok (.iload 4, 2) := by decide +kernel
theorem dX5_differs_28 : decode cX5_differs 28 = .ok (.aload_n 0, 1) := by decide +kernel
theorem dX5_differs_29 : decode cX5_differs 29 = .ok (.getfield 7, 3) := by decide +kernel
theorem dX5_differs_32 : decode cX5_differs 32 = .ok (.bipush 32, 2) := by decide +kernel
theorem dX5_differs_34 : decode cX5_differs 34 = .ok (.iload_n 1, 1) := by decide +kernel
theorem dX5_differs_35 : decode cX5_differs 35 = .ok (.imul, 1) := by decide +kernel
theorem dX5_differs_36 : decode cX5_differs 36 = .ok (.iload 5, 2) := by decide +kernel
theorem dX5_differs_38 : decode cX5_differs 38 = .ok (.iadd, 1) := by decide +kernel
theorem dX5_differs_39 : decode cX5_differs 39 = .ok (.iaload, 1) := by decide +kernel
theorem dX5_differs_40 : decode cX5_differs 40 = .ok (.aload_n 0, 1) := by decide +kernel
theorem dX5_differs_41 : decode cX5_differs 41 = .ok (.getfield 7, 3) := by decide +kernel
theorem dX5_differs_44 : decode cX5_differs 44 = .ok (.bipush 32, 2) := by decide +kernel
theorem dX5_differs_46 : decode cX5_differs 46 = .ok (.iload_n 2, 1) := by decide +kernel
theorem dX5_differs_47 : decode cX5_differs 47 = .ok (.imul, 1) := by decide +kernel
theorem dX5_differs_48 : decode cX5_differs 48 = .ok (.iload 5, 2) := by decide +kernel
theorem dX5_differs_50 : decode cX5_differs 50 = .ok (.iadd, 1) := by decide +kernel
theorem dX5_differs_51 : decode cX5_differs 51 = .ok (.iaload, 1) := by decide +kernel
theorem dX5_differs_52 : decode cX5_differs 52 = .ok (.if_icmp .eq 7, 3) := by decide +kernel
theorem dX5_differs_55 : decode cX5_differs 55 = .ok (.iconst 1, 1) := by decide +kernel
theorem dX5_differs_56 : decode cX5_differs 56 = .ok (.goto 4, 3) := by decide +kernel
theorem dX5_differs_59 : decode cX5_differs 59 = .ok (.iconst 0, 1) := by decide +kernel
theorem dX5_differs_60 : decode cX5_differs 60 = .ok (.iadd, 1) := by decide +kernel
theorem dX5_differs_61 : decode cX5_differs 61 = .ok (.istore 4, 2) := by decide +kernel
theorem dX5_differs_63 : decode cX5_differs 63 = .ok (.iinc 5 1, 3) := by decide +kernel
theorem dX5_differs_66 : decode cX5_differs 66 = .ok (.goto (-47), 3) := by decide +kernel
theorem dX5_differs_69 : decode cX5_differs 69 = .ok (.iload 4, 2) := by decide +kernel
theorem dX5_differs_71 : decode cX5_differs 71 = .ok (.ireturn, 1) := by decide +kernel
theorem dX5_difference_0 : decode cX5_difference 0 = .ok (.aload_n 0, 1) := by decide +kernel
theorem dX5_difference_1 : decode cX5_difference 1 = .ok (.iload_n 1, 1) := by decide +kernel
theorem dX5_difference_2 : decode cX5_difference 2 = .ok (.iload_n 2, 1) := by decide +kernel
theorem dX5_difference_3 : decode cX5_difference 3 = .ok (.invokevirtual 101, 3) := by decide +kernel
theorem dX5_difference_6 : decode cX5_difference 6 = .ok (.istore 4, 2) := by decide +kernel
theorem dX5_difference_8 : decode cX5_difference 8 = .ok (.iload 4, 2) := by decide +kernel
theorem dX5_difference_10 : decode cX5_difference 10 = .ok (.ifCond .ge 6, 3) := by decide +kernel
theorem dX5_difference_13 : decode cX5_difference 13 = .ok (.iload 4, 2) := by decide +kernel
theorem dX5_difference_15 : decode cX5_difference 15 = .ok (.ireturn, 1) := by decide +kernel
theorem dX5_difference_16 : decode cX5_difference 16 = .ok (.iconst 0, 1) := by decide +kernel
theorem dX5_difference_17 : decode cX5_difference 17 = .ok (.istore 5, 2) := by decide +kernel
theorem dX5_difference_19 : decode cX5_difference 19 = .ok (.iconst 0, 1) := by decide +kernel
theorem dX5_difference_20 : decode cX5_difference 20 = .ok (.istore 6, 2) := by decide +kernel
theorem dX5_difference_22 : decode cX5_difference 22 = .ok (.iload 6, 2) := by decide +kernel
theorem dX5_difference_24 : decode cX5_difference 24 = .ok (.bipush 32, 2) := by decide +kernel
theorem dX5_difference_26 : decode cX5_difference 26 = .ok (.if_icmp .ge 48, 3) := by decide +kernel
theorem dX5_difference_29 : decode cX5_difference 29 = .ok (.aload_n 0, 1) := by decide +kernel
theorem dX5_difference_30 : decode cX5_difference 30 = .ok (.getfield 7, 3) := by decide +kernel
theorem dX5_difference_33 : decode cX5_difference 33 = .ok (.bipush 32, 2) := by decide +kernel
theorem dX5_difference_35 : decode cX5_difference 35 = .ok (.iload_n 1, 1) := by decide +kernel
theorem dX5_difference_36 : decode cX5_difference 36 = .ok (.imul, 1) := by decide +kernel
theorem dX5_difference_37 : decode cX5_difference 37 = .ok (.iload 6, 2) := by decide +kernel
theorem dX5_difference_39 : decode cX5_difference 39 = .ok (.iadd, 1) := by decide +kernel
theorem dX5_difference_40 : decode cX5_difference 40 = .ok (.iaload, 1) := by decide +kernel
theorem dX5_difference_41 : decode cX5_difference 41 = .ok (.aload_n 0, 1) := by decide +kernel
theorem dX5_difference_42 : decode cX5_difference 42 = .ok (.getfield 7, 3) := by decide +kernel
theorem dX5_difference_45 : decode cX5_difference 45 = .ok (.bipush 32, 2) := by decide +kernel
theorem dX5_difference_47 : decode cX5_difference 47 = .ok (.iload_n 2, 1) := by decide +kernel
theorem dX5_difference_48 : decode cX5_difference 48 = .ok (.imul, 1) := by decide +kernel
theorem dX5_difference_49 : decode cX5_difference 49 = .ok (.iload 6, 2) := by decide +kernel
theorem dX5_difference_51 : decode cX5_difference 51 = .ok (.iadd, 1) := by decide +kernel
theorem dX5_difference_52 : decode cX5_difference 52 = .ok (.iaload, 1) := by decide +kernel
theorem dX5_difference_53 : decode cX5_difference 53 = .ok (.if_icmp .eq 15, 3) := by decide +kernel
theorem dX5_difference_56 : decode cX5_difference 56 = .ok (.iload 5, 2) := by decide +kernel
theorem dX5_difference_58 : decode cX5_difference 58 = .ok (.iload_n 3, 1) := by decide +kernel
theorem dX5_difference_59 : decode cX5_difference 59 = .ok (.if_icmp .ne 6, 3) := by decide +kernel
theorem dX5_difference_62 : decode cX5_difference 62 = .ok (.iload 6, 2) := by decide +kernel
theorem dX5_difference_64 : decode cX5_difference 64 = .ok (.ireturn, 1) := by decide +kernel
theorem dX5_difference_65 : decode cX5_difference 65 = .ok (.iinc 5 1, 3) := by decide +kernel
theorem dX5_difference_68 : decode cX5_difference 68 = .ok (.iinc 6 1, 3) := by decide +kernel
theorem dX5_difference_71 : decode cX5_difference 71 = .ok (.goto (-49), 3) := by decide +kernel
theorem dX5_difference_74 : decode cX5_difference 74 = .ok (.iconst (-1), 1) := by decide +kernel
theorem dX5_difference_75 : decode cX5_difference 75 = .ok (.ireturn, 1) := by decide +kernel
