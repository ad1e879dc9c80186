theorem dX0_init_0 : decode cX0_init 0 = .ok (.aload_n 0, 1) := by decide +kernel
theorem dX0_init_1 : decode cX0_init 1 = .ok (.invokespecial 3, 3) := by decide +kernel
theorem dX0_init_4 : decode cX0_init 4 = .ok (.aload_n 0, 1) := by decide +kernel
theorem dX0_init_5 : decode cX0_init 5 = .ok (.iconst 5, 1) := by decide +kernel
theorem dX0_init_6 : decode cX0_init 6 = .ok (.newarray .int, 2) := by decide +kernel
theorem dX0_init_8 : decode cX0_init 8 = .ok (.putfield 9, 3) := by decide +kernel
theorem dX0_init_11 : decode cX0_init 11 = .ok (.aload_n 0, 1) := by decide +kernel
theorem dX0_init_12 : decode cX0_init 12 = .ok (.iconst 4, 1) := by decide +kernel
theorem dX0_init_13 : decode cX0_init 13 = .ok (.newarray .int, 2) := by decide +kernel
theorem dX0_init_15 : decode cX0_init 15 = .ok (.putfield 15, 3) := by decide +kernel
theorem dX0_init_18 : decode cX0_init 18 = .ok (.aload_n 0, 1) := by decide +kernel
theorem dX0_init_19 : decode cX0_init 19 = .ok (.bipush 24, 2) := by decide +kernel
theorem dX0_init_21 : decode cX0_init 21 = .ok (.newarray .int, 2) := by decide +kernel
theorem dX0_init_23 : decode cX0_init 23 = .ok (.putfield 18, 3) := by decide +kernel
theorem dX0_init_26 : decode cX0_init 26 = .ok (.aload_n 0, 1) := by decide +kernel
theorem dX0_init_27 : decode cX0_init 27 = .ok (.bipush 24, 2) := by decide +kernel
theorem dX0_init_29 : decode cX0_init 29 = .ok (.newarray .int, 2) := by decide +kernel
theorem dX0_init_31 : decode cX0_init 31 = .ok (.putfield 21, 3) := by decide +kernel
theorem dX0_init_34 : decode cX0_init 34 = .ok (.aload_n 0, 1) := by decide +kernel
theorem dX0_init_35 : decode cX0_init 35 = .ok (.bipush 24, 2) := by decide +kernel
theorem dX0_init_37 : decode cX0_init 37 = .ok (.newarray .int, 2) := by decide +kernel
theorem dX0_init_39 : decode cX0_init 39 = .ok (.putfield 24, 3) := by decide +kernel
theorem dX0_init_42 : decode cX0_init 42 = .ok (.aload_n 0, 1) := by decide +kernel
theorem dX0_init_43 : decode cX0_init 43 = .ok (.bipush 24, 2) := by decide +kernel
theorem dX0_init_45 : decode cX0_init 45 = .ok (.newarray .int, 2) := by decide +kernel
theorem dX0_init_47 : decode cX0_init 47 = .ok (.putfield 27, 3) := by decide +kernel
theorem dX0_init_50 : decode cX0_init 50 = .ok (.aload_n 0, 1) := by decide +kernel
theorem dX0_init_51 : decode cX0_init 51 = .ok (.bipush 72, 2) := by decide +kernel
theorem dX0_init_53 : decode cX0_init 53 = .ok (.newarray .int, 2) := by decide +kernel
theorem dX0_init_55 : decode cX0_init 55 = .ok (.putfield 30, 3) := by decide +kernel
theorem dX0_init_58 : decode cX0_init 58 = .ok (.aload_n 0, 1) := by decide +kernel
theorem dX0_init_59 : decode cX0_init 59 = .ok (.bipush 13, 2) := by decide +kernel
theorem dX0_init_61 : decode cX0_init 61 = .ok (.newarray .int, 2) := by decide +kernel
theorem dX0_init_63 : decode cX0_init 63 = .ok (.putfield 33, 3) := by decide +kernel
theorem dX0_init_66 : decode cX0_init 66 = .ok (.aload_n 0, 1) := by decide +kernel
theorem dX0_init_67 : decode cX0_init 67 = .ok (.bipush 10, 2) := by decide +kernel
theorem dX0_init_69 : decode cX0_init 69 = .ok (.newarray .int, 2) := by decide +kernel
theorem dX0_init_71 : decode cX0_init 71 = .ok (.putfield 36, 3) := by decide +kernel
theorem dX0_init_74 : decode cX0_init 74 = .ok (.aload_n 0, 1) := by decide +kernel
theorem dX0_init_75 : decode cX0_init 75 = .ok (.invokevirtual 39, 3) := by decide +kernel
theorem dX0_init_78 : decode cX0_init 78 = .ok (.return_, 1) := by decide +kernel
theorem dX0_begin_0 : decode cX0_begin 0 = .ok (.aload_n 0, 1) := by decide +kernel
theorem dX0_begin_1 : decode cX0_begin 1 = .ok (.iconst 0, 1) := by decide +kernel
theorem dX0_begin_2 : decode cX0_begin 2 = .ok (.putfield 42, 3) := by decide +kernel
theorem dX0_begin_5 : decode cX0_begin 5 = .ok (.aload_n 0, 1) := by decide +kernel
theorem dX0_begin_6 : decode cX0_begin 6 = .ok (.iconst 0, 1) := by decide +kernel
theorem dX0_begin_7 : decode cX0_begin 7 = .ok (.putfield 46, 3) := by decide +kernel
theorem dX0_begin_10 : decode cX0_begin 10 = .ok (.aload_n 0, 1) := by decide +kernel
theorem dX0_begin_11 : decode cX0_begin 11 = .ok (.iconst 0, 1) := by decide +kernel
theorem dX0_begin_12 : decode cX0_begin 12 = .ok (.putfield 49, 3) := by decide +kernel
theorem dX0_begin_15 : decode cX0_begin 15 = .ok (.aload_n 0, 1) := by decide +kernel
theorem dX0_begin_16 : decode cX0_begin 16 = .ok (.iconst 0, 1) := by decide +kernel
theorem dX0_begin_17 : decode cX0_begin 17 = .ok (.putfield 52, 3) := by decide +kernel
theorem dX0_begin_20 : decode cX0_begin 20 = .ok (.iconst 0, 1) := by decide +kernel
theorem dX0_begin_21 : decode cX0_begin 21 = .ok (.istore_n 1, 1) := by decide +kernel
theorem dX0_begin_22 : decode cX0_begin 22 = .ok (.iload_n 1, 1) := by decide +kernel
theorem dX0_begin_23 : decode cX0_begin 23 = .ok (.iconst 5, 1) := by decide +kernel
theorem dX0_begin_24 : decode cX0_begin 24 = .ok (.if_icmp .ge 20, 3) := by decide +kernel
theorem dX0_begin_27 : decode cX0_begin 27 = .ok (.aload_n 0, 1) := by decide +kernel
theorem dX0_begin_28 : decode cX0_begin 28 = .ok (.getfield 9, 3) := by decide +kernel
theorem dX0_begin_31 : decode cX0_begin 31 = .ok (.iload_n 1, 1) := by decide +kernel
theorem dX0_begin_32 : decode cX0_begin 32 = .ok (.getstatic 55, 3) := by decide +kernel
theorem dX0_begin_35 : decode cX0_begin 35 = .ok (.iload_n 1, 1) := by decide +kernel
theorem dX0_begin_36 : decode cX0_begin 36 = .ok (.iaload, 1) := by decide +kernel
theorem dX0_begin_37 : decode cX0_begin 37 = .ok (.iastore, 1) := by decide +kernel
theorem dX0_begin_38 : decode cX0_begin 38 = .ok (.iinc 1 1, 3) := by decide +kernel
theorem dX0_begin_41 : decode cX0_begin 41 = .ok (.goto (-19), 3) := by decide +kernel
theorem dX0_begin_44 : decode cX0_begin 44 = .ok (.iconst 0, 1) := by decide +kernel
theorem dX0_begin_45 : decode cX0_begin 45 = .ok (.istore_n 1, 1) := by decide +kernel
theorem dX0_begin_46 : decode cX0_begin 46 = .ok (.iload_n 1, 1) := by decide +kernel
theorem dX0_begin_47 : decode cX0_begin 47 = .ok (.iconst 4, 1) := by decide +kernel
theorem dX0_begin_48 : decode cX0_begin 48 = .ok (.if_icmp .ge 16, 3) := by decide +kernel
theorem dX0_begin_51 : decode cX0_begin 51 = .ok (.aload_n 0, 1) := by decide +kernel
theorem dX0_begin_52 : decode cX0_begin 52 = .ok (.getfield 15, 3) := by decide +kernel
theorem dX0_begin_55 : decode cX0_begin 55 = .ok (.iload_n 1, 1) := by decide +kernel
theorem dX0_begin_56 : decode cX0_begin 56 = .ok (.iconst 2, 1) := by decide +kernel
theorem dX0_begin_57 : decode cX0_begin 57 = .ok (.iastore, 1) := by decide +kernel
theorem dX0_begin_58 : decode cX0_begin 58 = .ok (.iinc 1 1, 3) := by decide +kernel
theorem dX0_begin_61 : decode cX0_begin 61 = .ok (.goto (-15), 3) := by decide +kernel
theorem dX0_begin_64 : decode cX0_begin 64 = .ok (.iconst 0, 1) := by decide +kernel
theorem dX0_begin_65 : decode cX0_begin 65 = .ok (.istore_n 1, 1) := by decide +kernel
theorem dX0_begin_66 : decode cX0_begin 66 = .ok (.iload_n 1, 1) := by decide +kernel
theorem dX0_begin_67 : decode cX0_begin 67 = .ok (.bipush 10, 2) := by decide +kernel
theorem dX0_begin_69 : decode cX0_begin 69 = .ok (.if_icmp .ge 16, 3) := by decide +kernel
theorem dX0_begin_72 : decode cX0_begin 72 = .ok (.aload_n 0, 1) := by decide +kernel
theorem dX0_begin_73 : decode cX0_begin 73 = .ok (.getfield 36, 3) := by decide +kernel
theorem dX0_begin_76 : decode cX0_begin 76 = .ok (.iload_n 1, 1) := by decide +kernel
theorem dX0_begin_77 : decode cX0_begin 77 = .ok (.iconst 0, 1) := by decide +kernel
theorem dX0_begin_78 : decode cX0_begin 78 = .ok (.iastore, 1) := by decide +kernel
theorem dX0_begin_79 : decode cX0_begin 79 = .ok (.iinc 1 1, 3) := by decide +kernel
theorem dX0_begin_82 : decode cX0_begin 82 = .ok (.goto (-16), 3) := by decide +kernel
theorem dX0_begin_85 : decode cX0_begin 85 = .ok (.iconst 0, 1) := by decide +kernel
theorem dX0_begin_86 : decode cX0_begin 86 = .ok (.istore_n 1, 1) := by decide +kernel
theorem dX0_begin_87 : decode cX0_begin 87 = .ok (.iload_n 1, 1) := by decide +kernel
theorem dX0_begin_88 : decode cX0_begin 88 = .ok (.bipush 24, 2) := by decide +kernel
theorem dX0_begin_90 : decode cX0_begin 90 = .ok (.if_icmp .ge 14, 3) := by decide +kernel
theorem dX0_begin_93 : decode cX0_begin 93 = .ok (.aload_n 0, 1) := by decide +kernel
theorem dX0_begin_94 : decode cX0_begin 94 = .ok (.iload_n 1, 1) := by decide +kernel
theorem dX0_begin_95 : decode cX0_begin 95 = .ok (.invokevirtual 58, 3) := by decide +kernel
theorem dX0_begin_98 : decode cX0_begin 98 = .ok (.iinc 1 1, 3) := by decide +kernel
theorem dX0_begin_101 : decode cX0_begin 101 = .ok (.goto (-14), 3) := by decide +kernel
theorem dX0_begin_104 : decode cX0_begin 104 = .ok (.return_, 1) := by decide +kernel
theorem dX0_copyFrom_0 : decode cX0_copyFrom 0 = .ok (.aload_n 0, 1) := by decide +kernel
theorem dX0_copyFrom_1 : decode cX0_copyFrom 1 = .ok (.aload_n 1, 1) := by decide +kernel
theorem dX0_copyFrom_2 : decode cX0_copyFrom 2 = .ok (.getfield 42, 3) := by decide +kernel
theorem dX0_copyFrom_5 : decode cX0_copyFrom 5 = .ok (.putfield 42, 3) := by decide +kernel
theorem dX0_copyFrom_8 : decode cX0_copyFrom 8 = .ok (.aload_n 0, 1) := by decide +kernel
theorem dX0_copyFrom_9 : decode cX0_copyFrom 9 = .ok (.aload_n 1, 1) := by decide +kernel
theorem dX0_copyFrom_10 : decode cX0_copyFrom 10 = .ok (.getfield 46, 3) := by decide +kernel
theorem dX0_copyFrom_13 : decode cX0_copyFrom 13 = .ok (.putfield 46, 3) := by decide +kernel
theorem dX0_copyFrom_16 : decode cX0_copyFrom 16 = .ok (.aload_n 0, 1) := by decide +kernel
theorem dX0_copyFrom_17 : decode cX0_copyFrom 17 = .ok (.aload_n 1, 1) := by decide +kernel
theorem dX0_copyFrom_18 : decode cX0_copyFrom 18 = .ok (.getfield 49, 3) := by decide +kernel
theorem dX0_copyFrom_21 : decode cX0_copyFrom 21 = .ok (.putfield 49, 3) := by decide +kernel
theorem dX0_copyFrom_24 : decode cX0_copyFrom 24 = .ok (.aload_n 0, 1) := by decide +kernel
theorem dX0_copyFrom_25 : decode cX0_copyFrom 25 = .ok (.aload_n 1, 1) := by decide +kernel
theorem dX0_copyFrom_26 : decode cX0_copyFrom 26 = .ok (.getfield 52, 3) := by decide +kernel
theorem dX0_copyFrom_29 : decode cX0_copyFrom 29 = .ok (.putfield 52, 3) := by decide +kernel
theorem dX0_copyFrom_32 : decode cX0_copyFrom 32 = .ok (.aload_n 1, 1) := by decide +kernel
theorem dX0_copyFrom_33 : decode cX0_copyFrom 33 = .ok (.getfield 9, 3) := by decide +kernel
theorem dX0_copyFrom_36 : decode cX0_copyFrom 36 = .ok (.iconst 0, 1) := by decide +kernel
theorem dX0_copyFrom_37 : decode cX0_copyFrom 37 = .ok (.aload_n 0, 1) := by decide +kernel
theorem dX0_copyFrom_38 : decode cX0_copyFrom 38 = .ok (.getfield 9, 3) := by decide +kernel
theorem dX0_copyFrom_41 : decode cX0_copyFrom 41 = .ok (.iconst 0, 1) := by decide +kernel
theorem dX0_copyFrom_42 : decode cX0_copyFrom 42 = .ok (.iconst 5, 1) := by decide +kernel
theorem dX0_copyFrom_43 : decode cX0_copyFrom 43 = .ok (.invokestatic 62, 3) := by decide +kernel
theorem dX0_copyFrom_46 : decode cX0_copyFrom 46 = .ok (.aload_n 1, 1) := by decide +kernel
theorem dX0_copyFrom_47 : decode cX0_copyFrom 47 = .ok (.getfield 15, 3) := by decide +kernel
theorem dX0_copyFrom_50 : decode cX0_copyFrom 50 = .ok (.iconst 0, 1) := by decide +kernel
theorem dX0_copyFrom_51 : decode cX0_copyFrom 51 = .ok (.aload_n 0, 1) := by decide +kernel
theorem dX0_copyFrom_52 : decode cX0_copyFrom 52 = .ok (.getfield 15, 3) := by decide +kernel
theorem dX0_copyFrom_55 : decode cX0_copyFrom 55 = .ok (.iconst 0, 1) := by decide +kernel
theorem dX0_copyFrom_56 : decode cX0_copyFrom 56 = .ok (.iconst 4, 1) := by decide +kernel
theorem dX0_copyFrom_57 : decode cX0_copyFrom 57 = .ok (.invokestatic 62, 3) := by decide +kernel
theorem dX0_copyFrom_60 : decode cX0_copyFrom 60 = .ok (.aload_n 1, 1) := by decide +kernel
theorem dX0_copyFrom_61 : decode cX0_copyFrom 61 = .ok (.getfield 18, 3) := by decide +kernel
theorem dX0_copyFrom_64 : decode cX0_copyFrom 64 = .ok (.iconst 0, 1) := by decide +kernel
theorem dX0_copyFrom_65 : decode cX0_copyFrom 65 = .ok (.aload_n 0, 1) := by decide +kernel
theorem dX0_copyFrom_66 : decode cX0_copyFrom 66 = .ok (.getfield 18, 3) := by decide +kernel
theorem dX0_copyFrom_69 : decode cX0_copyFrom 69 = .ok (.iconst 0, 1) := by decide +kernel
theorem dX0_copyFrom_70 : decode cX0_copyFrom 70 = .ok (.bipush 24, 2) := by decide +kernel
theorem dX0_copyFrom_72 : decode cX0_copyFrom 72 = .ok (.invokestatic 62, 3) := by decide +kernel
theorem dX0_copyFrom_75 : decode cX0_copyFrom 75 = .ok (.aload_n 1, 1) := by decide +kernel
theorem dX0_copyFrom_76 : decode cX0_copyFrom 76 = .ok (.getfield 21, 3) := by decide +kernel
theorem dX0_copyFrom_79 : decode cX0_copyFrom 79 = .ok (.iconst 0, 1) := by decide +kernel
theorem dX0_copyFrom_80 : decode cX0_copyFrom 80 = .ok (.aload_n 0, 1) := by decide +kernel
theorem dX0_copyFrom_81 : decode cX0_copyFrom 81 = .ok (.getfield 21, 3) := by decide +kernel
theorem dX0_copyFrom_84 : decode cX0_copyFrom 84 = .ok (.iconst 0, 1) := by decide +kernel
theorem dX0_copyFrom_85 : decode cX0_copyFrom 85 = .ok (.bipush 24, 2) := by decide +kernel
theorem dX0_copyFrom_87 : decode cX0_copyFrom 87 = .ok (.invokestatic 62, 3) := by decide +kernel
theorem dX0_copyFrom_90 : decode cX0_copyFrom 90 = .ok (.aload_n 1, 1) := by decide +kernel
theorem dX0_copyFrom_91 : decode cX0_copyFrom 91 = .ok (.getfield 24, 3) := by decide +kernel
theorem dX0_copyFrom_94 : decode cX0_copyFrom 94 = .ok (.iconst 0, 1) := by decide +kernel
theorem dX0_copyFrom_95 : decode cX0_copyFrom 95 = .ok (.aload_n 0, 1) := by decide +kernel
theorem dX0_copyFrom_96 : decode cX0_copyFrom 96 = .ok (.getfield 24, 3) := by decide +kernel
theorem dX0_copyFrom_99 : decode cX0_copyFrom 99 = .ok (.iconst 0, 1) := by decide +kernel
theorem dX0_copyFrom_100 : decode cX0_copyFrom 100 = .ok (.bipush 24, 2) := by decide +kernel
theorem dX0_copyFrom_102 : decode cX0_copyFrom 102 = .ok (.invokestatic 62, 3) := by decide +kernel
theorem dX0_copyFrom_105 : decode cX0_copyFrom 105 = .ok (.aload_n 1, 1) := by decide +kernel
theorem dX0_copyFrom_106 : decode cX0_copyFrom 106 = .ok (.getfield 27, 3) := by decide +kernel
theorem dX0_copyFrom_109 : decode cX0_copyFrom 109 = .ok (.iconst 0, 1) := by decide +kernel
theorem dX0_copyFrom_110 : decode cX0_copyFrom 110 = .ok (.aload_n 0, 1) := by decide +kernel
theorem dX0_copyFrom_111 : decode cX0_copyFrom 111 = .ok (.getfield 27, 3) := by decide +kernel
theorem dX0_copyFrom_114 : decode cX0_copyFrom 114 = .ok (.iconst 0, 1) := by decide +kernel
theorem dX0_copyFrom_115 : decode cX0_copyFrom 115 = .ok (.bipush 24, 2) := by decide +kernel
theorem dX0_copyFrom_117 : decode cX0_copyFrom 117 = .ok (.invokestatic 62, 3) := by decide +kernel
theorem dX0_copyFrom_120 : decode cX0_copyFrom 120 = .ok (.aload_n 1, 1) := by decide +kernel
theorem dX0_copyFrom_121 : decode cX0_copyFrom 121 = .ok (.getfield 30, 3) := by decide +kernel
theorem dX0_copyFrom_124 : decode cX0_copyFrom 124 = .ok (.iconst 0, 1) := by decide +kernel
theorem dX0_copyFrom_125 : decode cX0_copyFrom 125 = .ok (.aload_n 0, 1) := by decide +kernel
theorem dX0_copyFrom_126 : decode cX0_copyFrom 126 = .ok (.getfield 30, 3) := by decide +kernel
theorem dX0_copyFrom_129 : decode cX0_copyFrom 129 = .ok (.iconst 0, 1) := by decide +kernel
theorem dX0_copyFrom_130 : decode cX0_copyFrom 130 = .ok (.bipush 72, 2) := by decide +kernel
theorem dX0_copyFrom_132 : decode cX0_copyFrom 132 = .ok (.invokestatic 62, 3) := by decide +kernel
theorem dX0_copyFrom_135 : decode cX0_copyFrom 135 = .ok (.aload_n 1, 1) := by decide +kernel
theorem dX0_copyFrom_136 : decode cX0_copyFrom 136 = .ok (.getfield 33, 3) := by decide +kernel
theorem dX0_copyFrom_139 : decode cX0_copyFrom 139 = .ok (.iconst 0, 1) := by decide +kernel
theorem dX0_copyFrom_140 : decode cX0_copyFrom 140 = .ok (.aload_n 0, 1) := by decide +kernel
theorem dX0_copyFrom_141 : decode cX0_copyFrom 141 = .ok (.getfield 33, 3) := by decide +kernel
theorem dX0_copyFrom_144 : decode cX0_copyFrom 144 = .ok (.iconst 0, 1) := by decide +kernel
theorem dX0_copyFrom_145 : decode cX0_copyFrom 145 = .ok (.bipush 13, 2) := by decide +kernel
theorem dX0_copyFrom_147 : decode cX0_copyFrom 147 = .ok (.invokestatic 62, 3) := by decide +kernel
theorem dX0_copyFrom_150 : decode cX0_copyFrom 150 = .ok (.aload_n 1, 1) := by decide +kernel
theorem dX0_copyFrom_151 : decode cX0_copyFrom 151 = .ok (.getfield 36, 3) := by decide +kernel
theorem dX0_copyFrom_154 : decode cX0_copyFrom 154 = .ok (.iconst 0, 1) := by decide +kernel
theorem dX0_copyFrom_155 : decode cX0_copyFrom 155 = .ok (.aload_n 0, 1) := by decide +kernel
theorem dX0_copyFrom_156 : decode cX0_copyFrom 156 = .ok (.getfield 36, 3) := by decide +kernel
theorem dX0_copyFrom_159 : decode cX0_copyFrom 159 = .ok (.iconst 0, 1) := by decide +kernel
theorem dX0_copyFrom_160 : decode cX0_copyFrom 160 = .ok (.bipush 10, 2) := by decide +kernel
theorem dX0_copyFrom_162 : decode cX0_copyFrom 162 = .ok (.invokestatic 62, 3) := by decide +kernel
theorem dX0_copyFrom_165 : decode cX0_copyFrom 165 = .ok (.return_, 1) := by decide +kernel
theorem dX0_isFree_0 : decode cX0_isFree 0 = .ok (.aload_n 0, 1) := by decide +kernel
theorem dX0_isFree_1 : decode cX0_isFree 1 = .ok (.getfield 18, 3) := by decide +kernel
theorem dX0_isFree_4 : decode cX0_isFree 4 = .ok (.iload_n 1, 1) := by decide +kernel
theorem dX0_isFree_5 : decode cX0_isFree 5 = .ok (.iaload, 1) := by decide +kernel
theorem dX0_isFree_6 : decode cX0_isFree 6 = .ok (.iconst (-1), 1) := by decide +kernel
theorem dX0_isFree_7 : decode cX0_isFree 7 = .ok (.if_icmp .ne 7, 3) := by decide +kernel
theorem dX0_isFree_10 : decode cX0_isFree 10 = .ok (.iconst 1, 1) := by decide +kernel
theorem dX0_isFree_11 : decode cX0_isFree 11 = .ok (.goto 4, 3) := by decide +kernel
theorem dX0_isFree_14 : decode cX0_isFree 14 = .ok (.iconst 0, 1) := by decide +kernel
theorem dX0_isFree_15 : decode cX0_isFree 15 = .ok (.ireturn, 1) := by decide +kernel
theorem dX0_isDisputed_0 : decode cX0_isDisputed 0 = .ok (.aload_n 0, 1) := by decide +kernel
theorem dX0_isDisputed_1 : decode cX0_isDisputed 1 = .ok (.getfield 24, 3) := by decide +kernel
theorem dX0_isDisputed_4 : decode cX0_isDisputed 4 = .ok (.iload_n 1, 1) := by decide +kernel
theorem dX0_isDisputed_5 : decode cX0_isDisputed 5 = .ok (.iaload, 1) := by decide +kernel
theorem dX0_isDisputed_6 : decode cX0_isDisputed 6 = .ok (.iconst (-1), 1) := by decide +kernel
theorem dX0_isDisputed_7 : decode cX0_isDisputed 7 = .ok (.if_icmp .eq 7, 3) := by decide +kernel
theorem dX0_isDisputed_10 : decode cX0_isDisputed 10 = .ok (.iconst 1, 1) := by decide +kernel
theorem dX0_isDisputed_11 : decode cX0_isDisputed 11 = .ok (.goto 4, 3) := by decide +kernel
theorem dX0_isDisputed_14 : decode cX0_isDisputed 14 = .ok (.iconst 0, 1) := by decide +kernel
theorem dX0_isDisputed_15 : decode cX0_isDisputed 15 = .ok (.ireturn, 1) := by decide +kernel
theorem dX0_hasLapsed_0 : decode cX0_hasLapsed 0 = .ok (.aload_n 0, 1) := by decide +kernel
theorem dX0_hasLapsed_1 : decode cX0_hasLapsed 1 = .ok (.iload_n 1, 1) := by decide +kernel
theorem dX0_hasLapsed_2 : decode cX0_hasLapsed 2 = .ok (.invokevirtual 68, 3) := by decide +kernel
theorem dX0_hasLapsed_5 : decode cX0_hasLapsed 5 = .ok (.ifCond .ne 20, 3) := by decide +kernel
theorem dX0_hasLapsed_8 : decode cX0_hasLapsed 8 = .ok (.aload_n 0, 1) := by decide +kernel
theorem dX0_hasLapsed_9 : decode cX0_hasLapsed 9 = .ok (.getfield 42, 3) := by decide +kernel
theorem dX0_hasLapsed_12 : decode cX0_hasLapsed 12 = .ok (.aload_n 0, 1) := by decide +kernel
theorem dX0_hasLapsed_13 : decode cX0_hasLapsed 13 = .ok (.getfield 21, 3) := by decide +kernel
theorem dX0_hasLapsed_16 : decode cX0_hasLapsed 16 = .ok (.iload_n 1, 1) := by decide +kernel
theorem dX0_hasLapsed_17 : decode cX0_hasLapsed 17 = .ok (.iaload, 1) := by decide +kernel
theorem dX0_hasLapsed_18 : decode cX0_hasLapsed 18 = .ok (.if_icmp .le 7, 3) := by decide +kernel
theorem dX0_hasLapsed_21 : decode cX0_hasLapsed 21 = .ok (.iconst 1, 1) := by decide +kernel
theorem dX0_hasLapsed_22 : decode cX0_hasLapsed 22 = .ok (.goto 4, 3) := by decide +kernel
theorem dX0_hasLapsed_25 : decode cX0_hasLapsed 25 = .ok (.iconst 0, 1) := by decide +kernel
theorem dX0_hasLapsed_26 : decode cX0_hasLapsed 26 = .ok (.ireturn, 1) := by decide +kernel
theorem dX0_isClearable_0 : decode cX0_isClearable 0 = .ok (.aload_n 0, 1) := by decide +kernel
theorem dX0_isClearable_1 : decode cX0_isClearable 1 = .ok (.iload_n 1, 1) := by decide +kernel
theorem dX0_isClearable_2 : decode cX0_isClearable 2 = .ok (.invokevirtual 72, 3) := by decide +kernel
theorem dX0_isClearable_5 : decode cX0_isClearable 5 = .ok (.iconst 4, 1) := by decide +kernel
theorem dX0_isClearable_6 : decode cX0_isClearable 6 = .ok (.if_icmp .ne 7, 3) := by decide +kernel
theorem dX0_isClearable_9 : decode cX0_isClearable 9 = .ok (.iconst 1, 1) := by decide +kernel
theorem dX0_isClearable_10 : decode cX0_isClearable 10 = .ok (.goto 4, 3) := by decide +kernel
theorem dX0_isClearable_13 : decode cX0_isClearable 13 = .ok (.iconst 0, 1) := by decide +kernel
theorem dX0_isClearable_14 : decode cX0_isClearable 14 = .ok (.ireturn, 1) := by decide +kernel
theorem dX0_canTakeBurial_0 : decode cX0_canTakeBurial 0 = .ok (.aload_n 0, 1) := by decide +kernel
theorem dX0_canTakeBurial_1 : decode cX0_canTakeBurial 1 = .ok (.iload_n 1, 1) := by decide +kernel
theorem dX0_canTakeBurial_2 : decode cX0_canTakeBurial 2 = .ok (.invokevirtual 68, 3) := by decide +kernel
theorem dX0_canTakeBurial_5 : decode cX0_canTakeBurial 5 = .ok (.ifCond .ne 41, 3) := by decide +kernel
theorem dX0_canTakeBurial_8 : decode cX0_canTakeBurial 8 = .ok (.aload_n 0, 1) := by decide +kernel
theorem dX0_canTakeBurial_9 : decode cX0_canTakeBurial 9 = .ok (.iload_n 1, 1) := by decide +kernel
theorem dX0_canTakeBurial_10 : decode cX0_canTakeBurial 10 = .ok (.invokevirtual 76, 3) := by decide +kernel
theorem dX0_canTakeBurial_13 : decode cX0_canTakeBurial 13 = .ok (.ifCond .ne 33, 3) := by decide +kernel
theorem dX0_canTakeBurial_16 : decode cX0_canTakeBurial 16 = .ok (.aload_n 0, 1) := by decide +kernel
theorem dX0_canTakeBurial_17 : decode cX0_canTakeBurial 17 = .ok (.iload_n 1, 1) := by decide +kernel
theorem dX0_canTakeBurial_18 : decode cX0_canTakeBurial 18 = .ok (.invokevirtual 79, 3) := by decide +kernel
theorem dX0_canTakeBurial_21 : decode cX0_canTakeBurial 21 = .ok (.ifCond .ne 25, 3) := by decide +kernel
theorem dX0_canTakeBurial_24 : decode cX0_canTakeBurial 24 = .ok (.aload_n 0, 1) := by decide +kernel
theorem dX0_canTakeBurial_25 : decode cX0_canTakeBurial 25 = .ok (.getfield 27, 3) := by decide +kernel
theorem dX0_canTakeBurial_28 : decode cX0_canTakeBurial 28 = .ok (.iload_n 1, 1) := by decide +kernel
theorem dX0_canTakeBurial_29 : decode cX0_canTakeBurial 29 = .ok (.iaload, 1) := by decide +kernel
theorem dX0_canTakeBurial_30 : decode cX0_canTakeBurial 30 = .ok (.aload_n 0, 1) := by decide +kernel
theorem dX0_canTakeBurial_31 : decode cX0_canTakeBurial 31 = .ok (.getfield 15, 3) := by decide +kernel
theorem dX0_canTakeBurial_34 : decode cX0_canTakeBurial 34 = .ok (.iload_n 1, 1) := by decide +kernel
theorem dX0_canTakeBurial_35 : decode cX0_canTakeBurial 35 = .ok (.bipush 6, 2) := by decide +kernel
theorem dX0_canTakeBurial_37 : decode cX0_canTakeBurial 37 = .ok (.idiv, 1) := by decide +kernel
theorem dX0_canTakeBurial_38 : decode cX0_canTakeBurial 38 = .ok (.iaload, 1) := by decide +kernel
theorem dX0_canTakeBurial_39 : decode cX0_canTakeBurial 39 = .ok (.if_icmp .ge 7, 3) := by decide +kernel
theorem dX0_canTakeBurial_42 : decode cX0_canTakeBurial 42 = .ok (.iconst 1, 1) := by decide +kernel
theorem dX0_canTakeBurial_43 : decode cX0_canTakeBurial 43 = .ok (.goto 4, 3) := by decide +kernel
theorem dX0_canTakeBurial_46 : decode cX0_canTakeBurial 46 = .ok (.iconst 0, 1) := by decide +kernel
theorem dX0_canTakeBurial_47 : decode cX0_canTakeBurial 47 = .ok (.ireturn, 1) := by decide +kernel
theorem dX0_canBeClaimed_0 : decode cX0_canBeClaimed 0 = .ok (.aload_n 0, 1) := by decide +kernel
theorem dX0_canBeClaimed_1 : decode cX0_canBeClaimed 1 = .ok (.iload_n 1, 1) := by decide +kernel
theorem dX0_canBeClaimed_2 : decode cX0_canBeClaimed 2 = .ok (.invokevirtual 68, 3) := by decide +kernel
theorem dX0_canBeClaimed_5 : decode cX0_canBeClaimed 5 = .ok (.ifCond .ne 25, 3) := by decide +kernel
theorem dX0_canBeClaimed_8 : decode cX0_canBeClaimed 8 = .ok (.aload_n 0, 1) := by decide +kernel
theorem dX0_canBeClaimed_9 : decode cX0_canBeClaimed 9 = .ok (.getfield 18, 3) := by decide +kernel
theorem dX0_canBeClaimed_12 : decode cX0_canBeClaimed 12 = .ok (.iload_n 1, 1) := by decide +kernel
theorem dX0_canBeClaimed_13 : decode cX0_canBeClaimed 13 = .ok (.iaload, 1) := by decide +kernel
theorem dX0_canBeClaimed_14 : decode cX0_canBeClaimed 14 = .ok (.iload_n 2, 1) := by decide +kernel
theorem dX0_canBeClaimed_15 : decode cX0_canBeClaimed 15 = .ok (.if_icmp .eq 15, 3) := by decide +kernel
theorem dX0_canBeClaimed_18 : decode cX0_canBeClaimed 18 = .ok (.aload_n 0, 1) := by decide +kernel
theorem dX0_canBeClaimed_19 : decode cX0_canBeClaimed 19 = .ok (.iload_n 1, 1) := by decide +kernel
theorem dX0_canBeClaimed_20 : decode cX0_canBeClaimed 20 = .ok (.invokevirtual 79, 3) := by decide +kernel
theorem dX0_canBeClaimed_23 : decode cX0_canBeClaimed 23 = .ok (.ifCond .ne 7, 3) := by decide +kernel
theorem dX0_canBeClaimed_26 : decode cX0_canBeClaimed 26 = .ok (.iconst 1, 1) := by decide +kernel
theorem dX0_canBeClaimed_27 : decode cX0_canBeClaimed 27 = .ok (.goto 4, 3) := by decide +kernel
theorem dX0_canBeClaimed_30 : decode cX0_canBeClaimed 30 = .ok (.iconst 0, 1) := by decide +kernel
theorem dX0_canBeClaimed_31 : decode cX0_canBeClaimed 31 = .ok (.ireturn, 1) := by decide +kernel
theorem dX0_stateOf_0 : decode cX0_stateOf 0 = .ok (.aload_n 0, 1) := by decide +kernel
theorem dX0_stateOf_1 : decode cX0_stateOf 1 = .ok (.iload_n 1, 1) := by decide +kernel
theorem dX0_stateOf_2 : decode cX0_stateOf 2 = .ok (.invokevirtual 68, 3) := by decide +kernel
theorem dX0_stateOf_5 : decode cX0_stateOf 5 = .ok (.ifCond .eq 5, 3) := by decide +kernel
theorem dX0_stateOf_8 : decode cX0_stateOf 8 = .ok (.iconst 0, 1) := by decide +kernel
theorem dX0_stateOf_9 : decode cX0_stateOf 9 = .ok (.ireturn, 1) := by decide +kernel
theorem dX0_stateOf_10 : decode cX0_stateOf 10 = .ok (.aload_n 0, 1) := by decide +kernel
theorem dX0_stateOf_11 : decode cX0_stateOf 11 = .ok (.iload_n 1, 1) := by decide +kernel
theorem dX0_stateOf_12 : decode cX0_stateOf 12 = .ok (.invokevirtual 76, 3) := by decide +kernel
theorem dX0_stateOf_15 : decode cX0_stateOf 15 = .ok (.ifCond .ne 5, 3) := by decide +kernel
theorem dX0_stateOf_18 : decode cX0_stateOf 18 = .ok (.iconst 1, 1) := by decide +kernel
theorem dX0_stateOf_19 : decode cX0_stateOf 19 = .ok (.ireturn, 1) := by decide +kernel
theorem dX0_stateOf_20 : decode cX0_stateOf 20 = .ok (.aload_n 0, 1) := by decide +kernel
theorem dX0_stateOf_21 : decode cX0_stateOf 21 = .ok (.iload_n 1, 1) := by decide +kernel
theorem dX0_stateOf_22 : decode cX0_stateOf 22 = .ok (.invokevirtual 79, 3) := by decide +kernel
theorem dX0_stateOf_25 : decode cX0_stateOf 25 = .ok (.ifCond .eq 5, 3) := by decide +kernel
theorem dX0_stateOf_28 : decode cX0_stateOf 28 = .ok (.iconst 2, 1) := by decide +kernel
theorem dX0_stateOf_29 : decode cX0_stateOf 29 = .ok (.ireturn, 1) := by decide +kernel
theorem dX0_stateOf_30 : decode cX0_stateOf 30 = .ok (.aload_n 0, 1) := by decide +kernel
theorem dX0_stateOf_31 : decode cX0_stateOf 31 = .ok (.getfield 42, 3) := by decide +kernel
theorem dX0_stateOf_34 : decode cX0_stateOf 34 = .ok (.aload_n 0, 1) := by decide +kernel
theorem dX0_stateOf_35 : decode cX0_stateOf 35 = .ok (.iload_n 1, 1) := by decide +kernel
theorem dX0_stateOf_36 : decode cX0_stateOf 36 = .ok (.invokevirtual 82, 3) := by decide +kernel
theorem dX0_stateOf_39 : decode cX0_stateOf 39 = .ok (.if_icmp .ge 7, 3) := by decide +kernel
theorem dX0_stateOf_42 : decode cX0_stateOf 42 = .ok (.iconst 3, 1) := by decide +kernel
theorem dX0_stateOf_43 : decode cX0_stateOf 43 = .ok (.goto 4, 3) := by decide +kernel
theorem dX0_stateOf_46 : decode cX0_stateOf 46 = .ok (.iconst 4, 1) := by decide +kernel
theorem dX0_stateOf_47 : decode cX0_stateOf 47 = .ok (.ireturn, 1) := by decide +kernel
theorem dX0_endOfRest_0 : decode cX0_endOfRest 0 = .ok (.aload_n 0, 1) := by decide +kernel
theorem dX0_endOfRest_1 : decode cX0_endOfRest 1 = .ok (.getfield 27, 3) := by decide +kernel
theorem dX0_endOfRest_4 : decode cX0_endOfRest 4 = .ok (.iload_n 1, 1) := by decide +kernel
theorem dX0_endOfRest_5 : decode cX0_endOfRest 5 = .ok (.iaload, 1) := by decide +kernel
theorem dX0_endOfRest_6 : decode cX0_endOfRest 6 = .ok (.iconst 1, 1) := by decide +kernel
theorem dX0_endOfRest_7 : decode cX0_endOfRest 7 = .ok (.isub, 1) := by decide +kernel
theorem dX0_endOfRest_8 : decode cX0_endOfRest 8 = .ok (.istore_n 2, 1) := by decide +kernel
theorem dX0_endOfRest_9 : decode cX0_endOfRest 9 = .ok (.iload_n 2, 1) := by decide +kernel
theorem dX0_endOfRest_10 : decode cX0_endOfRest 10 = .ok (.ifCond .ge 7, 3) := by decide +kernel
theorem dX0_endOfRest_13 : decode cX0_endOfRest 13 = .ok (.iconst 0, 1) := by decide +kernel
theorem dX0_endOfRest_14 : decode cX0_endOfRest 14 = .ok (.goto 16, 3) := by decide +kernel
theorem dX0_endOfRest_17 : decode cX0_endOfRest 17 = .ok (.aload_n 0, 1) := by decide +kernel
theorem dX0_endOfRest_18 : decode cX0_endOfRest 18 = .ok (.iload_n 1, 1) := by decide +kernel
theorem dX0_endOfRest_19 : decode cX0_endOfRest 19 = .ok (.iload_n 2, 1) := by decide +kernel
theorem dX0_endOfRest_20 : decode cX0_endOfRest 20 = .ok (.invokevirtual 85, 3) := by decide +kernel
theorem dX0_endOfRest_23 : decode cX0_endOfRest 23 = .ok (.aload_n 0, 1) := by decide +kernel
theorem dX0_endOfRest_24 : decode cX0_endOfRest 24 = .ok (.getfield 9, 3) := by decide +kernel
theorem dX0_endOfRest_27 : decode cX0_endOfRest 27 = .ok (.iconst 1, 1) := by decide +kernel
theorem dX0_endOfRest_28 : decode cX0_endOfRest 28 = .ok (.iaload, 1) := by decide +kernel
theorem dX0_endOfRest_29 : decode cX0_endOfRest 29 = .ok (.iadd, 1) := by decide +kernel
theorem dX0_endOfRest_30 : decode cX0_endOfRest 30 = .ok (.ireturn, 1) := by decide +kernel
theorem dX0_endOfLeaseAndRest_0 : decode cX0_endOfLeaseAndRest 0 = .ok (.aload_n 0, 1) := by decide +kernel
theorem dX0_endOfLeaseAndRest_1 : decode cX0_endOfLeaseAndRest 1 = .ok (.getfield 42, 3) := by decide +kernel
theorem dX0_endOfLeaseAndRest_4 : decode cX0_endOfLeaseAndRest 4 = .ok (.aload_n 0, 1) := by decide +kernel
theorem dX0_endOfLeaseAndRest_5 : decode cX0_endOfLeaseAndRest 5 = .ok (.getfield 21, 3) := by decide +kernel
theorem dX0_endOfLeaseAndRest_8 : decode cX0_endOfLeaseAndRest 8 = .ok (.iload_n 1, 1) := by decide +kernel
theorem dX0_endOfLeaseAndRest_9 : decode cX0_endOfLeaseAndRest 9 = .ok (.iaload, 1) := by decide +kernel
theorem dX0_endOfLeaseAndRest_10 : decode cX0_endOfLeaseAndRest 10 = .ok (.iconst 1, 1) := by decide +kernel
theorem dX0_endOfLeaseAndRest_11 : decode cX0_endOfLeaseAndRest 11 = .ok (.iadd, 1) := by decide +kernel
theorem dX0_endOfLeaseAndRest_12 : decode cX0_endOfLeaseAndRest 12 = .ok (.aload_n 0, 1) := by decide +kernel
theorem dX0_endOfLeaseAndRest_13 : decode cX0_endOfLeaseAndRest 13 = .ok (.iload_n 1, 1) := by decide +kernel
theorem dX0_endOfLeaseAndRest_14 : decode cX0_endOfLeaseAndRest 14 = .ok (.invokevirtual 82, 3) := by decide +kernel
theorem dX0_endOfLeaseAndRest_17 : decode cX0_endOfLeaseAndRest 17 = .ok (.invokestatic 89, 3) := by decide +kernel
theorem dX0_endOfLeaseAndRest_20 : decode cX0_endOfLeaseAndRest 20 = .ok (.invokestatic 89, 3) := by decide +kernel
theorem dX0_endOfLeaseAndRest_23 : decode cX0_endOfLeaseAndRest 23 = .ok (.ireturn, 1) := by decide +kernel
theorem dX0_latestBurial_0 : decode cX0_latestBurial 0 = .ok (.aload_n 0, 1) := by decide +kernel
theorem dX0_latestBurial_1 : decode cX0_latestBurial 1 = .ok (.iload_n 1, 1) := by decide +kernel
theorem dX0_latestBurial_2 : decode cX0_latestBurial 2 = .ok (.aload_n 0, 1) := by decide +kernel
theorem dX0_latestBurial_3 : decode cX0_latestBurial 3 = .ok (.getfield 27, 3) := by decide +kernel
theorem dX0_latestBurial_6 : decode cX0_latestBurial 6 = .ok (.iload_n 1, 1) := by decide +kernel
theorem dX0_latestBurial_7 : decode cX0_latestBurial 7 = .ok (.iaload, 1) := by decide +kernel
theorem dX0_latestBurial_8 : decode cX0_latestBurial 8 = .ok (.iconst 1, 1) := by decide +kernel
theorem dX0_latestBurial_9 : decode cX0_latestBurial 9 = .ok (.isub, 1) := by decide +kernel
theorem dX0_latestBurial_10 : decode cX0_latestBurial 10 = .ok (.invokevirtual 85, 3) := by decide +kernel
theorem dX0_latestBurial_13 : decode cX0_latestBurial 13 = .ok (.ireturn, 1) := by decide +kernel
theorem dX0_yearOfBurial_0 : decode cX0_yearOfBurial 0 = .ok (.iload_n 2, 1) := by decide +kernel
theorem dX0_yearOfBurial_1 : decode cX0_yearOfBurial 1 = .ok (.ifCond .lt 18, 3) := by decide +kernel
theorem dX0_yearOfBurial_4 : decode cX0_yearOfBurial 4 = .ok (.iload_n 2, 1) := by decide +kernel
theorem dX0_yearOfBurial_5 : decode cX0_yearOfBurial 5 = .ok (.aload_n 0, 1) := by decide +kernel
theorem dX0_yearOfBurial_6 : decode cX0_yearOfBurial 6 = .ok (.getfield 27, 3) := by decide +kernel
theorem dX0_yearOfBurial_9 : decode cX0_yearOfBurial 9 = .ok (.iload_n 1, 1) := by decide +kernel
theorem dX0_yearOfBurial_10 : decode cX0_yearOfBurial 10 = .ok (.iaload, 1) := by decide +kernel
theorem dX0_yearOfBurial_11 : decode cX0_yearOfBurial 11 = .ok (.if_icmp .ge 8, 3) := by decide +kernel
theorem dX0_yearOfBurial_14 : decode cX0_yearOfBurial 14 = .ok (.iload_n 2, 1) := by decide +kernel
theorem dX0_yearOfBurial_15 : decode cX0_yearOfBurial 15 = .ok (.iconst 3, 1) := by decide +kernel
theorem dX0_yearOfBurial_16 : decode cX0_yearOfBurial 16 = .ok (.if_icmp .lt 5, 3) := by decide +kernel
theorem dX0_yearOfBurial_19 : decode cX0_yearOfBurial 19 = .ok (.iconst (-1), 1) := by decide +kernel
theorem dX0_yearOfBurial_20 : decode cX0_yearOfBurial 20 = .ok (.ireturn, 1) := by decide +kernel
theorem dX0_yearOfBurial_21 : decode cX0_yearOfBurial 21 = .ok (.aload_n 0, 1) := by decide +kernel
theorem dX0_yearOfBurial_22 : decode cX0_yearOfBurial 22 = .ok (.getfield 30, 3) := by decide +kernel
theorem dX0_yearOfBurial_25 : decode cX0_yearOfBurial 25 = .ok (.iload_n 1, 1) := by decide +kernel
theorem dX0_yearOfBurial_26 : decode cX0_yearOfBurial 26 = .ok (.iconst 3, 1) := by decide +kernel
theorem dX0_yearOfBurial_27 : decode cX0_yearOfBurial 27 = .ok (.imul, 1) := by decide +kernel
theorem dX0_yearOfBurial_28 : decode cX0_yearOfBurial 28 = .ok (.iload_n 2, 1) := by decide +kernel
theorem dX0_yearOfBurial_29 : decode cX0_yearOfBurial 29 = .ok (.iadd, 1) := by decide +kernel
theorem dX0_yearOfBurial_30 : decode cX0_yearOfBurial 30 = .ok (.iaload, 1) := by decide +kernel
theorem dX0_yearOfBurial_31 : decode cX0_yearOfBurial 31 = .ok (.ireturn, 1) := by decide +kernel
theorem dX0_writeLine_0 : decode cX0_writeLine 0 = .ok (.aload_n 2, 1) := by decide +kernel
theorem dX0_writeLine_1 : decode cX0_writeLine 1 = .ok (.bipush 112, 2) := by decide +kernel
theorem dX0_writeLine_3 : decode cX0_writeLine 3 = .ok (.invokevirtual 94, 3) := by decide +kernel
theorem dX0_writeLine_6 : decode cX0_writeLine 6 = .ok (.iload_n 1, 1) := by decide +kernel
theorem dX0_writeLine_7 : decode cX0_writeLine 7 = .ok (.invokevirtual 100, 3) := by decide +kernel
theorem dX0_writeLine_10 : decode cX0_writeLine 10 = .ok (.pop, 1) := by decide +kernel
theorem dX0_writeLine_11 : decode cX0_writeLine 11 = .ok (.aload_n 0, 1) := by decide +kernel
theorem dX0_writeLine_12 : decode cX0_writeLine 12 = .ok (.iload_n 1, 1) := by decide +kernel
theorem dX0_writeLine_13 : decode cX0_writeLine 13 = .ok (.invokevirtual 68, 3) := by decide +kernel
theorem dX0_writeLine_16 : decode cX0_writeLine 16 = .ok (.ifCond .eq 11, 3) := by decide +kernel
theorem dX0_writeLine_19 : decode cX0_writeLine 19 = .ok (.aload_n 2, 1) := by decide +kernel
theorem dX0_writeLine_20 : decode cX0_writeLine 20 = .ok (.ldc 103, 2) := by decide +kernel
theorem dX0_writeLine_22 : decode cX0_writeLine 22 = .ok (.invokevirtual 105, 3) := by decide +kernel
theorem dX0_writeLine_25 : decode cX0_writeLine 25 = .ok (.pop, 1) := by decide +kernel
theorem dX0_writeLine_26 : decode cX0_writeLine 26 = .ok (.return_, 1) := by decide +kernel
theorem dX0_writeLine_27 : decode cX0_writeLine 27 = .ok (.aload_n 2, 1) := by decide +kernel
theorem dX0_writeLine_28 : decode cX0_writeLine 28 = .ok (.ldc 108, 2) := by decide +kernel
theorem dX0_writeLine_30 : decode cX0_writeLine 30 = .ok (.invokevirtual 105, 3) := by decide +kernel
theorem dX0_writeLine_33 : decode cX0_writeLine 33 = .ok (.aload_n 0, 1) := by decide +kernel
theorem dX0_writeLine_34 : decode cX0_writeLine 34 = .ok (.getfield 18, 3) := by decide +kernel
theorem dX0_writeLine_37 : decode cX0_writeLine 37 = .ok (.iload_n 1, 1) := by decide +kernel
theorem dX0_writeLine_38 : decode cX0_writeLine 38 = .ok (.iaload, 1) := by decide +kernel
theorem dX0_writeLine_39 : decode cX0_writeLine 39 = .ok (.invokevirtual 100, 3) := by decide +kernel
theorem dX0_writeLine_42 : decode cX0_writeLine 42 = .ok (.pop, 1) := by decide +kernel
theorem dX0_writeLine_43 : decode cX0_writeLine 43 = .ok (.aload_n 2, 1) := by decide +kernel
theorem dX0_writeLine_44 : decode cX0_writeLine 44 = .ok (.bipush 32, 2) := by decide +kernel
theorem dX0_writeLine_46 : decode cX0_writeLine 46 = .ok (.invokevirtual 94, 3) := by decide +kernel
theorem dX0_writeLine_49 : decode cX0_writeLine 49 = .ok (.aload_n 0, 1) := by decide +kernel
theorem dX0_writeLine_50 : decode cX0_writeLine 50 = .ok (.getfield 27, 3) := by decide +kernel
theorem dX0_writeLine_53 : decode cX0_writeLine 53 = .ok (.iload_n 1, 1) := by decide +kernel
theorem dX0_writeLine_54 : decode cX0_writeLine 54 = .ok (.iaload, 1) := by decide +kernel
theorem dX0_writeLine_55 : decode cX0_writeLine 55 = .ok (.invokevirtual 100, 3) := by decide +kernel
theorem dX0_writeLine_58 : decode cX0_writeLine 58 = .ok (.bipush 47, 2) := by decide +kernel
theorem dX0_writeLine_60 : decode cX0_writeLine 60 = .ok (.invokevirtual 94, 3) := by decide +kernel
theorem dX0_writeLine_63 : decode cX0_writeLine 63 = .ok (.aload_n 0, 1) := by decide +kernel
theorem dX0_writeLine_64 : decode cX0_writeLine 64 = .ok (.getfield 15, 3) := by decide +kernel
theorem dX0_writeLine_67 : decode cX0_writeLine 67 = .ok (.iload_n 1, 1) := by decide +kernel
theorem dX0_writeLine_68 : decode cX0_writeLine 68 = .ok (.bipush 6, 2) := by decide +kernel
theorem dX0_writeLine_70 : decode cX0_writeLine 70 = .ok (.idiv, 1) := by decide +kernel
theorem dX0_writeLine_71 : decode cX0_writeLine 71 = .ok (.iaload, 1) := by decide +kernel
theorem dX0_writeLine_72 : decode cX0_writeLine 72 = .ok (.invokevirtual 100, 3) := by decide +kernel
theorem dX0_writeLine_75 : decode cX0_writeLine 75 = .ok (.pop, 1) := by decide +kernel
theorem dX0_writeLine_76 : decode cX0_writeLine 76 = .ok (.aload_n 2, 1) := by decide +kernel
theorem dX0_writeLine_77 : decode cX0_writeLine 77 = .ok (.bipush 32, 2) := by decide +kernel
theorem dX0_writeLine_79 : decode cX0_writeLine 79 = .ok (.invokevirtual 94, 3) := by decide +kernel
theorem dX0_writeLine_82 : decode cX0_writeLine 82 = .ok (.aload_n 0, 1) := by decide +kernel
theorem dX0_writeLine_83 : decode cX0_writeLine 83 = .ok (.getfield 21, 3) := by decide +kernel
theorem dX0_writeLine_86 : decode cX0_writeLine 86 = .ok (.iload_n 1, 1) := by decide +kernel
theorem dX0_writeLine_87 : decode cX0_writeLine 87 = .ok (.iaload, 1) := by decide +kernel
theorem dX0_writeLine_88 : decode cX0_writeLine 88 = .ok (.invokevirtual 100, 3) := by decide +kernel
theorem dX0_writeLine_91 : decode cX0_writeLine 91 = .ok (.pop, 1) := by decide +kernel
theorem dX0_writeLine_92 : decode cX0_writeLine 92 = .ok (.aload_n 0, 1) := by decide +kernel
theorem dX0_writeLine_93 : decode cX0_writeLine 93 = .ok (.iload_n 1, 1) := by decide +kernel
theorem dX0_writeLine_94 : decode cX0_writeLine 94 = .ok (.invokevirtual 76, 3) := by decide +kernel
theorem dX0_writeLine_97 : decode cX0_writeLine 97 = .ok (.ifCond .eq 10, 3) := by decide +kernel
theorem dX0_writeLine_100 : decode cX0_writeLine 100 = .ok (.aload_n 2, 1) := by decide +kernel
theorem dX0_writeLine_101 : decode cX0_writeLine 101 = .ok (.bipush 33, 2) := by decide +kernel
theorem dX0_writeLine_103 : decode cX0_writeLine 103 = .ok (.invokevirtual 94, 3) := by decide +kernel
theorem dX0_writeLine_106 : decode cX0_writeLine 106 = .ok (.pop, 1) := by decide +kernel
theorem dX0_writeLine_107 : decode cX0_writeLine 107 = .ok (.aload_n 0, 1) := by decide +kernel
theorem dX0_writeLine_108 : decode cX0_writeLine 108 = .ok (.iload_n 1, 1) := by decide +kernel
theorem dX0_writeLine_109 : decode cX0_writeLine 109 = .ok (.invokevirtual 79, 3) := by decide +kernel
theorem dX0_writeLine_112 : decode cX0_writeLine 112 = .ok (.ifCond .eq 19, 3) := by decide +kernel
theorem dX0_writeLine_115 : decode cX0_writeLine 115 = .ok (.aload_n 2, 1) := by decide +kernel
theorem dX0_writeLine_116 : decode cX0_writeLine 116 = .ok (.bipush 63, 2) := by decide +kernel
theorem dX0_writeLine_118 : decode cX0_writeLine 118 = .ok (.invokevirtual 94, 3) := by decide +kernel
theorem dX0_writeLine_121 : decode cX0_writeLine 121 = .ok (.aload_n 0, 1) := by decide +kernel
theorem dX0_writeLine_122 : decode cX0_writeLine 122 = .ok (.getfield 24, 3) := by decide +kernel
theorem dX0_writeLine_125 : decode cX0_writeLine 125 = .ok (.iload_n 1, 1) := by decide +kernel
theorem dX0_writeLine_126 : decode cX0_writeLine 126 = .ok (.iaload, 1) := by decide +kernel
theorem dX0_writeLine_127 : decode cX0_writeLine 127 = .ok (.invokevirtual 100, 3) := by decide +kernel
theorem dX0_writeLine_130 : decode cX0_writeLine 130 = .ok (.pop, 1) := by decide +kernel
theorem dX0_writeLine_131 : decode cX0_writeLine 131 = .ok (.return_, 1) := by decide +kernel
theorem dX0_countFree_0 : decode cX0_countFree 0 = .ok (.aload_n 0, 1) := by decide +kernel
theorem dX0_countFree_1 : decode cX0_countFree 1 = .ok (.iconst (-1), 1) := by decide +kernel
theorem dX0_countFree_2 : decode cX0_countFree 2 = .ok (.invokevirtual 110, 3) := by decide +kernel
theorem dX0_countFree_5 : decode cX0_countFree 5 = .ok (.ireturn, 1) := by decide +kernel
theorem dX0_countLapsed_0 : decode cX0_countLapsed 0 = .ok (.iconst 0, 1) := by decide +kernel
theorem dX0_countLapsed_1 : decode cX0_countLapsed 1 = .ok (.istore_n 1, 1) := by decide +kernel
theorem dX0_countLapsed_2 : decode cX0_countLapsed 2 = .ok (.iconst 0, 1) := by decide +kernel
theorem dX0_countLapsed_3 : decode cX0_countLapsed 3 = .ok (.istore_n 2, 1) := by decide +kernel
theorem dX0_countLapsed_4 : decode cX0_countLapsed 4 = .ok (.iload_n 2, 1) := by decide +kernel
theorem dX0_countLapsed_5 : decode cX0_countLapsed 5 = .ok (.bipush 24, 2) := by decide +kernel
theorem dX0_countLapsed_7 : decode cX0_countLapsed 7 = .ok (.if_icmp .ge 20, 3) := by decide +kernel
theorem dX0_countLapsed_10 : decode cX0_countLapsed 10 = .ok (.aload_n 0, 1) := by decide +kernel
theorem dX0_countLapsed_11 : decode cX0_countLapsed 11 = .ok (.iload_n 2, 1) := by decide +kernel
theorem dX0_countLapsed_12 : decode cX0_countLapsed 12 = .ok (.invokevirtual 76, 3) := by decide +kernel
theorem dX0_countLapsed_15 : decode cX0_countLapsed 15 = .ok (.ifCond .eq 6, 3) := by decide +kernel
theorem dX0_countLapsed_18 : decode cX0_countLapsed 18 = .ok (.iinc 1 1, 3) := by decide +kernel
theorem dX0_countLapsed_21 : decode cX0_countLapsed 21 = .ok (.iinc 2 1, 3) := by decide +kernel
theorem dX0_countLapsed_24 : decode cX0_countLapsed 24 = .ok (.goto (-20), 3) := by decide +kernel
theorem dX0_countLapsed_27 : decode cX0_countLapsed 27 = .ok (.iload_n 1, 1) := by decide +kernel
theorem dX0_countLapsed_28 : decode cX0_countLapsed 28 = .ok (.ireturn, 1) := by decide +kernel
theorem dX0_countClearable_0 : decode cX0_countClearable 0 = .ok (.iconst 0, 1) := by decide +kernel
theorem dX0_countClearable_1 : decode cX0_countClearable 1 = .ok (.istore_n 1, 1) := by decide +kernel
theorem dX0_countClearable_2 : decode cX0_countClearable 2 = .ok (.iconst 0, 1) := by decide +kernel
theorem dX0_countClearable_3 : decode cX0_countClearable 3 = .ok (.istore_n 2, 1) := by decide +kernel
theorem dX0_countClearable_4 : decode cX0_countClearable 4 = .ok (.iload_n 2, 1) := by decide +kernel
theorem dX0_countClearable_5 : decode cX0_countClearable 5 = .ok (.bipush 24, 2) := by decide +kernel
theorem dX0_countClearable_7 : decode cX0_countClearable 7 = .ok (.if_icmp .ge 20, 3) := by decide +kernel
theorem dX0_countClearable_10 : decode cX0_countClearable 10 = .ok (.aload_n 0, 1) := by decide +kernel
theorem dX0_countClearable_11 : decode cX0_countClearable 11 = .ok (.iload_n 2, 1) := by decide +kernel
theorem dX0_countClearable_12 : decode cX0_countClearable 12 = .ok (.invokevirtual 113, 3) := by decide +kernel
theorem dX0_countClearable_15 : decode cX0_countClearable 15 = .ok (.ifCond .eq 6, 3) := by decide +kernel
theorem dX0_countClearable_18 : decode cX0_countClearable 18 = .ok (.iinc 1 1, 3) := by decide +kernel
theorem dX0_countClearable_21 : decode cX0_countClearable 21 = .ok (.iinc 2 1, 3) := by decide +kernel
theorem dX0_countClearable_24 : decode cX0_countClearable 24 = .ok (.goto (-20), 3) := by decide +kernel
theorem dX0_countClearable_27 : decode cX0_countClearable 27 = .ok (.iload_n 1, 1) := by decide +kernel
theorem dX0_countClearable_28 : decode cX0_countClearable 28 = .ok (.ireturn, 1) := by decide +kernel
theorem dX0_countDisputed_0 : decode cX0_countDisputed 0 = .ok (.bipush 24, 2) := by decide +kernel
theorem dX0_countDisputed_2 : decode cX0_countDisputed 2 = .ok (.aload_n 0, 1) := by decide +kernel
theorem dX0_countDisputed_3 : decode cX0_countDisputed 3 = .ok (.iconst (-1), 1) := by decide +kernel
theorem dX0_countDisputed_4 : decode cX0_countDisputed 4 = .ok (.invokevirtual 116, 3) := by decide +kernel
theorem dX0_countDisputed_7 : decode cX0_countDisputed 7 = .ok (.isub, 1) := by decide +kernel
theorem dX0_countDisputed_8 : decode cX0_countDisputed 8 = .ok (.ireturn, 1) := by decide +kernel
theorem dX0_countBurials_0 : decode cX0_countBurials 0 = .ok (.iconst 0, 1) := by decide +kernel
theorem dX0_countBurials_1 : decode cX0_countBurials 1 = .ok (.istore_n 1, 1) := by decide +kernel
theorem dX0_countBurials_2 : decode cX0_countBurials 2 = .ok (.iconst 0, 1) := by decide +kernel
theorem dX0_countBurials_3 : decode cX0_countBurials 3 = .ok (.istore_n 2, 1) := by decide +kernel
theorem dX0_countBurials_4 : decode cX0_countBurials 4 = .ok (.iload_n 2, 1) := by decide +kernel
theorem dX0_countBurials_5 : decode cX0_countBurials 5 = .ok (.bipush 24, 2) := by decide +kernel
theorem dX0_countBurials_7 : decode cX0_countBurials 7 = .ok (.if_icmp .ge 18, 3) := by decide +kernel
theorem dX0_countBurials_10 : decode cX0_countBurials 10 = .ok (.iload_n 1, 1) := by decide +kernel
theorem dX0_countBurials_11 : decode cX0_countBurials 11 = .ok (.aload_n 0, 1) := by decide +kernel
theorem dX0_countBurials_12 : decode cX0_countBurials 12 = .ok (.getfield 27, 3) := by decide +kernel
theorem dX0_countBurials_15 : decode cX0_countBurials 15 = .ok (.iload_n 2, 1) := by decide +kernel
theorem dX0_countBurials_16 : decode cX0_countBurials 16 = .ok (.iaload, 1) := by decide +kernel
theorem dX0_countBurials_17 : decode cX0_countBurials 17 = .ok (.iadd, 1) := by decide +kernel
theorem dX0_countBurials_18 : decode cX0_countBurials 18 = .ok (.istore_n 1, 1) := by decide +kernel
theorem dX0_countBurials_19 : decode cX0_countBurials 19 = .ok (.iinc 2 1, 3) := by decide +kernel
theorem dX0_countBurials_22 : decode cX0_countBurials 22 = .ok (.goto (-18), 3) := by decide +kernel
theorem dX0_countBurials_25 : decode cX0_countBurials 25 = .ok (.iload_n 1, 1) := by decide +kernel
theorem dX0_countBurials_26 : decode cX0_countBurials 26 = .ok (.ireturn, 1) := by decide +kernel
theorem dX0_paidByFamilies_0 : decode cX0_paidByFamilies 0 = .ok (.iconst 0, 1) := by decide +kernel
theorem dX0_paidByFamilies_1 : decode cX0_paidByFamilies 1 = .ok (.istore_n 1, 1) := by decide +kernel
theorem dX0_paidByFamilies_2 : decode cX0_paidByFamilies 2 = .ok (.iconst 0, 1) := by decide +kernel
theorem dX0_paidByFamilies_3 : decode cX0_paidByFamilies 3 = .ok (.istore_n 2, 1) := by decide +kernel
theorem dX0_paidByFamilies_4 : decode cX0_paidByFamilies 4 = .ok (.iload_n 2, 1) := by decide +kernel
theorem dX0_paidByFamilies_5 : decode cX0_paidByFamilies 5 = .ok (.bipush 10, 2) := by decide +kernel
theorem dX0_paidByFamilies_7 : decode cX0_paidByFamilies 7 = .ok (.if_icmp .ge 18, 3) := by decide +kernel
theorem dX0_paidByFamilies_10 : decode cX0_paidByFamilies 10 = .ok (.iload_n 1, 1) := by decide +kernel
theorem dX0_paidByFamilies_11 : decode cX0_paidByFamilies 11 = .ok (.aload_n 0, 1) := by decide +kernel
theorem dX0_paidByFamilies_12 : decode cX0_paidByFamilies 12 = .ok (.getfield 36, 3) := by decide +kernel
theorem dX0_paidByFamilies_15 : decode cX0_paidByFamilies 15 = .ok (.iload_n 2, 1) := by decide +kernel
theorem dX0_paidByFamilies_16 : decode cX0_paidByFamilies 16 = .ok (.iaload, 1) := by decide +kernel
theorem dX0_paidByFamilies_17 : decode cX0_paidByFamilies 17 = .ok (.iadd, 1) := by decide +kernel
theorem dX0_paidByFamilies_18 : decode cX0_paidByFamilies 18 = .ok (.istore_n 1, 1) := by decide +kernel
theorem dX0_paidByFamilies_19 : decode cX0_paidByFamilies 19 = .ok (.iinc 2 1, 3) := by decide +kernel
theorem dX0_paidByFamilies_22 : decode cX0_paidByFamilies 22 = .ok (.goto (-18), 3) := by decide +kernel
theorem dX0_paidByFamilies_25 : decode cX0_paidByFamilies 25 = .ok (.iload_n 1, 1) := by decide +kernel
theorem dX0_paidByFamilies_26 : decode cX0_paidByFamilies 26 = .ok (.ireturn, 1) := by decide +kernel
theorem dX0_plotsOf_0 : decode cX0_plotsOf 0 = .ok (.aload_n 0, 1) := by decide +kernel
theorem dX0_plotsOf_1 : decode cX0_plotsOf 1 = .ok (.getfield 18, 3) := by decide +kernel
theorem dX0_plotsOf_4 : decode cX0_plotsOf 4 = .ok (.bipush 24, 2) := by decide +kernel
theorem dX0_plotsOf_6 : decode cX0_plotsOf 6 = .ok (.iload_n 1, 1) := by decide +kernel
theorem dX0_plotsOf_7 : decode cX0_plotsOf 7 = .ok (.invokestatic 119, 3) := by decide +kernel
theorem dX0_plotsOf_10 : decode cX0_plotsOf 10 = .ok (.ireturn, 1) := by decide +kernel
theorem dX0_claimsOf_0 : decode cX0_claimsOf 0 = .ok (.aload_n 0, 1) := by decide +kernel
theorem dX0_claimsOf_1 : decode cX0_claimsOf 1 = .ok (.getfield 24, 3) := by decide +kernel
theorem dX0_claimsOf_4 : decode cX0_claimsOf 4 = .ok (.bipush 24, 2) := by decide +kernel
theorem dX0_claimsOf_6 : decode cX0_claimsOf 6 = .ok (.iload_n 1, 1) := by decide +kernel
theorem dX0_claimsOf_7 : decode cX0_claimsOf 7 = .ok (.invokestatic 119, 3) := by decide +kernel
theorem dX0_claimsOf_10 : decode cX0_claimsOf 10 = .ok (.ireturn, 1) := by decide +kernel
theorem dX0_timesWaiting_0 : decode cX0_timesWaiting 0 = .ok (.aload_n 0, 1) := by decide +kernel
theorem dX0_timesWaiting_1 : decode cX0_timesWaiting 1 = .ok (.getfield 33, 3) := by decide +kernel
theorem dX0_timesWaiting_4 : decode cX0_timesWaiting 4 = .ok (.aload_n 0, 1) := by decide +kernel
theorem dX0_timesWaiting_5 : decode cX0_timesWaiting 5 = .ok (.getfield 46, 3) := by decide +kernel
theorem dX0_timesWaiting_8 : decode cX0_timesWaiting 8 = .ok (.iload_n 1, 1) := by decide +kernel
theorem dX0_timesWaiting_9 : decode cX0_timesWaiting 9 = .ok (.invokestatic 119, 3) := by decide +kernel
theorem dX0_timesWaiting_12 : decode cX0_timesWaiting 12 = .ok (.ireturn, 1) := by decide +kernel
theorem dX0_burialsOf_0 : decode cX0_burialsOf 0 = .ok (.iconst 0, 1) := by decide +kernel
theorem dX0_burialsOf_1 : decode cX0_burialsOf 1 = .ok (.istore_n 2, 1) := by decide +kernel
theorem dX0_burialsOf_2 : decode cX0_burialsOf 2 = .ok (.iconst 0, 1) := by decide +kernel
theorem dX0_burialsOf_3 : decode cX0_burialsOf 3 = .ok (.istore_n 3, 1) := by decide +kernel
theorem dX0_burialsOf_4 : decode cX0_burialsOf 4 = .ok (.iload_n 3, 1) := by decide +kernel
theorem dX0_burialsOf_5 : decode cX0_burialsOf 5 = .ok (.bipush 24, 2) := by decide +kernel
theorem dX0_burialsOf_7 : decode cX0_burialsOf 7 = .ok (.if_icmp .ge 28, 3) := by decide +kernel
theorem dX0_burialsOf_10 : decode cX0_burialsOf 10 = .ok (.aload_n 0, 1) := by decide +kernel
theorem dX0_burialsOf_11 : decode cX0_burialsOf 11 = .ok (.getfield 18, 3) := by decide +kernel
theorem dX0_burialsOf_14 : decode cX0_burialsOf 14 = .ok (.iload_n 3, 1) := by decide +kernel
theorem dX0_burialsOf_15 : decode cX0_burialsOf 15 = .ok (.iaload, 1) := by decide +kernel
theorem dX0_burialsOf_16 : decode cX0_burialsOf 16 = .ok (.iload_n 1, 1) := by decide +kernel
theorem dX0_burialsOf_17 : decode cX0_burialsOf 17 = .ok (.if_icmp .ne 12, 3) := by decide +kernel
theorem dX0_burialsOf_20 : decode cX0_burialsOf 20 = .ok (.iload_n 2, 1) := by decide +kernel
theorem dX0_burialsOf_21 : decode cX0_burialsOf 21 = .ok (.aload_n 0, 1) := by decide +kernel
theorem dX0_burialsOf_22 : decode cX0_burialsOf 22 = .ok (.getfield 27, 3) := by decide +kernel
theorem dX0_burialsOf_25 : decode cX0_burialsOf 25 = .ok (.iload_n 3, 1) := by decide +kernel
theorem dX0_burialsOf_26 : decode cX0_burialsOf 26 = .ok (.iaload, 1) := by decide +kernel
theorem dX0_burialsOf_27 : decode cX0_burialsOf 27 = .ok (.iadd, 1) := by decide +kernel
theorem dX0_burialsOf_28 : decode cX0_burialsOf 28 = .ok (.istore_n 2, 1) := by decide +kernel
theorem dX0_burialsOf_29 : decode cX0_burialsOf 29 = .ok (.iinc 3 1, 3) := by decide +kernel
theorem dX0_burialsOf_32 : decode cX0_burialsOf 32 = .ok (.goto (-28), 3) := by decide +kernel
theorem dX0_burialsOf_35 : decode cX0_burialsOf 35 = .ok (.iload_n 2, 1) := by decide +kernel
theorem dX0_burialsOf_36 : decode cX0_burialsOf 36 = .ok (.ireturn, 1) := by decide +kernel
theorem dX0_waitersAheadOf_0 : decode cX0_waitersAheadOf 0 = .ok (.iconst 0, 1) := by decide +kernel
theorem dX0_waitersAheadOf_1 : decode cX0_waitersAheadOf 1 = .ok (.istore_n 2, 1) := by decide +kernel
theorem dX0_waitersAheadOf_2 : decode cX0_waitersAheadOf 2 = .ok (.iload_n 2, 1) := by decide +kernel
theorem dX0_waitersAheadOf_3 : decode cX0_waitersAheadOf 3 = .ok (.aload_n 0, 1) := by decide +kernel
theorem dX0_waitersAheadOf_4 : decode cX0_waitersAheadOf 4 = .ok (.getfield 46, 3) := by decide +kernel
theorem dX0_waitersAheadOf_7 : decode cX0_waitersAheadOf 7 = .ok (.if_icmp .ge 30, 3) := by decide +kernel
theorem dX0_waitersAheadOf_10 : decode cX0_waitersAheadOf 10 = .ok (.iload_n 2, 1) := by decide +kernel
theorem dX0_waitersAheadOf_11 : decode cX0_waitersAheadOf 11 = .ok (.aload_n 0, 1) := by decide +kernel
theorem dX0_waitersAheadOf_12 : decode cX0_waitersAheadOf 12 = .ok (.getfield 33, 3) := by decide +kernel
theorem dX0_waitersAheadOf_15 : decode cX0_waitersAheadOf 15 = .ok (.arraylength, 1) := by decide +kernel
theorem dX0_waitersAheadOf_16 : decode cX0_waitersAheadOf 16 = .ok (.if_icmp .ge 21, 3) := by decide +kernel
theorem dX0_waitersAheadOf_19 : decode cX0_waitersAheadOf 19 = .ok (.aload_n 0, 1) := by decide +kernel
theorem dX0_waitersAheadOf_20 : decode cX0_waitersAheadOf 20 = .ok (.getfield 33, 3) := by decide +kernel
theorem dX0_waitersAheadOf_23 : decode cX0_waitersAheadOf 23 = .ok (.iload_n 2, 1) := by decide +kernel
theorem dX0_waitersAheadOf_24 : decode cX0_waitersAheadOf 24 = .ok (.iaload, 1) := by decide +kernel
theorem dX0_waitersAheadOf_25 : decode cX0_waitersAheadOf 25 = .ok (.iload_n 1, 1) := by decide +kernel
theorem dX0_waitersAheadOf_26 : decode cX0_waitersAheadOf 26 = .ok (.if_icmp .ne 5, 3) := by decide +kernel
theorem dX0_waitersAheadOf_29 : decode cX0_waitersAheadOf 29 = .ok (.iload_n 2, 1) := by decide +kernel
theorem dX0_waitersAheadOf_30 : decode cX0_waitersAheadOf 30 = .ok (.ireturn, 1) := by decide +kernel
theorem dX0_waitersAheadOf_31 : decode cX0_waitersAheadOf 31 = .ok (.iinc 2 1, 3) := by decide +kernel
theorem dX0_waitersAheadOf_34 : decode cX0_waitersAheadOf 34 = .ok (.goto (-32), 3) := by decide +kernel
theorem dX0_waitersAheadOf_37 : decode cX0_waitersAheadOf 37 = .ok (.iconst (-1), 1) := by decide +kernel
theorem dX0_waitersAheadOf_38 : decode cX0_waitersAheadOf 38 = .ok (.ireturn, 1) := by decide +kernel
theorem dX0_waiterAt_0 : decode cX0_waiterAt 0 = .ok (.iload_n 1, 1) := by decide +kernel
theorem dX0_waiterAt_1 : decode cX0_waiterAt 1 = .ok (.ifCond .lt 29, 3) := by decide +kernel
theorem dX0_waiterAt_4 : decode cX0_waiterAt 4 = .ok (.iload_n 1, 1) := by decide +kernel
theorem dX0_waiterAt_5 : decode cX0_waiterAt 5 = .ok (.aload_n 0, 1) := by decide +kernel
theorem dX0_waiterAt_6 : decode cX0_waiterAt 6 = .ok (.getfield 46, 3) := by decide +kernel
theorem dX0_waiterAt_9 : decode cX0_waiterAt 9 = .ok (.if_icmp .ge 21, 3) := by decide +kernel
theorem dX0_waiterAt_12 : decode cX0_waiterAt 12 = .ok (.iload_n 1, 1) := by decide +kernel
theorem dX0_waiterAt_13 : decode cX0_waiterAt 13 = .ok (.aload_n 0, 1) := by decide +kernel
theorem dX0_waiterAt_14 : decode cX0_waiterAt 14 = .ok (.getfield 33, 3) := by decide +kernel
theorem dX0_waiterAt_17 : decode cX0_waiterAt 17 = .ok (.arraylength, 1) := by decide +kernel
theorem dX0_waiterAt_18 : decode cX0_waiterAt 18 = .ok (.if_icmp .ge 12, 3) := by decide +kernel
theorem dX0_waiterAt_21 : decode cX0_waiterAt 21 = .ok (.aload_n 0, 1) := by decide +kernel
theorem dX0_waiterAt_22 : decode cX0_waiterAt 22 = .ok (.getfield 33, 3) := by decide +kernel
theorem dX0_waiterAt_25 : decode cX0_waiterAt 25 = .ok (.iload_n 1, 1) := by decide +kernel
theorem dX0_waiterAt_26 : decode cX0_waiterAt 26 = .ok (.iaload, 1) := by decide +kernel
theorem dX0_waiterAt_27 : decode cX0_waiterAt 27 = .ok (.goto 4, 3) := by decide +kernel
theorem dX0_waiterAt_30 : decode cX0_waiterAt 30 = .ok (.iconst (-1), 1) := by decide +kernel
theorem dX0_waiterAt_31 : decode cX0_waiterAt 31 = .ok (.ireturn, 1) := by decide +kernel
theorem dX0_countIn_0 : decode cX0_countIn 0 = .ok (.iconst 0, 1) := by decide +kernel
theorem dX0_countIn_1 : decode cX0_countIn 1 = .ok (.istore_n 3, 1) := by decide +kernel
theorem dX0_countIn_2 : decode cX0_countIn 2 = .ok (.iconst 0, 1) := by decide +kernel
theorem dX0_countIn_3 : decode cX0_countIn 3 = .ok (.istore 4, 2) := by decide +kernel
theorem dX0_countIn_5 : decode cX0_countIn 5 = .ok (.iload 4, 2) := by decide +kernel
theorem dX0_countIn_7 : decode cX0_countIn 7 = .ok (.iload_n 1, 1) := by decide +kernel
theorem dX0_countIn_8 : decode cX0_countIn 8 = .ok (.if_icmp .ge 27, 3) := by decide +kernel
theorem dX0_countIn_11 : decode cX0_countIn 11 = .ok (.iload 4, 2) := by decide +kernel
theorem dX0_countIn_13 : decode cX0_countIn 13 = .ok (.aload_n 0, 1) := by decide +kernel
theorem dX0_countIn_14 : decode cX0_countIn 14 = .ok (.arraylength, 1) := by decide +kernel
theorem dX0_countIn_15 : decode cX0_countIn 15 = .ok (.if_icmp .ge 20, 3) := by decide +kernel
theorem dX0_countIn_18 : decode cX0_countIn 18 = .ok (.aload_n 0, 1) := by decide +kernel
theorem dX0_countIn_19 : decode cX0_countIn 19 = .ok (.iload 4, 2) := by decide +kernel
theorem dX0_countIn_21 : decode cX0_countIn 21 = .ok (.iaload, 1) := by decide +kernel
theorem dX0_countIn_22 : decode cX0_countIn 22 = .ok (.iload_n 2, 1) := by decide +kernel
theorem dX0_countIn_23 : decode cX0_countIn 23 = .ok (.if_icmp .ne 6, 3) := by decide +kernel
theorem dX0_countIn_26 : decode cX0_countIn 26 = .ok (.iinc 3 1, 3) := by decide +kernel
theorem dX0_countIn_29 : decode cX0_countIn 29 = .ok (.iinc 4 1, 3) := by decide +kernel
theorem dX0_countIn_32 : decode cX0_countIn 32 = .ok (.goto (-27), 3) := by decide +kernel
theorem dX0_countIn_35 : decode cX0_countIn 35 = .ok (.iload_n 3, 1) := by decide +kernel
theorem dX0_countIn_36 : decode cX0_countIn 36 = .ok (.ireturn, 1) := by decide +kernel
theorem dX0_nearestFree_0 : decode cX0_nearestFree 0 = .ok (.iconst (-1), 1) := by decide +kernel
theorem dX0_nearestFree_1 : decode cX0_nearestFree 1 = .ok (.istore_n 2, 1) := by decide +kernel
theorem dX0_nearestFree_2 : decode cX0_nearestFree 2 = .ok (.iconst 0, 1) := by decide +kernel
theorem dX0_nearestFree_3 : decode cX0_nearestFree 3 = .ok (.istore_n 3, 1) := by decide +kernel
theorem dX0_nearestFree_4 : decode cX0_nearestFree 4 = .ok (.iconst 0, 1) := by decide +kernel
theorem dX0_nearestFree_5 : decode cX0_nearestFree 5 = .ok (.istore 4, 2) := by decide +kernel
theorem dX0_nearestFree_7 : decode cX0_nearestFree 7 = .ok (.iload 4, 2) := by decide +kernel
theorem dX0_nearestFree_9 : decode cX0_nearestFree 9 = .ok (.bipush 24, 2) := by decide +kernel
theorem dX0_nearestFree_11 : decode cX0_nearestFree 11 = .ok (.if_icmp .ge 44, 3) := by decide +kernel
theorem dX0_nearestFree_14 : decode cX0_nearestFree 14 = .ok (.aload_n 0, 1) := by decide +kernel
theorem dX0_nearestFree_15 : decode cX0_nearestFree 15 = .ok (.iload 4, 2) := by decide +kernel
theorem dX0_nearestFree_17 : decode cX0_nearestFree 17 = .ok (.invokevirtual 68, 3) := by decide +kernel
theorem dX0_nearestFree_20 : decode cX0_nearestFree 20 = .ok (.ifCond .eq 29, 3) := by decide +kernel
theorem dX0_nearestFree_23 : decode cX0_nearestFree 23 = .ok (.aload_n 0, 1) := by decide +kernel
theorem dX0_nearestFree_24 : decode cX0_nearestFree 24 = .ok (.iload_n 1, 1) := by decide +kernel
theorem dX0_nearestFree_25 : decode cX0_nearestFree 25 = .ok (.iload 4, 2) := by decide +kernel
theorem dX0_nearestFree_27 : decode cX0_nearestFree 27 = .ok (.invokevirtual 123, 3) := by decide +kernel
theorem dX0_nearestFree_30 : decode cX0_nearestFree 30 = .ok (.istore 5, 2) := by decide +kernel
theorem dX0_nearestFree_32 : decode cX0_nearestFree 32 = .ok (.iload_n 2, 1) := by decide +kernel
theorem dX0_nearestFree_33 : decode cX0_nearestFree 33 = .ok (.iconst (-1), 1) := by decide +kernel
theorem dX0_nearestFree_34 : decode cX0_nearestFree 34 = .ok (.if_icmp .eq 9, 3) := by decide +kernel
theorem dX0_nearestFree_37 : decode cX0_nearestFree 37 = .ok (.iload 5, 2) := by decide +kernel
theorem dX0_nearestFree_39 : decode cX0_nearestFree 39 = .ok (.iload_n 3, 1) := by decide +kernel
theorem dX0_nearestFree_40 : decode cX0_nearestFree 40 = .ok (.if_icmp .ge 9, 3) := by decide +kernel
theorem dX0_nearestFree_43 : decode cX0_nearestFree 43 = .ok (.iload 4, 2) := by decide +kernel
theorem dX0_nearestFree_45 : decode cX0_nearestFree 45 = .ok (.istore_n 2, 1) := by decide +kernel
theorem dX0_nearestFree_46 : decode cX0_nearestFree 46 = .ok (.iload 5, 2) := by decide +kernel
theorem dX0_nearestFree_48 : decode cX0_nearestFree 48 = .ok (.istore_n 3, 1) := by decide +kernel
theorem dX0_nearestFree_49 : decode cX0_nearestFree 49 = .ok (.iinc 4 1, 3) := by decide +kernel
theorem dX0_nearestFree_52 : decode cX0_nearestFree 52 = .ok (.goto (-45), 3) := by decide +kernel
theorem dX0_nearestFree_55 : decode cX0_nearestFree 55 = .ok (.iload_n 2, 1) := by decide +kernel
theorem dX0_nearestFree_56 : decode cX0_nearestFree 56 = .ok (.ireturn, 1) := by decide +kernel
theorem dX0_wayToPlotsOf_0 : decode cX0_wayToPlotsOf 0 = .ok (.bipush 10, 2) := by decide +kernel
theorem dX0_wayToPlotsOf_2 : decode cX0_wayToPlotsOf 2 = .ok (.istore_n 3, 1) := by decide +kernel
theorem dX0_wayToPlotsOf_3 : decode cX0_wayToPlotsOf 3 = .ok (.iconst 0, 1) := by decide +kernel
theorem dX0_wayToPlotsOf_4 : decode cX0_wayToPlotsOf 4 = .ok (.istore 4, 2) := by decide +kernel
theorem dX0_wayToPlotsOf_6 : decode cX0_wayToPlotsOf 6 = .ok (.iload 4, 2) := by decide +kernel
theorem dX0_wayToPlotsOf_8 : decode cX0_wayToPlotsOf 8 = .ok (.bipush 24, 2) := by decide +kernel
theorem dX0_wayToPlotsOf_10 : decode cX0_wayToPlotsOf 10 = .ok (.if_icmp .ge 56, 3) := by decide +kernel
theorem dX0_wayToPlotsOf_13 : decode cX0_wayToPlotsOf 13 = .ok (.aload_n 0, 1) := by decide +kernel
theorem dX0_wayToPlotsOf_14 : decode cX0_wayToPlotsOf 14 = .ok (.getfield 18, 3) := by decide +kernel
theorem dX0_wayToPlotsOf_17 : decode cX0_wayToPlotsOf 17 = .ok (.iload 4, 2) := by decide +kernel
theorem dX0_wayToPlotsOf_19 : decode cX0_wayToPlotsOf 19 = .ok (.iaload, 1) := by decide +kernel
theorem dX0_wayToPlotsOf_20 : decode cX0_wayToPlotsOf 20 = .ok (.iload_n 1, 1) := by decide +kernel
theorem dX0_wayToPlotsOf_21 : decode cX0_wayToPlotsOf 21 = .ok (.if_icmp .ne 39, 3) := by decide +kernel
theorem dX0_wayToPlotsOf_24 : decode cX0_wayToPlotsOf 24 = .ok (.iload_n 2, 1) := by decide +kernel
theorem dX0_wayToPlotsOf_25 : decode cX0_wayToPlotsOf 25 = .ok (.bipush 6, 2) := by decide +kernel
theorem dX0_wayToPlotsOf_27 : decode cX0_wayToPlotsOf 27 = .ok (.idiv, 1) := by decide +kernel
theorem dX0_wayToPlotsOf_28 : decode cX0_wayToPlotsOf 28 = .ok (.iload 4, 2) := by decide +kernel
theorem dX0_wayToPlotsOf_30 : decode cX0_wayToPlotsOf 30 = .ok (.bipush 6, 2) := by decide +kernel
theorem dX0_wayToPlotsOf_32 : decode cX0_wayToPlotsOf 32 = .ok (.idiv, 1) := by decide +kernel
theorem dX0_wayToPlotsOf_33 : decode cX0_wayToPlotsOf 33 = .ok (.isub, 1) := by decide +kernel
theorem dX0_wayToPlotsOf_34 : decode cX0_wayToPlotsOf 34 = .ok (.invokestatic 126, 3) := by decide +kernel
theorem dX0_wayToPlotsOf_37 : decode cX0_wayToPlotsOf 37 = .ok (.iload_n 2, 1) := by decide +kernel
theorem dX0_wayToPlotsOf_38 : decode cX0_wayToPlotsOf 38 = .ok (.bipush 6, 2) := by decide +kernel
theorem dX0_wayToPlotsOf_40 : decode cX0_wayToPlotsOf 40 = .ok (.irem, 1) := by decide +kernel
theorem dX0_wayToPlotsOf_41 : decode cX0_wayToPlotsOf 41 = .ok (.iload 4, 2) := by decide +kernel
theorem dX0_wayToPlotsOf_43 : decode cX0_wayToPlotsOf 43 = .ok (.bipush 6, 2) := by decide +kernel
theorem dX0_wayToPlotsOf_45 : decode cX0_wayToPlotsOf 45 = .ok (.irem, 1) := by decide +kernel
theorem dX0_wayToPlotsOf_46 : decode cX0_wayToPlotsOf 46 = .ok (.isub, 1) := by decide +kernel
theorem dX0_wayToPlotsOf_47 : decode cX0_wayToPlotsOf 47 = .ok (.invokestatic 126, 3) := by decide +kernel
theorem dX0_wayToPlotsOf_50 : decode cX0_wayToPlotsOf 50 = .ok (.iadd, 1) := by decide +kernel
theorem dX0_wayToPlotsOf_51 : decode cX0_wayToPlotsOf 51 = .ok (.istore 5, 2) := by decide +kernel
theorem dX0_wayToPlotsOf_53 : decode cX0_wayToPlotsOf 53 = .ok (.iload_n 3, 1) := by decide +kernel
theorem dX0_wayToPlotsOf_54 : decode cX0_wayToPlotsOf 54 = .ok (.iload 5, 2) := by decide +kernel
theorem dX0_wayToPlotsOf_56 : decode cX0_wayToPlotsOf 56 = .ok (.invokestatic 129, 3) := by decide +kernel
theorem dX0_wayToPlotsOf_59 : decode cX0_wayToPlotsOf 59 = .ok (.istore_n 3, 1) := by decide +kernel
theorem dX0_wayToPlotsOf_60 : decode cX0_wayToPlotsOf 60 = .ok (.iinc 4 1, 3) := by decide +kernel
theorem dX0_wayToPlotsOf_63 : decode cX0_wayToPlotsOf 63 = .ok (.goto (-57), 3) := by decide +kernel
theorem dX0_wayToPlotsOf_66 : decode cX0_wayToPlotsOf 66 = .ok (.iload_n 3, 1) := by decide +kernel
theorem dX0_wayToPlotsOf_67 : decode cX0_wayToPlotsOf 67 = .ok (.ireturn, 1) := by decide +kernel
theorem dX0_canTakeAsker_0 : decode cX0_canTakeAsker 0 = .ok (.aload_n 0, 1) := by decide +kernel
theorem dX0_canTakeAsker_1 : decode cX0_canTakeAsker 1 = .ok (.getfield 46, 3) := by decide +kernel
theorem dX0_canTakeAsker_4 : decode cX0_canTakeAsker 4 = .ok (.bipush 12, 2) := by decide +kernel
theorem dX0_canTakeAsker_6 : decode cX0_canTakeAsker 6 = .ok (.if_icmp .lt 10, 3) := by decide +kernel
theorem dX0_canTakeAsker_9 : decode cX0_canTakeAsker 9 = .ok (.aload_n 0, 1) := by decide +kernel
theorem dX0_canTakeAsker_10 : decode cX0_canTakeAsker 10 = .ok (.invokevirtual 132, 3) := by decide +kernel
theorem dX0_canTakeAsker_13 : decode cX0_canTakeAsker 13 = .ok (.ifCond .le 7, 3) := by decide +kernel
theorem dX0_canTakeAsker_16 : decode cX0_canTakeAsker 16 = .ok (.iconst 1, 1) := by decide +kernel
theorem dX0_canTakeAsker_17 : decode cX0_canTakeAsker 17 = .ok (.goto 4, 3) := by decide +kernel
theorem dX0_canTakeAsker_20 : decode cX0_canTakeAsker 20 = .ok (.iconst 0, 1) := by decide +kernel
theorem dX0_canTakeAsker_21 : decode cX0_canTakeAsker 21 = .ok (.ireturn, 1) := by decide +kernel
theorem dX0_giveOrQueue_0 : decode cX0_giveOrQueue 0 = .ok (.aload_n 0, 1) := by decide +kernel
theorem dX0_giveOrQueue_1 : decode cX0_giveOrQueue 1 = .ok (.iload_n 1, 1) := by decide +kernel
theorem dX0_giveOrQueue_2 : decode cX0_giveOrQueue 2 = .ok (.invokevirtual 136, 3) := by decide +kernel
theorem dX0_giveOrQueue_5 : decode cX0_giveOrQueue 5 = .ok (.istore_n 2, 1) := by decide +kernel
theorem dX0_giveOrQueue_6 : decode cX0_giveOrQueue 6 = .ok (.iload_n 2, 1) := by decide +kernel
theorem dX0_giveOrQueue_7 : decode cX0_giveOrQueue 7 = .ok (.iconst (-1), 1) := by decide +kernel
theorem dX0_giveOrQueue_8 : decode cX0_giveOrQueue 8 = .ok (.if_icmp .eq 12, 3) := by decide +kernel
theorem dX0_giveOrQueue_11 : decode cX0_giveOrQueue 11 = .ok (.aload_n 0, 1) := by decide +kernel
theorem dX0_giveOrQueue_12 : decode cX0_giveOrQueue 12 = .ok (.iload_n 1, 1) := by decide +kernel
theorem dX0_giveOrQueue_13 : decode cX0_giveOrQueue 13 = .ok (.iload_n 2, 1) := by decide +kernel
theorem dX0_giveOrQueue_14 : decode cX0_giveOrQueue 14 = .ok (.invokevirtual 139, 3) := by decide +kernel
theorem dX0_giveOrQueue_17 : decode cX0_giveOrQueue 17 = .ok (.goto 35, 3) := by decide +kernel
theorem dX0_giveOrQueue_20 : decode cX0_giveOrQueue 20 = .ok (.aload_n 0, 1) := by decide +kernel
theorem dX0_giveOrQueue_21 : decode cX0_giveOrQueue 21 = .ok (.getfield 46, 3) := by decide +kernel
theorem dX0_giveOrQueue_24 : decode cX0_giveOrQueue 24 = .ok (.aload_n 0, 1) := by decide +kernel
theorem dX0_giveOrQueue_25 : decode cX0_giveOrQueue 25 = .ok (.getfield 33, 3) := by decide +kernel
theorem dX0_giveOrQueue_28 : decode cX0_giveOrQueue 28 = .ok (.arraylength, 1) := by decide +kernel
theorem dX0_giveOrQueue_29 : decode cX0_giveOrQueue 29 = .ok (.if_icmp .ge 23, 3) := by decide +kernel
theorem dX0_giveOrQueue_32 : decode cX0_giveOrQueue 32 = .ok (.aload_n 0, 1) := by decide +kernel
theorem dX0_giveOrQueue_33 : decode cX0_giveOrQueue 33 = .ok (.getfield 33, 3) := by decide +kernel
theorem dX0_giveOrQueue_36 : decode cX0_giveOrQueue 36 = .ok (.aload_n 0, 1) := by decide +kernel
theorem dX0_giveOrQueue_37 : decode cX0_giveOrQueue 37 = .ok (.getfield 46, 3) := by decide +kernel
theorem dX0_giveOrQueue_40 : decode cX0_giveOrQueue 40 = .ok (.iload_n 1, 1) := by decide +kernel
theorem dX0_giveOrQueue_41 : decode cX0_giveOrQueue 41 = .ok (.iastore, 1) := by decide +kernel
theorem dX0_giveOrQueue_42 : decode cX0_giveOrQueue 42 = .ok (.aload_n 0, 1) := by decide +kernel
theorem dX0_giveOrQueue_43 : decode cX0_giveOrQueue 43 = .ok (.dup, 1) := by decide +kernel
theorem dX0_giveOrQueue_44 : decode cX0_giveOrQueue 44 = .ok (.getfield 46, 3) := by decide +kernel
theorem dX0_giveOrQueue_47 : decode cX0_giveOrQueue 47 = .ok (.iconst 1, 1) := by decide +kernel
theorem dX0_giveOrQueue_48 : decode cX0_giveOrQueue 48 = .ok (.iadd, 1) := by decide +kernel
theorem dX0_giveOrQueue_49 : decode cX0_giveOrQueue 49 = .ok (.putfield 46, 3) := by decide +kernel
theorem dX0_giveOrQueue_52 : decode cX0_giveOrQueue 52 = .ok (.iload_n 2, 1) := by decide +kernel
theorem dX0_giveOrQueue_53 : decode cX0_giveOrQueue 53 = .ok (.ireturn, 1) := by decide +kernel
theorem dX0_give_0 : decode cX0_give 0 = .ok (.aload_n 0, 1) := by decide +kernel
theorem dX0_give_1 : decode cX0_give 1 = .ok (.getfield 18, 3) := by decide +kernel
theorem dX0_give_4 : decode cX0_give 4 = .ok (.iload_n 2, 1) := by decide +kernel
theorem dX0_give_5 : decode cX0_give 5 = .ok (.iload_n 1, 1) := by decide +kernel
theorem dX0_give_6 : decode cX0_give 6 = .ok (.iastore, 1) := by decide +kernel
theorem dX0_give_7 : decode cX0_give 7 = .ok (.aload_n 0, 1) := by decide +kernel
theorem dX0_give_8 : decode cX0_give 8 = .ok (.getfield 21, 3) := by decide +kernel
theorem dX0_give_11 : decode cX0_give 11 = .ok (.iload_n 2, 1) := by decide +kernel
theorem dX0_give_12 : decode cX0_give 12 = .ok (.aload_n 0, 1) := by decide +kernel
theorem dX0_give_13 : decode cX0_give 13 = .ok (.getfield 42, 3) := by decide +kernel
theorem dX0_give_16 : decode cX0_give 16 = .ok (.iconst 1, 1) := by decide +kernel
theorem dX0_give_17 : decode cX0_give 17 = .ok (.isub, 1) := by decide +kernel
theorem dX0_give_18 : decode cX0_give 18 = .ok (.iastore, 1) := by decide +kernel
theorem dX0_give_19 : decode cX0_give 19 = .ok (.aload_n 0, 1) := by decide +kernel
theorem dX0_give_20 : decode cX0_give 20 = .ok (.iload_n 2, 1) := by decide +kernel
theorem dX0_give_21 : decode cX0_give 21 = .ok (.aload_n 0, 1) := by decide +kernel
theorem dX0_give_22 : decode cX0_give 22 = .ok (.getfield 9, 3) := by decide +kernel
theorem dX0_give_25 : decode cX0_give 25 = .ok (.iconst 0, 1) := by decide +kernel
theorem dX0_give_26 : decode cX0_give 26 = .ok (.iaload, 1) := by decide +kernel
theorem dX0_give_27 : decode cX0_give 27 = .ok (.invokevirtual 143, 3) := by decide +kernel
theorem dX0_give_30 : decode cX0_give 30 = .ok (.return_, 1) := by decide +kernel
theorem dX0_serveWaiters_0 : decode cX0_serveWaiters 0 = .ok (.iconst 0, 1) := by decide +kernel
theorem dX0_serveWaiters_1 : decode cX0_serveWaiters 1 = .ok (.istore_n 1, 1) := by decide +kernel
theorem dX0_serveWaiters_2 : decode cX0_serveWaiters 2 = .ok (.iconst 0, 1) := by decide +kernel
theorem dX0_serveWaiters_3 : decode cX0_serveWaiters 3 = .ok (.istore_n 2, 1) := by decide +kernel
theorem dX0_serveWaiters_4 : decode cX0_serveWaiters 4 = .ok (.iload_n 2, 1) := by decide +kernel
theorem dX0_serveWaiters_5 : decode cX0_serveWaiters 5 = .ok (.aload_n 0, 1) := by decide +kernel
theorem dX0_serveWaiters_6 : decode cX0_serveWaiters 6 = .ok (.getfield 33, 3) := by decide +kernel
theorem dX0_serveWaiters_9 : decode cX0_serveWaiters 9 = .ok (.arraylength, 1) := by decide +kernel
theorem dX0_serveWaiters_10 : decode cX0_serveWaiters 10 = .ok (.if_icmp .ge 57, 3) := by decide +kernel
theorem dX0_serveWaiters_13 : decode cX0_serveWaiters 13 = .ok (.aload_n 0, 1) := by decide +kernel
theorem dX0_serveWaiters_14 : decode cX0_serveWaiters 14 = .ok (.getfield 46, 3) := by decide +kernel
theorem dX0_serveWaiters_17 : decode cX0_serveWaiters 17 = .ok (.ifCond .le 16, 3) := by decide +kernel
theorem dX0_serveWaiters_20 : decode cX0_serveWaiters 20 = .ok (.aload_n 0, 1) := by decide +kernel
theorem dX0_serveWaiters_21 : decode cX0_serveWaiters 21 = .ok (.aload_n 0, 1) := by decide +kernel
theorem dX0_serveWaiters_22 : decode cX0_serveWaiters 22 = .ok (.getfield 33, 3) := by decide +kernel
theorem dX0_serveWaiters_25 : decode cX0_serveWaiters 25 = .ok (.iconst 0, 1) := by decide +kernel
theorem dX0_serveWaiters_26 : decode cX0_serveWaiters 26 = .ok (.iaload, 1) := by decide +kernel
theorem dX0_serveWaiters_27 : decode cX0_serveWaiters 27 = .ok (.invokevirtual 136, 3) := by decide +kernel
theorem dX0_serveWaiters_30 : decode cX0_serveWaiters 30 = .ok (.goto 4, 3) := by decide +kernel
theorem dX0_serveWaiters_33 : decode cX0_serveWaiters 33 = .ok (.iconst (-1), 1) := by decide +kernel
theorem dX0_serveWaiters_34 : decode cX0_serveWaiters 34 = .ok (.istore_n 3, 1) := by decide +kernel
theorem dX0_serveWaiters_35 : decode cX0_serveWaiters 35 = .ok (.iload_n 3, 1) := by decide +kernel
theorem dX0_serveWaiters_36 : decode cX0_serveWaiters 36 = .ok (.iconst (-1), 1) := by decide +kernel
theorem dX0_serveWaiters_37 : decode cX0_serveWaiters 37 = .ok (.if_icmp .ne 6, 3) := by decide +kernel
theorem dX0_serveWaiters_40 : decode cX0_serveWaiters 40 = .ok (.goto 27, 3) := by decide +kernel
theorem dX0_serveWaiters_43 : decode cX0_serveWaiters 43 = .ok (.aload_n 0, 1) := by decide +kernel
theorem dX0_serveWaiters_44 : decode cX0_serveWaiters 44 = .ok (.aload_n 0, 1) := by decide +kernel
theorem dX0_serveWaiters_45 : decode cX0_serveWaiters 45 = .ok (.getfield 33, 3) := by decide +kernel
theorem dX0_serveWaiters_48 : decode cX0_serveWaiters 48 = .ok (.iconst 0, 1) := by decide +kernel
theorem dX0_serveWaiters_49 : decode cX0_serveWaiters 49 = .ok (.iaload, 1) := by decide +kernel
theorem dX0_serveWaiters_50 : decode cX0_serveWaiters 50 = .ok (.iload_n 3, 1) := by decide +kernel
theorem dX0_serveWaiters_51 : decode cX0_serveWaiters 51 = .ok (.invokevirtual 139, 3) := by decide +kernel
theorem dX0_serveWaiters_54 : decode cX0_serveWaiters 54 = .ok (.aload_n 0, 1) := by decide +kernel
theorem dX0_serveWaiters_55 : decode cX0_serveWaiters 55 = .ok (.invokevirtual 146, 3) := by decide +kernel
theorem dX0_serveWaiters_58 : decode cX0_serveWaiters 58 = .ok (.iinc 1 1, 3) := by decide +kernel
theorem dX0_serveWaiters_61 : decode cX0_serveWaiters 61 = .ok (.iinc 2 1, 3) := by decide +kernel
theorem dX0_serveWaiters_64 : decode cX0_serveWaiters 64 = .ok (.goto (-60), 3) := by decide +kernel
theorem dX0_serveWaiters_67 : decode cX0_serveWaiters 67 = .ok (.iload_n 1, 1) := by decide +kernel
theorem dX0_serveWaiters_68 : decode cX0_serveWaiters 68 = .ok (.ireturn, 1) := by decide +kernel
theorem dX0_dropFirstWaiter_0 : decode cX0_dropFirstWaiter 0 = .ok (.aload_n 0, 1) := by decide +kernel
theorem dX0_dropFirstWaiter_1 : decode cX0_dropFirstWaiter 1 = .ok (.dup, 1) := by decide +kernel
theorem dX0_dropFirstWaiter_2 : decode cX0_dropFirstWaiter 2 = .ok (.getfield 46, 3) := by decide +kernel
theorem dX0_dropFirstWaiter_5 : decode cX0_dropFirstWaiter 5 = .ok (.iconst 1, 1) := by decide +kernel
theorem dX0_dropFirstWaiter_6 : decode cX0_dropFirstWaiter 6 = .ok (.isub, 1) := by decide +kernel
theorem dX0_dropFirstWaiter_7 : decode cX0_dropFirstWaiter 7 = .ok (.putfield 46, 3) := by decide +kernel
theorem dX0_dropFirstWaiter_10 : decode cX0_dropFirstWaiter 10 = .ok (.iconst 0, 1) := by decide +kernel
theorem dX0_dropFirstWaiter_11 : decode cX0_dropFirstWaiter 11 = .ok (.istore_n 1, 1) := by decide +kernel
theorem dX0_dropFirstWaiter_12 : decode cX0_dropFirstWaiter 12 = .ok (.iload_n 1, 1) := by decide +kernel
theorem dX0_dropFirstWaiter_13 : decode cX0_dropFirstWaiter 13 = .ok (.aload_n 0, 1) := by decide +kernel
theorem dX0_dropFirstWaiter_14 : decode cX0_dropFirstWaiter 14 = .ok (.getfield 46, 3) := by decide +kernel
theorem dX0_dropFirstWaiter_17 : decode cX0_dropFirstWaiter 17 = .ok (.if_icmp .ge 34, 3) := by decide +kernel
theorem dX0_dropFirstWaiter_20 : decode cX0_dropFirstWaiter 20 = .ok (.iload_n 1, 1) := by decide +kernel
theorem dX0_dropFirstWaiter_21 : decode cX0_dropFirstWaiter 21 = .ok (.iconst 1, 1) := by decide +kernel
theorem dX0_dropFirstWaiter_22 : decode cX0_dropFirstWaiter 22 = .ok (.iadd, 1) := by decide +kernel
theorem dX0_dropFirstWaiter_23 : decode cX0_dropFirstWaiter 23 = .ok (.aload_n 0, 1) := by decide +kernel
theorem dX0_dropFirstWaiter_24 : decode cX0_dropFirstWaiter 24 = .ok (.getfield 33, 3) := by decide +kernel
theorem dX0_dropFirstWaiter_27 : decode cX0_dropFirstWaiter 27 = .ok (.arraylength, 1) := by decide +kernel
theorem dX0_dropFirstWaiter_28 : decode cX0_dropFirstWaiter 28 = .ok (.if_icmp .ge 23, 3) := by decide +kernel
theorem dX0_dropFirstWaiter_31 : decode cX0_dropFirstWaiter 31 = .ok (.aload_n 0, 1) := by decide +kernel
theorem dX0_dropFirstWaiter_32 : decode cX0_dropFirstWaiter 32 = .ok (.getfield 33, 3) := by decide +kernel
theorem dX0_dropFirstWaiter_35 : decode cX0_dropFirstWaiter 35 = .ok (.iload_n 1, 1) := by decide +kernel
theorem dX0_dropFirstWaiter_36 : decode cX0_dropFirstWaiter 36 = .ok (.aload_n 0, 1) := by decide +kernel
theorem dX0_dropFirstWaiter_37 : decode cX0_dropFirstWaiter 37 = .ok (.getfield 33, 3) := by decide +kernel
theorem dX0_dropFirstWaiter_40 : decode cX0_dropFirstWaiter 40 = .ok (.iload_n 1, 1) := by decide +kernel
theorem dX0_dropFirstWaiter_41 : decode cX0_dropFirstWaiter 41 = .ok (.iconst 1, 1) := by decide +kernel
theorem dX0_dropFirstWaiter_42 : decode cX0_dropFirstWaiter 42 = .ok (.iadd, 1) := by decide +kernel
theorem dX0_dropFirstWaiter_43 : decode cX0_dropFirstWaiter 43 = .ok (.iaload, 1) := by decide +kernel
theorem dX0_dropFirstWaiter_44 : decode cX0_dropFirstWaiter 44 = .ok (.iastore, 1) := by decide +kernel
theorem dX0_dropFirstWaiter_45 : decode cX0_dropFirstWaiter 45 = .ok (.iinc 1 1, 3) := by decide +kernel
theorem dX0_dropFirstWaiter_48 : decode cX0_dropFirstWaiter 48 = .ok (.goto (-36), 3) := by decide +kernel
theorem dX0_dropFirstWaiter_51 : decode cX0_dropFirstWaiter 51 = .ok (.return_, 1) := by decide +kernel
theorem dX0_vacate_0 : decode cX0_vacate 0 = .ok (.aload_n 0, 1) := by decide +kernel
theorem dX0_vacate_1 : decode cX0_vacate 1 = .ok (.getfield 18, 3) := by decide +kernel
theorem dX0_vacate_4 : decode cX0_vacate 4 = .ok (.iload_n 1, 1) := by decide +kernel
theorem dX0_vacate_5 : decode cX0_vacate 5 = .ok (.iconst (-1), 1) := by decide +kernel
theorem dX0_vacate_6 : decode cX0_vacate 6 = .ok (.iastore, 1) := by decide +kernel
theorem dX0_vacate_7 : decode cX0_vacate 7 = .ok (.aload_n 0, 1) := by decide +kernel
theorem dX0_vacate_8 : decode cX0_vacate 8 = .ok (.getfield 21, 3) := by decide +kernel
theorem dX0_vacate_11 : decode cX0_vacate 11 = .ok (.iload_n 1, 1) := by decide +kernel
theorem dX0_vacate_12 : decode cX0_vacate 12 = .ok (.iconst (-1), 1) := by decide +kernel
theorem dX0_vacate_13 : decode cX0_vacate 13 = .ok (.iastore, 1) := by decide +kernel
theorem dX0_vacate_14 : decode cX0_vacate 14 = .ok (.aload_n 0, 1) := by decide +kernel
theorem dX0_vacate_15 : decode cX0_vacate 15 = .ok (.getfield 24, 3) := by decide +kernel
theorem dX0_vacate_18 : decode cX0_vacate 18 = .ok (.iload_n 1, 1) := by decide +kernel
theorem dX0_vacate_19 : decode cX0_vacate 19 = .ok (.iconst (-1), 1) := by decide +kernel
theorem dX0_vacate_20 : decode cX0_vacate 20 = .ok (.iastore, 1) := by decide +kernel
theorem dX0_vacate_21 : decode cX0_vacate 21 = .ok (.aload_n 0, 1) := by decide +kernel
theorem dX0_vacate_22 : decode cX0_vacate 22 = .ok (.getfield 27, 3) := by decide +kernel
theorem dX0_vacate_25 : decode cX0_vacate 25 = .ok (.iload_n 1, 1) := by decide +kernel
theorem dX0_vacate_26 : decode cX0_vacate 26 = .ok (.iconst 0, 1) := by decide +kernel
theorem dX0_vacate_27 : decode cX0_vacate 27 = .ok (.iastore, 1) := by decide +kernel
theorem dX0_vacate_28 : decode cX0_vacate 28 = .ok (.return_, 1) := by decide +kernel
theorem dX0_prolong_0 : decode cX0_prolong 0 = .ok (.aload_n 0, 1) := by decide +kernel
theorem dX0_prolong_1 : decode cX0_prolong 1 = .ok (.getfield 21, 3) := by decide +kernel
theorem dX0_prolong_4 : decode cX0_prolong 4 = .ok (.iload_n 1, 1) := by decide +kernel
theorem dX0_prolong_5 : decode cX0_prolong 5 = .ok (.dup2, 1) := by decide +kernel
theorem dX0_prolong_6 : decode cX0_prolong 6 = .ok (.iaload, 1) := by decide +kernel
theorem dX0_prolong_7 : decode cX0_prolong 7 = .ok (.iload_n 2, 1) := by decide +kernel
theorem dX0_prolong_8 : decode cX0_prolong 8 = .ok (.iadd, 1) := by decide +kernel
theorem dX0_prolong_9 : decode cX0_prolong 9 = .ok (.iastore, 1) := by decide +kernel
theorem dX0_prolong_10 : decode cX0_prolong 10 = .ok (.aload_n 0, 1) := by decide +kernel
theorem dX0_prolong_11 : decode cX0_prolong 11 = .ok (.iload_n 1, 1) := by decide +kernel
theorem dX0_prolong_12 : decode cX0_prolong 12 = .ok (.iload_n 2, 1) := by decide +kernel
theorem dX0_prolong_13 : decode cX0_prolong 13 = .ok (.aload_n 0, 1) := by decide +kernel
theorem dX0_prolong_14 : decode cX0_prolong 14 = .ok (.getfield 9, 3) := by decide +kernel
theorem dX0_prolong_17 : decode cX0_prolong 17 = .ok (.iconst 2, 1) := by decide +kernel
theorem dX0_prolong_18 : decode cX0_prolong 18 = .ok (.iaload, 1) := by decide +kernel
theorem dX0_prolong_19 : decode cX0_prolong 19 = .ok (.imul, 1) := by decide +kernel
theorem dX0_prolong_20 : decode cX0_prolong 20 = .ok (.invokevirtual 149, 3) := by decide +kernel
theorem dX0_prolong_23 : decode cX0_prolong 23 = .ok (.return_, 1) := by decide +kernel
theorem dX0_charge_0 : decode cX0_charge 0 = .ok (.aload_n 0, 1) := by decide +kernel
theorem dX0_charge_1 : decode cX0_charge 1 = .ok (.getfield 18, 3) := by decide +kernel
theorem dX0_charge_4 : decode cX0_charge 4 = .ok (.iload_n 1, 1) := by decide +kernel
theorem dX0_charge_5 : decode cX0_charge 5 = .ok (.iaload, 1) := by decide +kernel
theorem dX0_charge_6 : decode cX0_charge 6 = .ok (.istore_n 3, 1) := by decide +kernel
theorem dX0_charge_7 : decode cX0_charge 7 = .ok (.iload_n 3, 1) := by decide +kernel
theorem dX0_charge_8 : decode cX0_charge 8 = .ok (.ifCond .lt 19, 3) := by decide +kernel
theorem dX0_charge_11 : decode cX0_charge 11 = .ok (.iload_n 3, 1) := by decide +kernel
theorem dX0_charge_12 : decode cX0_charge 12 = .ok (.bipush 10, 2) := by decide +kernel
theorem dX0_charge_14 : decode cX0_charge 14 = .ok (.if_icmp .ge 13, 3) := by decide +kernel
theorem dX0_charge_17 : decode cX0_charge 17 = .ok (.aload_n 0, 1) := by decide +kernel
theorem dX0_charge_18 : decode cX0_charge 18 = .ok (.getfield 36, 3) := by decide +kernel
theorem dX0_charge_21 : decode cX0_charge 21 = .ok (.iload_n 3, 1) := by decide +kernel
theorem dX0_charge_22 : decode cX0_charge 22 = .ok (.dup2, 1) := by decide +kernel
theorem dX0_charge_23 : decode cX0_charge 23 = .ok (.iaload, 1) := by decide +kernel
theorem dX0_charge_24 : decode cX0_charge 24 = .ok (.iload_n 2, 1) := by decide +kernel
theorem dX0_charge_25 : decode cX0_charge 25 = .ok (.iadd, 1) := by decide +kernel
theorem dX0_charge_26 : decode cX0_charge 26 = .ok (.iastore, 1) := by decide +kernel
theorem dX0_charge_27 : decode cX0_charge 27 = .ok (.return_, 1) := by decide +kernel
theorem dX0_addBurial_0 : decode cX0_addBurial 0 = .ok (.aload_n 0, 1) := by decide +kernel
theorem dX0_addBurial_1 : decode cX0_addBurial 1 = .ok (.getfield 27, 3) := by decide +kernel
theorem dX0_addBurial_4 : decode cX0_addBurial 4 = .ok (.iload_n 1, 1) := by decide +kernel
theorem dX0_addBurial_5 : decode cX0_addBurial 5 = .ok (.iaload, 1) := by decide +kernel
theorem dX0_addBurial_6 : decode cX0_addBurial 6 = .ok (.istore_n 2, 1) := by decide +kernel
theorem dX0_addBurial_7 : decode cX0_addBurial 7 = .ok (.iload_n 2, 1) := by decide +kernel
theorem dX0_addBurial_8 : decode cX0_addBurial 8 = .ok (.iconst 3, 1) := by decide +kernel
theorem dX0_addBurial_9 : decode cX0_addBurial 9 = .ok (.if_icmp .lt 4, 3) := by decide +kernel
theorem dX0_addBurial_12 : decode cX0_addBurial 12 = .ok (.return_, 1) := by decide +kernel
theorem dX0_addBurial_13 : decode cX0_addBurial 13 = .ok (.aload_n 0, 1) := by decide +kernel
theorem dX0_addBurial_14 : decode cX0_addBurial 14 = .ok (.getfield 30, 3) := by decide +kernel
theorem dX0_addBurial_17 : decode cX0_addBurial 17 = .ok (.iload_n 1, 1) := by decide +kernel
theorem dX0_addBurial_18 : decode cX0_addBurial 18 = .ok (.iconst 3, 1) := by decide +kernel
theorem dX0_addBurial_19 : decode cX0_addBurial 19 = .ok (.imul, 1) := by decide +kernel
theorem dX0_addBurial_20 : decode cX0_addBurial 20 = .ok (.iload_n 2, 1) := by decide +kernel
theorem dX0_addBurial_21 : decode cX0_addBurial 21 = .ok (.iadd, 1) := by decide +kernel
theorem dX0_addBurial_22 : decode cX0_addBurial 22 = .ok (.aload_n 0, 1) := by decide +kernel
theorem dX0_addBurial_23 : decode cX0_addBurial 23 = .ok (.getfield 42, 3) := by decide +kernel
theorem dX0_addBurial_26 : decode cX0_addBurial 26 = .ok (.iastore, 1) := by decide +kernel
theorem dX0_addBurial_27 : decode cX0_addBurial 27 = .ok (.aload_n 0, 1) := by decide +kernel
theorem dX0_addBurial_28 : decode cX0_addBurial 28 = .ok (.getfield 27, 3) := by decide +kernel
theorem dX0_addBurial_31 : decode cX0_addBurial 31 = .ok (.iload_n 1, 1) := by decide +kernel
theorem dX0_addBurial_32 : decode cX0_addBurial 32 = .ok (.iload_n 2, 1) := by decide +kernel
theorem dX0_addBurial_33 : decode cX0_addBurial 33 = .ok (.iconst 1, 1) := by decide +kernel
theorem dX0_addBurial_34 : decode cX0_addBurial 34 = .ok (.iadd, 1) := by decide +kernel
theorem dX0_addBurial_35 : decode cX0_addBurial 35 = .ok (.iastore, 1) := by decide +kernel
theorem dX0_addBurial_36 : decode cX0_addBurial 36 = .ok (.aload_n 0, 1) := by decide +kernel
theorem dX0_addBurial_37 : decode cX0_addBurial 37 = .ok (.iload_n 1, 1) := by decide +kernel
theorem dX0_addBurial_38 : decode cX0_addBurial 38 = .ok (.aload_n 0, 1) := by decide +kernel
theorem dX0_addBurial_39 : decode cX0_addBurial 39 = .ok (.getfield 9, 3) := by decide +kernel
theorem dX0_addBurial_42 : decode cX0_addBurial 42 = .ok (.iconst 3, 1) := by decide +kernel
theorem dX0_addBurial_43 : decode cX0_addBurial 43 = .ok (.iaload, 1) := by decide +kernel
theorem dX0_addBurial_44 : decode cX0_addBurial 44 = .ok (.invokevirtual 149, 3) := by decide +kernel
theorem dX0_addBurial_47 : decode cX0_addBurial 47 = .ok (.aload_n 0, 1) := by decide +kernel
theorem dX0_addBurial_48 : decode cX0_addBurial 48 = .ok (.iload_n 1, 1) := by decide +kernel
theorem dX0_addBurial_49 : decode cX0_addBurial 49 = .ok (.iconst 0, 1) := by decide +kernel
theorem dX0_addBurial_50 : decode cX0_addBurial 50 = .ok (.aload_n 0, 1) := by decide +kernel
theorem dX0_addBurial_51 : decode cX0_addBurial 51 = .ok (.iload_n 1, 1) := by decide +kernel
theorem dX0_addBurial_52 : decode cX0_addBurial 52 = .ok (.invokevirtual 82, 3) := by decide +kernel
theorem dX0_addBurial_55 : decode cX0_addBurial 55 = .ok (.aload_n 0, 1) := by decide +kernel
theorem dX0_addBurial_56 : decode cX0_addBurial 56 = .ok (.getfield 21, 3) := by decide +kernel
theorem dX0_addBurial_59 : decode cX0_addBurial 59 = .ok (.iload_n 1, 1) := by decide +kernel
theorem dX0_addBurial_60 : decode cX0_addBurial 60 = .ok (.iaload, 1) := by decide +kernel
theorem dX0_addBurial_61 : decode cX0_addBurial 61 = .ok (.isub, 1) := by decide +kernel
theorem dX0_addBurial_62 : decode cX0_addBurial 62 = .ok (.invokestatic 89, 3) := by decide +kernel
theorem dX0_addBurial_65 : decode cX0_addBurial 65 = .ok (.invokevirtual 143, 3) := by decide +kernel
theorem dX0_addBurial_68 : decode cX0_addBurial 68 = .ok (.return_, 1) := by decide +kernel
theorem dX0_openDispute_0 : decode cX0_openDispute 0 = .ok (.aload_n 0, 1) := by decide +kernel
theorem dX0_openDispute_1 : decode cX0_openDispute 1 = .ok (.getfield 24, 3) := by decide +kernel
theorem dX0_openDispute_4 : decode cX0_openDispute 4 = .ok (.iload_n 1, 1) := by decide +kernel
theorem dX0_openDispute_5 : decode cX0_openDispute 5 = .ok (.iload_n 2, 1) := by decide +kernel
theorem dX0_openDispute_6 : decode cX0_openDispute 6 = .ok (.iastore, 1) := by decide +kernel
theorem dX0_openDispute_7 : decode cX0_openDispute 7 = .ok (.return_, 1) := by decide +kernel
theorem dX0_closeDispute_0 : decode cX0_closeDispute 0 = .ok (.iload_n 2, 1) := by decide +kernel
theorem dX0_closeDispute_1 : decode cX0_closeDispute 1 = .ok (.ifCond .eq 15, 3) := by decide +kernel
theorem dX0_closeDispute_4 : decode cX0_closeDispute 4 = .ok (.aload_n 0, 1) := by decide +kernel
theorem dX0_closeDispute_5 : decode cX0_closeDispute 5 = .ok (.getfield 18, 3) := by decide +kernel
theorem dX0_closeDispute_8 : decode cX0_closeDispute 8 = .ok (.iload_n 1, 1) := by decide +kernel
theorem dX0_closeDispute_9 : decode cX0_closeDispute 9 = .ok (.aload_n 0, 1) := by decide +kernel
theorem dX0_closeDispute_10 : decode cX0_closeDispute 10 = .ok (.getfield 24, 3) := by decide +kernel
theorem dX0_closeDispute_13 : decode cX0_closeDispute 13 = .ok (.iload_n 1, 1) := by decide +kernel
theorem dX0_closeDispute_14 : decode cX0_closeDispute 14 = .ok (.iaload, 1) := by decide +kernel
theorem dX0_closeDispute_15 : decode cX0_closeDispute 15 = .ok (.iastore, 1) := by decide +kernel
theorem dX0_closeDispute_16 : decode cX0_closeDispute 16 = .ok (.aload_n 0, 1) := by decide +kernel
theorem dX0_closeDispute_17 : decode cX0_closeDispute 17 = .ok (.getfield 24, 3) := by decide +kernel
theorem dX0_closeDispute_20 : decode cX0_closeDispute 20 = .ok (.iload_n 1, 1) := by decide +kernel
theorem dX0_closeDispute_21 : decode cX0_closeDispute 21 = .ok (.iconst (-1), 1) := by decide +kernel
theorem dX0_closeDispute_22 : decode cX0_closeDispute 22 = .ok (.iastore, 1) := by decide +kernel
theorem dX0_closeDispute_23 : decode cX0_closeDispute 23 = .ok (.return_, 1) := by decide +kernel
theorem dX0_clearOut_0 : decode cX0_clearOut 0 = .ok (.aload_n 0, 1) := by decide +kernel
theorem dX0_clearOut_1 : decode cX0_clearOut 1 = .ok (.getfield 27, 3) := by decide +kernel
theorem dX0_clearOut_4 : decode cX0_clearOut 4 = .ok (.iload_n 1, 1) := by decide +kernel
theorem dX0_clearOut_5 : decode cX0_clearOut 5 = .ok (.iaload, 1) := by decide +kernel
theorem dX0_clearOut_6 : decode cX0_clearOut 6 = .ok (.istore_n 2, 1) := by decide +kernel
theorem dX0_clearOut_7 : decode cX0_clearOut 7 = .ok (.aload_n 0, 1) := by decide +kernel
theorem dX0_clearOut_8 : decode cX0_clearOut 8 = .ok (.dup, 1) := by decide +kernel
theorem dX0_clearOut_9 : decode cX0_clearOut 9 = .ok (.getfield 49, 3) := by decide +kernel
theorem dX0_clearOut_12 : decode cX0_clearOut 12 = .ok (.iload_n 2, 1) := by decide +kernel
theorem dX0_clearOut_13 : decode cX0_clearOut 13 = .ok (.iadd, 1) := by decide +kernel
theorem dX0_clearOut_14 : decode cX0_clearOut 14 = .ok (.putfield 49, 3) := by decide +kernel
theorem dX0_clearOut_17 : decode cX0_clearOut 17 = .ok (.aload_n 0, 1) := by decide +kernel
theorem dX0_clearOut_18 : decode cX0_clearOut 18 = .ok (.dup, 1) := by decide +kernel
theorem dX0_clearOut_19 : decode cX0_clearOut 19 = .ok (.getfield 52, 3) := by decide +kernel
theorem dX0_clearOut_22 : decode cX0_clearOut 22 = .ok (.aload_n 0, 1) := by decide +kernel
theorem dX0_clearOut_23 : decode cX0_clearOut 23 = .ok (.getfield 9, 3) := by decide +kernel
theorem dX0_clearOut_26 : decode cX0_clearOut 26 = .ok (.iconst 4, 1) := by decide +kernel
theorem dX0_clearOut_27 : decode cX0_clearOut 27 = .ok (.iaload, 1) := by decide +kernel
theorem dX0_clearOut_28 : decode cX0_clearOut 28 = .ok (.iadd, 1) := by decide +kernel
theorem dX0_clearOut_29 : decode cX0_clearOut 29 = .ok (.putfield 52, 3) := by decide +kernel
theorem dX0_clearOut_32 : decode cX0_clearOut 32 = .ok (.aload_n 0, 1) := by decide +kernel
theorem dX0_clearOut_33 : decode cX0_clearOut 33 = .ok (.iload_n 1, 1) := by decide +kernel
theorem dX0_clearOut_34 : decode cX0_clearOut 34 = .ok (.invokevirtual 58, 3) := by decide +kernel
theorem dX0_clearOut_37 : decode cX0_clearOut 37 = .ok (.iload_n 2, 1) := by decide +kernel
theorem dX0_clearOut_38 : decode cX0_clearOut 38 = .ok (.ireturn, 1) := by decide +kernel
theorem dX0_clearAll_0 : decode cX0_clearAll 0 = .ok (.iconst 0, 1) := by decide +kernel
theorem dX0_clearAll_1 : decode cX0_clearAll 1 = .ok (.istore_n 1, 1) := by decide +kernel
theorem dX0_clearAll_2 : decode cX0_clearAll 2 = .ok (.iload_n 1, 1) := by decide +kernel
theorem dX0_clearAll_3 : decode cX0_clearAll 3 = .ok (.bipush 24, 2) := by decide +kernel
theorem dX0_clearAll_5 : decode cX0_clearAll 5 = .ok (.if_icmp .ge 23, 3) := by decide +kernel
theorem dX0_clearAll_8 : decode cX0_clearAll 8 = .ok (.aload_n 0, 1) := by decide +kernel
theorem dX0_clearAll_9 : decode cX0_clearAll 9 = .ok (.iload_n 1, 1) := by decide +kernel
theorem dX0_clearAll_10 : decode cX0_clearAll 10 = .ok (.invokevirtual 113, 3) := by decide +kernel
theorem dX0_clearAll_13 : decode cX0_clearAll 13 = .ok (.ifCond .eq 9, 3) := by decide +kernel
theorem dX0_clearAll_16 : decode cX0_clearAll 16 = .ok (.aload_n 0, 1) := by decide +kernel
theorem dX0_clearAll_17 : decode cX0_clearAll 17 = .ok (.iload_n 1, 1) := by decide +kernel
theorem dX0_clearAll_18 : decode cX0_clearAll 18 = .ok (.invokevirtual 152, 3) := by decide +kernel
theorem dX0_clearAll_21 : decode cX0_clearAll 21 = .ok (.pop, 1) := by decide +kernel
theorem dX0_clearAll_22 : decode cX0_clearAll 22 = .ok (.iinc 1 1, 3) := by decide +kernel
theorem dX0_clearAll_25 : decode cX0_clearAll 25 = .ok (.goto (-23), 3) := by decide +kernel
theorem dX0_clearAll_28 : decode cX0_clearAll 28 = .ok (.return_, 1) := by decide +kernel
theorem dX0_passYears_0 : decode cX0_passYears 0 = .ok (.iconst 0, 1) := by decide +kernel
theorem dX0_passYears_1 : decode cX0_passYears 1 = .ok (.istore_n 2, 1) := by decide +kernel
theorem dX0_passYears_2 : decode cX0_passYears 2 = .ok (.iconst 0, 1) := by decide +kernel
theorem dX0_passYears_3 : decode cX0_passYears 3 = .ok (.istore_n 3, 1) := by decide +kernel
theorem dX0_passYears_4 : decode cX0_passYears 4 = .ok (.iload_n 3, 1) := by decide +kernel
theorem dX0_passYears_5 : decode cX0_passYears 5 = .ok (.iload_n 1, 1) := by decide +kernel
theorem dX0_passYears_6 : decode cX0_passYears 6 = .ok (.if_icmp .ge 30, 3) := by decide +kernel
theorem dX0_passYears_9 : decode cX0_passYears 9 = .ok (.aload_n 0, 1) := by decide +kernel
theorem dX0_passYears_10 : decode cX0_passYears 10 = .ok (.dup, 1) := by decide +kernel
theorem dX0_passYears_11 : decode cX0_passYears 11 = .ok (.getfield 42, 3) := by decide +kernel
theorem dX0_passYears_14 : decode cX0_passYears 14 = .ok (.iconst 1, 1) := by decide +kernel
theorem dX0_passYears_15 : decode cX0_passYears 15 = .ok (.iadd, 1) := by decide +kernel
theorem dX0_passYears_16 : decode cX0_passYears 16 = .ok (.putfield 42, 3) := by decide +kernel
theorem dX0_passYears_19 : decode cX0_passYears 19 = .ok (.aload_n 0, 1) := by decide +kernel
theorem dX0_passYears_20 : decode cX0_passYears 20 = .ok (.invokevirtual 155, 3) := by decide +kernel
theorem dX0_passYears_23 : decode cX0_passYears 23 = .ok (.iload_n 2, 1) := by decide +kernel
theorem dX0_passYears_24 : decode cX0_passYears 24 = .ok (.aload_n 0, 1) := by decide +kernel
theorem dX0_passYears_25 : decode cX0_passYears 25 = .ok (.invokevirtual 158, 3) := by decide +kernel
theorem dX0_passYears_28 : decode cX0_passYears 28 = .ok (.iadd, 1) := by decide +kernel
theorem dX0_passYears_29 : decode cX0_passYears 29 = .ok (.istore_n 2, 1) := by decide +kernel
theorem dX0_passYears_30 : decode cX0_passYears 30 = .ok (.iinc 3 1, 3) := by decide +kernel
theorem dX0_passYears_33 : decode cX0_passYears 33 = .ok (.goto (-29), 3) := by decide +kernel
theorem dX0_passYears_36 : decode cX0_passYears 36 = .ok (.iload_n 2, 1) := by decide +kernel
theorem dX0_passYears_37 : decode cX0_passYears 37 = .ok (.ireturn, 1) := by decide +kernel
theorem dX0_endUnusedLeases_0 : decode cX0_endUnusedLeases 0 = .ok (.iconst 0, 1) := by decide +kernel
theorem dX0_endUnusedLeases_1 : decode cX0_endUnusedLeases 1 = .ok (.istore_n 1, 1) := by decide +kernel
theorem dX0_endUnusedLeases_2 : decode cX0_endUnusedLeases 2 = .ok (.iload_n 1, 1) := by decide +kernel
theorem dX0_endUnusedLeases_3 : decode cX0_endUnusedLeases 3 = .ok (.bipush 24, 2) := by decide +kernel
theorem dX0_endUnusedLeases_5 : decode cX0_endUnusedLeases 5 = .ok (.if_icmp .ge 39, 3) := by decide +kernel
theorem dX0_endUnusedLeases_8 : decode cX0_endUnusedLeases 8 = .ok (.aload_n 0, 1) := by decide +kernel
theorem dX0_endUnusedLeases_9 : decode cX0_endUnusedLeases 9 = .ok (.iload_n 1, 1) := by decide +kernel
theorem dX0_endUnusedLeases_10 : decode cX0_endUnusedLeases 10 = .ok (.invokevirtual 76, 3) := by decide +kernel
theorem dX0_endUnusedLeases_13 : decode cX0_endUnusedLeases 13 = .ok (.ifCond .eq 25, 3) := by decide +kernel
theorem dX0_endUnusedLeases_16 : decode cX0_endUnusedLeases 16 = .ok (.aload_n 0, 1) := by decide +kernel
theorem dX0_endUnusedLeases_17 : decode cX0_endUnusedLeases 17 = .ok (.getfield 27, 3) := by decide +kernel
theorem dX0_endUnusedLeases_20 : decode cX0_endUnusedLeases 20 = .ok (.iload_n 1, 1) := by decide +kernel
theorem dX0_endUnusedLeases_21 : decode cX0_endUnusedLeases 21 = .ok (.iaload, 1) := by decide +kernel
theorem dX0_endUnusedLeases_22 : decode cX0_endUnusedLeases 22 = .ok (.ifCond .ne 16, 3) := by decide +kernel
theorem dX0_endUnusedLeases_25 : decode cX0_endUnusedLeases 25 = .ok (.aload_n 0, 1) := by decide +kernel
theorem dX0_endUnusedLeases_26 : decode cX0_endUnusedLeases 26 = .ok (.iload_n 1, 1) := by decide +kernel
theorem dX0_endUnusedLeases_27 : decode cX0_endUnusedLeases 27 = .ok (.invokevirtual 79, 3) := by decide +kernel
theorem dX0_endUnusedLeases_30 : decode cX0_endUnusedLeases 30 = .ok (.ifCond .ne 8, 3) := by decide +kernel
theorem dX0_endUnusedLeases_33 : decode cX0_endUnusedLeases 33 = .ok (.aload_n 0, 1) := by decide +kernel
theorem dX0_endUnusedLeases_34 : decode cX0_endUnusedLeases 34 = .ok (.iload_n 1, 1) := by decide +kernel
theorem dX0_endUnusedLeases_35 : decode cX0_endUnusedLeases 35 = .ok (.invokevirtual 58, 3) := by decide +kernel
theorem dX0_endUnusedLeases_38 : decode cX0_endUnusedLeases 38 = .ok (.iinc 1 1, 3) := by decide +kernel
theorem dX0_endUnusedLeases_41 : decode cX0_endUnusedLeases 41 = .ok (.goto (-39), 3) := by decide +kernel
theorem dX0_endUnusedLeases_44 : decode cX0_endUnusedLeases 44 = .ok (.return_, 1) := by decide +kernel
theorem dX1_init_0 : decode cX1_init 0 = .ok (.aload_n 0, 1) := by decide +kernel
theorem dX1_init_1 : decode cX1_init 1 = .ok (.invokespecial 3, 3) := by decide +kernel
theorem dX1_init_4 : decode cX1_init 4 = .ok (.aload_n 0, 1) := by decide +kernel
theorem dX1_init_5 : decode cX1_init 5 = .ok (.bipush 120, 2) := by decide +kernel
theorem dX1_init_7 : decode cX1_init 7 = .ok (.newarray .int, 2) := by decide +kernel
theorem dX1_init_9 : decode cX1_init 9 = .ok (.putfield 9, 3) := by decide +kernel
theorem dX1_init_12 : decode cX1_init 12 = .ok (.return_, 1) := by decide +kernel
theorem dX1_isFull_0 : decode cX1_isFull 0 = .ok (.aload_n 0, 1) := by decide +kernel
theorem dX1_isFull_1 : decode cX1_isFull 1 = .ok (.getfield 15, 3) := by decide +kernel
theorem dX1_isFull_4 : decode cX1_isFull 4 = .ok (.bipush 120, 2) := by decide +kernel
theorem dX1_isFull_6 : decode cX1_isFull 6 = .ok (.if_icmp .lt 7, 3) := by decide +kernel
theorem dX1_isFull_9 : decode cX1_isFull 9 = .ok (.iconst 1, 1) := by decide +kernel
theorem dX1_isFull_10 : decode cX1_isFull 10 = .ok (.goto 4, 3) := by decide +kernel
theorem dX1_isFull_13 : decode cX1_isFull 13 = .ok (.iconst 0, 1) := by decide +kernel
theorem dX1_isFull_14 : decode cX1_isFull 14 = .ok (.ireturn, 1) := by decide +kernel
theorem dX1_put_0 : decode cX1_put 0 = .ok (.aload_n 0, 1) := by decide +kernel
theorem dX1_put_1 : decode cX1_put 1 = .ok (.getfield 15, 3) := by decide +kernel
theorem dX1_put_4 : decode cX1_put 4 = .ok (.bipush 120, 2) := by decide +kernel
theorem dX1_put_6 : decode cX1_put 6 = .ok (.if_icmp .ge 23, 3) := by decide +kernel
theorem dX1_put_9 : decode cX1_put 9 = .ok (.aload_n 0, 1) := by decide +kernel
theorem dX1_put_10 : decode cX1_put 10 = .ok (.getfield 9, 3) := by decide +kernel
theorem dX1_put_13 : decode cX1_put 13 = .ok (.aload_n 0, 1) := by decide +kernel
theorem dX1_put_14 : decode cX1_put 14 = .ok (.getfield 15, 3) := by decide +kernel
theorem dX1_put_17 : decode cX1_put 17 = .ok (.iload_n 1, 1) := by decide +kernel
theorem dX1_put_18 : decode cX1_put 18 = .ok (.iastore, 1) := by decide +kernel
theorem dX1_put_19 : decode cX1_put 19 = .ok (.aload_n 0, 1) := by decide +kernel
theorem dX1_put_20 : decode cX1_put 20 = .ok (.dup, 1) := by decide +kernel
theorem dX1_put_21 : decode cX1_put 21 = .ok (.getfield 15, 3) := by decide +kernel
theorem dX1_put_24 : decode cX1_put 24 = .ok (.iconst 1, 1) := by decide +kernel
theorem dX1_put_25 : decode cX1_put 25 = .ok (.iadd, 1) := by decide +kernel
theorem dX1_put_26 : decode cX1_put 26 = .ok (.putfield 15, 3) := by decide +kernel
theorem dX1_put_29 : decode cX1_put 29 = .ok (.aload_n 0, 1) := by decide +kernel
theorem dX1_put_30 : decode cX1_put 30 = .ok (.getfield 15, 3) := by decide +kernel
theorem dX1_put_33 : decode cX1_put 33 = .ok (.ireturn, 1) := by decide +kernel
theorem dX1_wipe_0 : decode cX1_wipe 0 = .ok (.aload_n 0, 1) := by decide +kernel
theorem dX1_wipe_1 : decode cX1_wipe 1 = .ok (.getfield 15, 3) := by decide +kernel
theorem dX1_wipe_4 : decode cX1_wipe 4 = .ok (.istore_n 1, 1) := by decide +kernel
theorem dX1_wipe_5 : decode cX1_wipe 5 = .ok (.aload_n 0, 1) := by decide +kernel
theorem dX1_wipe_6 : decode cX1_wipe 6 = .ok (.iconst 0, 1) := by decide +kernel
theorem dX1_wipe_7 : decode cX1_wipe 7 = .ok (.putfield 15, 3) := by decide +kernel
theorem dX1_wipe_10 : decode cX1_wipe 10 = .ok (.iload_n 1, 1) := by decide +kernel
theorem dX1_wipe_11 : decode cX1_wipe 11 = .ok (.ireturn, 1) := by decide +kernel
theorem dX1_rewind_0 : decode cX1_rewind 0 = .ok (.aload_n 0, 1) := by decide +kernel
theorem dX1_rewind_1 : decode cX1_rewind 1 = .ok (.iconst 0, 1) := by decide +kernel
theorem dX1_rewind_2 : decode cX1_rewind 2 = .ok (.putfield 19, 3) := by decide +kernel
theorem dX1_rewind_5 : decode cX1_rewind 5 = .ok (.return_, 1) := by decide +kernel
theorem dX1_firstError_0 : decode cX1_firstError 0 = .ok (.aload_n 0, 1) := by decide +kernel
theorem dX1_firstError_1 : decode cX1_firstError 1 = .ok (.invokevirtual 22, 3) := by decide +kernel
theorem dX1_firstError_4 : decode cX1_firstError 4 = .ok (.iconst 0, 1) := by decide +kernel
theorem dX1_firstError_5 : decode cX1_firstError 5 = .ok (.istore_n 1, 1) := by decide +kernel
theorem dX1_firstError_6 : decode cX1_firstError 6 = .ok (.iload_n 1, 1) := by decide +kernel
theorem dX1_firstError_7 : decode cX1_firstError 7 = .ok (.bipush 120, 2) := by decide +kernel
theorem dX1_firstError_9 : decode cX1_firstError 9 = .ok (.if_icmp .ge 48, 3) := by decide +kernel
theorem dX1_firstError_12 : decode cX1_firstError 12 = .ok (.aload_n 0, 1) := by decide +kernel
theorem dX1_firstError_13 : decode cX1_firstError 13 = .ok (.invokevirtual 25, 3) := by decide +kernel
theorem dX1_firstError_16 : decode cX1_firstError 16 = .ok (.ifCond .ne 8, 3) := by decide +kernel
theorem dX1_firstError_19 : decode cX1_firstError 19 = .ok (.aload_n 0, 1) := by decide +kernel
theorem dX1_firstError_20 : decode cX1_firstError 20 = .ok (.getfield 19, 3) := by decide +kernel
theorem dX1_firstError_23 : decode cX1_firstError 23 = .ok (.ireturn, 1) := by decide +kernel
theorem dX1_firstError_24 : decode cX1_firstError 24 = .ok (.aload_n 0, 1) := by decide +kernel
theorem dX1_firstError_25 : decode cX1_firstError 25 = .ok (.getfield 19, 3) := by decide +kernel
theorem dX1_firstError_28 : decode cX1_firstError 28 = .ok (.aload_n 0, 1) := by decide +kernel
theorem dX1_firstError_29 : decode cX1_firstError 29 = .ok (.getfield 15, 3) := by decide +kernel
theorem dX1_firstError_32 : decode cX1_firstError 32 = .ok (.if_icmp .lt 5, 3) := by decide +kernel
theorem dX1_firstError_35 : decode cX1_firstError 35 = .ok (.iconst (-1), 1) := by decide +kernel
theorem dX1_firstError_36 : decode cX1_firstError 36 = .ok (.ireturn, 1) := by decide +kernel
theorem dX1_firstError_37 : decode cX1_firstError 37 = .ok (.aload_n 0, 1) := by decide +kernel
theorem dX1_firstError_38 : decode cX1_firstError 38 = .ok (.bipush 59, 2) := by decide +kernel
theorem dX1_firstError_40 : decode cX1_firstError 40 = .ok (.invokevirtual 29, 3) := by decide +kernel
theorem dX1_firstError_43 : decode cX1_firstError 43 = .ok (.ifCond .ne 8, 3) := by decide +kernel
theorem dX1_firstError_46 : decode cX1_firstError 46 = .ok (.aload_n 0, 1) := by decide +kernel
theorem dX1_firstError_47 : decode cX1_firstError 47 = .ok (.getfield 19, 3) := by decide +kernel
theorem dX1_firstError_50 : decode cX1_firstError 50 = .ok (.ireturn, 1) := by decide +kernel
theorem dX1_firstError_51 : decode cX1_firstError 51 = .ok (.iinc 1 1, 3) := by decide +kernel
theorem dX1_firstError_54 : decode cX1_firstError 54 = .ok (.goto (-48), 3) := by decide +kernel
theorem dX1_firstError_57 : decode cX1_firstError 57 = .ok (.aload_n 0, 1) := by decide +kernel
theorem dX1_firstError_58 : decode cX1_firstError 58 = .ok (.getfield 19, 3) := by decide +kernel
theorem dX1_firstError_61 : decode cX1_firstError 61 = .ok (.ireturn, 1) := by decide +kernel
theorem dX1_readCommand_0 : decode cX1_readCommand 0 = .ok (.aload_n 0, 1) := by decide +kernel
theorem dX1_readCommand_1 : decode cX1_readCommand 1 = .ok (.aload_n 0, 1) := by decide +kernel
theorem dX1_readCommand_2 : decode cX1_readCommand 2 = .ok (.invokevirtual 33, 3) := by decide +kernel
theorem dX1_readCommand_5 : decode cX1_readCommand 5 = .ok (.invokestatic 37, 3) := by decide +kernel
theorem dX1_readCommand_8 : decode cX1_readCommand 8 = .ok (.putfield 41, 3) := by decide +kernel
theorem dX1_readCommand_11 : decode cX1_readCommand 11 = .ok (.aload_n 0, 1) := by decide +kernel
theorem dX1_readCommand_12 : decode cX1_readCommand 12 = .ok (.getfield 41, 3) := by decide +kernel
theorem dX1_readCommand_15 : decode cX1_readCommand 15 = .ok (.ifnull 17, 3) := by decide +kernel
theorem dX1_readCommand_18 : decode cX1_readCommand 18 = .ok (.aload_n 0, 1) := by decide +kernel
theorem dX1_readCommand_19 : decode cX1_readCommand 19 = .ok (.aload_n 0, 1) := by decide +kernel
theorem dX1_readCommand_20 : decode cX1_readCommand 20 = .ok (.getfield 41, 3) := by decide +kernel
theorem dX1_readCommand_23 : decode cX1_readCommand 23 = .ok (.getfield 45, 3) := by decide +kernel
theorem dX1_readCommand_26 : decode cX1_readCommand 26 = .ok (.invokevirtual 51, 3) := by decide +kernel
theorem dX1_readCommand_29 : decode cX1_readCommand 29 = .ok (.ifCond .ne 5, 3) := by decide +kernel
theorem dX1_readCommand_32 : decode cX1_readCommand 32 = .ok (.iconst 0, 1) := by decide +kernel
theorem dX1_readCommand_33 : decode cX1_readCommand 33 = .ok (.ireturn, 1) := by decide +kernel
theorem dX1_readCommand_34 : decode cX1_readCommand 34 = .ok (.aload_n 0, 1) := by decide +kernel
theorem dX1_readCommand_35 : decode cX1_readCommand 35 = .ok (.aload_n 0, 1) := by decide +kernel
theorem dX1_readCommand_36 : decode cX1_readCommand 36 = .ok (.aload_n 0, 1) := by decide +kernel
theorem dX1_readCommand_37 : decode cX1_readCommand 37 = .ok (.getfield 41, 3) := by decide +kernel
theorem dX1_readCommand_40 : decode cX1_readCommand 40 = .ok (.getfield 55, 3) := by decide +kernel
theorem dX1_readCommand_43 : decode cX1_readCommand 43 = .ok (.invokevirtual 58, 3) := by decide +kernel
theorem dX1_readCommand_46 : decode cX1_readCommand 46 = .ok (.putfield 62, 3) := by decide +kernel
theorem dX1_readCommand_49 : decode cX1_readCommand 49 = .ok (.aload_n 0, 1) := by decide +kernel
theorem dX1_readCommand_50 : decode cX1_readCommand 50 = .ok (.getfield 62, 3) := by decide +kernel
theorem dX1_readCommand_53 : decode cX1_readCommand 53 = .ok (.iconst (-1), 1) := by decide +kernel
theorem dX1_readCommand_54 : decode cX1_readCommand 54 = .ok (.if_icmp .ne 5, 3) := by decide +kernel
theorem dX1_readCommand_57 : decode cX1_readCommand 57 = .ok (.iconst 0, 1) := by decide +kernel
theorem dX1_readCommand_58 : decode cX1_readCommand 58 = .ok (.ireturn, 1) := by decide +kernel
theorem dX1_readCommand_59 : decode cX1_readCommand 59 = .ok (.aload_n 0, 1) := by decide +kernel
theorem dX1_readCommand_60 : decode cX1_readCommand 60 = .ok (.iconst (-1), 1) := by decide +kernel
theorem dX1_readCommand_61 : decode cX1_readCommand 61 = .ok (.putfield 65, 3) := by decide +kernel
theorem dX1_readCommand_64 : decode cX1_readCommand 64 = .ok (.aload_n 0, 1) := by decide +kernel
theorem dX1_readCommand_65 : decode cX1_readCommand 65 = .ok (.getfield 41, 3) := by decide +kernel
theorem dX1_readCommand_68 : decode cX1_readCommand 68 = .ok (.getfield 68, 3) := by decide +kernel
theorem dX1_readCommand_71 : decode cX1_readCommand 71 = .ok (.iconst (-1), 1) := by decide +kernel
theorem dX1_readCommand_72 : decode cX1_readCommand 72 = .ok (.if_icmp .eq 32, 3) := by decide +kernel
theorem dX1_readCommand_75 : decode cX1_readCommand 75 = .ok (.aload_n 0, 1) := by decide +kernel
theorem dX1_readCommand_76 : decode cX1_readCommand 76 = .ok (.aload_n 0, 1) := by decide +kernel
theorem dX1_readCommand_77 : decode cX1_readCommand 77 = .ok (.aload_n 0, 1) := by decide +kernel
theorem dX1_readCommand_78 : decode cX1_readCommand 78 = .ok (.getfield 41, 3) := by decide +kernel
theorem dX1_readCommand_81 : decode cX1_readCommand 81 = .ok (.getfield 68, 3) := by decide +kernel
theorem dX1_readCommand_84 : decode cX1_readCommand 84 = .ok (.invokevirtual 58, 3) := by decide +kernel
theorem dX1_readCommand_87 : decode cX1_readCommand 87 = .ok (.putfield 65, 3) := by decide +kernel
theorem dX1_readCommand_90 : decode cX1_readCommand 90 = .ok (.aload_n 0, 1) := by decide +kernel
theorem dX1_readCommand_91 : decode cX1_readCommand 91 = .ok (.getfield 65, 3) := by decide +kernel
theorem dX1_readCommand_94 : decode cX1_readCommand 94 = .ok (.iconst (-1), 1) := by decide +kernel
theorem dX1_readCommand_95 : decode cX1_readCommand 95 = .ok (.if_icmp .eq 7, 3) := by decide +kernel
theorem dX1_readCommand_98 : decode cX1_readCommand 98 = .ok (.iconst 1, 1) := by decide +kernel
theorem dX1_readCommand_99 : decode cX1_readCommand 99 = .ok (.goto 4, 3) := by decide +kernel
theorem dX1_readCommand_102 : decode cX1_readCommand 102 = .ok (.iconst 0, 1) := by decide +kernel
theorem dX1_readCommand_103 : decode cX1_readCommand 103 = .ok (.ireturn, 1) := by decide +kernel
theorem dX1_readCommand_104 : decode cX1_readCommand 104 = .ok (.iconst 1, 1) := by decide +kernel
theorem dX1_readCommand_105 : decode cX1_readCommand 105 = .ok (.ireturn, 1) := by decide +kernel
theorem dX1_wordFrom_0 : decode cX1_wordFrom 0 = .ok (.iconst 0, 1) := by decide +kernel
theorem dX1_wordFrom_1 : decode cX1_wordFrom 1 = .ok (.istore_n 1, 1) := by decide +kernel
theorem dX1_wordFrom_2 : decode cX1_wordFrom 2 = .ok (.iload_n 1, 1) := by decide +kernel
theorem dX1_wordFrom_3 : decode cX1_wordFrom 3 = .ok (.getstatic 71, 3) := by decide +kernel
theorem dX1_wordFrom_6 : decode cX1_wordFrom 6 = .ok (.arraylength, 1) := by decide +kernel
theorem dX1_wordFrom_7 : decode cX1_wordFrom 7 = .ok (.if_icmp .ge 31, 3) := by decide +kernel
theorem dX1_wordFrom_10 : decode cX1_wordFrom 10 = .ok (.getstatic 71, 3) := by decide +kernel
theorem dX1_wordFrom_13 : decode cX1_wordFrom 13 = .ok (.iload_n 1, 1) := by decide +kernel
theorem dX1_wordFrom_14 : decode cX1_wordFrom 14 = .ok (.aaload, 1) := by decide +kernel
theorem dX1_wordFrom_15 : decode cX1_wordFrom 15 = .ok (.getfield 45, 3) := by decide +kernel
theorem dX1_wordFrom_18 : decode cX1_wordFrom 18 = .ok (.iconst 0, 1) := by decide +kernel
theorem dX1_wordFrom_19 : decode cX1_wordFrom 19 = .ok (.invokevirtual 75, 3) := by decide +kernel
theorem dX1_wordFrom_22 : decode cX1_wordFrom 22 = .ok (.iload_n 0, 1) := by decide +kernel
theorem dX1_wordFrom_23 : decode cX1_wordFrom 23 = .ok (.if_icmp .ne 9, 3) := by decide +kernel
theorem dX1_wordFrom_26 : decode cX1_wordFrom 26 = .ok (.getstatic 71, 3) := by decide +kernel
theorem dX1_wordFrom_29 : decode cX1_wordFrom 29 = .ok (.iload_n 1, 1) := by decide +kernel
theorem dX1_wordFrom_30 : decode cX1_wordFrom 30 = .ok (.aaload, 1) := by decide +kernel
theorem dX1_wordFrom_31 : decode cX1_wordFrom 31 = .ok (.areturn, 1) := by decide +kernel
theorem dX1_wordFrom_32 : decode cX1_wordFrom 32 = .ok (.iinc 1 1, 3) := by decide +kernel
theorem dX1_wordFrom_35 : decode cX1_wordFrom 35 = .ok (.goto (-33), 3) := by decide +kernel
theorem dX1_wordFrom_38 : decode cX1_wordFrom 38 = .ok (.aconst_null, 1) := by decide +kernel
theorem dX1_wordFrom_39 : decode cX1_wordFrom 39 = .ok (.areturn, 1) := by decide +kernel
theorem dX1_readWord_0 : decode cX1_readWord 0 = .ok (.iconst 0, 1) := by decide +kernel
theorem dX1_readWord_1 : decode cX1_readWord 1 = .ok (.istore_n 2, 1) := by decide +kernel
theorem dX1_readWord_2 : decode cX1_readWord 2 = .ok (.iload_n 2, 1) := by decide +kernel
theorem dX1_readWord_3 : decode cX1_readWord 3 = .ok (.aload_n 1, 1) := by decide +kernel
theorem dX1_readWord_4 : decode cX1_readWord 4 = .ok (.invokevirtual 81, 3) := by decide +kernel
theorem dX1_readWord_7 : decode cX1_readWord 7 = .ok (.if_icmp .ge 23, 3) := by decide +kernel
theorem dX1_readWord_10 : decode cX1_readWord 10 = .ok (.aload_n 0, 1) := by decide +kernel
theorem dX1_readWord_11 : decode cX1_readWord 11 = .ok (.aload_n 1, 1) := by decide +kernel
theorem dX1_readWord_12 : decode cX1_readWord 12 = .ok (.iload_n 2, 1) := by decide +kernel
theorem dX1_readWord_13 : decode cX1_readWord 13 = .ok (.invokevirtual 75, 3) := by decide +kernel
theorem dX1_readWord_16 : decode cX1_readWord 16 = .ok (.invokevirtual 29, 3) := by decide +kernel
theorem dX1_readWord_19 : decode cX1_readWord 19 = .ok (.ifCond .ne 5, 3) := by decide +kernel
theorem dX1_readWord_22 : decode cX1_readWord 22 = .ok (.iconst 0, 1) := by decide +kernel
theorem dX1_readWord_23 : decode cX1_readWord 23 = .ok (.ireturn, 1) := by decide +kernel
theorem dX1_readWord_24 : decode cX1_readWord 24 = .ok (.iinc 2 1, 3) := by decide +kernel
theorem dX1_readWord_27 : decode cX1_readWord 27 = .ok (.goto (-25), 3) := by decide +kernel
theorem dX1_readWord_30 : decode cX1_readWord 30 = .ok (.iconst 1, 1) := by decide +kernel
theorem dX1_readWord_31 : decode cX1_readWord 31 = .ok (.ireturn, 1) := by decide +kernel
theorem dX1_readNumber_0 : decode cX1_readNumber 0 = .ok (.aload_n 0, 1) := by decide +kernel
theorem dX1_readNumber_1 : decode cX1_readNumber 1 = .ok (.bipush 44, 2) := by decide +kernel
theorem dX1_readNumber_3 : decode cX1_readNumber 3 = .ok (.invokevirtual 29, 3) := by decide +kernel
theorem dX1_readNumber_6 : decode cX1_readNumber 6 = .ok (.ifCond .eq 15, 3) := by decide +kernel
theorem dX1_readNumber_9 : decode cX1_readNumber 9 = .ok (.iload_n 1, 1) := by decide +kernel
theorem dX1_readNumber_10 : decode cX1_readNumber 10 = .ok (.ifCond .lt 11, 3) := by decide +kernel
theorem dX1_readNumber_13 : decode cX1_readNumber 13 = .ok (.iload_n 1, 1) := by decide +kernel
theorem dX1_readNumber_14 : decode cX1_readNumber 14 = .ok (.getstatic 83, 3) := by decide +kernel
theorem dX1_readNumber_17 : decode cX1_readNumber 17 = .ok (.arraylength, 1) := by decide +kernel
theorem dX1_readNumber_18 : decode cX1_readNumber 18 = .ok (.if_icmp .lt 5, 3) := by decide +kernel
theorem dX1_readNumber_21 : decode cX1_readNumber 21 = .ok (.iconst (-1), 1) := by decide +kernel
theorem dX1_readNumber_22 : decode cX1_readNumber 22 = .ok (.ireturn, 1) := by decide +kernel
theorem dX1_readNumber_23 : decode cX1_readNumber 23 = .ok (.iconst (-1), 1) := by decide +kernel
theorem dX1_readNumber_24 : decode cX1_readNumber 24 = .ok (.istore_n 2, 1) := by decide +kernel
theorem dX1_readNumber_25 : decode cX1_readNumber 25 = .ok (.iconst 0, 1) := by decide +kernel
theorem dX1_readNumber_26 : decode cX1_readNumber 26 = .ok (.istore_n 3, 1) := by decide +kernel
theorem dX1_readNumber_27 : decode cX1_readNumber 27 = .ok (.iload_n 3, 1) := by decide +kernel
theorem dX1_readNumber_28 : decode cX1_readNumber 28 = .ok (.bipush 120, 2) := by decide +kernel
theorem dX1_readNumber_30 : decode cX1_readNumber 30 = .ok (.if_icmp .ge 92, 3) := by decide +kernel
theorem dX1_readNumber_33 : decode cX1_readNumber 33 = .ok (.aload_n 0, 1) := by decide +kernel
theorem dX1_readNumber_34 : decode cX1_readNumber 34 = .ok (.invokevirtual 33, 3) := by decide +kernel
theorem dX1_readNumber_37 : decode cX1_readNumber 37 = .ok (.bipush 48, 2) := by decide +kernel
theorem dX1_readNumber_39 : decode cX1_readNumber 39 = .ok (.isub, 1) := by decide +kernel
theorem dX1_readNumber_40 : decode cX1_readNumber 40 = .ok (.istore 4, 2) := by decide +kernel
theorem dX1_readNumber_42 : decode cX1_readNumber 42 = .ok (.iload 4, 2) := by decide +kernel
theorem dX1_readNumber_44 : decode cX1_readNumber 44 = .ok (.ifCond .lt 78, 3) := by decide +kernel
theorem dX1_readNumber_47 : decode cX1_readNumber 47 = .ok (.iload 4, 2) := by decide +kernel
theorem dX1_readNumber_49 : decode cX1_readNumber 49 = .ok (.bipush 9, 2) := by decide +kernel
theorem dX1_readNumber_51 : decode cX1_readNumber 51 = .ok (.if_icmp .le 6, 3) := by decide +kernel
theorem dX1_readNumber_54 : decode cX1_readNumber 54 = .ok (.goto 68, 3) := by decide +kernel
theorem dX1_readNumber_57 : decode cX1_readNumber 57 = .ok (.iload_n 2, 1) := by decide +kernel
theorem dX1_readNumber_58 : decode cX1_readNumber 58 = .ok (.iconst (-1), 1) := by decide +kernel
theorem dX1_readNumber_59 : decode cX1_readNumber 59 = .ok (.if_icmp .ne 8, 3) := by decide +kernel
theorem dX1_readNumber_62 : decode cX1_readNumber 62 = .ok (.iload 4, 2) := by decide +kernel
theorem dX1_readNumber_64 : decode cX1_readNumber 64 = .ok (.goto 10, 3) := by decide +kernel
theorem dX1_readNumber_67 : decode cX1_readNumber 67 = .ok (.iload_n 2, 1) := by decide +kernel
theorem dX1_readNumber_68 : decode cX1_readNumber 68 = .ok (.bipush 10, 2) := by decide +kernel
theorem dX1_readNumber_70 : decode cX1_readNumber 70 = .ok (.imul, 1) := by decide +kernel
theorem dX1_readNumber_71 : decode cX1_readNumber 71 = .ok (.iload 4, 2) := by decide +kernel
theorem dX1_readNumber_73 : decode cX1_readNumber 73 = .ok (.iadd, 1) := by decide +kernel
theorem dX1_readNumber_74 : decode cX1_readNumber 74 = .ok (.istore 5, 2) := by decide +kernel
theorem dX1_readNumber_76 : decode cX1_readNumber 76 = .ok (.iload_n 2, 1) := by decide +kernel
theorem dX1_readNumber_77 : decode cX1_readNumber 77 = .ok (.ifCond .eq 45, 3) := by decide +kernel
theorem dX1_readNumber_80 : decode cX1_readNumber 80 = .ok (.iload 5, 2) := by decide +kernel
theorem dX1_readNumber_82 : decode cX1_readNumber 82 = .ok (.getstatic 83, 3) := by decide +kernel
theorem dX1_readNumber_85 : decode cX1_readNumber 85 = .ok (.iload_n 1, 1) := by decide +kernel
theorem dX1_readNumber_86 : decode cX1_readNumber 86 = .ok (.iaload, 1) := by decide +kernel
theorem dX1_readNumber_87 : decode cX1_readNumber 87 = .ok (.if_icmp .lt 35, 3) := by decide +kernel
theorem dX1_readNumber_90 : decode cX1_readNumber 90 = .ok (.iload 5, 2) := by decide +kernel
theorem dX1_readNumber_92 : decode cX1_readNumber 92 = .ok (.getstatic 86, 3) := by decide +kernel
theorem dX1_readNumber_95 : decode cX1_readNumber 95 = .ok (.iload_n 1, 1) := by decide +kernel
theorem dX1_readNumber_96 : decode cX1_readNumber 96 = .ok (.iaload, 1) := by decide +kernel
theorem dX1_readNumber_97 : decode cX1_readNumber 97 = .ok (.if_icmp .le 6, 3) := by decide +kernel
theorem dX1_readNumber_100 : decode cX1_readNumber 100 = .ok (.goto 22, 3) := by decide +kernel
theorem dX1_readNumber_103 : decode cX1_readNumber 103 = .ok (.iload 5, 2) := by decide +kernel
theorem dX1_readNumber_105 : decode cX1_readNumber 105 = .ok (.istore_n 2, 1) := by decide +kernel
theorem dX1_readNumber_106 : decode cX1_readNumber 106 = .ok (.aload_n 0, 1) := by decide +kernel
theorem dX1_readNumber_107 : decode cX1_readNumber 107 = .ok (.dup, 1) := by decide +kernel
theorem dX1_readNumber_108 : decode cX1_readNumber 108 = .ok (.getfield 19, 3) := by decide +kernel
theorem dX1_readNumber_111 : decode cX1_readNumber 111 = .ok (.iconst 1, 1) := by decide +kernel
theorem dX1_readNumber_112 : decode cX1_readNumber 112 = .ok (.iadd, 1) := by decide +kernel
theorem dX1_readNumber_113 : decode cX1_readNumber 113 = .ok (.putfield 19, 3) := by decide +kernel
theorem dX1_readNumber_116 : decode cX1_readNumber 116 = .ok (.iinc 3 1, 3) := by decide +kernel
theorem dX1_readNumber_119 : decode cX1_readNumber 119 = .ok (.goto (-92), 3) := by decide +kernel
theorem dX1_readNumber_122 : decode cX1_readNumber 122 = .ok (.iload_n 2, 1) := by decide +kernel
theorem dX1_readNumber_123 : decode cX1_readNumber 123 = .ok (.ireturn, 1) := by decide +kernel
theorem dX1_readSign_0 : decode cX1_readSign 0 = .ok (.aload_n 0, 1) := by decide +kernel
theorem dX1_readSign_1 : decode cX1_readSign 1 = .ok (.invokevirtual 33, 3) := by decide +kernel
theorem dX1_readSign_4 : decode cX1_readSign 4 = .ok (.iload_n 1, 1) := by decide +kernel
theorem dX1_readSign_5 : decode cX1_readSign 5 = .ok (.if_icmp .eq 5, 3) := by decide +kernel
theorem dX1_readSign_8 : decode cX1_readSign 8 = .ok (.iconst 0, 1) := by decide +kernel
theorem dX1_readSign_9 : decode cX1_readSign 9 = .ok (.ireturn, 1) := by decide +kernel
theorem dX1_readSign_10 : decode cX1_readSign 10 = .ok (.aload_n 0, 1) := by decide +kernel
theorem dX1_readSign_11 : decode cX1_readSign 11 = .ok (.dup, 1) := by decide +kernel
theorem dX1_readSign_12 : decode cX1_readSign 12 = .ok (.getfield 19, 3) := by decide +kernel
theorem dX1_readSign_15 : decode cX1_readSign 15 = .ok (.iconst 1, 1) := by decide +kernel
theorem dX1_readSign_16 : decode cX1_readSign 16 = .ok (.iadd, 1) := by decide +kernel
theorem dX1_readSign_17 : decode cX1_readSign 17 = .ok (.putfield 19, 3) := by decide +kernel
theorem dX1_readSign_20 : decode cX1_readSign 20 = .ok (.iconst 1, 1) := by decide +kernel
theorem dX1_readSign_21 : decode cX1_readSign 21 = .ok (.ireturn, 1) := by decide +kernel
theorem dX1_current_0 : decode cX1_current 0 = .ok (.aload_n 0, 1) := by decide +kernel
theorem dX1_current_1 : decode cX1_current 1 = .ok (.getfield 19, 3) := by decide +kernel
theorem dX1_current_4 : decode cX1_current 4 = .ok (.ifCond .lt 35, 3) := by decide +kernel
theorem dX1_current_7 : decode cX1_current 7 = .ok (.aload_n 0, 1) := by decide +kernel
theorem dX1_current_8 : decode cX1_current 8 = .ok (.getfield 19, 3) := by decide +kernel
theorem dX1_current_11 : decode cX1_current 11 = .ok (.aload_n 0, 1) := by decide +kernel
theorem dX1_current_12 : decode cX1_current 12 = .ok (.getfield 15, 3) := by decide +kernel
theorem dX1_current_15 : decode cX1_current 15 = .ok (.if_icmp .ge 24, 3) := by decide +kernel
theorem dX1_current_18 : decode cX1_current 18 = .ok (.aload_n 0, 1) := by decide +kernel
theorem dX1_current_19 : decode cX1_current 19 = .ok (.getfield 19, 3) := by decide +kernel
theorem dX1_current_22 : decode cX1_current 22 = .ok (.bipush 120, 2) := by decide +kernel
theorem dX1_current_24 : decode cX1_current 24 = .ok (.if_icmp .ge 15, 3) := by decide +kernel
theorem dX1_current_27 : decode cX1_current 27 = .ok (.aload_n 0, 1) := by decide +kernel
theorem dX1_current_28 : decode cX1_current 28 = .ok (.getfield 9, 3) := by decide +kernel
theorem dX1_current_31 : decode cX1_current 31 = .ok (.aload_n 0, 1) := by decide +kernel
theorem dX1_current_32 : decode cX1_current 32 = .ok (.getfield 19, 3) := by decide +kernel
theorem dX1_current_35 : decode cX1_current 35 = .ok (.iaload, 1) := by decide +kernel
theorem dX1_current_36 : decode cX1_current 36 = .ok (.goto 4, 3) := by decide +kernel
theorem dX1_current_39 : decode cX1_current 39 = .ok (.iconst (-1), 1) := by decide +kernel
theorem dX1_current_40 : decode cX1_current 40 = .ok (.ireturn, 1) := by decide +kernel
theorem dX2_init_0 : decode cX2_init 0 = .ok (.aload_n 0, 1) := by decide +kernel
theorem dX2_init_1 : decode cX2_init 1 = .ok (.invokespecial 3, 3) := by decide +kernel
theorem dX2_init_4 : decode cX2_init 4 = .ok (.aload_n 0, 1) := by decide +kernel
theorem dX2_init_5 : decode cX2_init 5 = .ok (.bipush 14, 2) := by decide +kernel
theorem dX2_init_7 : decode cX2_init 7 = .ok (.anewarray 9, 3) := by decide +kernel
theorem dX2_init_10 : decode cX2_init 10 = .ok (.putfield 11, 3) := by decide +kernel
theorem dX2_init_13 : decode cX2_init 13 = .ok (.iconst 0, 1) := by decide +kernel
theorem dX2_init_14 : decode cX2_init 14 = .ok (.istore_n 1, 1) := by decide +kernel
theorem dX2_init_15 : decode cX2_init 15 = .ok (.iload_n 1, 1) := by decide +kernel
theorem dX2_init_16 : decode cX2_init 16 = .ok (.bipush 14, 2) := by decide +kernel
theorem dX2_init_18 : decode cX2_init 18 = .ok (.if_icmp .ge 22, 3) := by decide +kernel
theorem dX2_init_21 : decode cX2_init 21 = .ok (.aload_n 0, 1) := by decide +kernel
theorem dX2_init_22 : decode cX2_init 22 = .ok (.getfield 11, 3) := by decide +kernel
theorem dX2_init_25 : decode cX2_init 25 = .ok (.iload_n 1, 1) := by decide +kernel
theorem dX2_init_26 : decode cX2_init 26 = .ok (.new 9, 3) := by decide +kernel
theorem dX2_init_29 : decode cX2_init 29 = .ok (.dup, 1) := by decide +kernel
theorem dX2_init_30 : decode cX2_init 30 = .ok (.invokespecial 17, 3) := by decide +kernel
theorem dX2_init_33 : decode cX2_init 33 = .ok (.aastore, 1) := by decide +kernel
theorem dX2_init_34 : decode cX2_init 34 = .ok (.iinc 1 1, 3) := by decide +kernel
theorem dX2_init_37 : decode cX2_init 37 = .ok (.goto (-22), 3) := by decide +kernel
theorem dX2_init_40 : decode cX2_init 40 = .ok (.return_, 1) := by decide +kernel
theorem dX2_remember_0 : decode cX2_remember 0 = .ok (.aload_n 0, 1) := by decide +kernel
theorem dX2_remember_1 : decode cX2_remember 1 = .ok (.getfield 11, 3) := by decide +kernel
theorem dX2_remember_4 : decode cX2_remember 4 = .ok (.aload_n 0, 1) := by decide +kernel
theorem dX2_remember_5 : decode cX2_remember 5 = .ok (.getfield 18, 3) := by decide +kernel
theorem dX2_remember_8 : decode cX2_remember 8 = .ok (.aload_n 0, 1) := by decide +kernel
theorem dX2_remember_9 : decode cX2_remember 9 = .ok (.getfield 22, 3) := by decide +kernel
theorem dX2_remember_12 : decode cX2_remember 12 = .ok (.iadd, 1) := by decide +kernel
theorem dX2_remember_13 : decode cX2_remember 13 = .ok (.bipush 14, 2) := by decide +kernel
theorem dX2_remember_15 : decode cX2_remember 15 = .ok (.irem, 1) := by decide +kernel
theorem dX2_remember_16 : decode cX2_remember 16 = .ok (.aaload, 1) := by decide +kernel
theorem dX2_remember_17 : decode cX2_remember 17 = .ok (.aload_n 1, 1) := by decide +kernel
theorem dX2_remember_18 : decode cX2_remember 18 = .ok (.invokevirtual 25, 3) := by decide +kernel
theorem dX2_remember_21 : decode cX2_remember 21 = .ok (.aload_n 0, 1) := by decide +kernel
theorem dX2_remember_22 : decode cX2_remember 22 = .ok (.getfield 22, 3) := by decide +kernel
theorem dX2_remember_25 : decode cX2_remember 25 = .ok (.bipush 14, 2) := by decide +kernel
theorem dX2_remember_27 : decode cX2_remember 27 = .ok (.if_icmp .ge 16, 3) := by decide +kernel
theorem dX2_remember_30 : decode cX2_remember 30 = .ok (.aload_n 0, 1) := by decide +kernel
theorem dX2_remember_31 : decode cX2_remember 31 = .ok (.dup, 1) := by decide +kernel
theorem dX2_remember_32 : decode cX2_remember 32 = .ok (.getfield 22, 3) := by decide +kernel
theorem dX2_remember_35 : decode cX2_remember 35 = .ok (.iconst 1, 1) := by decide +kernel
theorem dX2_remember_36 : decode cX2_remember 36 = .ok (.iadd, 1) := by decide +kernel
theorem dX2_remember_37 : decode cX2_remember 37 = .ok (.putfield 22, 3) := by decide +kernel
theorem dX2_remember_40 : decode cX2_remember 40 = .ok (.goto 16, 3) := by decide +kernel
theorem dX2_remember_43 : decode cX2_remember 43 = .ok (.aload_n 0, 1) := by decide +kernel
theorem dX2_remember_44 : decode cX2_remember 44 = .ok (.aload_n 0, 1) := by decide +kernel
theorem dX2_remember_45 : decode cX2_remember 45 = .ok (.getfield 18, 3) := by decide +kernel
theorem dX2_remember_48 : decode cX2_remember 48 = .ok (.iconst 1, 1) := by decide +kernel
theorem dX2_remember_49 : decode cX2_remember 49 = .ok (.iadd, 1) := by decide +kernel
theorem dX2_remember_50 : decode cX2_remember 50 = .ok (.bipush 14, 2) := by decide +kernel
theorem dX2_remember_52 : decode cX2_remember 52 = .ok (.irem, 1) := by decide +kernel
theorem dX2_remember_53 : decode cX2_remember 53 = .ok (.putfield 18, 3) := by decide +kernel
theorem dX2_remember_56 : decode cX2_remember 56 = .ok (.return_, 1) := by decide +kernel
theorem dX2_takeBack_0 : decode cX2_takeBack 0 = .ok (.aload_n 0, 1) := by decide +kernel
theorem dX2_takeBack_1 : decode cX2_takeBack 1 = .ok (.getfield 22, 3) := by decide +kernel
theorem dX2_takeBack_4 : decode cX2_takeBack 4 = .ok (.ifCond .le 34, 3) := by decide +kernel
theorem dX2_takeBack_7 : decode cX2_takeBack 7 = .ok (.aload_n 0, 1) := by decide +kernel
theorem dX2_takeBack_8 : decode cX2_takeBack 8 = .ok (.dup, 1) := by decide +kernel
theorem dX2_takeBack_9 : decode cX2_takeBack 9 = .ok (.getfield 22, 3) := by decide +kernel
theorem dX2_takeBack_12 : decode cX2_takeBack 12 = .ok (.iconst 1, 1) := by decide +kernel
theorem dX2_takeBack_13 : decode cX2_takeBack 13 = .ok (.isub, 1) := by decide +kernel
theorem dX2_takeBack_14 : decode cX2_takeBack 14 = .ok (.putfield 22, 3) := by decide +kernel
theorem dX2_takeBack_17 : decode cX2_takeBack 17 = .ok (.aload_n 1, 1) := by decide +kernel
theorem dX2_takeBack_18 : decode cX2_takeBack 18 = .ok (.aload_n 0, 1) := by decide +kernel
theorem dX2_takeBack_19 : decode cX2_takeBack 19 = .ok (.getfield 11, 3) := by decide +kernel
theorem dX2_takeBack_22 : decode cX2_takeBack 22 = .ok (.aload_n 0, 1) := by decide +kernel
theorem dX2_takeBack_23 : decode cX2_takeBack 23 = .ok (.getfield 18, 3) := by decide +kernel
theorem dX2_takeBack_26 : decode cX2_takeBack 26 = .ok (.aload_n 0, 1) := by decide +kernel
theorem dX2_takeBack_27 : decode cX2_takeBack 27 = .ok (.getfield 22, 3) := by decide +kernel
theorem dX2_takeBack_30 : decode cX2_takeBack 30 = .ok (.iadd, 1) := by decide +kernel
theorem dX2_takeBack_31 : decode cX2_takeBack 31 = .ok (.bipush 14, 2) := by decide +kernel
theorem dX2_takeBack_33 : decode cX2_takeBack 33 = .ok (.irem, 1) := by decide +kernel
theorem dX2_takeBack_34 : decode cX2_takeBack 34 = .ok (.aaload, 1) := by decide +kernel
theorem dX2_takeBack_35 : decode cX2_takeBack 35 = .ok (.invokevirtual 25, 3) := by decide +kernel
theorem dX2_takeBack_38 : decode cX2_takeBack 38 = .ok (.return_, 1) := by decide +kernel
theorem dX2_forgetAll_0 : decode cX2_forgetAll 0 = .ok (.aload_n 0, 1) := by decide +kernel
theorem dX2_forgetAll_1 : decode cX2_forgetAll 1 = .ok (.iconst 0, 1) := by decide +kernel
theorem dX2_forgetAll_2 : decode cX2_forgetAll 2 = .ok (.putfield 18, 3) := by decide +kernel
theorem dX2_forgetAll_5 : decode cX2_forgetAll 5 = .ok (.aload_n 0, 1) := by decide +kernel
theorem dX2_forgetAll_6 : decode cX2_forgetAll 6 = .ok (.iconst 0, 1) := by decide +kernel
theorem dX2_forgetAll_7 : decode cX2_forgetAll 7 = .ok (.putfield 22, 3) := by decide +kernel
theorem dX2_forgetAll_10 : decode cX2_forgetAll 10 = .ok (.return_, 1) := by decide +kernel
theorem dX3_tryAsk_0 : decode cX3_tryAsk 0 = .ok (.aload_n 0, 1) := by decide +kernel
theorem dX3_tryAsk_1 : decode cX3_tryAsk 1 = .ok (.invokevirtual 9, 3) := by decide +kernel
theorem dX3_tryAsk_4 : decode cX3_tryAsk 4 = .ok (.ifCond .ne 5, 3) := by decide +kernel
theorem dX3_tryAsk_7 : decode cX3_tryAsk 7 = .ok (.iconst 0, 1) := by decide +kernel
theorem dX3_tryAsk_8 : decode cX3_tryAsk 8 = .ok (.ireturn, 1) := by decide +kernel
theorem dX3_tryAsk_9 : decode cX3_tryAsk 9 = .ok (.aload_n 0, 1) := by decide +kernel
theorem dX3_tryAsk_10 : decode cX3_tryAsk 10 = .ok (.iload_n 1, 1) := by decide +kernel
theorem dX3_tryAsk_11 : decode cX3_tryAsk 11 = .ok (.invokevirtual 15, 3) := by decide +kernel
theorem dX3_tryAsk_14 : decode cX3_tryAsk 14 = .ok (.pop, 1) := by decide +kernel
theorem dX3_tryAsk_15 : decode cX3_tryAsk 15 = .ok (.iconst 1, 1) := by decide +kernel
theorem dX3_tryAsk_16 : decode cX3_tryAsk 16 = .ok (.ireturn, 1) := by decide +kernel
theorem dX3_tryLet_0 : decode cX3_tryLet 0 = .ok (.iload_n 2, 1) := by decide +kernel
theorem dX3_tryLet_1 : decode cX3_tryLet 1 = .ok (.invokestatic 19, 3) := by decide +kernel
theorem dX3_tryLet_4 : decode cX3_tryLet 4 = .ok (.ifCond .eq 11, 3) := by decide +kernel
theorem dX3_tryLet_7 : decode cX3_tryLet 7 = .ok (.aload_n 0, 1) := by decide +kernel
theorem dX3_tryLet_8 : decode cX3_tryLet 8 = .ok (.iload_n 2, 1) := by decide +kernel
theorem dX3_tryLet_9 : decode cX3_tryLet 9 = .ok (.invokevirtual 23, 3) := by decide +kernel
theorem dX3_tryLet_12 : decode cX3_tryLet 12 = .ok (.ifCond .ne 5, 3) := by decide +kernel
theorem dX3_tryLet_15 : decode cX3_tryLet 15 = .ok (.iconst 0, 1) := by decide +kernel
theorem dX3_tryLet_16 : decode cX3_tryLet 16 = .ok (.ireturn, 1) := by decide +kernel
theorem dX3_tryLet_17 : decode cX3_tryLet 17 = .ok (.aload_n 0, 1) := by decide +kernel
theorem dX3_tryLet_18 : decode cX3_tryLet 18 = .ok (.iload_n 1, 1) := by decide +kernel
theorem dX3_tryLet_19 : decode cX3_tryLet 19 = .ok (.iload_n 2, 1) := by decide +kernel
theorem dX3_tryLet_20 : decode cX3_tryLet 20 = .ok (.invokevirtual 26, 3) := by decide +kernel
theorem dX3_tryLet_23 : decode cX3_tryLet 23 = .ok (.iconst 1, 1) := by decide +kernel
theorem dX3_tryLet_24 : decode cX3_tryLet 24 = .ok (.ireturn, 1) := by decide +kernel
theorem dX3_tryBury_0 : decode cX3_tryBury 0 = .ok (.iload_n 1, 1) := by decide +kernel
theorem dX3_tryBury_1 : decode cX3_tryBury 1 = .ok (.invokestatic 19, 3) := by decide +kernel
theorem dX3_tryBury_4 : decode cX3_tryBury 4 = .ok (.ifCond .eq 11, 3) := by decide +kernel
theorem dX3_tryBury_7 : decode cX3_tryBury 7 = .ok (.aload_n 0, 1) := by decide +kernel
theorem dX3_tryBury_8 : decode cX3_tryBury 8 = .ok (.iload_n 1, 1) := by decide +kernel
theorem dX3_tryBury_9 : decode cX3_tryBury 9 = .ok (.invokevirtual 30, 3) := by decide +kernel
theorem dX3_tryBury_12 : decode cX3_tryBury 12 = .ok (.ifCond .ne 5, 3) := by decide +kernel
theorem dX3_tryBury_15 : decode cX3_tryBury 15 = .ok (.iconst 0, 1) := by decide +kernel
theorem dX3_tryBury_16 : decode cX3_tryBury 16 = .ok (.ireturn, 1) := by decide +kernel
theorem dX3_tryBury_17 : decode cX3_tryBury 17 = .ok (.aload_n 0, 1) := by decide +kernel
theorem dX3_tryBury_18 : decode cX3_tryBury 18 = .ok (.iload_n 1, 1) := by decide +kernel
theorem dX3_tryBury_19 : decode cX3_tryBury 19 = .ok (.invokevirtual 33, 3) := by decide +kernel
theorem dX3_tryBury_22 : decode cX3_tryBury 22 = .ok (.iconst 1, 1) := by decide +kernel
theorem dX3_tryBury_23 : decode cX3_tryBury 23 = .ok (.ireturn, 1) := by decide +kernel
theorem dX3_tryClear_0 : decode cX3_tryClear 0 = .ok (.iload_n 1, 1) := by decide +kernel
theorem dX3_tryClear_1 : decode cX3_tryClear 1 = .ok (.invokestatic 19, 3) := by decide +kernel
theorem dX3_tryClear_4 : decode cX3_tryClear 4 = .ok (.ifCond .eq 11, 3) := by decide +kernel
theorem dX3_tryClear_7 : decode cX3_tryClear 7 = .ok (.aload_n 0, 1) := by decide +kernel
theorem dX3_tryClear_8 : decode cX3_tryClear 8 = .ok (.iload_n 1, 1) := by decide +kernel
theorem dX3_tryClear_9 : decode cX3_tryClear 9 = .ok (.invokevirtual 37, 3) := by decide +kernel
theorem dX3_tryClear_12 : decode cX3_tryClear 12 = .ok (.ifCond .ne 5, 3) := by decide +kernel
theorem dX3_tryClear_15 : decode cX3_tryClear 15 = .ok (.iconst 0, 1) := by decide +kernel
theorem dX3_tryClear_16 : decode cX3_tryClear 16 = .ok (.ireturn, 1) := by decide +kernel
theorem dX3_tryClear_17 : decode cX3_tryClear 17 = .ok (.aload_n 0, 1) := by decide +kernel
theorem dX3_tryClear_18 : decode cX3_tryClear 18 = .ok (.iload_n 1, 1) := by decide +kernel
theorem dX3_tryClear_19 : decode cX3_tryClear 19 = .ok (.invokevirtual 40, 3) := by decide +kernel
theorem dX3_tryClear_22 : decode cX3_tryClear 22 = .ok (.pop, 1) := by decide +kernel
theorem dX3_tryClear_23 : decode cX3_tryClear 23 = .ok (.iconst 1, 1) := by decide +kernel
theorem dX3_tryClear_24 : decode cX3_tryClear 24 = .ok (.ireturn, 1) := by decide +kernel
theorem dX3_tryClaim_0 : decode cX3_tryClaim 0 = .ok (.iload_n 1, 1) := by decide +kernel
theorem dX3_tryClaim_1 : decode cX3_tryClaim 1 = .ok (.invokestatic 19, 3) := by decide +kernel
theorem dX3_tryClaim_4 : decode cX3_tryClaim 4 = .ok (.ifCond .eq 12, 3) := by decide +kernel
theorem dX3_tryClaim_7 : decode cX3_tryClaim 7 = .ok (.aload_n 0, 1) := by decide +kernel
theorem dX3_tryClaim_8 : decode cX3_tryClaim 8 = .ok (.iload_n 1, 1) := by decide +kernel
theorem dX3_tryClaim_9 : decode cX3_tryClaim 9 = .ok (.iload_n 2, 1) := by decide +kernel
theorem dX3_tryClaim_10 : decode cX3_tryClaim 10 = .ok (.invokevirtual 43, 3) := by decide +kernel
theorem dX3_tryClaim_13 : decode cX3_tryClaim 13 = .ok (.ifCond .ne 5, 3) := by decide +kernel
theorem dX3_tryClaim_16 : decode cX3_tryClaim 16 = .ok (.iconst 0, 1) := by decide +kernel
theorem dX3_tryClaim_17 : decode cX3_tryClaim 17 = .ok (.ireturn, 1) := by decide +kernel
theorem dX3_tryClaim_18 : decode cX3_tryClaim 18 = .ok (.aload_n 0, 1) := by decide +kernel
theorem dX3_tryClaim_19 : decode cX3_tryClaim 19 = .ok (.iload_n 1, 1) := by decide +kernel
theorem dX3_tryClaim_20 : decode cX3_tryClaim 20 = .ok (.iload_n 2, 1) := by decide +kernel
theorem dX3_tryClaim_21 : decode cX3_tryClaim 21 = .ok (.invokevirtual 47, 3) := by decide +kernel
theorem dX3_tryClaim_24 : decode cX3_tryClaim 24 = .ok (.iconst 1, 1) := by decide +kernel
theorem dX3_tryClaim_25 : decode cX3_tryClaim 25 = .ok (.ireturn, 1) := by decide +kernel
theorem dX3_trySettle_0 : decode cX3_trySettle 0 = .ok (.iload_n 1, 1) := by decide +kernel
theorem dX3_trySettle_1 : decode cX3_trySettle 1 = .ok (.invokestatic 19, 3) := by decide +kernel
theorem dX3_trySettle_4 : decode cX3_trySettle 4 = .ok (.ifCond .eq 11, 3) := by decide +kernel
theorem dX3_trySettle_7 : decode cX3_trySettle 7 = .ok (.aload_n 0, 1) := by decide +kernel
theorem dX3_trySettle_8 : decode cX3_trySettle 8 = .ok (.iload_n 1, 1) := by decide +kernel
theorem dX3_trySettle_9 : decode cX3_trySettle 9 = .ok (.invokevirtual 50, 3) := by decide +kernel
theorem dX3_trySettle_12 : decode cX3_trySettle 12 = .ok (.ifCond .ne 5, 3) := by decide +kernel
theorem dX3_trySettle_15 : decode cX3_trySettle 15 = .ok (.iconst 0, 1) := by decide +kernel
theorem dX3_trySettle_16 : decode cX3_trySettle 16 = .ok (.ireturn, 1) := by decide +kernel
theorem dX3_trySettle_17 : decode cX3_trySettle 17 = .ok (.aload_n 0, 1) := by decide +kernel
theorem dX3_trySettle_18 : decode cX3_trySettle 18 = .ok (.iload_n 1, 1) := by decide +kernel
theorem dX3_trySettle_19 : decode cX3_trySettle 19 = .ok (.iload_n 2, 1) := by decide +kernel
theorem dX3_trySettle_20 : decode cX3_trySettle 20 = .ok (.invokevirtual 53, 3) := by decide +kernel
theorem dX3_trySettle_23 : decode cX3_trySettle 23 = .ok (.iconst 1, 1) := by decide +kernel
theorem dX3_trySettle_24 : decode cX3_trySettle 24 = .ok (.ireturn, 1) := by decide +kernel
theorem dX3_performGroup_0 : decode cX3_performGroup 0 = .ok (.iload_n 1, 1) := by decide +kernel
theorem dX3_performGroup_1 : decode cX3_performGroup 1 = .ok (.bipush 100, 2) := by decide +kernel
theorem dX3_performGroup_3 : decode cX3_performGroup 3 = .ok (.idiv, 1) := by decide +kernel
theorem dX3_performGroup_4 : decode cX3_performGroup 4 = .ok (.bipush 10, 2) := by decide +kernel
theorem dX3_performGroup_6 : decode cX3_performGroup 6 = .ok (.irem, 1) := by decide +kernel
theorem dX3_performGroup_7 : decode cX3_performGroup 7 = .ok (.istore_n 2, 1) := by decide +kernel
theorem dX3_performGroup_8 : decode cX3_performGroup 8 = .ok (.iload_n 1, 1) := by decide +kernel
theorem dX3_performGroup_9 : decode cX3_performGroup 9 = .ok (.bipush 100, 2) := by decide +kernel
theorem dX3_performGroup_11 : decode cX3_performGroup 11 = .ok (.irem, 1) := by decide +kernel
theorem dX3_performGroup_12 : decode cX3_performGroup 12 = .ok (.istore_n 3, 1) := by decide +kernel
theorem dX3_performGroup_13 : decode cX3_performGroup 13 = .ok (.iload_n 1, 1) := by decide +kernel
theorem dX3_performGroup_14 : decode cX3_performGroup 14 = .ok (.sipush 1000, 3) := by decide +kernel
theorem dX3_performGroup_17 : decode cX3_performGroup 17 = .ok (.idiv, 1) := by decide +kernel
theorem dX3_performGroup_18 : decode cX3_performGroup 18 = .ok (.tableswitch 202 1 9 #[50, 68, 75, 93, 111, 118, 139, 162, 184], 50) := by decide +kernel
theorem dX3_performGroup_68 : decode cX3_performGroup 68 = .ok (.iload_n 3, 1) := by decide +kernel
theorem dX3_performGroup_69 : decode cX3_performGroup 69 = .ok (.ifCond .ne 15, 3) := by decide +kernel
theorem dX3_performGroup_72 : decode cX3_performGroup 72 = .ok (.aload_n 0, 1) := by decide +kernel
theorem dX3_performGroup_73 : decode cX3_performGroup 73 = .ok (.iload_n 2, 1) := by decide +kernel
theorem dX3_performGroup_74 : decode cX3_performGroup 74 = .ok (.invokestatic 57, 3) := by decide +kernel
theorem dX3_performGroup_77 : decode cX3_performGroup 77 = .ok (.ifCond .eq 7, 3) := by decide +kernel
theorem dX3_performGroup_80 : decode cX3_performGroup 80 = .ok (.iconst 1, 1) := by decide +kernel
theorem dX3_performGroup_81 : decode cX3_performGroup 81 = .ok (.goto 4, 3) := by decide +kernel
theorem dX3_performGroup_84 : decode cX3_performGroup 84 = .ok (.iconst 0, 1) := by decide +kernel
theorem dX3_performGroup_85 : decode cX3_performGroup 85 = .ok (.ireturn, 1) := by decide +kernel
theorem dX3_performGroup_86 : decode cX3_performGroup 86 = .ok (.aload_n 0, 1) := by decide +kernel
theorem dX3_performGroup_87 : decode cX3_performGroup 87 = .ok (.iload_n 2, 1) := by decide +kernel
theorem dX3_performGroup_88 : decode cX3_performGroup 88 = .ok (.iload_n 3, 1) := by decide +kernel
theorem dX3_performGroup_89 : decode cX3_performGroup 89 = .ok (.invokestatic 63, 3) := by decide +kernel
theorem dX3_performGroup_92 : decode cX3_performGroup 92 = .ok (.ireturn, 1) := by decide +kernel
theorem dX3_performGroup_93 : decode cX3_performGroup 93 = .ok (.iload_n 2, 1) := by decide +kernel
theorem dX3_performGroup_94 : decode cX3_performGroup 94 = .ok (.ifCond .ne 15, 3) := by decide +kernel
theorem dX3_performGroup_97 : decode cX3_performGroup 97 = .ok (.aload_n 0, 1) := by decide +kernel
theorem dX3_performGroup_98 : decode cX3_performGroup 98 = .ok (.iload_n 3, 1) := by decide +kernel
theorem dX3_performGroup_99 : decode cX3_performGroup 99 = .ok (.invokestatic 67, 3) := by decide +kernel
theorem dX3_performGroup_102 : decode cX3_performGroup 102 = .ok (.ifCond .eq 7, 3) := by decide +kernel
theorem dX3_performGroup_105 : decode cX3_performGroup 105 = .ok (.iconst 1, 1) := by decide +kernel
theorem dX3_performGroup_106 : decode cX3_performGroup 106 = .ok (.goto 4, 3) := by decide +kernel
theorem dX3_performGroup_109 : decode cX3_performGroup 109 = .ok (.iconst 0, 1) := by decide +kernel
theorem dX3_performGroup_110 : decode cX3_performGroup 110 = .ok (.ireturn, 1) := by decide +kernel
theorem dX3_performGroup_111 : decode cX3_performGroup 111 = .ok (.iload_n 2, 1) := by decide +kernel
theorem dX3_performGroup_112 : decode cX3_performGroup 112 = .ok (.ifCond .ne 15, 3) := by decide +kernel
theorem dX3_performGroup_115 : decode cX3_performGroup 115 = .ok (.aload_n 0, 1) := by decide +kernel
theorem dX3_performGroup_116 : decode cX3_performGroup 116 = .ok (.iload_n 3, 1) := by decide +kernel
theorem dX3_performGroup_117 : decode cX3_performGroup 117 = .ok (.invokestatic 70, 3) := by decide +kernel
theorem dX3_performGroup_120 : decode cX3_performGroup 120 = .ok (.ifCond .eq 7, 3) := by decide +kernel
theorem dX3_performGroup_123 : decode cX3_performGroup 123 = .ok (.iconst 1, 1) := by decide +kernel
theorem dX3_performGroup_124 : decode cX3_performGroup 124 = .ok (.goto 4, 3) := by decide +kernel
theorem dX3_performGroup_127 : decode cX3_performGroup 127 = .ok (.iconst 0, 1) := by decide +kernel
theorem dX3_performGroup_128 : decode cX3_performGroup 128 = .ok (.ireturn, 1) := by decide +kernel
theorem dX3_performGroup_129 : decode cX3_performGroup 129 = .ok (.aload_n 0, 1) := by decide +kernel
theorem dX3_performGroup_130 : decode cX3_performGroup 130 = .ok (.iload_n 3, 1) := by decide +kernel
theorem dX3_performGroup_131 : decode cX3_performGroup 131 = .ok (.iload_n 2, 1) := by decide +kernel
theorem dX3_performGroup_132 : decode cX3_performGroup 132 = .ok (.invokestatic 73, 3) := by decide +kernel
theorem dX3_performGroup_135 : decode cX3_performGroup 135 = .ok (.ireturn, 1) := by decide +kernel
theorem dX3_performGroup_136 : decode cX3_performGroup 136 = .ok (.iload_n 2, 1) := by decide +kernel
theorem dX3_performGroup_137 : decode cX3_performGroup 137 = .ok (.ifCond .ne 10, 3) := by decide +kernel
theorem dX3_performGroup_140 : decode cX3_performGroup 140 = .ok (.iload_n 3, 1) := by decide +kernel
theorem dX3_performGroup_141 : decode cX3_performGroup 141 = .ok (.invokestatic 76, 3) := by decide +kernel
theorem dX3_performGroup_144 : decode cX3_performGroup 144 = .ok (.ifCond .ne 5, 3) := by decide +kernel
theorem dX3_performGroup_147 : decode cX3_performGroup 147 = .ok (.iconst 0, 1) := by decide +kernel
theorem dX3_performGroup_148 : decode cX3_performGroup 148 = .ok (.ireturn, 1) := by decide +kernel
theorem dX3_performGroup_149 : decode cX3_performGroup 149 = .ok (.aload_n 0, 1) := by decide +kernel
theorem dX3_performGroup_150 : decode cX3_performGroup 150 = .ok (.iload_n 3, 1) := by decide +kernel
theorem dX3_performGroup_151 : decode cX3_performGroup 151 = .ok (.invokevirtual 79, 3) := by decide +kernel
theorem dX3_performGroup_154 : decode cX3_performGroup 154 = .ok (.pop, 1) := by decide +kernel
theorem dX3_performGroup_155 : decode cX3_performGroup 155 = .ok (.iconst 1, 1) := by decide +kernel
theorem dX3_performGroup_156 : decode cX3_performGroup 156 = .ok (.ireturn, 1) := by decide +kernel
theorem dX3_performGroup_157 : decode cX3_performGroup 157 = .ok (.iload_n 3, 1) := by decide +kernel
theorem dX3_performGroup_158 : decode cX3_performGroup 158 = .ok (.invokestatic 19, 3) := by decide +kernel
theorem dX3_performGroup_161 : decode cX3_performGroup 161 = .ok (.ifCond .eq 17, 3) := by decide +kernel
theorem dX3_performGroup_164 : decode cX3_performGroup 164 = .ok (.aload_n 0, 1) := by decide +kernel
theorem dX3_performGroup_165 : decode cX3_performGroup 165 = .ok (.getfield 82, 3) := by decide +kernel
theorem dX3_performGroup_168 : decode cX3_performGroup 168 = .ok (.iload_n 3, 1) := by decide +kernel
theorem dX3_performGroup_169 : decode cX3_performGroup 169 = .ok (.iaload, 1) := by decide +kernel
theorem dX3_performGroup_170 : decode cX3_performGroup 170 = .ok (.iload_n 2, 1) := by decide +kernel
theorem dX3_performGroup_171 : decode cX3_performGroup 171 = .ok (.if_icmp .ne 7, 3) := by decide +kernel
theorem dX3_performGroup_174 : decode cX3_performGroup 174 = .ok (.iconst 1, 1) := by decide +kernel
theorem dX3_performGroup_175 : decode cX3_performGroup 175 = .ok (.goto 4, 3) := by decide +kernel
theorem dX3_performGroup_178 : decode cX3_performGroup 178 = .ok (.iconst 0, 1) := by decide +kernel
theorem dX3_performGroup_179 : decode cX3_performGroup 179 = .ok (.ireturn, 1) := by decide +kernel
theorem dX3_performGroup_180 : decode cX3_performGroup 180 = .ok (.iload_n 3, 1) := by decide +kernel
theorem dX3_performGroup_181 : decode cX3_performGroup 181 = .ok (.invokestatic 19, 3) := by decide +kernel
theorem dX3_performGroup_184 : decode cX3_performGroup 184 = .ok (.ifCond .eq 16, 3) := by decide +kernel
theorem dX3_performGroup_187 : decode cX3_performGroup 187 = .ok (.aload_n 0, 1) := by decide +kernel
theorem dX3_performGroup_188 : decode cX3_performGroup 188 = .ok (.iload_n 3, 1) := by decide +kernel
theorem dX3_performGroup_189 : decode cX3_performGroup 189 = .ok (.invokevirtual 86, 3) := by decide +kernel
theorem dX3_performGroup_192 : decode cX3_performGroup 192 = .ok (.iload_n 2, 1) := by decide +kernel
theorem dX3_performGroup_193 : decode cX3_performGroup 193 = .ok (.if_icmp .ne 7, 3) := by decide +kernel
theorem dX3_performGroup_196 : decode cX3_performGroup 196 = .ok (.iconst 1, 1) := by decide +kernel
theorem dX3_performGroup_197 : decode cX3_performGroup 197 = .ok (.goto 4, 3) := by decide +kernel
theorem dX3_performGroup_200 : decode cX3_performGroup 200 = .ok (.iconst 0, 1) := by decide +kernel
theorem dX3_performGroup_201 : decode cX3_performGroup 201 = .ok (.ireturn, 1) := by decide +kernel
theorem dX3_performGroup_202 : decode cX3_performGroup 202 = .ok (.iload_n 2, 1) := by decide +kernel
theorem dX3_performGroup_203 : decode cX3_performGroup 203 = .ok (.ifCond .ne 15, 3) := by decide +kernel
theorem dX3_performGroup_206 : decode cX3_performGroup 206 = .ok (.aload_n 0, 1) := by decide +kernel
theorem dX3_performGroup_207 : decode cX3_performGroup 207 = .ok (.getfield 89, 3) := by decide +kernel
theorem dX3_performGroup_210 : decode cX3_performGroup 210 = .ok (.iload_n 3, 1) := by decide +kernel
theorem dX3_performGroup_211 : decode cX3_performGroup 211 = .ok (.if_icmp .gt 7, 3) := by decide +kernel
theorem dX3_performGroup_214 : decode cX3_performGroup 214 = .ok (.iconst 1, 1) := by decide +kernel
theorem dX3_performGroup_215 : decode cX3_performGroup 215 = .ok (.goto 4, 3) := by decide +kernel
theorem dX3_performGroup_218 : decode cX3_performGroup 218 = .ok (.iconst 0, 1) := by decide +kernel
theorem dX3_performGroup_219 : decode cX3_performGroup 219 = .ok (.ireturn, 1) := by decide +kernel
theorem dX3_performGroup_220 : decode cX3_performGroup 220 = .ok (.iconst 0, 1) := by decide +kernel
theorem dX3_performGroup_221 : decode cX3_performGroup 221 = .ok (.ireturn, 1) := by decide +kernel
theorem dX3_performTurn_0 : decode cX3_performTurn 0 = .ok (.iload_n 1, 1) := by decide +kernel
theorem dX3_performTurn_1 : decode cX3_performTurn 1 = .ok (.bipush 8, 2) := by decide +kernel
theorem dX3_performTurn_3 : decode cX3_performTurn 3 = .ok (.idiv, 1) := by decide +kernel
theorem dX3_performTurn_4 : decode cX3_performTurn 4 = .ok (.bipush 24, 2) := by decide +kernel
theorem dX3_performTurn_6 : decode cX3_performTurn 6 = .ok (.irem, 1) := by decide +kernel
theorem dX3_performTurn_7 : decode cX3_performTurn 7 = .ok (.istore_n 2, 1) := by decide +kernel
theorem dX3_performTurn_8 : decode cX3_performTurn 8 = .ok (.iload_n 1, 1) := by decide +kernel
theorem dX3_performTurn_9 : decode cX3_performTurn 9 = .ok (.sipush 256, 3) := by decide +kernel
theorem dX3_performTurn_12 : decode cX3_performTurn 12 = .ok (.idiv, 1) := by decide +kernel
theorem dX3_performTurn_13 : decode cX3_performTurn 13 = .ok (.bipush 10, 2) := by decide +kernel
theorem dX3_performTurn_15 : decode cX3_performTurn 15 = .ok (.irem, 1) := by decide +kernel
theorem dX3_performTurn_16 : decode cX3_performTurn 16 = .ok (.istore_n 3, 1) := by decide +kernel
theorem dX3_performTurn_17 : decode cX3_performTurn 17 = .ok (.iload_n 1, 1) := by decide +kernel
theorem dX3_performTurn_18 : decode cX3_performTurn 18 = .ok (.bipush 8, 2) := by decide +kernel
theorem dX3_performTurn_20 : decode cX3_performTurn 20 = .ok (.irem, 1) := by decide +kernel
theorem dX3_performTurn_21 : decode cX3_performTurn 21 = .ok (.tableswitch 89 0 6 #[43, 43, 49, 49, 55, 61, 68], 43) := by decide +kernel
theorem dX3_performTurn_64 : decode cX3_performTurn 64 = .ok (.aload_n 0, 1) := by decide +kernel
theorem dX3_performTurn_65 : decode cX3_performTurn 65 = .ok (.iload_n 3, 1) := by decide +kernel
theorem dX3_performTurn_66 : decode cX3_performTurn 66 = .ok (.invokestatic 57, 3) := by decide +kernel
theorem dX3_performTurn_69 : decode cX3_performTurn 69 = .ok (.ireturn, 1) := by decide +kernel
theorem dX3_performTurn_70 : decode cX3_performTurn 70 = .ok (.aload_n 0, 1) := by decide +kernel
theorem dX3_performTurn_71 : decode cX3_performTurn 71 = .ok (.iload_n 2, 1) := by decide +kernel
theorem dX3_performTurn_72 : decode cX3_performTurn 72 = .ok (.invokestatic 67, 3) := by decide +kernel
theorem dX3_performTurn_75 : decode cX3_performTurn 75 = .ok (.ireturn, 1) := by decide +kernel
theorem dX3_performTurn_76 : decode cX3_performTurn 76 = .ok (.aload_n 0, 1) := by decide +kernel
theorem dX3_performTurn_77 : decode cX3_performTurn 77 = .ok (.iload_n 2, 1) := by decide +kernel
theorem dX3_performTurn_78 : decode cX3_performTurn 78 = .ok (.invokestatic 70, 3) := by decide +kernel
theorem dX3_performTurn_81 : decode cX3_performTurn 81 = .ok (.ireturn, 1) := by decide +kernel
theorem dX3_performTurn_82 : decode cX3_performTurn 82 = .ok (.aload_n 0, 1) := by decide +kernel
theorem dX3_performTurn_83 : decode cX3_performTurn 83 = .ok (.iload_n 2, 1) := by decide +kernel
theorem dX3_performTurn_84 : decode cX3_performTurn 84 = .ok (.iload_n 3, 1) := by decide +kernel
theorem dX3_performTurn_85 : decode cX3_performTurn 85 = .ok (.invokestatic 73, 3) := by decide +kernel
theorem dX3_performTurn_88 : decode cX3_performTurn 88 = .ok (.ireturn, 1) := by decide +kernel
theorem dX3_performTurn_89 : decode cX3_performTurn 89 = .ok (.aload_n 0, 1) := by decide +kernel
theorem dX3_performTurn_90 : decode cX3_performTurn 90 = .ok (.iload_n 2, 1) := by decide +kernel
theorem dX3_performTurn_91 : decode cX3_performTurn 91 = .ok (.iload_n 1, 1) := by decide +kernel
theorem dX3_performTurn_92 : decode cX3_performTurn 92 = .ok (.sipush 256, 3) := by decide +kernel
theorem dX3_performTurn_95 : decode cX3_performTurn 95 = .ok (.idiv, 1) := by decide +kernel
theorem dX3_performTurn_96 : decode cX3_performTurn 96 = .ok (.iconst 2, 1) := by decide +kernel
theorem dX3_performTurn_97 : decode cX3_performTurn 97 = .ok (.irem, 1) := by decide +kernel
theorem dX3_performTurn_98 : decode cX3_performTurn 98 = .ok (.ifCond .ne 7, 3) := by decide +kernel
theorem dX3_performTurn_101 : decode cX3_performTurn 101 = .ok (.iconst 1, 1) := by decide +kernel
theorem dX3_performTurn_102 : decode cX3_performTurn 102 = .ok (.goto 4, 3) := by decide +kernel
theorem dX3_performTurn_105 : decode cX3_performTurn 105 = .ok (.iconst 0, 1) := by decide +kernel
theorem dX3_performTurn_106 : decode cX3_performTurn 106 = .ok (.invokestatic 93, 3) := by decide +kernel
theorem dX3_performTurn_109 : decode cX3_performTurn 109 = .ok (.ireturn, 1) := by decide +kernel
theorem dX3_performTurn_110 : decode cX3_performTurn 110 = .ok (.aload_n 0, 1) := by decide +kernel
theorem dX3_performTurn_111 : decode cX3_performTurn 111 = .ok (.iconst 1, 1) := by decide +kernel
theorem dX3_performTurn_112 : decode cX3_performTurn 112 = .ok (.iload_n 1, 1) := by decide +kernel
theorem dX3_performTurn_113 : decode cX3_performTurn 113 = .ok (.bipush 8, 2) := by decide +kernel
theorem dX3_performTurn_115 : decode cX3_performTurn 115 = .ok (.idiv, 1) := by decide +kernel
theorem dX3_performTurn_116 : decode cX3_performTurn 116 = .ok (.bipush 30, 2) := by decide +kernel
theorem dX3_performTurn_118 : decode cX3_performTurn 118 = .ok (.irem, 1) := by decide +kernel
theorem dX3_performTurn_119 : decode cX3_performTurn 119 = .ok (.iadd, 1) := by decide +kernel
theorem dX3_performTurn_120 : decode cX3_performTurn 120 = .ok (.invokevirtual 79, 3) := by decide +kernel
theorem dX3_performTurn_123 : decode cX3_performTurn 123 = .ok (.pop, 1) := by decide +kernel
theorem dX3_performTurn_124 : decode cX3_performTurn 124 = .ok (.iconst 1, 1) := by decide +kernel
theorem dX3_performTurn_125 : decode cX3_performTurn 125 = .ok (.ireturn, 1) := by decide +kernel
theorem dX3_performWord_0 : decode cX3_performWord 0 = .ok (.aload_n 1, 1) := by decide +kernel
theorem dX3_performWord_1 : decode cX3_performWord 1 = .ok (.getstatic 97, 3) := by decide +kernel
theorem dX3_performWord_4 : decode cX3_performWord 4 = .ok (.if_acmp .ne 9, 3) := by decide +kernel
theorem dX3_performWord_7 : decode cX3_performWord 7 = .ok (.aload_n 0, 1) := by decide +kernel
theorem dX3_performWord_8 : decode cX3_performWord 8 = .ok (.iload_n 2, 1) := by decide +kernel
theorem dX3_performWord_9 : decode cX3_performWord 9 = .ok (.invokestatic 57, 3) := by decide +kernel
theorem dX3_performWord_12 : decode cX3_performWord 12 = .ok (.ireturn, 1) := by decide +kernel
theorem dX3_performWord_13 : decode cX3_performWord 13 = .ok (.aload_n 1, 1) := by decide +kernel
theorem dX3_performWord_14 : decode cX3_performWord 14 = .ok (.getstatic 103, 3) := by decide +kernel
theorem dX3_performWord_17 : decode cX3_performWord 17 = .ok (.if_acmp .ne 10, 3) := by decide +kernel
theorem dX3_performWord_20 : decode cX3_performWord 20 = .ok (.aload_n 0, 1) := by decide +kernel
theorem dX3_performWord_21 : decode cX3_performWord 21 = .ok (.iload_n 2, 1) := by decide +kernel
theorem dX3_performWord_22 : decode cX3_performWord 22 = .ok (.iload_n 3, 1) := by decide +kernel
theorem dX3_performWord_23 : decode cX3_performWord 23 = .ok (.invokestatic 63, 3) := by decide +kernel
theorem dX3_performWord_26 : decode cX3_performWord 26 = .ok (.ireturn, 1) := by decide +kernel
theorem dX3_performWord_27 : decode cX3_performWord 27 = .ok (.aload_n 1, 1) := by decide +kernel
theorem dX3_performWord_28 : decode cX3_performWord 28 = .ok (.getstatic 106, 3) := by decide +kernel
theorem dX3_performWord_31 : decode cX3_performWord 31 = .ok (.if_acmp .ne 9, 3) := by decide +kernel
theorem dX3_performWord_34 : decode cX3_performWord 34 = .ok (.aload_n 0, 1) := by decide +kernel
theorem dX3_performWord_35 : decode cX3_performWord 35 = .ok (.iload_n 2, 1) := by decide +kernel
theorem dX3_performWord_36 : decode cX3_performWord 36 = .ok (.invokestatic 67, 3) := by decide +kernel
theorem dX3_performWord_39 : decode cX3_performWord 39 = .ok (.ireturn, 1) := by decide +kernel
theorem dX3_performWord_40 : decode cX3_performWord 40 = .ok (.aload_n 1, 1) := by decide +kernel
theorem dX3_performWord_41 : decode cX3_performWord 41 = .ok (.getstatic 109, 3) := by decide +kernel
theorem dX3_performWord_44 : decode cX3_performWord 44 = .ok (.if_acmp .ne 12, 3) := by decide +kernel
theorem dX3_performWord_47 : decode cX3_performWord 47 = .ok (.aload_n 0, 1) := by decide +kernel
theorem dX3_performWord_48 : decode cX3_performWord 48 = .ok (.iload_n 2, 1) := by decide +kernel
theorem dX3_performWord_49 : decode cX3_performWord 49 = .ok (.invokevirtual 79, 3) := by decide +kernel
theorem dX3_performWord_52 : decode cX3_performWord 52 = .ok (.pop, 1) := by decide +kernel
theorem dX3_performWord_53 : decode cX3_performWord 53 = .ok (.goto 17, 3) := by decide +kernel
theorem dX3_performWord_56 : decode cX3_performWord 56 = .ok (.iload_n 2, 1) := by decide +kernel
theorem dX3_performWord_57 : decode cX3_performWord 57 = .ok (.invokestatic 112, 3) := by decide +kernel
theorem dX3_performWord_60 : decode cX3_performWord 60 = .ok (.ifCond .eq 10, 3) := by decide +kernel
theorem dX3_performWord_63 : decode cX3_performWord 63 = .ok (.aload_n 0, 1) := by decide +kernel
theorem dX3_performWord_64 : decode cX3_performWord 64 = .ok (.getfield 115, 3) := by decide +kernel
theorem dX3_performWord_67 : decode cX3_performWord 67 = .ok (.iload_n 2, 1) := by decide +kernel
theorem dX3_performWord_68 : decode cX3_performWord 68 = .ok (.iload_n 3, 1) := by decide +kernel
theorem dX3_performWord_69 : decode cX3_performWord 69 = .ok (.iastore, 1) := by decide +kernel
theorem dX3_performWord_70 : decode cX3_performWord 70 = .ok (.iconst 1, 1) := by decide +kernel
theorem dX3_performWord_71 : decode cX3_performWord 71 = .ok (.ireturn, 1) := by decide +kernel
theorem dX4_init_0 : decode cX4_init 0 = .ok (.aload_n 0, 1) := by decide +kernel
theorem dX4_init_1 : decode cX4_init 1 = .ok (.invokespecial 3, 3) := by decide +kernel
theorem dX4_init_4 : decode cX4_init 4 = .ok (.aload_n 0, 1) := by decide +kernel
theorem dX4_init_5 : decode cX4_init 5 = .ok (.iconst 2, 1) := by decide +kernel
theorem dX4_init_6 : decode cX4_init 6 = .ok (.anewarray 9, 3) := by decide +kernel
theorem dX4_init_9 : decode cX4_init 9 = .ok (.putfield 11, 3) := by decide +kernel
theorem dX4_init_12 : decode cX4_init 12 = .ok (.aload_n 0, 1) := by decide +kernel
theorem dX4_init_13 : decode cX4_init 13 = .ok (.iconst 2, 1) := by decide +kernel
theorem dX4_init_14 : decode cX4_init 14 = .ok (.newarray .boolean, 2) := by decide +kernel
theorem dX4_init_16 : decode cX4_init 16 = .ok (.putfield 17, 3) := by decide +kernel
theorem dX4_init_19 : decode cX4_init 19 = .ok (.iconst 0, 1) := by decide +kernel
theorem dX4_init_20 : decode cX4_init 20 = .ok (.istore_n 1, 1) := by decide +kernel
theorem dX4_init_21 : decode cX4_init 21 = .ok (.iload_n 1, 1) := by decide +kernel
theorem dX4_init_22 : decode cX4_init 22 = .ok (.iconst 2, 1) := by decide +kernel
theorem dX4_init_23 : decode cX4_init 23 = .ok (.if_icmp .ge 22, 3) := by decide +kernel
theorem dX4_init_26 : decode cX4_init 26 = .ok (.aload_n 0, 1) := by decide +kernel
theorem dX4_init_27 : decode cX4_init 27 = .ok (.getfield 11, 3) := by decide +kernel
theorem dX4_init_30 : decode cX4_init 30 = .ok (.iload_n 1, 1) := by decide +kernel
theorem dX4_init_31 : decode cX4_init 31 = .ok (.new 9, 3) := by decide +kernel
theorem dX4_init_34 : decode cX4_init 34 = .ok (.dup, 1) := by decide +kernel
theorem dX4_init_35 : decode cX4_init 35 = .ok (.invokespecial 21, 3) := by decide +kernel
theorem dX4_init_38 : decode cX4_init 38 = .ok (.aastore, 1) := by decide +kernel
theorem dX4_init_39 : decode cX4_init 39 = .ok (.iinc 1 1, 3) := by decide +kernel
theorem dX4_init_42 : decode cX4_init 42 = .ok (.goto (-21), 3) := by decide +kernel
theorem dX4_init_45 : decode cX4_init 45 = .ok (.return_, 1) := by decide +kernel
theorem dX4_keep_0 : decode cX4_keep 0 = .ok (.aload_n 0, 1) := by decide +kernel
theorem dX4_keep_1 : decode cX4_keep 1 = .ok (.getfield 11, 3) := by decide +kernel
theorem dX4_keep_4 : decode cX4_keep 4 = .ok (.iload_n 1, 1) := by decide +kernel
theorem dX4_keep_5 : decode cX4_keep 5 = .ok (.aaload, 1) := by decide +kernel
theorem dX4_keep_6 : decode cX4_keep 6 = .ok (.aload_n 2, 1) := by decide +kernel
theorem dX4_keep_7 : decode cX4_keep 7 = .ok (.invokevirtual 22, 3) := by decide +kernel
theorem dX4_keep_10 : decode cX4_keep 10 = .ok (.aload_n 0, 1) := by decide +kernel
theorem dX4_keep_11 : decode cX4_keep 11 = .ok (.getfield 17, 3) := by decide +kernel
theorem dX4_keep_14 : decode cX4_keep 14 = .ok (.iload_n 1, 1) := by decide +kernel
theorem dX4_keep_15 : decode cX4_keep 15 = .ok (.iconst 1, 1) := by decide +kernel
theorem dX4_keep_16 : decode cX4_keep 16 = .ok (.bastore, 1) := by decide +kernel
theorem dX4_keep_17 : decode cX4_keep 17 = .ok (.return_, 1) := by decide +kernel
theorem dX4_forgetAll_0 : decode cX4_forgetAll 0 = .ok (.iconst 0, 1) := by decide +kernel
theorem dX4_forgetAll_1 : decode cX4_forgetAll 1 = .ok (.istore_n 1, 1) := by decide +kernel
theorem dX4_forgetAll_2 : decode cX4_forgetAll 2 = .ok (.iload_n 1, 1) := by decide +kernel
theorem dX4_forgetAll_3 : decode cX4_forgetAll 3 = .ok (.iconst 2, 1) := by decide +kernel
theorem dX4_forgetAll_4 : decode cX4_forgetAll 4 = .ok (.if_icmp .ge 16, 3) := by decide +kernel
theorem dX4_forgetAll_7 : decode cX4_forgetAll 7 = .ok (.aload_n 0, 1) := by decide +kernel
theorem dX4_forgetAll_8 : decode cX4_forgetAll 8 = .ok (.getfield 17, 3) := by decide +kernel
theorem dX4_forgetAll_11 : decode cX4_forgetAll 11 = .ok (.iload_n 1, 1) := by decide +kernel
theorem dX4_forgetAll_12 : decode cX4_forgetAll 12 = .ok (.iconst 0, 1) := by decide +kernel
theorem dX4_forgetAll_13 : decode cX4_forgetAll 13 = .ok (.bastore, 1) := by decide +kernel
theorem dX4_forgetAll_14 : decode cX4_forgetAll 14 = .ok (.iinc 1 1, 3) := by decide +kernel
theorem dX4_forgetAll_17 : decode cX4_forgetAll 17 = .ok (.goto (-15), 3) := by decide +kernel
theorem dX4_forgetAll_20 : decode cX4_forgetAll 20 = .ok (.return_, 1) := by decide +kernel
theorem dX6_init_0 : decode cX6_init 0 = .ok (.aload_n 0, 1) := by decide +kernel
theorem dX6_init_1 : decode cX6_init 1 = .ok (.invokespecial 1, 3) := by decide +kernel
theorem dX6_init_4 : decode cX6_init 4 = .ok (.aload_n 0, 1) := by decide +kernel
theorem dX6_init_5 : decode cX6_init 5 = .ok (.new 7, 3) := by decide +kernel
theorem dX6_init_8 : decode cX6_init 8 = .ok (.dup, 1) := by decide +kernel
theorem dX6_init_9 : decode cX6_init 9 = .ok (.invokespecial 9, 3) := by decide +kernel
theorem dX6_init_12 : decode cX6_init 12 = .ok (.putfield 10, 3) := by decide +kernel
theorem dX6_init_15 : decode cX6_init 15 = .ok (.aload_n 0, 1) := by decide +kernel
theorem dX6_init_16 : decode cX6_init 16 = .ok (.new 7, 3) := by decide +kernel
theorem dX6_init_19 : decode cX6_init 19 = .ok (.dup, 1) := by decide +kernel
theorem dX6_init_20 : decode cX6_init 20 = .ok (.invokespecial 9, 3) := by decide +kernel
theorem dX6_init_23 : decode cX6_init 23 = .ok (.putfield 16, 3) := by decide +kernel
theorem dX6_init_26 : decode cX6_init 26 = .ok (.aload_n 0, 1) := by decide +kernel
theorem dX6_init_27 : decode cX6_init 27 = .ok (.new 19, 3) := by decide +kernel
theorem dX6_init_30 : decode cX6_init 30 = .ok (.dup, 1) := by decide +kernel
theorem dX6_init_31 : decode cX6_init 31 = .ok (.invokespecial 21, 3) := by decide +kernel
theorem dX6_init_34 : decode cX6_init 34 = .ok (.putfield 22, 3) := by decide +kernel
theorem dX6_init_37 : decode cX6_init 37 = .ok (.aload_n 0, 1) := by decide +kernel
theorem dX6_init_38 : decode cX6_init 38 = .ok (.new 26, 3) := by decide +kernel
theorem dX6_init_41 : decode cX6_init 41 = .ok (.dup, 1) := by decide +kernel
theorem dX6_init_42 : decode cX6_init 42 = .ok (.invokespecial 28, 3) := by decide +kernel
theorem dX6_init_45 : decode cX6_init 45 = .ok (.putfield 29, 3) := by decide +kernel
theorem dX6_init_48 : decode cX6_init 48 = .ok (.aload_n 0, 1) := by decide +kernel
theorem dX6_init_49 : decode cX6_init 49 = .ok (.new 33, 3) := by decide +kernel
theorem dX6_init_52 : decode cX6_init 52 = .ok (.dup, 1) := by decide +kernel
theorem dX6_init_53 : decode cX6_init 53 = .ok (.invokespecial 35, 3) := by decide +kernel
theorem dX6_init_56 : decode cX6_init 56 = .ok (.putfield 36, 3) := by decide +kernel
theorem dX6_init_59 : decode cX6_init 59 = .ok (.aload_n 0, 1) := by decide +kernel
theorem dX6_init_60 : decode cX6_init 60 = .ok (.new 40, 3) := by decide +kernel
theorem dX6_init_63 : decode cX6_init 63 = .ok (.dup, 1) := by decide +kernel
theorem dX6_init_64 : decode cX6_init 64 = .ok (.invokespecial 42, 3) := by decide +kernel
theorem dX6_init_67 : decode cX6_init 67 = .ok (.putfield 43, 3) := by decide +kernel
theorem dX6_init_70 : decode cX6_init 70 = .ok (.return_, 1) := by decide +kernel
theorem dX6_append_0 : decode cX6_append 0 = .ok (.iload_n 1, 1) := by decide +kernel
theorem dX6_append_1 : decode cX6_append 1 = .ok (.ifCond .lt 10, 3) := by decide +kernel
theorem dX6_append_4 : decode cX6_append 4 = .ok (.iload_n 1, 1) := by decide +kernel
theorem dX6_append_5 : decode cX6_append 5 = .ok (.sipush 255, 3) := by decide +kernel
theorem dX6_append_8 : decode cX6_append 8 = .ok (.if_icmp .le 13, 3) := by decide +kernel
theorem dX6_append_11 : decode cX6_append 11 = .ok (.new 47, 3) := by decide +kernel
theorem dX6_append_14 : decode cX6_append 14 = .ok (.dup, 1) := by decide +kernel
theorem dX6_append_15 : decode cX6_append 15 = .ok (.ldc 49, 2) := by decide +kernel
theorem dX6_append_17 : decode cX6_append 17 = .ok (.invokespecial 51, 3) := by decide +kernel
theorem dX6_append_20 : decode cX6_append 20 = .ok (.athrow, 1) := by decide +kernel
theorem dX6_append_21 : decode cX6_append 21 = .ok (.aload_n 0, 1) := by decide +kernel
theorem dX6_append_22 : decode cX6_append 22 = .ok (.getfield 36, 3) := by decide +kernel
theorem dX6_append_25 : decode cX6_append 25 = .ok (.invokevirtual 54, 3) := by decide +kernel
theorem dX6_append_28 : decode cX6_append 28 = .ok (.ifCond .eq 13, 3) := by decide +kernel
theorem dX6_append_31 : decode cX6_append 31 = .ok (.new 58, 3) := by decide +kernel
theorem dX6_append_34 : decode cX6_append 34 = .ok (.dup, 1) := by decide +kernel
theorem dX6_append_35 : decode cX6_append 35 = .ok (.ldc 60, 2) := by decide +kernel
theorem dX6_append_37 : decode cX6_append 37 = .ok (.invokespecial 62, 3) := by decide +kernel
theorem dX6_append_40 : decode cX6_append 40 = .ok (.athrow, 1) := by decide +kernel
theorem dX6_append_41 : decode cX6_append 41 = .ok (.aload_n 0, 1) := by decide +kernel
theorem dX6_append_42 : decode cX6_append 42 = .ok (.getfield 36, 3) := by decide +kernel
theorem dX6_append_45 : decode cX6_append 45 = .ok (.iload_n 1, 1) := by decide +kernel
theorem dX6_append_46 : decode cX6_append 46 = .ok (.invokevirtual 63, 3) := by decide +kernel
theorem dX6_append_49 : decode cX6_append 49 = .ok (.ireturn, 1) := by decide +kernel
theorem dX6_clearText_0 : decode cX6_clearText 0 = .ok (.aload_n 0, 1) := by decide +kernel
theorem dX6_clearText_1 : decode cX6_clearText 1 = .ok (.getfield 36, 3) := by decide +kernel
theorem dX6_clearText_4 : decode cX6_clearText 4 = .ok (.invokevirtual 67, 3) := by decide +kernel
theorem dX6_clearText_7 : decode cX6_clearText 7 = .ok (.ireturn, 1) := by decide +kernel
theorem dX6_errorPosition_0 : decode cX6_errorPosition 0 = .ok (.aload_n 0, 1) := by decide +kernel
theorem dX6_errorPosition_1 : decode cX6_errorPosition 1 = .ok (.getfield 36, 3) := by decide +kernel
theorem dX6_errorPosition_4 : decode cX6_errorPosition 4 = .ok (.invokevirtual 71, 3) := by decide +kernel
theorem dX6_errorPosition_7 : decode cX6_errorPosition 7 = .ok (.ireturn, 1) := by decide +kernel
theorem dX6_load_0 : decode cX6_load 0 = .ok (.aload_n 0, 1) := by decide +kernel
theorem dX6_load_1 : decode cX6_load 1 = .ok (.getfield 36, 3) := by decide +kernel
theorem dX6_load_4 : decode cX6_load 4 = .ok (.invokevirtual 71, 3) := by decide +kernel
theorem dX6_load_7 : decode cX6_load 7 = .ok (.iconst (-1), 1) := by decide +kernel
theorem dX6_load_8 : decode cX6_load 8 = .ok (.if_icmp .eq 13, 3) := by decide +kernel
theorem dX6_load_11 : decode cX6_load 11 = .ok (.new 58, 3) := by decide +kernel
theorem dX6_load_14 : decode cX6_load 14 = .ok (.dup, 1) := by decide +kernel
theorem dX6_load_15 : decode cX6_load 15 = .ok (.ldc 74, 2) := by decide +kernel
theorem dX6_load_17 : decode cX6_load 17 = .ok (.invokespecial 62, 3) := by decide +kernel
theorem dX6_load_20 : decode cX6_load 20 = .ok (.athrow, 1) := by decide +kernel
theorem dX6_load_21 : decode cX6_load 21 = .ok (.aload_n 0, 1) := by decide +kernel
theorem dX6_load_22 : decode cX6_load 22 = .ok (.getfield 10, 3) := by decide +kernel
theorem dX6_load_25 : decode cX6_load 25 = .ok (.invokevirtual 76, 3) := by decide +kernel
theorem dX6_load_28 : decode cX6_load 28 = .ok (.aload_n 0, 1) := by decide +kernel
theorem dX6_load_29 : decode cX6_load 29 = .ok (.getfield 22, 3) := by decide +kernel
theorem dX6_load_32 : decode cX6_load 32 = .ok (.invokevirtual 79, 3) := by decide +kernel
theorem dX6_load_35 : decode cX6_load 35 = .ok (.aload_n 0, 1) := by decide +kernel
theorem dX6_load_36 : decode cX6_load 36 = .ok (.getfield 29, 3) := by decide +kernel
theorem dX6_load_39 : decode cX6_load 39 = .ok (.invokevirtual 82, 3) := by decide +kernel
theorem dX6_load_42 : decode cX6_load 42 = .ok (.aload_n 0, 1) := by decide +kernel
theorem dX6_load_43 : decode cX6_load 43 = .ok (.invokevirtual 83, 3) := by decide +kernel
theorem dX6_load_46 : decode cX6_load 46 = .ok (.ireturn, 1) := by decide +kernel
theorem dX6_about_0 : decode cX6_about 0 = .ok (.iload_n 1, 1) := by decide +kernel
theorem dX6_about_1 : decode cX6_about 1 = .ok (.tableswitch 135 0 9 #[55, 63, 71, 79, 87, 95, 103, 111, 119, 127], 55) := by decide +kernel
theorem dX6_about_56 : decode cX6_about 56 = .ok (.aload_n 0, 1) := by decide +kernel
theorem dX6_about_57 : decode cX6_about 57 = .ok (.getfield 10, 3) := by decide +kernel
theorem dX6_about_60 : decode cX6_about 60 = .ok (.getfield 86, 3) := by decide +kernel
theorem dX6_about_63 : decode cX6_about 63 = .ok (.ireturn, 1) := by decide +kernel
theorem dX6_about_64 : decode cX6_about 64 = .ok (.aload_n 0, 1) := by decide +kernel
theorem dX6_about_65 : decode cX6_about 65 = .ok (.getfield 10, 3) := by decide +kernel
theorem dX6_about_68 : decode cX6_about 68 = .ok (.invokevirtual 90, 3) := by decide +kernel
theorem dX6_about_71 : decode cX6_about 71 = .ok (.ireturn, 1) := by decide +kernel
theorem dX6_about_72 : decode cX6_about 72 = .ok (.aload_n 0, 1) := by decide +kernel
theorem dX6_about_73 : decode cX6_about 73 = .ok (.getfield 10, 3) := by decide +kernel
theorem dX6_about_76 : decode cX6_about 76 = .ok (.invokevirtual 93, 3) := by decide +kernel
theorem dX6_about_79 : decode cX6_about 79 = .ok (.ireturn, 1) := by decide +kernel
theorem dX6_about_80 : decode cX6_about 80 = .ok (.aload_n 0, 1) := by decide +kernel
theorem dX6_about_81 : decode cX6_about 81 = .ok (.getfield 10, 3) := by decide +kernel
theorem dX6_about_84 : decode cX6_about 84 = .ok (.invokevirtual 96, 3) := by decide +kernel
theorem dX6_about_87 : decode cX6_about 87 = .ok (.ireturn, 1) := by decide +kernel
theorem dX6_about_88 : decode cX6_about 88 = .ok (.aload_n 0, 1) := by decide +kernel
theorem dX6_about_89 : decode cX6_about 89 = .ok (.getfield 10, 3) := by decide +kernel
theorem dX6_about_92 : decode cX6_about 92 = .ok (.invokevirtual 99, 3) := by decide +kernel
theorem dX6_about_95 : decode cX6_about 95 = .ok (.ireturn, 1) := by decide +kernel
theorem dX6_about_96 : decode cX6_about 96 = .ok (.aload_n 0, 1) := by decide +kernel
theorem dX6_about_97 : decode cX6_about 97 = .ok (.getfield 10, 3) := by decide +kernel
theorem dX6_about_100 : decode cX6_about 100 = .ok (.getfield 102, 3) := by decide +kernel
theorem dX6_about_103 : decode cX6_about 103 = .ok (.ireturn, 1) := by decide +kernel
theorem dX6_about_104 : decode cX6_about 104 = .ok (.aload_n 0, 1) := by decide +kernel
theorem dX6_about_105 : decode cX6_about 105 = .ok (.getfield 10, 3) := by decide +kernel
theorem dX6_about_108 : decode cX6_about 108 = .ok (.invokevirtual 105, 3) := by decide +kernel
theorem dX6_about_111 : decode cX6_about 111 = .ok (.ireturn, 1) := by decide +kernel
theorem dX6_about_112 : decode cX6_about 112 = .ok (.aload_n 0, 1) := by decide +kernel
theorem dX6_about_113 : decode cX6_about 113 = .ok (.getfield 10, 3) := by decide +kernel
theorem dX6_about_116 : decode cX6_about 116 = .ok (.getfield 108, 3) := by decide +kernel
theorem dX6_about_119 : decode cX6_about 119 = .ok (.ireturn, 1) := by decide +kernel
theorem dX6_about_120 : decode cX6_about 120 = .ok (.aload_n 0, 1) := by decide +kernel
theorem dX6_about_121 : decode cX6_about 121 = .ok (.getfield 10, 3) := by decide +kernel
theorem dX6_about_124 : decode cX6_about 124 = .ok (.invokevirtual 111, 3) := by decide +kernel
theorem dX6_about_127 : decode cX6_about 127 = .ok (.ireturn, 1) := by decide +kernel
theorem dX6_about_128 : decode cX6_about 128 = .ok (.aload_n 0, 1) := by decide +kernel
theorem dX6_about_129 : decode cX6_about 129 = .ok (.getfield 10, 3) := by decide +kernel
theorem dX6_about_132 : decode cX6_about 132 = .ok (.getfield 114, 3) := by decide +kernel
theorem dX6_about_135 : decode cX6_about 135 = .ok (.ireturn, 1) := by decide +kernel
theorem dX6_about_136 : decode cX6_about 136 = .ok (.new 47, 3) := by decide +kernel
theorem dX6_about_139 : decode cX6_about 139 = .ok (.dup, 1) := by decide +kernel
theorem dX6_about_140 : decode cX6_about 140 = .ok (.ldc 117, 2) := by decide +kernel
theorem dX6_about_142 : decode cX6_about 142 = .ok (.invokespecial 51, 3) := by decide +kernel
theorem dX6_about_145 : decode cX6_about 145 = .ok (.athrow, 1) := by decide +kernel
theorem dX6_plot_0 : decode cX6_plot 0 = .ok (.iload_n 1, 1) := by decide +kernel
theorem dX6_plot_1 : decode cX6_plot 1 = .ok (.invokestatic 119, 3) := by decide +kernel
theorem dX6_plot_4 : decode cX6_plot 4 = .ok (.ifCond .ne 13, 3) := by decide +kernel
theorem dX6_plot_7 : decode cX6_plot 7 = .ok (.new 123, 3) := by decide +kernel
theorem dX6_plot_10 : decode cX6_plot 10 = .ok (.dup, 1) := by decide +kernel
theorem dX6_plot_11 : decode cX6_plot 11 = .ok (.ldc 125, 2) := by decide +kernel
theorem dX6_plot_13 : decode cX6_plot 13 = .ok (.invokespecial 127, 3) := by decide +kernel
theorem dX6_plot_16 : decode cX6_plot 16 = .ok (.athrow, 1) := by decide +kernel
theorem dX6_plot_17 : decode cX6_plot 17 = .ok (.iload_n 2, 1) := by decide +kernel
theorem dX6_plot_18 : decode cX6_plot 18 = .ok (.tableswitch 96 0 5 #[38, 48, 58, 68, 77, 87], 38) := by decide +kernel
theorem dX6_plot_56 : decode cX6_plot 56 = .ok (.aload_n 0, 1) := by decide +kernel
theorem dX6_plot_57 : decode cX6_plot 57 = .ok (.getfield 10, 3) := by decide +kernel
theorem dX6_plot_60 : decode cX6_plot 60 = .ok (.getfield 128, 3) := by decide +kernel
theorem dX6_plot_63 : decode cX6_plot 63 = .ok (.iload_n 1, 1) := by decide +kernel
theorem dX6_plot_64 : decode cX6_plot 64 = .ok (.iaload, 1) := by decide +kernel
theorem dX6_plot_65 : decode cX6_plot 65 = .ok (.ireturn, 1) := by decide +kernel
theorem dX6_plot_66 : decode cX6_plot 66 = .ok (.aload_n 0, 1) := by decide +kernel
theorem dX6_plot_67 : decode cX6_plot 67 = .ok (.getfield 10, 3) := by decide +kernel
theorem dX6_plot_70 : decode cX6_plot 70 = .ok (.getfield 132, 3) := by decide +kernel
theorem dX6_plot_73 : decode cX6_plot 73 = .ok (.iload_n 1, 1) := by decide +kernel
theorem dX6_plot_74 : decode cX6_plot 74 = .ok (.iaload, 1) := by decide +kernel
theorem dX6_plot_75 : decode cX6_plot 75 = .ok (.ireturn, 1) := by decide +kernel
theorem dX6_plot_76 : decode cX6_plot 76 = .ok (.aload_n 0, 1) := by decide +kernel
theorem dX6_plot_77 : decode cX6_plot 77 = .ok (.getfield 10, 3) := by decide +kernel
theorem dX6_plot_80 : decode cX6_plot 80 = .ok (.getfield 135, 3) := by decide +kernel
theorem dX6_plot_83 : decode cX6_plot 83 = .ok (.iload_n 1, 1) := by decide +kernel
theorem dX6_plot_84 : decode cX6_plot 84 = .ok (.iaload, 1) := by decide +kernel
theorem dX6_plot_85 : decode cX6_plot 85 = .ok (.ireturn, 1) := by decide +kernel
theorem dX6_plot_86 : decode cX6_plot 86 = .ok (.aload_n 0, 1) := by decide +kernel
theorem dX6_plot_87 : decode cX6_plot 87 = .ok (.getfield 10, 3) := by decide +kernel
theorem dX6_plot_90 : decode cX6_plot 90 = .ok (.iload_n 1, 1) := by decide +kernel
theorem dX6_plot_91 : decode cX6_plot 91 = .ok (.invokevirtual 138, 3) := by decide +kernel
theorem dX6_plot_94 : decode cX6_plot 94 = .ok (.ireturn, 1) := by decide +kernel
theorem dX6_plot_95 : decode cX6_plot 95 = .ok (.aload_n 0, 1) := by decide +kernel
theorem dX6_plot_96 : decode cX6_plot 96 = .ok (.getfield 10, 3) := by decide +kernel
theorem dX6_plot_99 : decode cX6_plot 99 = .ok (.getfield 141, 3) := by decide +kernel
theorem dX6_plot_102 : decode cX6_plot 102 = .ok (.iload_n 1, 1) := by decide +kernel
theorem dX6_plot_103 : decode cX6_plot 103 = .ok (.iaload, 1) := by decide +kernel
theorem dX6_plot_104 : decode cX6_plot 104 = .ok (.ireturn, 1) := by decide +kernel
theorem dX6_plot_105 : decode cX6_plot 105 = .ok (.aload_n 0, 1) := by decide +kernel
theorem dX6_plot_106 : decode cX6_plot 106 = .ok (.getfield 10, 3) := by decide +kernel
theorem dX6_plot_109 : decode cX6_plot 109 = .ok (.iload_n 1, 1) := by decide +kernel
theorem dX6_plot_110 : decode cX6_plot 110 = .ok (.invokevirtual 144, 3) := by decide +kernel
theorem dX6_plot_113 : decode cX6_plot 113 = .ok (.ireturn, 1) := by decide +kernel
theorem dX6_plot_114 : decode cX6_plot 114 = .ok (.new 47, 3) := by decide +kernel
theorem dX6_plot_117 : decode cX6_plot 117 = .ok (.dup, 1) := by decide +kernel
theorem dX6_plot_118 : decode cX6_plot 118 = .ok (.ldc 117, 2) := by decide +kernel
theorem dX6_plot_120 : decode cX6_plot 120 = .ok (.invokespecial 51, 3) := by decide +kernel
theorem dX6_plot_123 : decode cX6_plot 123 = .ok (.athrow, 1) := by decide +kernel
theorem dX6_burial_0 : decode cX6_burial 0 = .ok (.iload_n 1, 1) := by decide +kernel
theorem dX6_burial_1 : decode cX6_burial 1 = .ok (.invokestatic 119, 3) := by decide +kernel
theorem dX6_burial_4 : decode cX6_burial 4 = .ok (.ifCond .ne 13, 3) := by decide +kernel
theorem dX6_burial_7 : decode cX6_burial 7 = .ok (.new 123, 3) := by decide +kernel
theorem dX6_burial_10 : decode cX6_burial 10 = .ok (.dup, 1) := by decide +kernel
theorem dX6_burial_11 : decode cX6_burial 11 = .ok (.ldc 125, 2) := by decide +kernel
theorem dX6_burial_13 : decode cX6_burial 13 = .ok (.invokespecial 127, 3) := by decide +kernel
theorem dX6_burial_16 : decode cX6_burial 16 = .ok (.athrow, 1) := by decide +kernel
theorem dX6_burial_17 : decode cX6_burial 17 = .ok (.iload_n 2, 1) := by decide +kernel
theorem dX6_burial_18 : decode cX6_burial 18 = .ok (.ifCond .ge 13, 3) := by decide +kernel
theorem dX6_burial_21 : decode cX6_burial 21 = .ok (.new 47, 3) := by decide +kernel
theorem dX6_burial_24 : decode cX6_burial 24 = .ok (.dup, 1) := by decide +kernel
theorem dX6_burial_25 : decode cX6_burial 25 = .ok (.ldc 147, 2) := by decide +kernel
theorem dX6_burial_27 : decode cX6_burial 27 = .ok (.invokespecial 51, 3) := by decide +kernel
theorem dX6_burial_30 : decode cX6_burial 30 = .ok (.athrow, 1) := by decide +kernel
theorem dX6_burial_31 : decode cX6_burial 31 = .ok (.aload_n 0, 1) := by decide +kernel
theorem dX6_burial_32 : decode cX6_burial 32 = .ok (.getfield 10, 3) := by decide +kernel
theorem dX6_burial_35 : decode cX6_burial 35 = .ok (.iload_n 1, 1) := by decide +kernel
theorem dX6_burial_36 : decode cX6_burial 36 = .ok (.iload_n 2, 1) := by decide +kernel
theorem dX6_burial_37 : decode cX6_burial 37 = .ok (.invokevirtual 149, 3) := by decide +kernel
theorem dX6_burial_40 : decode cX6_burial 40 = .ok (.ireturn, 1) := by decide +kernel
theorem dX6_family_0 : decode cX6_family 0 = .ok (.iload_n 1, 1) := by decide +kernel
theorem dX6_family_1 : decode cX6_family 1 = .ok (.invokestatic 153, 3) := by decide +kernel
theorem dX6_family_4 : decode cX6_family 4 = .ok (.ifCond .ne 13, 3) := by decide +kernel
theorem dX6_family_7 : decode cX6_family 7 = .ok (.new 123, 3) := by decide +kernel
theorem dX6_family_10 : decode cX6_family 10 = .ok (.dup, 1) := by decide +kernel
theorem dX6_family_11 : decode cX6_family 11 = .ok (.ldc 156, 2) := by decide +kernel
theorem dX6_family_13 : decode cX6_family 13 = .ok (.invokespecial 127, 3) := by decide +kernel
theorem dX6_family_16 : decode cX6_family 16 = .ok (.athrow, 1) := by decide +kernel
theorem dX6_family_17 : decode cX6_family 17 = .ok (.iload_n 2, 1) := by decide +kernel
theorem dX6_family_18 : decode cX6_family 18 = .ok (.tableswitch 93 0 5 #[38, 47, 56, 65, 74, 83], 38) := by decide +kernel
theorem dX6_family_56 : decode cX6_family 56 = .ok (.aload_n 0, 1) := by decide +kernel
theorem dX6_family_57 : decode cX6_family 57 = .ok (.getfield 10, 3) := by decide +kernel
theorem dX6_family_60 : decode cX6_family 60 = .ok (.iload_n 1, 1) := by decide +kernel
theorem dX6_family_61 : decode cX6_family 61 = .ok (.invokevirtual 158, 3) := by decide +kernel
theorem dX6_family_64 : decode cX6_family 64 = .ok (.ireturn, 1) := by decide +kernel
theorem dX6_family_65 : decode cX6_family 65 = .ok (.aload_n 0, 1) := by decide +kernel
theorem dX6_family_66 : decode cX6_family 66 = .ok (.getfield 10, 3) := by decide +kernel
theorem dX6_family_69 : decode cX6_family 69 = .ok (.iload_n 1, 1) := by decide +kernel
theorem dX6_family_70 : decode cX6_family 70 = .ok (.invokevirtual 161, 3) := by decide +kernel
theorem dX6_family_73 : decode cX6_family 73 = .ok (.ireturn, 1) := by decide +kernel
theorem dX6_family_74 : decode cX6_family 74 = .ok (.aload_n 0, 1) := by decide +kernel
theorem dX6_family_75 : decode cX6_family 75 = .ok (.getfield 10, 3) := by decide +kernel
theorem dX6_family_78 : decode cX6_family 78 = .ok (.iload_n 1, 1) := by decide +kernel
theorem dX6_family_79 : decode cX6_family 79 = .ok (.invokevirtual 164, 3) := by decide +kernel
theorem dX6_family_82 : decode cX6_family 82 = .ok (.ireturn, 1) := by decide +kernel
theorem dX6_family_83 : decode cX6_family 83 = .ok (.aload_n 0, 1) := by decide +kernel
theorem dX6_family_84 : decode cX6_family 84 = .ok (.getfield 10, 3) := by decide +kernel
theorem dX6_family_87 : decode cX6_family 87 = .ok (.iload_n 1, 1) := by decide +kernel
theorem dX6_family_88 : decode cX6_family 88 = .ok (.invokevirtual 167, 3) := by decide +kernel
theorem dX6_family_91 : decode cX6_family 91 = .ok (.ireturn, 1) := by decide +kernel
theorem dX6_family_92 : decode cX6_family 92 = .ok (.aload_n 0, 1) := by decide +kernel
theorem dX6_family_93 : decode cX6_family 93 = .ok (.getfield 10, 3) := by decide +kernel
theorem dX6_family_96 : decode cX6_family 96 = .ok (.iload_n 1, 1) := by decide +kernel
theorem dX6_family_97 : decode cX6_family 97 = .ok (.invokevirtual 170, 3) := by decide +kernel
theorem dX6_family_100 : decode cX6_family 100 = .ok (.ireturn, 1) := by decide +kernel
theorem dX6_family_101 : decode cX6_family 101 = .ok (.aload_n 0, 1) := by decide +kernel
theorem dX6_family_102 : decode cX6_family 102 = .ok (.getfield 10, 3) := by decide +kernel
theorem dX6_family_105 : decode cX6_family 105 = .ok (.getfield 173, 3) := by decide +kernel
theorem dX6_family_108 : decode cX6_family 108 = .ok (.iload_n 1, 1) := by decide +kernel
theorem dX6_family_109 : decode cX6_family 109 = .ok (.iaload, 1) := by decide +kernel
theorem dX6_family_110 : decode cX6_family 110 = .ok (.ireturn, 1) := by decide +kernel
theorem dX6_family_111 : decode cX6_family 111 = .ok (.new 47, 3) := by decide +kernel
theorem dX6_family_114 : decode cX6_family 114 = .ok (.dup, 1) := by decide +kernel
theorem dX6_family_115 : decode cX6_family 115 = .ok (.ldc 117, 2) := by decide +kernel
theorem dX6_family_117 : decode cX6_family 117 = .ok (.invokespecial 51, 3) := by decide +kernel
theorem dX6_family_120 : decode cX6_family 120 = .ok (.athrow, 1) := by decide +kernel
theorem dX6_waiting_0 : decode cX6_waiting 0 = .ok (.iload_n 1, 1) := by decide +kernel
theorem dX6_waiting_1 : decode cX6_waiting 1 = .ok (.ifCond .ge 13, 3) := by decide +kernel
theorem dX6_waiting_4 : decode cX6_waiting 4 = .ok (.new 47, 3) := by decide +kernel
theorem dX6_waiting_7 : decode cX6_waiting 7 = .ok (.dup, 1) := by decide +kernel
theorem dX6_waiting_8 : decode cX6_waiting 8 = .ok (.ldc 176, 2) := by decide +kernel
theorem dX6_waiting_10 : decode cX6_waiting 10 = .ok (.invokespecial 51, 3) := by decide +kernel
theorem dX6_waiting_13 : decode cX6_waiting 13 = .ok (.athrow, 1) := by decide +kernel
theorem dX6_waiting_14 : decode cX6_waiting 14 = .ok (.aload_n 0, 1) := by decide +kernel
theorem dX6_waiting_15 : decode cX6_waiting 15 = .ok (.getfield 10, 3) := by decide +kernel
theorem dX6_waiting_18 : decode cX6_waiting 18 = .ok (.iload_n 1, 1) := by decide +kernel
theorem dX6_waiting_19 : decode cX6_waiting 19 = .ok (.invokevirtual 178, 3) := by decide +kernel
theorem dX6_waiting_22 : decode cX6_waiting 22 = .ok (.ireturn, 1) := by decide +kernel
theorem dX6_line_0 : decode cX6_line 0 = .ok (.iload_n 1, 1) := by decide +kernel
theorem dX6_line_1 : decode cX6_line 1 = .ok (.invokestatic 119, 3) := by decide +kernel
theorem dX6_line_4 : decode cX6_line 4 = .ok (.ifCond .ne 13, 3) := by decide +kernel
theorem dX6_line_7 : decode cX6_line 7 = .ok (.new 123, 3) := by decide +kernel
theorem dX6_line_10 : decode cX6_line 10 = .ok (.dup, 1) := by decide +kernel
theorem dX6_line_11 : decode cX6_line 11 = .ok (.ldc 125, 2) := by decide +kernel
theorem dX6_line_13 : decode cX6_line 13 = .ok (.invokespecial 127, 3) := by decide +kernel
theorem dX6_line_16 : decode cX6_line 16 = .ok (.athrow, 1) := by decide +kernel
theorem dX6_line_17 : decode cX6_line 17 = .ok (.iload_n 2, 1) := by decide +kernel
theorem dX6_line_18 : decode cX6_line 18 = .ok (.ifCond .ge 13, 3) := by decide +kernel
theorem dX6_line_21 : decode cX6_line 21 = .ok (.new 47, 3) := by decide +kernel
theorem dX6_line_24 : decode cX6_line 24 = .ok (.dup, 1) := by decide +kernel
theorem dX6_line_25 : decode cX6_line 25 = .ok (.ldc 181, 2) := by decide +kernel
theorem dX6_line_27 : decode cX6_line 27 = .ok (.invokespecial 51, 3) := by decide +kernel
theorem dX6_line_30 : decode cX6_line 30 = .ok (.athrow, 1) := by decide +kernel
theorem dX6_line_31 : decode cX6_line 31 = .ok (.aload_n 0, 1) := by decide +kernel
theorem dX6_line_32 : decode cX6_line 32 = .ok (.getfield 43, 3) := by decide +kernel
theorem dX6_line_35 : decode cX6_line 35 = .ok (.iconst 0, 1) := by decide +kernel
theorem dX6_line_36 : decode cX6_line 36 = .ok (.invokevirtual 183, 3) := by decide +kernel
theorem dX6_line_39 : decode cX6_line 39 = .ok (.aload_n 0, 1) := by decide +kernel
theorem dX6_line_40 : decode cX6_line 40 = .ok (.getfield 10, 3) := by decide +kernel
theorem dX6_line_43 : decode cX6_line 43 = .ok (.iload_n 1, 1) := by decide +kernel
theorem dX6_line_44 : decode cX6_line 44 = .ok (.aload_n 0, 1) := by decide +kernel
theorem dX6_line_45 : decode cX6_line 45 = .ok (.getfield 43, 3) := by decide +kernel
theorem dX6_line_48 : decode cX6_line 48 = .ok (.invokevirtual 187, 3) := by decide +kernel
theorem dX6_line_51 : decode cX6_line 51 = .ok (.iload_n 2, 1) := by decide +kernel
theorem dX6_line_52 : decode cX6_line 52 = .ok (.aload_n 0, 1) := by decide +kernel
theorem dX6_line_53 : decode cX6_line 53 = .ok (.getfield 43, 3) := by decide +kernel
theorem dX6_line_56 : decode cX6_line 56 = .ok (.invokevirtual 191, 3) := by decide +kernel
theorem dX6_line_59 : decode cX6_line 59 = .ok (.if_icmp .ge 14, 3) := by decide +kernel
theorem dX6_line_62 : decode cX6_line 62 = .ok (.aload_n 0, 1) := by decide +kernel
theorem dX6_line_63 : decode cX6_line 63 = .ok (.getfield 43, 3) := by decide +kernel
theorem dX6_line_66 : decode cX6_line 66 = .ok (.iload_n 2, 1) := by decide +kernel
theorem dX6_line_67 : decode cX6_line 67 = .ok (.invokevirtual 194, 3) := by decide +kernel
theorem dX6_line_70 : decode cX6_line 70 = .ok (.goto 4, 3) := by decide +kernel
theorem dX6_line_73 : decode cX6_line 73 = .ok (.iconst (-1), 1) := by decide +kernel
theorem dX6_line_74 : decode cX6_line 74 = .ok (.ireturn, 1) := by decide +kernel
theorem dX6_depth_0 : decode cX6_depth 0 = .ok (.iload_n 1, 1) := by decide +kernel
theorem dX6_depth_1 : decode cX6_depth 1 = .ok (.invokestatic 198, 3) := by decide +kernel
theorem dX6_depth_4 : decode cX6_depth 4 = .ok (.ifCond .ne 13, 3) := by decide +kernel
theorem dX6_depth_7 : decode cX6_depth 7 = .ok (.new 123, 3) := by decide +kernel
theorem dX6_depth_10 : decode cX6_depth 10 = .ok (.dup, 1) := by decide +kernel
theorem dX6_depth_11 : decode cX6_depth 11 = .ok (.ldc 201, 2) := by decide +kernel
theorem dX6_depth_13 : decode cX6_depth 13 = .ok (.invokespecial 127, 3) := by decide +kernel
theorem dX6_depth_16 : decode cX6_depth 16 = .ok (.athrow, 1) := by decide +kernel
theorem dX6_depth_17 : decode cX6_depth 17 = .ok (.aload_n 0, 1) := by decide +kernel
theorem dX6_depth_18 : decode cX6_depth 18 = .ok (.getfield 10, 3) := by decide +kernel
theorem dX6_depth_21 : decode cX6_depth 21 = .ok (.getfield 203, 3) := by decide +kernel
theorem dX6_depth_24 : decode cX6_depth 24 = .ok (.iload_n 1, 1) := by decide +kernel
theorem dX6_depth_25 : decode cX6_depth 25 = .ok (.iaload, 1) := by decide +kernel
theorem dX6_depth_26 : decode cX6_depth 26 = .ok (.ireturn, 1) := by decide +kernel
theorem dX6_setting_0 : decode cX6_setting 0 = .ok (.iload_n 1, 1) := by decide +kernel
theorem dX6_setting_1 : decode cX6_setting 1 = .ok (.invokestatic 206, 3) := by decide +kernel
theorem dX6_setting_4 : decode cX6_setting 4 = .ok (.ifCond .ne 13, 3) := by decide +kernel
theorem dX6_setting_7 : decode cX6_setting 7 = .ok (.new 47, 3) := by decide +kernel
theorem dX6_setting_10 : decode cX6_setting 10 = .ok (.dup, 1) := by decide +kernel
theorem dX6_setting_11 : decode cX6_setting 11 = .ok (.ldc 209, 2) := by decide +kernel
theorem dX6_setting_13 : decode cX6_setting 13 = .ok (.invokespecial 51, 3) := by decide +kernel
theorem dX6_setting_16 : decode cX6_setting 16 = .ok (.athrow, 1) := by decide +kernel
theorem dX6_setting_17 : decode cX6_setting 17 = .ok (.aload_n 0, 1) := by decide +kernel
theorem dX6_setting_18 : decode cX6_setting 18 = .ok (.getfield 10, 3) := by decide +kernel
theorem dX6_setting_21 : decode cX6_setting 21 = .ok (.getfield 211, 3) := by decide +kernel
theorem dX6_setting_24 : decode cX6_setting 24 = .ok (.iload_n 1, 1) := by decide +kernel
theorem dX6_setting_25 : decode cX6_setting 25 = .ok (.iaload, 1) := by decide +kernel
theorem dX6_setting_26 : decode cX6_setting 26 = .ok (.ireturn, 1) := by decide +kernel
theorem dX6_ask_0 : decode cX6_ask 0 = .ok (.iload_n 1, 1) := by decide +kernel
theorem dX6_ask_1 : decode cX6_ask 1 = .ok (.invokestatic 153, 3) := by decide +kernel
theorem dX6_ask_4 : decode cX6_ask 4 = .ok (.ifCond .ne 13, 3) := by decide +kernel
theorem dX6_ask_7 : decode cX6_ask 7 = .ok (.new 123, 3) := by decide +kernel
theorem dX6_ask_10 : decode cX6_ask 10 = .ok (.dup, 1) := by decide +kernel
theorem dX6_ask_11 : decode cX6_ask 11 = .ok (.ldc 156, 2) := by decide +kernel
theorem dX6_ask_13 : decode cX6_ask 13 = .ok (.invokespecial 127, 3) := by decide +kernel
theorem dX6_ask_16 : decode cX6_ask 16 = .ok (.athrow, 1) := by decide +kernel
theorem dX6_ask_17 : decode cX6_ask 17 = .ok (.aload_n 0, 1) := by decide +kernel
theorem dX6_ask_18 : decode cX6_ask 18 = .ok (.getfield 10, 3) := by decide +kernel
theorem dX6_ask_21 : decode cX6_ask 21 = .ok (.invokevirtual 214, 3) := by decide +kernel
theorem dX6_ask_24 : decode cX6_ask 24 = .ok (.ifCond .ne 13, 3) := by decide +kernel
theorem dX6_ask_27 : decode cX6_ask 27 = .ok (.new 58, 3) := by decide +kernel
theorem dX6_ask_30 : decode cX6_ask 30 = .ok (.dup, 1) := by decide +kernel
theorem dX6_ask_31 : decode cX6_ask 31 = .ok (.ldc 217, 2) := by decide +kernel
theorem dX6_ask_33 : decode cX6_ask 33 = .ok (.invokespecial 62, 3) := by decide +kernel
theorem dX6_ask_36 : decode cX6_ask 36 = .ok (.athrow, 1) := by decide +kernel
theorem dX6_ask_37 : decode cX6_ask 37 = .ok (.aload_n 0, 1) := by decide +kernel
theorem dX6_ask_38 : decode cX6_ask 38 = .ok (.getfield 22, 3) := by decide +kernel
theorem dX6_ask_41 : decode cX6_ask 41 = .ok (.aload_n 0, 1) := by decide +kernel
theorem dX6_ask_42 : decode cX6_ask 42 = .ok (.getfield 10, 3) := by decide +kernel
theorem dX6_ask_45 : decode cX6_ask 45 = .ok (.invokevirtual 219, 3) := by decide +kernel
theorem dX6_ask_48 : decode cX6_ask 48 = .ok (.aload_n 0, 1) := by decide +kernel
theorem dX6_ask_49 : decode cX6_ask 49 = .ok (.getfield 10, 3) := by decide +kernel
theorem dX6_ask_52 : decode cX6_ask 52 = .ok (.iload_n 1, 1) := by decide +kernel
theorem dX6_ask_53 : decode cX6_ask 53 = .ok (.invokevirtual 223, 3) := by decide +kernel
theorem dX6_ask_56 : decode cX6_ask 56 = .ok (.ireturn, 1) := by decide +kernel
theorem dX6_let_0 : decode cX6_let 0 = .ok (.iload_n 1, 1) := by decide +kernel
theorem dX6_let_1 : decode cX6_let 1 = .ok (.invokestatic 153, 3) := by decide +kernel
theorem dX6_let_4 : decode cX6_let 4 = .ok (.ifCond .eq 10, 3) := by decide +kernel
theorem dX6_let_7 : decode cX6_let 7 = .ok (.iload_n 2, 1) := by decide +kernel
theorem dX6_let_8 : decode cX6_let 8 = .ok (.invokestatic 119, 3) := by decide +kernel
theorem dX6_let_11 : decode cX6_let 11 = .ok (.ifCond .ne 13, 3) := by decide +kernel
theorem dX6_let_14 : decode cX6_let 14 = .ok (.new 123, 3) := by decide +kernel
theorem dX6_let_17 : decode cX6_let 17 = .ok (.dup, 1) := by decide +kernel
theorem dX6_let_18 : decode cX6_let 18 = .ok (.ldc 226, 2) := by decide +kernel
theorem dX6_let_20 : decode cX6_let 20 = .ok (.invokespecial 127, 3) := by decide +kernel
theorem dX6_let_23 : decode cX6_let 23 = .ok (.athrow, 1) := by decide +kernel
theorem dX6_let_24 : decode cX6_let 24 = .ok (.aload_n 0, 1) := by decide +kernel
theorem dX6_let_25 : decode cX6_let 25 = .ok (.getfield 10, 3) := by decide +kernel
theorem dX6_let_28 : decode cX6_let 28 = .ok (.iload_n 2, 1) := by decide +kernel
theorem dX6_let_29 : decode cX6_let 29 = .ok (.invokevirtual 228, 3) := by decide +kernel
theorem dX6_let_32 : decode cX6_let 32 = .ok (.ifCond .ne 13, 3) := by decide +kernel
theorem dX6_let_35 : decode cX6_let 35 = .ok (.new 58, 3) := by decide +kernel
theorem dX6_let_38 : decode cX6_let 38 = .ok (.dup, 1) := by decide +kernel
theorem dX6_let_39 : decode cX6_let 39 = .ok (.ldc 231, 2) := by decide +kernel
theorem dX6_let_41 : decode cX6_let 41 = .ok (.invokespecial 62, 3) := by decide +kernel
theorem dX6_let_44 : decode cX6_let 44 = .ok (.athrow, 1) := by decide +kernel
theorem dX6_let_45 : decode cX6_let 45 = .ok (.aload_n 0, 1) := by decide +kernel
theorem dX6_let_46 : decode cX6_let 46 = .ok (.getfield 22, 3) := by decide +kernel
theorem dX6_let_49 : decode cX6_let 49 = .ok (.aload_n 0, 1) := by decide +kernel
theorem dX6_let_50 : decode cX6_let 50 = .ok (.getfield 10, 3) := by decide +kernel
theorem dX6_let_53 : decode cX6_let 53 = .ok (.invokevirtual 219, 3) := by decide +kernel
theorem dX6_let_56 : decode cX6_let 56 = .ok (.aload_n 0, 1) := by decide +kernel
theorem dX6_let_57 : decode cX6_let 57 = .ok (.getfield 10, 3) := by decide +kernel
theorem dX6_let_60 : decode cX6_let 60 = .ok (.iload_n 1, 1) := by decide +kernel
theorem dX6_let_61 : decode cX6_let 61 = .ok (.iload_n 2, 1) := by decide +kernel
theorem dX6_let_62 : decode cX6_let 62 = .ok (.invokevirtual 233, 3) := by decide +kernel
theorem dX6_let_65 : decode cX6_let 65 = .ok (.aload_n 0, 1) := by decide +kernel
theorem dX6_let_66 : decode cX6_let 66 = .ok (.getfield 10, 3) := by decide +kernel
theorem dX6_let_69 : decode cX6_let 69 = .ok (.getfield 132, 3) := by decide +kernel
theorem dX6_let_72 : decode cX6_let 72 = .ok (.iload_n 2, 1) := by decide +kernel
theorem dX6_let_73 : decode cX6_let 73 = .ok (.iaload, 1) := by decide +kernel
theorem dX6_let_74 : decode cX6_let 74 = .ok (.ireturn, 1) := by decide +kernel
theorem dX6_bury_0 : decode cX6_bury 0 = .ok (.iload_n 1, 1) := by decide +kernel
theorem dX6_bury_1 : decode cX6_bury 1 = .ok (.invokestatic 119, 3) := by decide +kernel
theorem dX6_bury_4 : decode cX6_bury 4 = .ok (.ifCond .ne 13, 3) := by decide +kernel
theorem dX6_bury_7 : decode cX6_bury 7 = .ok (.new 123, 3) := by decide +kernel
theorem dX6_bury_10 : decode cX6_bury 10 = .ok (.dup, 1) := by decide +kernel
theorem dX6_bury_11 : decode cX6_bury 11 = .ok (.ldc 125, 2) := by decide +kernel
theorem dX6_bury_13 : decode cX6_bury 13 = .ok (.invokespecial 127, 3) := by decide +kernel
theorem dX6_bury_16 : decode cX6_bury 16 = .ok (.athrow, 1) := by decide +kernel
theorem dX6_bury_17 : decode cX6_bury 17 = .ok (.aload_n 0, 1) := by decide +kernel
theorem dX6_bury_18 : decode cX6_bury 18 = .ok (.getfield 10, 3) := by decide +kernel
theorem dX6_bury_21 : decode cX6_bury 21 = .ok (.iload_n 1, 1) := by decide +kernel
theorem dX6_bury_22 : decode cX6_bury 22 = .ok (.invokevirtual 237, 3) := by decide +kernel
theorem dX6_bury_25 : decode cX6_bury 25 = .ok (.ifCond .ne 13, 3) := by decide +kernel
theorem dX6_bury_28 : decode cX6_bury 28 = .ok (.new 58, 3) := by decide +kernel
theorem dX6_bury_31 : decode cX6_bury 31 = .ok (.dup, 1) := by decide +kernel
theorem dX6_bury_32 : decode cX6_bury 32 = .ok (.ldc 240, 2) := by decide +kernel
theorem dX6_bury_34 : decode cX6_bury 34 = .ok (.invokespecial 62, 3) := by decide +kernel
theorem dX6_bury_37 : decode cX6_bury 37 = .ok (.athrow, 1) := by decide +kernel
theorem dX6_bury_38 : decode cX6_bury 38 = .ok (.aload_n 0, 1) := by decide +kernel
theorem dX6_bury_39 : decode cX6_bury 39 = .ok (.getfield 22, 3) := by decide +kernel
theorem dX6_bury_42 : decode cX6_bury 42 = .ok (.aload_n 0, 1) := by decide +kernel
theorem dX6_bury_43 : decode cX6_bury 43 = .ok (.getfield 10, 3) := by decide +kernel
theorem dX6_bury_46 : decode cX6_bury 46 = .ok (.invokevirtual 219, 3) := by decide +kernel
theorem dX6_bury_49 : decode cX6_bury 49 = .ok (.aload_n 0, 1) := by decide +kernel
theorem dX6_bury_50 : decode cX6_bury 50 = .ok (.getfield 10, 3) := by decide +kernel
theorem dX6_bury_53 : decode cX6_bury 53 = .ok (.iload_n 1, 1) := by decide +kernel
theorem dX6_bury_54 : decode cX6_bury 54 = .ok (.invokevirtual 242, 3) := by decide +kernel
theorem dX6_bury_57 : decode cX6_bury 57 = .ok (.aload_n 0, 1) := by decide +kernel
theorem dX6_bury_58 : decode cX6_bury 58 = .ok (.getfield 10, 3) := by decide +kernel
theorem dX6_bury_61 : decode cX6_bury 61 = .ok (.getfield 132, 3) := by decide +kernel
theorem dX6_bury_64 : decode cX6_bury 64 = .ok (.iload_n 1, 1) := by decide +kernel
theorem dX6_bury_65 : decode cX6_bury 65 = .ok (.iaload, 1) := by decide +kernel
theorem dX6_bury_66 : decode cX6_bury 66 = .ok (.ireturn, 1) := by decide +kernel
theorem dX6_renew_0 : decode cX6_renew 0 = .ok (.iload_n 1, 1) := by decide +kernel
theorem dX6_renew_1 : decode cX6_renew 1 = .ok (.invokestatic 119, 3) := by decide +kernel
theorem dX6_renew_4 : decode cX6_renew 4 = .ok (.ifCond .ne 13, 3) := by decide +kernel
theorem dX6_renew_7 : decode cX6_renew 7 = .ok (.new 123, 3) := by decide +kernel
theorem dX6_renew_10 : decode cX6_renew 10 = .ok (.dup, 1) := by decide +kernel
theorem dX6_renew_11 : decode cX6_renew 11 = .ok (.ldc 125, 2) := by decide +kernel
theorem dX6_renew_13 : decode cX6_renew 13 = .ok (.invokespecial 127, 3) := by decide +kernel
theorem dX6_renew_16 : decode cX6_renew 16 = .ok (.athrow, 1) := by decide +kernel
theorem dX6_renew_17 : decode cX6_renew 17 = .ok (.iload_n 2, 1) := by decide +kernel
theorem dX6_renew_18 : decode cX6_renew 18 = .ok (.invokestatic 245, 3) := by decide +kernel
theorem dX6_renew_21 : decode cX6_renew 21 = .ok (.ifCond .ne 13, 3) := by decide +kernel
theorem dX6_renew_24 : decode cX6_renew 24 = .ok (.new 47, 3) := by decide +kernel
theorem dX6_renew_27 : decode cX6_renew 27 = .ok (.dup, 1) := by decide +kernel
theorem dX6_renew_28 : decode cX6_renew 28 = .ok (.ldc 248, 2) := by decide +kernel
theorem dX6_renew_30 : decode cX6_renew 30 = .ok (.invokespecial 51, 3) := by decide +kernel
theorem dX6_renew_33 : decode cX6_renew 33 = .ok (.athrow, 1) := by decide +kernel
theorem dX6_renew_34 : decode cX6_renew 34 = .ok (.aload_n 0, 1) := by decide +kernel
theorem dX6_renew_35 : decode cX6_renew 35 = .ok (.getfield 10, 3) := by decide +kernel
theorem dX6_renew_38 : decode cX6_renew 38 = .ok (.iload_n 1, 1) := by decide +kernel
theorem dX6_renew_39 : decode cX6_renew 39 = .ok (.invokevirtual 228, 3) := by decide +kernel
theorem dX6_renew_42 : decode cX6_renew 42 = .ok (.ifCond .ne 14, 3) := by decide +kernel
theorem dX6_renew_45 : decode cX6_renew 45 = .ok (.aload_n 0, 1) := by decide +kernel
theorem dX6_renew_46 : decode cX6_renew 46 = .ok (.getfield 10, 3) := by decide +kernel
theorem dX6_renew_49 : decode cX6_renew 49 = .ok (.iload_n 1, 1) := by decide +kernel
theorem dX6_renew_50 : decode cX6_renew 50 = .ok (.invokevirtual 250, 3) := by decide +kernel
theorem dX6_renew_53 : decode cX6_renew 53 = .ok (.ifCond .eq 13, 3) := by decide +kernel
theorem dX6_renew_56 : decode cX6_renew 56 = .ok (.new 58, 3) := by decide +kernel
theorem dX6_renew_59 : decode cX6_renew 59 = .ok (.dup, 1) := by decide +kernel
theorem dX6_renew_60 : decode cX6_renew 60 = .ok (.ldc 253, 2) := by decide +kernel
theorem dX6_renew_62 : decode cX6_renew 62 = .ok (.invokespecial 62, 3) := by decide +kernel
theorem dX6_renew_65 : decode cX6_renew 65 = .ok (.athrow, 1) := by decide +kernel
theorem dX6_renew_66 : decode cX6_renew 66 = .ok (.aload_n 0, 1) := by decide +kernel
theorem dX6_renew_67 : decode cX6_renew 67 = .ok (.getfield 22, 3) := by decide +kernel
theorem dX6_renew_70 : decode cX6_renew 70 = .ok (.aload_n 0, 1) := by decide +kernel
theorem dX6_renew_71 : decode cX6_renew 71 = .ok (.getfield 10, 3) := by decide +kernel
theorem dX6_renew_74 : decode cX6_renew 74 = .ok (.invokevirtual 219, 3) := by decide +kernel
theorem dX6_renew_77 : decode cX6_renew 77 = .ok (.aload_n 0, 1) := by decide +kernel
theorem dX6_renew_78 : decode cX6_renew 78 = .ok (.getfield 10, 3) := by decide +kernel
theorem dX6_renew_81 : decode cX6_renew 81 = .ok (.iload_n 1, 1) := by decide +kernel
theorem dX6_renew_82 : decode cX6_renew 82 = .ok (.iload_n 2, 1) := by decide +kernel
theorem dX6_renew_83 : decode cX6_renew 83 = .ok (.invokevirtual 255, 3) := by decide +kernel
theorem dX6_renew_86 : decode cX6_renew 86 = .ok (.aload_n 0, 1) := by decide +kernel
theorem dX6_renew_87 : decode cX6_renew 87 = .ok (.getfield 10, 3) := by decide +kernel
theorem dX6_renew_90 : decode cX6_renew 90 = .ok (.getfield 132, 3) := by decide +kernel
theorem dX6_renew_93 : decode cX6_renew 93 = .ok (.iload_n 1, 1) := by decide +kernel
theorem dX6_renew_94 : decode cX6_renew 94 = .ok (.iaload, 1) := by decide +kernel
theorem dX6_renew_95 : decode cX6_renew 95 = .ok (.ireturn, 1) := by decide +kernel
theorem dX6_claim_0 : decode cX6_claim 0 = .ok (.iload_n 1, 1) := by decide +kernel
theorem dX6_claim_1 : decode cX6_claim 1 = .ok (.invokestatic 119, 3) := by decide +kernel
theorem dX6_claim_4 : decode cX6_claim 4 = .ok (.ifCond .eq 10, 3) := by decide +kernel
theorem dX6_claim_7 : decode cX6_claim 7 = .ok (.iload_n 2, 1) := by decide +kernel
theorem dX6_claim_8 : decode cX6_claim 8 = .ok (.invokestatic 153, 3) := by decide +kernel
theorem dX6_claim_11 : decode cX6_claim 11 = .ok (.ifCond .ne 14, 3) := by decide +kernel
theorem dX6_claim_14 : decode cX6_claim 14 = .ok (.new 123, 3) := by decide +kernel
theorem dX6_claim_17 : decode cX6_claim 17 = .ok (.dup, 1) := by decide +kernel
theorem dX6_claim_18 : decode cX6_claim 18 = .ok (.ldc_w 258, 3) := by decide +kernel
theorem dX6_claim_21 : decode cX6_claim 21 = .ok (.invokespecial 127, 3) := by decide +kernel
theorem dX6_claim_24 : decode cX6_claim 24 = .ok (.athrow, 1) := by decide +kernel
theorem dX6_claim_25 : decode cX6_claim 25 = .ok (.aload_n 0, 1) := by decide +kernel
theorem dX6_claim_26 : decode cX6_claim 26 = .ok (.getfield 10, 3) := by decide +kernel
theorem dX6_claim_29 : decode cX6_claim 29 = .ok (.iload_n 1, 1) := by decide +kernel
theorem dX6_claim_30 : decode cX6_claim 30 = .ok (.iload_n 2, 1) := by decide +kernel
theorem dX6_claim_31 : decode cX6_claim 31 = .ok (.invokevirtual 260, 3) := by decide +kernel
theorem dX6_claim_34 : decode cX6_claim 34 = .ok (.ifCond .ne 14, 3) := by decide +kernel
theorem dX6_claim_37 : decode cX6_claim 37 = .ok (.new 58, 3) := by decide +kernel
theorem dX6_claim_40 : decode cX6_claim 40 = .ok (.dup, 1) := by decide +kernel
theorem dX6_claim_41 : decode cX6_claim 41 = .ok (.ldc_w 264, 3) := by decide +kernel
theorem dX6_claim_44 : decode cX6_claim 44 = .ok (.invokespecial 62, 3) := by decide +kernel
theorem dX6_claim_47 : decode cX6_claim 47 = .ok (.athrow, 1) := by decide +kernel
theorem dX6_claim_48 : decode cX6_claim 48 = .ok (.aload_n 0, 1) := by decide +kernel
theorem dX6_claim_49 : decode cX6_claim 49 = .ok (.getfield 22, 3) := by decide +kernel
theorem dX6_claim_52 : decode cX6_claim 52 = .ok (.aload_n 0, 1) := by decide +kernel
theorem dX6_claim_53 : decode cX6_claim 53 = .ok (.getfield 10, 3) := by decide +kernel
theorem dX6_claim_56 : decode cX6_claim 56 = .ok (.invokevirtual 219, 3) := by decide +kernel
theorem dX6_claim_59 : decode cX6_claim 59 = .ok (.aload_n 0, 1) := by decide +kernel
theorem dX6_claim_60 : decode cX6_claim 60 = .ok (.getfield 10, 3) := by decide +kernel
theorem dX6_claim_63 : decode cX6_claim 63 = .ok (.iload_n 1, 1) := by decide +kernel
theorem dX6_claim_64 : decode cX6_claim 64 = .ok (.iload_n 2, 1) := by decide +kernel
theorem dX6_claim_65 : decode cX6_claim 65 = .ok (.invokevirtual 266, 3) := by decide +kernel
theorem dX6_claim_68 : decode cX6_claim 68 = .ok (.aload_n 0, 1) := by decide +kernel
theorem dX6_claim_69 : decode cX6_claim 69 = .ok (.getfield 10, 3) := by decide +kernel
theorem dX6_claim_72 : decode cX6_claim 72 = .ok (.invokevirtual 99, 3) := by decide +kernel
theorem dX6_claim_75 : decode cX6_claim 75 = .ok (.ireturn, 1) := by decide +kernel
theorem dX6_settle_0 : decode cX6_settle 0 = .ok (.iload_n 1, 1) := by decide +kernel
theorem dX6_settle_1 : decode cX6_settle 1 = .ok (.invokestatic 119, 3) := by decide +kernel
theorem dX6_settle_4 : decode cX6_settle 4 = .ok (.ifCond .ne 13, 3) := by decide +kernel
theorem dX6_settle_7 : decode cX6_settle 7 = .ok (.new 123, 3) := by decide +kernel
theorem dX6_settle_10 : decode cX6_settle 10 = .ok (.dup, 1) := by decide +kernel
theorem dX6_settle_11 : decode cX6_settle 11 = .ok (.ldc 125, 2) := by decide +kernel
theorem dX6_settle_13 : decode cX6_settle 13 = .ok (.invokespecial 127, 3) := by decide +kernel
theorem dX6_settle_16 : decode cX6_settle 16 = .ok (.athrow, 1) := by decide +kernel
theorem dX6_settle_17 : decode cX6_settle 17 = .ok (.aload_n 0, 1) := by decide +kernel
theorem dX6_settle_18 : decode cX6_settle 18 = .ok (.getfield 10, 3) := by decide +kernel
theorem dX6_settle_21 : decode cX6_settle 21 = .ok (.iload_n 1, 1) := by decide +kernel
theorem dX6_settle_22 : decode cX6_settle 22 = .ok (.invokevirtual 250, 3) := by decide +kernel
theorem dX6_settle_25 : decode cX6_settle 25 = .ok (.ifCond .ne 14, 3) := by decide +kernel
theorem dX6_settle_28 : decode cX6_settle 28 = .ok (.new 58, 3) := by decide +kernel
theorem dX6_settle_31 : decode cX6_settle 31 = .ok (.dup, 1) := by decide +kernel
theorem dX6_settle_32 : decode cX6_settle 32 = .ok (.ldc_w 269, 3) := by decide +kernel
theorem dX6_settle_35 : decode cX6_settle 35 = .ok (.invokespecial 62, 3) := by decide +kernel
theorem dX6_settle_38 : decode cX6_settle 38 = .ok (.athrow, 1) := by decide +kernel
theorem dX6_settle_39 : decode cX6_settle 39 = .ok (.aload_n 0, 1) := by decide +kernel
theorem dX6_settle_40 : decode cX6_settle 40 = .ok (.getfield 22, 3) := by decide +kernel
theorem dX6_settle_43 : decode cX6_settle 43 = .ok (.aload_n 0, 1) := by decide +kernel
theorem dX6_settle_44 : decode cX6_settle 44 = .ok (.getfield 10, 3) := by decide +kernel
theorem dX6_settle_47 : decode cX6_settle 47 = .ok (.invokevirtual 219, 3) := by decide +kernel
theorem dX6_settle_50 : decode cX6_settle 50 = .ok (.aload_n 0, 1) := by decide +kernel
theorem dX6_settle_51 : decode cX6_settle 51 = .ok (.getfield 10, 3) := by decide +kernel
theorem dX6_settle_54 : decode cX6_settle 54 = .ok (.iload_n 1, 1) := by decide +kernel
theorem dX6_settle_55 : decode cX6_settle 55 = .ok (.iload_n 2, 1) := by decide +kernel
theorem dX6_settle_56 : decode cX6_settle 56 = .ok (.invokevirtual 271, 3) := by decide +kernel
theorem dX6_settle_59 : decode cX6_settle 59 = .ok (.aload_n 0, 1) := by decide +kernel
theorem dX6_settle_60 : decode cX6_settle 60 = .ok (.getfield 10, 3) := by decide +kernel
theorem dX6_settle_63 : decode cX6_settle 63 = .ok (.getfield 128, 3) := by decide +kernel
theorem dX6_settle_66 : decode cX6_settle 66 = .ok (.iload_n 1, 1) := by decide +kernel
theorem dX6_settle_67 : decode cX6_settle 67 = .ok (.iaload, 1) := by decide +kernel
theorem dX6_settle_68 : decode cX6_settle 68 = .ok (.ireturn, 1) := by decide +kernel
theorem dX6_clear_0 : decode cX6_clear 0 = .ok (.iload_n 1, 1) := by decide +kernel
theorem dX6_clear_1 : decode cX6_clear 1 = .ok (.invokestatic 119, 3) := by decide +kernel
theorem dX6_clear_4 : decode cX6_clear 4 = .ok (.ifCond .ne 13, 3) := by decide +kernel
theorem dX6_clear_7 : decode cX6_clear 7 = .ok (.new 123, 3) := by decide +kernel
theorem dX6_clear_10 : decode cX6_clear 10 = .ok (.dup, 1) := by decide +kernel
theorem dX6_clear_11 : decode cX6_clear 11 = .ok (.ldc 125, 2) := by decide +kernel
theorem dX6_clear_13 : decode cX6_clear 13 = .ok (.invokespecial 127, 3) := by decide +kernel
theorem dX6_clear_16 : decode cX6_clear 16 = .ok (.athrow, 1) := by decide +kernel
theorem dX6_clear_17 : decode cX6_clear 17 = .ok (.aload_n 0, 1) := by decide +kernel
theorem dX6_clear_18 : decode cX6_clear 18 = .ok (.getfield 10, 3) := by decide +kernel
theorem dX6_clear_21 : decode cX6_clear 21 = .ok (.iload_n 1, 1) := by decide +kernel
theorem dX6_clear_22 : decode cX6_clear 22 = .ok (.invokevirtual 275, 3) := by decide +kernel
theorem dX6_clear_25 : decode cX6_clear 25 = .ok (.ifCond .ne 14, 3) := by decide +kernel
theorem dX6_clear_28 : decode cX6_clear 28 = .ok (.new 58, 3) := by decide +kernel
theorem dX6_clear_31 : decode cX6_clear 31 = .ok (.dup, 1) := by decide +kernel
theorem dX6_clear_32 : decode cX6_clear 32 = .ok (.ldc_w 278, 3) := by decide +kernel
theorem dX6_clear_35 : decode cX6_clear 35 = .ok (.invokespecial 62, 3) := by decide +kernel
theorem dX6_clear_38 : decode cX6_clear 38 = .ok (.athrow, 1) := by decide +kernel
theorem dX6_clear_39 : decode cX6_clear 39 = .ok (.aload_n 0, 1) := by decide +kernel
theorem dX6_clear_40 : decode cX6_clear 40 = .ok (.getfield 22, 3) := by decide +kernel
theorem dX6_clear_43 : decode cX6_clear 43 = .ok (.aload_n 0, 1) := by decide +kernel
theorem dX6_clear_44 : decode cX6_clear 44 = .ok (.getfield 10, 3) := by decide +kernel
theorem dX6_clear_47 : decode cX6_clear 47 = .ok (.invokevirtual 219, 3) := by decide +kernel
theorem dX6_clear_50 : decode cX6_clear 50 = .ok (.aload_n 0, 1) := by decide +kernel
theorem dX6_clear_51 : decode cX6_clear 51 = .ok (.getfield 10, 3) := by decide +kernel
theorem dX6_clear_54 : decode cX6_clear 54 = .ok (.iload_n 1, 1) := by decide +kernel
theorem dX6_clear_55 : decode cX6_clear 55 = .ok (.invokevirtual 280, 3) := by decide +kernel
theorem dX6_clear_58 : decode cX6_clear 58 = .ok (.ireturn, 1) := by decide +kernel
