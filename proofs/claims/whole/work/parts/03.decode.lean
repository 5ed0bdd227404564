theorem dX0_init_0 : decode cX0_init 0 = .ok (.aload_n 0, 1) := by decide +kernel
theorem dX0_init_1 : decode cX0_init 1 = .ok (.invokespecial 3, 3) := by decide +kernel
theorem dX0_init_4 : decode cX0_init 4 = .ok (.aload_n 0, 1) := by decide +kernel
theorem dX0_init_5 : decode cX0_init 5 = .ok (.bipush 10, 2) := by decide +kernel
theorem dX0_init_7 : decode cX0_init 7 = .ok (.newarray .int, 2) := by decide +kernel
theorem dX0_init_9 : decode cX0_init 9 = .ok (.putfield 9, 3) := by decide +kernel
theorem dX0_init_12 : decode cX0_init 12 = .ok (.aload_n 0, 1) := by decide +kernel
theorem dX0_init_13 : decode cX0_init 13 = .ok (.bipush 10, 2) := by decide +kernel
theorem dX0_init_15 : decode cX0_init 15 = .ok (.newarray .int, 2) := by decide +kernel
theorem dX0_init_17 : decode cX0_init 17 = .ok (.putfield 15, 3) := by decide +kernel
theorem dX0_init_20 : decode cX0_init 20 = .ok (.aload_n 0, 1) := by decide +kernel
theorem dX0_init_21 : decode cX0_init 21 = .ok (.bipush 10, 2) := by decide +kernel
theorem dX0_init_23 : decode cX0_init 23 = .ok (.newarray .int, 2) := by decide +kernel
theorem dX0_init_25 : decode cX0_init 25 = .ok (.putfield 18, 3) := by decide +kernel
theorem dX0_init_28 : decode cX0_init 28 = .ok (.aload_n 0, 1) := by decide +kernel
theorem dX0_init_29 : decode cX0_init 29 = .ok (.bipush 10, 2) := by decide +kernel
theorem dX0_init_31 : decode cX0_init 31 = .ok (.newarray .int, 2) := by decide +kernel
theorem dX0_init_33 : decode cX0_init 33 = .ok (.putfield 21, 3) := by decide +kernel
theorem dX0_init_36 : decode cX0_init 36 = .ok (.aload_n 0, 1) := by decide +kernel
theorem dX0_init_37 : decode cX0_init 37 = .ok (.bipush 10, 2) := by decide +kernel
theorem dX0_init_39 : decode cX0_init 39 = .ok (.newarray .int, 2) := by decide +kernel
theorem dX0_init_41 : decode cX0_init 41 = .ok (.putfield 24, 3) := by decide +kernel
theorem dX0_init_44 : decode cX0_init 44 = .ok (.aload_n 0, 1) := by decide +kernel
theorem dX0_init_45 : decode cX0_init 45 = .ok (.bipush 10, 2) := by decide +kernel
theorem dX0_init_47 : decode cX0_init 47 = .ok (.newarray .int, 2) := by decide +kernel
theorem dX0_init_49 : decode cX0_init 49 = .ok (.putfield 27, 3) := by decide +kernel
theorem dX0_init_52 : decode cX0_init 52 = .ok (.aload_n 0, 1) := by decide +kernel
theorem dX0_init_53 : decode cX0_init 53 = .ok (.bipush 10, 2) := by decide +kernel
theorem dX0_init_55 : decode cX0_init 55 = .ok (.newarray .int, 2) := by decide +kernel
theorem dX0_init_57 : decode cX0_init 57 = .ok (.putfield 30, 3) := by decide +kernel
theorem dX0_init_60 : decode cX0_init 60 = .ok (.aload_n 0, 1) := by decide +kernel
theorem dX0_init_61 : decode cX0_init 61 = .ok (.bipush 10, 2) := by decide +kernel
theorem dX0_init_63 : decode cX0_init 63 = .ok (.newarray .int, 2) := by decide +kernel
theorem dX0_init_65 : decode cX0_init 65 = .ok (.putfield 33, 3) := by decide +kernel
theorem dX0_init_68 : decode cX0_init 68 = .ok (.aload_n 0, 1) := by decide +kernel
theorem dX0_init_69 : decode cX0_init 69 = .ok (.bipush 10, 2) := by decide +kernel
theorem dX0_init_71 : decode cX0_init 71 = .ok (.newarray .int, 2) := by decide +kernel
theorem dX0_init_73 : decode cX0_init 73 = .ok (.putfield 36, 3) := by decide +kernel
theorem dX0_init_76 : decode cX0_init 76 = .ok (.aload_n 0, 1) := by decide +kernel
theorem dX0_init_77 : decode cX0_init 77 = .ok (.iconst 0, 1) := by decide +kernel
theorem dX0_init_78 : decode cX0_init 78 = .ok (.putfield 39, 3) := by decide +kernel
theorem dX0_init_81 : decode cX0_init 81 = .ok (.aload_n 0, 1) := by decide +kernel
theorem dX0_init_82 : decode cX0_init 82 = .ok (.iconst 0, 1) := by decide +kernel
theorem dX0_init_83 : decode cX0_init 83 = .ok (.putfield 43, 3) := by decide +kernel
theorem dX0_init_86 : decode cX0_init 86 = .ok (.return_, 1) := by decide +kernel
theorem dX0_has_0 : decode cX0_has 0 = .ok (.iload_n 1, 1) := by decide +kernel
theorem dX0_has_1 : decode cX0_has 1 = .ok (.ifCond .lt 15, 3) := by decide +kernel
theorem dX0_has_4 : decode cX0_has 4 = .ok (.iload_n 1, 1) := by decide +kernel
theorem dX0_has_5 : decode cX0_has 5 = .ok (.aload_n 0, 1) := by decide +kernel
theorem dX0_has_6 : decode cX0_has 6 = .ok (.getfield 39, 3) := by decide +kernel
theorem dX0_has_9 : decode cX0_has 9 = .ok (.if_icmp .ge 7, 3) := by decide +kernel
theorem dX0_has_12 : decode cX0_has 12 = .ok (.iconst 1, 1) := by decide +kernel
theorem dX0_has_13 : decode cX0_has 13 = .ok (.goto 4, 3) := by decide +kernel
theorem dX0_has_16 : decode cX0_has 16 = .ok (.iconst 0, 1) := by decide +kernel
theorem dX0_has_17 : decode cX0_has 17 = .ok (.ireturn, 1) := by decide +kernel
theorem dX0_add_0 : decode cX0_add 0 = .ok (.aload_n 0, 1) := by decide +kernel
theorem dX0_add_1 : decode cX0_add 1 = .ok (.getfield 39, 3) := by decide +kernel
theorem dX0_add_4 : decode cX0_add 4 = .ok (.bipush 10, 2) := by decide +kernel
theorem dX0_add_6 : decode cX0_add 6 = .ok (.if_icmp .lt 5, 3) := by decide +kernel
theorem dX0_add_9 : decode cX0_add 9 = .ok (.iconst (-1), 1) := by decide +kernel
theorem dX0_add_10 : decode cX0_add 10 = .ok (.ireturn, 1) := by decide +kernel
theorem dX0_add_11 : decode cX0_add 11 = .ok (.aload_n 0, 1) := by decide +kernel
theorem dX0_add_12 : decode cX0_add 12 = .ok (.getfield 39, 3) := by decide +kernel
theorem dX0_add_15 : decode cX0_add 15 = .ok (.istore_n 3, 1) := by decide +kernel
theorem dX0_add_16 : decode cX0_add 16 = .ok (.aload_n 0, 1) := by decide +kernel
theorem dX0_add_17 : decode cX0_add 17 = .ok (.getfield 9, 3) := by decide +kernel
theorem dX0_add_20 : decode cX0_add 20 = .ok (.iload_n 3, 1) := by decide +kernel
theorem dX0_add_21 : decode cX0_add 21 = .ok (.iload_n 1, 1) := by decide +kernel
theorem dX0_add_22 : decode cX0_add 22 = .ok (.iastore, 1) := by decide +kernel
theorem dX0_add_23 : decode cX0_add 23 = .ok (.aload_n 0, 1) := by decide +kernel
theorem dX0_add_24 : decode cX0_add 24 = .ok (.getfield 15, 3) := by decide +kernel
theorem dX0_add_27 : decode cX0_add 27 = .ok (.iload_n 3, 1) := by decide +kernel
theorem dX0_add_28 : decode cX0_add 28 = .ok (.iload_n 2, 1) := by decide +kernel
theorem dX0_add_29 : decode cX0_add 29 = .ok (.iastore, 1) := by decide +kernel
theorem dX0_add_30 : decode cX0_add 30 = .ok (.aload_n 0, 1) := by decide +kernel
theorem dX0_add_31 : decode cX0_add 31 = .ok (.getfield 18, 3) := by decide +kernel
theorem dX0_add_34 : decode cX0_add 34 = .ok (.iload_n 3, 1) := by decide +kernel
theorem dX0_add_35 : decode cX0_add 35 = .ok (.iconst 0, 1) := by decide +kernel
theorem dX0_add_36 : decode cX0_add 36 = .ok (.iastore, 1) := by decide +kernel
theorem dX0_add_37 : decode cX0_add 37 = .ok (.aload_n 0, 1) := by decide +kernel
theorem dX0_add_38 : decode cX0_add 38 = .ok (.getfield 21, 3) := by decide +kernel
theorem dX0_add_41 : decode cX0_add 41 = .ok (.iload_n 3, 1) := by decide +kernel
theorem dX0_add_42 : decode cX0_add 42 = .ok (.iconst 0, 1) := by decide +kernel
theorem dX0_add_43 : decode cX0_add 43 = .ok (.iastore, 1) := by decide +kernel
theorem dX0_add_44 : decode cX0_add 44 = .ok (.aload_n 0, 1) := by decide +kernel
theorem dX0_add_45 : decode cX0_add 45 = .ok (.getfield 24, 3) := by decide +kernel
theorem dX0_add_48 : decode cX0_add 48 = .ok (.iload_n 3, 1) := by decide +kernel
theorem dX0_add_49 : decode cX0_add 49 = .ok (.iconst (-1), 1) := by decide +kernel
theorem dX0_add_50 : decode cX0_add 50 = .ok (.iastore, 1) := by decide +kernel
theorem dX0_add_51 : decode cX0_add 51 = .ok (.aload_n 0, 1) := by decide +kernel
theorem dX0_add_52 : decode cX0_add 52 = .ok (.getfield 27, 3) := by decide +kernel
theorem dX0_add_55 : decode cX0_add 55 = .ok (.iload_n 3, 1) := by decide +kernel
theorem dX0_add_56 : decode cX0_add 56 = .ok (.iconst (-1), 1) := by decide +kernel
theorem dX0_add_57 : decode cX0_add 57 = .ok (.iastore, 1) := by decide +kernel
theorem dX0_add_58 : decode cX0_add 58 = .ok (.aload_n 0, 1) := by decide +kernel
theorem dX0_add_59 : decode cX0_add 59 = .ok (.getfield 30, 3) := by decide +kernel
theorem dX0_add_62 : decode cX0_add 62 = .ok (.iload_n 3, 1) := by decide +kernel
theorem dX0_add_63 : decode cX0_add 63 = .ok (.iconst 0, 1) := by decide +kernel
theorem dX0_add_64 : decode cX0_add 64 = .ok (.iastore, 1) := by decide +kernel
theorem dX0_add_65 : decode cX0_add 65 = .ok (.aload_n 0, 1) := by decide +kernel
theorem dX0_add_66 : decode cX0_add 66 = .ok (.getfield 33, 3) := by decide +kernel
theorem dX0_add_69 : decode cX0_add 69 = .ok (.iload_n 3, 1) := by decide +kernel
theorem dX0_add_70 : decode cX0_add 70 = .ok (.iconst 0, 1) := by decide +kernel
theorem dX0_add_71 : decode cX0_add 71 = .ok (.iastore, 1) := by decide +kernel
theorem dX0_add_72 : decode cX0_add 72 = .ok (.aload_n 0, 1) := by decide +kernel
theorem dX0_add_73 : decode cX0_add 73 = .ok (.dup, 1) := by decide +kernel
theorem dX0_add_74 : decode cX0_add 74 = .ok (.getfield 39, 3) := by decide +kernel
theorem dX0_add_77 : decode cX0_add 77 = .ok (.iconst 1, 1) := by decide +kernel
theorem dX0_add_78 : decode cX0_add 78 = .ok (.iadd, 1) := by decide +kernel
theorem dX0_add_79 : decode cX0_add 79 = .ok (.putfield 39, 3) := by decide +kernel
theorem dX0_add_82 : decode cX0_add 82 = .ok (.iload_n 3, 1) := by decide +kernel
theorem dX0_add_83 : decode cX0_add 83 = .ok (.ireturn, 1) := by decide +kernel
theorem dX0_copyFrom_0 : decode cX0_copyFrom 0 = .ok (.aload_n 1, 1) := by decide +kernel
theorem dX0_copyFrom_1 : decode cX0_copyFrom 1 = .ok (.getfield 9, 3) := by decide +kernel
theorem dX0_copyFrom_4 : decode cX0_copyFrom 4 = .ok (.iconst 0, 1) := by decide +kernel
theorem dX0_copyFrom_5 : decode cX0_copyFrom 5 = .ok (.aload_n 0, 1) := by decide +kernel
theorem dX0_copyFrom_6 : decode cX0_copyFrom 6 = .ok (.getfield 9, 3) := by decide +kernel
theorem dX0_copyFrom_9 : decode cX0_copyFrom 9 = .ok (.iconst 0, 1) := by decide +kernel
theorem dX0_copyFrom_10 : decode cX0_copyFrom 10 = .ok (.bipush 10, 2) := by decide +kernel
theorem dX0_copyFrom_12 : decode cX0_copyFrom 12 = .ok (.invokestatic 46, 3) := by decide +kernel
theorem dX0_copyFrom_15 : decode cX0_copyFrom 15 = .ok (.aload_n 1, 1) := by decide +kernel
theorem dX0_copyFrom_16 : decode cX0_copyFrom 16 = .ok (.getfield 15, 3) := by decide +kernel
theorem dX0_copyFrom_19 : decode cX0_copyFrom 19 = .ok (.iconst 0, 1) := by decide +kernel
theorem dX0_copyFrom_20 : decode cX0_copyFrom 20 = .ok (.aload_n 0, 1) := by decide +kernel
theorem dX0_copyFrom_21 : decode cX0_copyFrom 21 = .ok (.getfield 15, 3) := by decide +kernel
theorem dX0_copyFrom_24 : decode cX0_copyFrom 24 = .ok (.iconst 0, 1) := by decide +kernel
theorem dX0_copyFrom_25 : decode cX0_copyFrom 25 = .ok (.bipush 10, 2) := by decide +kernel
theorem dX0_copyFrom_27 : decode cX0_copyFrom 27 = .ok (.invokestatic 46, 3) := by decide +kernel
theorem dX0_copyFrom_30 : decode cX0_copyFrom 30 = .ok (.aload_n 1, 1) := by decide +kernel
theorem dX0_copyFrom_31 : decode cX0_copyFrom 31 = .ok (.getfield 18, 3) := by decide +kernel
theorem dX0_copyFrom_34 : decode cX0_copyFrom 34 = .ok (.iconst 0, 1) := by decide +kernel
theorem dX0_copyFrom_35 : decode cX0_copyFrom 35 = .ok (.aload_n 0, 1) := by decide +kernel
theorem dX0_copyFrom_36 : decode cX0_copyFrom 36 = .ok (.getfield 18, 3) := by decide +kernel
theorem dX0_copyFrom_39 : decode cX0_copyFrom 39 = .ok (.iconst 0, 1) := by decide +kernel
theorem dX0_copyFrom_40 : decode cX0_copyFrom 40 = .ok (.bipush 10, 2) := by decide +kernel
theorem dX0_copyFrom_42 : decode cX0_copyFrom 42 = .ok (.invokestatic 46, 3) := by decide +kernel
theorem dX0_copyFrom_45 : decode cX0_copyFrom 45 = .ok (.aload_n 1, 1) := by decide +kernel
theorem dX0_copyFrom_46 : decode cX0_copyFrom 46 = .ok (.getfield 21, 3) := by decide +kernel
theorem dX0_copyFrom_49 : decode cX0_copyFrom 49 = .ok (.iconst 0, 1) := by decide +kernel
theorem dX0_copyFrom_50 : decode cX0_copyFrom 50 = .ok (.aload_n 0, 1) := by decide +kernel
theorem dX0_copyFrom_51 : decode cX0_copyFrom 51 = .ok (.getfield 21, 3) := by decide +kernel
theorem dX0_copyFrom_54 : decode cX0_copyFrom 54 = .ok (.iconst 0, 1) := by decide +kernel
theorem dX0_copyFrom_55 : decode cX0_copyFrom 55 = .ok (.bipush 10, 2) := by decide +kernel
theorem dX0_copyFrom_57 : decode cX0_copyFrom 57 = .ok (.invokestatic 46, 3) := by decide +kernel
theorem dX0_copyFrom_60 : decode cX0_copyFrom 60 = .ok (.aload_n 1, 1) := by decide +kernel
theorem dX0_copyFrom_61 : decode cX0_copyFrom 61 = .ok (.getfield 24, 3) := by decide +kernel
theorem dX0_copyFrom_64 : decode cX0_copyFrom 64 = .ok (.iconst 0, 1) := by decide +kernel
theorem dX0_copyFrom_65 : decode cX0_copyFrom 65 = .ok (.aload_n 0, 1) := by decide +kernel
theorem dX0_copyFrom_66 : decode cX0_copyFrom 66 = .ok (.getfield 24, 3) := by decide +kernel
theorem dX0_copyFrom_69 : decode cX0_copyFrom 69 = .ok (.iconst 0, 1) := by decide +kernel
theorem dX0_copyFrom_70 : decode cX0_copyFrom 70 = .ok (.bipush 10, 2) := by decide +kernel
theorem dX0_copyFrom_72 : decode cX0_copyFrom 72 = .ok (.invokestatic 46, 3) := by decide +kernel
theorem dX0_copyFrom_75 : decode cX0_copyFrom 75 = .ok (.aload_n 1, 1) := by decide +kernel
theorem dX0_copyFrom_76 : decode cX0_copyFrom 76 = .ok (.getfield 27, 3) := by decide +kernel
theorem dX0_copyFrom_79 : decode cX0_copyFrom 79 = .ok (.iconst 0, 1) := by decide +kernel
theorem dX0_copyFrom_80 : decode cX0_copyFrom 80 = .ok (.aload_n 0, 1) := by decide +kernel
theorem dX0_copyFrom_81 : decode cX0_copyFrom 81 = .ok (.getfield 27, 3) := by decide +kernel
theorem dX0_copyFrom_84 : decode cX0_copyFrom 84 = .ok (.iconst 0, 1) := by decide +kernel
theorem dX0_copyFrom_85 : decode cX0_copyFrom 85 = .ok (.bipush 10, 2) := by decide +kernel
theorem dX0_copyFrom_87 : decode cX0_copyFrom 87 = .ok (.invokestatic 46, 3) := by decide +kernel
theorem dX0_copyFrom_90 : decode cX0_copyFrom 90 = .ok (.aload_n 1, 1) := by decide +kernel
theorem dX0_copyFrom_91 : decode cX0_copyFrom 91 = .ok (.getfield 30, 3) := by decide +kernel
theorem dX0_copyFrom_94 : decode cX0_copyFrom 94 = .ok (.iconst 0, 1) := by decide +kernel
theorem dX0_copyFrom_95 : decode cX0_copyFrom 95 = .ok (.aload_n 0, 1) := by decide +kernel
theorem dX0_copyFrom_96 : decode cX0_copyFrom 96 = .ok (.getfield 30, 3) := by decide +kernel
theorem dX0_copyFrom_99 : decode cX0_copyFrom 99 = .ok (.iconst 0, 1) := by decide +kernel
theorem dX0_copyFrom_100 : decode cX0_copyFrom 100 = .ok (.bipush 10, 2) := by decide +kernel
theorem dX0_copyFrom_102 : decode cX0_copyFrom 102 = .ok (.invokestatic 46, 3) := by decide +kernel
theorem dX0_copyFrom_105 : decode cX0_copyFrom 105 = .ok (.aload_n 1, 1) := by decide +kernel
theorem dX0_copyFrom_106 : decode cX0_copyFrom 106 = .ok (.getfield 33, 3) := by decide +kernel
theorem dX0_copyFrom_109 : decode cX0_copyFrom 109 = .ok (.iconst 0, 1) := by decide +kernel
theorem dX0_copyFrom_110 : decode cX0_copyFrom 110 = .ok (.aload_n 0, 1) := by decide +kernel
theorem dX0_copyFrom_111 : decode cX0_copyFrom 111 = .ok (.getfield 33, 3) := by decide +kernel
theorem dX0_copyFrom_114 : decode cX0_copyFrom 114 = .ok (.iconst 0, 1) := by decide +kernel
theorem dX0_copyFrom_115 : decode cX0_copyFrom 115 = .ok (.bipush 10, 2) := by decide +kernel
theorem dX0_copyFrom_117 : decode cX0_copyFrom 117 = .ok (.invokestatic 46, 3) := by decide +kernel
theorem dX0_copyFrom_120 : decode cX0_copyFrom 120 = .ok (.aload_n 1, 1) := by decide +kernel
theorem dX0_copyFrom_121 : decode cX0_copyFrom 121 = .ok (.getfield 36, 3) := by decide +kernel
theorem dX0_copyFrom_124 : decode cX0_copyFrom 124 = .ok (.iconst 0, 1) := by decide +kernel
theorem dX0_copyFrom_125 : decode cX0_copyFrom 125 = .ok (.aload_n 0, 1) := by decide +kernel
theorem dX0_copyFrom_126 : decode cX0_copyFrom 126 = .ok (.getfield 36, 3) := by decide +kernel
theorem dX0_copyFrom_129 : decode cX0_copyFrom 129 = .ok (.iconst 0, 1) := by decide +kernel
theorem dX0_copyFrom_130 : decode cX0_copyFrom 130 = .ok (.bipush 10, 2) := by decide +kernel
theorem dX0_copyFrom_132 : decode cX0_copyFrom 132 = .ok (.invokestatic 46, 3) := by decide +kernel
theorem dX0_copyFrom_135 : decode cX0_copyFrom 135 = .ok (.aload_n 0, 1) := by decide +kernel
theorem dX0_copyFrom_136 : decode cX0_copyFrom 136 = .ok (.aload_n 1, 1) := by decide +kernel
theorem dX0_copyFrom_137 : decode cX0_copyFrom 137 = .ok (.getfield 39, 3) := by decide +kernel
theorem dX0_copyFrom_140 : decode cX0_copyFrom 140 = .ok (.putfield 39, 3) := by decide +kernel
theorem dX0_copyFrom_143 : decode cX0_copyFrom 143 = .ok (.aload_n 0, 1) := by decide +kernel
theorem dX0_copyFrom_144 : decode cX0_copyFrom 144 = .ok (.aload_n 1, 1) := by decide +kernel
theorem dX0_copyFrom_145 : decode cX0_copyFrom 145 = .ok (.getfield 43, 3) := by decide +kernel
theorem dX0_copyFrom_148 : decode cX0_copyFrom 148 = .ok (.putfield 43, 3) := by decide +kernel
theorem dX0_copyFrom_151 : decode cX0_copyFrom 151 = .ok (.return_, 1) := by decide +kernel
theorem dX0_hasPanel_0 : decode cX0_hasPanel 0 = .ok (.aload_n 0, 1) := by decide +kernel
theorem dX0_hasPanel_1 : decode cX0_hasPanel 1 = .ok (.getfield 18, 3) := by decide +kernel
theorem dX0_hasPanel_4 : decode cX0_hasPanel 4 = .ok (.iload_n 1, 1) := by decide +kernel
theorem dX0_hasPanel_5 : decode cX0_hasPanel 5 = .ok (.iaload, 1) := by decide +kernel
theorem dX0_hasPanel_6 : decode cX0_hasPanel 6 = .ok (.ifCond .eq 7, 3) := by decide +kernel
theorem dX0_hasPanel_9 : decode cX0_hasPanel 9 = .ok (.iconst 1, 1) := by decide +kernel
theorem dX0_hasPanel_10 : decode cX0_hasPanel 10 = .ok (.goto 4, 3) := by decide +kernel
theorem dX0_hasPanel_13 : decode cX0_hasPanel 13 = .ok (.iconst 0, 1) := by decide +kernel
theorem dX0_hasPanel_14 : decode cX0_hasPanel 14 = .ok (.ireturn, 1) := by decide +kernel
theorem dX0_hasVerdict_0 : decode cX0_hasVerdict 0 = .ok (.aload_n 0, 1) := by decide +kernel
theorem dX0_hasVerdict_1 : decode cX0_hasVerdict 1 = .ok (.getfield 21, 3) := by decide +kernel
theorem dX0_hasVerdict_4 : decode cX0_hasVerdict 4 = .ok (.iload_n 1, 1) := by decide +kernel
theorem dX0_hasVerdict_5 : decode cX0_hasVerdict 5 = .ok (.iaload, 1) := by decide +kernel
theorem dX0_hasVerdict_6 : decode cX0_hasVerdict 6 = .ok (.ifCond .eq 7, 3) := by decide +kernel
theorem dX0_hasVerdict_9 : decode cX0_hasVerdict 9 = .ok (.iconst 1, 1) := by decide +kernel
theorem dX0_hasVerdict_10 : decode cX0_hasVerdict 10 = .ok (.goto 4, 3) := by decide +kernel
theorem dX0_hasVerdict_13 : decode cX0_hasVerdict 13 = .ok (.iconst 0, 1) := by decide +kernel
theorem dX0_hasVerdict_14 : decode cX0_hasVerdict 14 = .ok (.ireturn, 1) := by decide +kernel
theorem dX0_isClosed_0 : decode cX0_isClosed 0 = .ok (.aload_n 0, 1) := by decide +kernel
theorem dX0_isClosed_1 : decode cX0_isClosed 1 = .ok (.getfield 27, 3) := by decide +kernel
theorem dX0_isClosed_4 : decode cX0_isClosed 4 = .ok (.iload_n 1, 1) := by decide +kernel
theorem dX0_isClosed_5 : decode cX0_isClosed 5 = .ok (.iaload, 1) := by decide +kernel
theorem dX0_isClosed_6 : decode cX0_isClosed 6 = .ok (.iconst (-1), 1) := by decide +kernel
theorem dX0_isClosed_7 : decode cX0_isClosed 7 = .ok (.if_icmp .eq 7, 3) := by decide +kernel
theorem dX0_isClosed_10 : decode cX0_isClosed 10 = .ok (.iconst 1, 1) := by decide +kernel
theorem dX0_isClosed_11 : decode cX0_isClosed 11 = .ok (.goto 4, 3) := by decide +kernel
theorem dX0_isClosed_14 : decode cX0_isClosed 14 = .ok (.iconst 0, 1) := by decide +kernel
theorem dX0_isClosed_15 : decode cX0_isClosed 15 = .ok (.ireturn, 1) := by decide +kernel
theorem dX0_isHeard_0 : decode cX0_isHeard 0 = .ok (.aload_n 0, 1) := by decide +kernel
theorem dX0_isHeard_1 : decode cX0_isHeard 1 = .ok (.iload_n 1, 1) := by decide +kernel
theorem dX0_isHeard_2 : decode cX0_isHeard 2 = .ok (.invokevirtual 52, 3) := by decide +kernel
theorem dX0_isHeard_5 : decode cX0_isHeard 5 = .ok (.ifCond .eq 15, 3) := by decide +kernel
theorem dX0_isHeard_8 : decode cX0_isHeard 8 = .ok (.aload_n 0, 1) := by decide +kernel
theorem dX0_isHeard_9 : decode cX0_isHeard 9 = .ok (.iload_n 1, 1) := by decide +kernel
theorem dX0_isHeard_10 : decode cX0_isHeard 10 = .ok (.invokevirtual 56, 3) := by decide +kernel
theorem dX0_isHeard_13 : decode cX0_isHeard 13 = .ok (.ifCond .ne 7, 3) := by decide +kernel
theorem dX0_isHeard_16 : decode cX0_isHeard 16 = .ok (.iconst 1, 1) := by decide +kernel
theorem dX0_isHeard_17 : decode cX0_isHeard 17 = .ok (.goto 4, 3) := by decide +kernel
theorem dX0_isHeard_20 : decode cX0_isHeard 20 = .ok (.iconst 0, 1) := by decide +kernel
theorem dX0_isHeard_21 : decode cX0_isHeard 21 = .ok (.ireturn, 1) := by decide +kernel
theorem dX0_isRipe_0 : decode cX0_isRipe 0 = .ok (.aload_n 0, 1) := by decide +kernel
theorem dX0_isRipe_1 : decode cX0_isRipe 1 = .ok (.iload_n 1, 1) := by decide +kernel
theorem dX0_isRipe_2 : decode cX0_isRipe 2 = .ok (.invokevirtual 56, 3) := by decide +kernel
theorem dX0_isRipe_5 : decode cX0_isRipe 5 = .ok (.ifCond .eq 27, 3) := by decide +kernel
theorem dX0_isRipe_8 : decode cX0_isRipe 8 = .ok (.aload_n 0, 1) := by decide +kernel
theorem dX0_isRipe_9 : decode cX0_isRipe 9 = .ok (.iload_n 1, 1) := by decide +kernel
theorem dX0_isRipe_10 : decode cX0_isRipe 10 = .ok (.invokevirtual 59, 3) := by decide +kernel
theorem dX0_isRipe_13 : decode cX0_isRipe 13 = .ok (.ifCond .ne 19, 3) := by decide +kernel
theorem dX0_isRipe_16 : decode cX0_isRipe 16 = .ok (.aload_n 0, 1) := by decide +kernel
theorem dX0_isRipe_17 : decode cX0_isRipe 17 = .ok (.getfield 24, 3) := by decide +kernel
theorem dX0_isRipe_20 : decode cX0_isRipe 20 = .ok (.iload_n 1, 1) := by decide +kernel
theorem dX0_isRipe_21 : decode cX0_isRipe 21 = .ok (.iaload, 1) := by decide +kernel
theorem dX0_isRipe_22 : decode cX0_isRipe 22 = .ok (.iload_n 2, 1) := by decide +kernel
theorem dX0_isRipe_23 : decode cX0_isRipe 23 = .ok (.iconst 4, 1) := by decide +kernel
theorem dX0_isRipe_24 : decode cX0_isRipe 24 = .ok (.isub, 1) := by decide +kernel
theorem dX0_isRipe_25 : decode cX0_isRipe 25 = .ok (.if_icmp .gt 7, 3) := by decide +kernel
theorem dX0_isRipe_28 : decode cX0_isRipe 28 = .ok (.iconst 1, 1) := by decide +kernel
theorem dX0_isRipe_29 : decode cX0_isRipe 29 = .ok (.goto 4, 3) := by decide +kernel
theorem dX0_isRipe_32 : decode cX0_isRipe 32 = .ok (.iconst 0, 1) := by decide +kernel
theorem dX0_isRipe_33 : decode cX0_isRipe 33 = .ok (.ireturn, 1) := by decide +kernel
theorem dX0_sum_0 : decode cX0_sum 0 = .ok (.iconst 0, 1) := by decide +kernel
theorem dX0_sum_1 : decode cX0_sum 1 = .ok (.istore_n 2, 1) := by decide +kernel
theorem dX0_sum_2 : decode cX0_sum 2 = .ok (.iconst 0, 1) := by decide +kernel
theorem dX0_sum_3 : decode cX0_sum 3 = .ok (.istore_n 3, 1) := by decide +kernel
theorem dX0_sum_4 : decode cX0_sum 4 = .ok (.iload_n 3, 1) := by decide +kernel
theorem dX0_sum_5 : decode cX0_sum 5 = .ok (.aload_n 0, 1) := by decide +kernel
theorem dX0_sum_6 : decode cX0_sum 6 = .ok (.getfield 39, 3) := by decide +kernel
theorem dX0_sum_9 : decode cX0_sum 9 = .ok (.if_icmp .ge 15, 3) := by decide +kernel
theorem dX0_sum_12 : decode cX0_sum 12 = .ok (.iload_n 2, 1) := by decide +kernel
theorem dX0_sum_13 : decode cX0_sum 13 = .ok (.aload_n 1, 1) := by decide +kernel
theorem dX0_sum_14 : decode cX0_sum 14 = .ok (.iload_n 3, 1) := by decide +kernel
theorem dX0_sum_15 : decode cX0_sum 15 = .ok (.iaload, 1) := by decide +kernel
theorem dX0_sum_16 : decode cX0_sum 16 = .ok (.iadd, 1) := by decide +kernel
theorem dX0_sum_17 : decode cX0_sum 17 = .ok (.istore_n 2, 1) := by decide +kernel
theorem dX0_sum_18 : decode cX0_sum 18 = .ok (.iinc 3 1, 3) := by decide +kernel
theorem dX0_sum_21 : decode cX0_sum 21 = .ok (.goto (-17), 3) := by decide +kernel
theorem dX0_sum_24 : decode cX0_sum 24 = .ok (.iload_n 2, 1) := by decide +kernel
theorem dX0_sum_25 : decode cX0_sum 25 = .ok (.ireturn, 1) := by decide +kernel
theorem dX0_withoutPanel_0 : decode cX0_withoutPanel 0 = .ok (.iconst 0, 1) := by decide +kernel
theorem dX0_withoutPanel_1 : decode cX0_withoutPanel 1 = .ok (.istore_n 1, 1) := by decide +kernel
theorem dX0_withoutPanel_2 : decode cX0_withoutPanel 2 = .ok (.iconst 0, 1) := by decide +kernel
theorem dX0_withoutPanel_3 : decode cX0_withoutPanel 3 = .ok (.istore_n 2, 1) := by decide +kernel
theorem dX0_withoutPanel_4 : decode cX0_withoutPanel 4 = .ok (.iload_n 2, 1) := by decide +kernel
theorem dX0_withoutPanel_5 : decode cX0_withoutPanel 5 = .ok (.aload_n 0, 1) := by decide +kernel
theorem dX0_withoutPanel_6 : decode cX0_withoutPanel 6 = .ok (.getfield 39, 3) := by decide +kernel
theorem dX0_withoutPanel_9 : decode cX0_withoutPanel 9 = .ok (.if_icmp .ge 25, 3) := by decide +kernel
theorem dX0_withoutPanel_12 : decode cX0_withoutPanel 12 = .ok (.iload_n 1, 1) := by decide +kernel
theorem dX0_withoutPanel_13 : decode cX0_withoutPanel 13 = .ok (.aload_n 0, 1) := by decide +kernel
theorem dX0_withoutPanel_14 : decode cX0_withoutPanel 14 = .ok (.iload_n 2, 1) := by decide +kernel
theorem dX0_withoutPanel_15 : decode cX0_withoutPanel 15 = .ok (.invokevirtual 52, 3) := by decide +kernel
theorem dX0_withoutPanel_18 : decode cX0_withoutPanel 18 = .ok (.ifCond .eq 7, 3) := by decide +kernel
theorem dX0_withoutPanel_21 : decode cX0_withoutPanel 21 = .ok (.iconst 0, 1) := by decide +kernel
theorem dX0_withoutPanel_22 : decode cX0_withoutPanel 22 = .ok (.goto 4, 3) := by decide +kernel
theorem dX0_withoutPanel_25 : decode cX0_withoutPanel 25 = .ok (.iconst 1, 1) := by decide +kernel
theorem dX0_withoutPanel_26 : decode cX0_withoutPanel 26 = .ok (.iadd, 1) := by decide +kernel
theorem dX0_withoutPanel_27 : decode cX0_withoutPanel 27 = .ok (.istore_n 1, 1) := by decide +kernel
theorem dX0_withoutPanel_28 : decode cX0_withoutPanel 28 = .ok (.iinc 2 1, 3) := by decide +kernel
theorem dX0_withoutPanel_31 : decode cX0_withoutPanel 31 = .ok (.goto (-27), 3) := by decide +kernel
theorem dX0_withoutPanel_34 : decode cX0_withoutPanel 34 = .ok (.iload_n 1, 1) := by decide +kernel
theorem dX0_withoutPanel_35 : decode cX0_withoutPanel 35 = .ok (.ireturn, 1) := by decide +kernel
theorem dX0_closed_0 : decode cX0_closed 0 = .ok (.iconst 0, 1) := by decide +kernel
theorem dX0_closed_1 : decode cX0_closed 1 = .ok (.istore_n 1, 1) := by decide +kernel
theorem dX0_closed_2 : decode cX0_closed 2 = .ok (.iconst 0, 1) := by decide +kernel
theorem dX0_closed_3 : decode cX0_closed 3 = .ok (.istore_n 2, 1) := by decide +kernel
theorem dX0_closed_4 : decode cX0_closed 4 = .ok (.iload_n 2, 1) := by decide +kernel
theorem dX0_closed_5 : decode cX0_closed 5 = .ok (.aload_n 0, 1) := by decide +kernel
theorem dX0_closed_6 : decode cX0_closed 6 = .ok (.getfield 39, 3) := by decide +kernel
theorem dX0_closed_9 : decode cX0_closed 9 = .ok (.if_icmp .ge 25, 3) := by decide +kernel
theorem dX0_closed_12 : decode cX0_closed 12 = .ok (.iload_n 1, 1) := by decide +kernel
theorem dX0_closed_13 : decode cX0_closed 13 = .ok (.aload_n 0, 1) := by decide +kernel
theorem dX0_closed_14 : decode cX0_closed 14 = .ok (.iload_n 2, 1) := by decide +kernel
theorem dX0_closed_15 : decode cX0_closed 15 = .ok (.invokevirtual 59, 3) := by decide +kernel
theorem dX0_closed_18 : decode cX0_closed 18 = .ok (.ifCond .eq 7, 3) := by decide +kernel
theorem dX0_closed_21 : decode cX0_closed 21 = .ok (.iconst 1, 1) := by decide +kernel
theorem dX0_closed_22 : decode cX0_closed 22 = .ok (.goto 4, 3) := by decide +kernel
theorem dX0_closed_25 : decode cX0_closed 25 = .ok (.iconst 0, 1) := by decide +kernel
theorem dX0_closed_26 : decode cX0_closed 26 = .ok (.iadd, 1) := by decide +kernel
theorem dX0_closed_27 : decode cX0_closed 27 = .ok (.istore_n 1, 1) := by decide +kernel
theorem dX0_closed_28 : decode cX0_closed 28 = .ok (.iinc 2 1, 3) := by decide +kernel
theorem dX0_closed_31 : decode cX0_closed 31 = .ok (.goto (-27), 3) := by decide +kernel
theorem dX0_closed_34 : decode cX0_closed 34 = .ok (.iload_n 1, 1) := by decide +kernel
theorem dX0_closed_35 : decode cX0_closed 35 = .ok (.ireturn, 1) := by decide +kernel
theorem dX0_closeRipe_0 : decode cX0_closeRipe 0 = .ok (.iconst 0, 1) := by decide +kernel
theorem dX0_closeRipe_1 : decode cX0_closeRipe 1 = .ok (.istore_n 2, 1) := by decide +kernel
theorem dX0_closeRipe_2 : decode cX0_closeRipe 2 = .ok (.iload_n 2, 1) := by decide +kernel
theorem dX0_closeRipe_3 : decode cX0_closeRipe 3 = .ok (.aload_n 0, 1) := by decide +kernel
theorem dX0_closeRipe_4 : decode cX0_closeRipe 4 = .ok (.getfield 39, 3) := by decide +kernel
theorem dX0_closeRipe_7 : decode cX0_closeRipe 7 = .ok (.if_icmp .ge 25, 3) := by decide +kernel
theorem dX0_closeRipe_10 : decode cX0_closeRipe 10 = .ok (.aload_n 0, 1) := by decide +kernel
theorem dX0_closeRipe_11 : decode cX0_closeRipe 11 = .ok (.iload_n 2, 1) := by decide +kernel
theorem dX0_closeRipe_12 : decode cX0_closeRipe 12 = .ok (.iload_n 1, 1) := by decide +kernel
theorem dX0_closeRipe_13 : decode cX0_closeRipe 13 = .ok (.invokevirtual 62, 3) := by decide +kernel
theorem dX0_closeRipe_16 : decode cX0_closeRipe 16 = .ok (.ifCond .eq 10, 3) := by decide +kernel
theorem dX0_closeRipe_19 : decode cX0_closeRipe 19 = .ok (.aload_n 0, 1) := by decide +kernel
theorem dX0_closeRipe_20 : decode cX0_closeRipe 20 = .ok (.getfield 27, 3) := by decide +kernel
theorem dX0_closeRipe_23 : decode cX0_closeRipe 23 = .ok (.iload_n 2, 1) := by decide +kernel
theorem dX0_closeRipe_24 : decode cX0_closeRipe 24 = .ok (.iload_n 1, 1) := by decide +kernel
theorem dX0_closeRipe_25 : decode cX0_closeRipe 25 = .ok (.iastore, 1) := by decide +kernel
theorem dX0_closeRipe_26 : decode cX0_closeRipe 26 = .ok (.iinc 2 1, 3) := by decide +kernel
theorem dX0_closeRipe_29 : decode cX0_closeRipe 29 = .ok (.goto (-27), 3) := by decide +kernel
theorem dX0_closeRipe_32 : decode cX0_closeRipe 32 = .ok (.return_, 1) := by decide +kernel
theorem dX0_enroll_0 : decode cX0_enroll 0 = .ok (.aload_n 0, 1) := by decide +kernel
theorem dX0_enroll_1 : decode cX0_enroll 1 = .ok (.getfield 43, 3) := by decide +kernel
theorem dX0_enroll_4 : decode cX0_enroll 4 = .ok (.bipush 10, 2) := by decide +kernel
theorem dX0_enroll_6 : decode cX0_enroll 6 = .ok (.if_icmp .lt 4, 3) := by decide +kernel
theorem dX0_enroll_9 : decode cX0_enroll 9 = .ok (.return_, 1) := by decide +kernel
theorem dX0_enroll_10 : decode cX0_enroll 10 = .ok (.aload_n 0, 1) := by decide +kernel
theorem dX0_enroll_11 : decode cX0_enroll 11 = .ok (.getfield 43, 3) := by decide +kernel
theorem dX0_enroll_14 : decode cX0_enroll 14 = .ok (.istore_n 2, 1) := by decide +kernel
theorem dX0_enroll_15 : decode cX0_enroll 15 = .ok (.iload_n 2, 1) := by decide +kernel
theorem dX0_enroll_16 : decode cX0_enroll 16 = .ok (.ifCond .le 39, 3) := by decide +kernel
theorem dX0_enroll_19 : decode cX0_enroll 19 = .ok (.aload_n 0, 1) := by decide +kernel
theorem dX0_enroll_20 : decode cX0_enroll 20 = .ok (.iload_n 1, 1) := by decide +kernel
theorem dX0_enroll_21 : decode cX0_enroll 21 = .ok (.aload_n 0, 1) := by decide +kernel
theorem dX0_enroll_22 : decode cX0_enroll 22 = .ok (.getfield 36, 3) := by decide +kernel
theorem dX0_enroll_25 : decode cX0_enroll 25 = .ok (.iload_n 2, 1) := by decide +kernel
theorem dX0_enroll_26 : decode cX0_enroll 26 = .ok (.iconst 1, 1) := by decide +kernel
theorem dX0_enroll_27 : decode cX0_enroll 27 = .ok (.isub, 1) := by decide +kernel
theorem dX0_enroll_28 : decode cX0_enroll 28 = .ok (.iaload, 1) := by decide +kernel
theorem dX0_enroll_29 : decode cX0_enroll 29 = .ok (.invokevirtual 66, 3) := by decide +kernel
theorem dX0_enroll_32 : decode cX0_enroll 32 = .ok (.ifCond .eq 23, 3) := by decide +kernel
theorem dX0_enroll_35 : decode cX0_enroll 35 = .ok (.aload_n 0, 1) := by decide +kernel
theorem dX0_enroll_36 : decode cX0_enroll 36 = .ok (.getfield 36, 3) := by decide +kernel
theorem dX0_enroll_39 : decode cX0_enroll 39 = .ok (.iload_n 2, 1) := by decide +kernel
theorem dX0_enroll_40 : decode cX0_enroll 40 = .ok (.aload_n 0, 1) := by decide +kernel
theorem dX0_enroll_41 : decode cX0_enroll 41 = .ok (.getfield 36, 3) := by decide +kernel
theorem dX0_enroll_44 : decode cX0_enroll 44 = .ok (.iload_n 2, 1) := by decide +kernel
theorem dX0_enroll_45 : decode cX0_enroll 45 = .ok (.iconst 1, 1) := by decide +kernel
theorem dX0_enroll_46 : decode cX0_enroll 46 = .ok (.isub, 1) := by decide +kernel
theorem dX0_enroll_47 : decode cX0_enroll 47 = .ok (.iaload, 1) := by decide +kernel
theorem dX0_enroll_48 : decode cX0_enroll 48 = .ok (.iastore, 1) := by decide +kernel
theorem dX0_enroll_49 : decode cX0_enroll 49 = .ok (.iinc 2 (-1), 3) := by decide +kernel
theorem dX0_enroll_52 : decode cX0_enroll 52 = .ok (.goto (-37), 3) := by decide +kernel
theorem dX0_enroll_55 : decode cX0_enroll 55 = .ok (.aload_n 0, 1) := by decide +kernel
theorem dX0_enroll_56 : decode cX0_enroll 56 = .ok (.getfield 36, 3) := by decide +kernel
theorem dX0_enroll_59 : decode cX0_enroll 59 = .ok (.iload_n 2, 1) := by decide +kernel
theorem dX0_enroll_60 : decode cX0_enroll 60 = .ok (.iload_n 1, 1) := by decide +kernel
theorem dX0_enroll_61 : decode cX0_enroll 61 = .ok (.iastore, 1) := by decide +kernel
theorem dX0_enroll_62 : decode cX0_enroll 62 = .ok (.aload_n 0, 1) := by decide +kernel
theorem dX0_enroll_63 : decode cX0_enroll 63 = .ok (.dup, 1) := by decide +kernel
theorem dX0_enroll_64 : decode cX0_enroll 64 = .ok (.getfield 43, 3) := by decide +kernel
theorem dX0_enroll_67 : decode cX0_enroll 67 = .ok (.iconst 1, 1) := by decide +kernel
theorem dX0_enroll_68 : decode cX0_enroll 68 = .ok (.iadd, 1) := by decide +kernel
theorem dX0_enroll_69 : decode cX0_enroll 69 = .ok (.putfield 43, 3) := by decide +kernel
theorem dX0_enroll_72 : decode cX0_enroll 72 = .ok (.return_, 1) := by decide +kernel
theorem dX0_strike_0 : decode cX0_strike 0 = .ok (.aload_n 0, 1) := by decide +kernel
theorem dX0_strike_1 : decode cX0_strike 1 = .ok (.iload_n 1, 1) := by decide +kernel
theorem dX0_strike_2 : decode cX0_strike 2 = .ok (.invokevirtual 69, 3) := by decide +kernel
theorem dX0_strike_5 : decode cX0_strike 5 = .ok (.istore_n 2, 1) := by decide +kernel
theorem dX0_strike_6 : decode cX0_strike 6 = .ok (.iload_n 2, 1) := by decide +kernel
theorem dX0_strike_7 : decode cX0_strike 7 = .ok (.iconst (-1), 1) := by decide +kernel
theorem dX0_strike_8 : decode cX0_strike 8 = .ok (.if_icmp .ne 4, 3) := by decide +kernel
theorem dX0_strike_11 : decode cX0_strike 11 = .ok (.return_, 1) := by decide +kernel
theorem dX0_strike_12 : decode cX0_strike 12 = .ok (.aload_n 0, 1) := by decide +kernel
theorem dX0_strike_13 : decode cX0_strike 13 = .ok (.dup, 1) := by decide +kernel
theorem dX0_strike_14 : decode cX0_strike 14 = .ok (.getfield 43, 3) := by decide +kernel
theorem dX0_strike_17 : decode cX0_strike 17 = .ok (.iconst 1, 1) := by decide +kernel
theorem dX0_strike_18 : decode cX0_strike 18 = .ok (.isub, 1) := by decide +kernel
theorem dX0_strike_19 : decode cX0_strike 19 = .ok (.putfield 43, 3) := by decide +kernel
theorem dX0_strike_22 : decode cX0_strike 22 = .ok (.iload_n 2, 1) := by decide +kernel
theorem dX0_strike_23 : decode cX0_strike 23 = .ok (.istore_n 3, 1) := by decide +kernel
theorem dX0_strike_24 : decode cX0_strike 24 = .ok (.iload_n 3, 1) := by decide +kernel
theorem dX0_strike_25 : decode cX0_strike 25 = .ok (.aload_n 0, 1) := by decide +kernel
theorem dX0_strike_26 : decode cX0_strike 26 = .ok (.getfield 43, 3) := by decide +kernel
theorem dX0_strike_29 : decode cX0_strike 29 = .ok (.if_icmp .ge 23, 3) := by decide +kernel
theorem dX0_strike_32 : decode cX0_strike 32 = .ok (.aload_n 0, 1) := by decide +kernel
theorem dX0_strike_33 : decode cX0_strike 33 = .ok (.getfield 36, 3) := by decide +kernel
theorem dX0_strike_36 : decode cX0_strike 36 = .ok (.iload_n 3, 1) := by decide +kernel
theorem dX0_strike_37 : decode cX0_strike 37 = .ok (.aload_n 0, 1) := by decide +kernel
theorem dX0_strike_38 : decode cX0_strike 38 = .ok (.getfield 36, 3) := by decide +kernel
theorem dX0_strike_41 : decode cX0_strike 41 = .ok (.iload_n 3, 1) := by decide +kernel
theorem dX0_strike_42 : decode cX0_strike 42 = .ok (.iconst 1, 1) := by decide +kernel
theorem dX0_strike_43 : decode cX0_strike 43 = .ok (.iadd, 1) := by decide +kernel
theorem dX0_strike_44 : decode cX0_strike 44 = .ok (.iaload, 1) := by decide +kernel
theorem dX0_strike_45 : decode cX0_strike 45 = .ok (.iastore, 1) := by decide +kernel
theorem dX0_strike_46 : decode cX0_strike 46 = .ok (.iinc 3 1, 3) := by decide +kernel
theorem dX0_strike_49 : decode cX0_strike 49 = .ok (.goto (-25), 3) := by decide +kernel
theorem dX0_strike_52 : decode cX0_strike 52 = .ok (.return_, 1) := by decide +kernel
theorem dX0_placeOnRoll_0 : decode cX0_placeOnRoll 0 = .ok (.iconst 0, 1) := by decide +kernel
theorem dX0_placeOnRoll_1 : decode cX0_placeOnRoll 1 = .ok (.istore_n 2, 1) := by decide +kernel
theorem dX0_placeOnRoll_2 : decode cX0_placeOnRoll 2 = .ok (.iload_n 2, 1) := by decide +kernel
theorem dX0_placeOnRoll_3 : decode cX0_placeOnRoll 3 = .ok (.aload_n 0, 1) := by decide +kernel
theorem dX0_placeOnRoll_4 : decode cX0_placeOnRoll 4 = .ok (.getfield 43, 3) := by decide +kernel
theorem dX0_placeOnRoll_7 : decode cX0_placeOnRoll 7 = .ok (.if_icmp .ge 21, 3) := by decide +kernel
theorem dX0_placeOnRoll_10 : decode cX0_placeOnRoll 10 = .ok (.aload_n 0, 1) := by decide +kernel
theorem dX0_placeOnRoll_11 : decode cX0_placeOnRoll 11 = .ok (.getfield 36, 3) := by decide +kernel
theorem dX0_placeOnRoll_14 : decode cX0_placeOnRoll 14 = .ok (.iload_n 2, 1) := by decide +kernel
theorem dX0_placeOnRoll_15 : decode cX0_placeOnRoll 15 = .ok (.iaload, 1) := by decide +kernel
theorem dX0_placeOnRoll_16 : decode cX0_placeOnRoll 16 = .ok (.iload_n 1, 1) := by decide +kernel
theorem dX0_placeOnRoll_17 : decode cX0_placeOnRoll 17 = .ok (.if_icmp .ne 5, 3) := by decide +kernel
theorem dX0_placeOnRoll_20 : decode cX0_placeOnRoll 20 = .ok (.iload_n 2, 1) := by decide +kernel
theorem dX0_placeOnRoll_21 : decode cX0_placeOnRoll 21 = .ok (.ireturn, 1) := by decide +kernel
theorem dX0_placeOnRoll_22 : decode cX0_placeOnRoll 22 = .ok (.iinc 2 1, 3) := by decide +kernel
theorem dX0_placeOnRoll_25 : decode cX0_placeOnRoll 25 = .ok (.goto (-23), 3) := by decide +kernel
theorem dX0_placeOnRoll_28 : decode cX0_placeOnRoll 28 = .ok (.iconst (-1), 1) := by decide +kernel
theorem dX0_placeOnRoll_29 : decode cX0_placeOnRoll 29 = .ok (.ireturn, 1) := by decide +kernel
theorem dX0_rowAt_0 : decode cX0_rowAt 0 = .ok (.iload_n 1, 1) := by decide +kernel
theorem dX0_rowAt_1 : decode cX0_rowAt 1 = .ok (.ifCond .lt 20, 3) := by decide +kernel
theorem dX0_rowAt_4 : decode cX0_rowAt 4 = .ok (.iload_n 1, 1) := by decide +kernel
theorem dX0_rowAt_5 : decode cX0_rowAt 5 = .ok (.aload_n 0, 1) := by decide +kernel
theorem dX0_rowAt_6 : decode cX0_rowAt 6 = .ok (.getfield 43, 3) := by decide +kernel
theorem dX0_rowAt_9 : decode cX0_rowAt 9 = .ok (.if_icmp .ge 12, 3) := by decide +kernel
theorem dX0_rowAt_12 : decode cX0_rowAt 12 = .ok (.aload_n 0, 1) := by decide +kernel
theorem dX0_rowAt_13 : decode cX0_rowAt 13 = .ok (.getfield 36, 3) := by decide +kernel
theorem dX0_rowAt_16 : decode cX0_rowAt 16 = .ok (.iload_n 1, 1) := by decide +kernel
theorem dX0_rowAt_17 : decode cX0_rowAt 17 = .ok (.iaload, 1) := by decide +kernel
theorem dX0_rowAt_18 : decode cX0_rowAt 18 = .ok (.goto 4, 3) := by decide +kernel
theorem dX0_rowAt_21 : decode cX0_rowAt 21 = .ok (.iconst (-1), 1) := by decide +kernel
theorem dX0_rowAt_22 : decode cX0_rowAt 22 = .ok (.ireturn, 1) := by decide +kernel
theorem dX0_takenOutAt_0 : decode cX0_takenOutAt 0 = .ok (.aload_n 0, 1) := by decide +kernel
theorem dX0_takenOutAt_1 : decode cX0_takenOutAt 1 = .ok (.iload_n 1, 1) := by decide +kernel
theorem dX0_takenOutAt_2 : decode cX0_takenOutAt 2 = .ok (.invokevirtual 73, 3) := by decide +kernel
theorem dX0_takenOutAt_5 : decode cX0_takenOutAt 5 = .ok (.ifCond .ne 5, 3) := by decide +kernel
theorem dX0_takenOutAt_8 : decode cX0_takenOutAt 8 = .ok (.iconst (-1), 1) := by decide +kernel
theorem dX0_takenOutAt_9 : decode cX0_takenOutAt 9 = .ok (.ireturn, 1) := by decide +kernel
theorem dX0_takenOutAt_10 : decode cX0_takenOutAt 10 = .ok (.iconst 0, 1) := by decide +kernel
theorem dX0_takenOutAt_11 : decode cX0_takenOutAt 11 = .ok (.istore_n 2, 1) := by decide +kernel
theorem dX0_takenOutAt_12 : decode cX0_takenOutAt 12 = .ok (.aload_n 0, 1) := by decide +kernel
theorem dX0_takenOutAt_13 : decode cX0_takenOutAt 13 = .ok (.iload_n 2, 1) := by decide +kernel
theorem dX0_takenOutAt_14 : decode cX0_takenOutAt 14 = .ok (.invokevirtual 76, 3) := by decide +kernel
theorem dX0_takenOutAt_17 : decode cX0_takenOutAt 17 = .ok (.istore_n 3, 1) := by decide +kernel
theorem dX0_takenOutAt_18 : decode cX0_takenOutAt 18 = .ok (.iconst 0, 1) := by decide +kernel
theorem dX0_takenOutAt_19 : decode cX0_takenOutAt 19 = .ok (.istore 4, 2) := by decide +kernel
theorem dX0_takenOutAt_21 : decode cX0_takenOutAt 21 = .ok (.iload 4, 2) := by decide +kernel
theorem dX0_takenOutAt_23 : decode cX0_takenOutAt 23 = .ok (.iload_n 1, 1) := by decide +kernel
theorem dX0_takenOutAt_24 : decode cX0_takenOutAt 24 = .ok (.if_icmp .ge 26, 3) := by decide +kernel
theorem dX0_takenOutAt_27 : decode cX0_takenOutAt 27 = .ok (.iload_n 3, 1) := by decide +kernel
theorem dX0_takenOutAt_28 : decode cX0_takenOutAt 28 = .ok (.iconst (-1), 1) := by decide +kernel
theorem dX0_takenOutAt_29 : decode cX0_takenOutAt 29 = .ok (.if_icmp .eq 21, 3) := by decide +kernel
theorem dX0_takenOutAt_32 : decode cX0_takenOutAt 32 = .ok (.iload_n 2, 1) := by decide +kernel
theorem dX0_takenOutAt_33 : decode cX0_takenOutAt 33 = .ok (.iconst 1, 1) := by decide +kernel
theorem dX0_takenOutAt_34 : decode cX0_takenOutAt 34 = .ok (.iload_n 3, 1) := by decide +kernel
theorem dX0_takenOutAt_35 : decode cX0_takenOutAt 35 = .ok (.ishl, 1) := by decide +kernel
theorem dX0_takenOutAt_36 : decode cX0_takenOutAt 36 = .ok (.ior, 1) := by decide +kernel
theorem dX0_takenOutAt_37 : decode cX0_takenOutAt 37 = .ok (.istore_n 2, 1) := by decide +kernel
theorem dX0_takenOutAt_38 : decode cX0_takenOutAt 38 = .ok (.aload_n 0, 1) := by decide +kernel
theorem dX0_takenOutAt_39 : decode cX0_takenOutAt 39 = .ok (.iload_n 2, 1) := by decide +kernel
theorem dX0_takenOutAt_40 : decode cX0_takenOutAt 40 = .ok (.invokevirtual 76, 3) := by decide +kernel
theorem dX0_takenOutAt_43 : decode cX0_takenOutAt 43 = .ok (.istore_n 3, 1) := by decide +kernel
theorem dX0_takenOutAt_44 : decode cX0_takenOutAt 44 = .ok (.iinc 4 1, 3) := by decide +kernel
theorem dX0_takenOutAt_47 : decode cX0_takenOutAt 47 = .ok (.goto (-26), 3) := by decide +kernel
theorem dX0_takenOutAt_50 : decode cX0_takenOutAt 50 = .ok (.iload_n 3, 1) := by decide +kernel
theorem dX0_takenOutAt_51 : decode cX0_takenOutAt 51 = .ok (.ireturn, 1) := by decide +kernel
theorem dX0_firstHeard_0 : decode cX0_firstHeard 0 = .ok (.iconst (-1), 1) := by decide +kernel
theorem dX0_firstHeard_1 : decode cX0_firstHeard 1 = .ok (.istore_n 2, 1) := by decide +kernel
theorem dX0_firstHeard_2 : decode cX0_firstHeard 2 = .ok (.iconst 0, 1) := by decide +kernel
theorem dX0_firstHeard_3 : decode cX0_firstHeard 3 = .ok (.istore_n 3, 1) := by decide +kernel
theorem dX0_firstHeard_4 : decode cX0_firstHeard 4 = .ok (.iload_n 3, 1) := by decide +kernel
theorem dX0_firstHeard_5 : decode cX0_firstHeard 5 = .ok (.aload_n 0, 1) := by decide +kernel
theorem dX0_firstHeard_6 : decode cX0_firstHeard 6 = .ok (.getfield 39, 3) := by decide +kernel
theorem dX0_firstHeard_9 : decode cX0_firstHeard 9 = .ok (.if_icmp .ge 41, 3) := by decide +kernel
theorem dX0_firstHeard_12 : decode cX0_firstHeard 12 = .ok (.aload_n 0, 1) := by decide +kernel
theorem dX0_firstHeard_13 : decode cX0_firstHeard 13 = .ok (.iload_n 3, 1) := by decide +kernel
theorem dX0_firstHeard_14 : decode cX0_firstHeard 14 = .ok (.invokevirtual 79, 3) := by decide +kernel
theorem dX0_firstHeard_17 : decode cX0_firstHeard 17 = .ok (.ifCond .eq 27, 3) := by decide +kernel
theorem dX0_firstHeard_20 : decode cX0_firstHeard 20 = .ok (.iload_n 1, 1) := by decide +kernel
theorem dX0_firstHeard_21 : decode cX0_firstHeard 21 = .ok (.iload_n 3, 1) := by decide +kernel
theorem dX0_firstHeard_22 : decode cX0_firstHeard 22 = .ok (.invokestatic 82, 3) := by decide +kernel
theorem dX0_firstHeard_25 : decode cX0_firstHeard 25 = .ok (.ifCond .ne 19, 3) := by decide +kernel
theorem dX0_firstHeard_28 : decode cX0_firstHeard 28 = .ok (.iload_n 2, 1) := by decide +kernel
theorem dX0_firstHeard_29 : decode cX0_firstHeard 29 = .ok (.iconst (-1), 1) := by decide +kernel
theorem dX0_firstHeard_30 : decode cX0_firstHeard 30 = .ok (.if_icmp .eq 12, 3) := by decide +kernel
theorem dX0_firstHeard_33 : decode cX0_firstHeard 33 = .ok (.aload_n 0, 1) := by decide +kernel
theorem dX0_firstHeard_34 : decode cX0_firstHeard 34 = .ok (.iload_n 3, 1) := by decide +kernel
theorem dX0_firstHeard_35 : decode cX0_firstHeard 35 = .ok (.iload_n 2, 1) := by decide +kernel
theorem dX0_firstHeard_36 : decode cX0_firstHeard 36 = .ok (.invokevirtual 66, 3) := by decide +kernel
theorem dX0_firstHeard_39 : decode cX0_firstHeard 39 = .ok (.ifCond .eq 5, 3) := by decide +kernel
theorem dX0_firstHeard_42 : decode cX0_firstHeard 42 = .ok (.iload_n 3, 1) := by decide +kernel
theorem dX0_firstHeard_43 : decode cX0_firstHeard 43 = .ok (.istore_n 2, 1) := by decide +kernel
theorem dX0_firstHeard_44 : decode cX0_firstHeard 44 = .ok (.iinc 3 1, 3) := by decide +kernel
theorem dX0_firstHeard_47 : decode cX0_firstHeard 47 = .ok (.goto (-43), 3) := by decide +kernel
theorem dX0_firstHeard_50 : decode cX0_firstHeard 50 = .ok (.iload_n 2, 1) := by decide +kernel
theorem dX0_firstHeard_51 : decode cX0_firstHeard 51 = .ok (.ireturn, 1) := by decide +kernel
theorem dX0_comesBefore_0 : decode cX0_comesBefore 0 = .ok (.aload_n 0, 1) := by decide +kernel
theorem dX0_comesBefore_1 : decode cX0_comesBefore 1 = .ok (.getfield 15, 3) := by decide +kernel
theorem dX0_comesBefore_4 : decode cX0_comesBefore 4 = .ok (.iload_n 1, 1) := by decide +kernel
theorem dX0_comesBefore_5 : decode cX0_comesBefore 5 = .ok (.iaload, 1) := by decide +kernel
theorem dX0_comesBefore_6 : decode cX0_comesBefore 6 = .ok (.aload_n 0, 1) := by decide +kernel
theorem dX0_comesBefore_7 : decode cX0_comesBefore 7 = .ok (.getfield 15, 3) := by decide +kernel
theorem dX0_comesBefore_10 : decode cX0_comesBefore 10 = .ok (.iload_n 2, 1) := by decide +kernel
theorem dX0_comesBefore_11 : decode cX0_comesBefore 11 = .ok (.iaload, 1) := by decide +kernel
theorem dX0_comesBefore_12 : decode cX0_comesBefore 12 = .ok (.if_icmp .eq 24, 3) := by decide +kernel
theorem dX0_comesBefore_15 : decode cX0_comesBefore 15 = .ok (.aload_n 0, 1) := by decide +kernel
theorem dX0_comesBefore_16 : decode cX0_comesBefore 16 = .ok (.getfield 15, 3) := by decide +kernel
theorem dX0_comesBefore_19 : decode cX0_comesBefore 19 = .ok (.iload_n 1, 1) := by decide +kernel
theorem dX0_comesBefore_20 : decode cX0_comesBefore 20 = .ok (.iaload, 1) := by decide +kernel
theorem dX0_comesBefore_21 : decode cX0_comesBefore 21 = .ok (.aload_n 0, 1) := by decide +kernel
theorem dX0_comesBefore_22 : decode cX0_comesBefore 22 = .ok (.getfield 15, 3) := by decide +kernel
theorem dX0_comesBefore_25 : decode cX0_comesBefore 25 = .ok (.iload_n 2, 1) := by decide +kernel
theorem dX0_comesBefore_26 : decode cX0_comesBefore 26 = .ok (.iaload, 1) := by decide +kernel
theorem dX0_comesBefore_27 : decode cX0_comesBefore 27 = .ok (.if_icmp .ge 7, 3) := by decide +kernel
theorem dX0_comesBefore_30 : decode cX0_comesBefore 30 = .ok (.iconst 1, 1) := by decide +kernel
theorem dX0_comesBefore_31 : decode cX0_comesBefore 31 = .ok (.goto 4, 3) := by decide +kernel
theorem dX0_comesBefore_34 : decode cX0_comesBefore 34 = .ok (.iconst 0, 1) := by decide +kernel
theorem dX0_comesBefore_35 : decode cX0_comesBefore 35 = .ok (.ireturn, 1) := by decide +kernel
theorem dX0_comesBefore_36 : decode cX0_comesBefore 36 = .ok (.aload_n 0, 1) := by decide +kernel
theorem dX0_comesBefore_37 : decode cX0_comesBefore 37 = .ok (.getfield 9, 3) := by decide +kernel
theorem dX0_comesBefore_40 : decode cX0_comesBefore 40 = .ok (.iload_n 1, 1) := by decide +kernel
theorem dX0_comesBefore_41 : decode cX0_comesBefore 41 = .ok (.iaload, 1) := by decide +kernel
theorem dX0_comesBefore_42 : decode cX0_comesBefore 42 = .ok (.aload_n 0, 1) := by decide +kernel
theorem dX0_comesBefore_43 : decode cX0_comesBefore 43 = .ok (.getfield 9, 3) := by decide +kernel
theorem dX0_comesBefore_46 : decode cX0_comesBefore 46 = .ok (.iload_n 2, 1) := by decide +kernel
theorem dX0_comesBefore_47 : decode cX0_comesBefore 47 = .ok (.iaload, 1) := by decide +kernel
theorem dX0_comesBefore_48 : decode cX0_comesBefore 48 = .ok (.if_icmp .eq 24, 3) := by decide +kernel
theorem dX0_comesBefore_51 : decode cX0_comesBefore 51 = .ok (.aload_n 0, 1) := by decide +kernel
theorem dX0_comesBefore_52 : decode cX0_comesBefore 52 = .ok (.getfield 9, 3) := by decide +kernel
theorem dX0_comesBefore_55 : decode cX0_comesBefore 55 = .ok (.iload_n 1, 1) := by decide +kernel
theorem dX0_comesBefore_56 : decode cX0_comesBefore 56 = .ok (.iaload, 1) := by decide +kernel
theorem dX0_comesBefore_57 : decode cX0_comesBefore 57 = .ok (.aload_n 0, 1) := by decide +kernel
theorem dX0_comesBefore_58 : decode cX0_comesBefore 58 = .ok (.getfield 9, 3) := by decide +kernel
theorem dX0_comesBefore_61 : decode cX0_comesBefore 61 = .ok (.iload_n 2, 1) := by decide +kernel
theorem dX0_comesBefore_62 : decode cX0_comesBefore 62 = .ok (.iaload, 1) := by decide +kernel
theorem dX0_comesBefore_63 : decode cX0_comesBefore 63 = .ok (.if_icmp .ge 7, 3) := by decide +kernel
theorem dX0_comesBefore_66 : decode cX0_comesBefore 66 = .ok (.iconst 1, 1) := by decide +kernel
theorem dX0_comesBefore_67 : decode cX0_comesBefore 67 = .ok (.goto 4, 3) := by decide +kernel
theorem dX0_comesBefore_70 : decode cX0_comesBefore 70 = .ok (.iconst 0, 1) := by decide +kernel
theorem dX0_comesBefore_71 : decode cX0_comesBefore 71 = .ok (.ireturn, 1) := by decide +kernel
theorem dX0_comesBefore_72 : decode cX0_comesBefore 72 = .ok (.iload_n 1, 1) := by decide +kernel
theorem dX0_comesBefore_73 : decode cX0_comesBefore 73 = .ok (.iload_n 2, 1) := by decide +kernel
theorem dX0_comesBefore_74 : decode cX0_comesBefore 74 = .ok (.if_icmp .ge 7, 3) := by decide +kernel
theorem dX0_comesBefore_77 : decode cX0_comesBefore 77 = .ok (.iconst 1, 1) := by decide +kernel
theorem dX0_comesBefore_78 : decode cX0_comesBefore 78 = .ok (.goto 4, 3) := by decide +kernel
theorem dX0_comesBefore_81 : decode cX0_comesBefore 81 = .ok (.iconst 0, 1) := by decide +kernel
theorem dX0_comesBefore_82 : decode cX0_comesBefore 82 = .ok (.ireturn, 1) := by decide +kernel
theorem dX0_rolledBefore_0 : decode cX0_rolledBefore 0 = .ok (.iconst 0, 1) := by decide +kernel
theorem dX0_rolledBefore_1 : decode cX0_rolledBefore 1 = .ok (.istore_n 2, 1) := by decide +kernel
theorem dX0_rolledBefore_2 : decode cX0_rolledBefore 2 = .ok (.iconst 0, 1) := by decide +kernel
theorem dX0_rolledBefore_3 : decode cX0_rolledBefore 3 = .ok (.istore_n 3, 1) := by decide +kernel
theorem dX0_rolledBefore_4 : decode cX0_rolledBefore 4 = .ok (.iload_n 3, 1) := by decide +kernel
theorem dX0_rolledBefore_5 : decode cX0_rolledBefore 5 = .ok (.aload_n 0, 1) := by decide +kernel
theorem dX0_rolledBefore_6 : decode cX0_rolledBefore 6 = .ok (.getfield 43, 3) := by decide +kernel
theorem dX0_rolledBefore_9 : decode cX0_rolledBefore 9 = .ok (.if_icmp .ge 32, 3) := by decide +kernel
theorem dX0_rolledBefore_12 : decode cX0_rolledBefore 12 = .ok (.iload_n 2, 1) := by decide +kernel
theorem dX0_rolledBefore_13 : decode cX0_rolledBefore 13 = .ok (.aload_n 0, 1) := by decide +kernel
theorem dX0_rolledBefore_14 : decode cX0_rolledBefore 14 = .ok (.getfield 15, 3) := by decide +kernel
theorem dX0_rolledBefore_17 : decode cX0_rolledBefore 17 = .ok (.aload_n 0, 1) := by decide +kernel
theorem dX0_rolledBefore_18 : decode cX0_rolledBefore 18 = .ok (.getfield 36, 3) := by decide +kernel
theorem dX0_rolledBefore_21 : decode cX0_rolledBefore 21 = .ok (.iload_n 3, 1) := by decide +kernel
theorem dX0_rolledBefore_22 : decode cX0_rolledBefore 22 = .ok (.iaload, 1) := by decide +kernel
theorem dX0_rolledBefore_23 : decode cX0_rolledBefore 23 = .ok (.iaload, 1) := by decide +kernel
theorem dX0_rolledBefore_24 : decode cX0_rolledBefore 24 = .ok (.iload_n 1, 1) := by decide +kernel
theorem dX0_rolledBefore_25 : decode cX0_rolledBefore 25 = .ok (.if_icmp .ge 7, 3) := by decide +kernel
theorem dX0_rolledBefore_28 : decode cX0_rolledBefore 28 = .ok (.iconst 1, 1) := by decide +kernel
theorem dX0_rolledBefore_29 : decode cX0_rolledBefore 29 = .ok (.goto 4, 3) := by decide +kernel
theorem dX0_rolledBefore_32 : decode cX0_rolledBefore 32 = .ok (.iconst 0, 1) := by decide +kernel
theorem dX0_rolledBefore_33 : decode cX0_rolledBefore 33 = .ok (.iadd, 1) := by decide +kernel
theorem dX0_rolledBefore_34 : decode cX0_rolledBefore 34 = .ok (.istore_n 2, 1) := by decide +kernel
theorem dX0_rolledBefore_35 : decode cX0_rolledBefore 35 = .ok (.iinc 3 1, 3) := by decide +kernel
theorem dX0_rolledBefore_38 : decode cX0_rolledBefore 38 = .ok (.goto (-34), 3) := by decide +kernel
theorem dX0_rolledBefore_41 : decode cX0_rolledBefore 41 = .ok (.iload_n 2, 1) := by decide +kernel
theorem dX0_rolledBefore_42 : decode cX0_rolledBefore 42 = .ok (.ireturn, 1) := by decide +kernel
theorem dX0_rolledTermFrom_0 : decode cX0_rolledTermFrom 0 = .ok (.iconst 0, 1) := by decide +kernel
theorem dX0_rolledTermFrom_1 : decode cX0_rolledTermFrom 1 = .ok (.istore_n 2, 1) := by decide +kernel
theorem dX0_rolledTermFrom_2 : decode cX0_rolledTermFrom 2 = .ok (.iload_n 2, 1) := by decide +kernel
theorem dX0_rolledTermFrom_3 : decode cX0_rolledTermFrom 3 = .ok (.aload_n 0, 1) := by decide +kernel
theorem dX0_rolledTermFrom_4 : decode cX0_rolledTermFrom 4 = .ok (.getfield 43, 3) := by decide +kernel
theorem dX0_rolledTermFrom_7 : decode cX0_rolledTermFrom 7 = .ok (.if_icmp .ge 36, 3) := by decide +kernel
theorem dX0_rolledTermFrom_10 : decode cX0_rolledTermFrom 10 = .ok (.aload_n 0, 1) := by decide +kernel
theorem dX0_rolledTermFrom_11 : decode cX0_rolledTermFrom 11 = .ok (.getfield 15, 3) := by decide +kernel
theorem dX0_rolledTermFrom_14 : decode cX0_rolledTermFrom 14 = .ok (.aload_n 0, 1) := by decide +kernel
theorem dX0_rolledTermFrom_15 : decode cX0_rolledTermFrom 15 = .ok (.getfield 36, 3) := by decide +kernel
theorem dX0_rolledTermFrom_18 : decode cX0_rolledTermFrom 18 = .ok (.iload_n 2, 1) := by decide +kernel
theorem dX0_rolledTermFrom_19 : decode cX0_rolledTermFrom 19 = .ok (.iaload, 1) := by decide +kernel
theorem dX0_rolledTermFrom_20 : decode cX0_rolledTermFrom 20 = .ok (.iaload, 1) := by decide +kernel
theorem dX0_rolledTermFrom_21 : decode cX0_rolledTermFrom 21 = .ok (.iload_n 1, 1) := by decide +kernel
theorem dX0_rolledTermFrom_22 : decode cX0_rolledTermFrom 22 = .ok (.if_icmp .lt 15, 3) := by decide +kernel
theorem dX0_rolledTermFrom_25 : decode cX0_rolledTermFrom 25 = .ok (.aload_n 0, 1) := by decide +kernel
theorem dX0_rolledTermFrom_26 : decode cX0_rolledTermFrom 26 = .ok (.getfield 15, 3) := by decide +kernel
theorem dX0_rolledTermFrom_29 : decode cX0_rolledTermFrom 29 = .ok (.aload_n 0, 1) := by decide +kernel
theorem dX0_rolledTermFrom_30 : decode cX0_rolledTermFrom 30 = .ok (.getfield 36, 3) := by decide +kernel
theorem dX0_rolledTermFrom_33 : decode cX0_rolledTermFrom 33 = .ok (.iload_n 2, 1) := by decide +kernel
theorem dX0_rolledTermFrom_34 : decode cX0_rolledTermFrom 34 = .ok (.iaload, 1) := by decide +kernel
theorem dX0_rolledTermFrom_35 : decode cX0_rolledTermFrom 35 = .ok (.iaload, 1) := by decide +kernel
theorem dX0_rolledTermFrom_36 : decode cX0_rolledTermFrom 36 = .ok (.ireturn, 1) := by decide +kernel
theorem dX0_rolledTermFrom_37 : decode cX0_rolledTermFrom 37 = .ok (.iinc 2 1, 3) := by decide +kernel
theorem dX0_rolledTermFrom_40 : decode cX0_rolledTermFrom 40 = .ok (.goto (-38), 3) := by decide +kernel
theorem dX0_rolledTermFrom_43 : decode cX0_rolledTermFrom 43 = .ok (.iconst (-1), 1) := by decide +kernel
theorem dX0_rolledTermFrom_44 : decode cX0_rolledTermFrom 44 = .ok (.ireturn, 1) := by decide +kernel
theorem dX1_init_0 : decode cX1_init 0 = .ok (.aload_n 0, 1) := by decide +kernel
theorem dX1_init_1 : decode cX1_init 1 = .ok (.invokespecial 3, 3) := by decide +kernel
theorem dX1_init_4 : decode cX1_init 4 = .ok (.aload_n 0, 1) := by decide +kernel
theorem dX1_init_5 : decode cX1_init 5 = .ok (.new 9, 3) := by decide +kernel
theorem dX1_init_8 : decode cX1_init 8 = .ok (.dup, 1) := by decide +kernel
theorem dX1_init_9 : decode cX1_init 9 = .ok (.invokespecial 11, 3) := by decide +kernel
theorem dX1_init_12 : decode cX1_init 12 = .ok (.putfield 12, 3) := by decide +kernel
theorem dX1_init_15 : decode cX1_init 15 = .ok (.aload_n 0, 1) := by decide +kernel
theorem dX1_init_16 : decode cX1_init 16 = .ok (.new 18, 3) := by decide +kernel
theorem dX1_init_19 : decode cX1_init 19 = .ok (.dup, 1) := by decide +kernel
theorem dX1_init_20 : decode cX1_init 20 = .ok (.invokespecial 20, 3) := by decide +kernel
theorem dX1_init_23 : decode cX1_init 23 = .ok (.putfield 21, 3) := by decide +kernel
theorem dX1_init_26 : decode cX1_init 26 = .ok (.aload_n 0, 1) := by decide +kernel
theorem dX1_init_27 : decode cX1_init 27 = .ok (.iconst 1, 1) := by decide +kernel
theorem dX1_init_28 : decode cX1_init 28 = .ok (.putfield 25, 3) := by decide +kernel
theorem dX1_init_31 : decode cX1_init 31 = .ok (.aload_n 0, 1) := by decide +kernel
theorem dX1_init_32 : decode cX1_init 32 = .ok (.iconst 0, 1) := by decide +kernel
theorem dX1_init_33 : decode cX1_init 33 = .ok (.putfield 29, 3) := by decide +kernel
theorem dX1_init_36 : decode cX1_init 36 = .ok (.aload_n 0, 1) := by decide +kernel
theorem dX1_init_37 : decode cX1_init 37 = .ok (.iconst 0, 1) := by decide +kernel
theorem dX1_init_38 : decode cX1_init 38 = .ok (.putfield 32, 3) := by decide +kernel
theorem dX1_init_41 : decode cX1_init 41 = .ok (.return_, 1) := by decide +kernel
theorem dX1_copyFrom_0 : decode cX1_copyFrom 0 = .ok (.aload_n 0, 1) := by decide +kernel
theorem dX1_copyFrom_1 : decode cX1_copyFrom 1 = .ok (.getfield 12, 3) := by decide +kernel
theorem dX1_copyFrom_4 : decode cX1_copyFrom 4 = .ok (.aload_n 1, 1) := by decide +kernel
theorem dX1_copyFrom_5 : decode cX1_copyFrom 5 = .ok (.getfield 12, 3) := by decide +kernel
theorem dX1_copyFrom_8 : decode cX1_copyFrom 8 = .ok (.invokevirtual 35, 3) := by decide +kernel
theorem dX1_copyFrom_11 : decode cX1_copyFrom 11 = .ok (.aload_n 0, 1) := by decide +kernel
theorem dX1_copyFrom_12 : decode cX1_copyFrom 12 = .ok (.getfield 21, 3) := by decide +kernel
theorem dX1_copyFrom_15 : decode cX1_copyFrom 15 = .ok (.aload_n 1, 1) := by decide +kernel
theorem dX1_copyFrom_16 : decode cX1_copyFrom 16 = .ok (.getfield 21, 3) := by decide +kernel
theorem dX1_copyFrom_19 : decode cX1_copyFrom 19 = .ok (.invokevirtual 39, 3) := by decide +kernel
theorem dX1_copyFrom_22 : decode cX1_copyFrom 22 = .ok (.aload_n 0, 1) := by decide +kernel
theorem dX1_copyFrom_23 : decode cX1_copyFrom 23 = .ok (.aload_n 1, 1) := by decide +kernel
theorem dX1_copyFrom_24 : decode cX1_copyFrom 24 = .ok (.getfield 25, 3) := by decide +kernel
theorem dX1_copyFrom_27 : decode cX1_copyFrom 27 = .ok (.putfield 25, 3) := by decide +kernel
theorem dX1_copyFrom_30 : decode cX1_copyFrom 30 = .ok (.aload_n 0, 1) := by decide +kernel
theorem dX1_copyFrom_31 : decode cX1_copyFrom 31 = .ok (.aload_n 1, 1) := by decide +kernel
theorem dX1_copyFrom_32 : decode cX1_copyFrom 32 = .ok (.getfield 29, 3) := by decide +kernel
theorem dX1_copyFrom_35 : decode cX1_copyFrom 35 = .ok (.putfield 29, 3) := by decide +kernel
theorem dX1_copyFrom_38 : decode cX1_copyFrom 38 = .ok (.aload_n 0, 1) := by decide +kernel
theorem dX1_copyFrom_39 : decode cX1_copyFrom 39 = .ok (.aload_n 1, 1) := by decide +kernel
theorem dX1_copyFrom_40 : decode cX1_copyFrom 40 = .ok (.getfield 32, 3) := by decide +kernel
theorem dX1_copyFrom_43 : decode cX1_copyFrom 43 = .ok (.putfield 32, 3) := by decide +kernel
theorem dX1_copyFrom_46 : decode cX1_copyFrom 46 = .ok (.return_, 1) := by decide +kernel
theorem dX1_loadOf_0 : decode cX1_loadOf 0 = .ok (.iconst 0, 1) := by decide +kernel
theorem dX1_loadOf_1 : decode cX1_loadOf 1 = .ok (.istore_n 2, 1) := by decide +kernel
theorem dX1_loadOf_2 : decode cX1_loadOf 2 = .ok (.iconst 0, 1) := by decide +kernel
theorem dX1_loadOf_3 : decode cX1_loadOf 3 = .ok (.istore_n 3, 1) := by decide +kernel
theorem dX1_loadOf_4 : decode cX1_loadOf 4 = .ok (.iload_n 3, 1) := by decide +kernel
theorem dX1_loadOf_5 : decode cX1_loadOf 5 = .ok (.aload_n 0, 1) := by decide +kernel
theorem dX1_loadOf_6 : decode cX1_loadOf 6 = .ok (.getfield 21, 3) := by decide +kernel
theorem dX1_loadOf_9 : decode cX1_loadOf 9 = .ok (.getfield 42, 3) := by decide +kernel
theorem dX1_loadOf_12 : decode cX1_loadOf 12 = .ok (.if_icmp .ge 39, 3) := by decide +kernel
theorem dX1_loadOf_15 : decode cX1_loadOf 15 = .ok (.aload_n 0, 1) := by decide +kernel
theorem dX1_loadOf_16 : decode cX1_loadOf 16 = .ok (.getfield 21, 3) := by decide +kernel
theorem dX1_loadOf_19 : decode cX1_loadOf 19 = .ok (.iload_n 3, 1) := by decide +kernel
theorem dX1_loadOf_20 : decode cX1_loadOf 20 = .ok (.invokevirtual 45, 3) := by decide +kernel
theorem dX1_loadOf_23 : decode cX1_loadOf 23 = .ok (.ifCond .ne 22, 3) := by decide +kernel
theorem dX1_loadOf_26 : decode cX1_loadOf 26 = .ok (.aload_n 0, 1) := by decide +kernel
theorem dX1_loadOf_27 : decode cX1_loadOf 27 = .ok (.getfield 21, 3) := by decide +kernel
theorem dX1_loadOf_30 : decode cX1_loadOf 30 = .ok (.getfield 49, 3) := by decide +kernel
theorem dX1_loadOf_33 : decode cX1_loadOf 33 = .ok (.iload_n 3, 1) := by decide +kernel
theorem dX1_loadOf_34 : decode cX1_loadOf 34 = .ok (.iaload, 1) := by decide +kernel
theorem dX1_loadOf_35 : decode cX1_loadOf 35 = .ok (.iload_n 1, 1) := by decide +kernel
theorem dX1_loadOf_36 : decode cX1_loadOf 36 = .ok (.invokestatic 53, 3) := by decide +kernel
theorem dX1_loadOf_39 : decode cX1_loadOf 39 = .ok (.ifCond .eq 6, 3) := by decide +kernel
theorem dX1_loadOf_42 : decode cX1_loadOf 42 = .ok (.iinc 2 1, 3) := by decide +kernel
theorem dX1_loadOf_45 : decode cX1_loadOf 45 = .ok (.iinc 3 1, 3) := by decide +kernel
theorem dX1_loadOf_48 : decode cX1_loadOf 48 = .ok (.goto (-44), 3) := by decide +kernel
theorem dX1_loadOf_51 : decode cX1_loadOf 51 = .ok (.iload_n 2, 1) := by decide +kernel
theorem dX1_loadOf_52 : decode cX1_loadOf 52 = .ok (.ireturn, 1) := by decide +kernel
theorem dX1_loadInRow_0 : decode cX1_loadInRow 0 = .ok (.lconst 0, 1) := by decide +kernel
theorem dX1_loadInRow_1 : decode cX1_loadInRow 1 = .ok (.lstore_n 2, 1) := by decide +kernel
theorem dX1_loadInRow_2 : decode cX1_loadInRow 2 = .ok (.iconst 0, 1) := by decide +kernel
theorem dX1_loadInRow_3 : decode cX1_loadInRow 3 = .ok (.istore 4, 2) := by decide +kernel
theorem dX1_loadInRow_5 : decode cX1_loadInRow 5 = .ok (.iload 4, 2) := by decide +kernel
theorem dX1_loadInRow_7 : decode cX1_loadInRow 7 = .ok (.aload_n 0, 1) := by decide +kernel
theorem dX1_loadInRow_8 : decode cX1_loadInRow 8 = .ok (.getfield 21, 3) := by decide +kernel
theorem dX1_loadInRow_11 : decode cX1_loadInRow 11 = .ok (.getfield 42, 3) := by decide +kernel
theorem dX1_loadInRow_14 : decode cX1_loadInRow 14 = .ok (.bipush 9, 2) := by decide +kernel
theorem dX1_loadInRow_16 : decode cX1_loadInRow 16 = .ok (.imul, 1) := by decide +kernel
theorem dX1_loadInRow_17 : decode cX1_loadInRow 17 = .ok (.if_icmp .ge 63, 3) := by decide +kernel
theorem dX1_loadInRow_20 : decode cX1_loadInRow 20 = .ok (.iload 4, 2) := by decide +kernel
theorem dX1_loadInRow_22 : decode cX1_loadInRow 22 = .ok (.bipush 9, 2) := by decide +kernel
theorem dX1_loadInRow_24 : decode cX1_loadInRow 24 = .ok (.idiv, 1) := by decide +kernel
theorem dX1_loadInRow_25 : decode cX1_loadInRow 25 = .ok (.istore 5, 2) := by decide +kernel
theorem dX1_loadInRow_27 : decode cX1_loadInRow 27 = .ok (.iload 4, 2) := by decide +kernel
theorem dX1_loadInRow_29 : decode cX1_loadInRow 29 = .ok (.bipush 9, 2) := by decide +kernel
theorem dX1_loadInRow_31 : decode cX1_loadInRow 31 = .ok (.irem, 1) := by decide +kernel
theorem dX1_loadInRow_32 : decode cX1_loadInRow 32 = .ok (.istore 6, 2) := by decide +kernel
theorem dX1_loadInRow_34 : decode cX1_loadInRow 34 = .ok (.aload_n 0, 1) := by decide +kernel
theorem dX1_loadInRow_35 : decode cX1_loadInRow 35 = .ok (.getfield 21, 3) := by decide +kernel
theorem dX1_loadInRow_38 : decode cX1_loadInRow 38 = .ok (.iload 5, 2) := by decide +kernel
theorem dX1_loadInRow_40 : decode cX1_loadInRow 40 = .ok (.invokevirtual 45, 3) := by decide +kernel
theorem dX1_loadInRow_43 : decode cX1_loadInRow 43 = .ok (.ifCond .ne 31, 3) := by decide +kernel
theorem dX1_loadInRow_46 : decode cX1_loadInRow 46 = .ok (.aload_n 0, 1) := by decide +kernel
theorem dX1_loadInRow_47 : decode cX1_loadInRow 47 = .ok (.getfield 21, 3) := by decide +kernel
theorem dX1_loadInRow_50 : decode cX1_loadInRow 50 = .ok (.getfield 49, 3) := by decide +kernel
theorem dX1_loadInRow_53 : decode cX1_loadInRow 53 = .ok (.iload 5, 2) := by decide +kernel
theorem dX1_loadInRow_55 : decode cX1_loadInRow 55 = .ok (.iaload, 1) := by decide +kernel
theorem dX1_loadInRow_56 : decode cX1_loadInRow 56 = .ok (.iload 6, 2) := by decide +kernel
theorem dX1_loadInRow_58 : decode cX1_loadInRow 58 = .ok (.invokestatic 53, 3) := by decide +kernel
theorem dX1_loadInRow_61 : decode cX1_loadInRow 61 = .ok (.ifCond .eq 13, 3) := by decide +kernel
theorem dX1_loadInRow_64 : decode cX1_loadInRow 64 = .ok (.lload_n 2, 1) := by decide +kernel
theorem dX1_loadInRow_65 : decode cX1_loadInRow 65 = .ok (.lconst 1, 1) := by decide +kernel
theorem dX1_loadInRow_66 : decode cX1_loadInRow 66 = .ok (.bipush 6, 2) := by decide +kernel
theorem dX1_loadInRow_68 : decode cX1_loadInRow 68 = .ok (.iload 6, 2) := by decide +kernel
theorem dX1_loadInRow_70 : decode cX1_loadInRow 70 = .ok (.imul, 1) := by decide +kernel
theorem dX1_loadInRow_71 : decode cX1_loadInRow 71 = .ok (.lshl, 1) := by decide +kernel
theorem dX1_loadInRow_72 : decode cX1_loadInRow 72 = .ok (.ladd, 1) := by decide +kernel
theorem dX1_loadInRow_73 : decode cX1_loadInRow 73 = .ok (.lstore_n 2, 1) := by decide +kernel
theorem dX1_loadInRow_74 : decode cX1_loadInRow 74 = .ok (.iinc 4 1, 3) := by decide +kernel
theorem dX1_loadInRow_77 : decode cX1_loadInRow 77 = .ok (.goto (-72), 3) := by decide +kernel
theorem dX1_loadInRow_80 : decode cX1_loadInRow 80 = .ok (.lload_n 2, 1) := by decide +kernel
theorem dX1_loadInRow_81 : decode cX1_loadInRow 81 = .ok (.bipush 6, 2) := by decide +kernel
theorem dX1_loadInRow_83 : decode cX1_loadInRow 83 = .ok (.iload_n 1, 1) := by decide +kernel
theorem dX1_loadInRow_84 : decode cX1_loadInRow 84 = .ok (.imul, 1) := by decide +kernel
theorem dX1_loadInRow_85 : decode cX1_loadInRow 85 = .ok (.lshr, 1) := by decide +kernel
theorem dX1_loadInRow_86 : decode cX1_loadInRow 86 = .ok (.ldc2_w 57, 3) := by decide +kernel
theorem dX1_loadInRow_89 : decode cX1_loadInRow 89 = .ok (.land, 1) := by decide +kernel
theorem dX1_loadInRow_90 : decode cX1_loadInRow 90 = .ok (.l2i, 1) := by decide +kernel
theorem dX1_loadInRow_91 : decode cX1_loadInRow 91 = .ok (.ireturn, 1) := by decide +kernel
theorem dX1_callableWithout_0 : decode cX1_callableWithout 0 = .ok (.iconst 0, 1) := by decide +kernel
theorem dX1_callableWithout_1 : decode cX1_callableWithout 1 = .ok (.istore_n 2, 1) := by decide +kernel
theorem dX1_callableWithout_2 : decode cX1_callableWithout 2 = .ok (.iconst 0, 1) := by decide +kernel
theorem dX1_callableWithout_3 : decode cX1_callableWithout 3 = .ok (.istore_n 3, 1) := by decide +kernel
theorem dX1_callableWithout_4 : decode cX1_callableWithout 4 = .ok (.iload_n 3, 1) := by decide +kernel
theorem dX1_callableWithout_5 : decode cX1_callableWithout 5 = .ok (.aload_n 0, 1) := by decide +kernel
theorem dX1_callableWithout_6 : decode cX1_callableWithout 6 = .ok (.getfield 12, 3) := by decide +kernel
theorem dX1_callableWithout_9 : decode cX1_callableWithout 9 = .ok (.getfield 59, 3) := by decide +kernel
theorem dX1_callableWithout_12 : decode cX1_callableWithout 12 = .ok (.if_icmp .ge 34, 3) := by decide +kernel
theorem dX1_callableWithout_15 : decode cX1_callableWithout 15 = .ok (.iload_n 2, 1) := by decide +kernel
theorem dX1_callableWithout_16 : decode cX1_callableWithout 16 = .ok (.iload_n 1, 1) := by decide +kernel
theorem dX1_callableWithout_17 : decode cX1_callableWithout 17 = .ok (.iload_n 3, 1) := by decide +kernel
theorem dX1_callableWithout_18 : decode cX1_callableWithout 18 = .ok (.invokestatic 53, 3) := by decide +kernel
theorem dX1_callableWithout_21 : decode cX1_callableWithout 21 = .ok (.ifCond .ne 16, 3) := by decide +kernel
theorem dX1_callableWithout_24 : decode cX1_callableWithout 24 = .ok (.aload_n 0, 1) := by decide +kernel
theorem dX1_callableWithout_25 : decode cX1_callableWithout 25 = .ok (.iload_n 3, 1) := by decide +kernel
theorem dX1_callableWithout_26 : decode cX1_callableWithout 26 = .ok (.invokevirtual 60, 3) := by decide +kernel
theorem dX1_callableWithout_29 : decode cX1_callableWithout 29 = .ok (.iconst 3, 1) := by decide +kernel
theorem dX1_callableWithout_30 : decode cX1_callableWithout 30 = .ok (.if_icmp .ge 7, 3) := by decide +kernel
theorem dX1_callableWithout_33 : decode cX1_callableWithout 33 = .ok (.iconst 1, 1) := by decide +kernel
theorem dX1_callableWithout_34 : decode cX1_callableWithout 34 = .ok (.goto 4, 3) := by decide +kernel
theorem dX1_callableWithout_37 : decode cX1_callableWithout 37 = .ok (.iconst 0, 1) := by decide +kernel
theorem dX1_callableWithout_38 : decode cX1_callableWithout 38 = .ok (.iadd, 1) := by decide +kernel
theorem dX1_callableWithout_39 : decode cX1_callableWithout 39 = .ok (.istore_n 2, 1) := by decide +kernel
theorem dX1_callableWithout_40 : decode cX1_callableWithout 40 = .ok (.iinc 3 1, 3) := by decide +kernel
theorem dX1_callableWithout_43 : decode cX1_callableWithout 43 = .ok (.goto (-39), 3) := by decide +kernel
theorem dX1_callableWithout_46 : decode cX1_callableWithout 46 = .ok (.iload_n 2, 1) := by decide +kernel
theorem dX1_callableWithout_47 : decode cX1_callableWithout 47 = .ok (.ireturn, 1) := by decide +kernel
theorem dX1_callableAt_0 : decode cX1_callableAt 0 = .ok (.aload_n 0, 1) := by decide +kernel
theorem dX1_callableAt_1 : decode cX1_callableAt 1 = .ok (.getfield 12, 3) := by decide +kernel
theorem dX1_callableAt_4 : decode cX1_callableAt 4 = .ok (.iload_n 1, 1) := by decide +kernel
theorem dX1_callableAt_5 : decode cX1_callableAt 5 = .ok (.invokevirtual 64, 3) := by decide +kernel
theorem dX1_callableAt_8 : decode cX1_callableAt 8 = .ok (.ifCond .ne 5, 3) := by decide +kernel
theorem dX1_callableAt_11 : decode cX1_callableAt 11 = .ok (.iconst (-1), 1) := by decide +kernel
theorem dX1_callableAt_12 : decode cX1_callableAt 12 = .ok (.ireturn, 1) := by decide +kernel
theorem dX1_callableAt_13 : decode cX1_callableAt 13 = .ok (.iconst 0, 1) := by decide +kernel
theorem dX1_callableAt_14 : decode cX1_callableAt 14 = .ok (.istore_n 2, 1) := by decide +kernel
theorem dX1_callableAt_15 : decode cX1_callableAt 15 = .ok (.aload_n 0, 1) := by decide +kernel
theorem dX1_callableAt_16 : decode cX1_callableAt 16 = .ok (.iload_n 2, 1) := by decide +kernel
theorem dX1_callableAt_17 : decode cX1_callableAt 17 = .ok (.invokevirtual 67, 3) := by decide +kernel
theorem dX1_callableAt_20 : decode cX1_callableAt 20 = .ok (.istore_n 3, 1) := by decide +kernel
theorem dX1_callableAt_21 : decode cX1_callableAt 21 = .ok (.iconst 0, 1) := by decide +kernel
theorem dX1_callableAt_22 : decode cX1_callableAt 22 = .ok (.istore 4, 2) := by decide +kernel
theorem dX1_callableAt_24 : decode cX1_callableAt 24 = .ok (.iload 4, 2) := by decide +kernel
theorem dX1_callableAt_26 : decode cX1_callableAt 26 = .ok (.iload_n 1, 1) := by decide +kernel
theorem dX1_callableAt_27 : decode cX1_callableAt 27 = .ok (.if_icmp .ge 26, 3) := by decide +kernel
theorem dX1_callableAt_30 : decode cX1_callableAt 30 = .ok (.iload_n 3, 1) := by decide +kernel
theorem dX1_callableAt_31 : decode cX1_callableAt 31 = .ok (.iconst (-1), 1) := by decide +kernel
theorem dX1_callableAt_32 : decode cX1_callableAt 32 = .ok (.if_icmp .eq 21, 3) := by decide +kernel
theorem dX1_callableAt_35 : decode cX1_callableAt 35 = .ok (.iload_n 2, 1) := by decide +kernel
theorem dX1_callableAt_36 : decode cX1_callableAt 36 = .ok (.iconst 1, 1) := by decide +kernel
theorem dX1_callableAt_37 : decode cX1_callableAt 37 = .ok (.iload_n 3, 1) := by decide +kernel
theorem dX1_callableAt_38 : decode cX1_callableAt 38 = .ok (.ishl, 1) := by decide +kernel
theorem dX1_callableAt_39 : decode cX1_callableAt 39 = .ok (.ior, 1) := by decide +kernel
theorem dX1_callableAt_40 : decode cX1_callableAt 40 = .ok (.istore_n 2, 1) := by decide +kernel
theorem dX1_callableAt_41 : decode cX1_callableAt 41 = .ok (.aload_n 0, 1) := by decide +kernel
theorem dX1_callableAt_42 : decode cX1_callableAt 42 = .ok (.iload_n 2, 1) := by decide +kernel
theorem dX1_callableAt_43 : decode cX1_callableAt 43 = .ok (.invokevirtual 67, 3) := by decide +kernel
theorem dX1_callableAt_46 : decode cX1_callableAt 46 = .ok (.istore_n 3, 1) := by decide +kernel
theorem dX1_callableAt_47 : decode cX1_callableAt 47 = .ok (.iinc 4 1, 3) := by decide +kernel
theorem dX1_callableAt_50 : decode cX1_callableAt 50 = .ok (.goto (-26), 3) := by decide +kernel
theorem dX1_callableAt_53 : decode cX1_callableAt 53 = .ok (.iload_n 3, 1) := by decide +kernel
theorem dX1_callableAt_54 : decode cX1_callableAt 54 = .ok (.ireturn, 1) := by decide +kernel
theorem dX1_firstCallable_0 : decode cX1_firstCallable 0 = .ok (.iconst (-1), 1) := by decide +kernel
theorem dX1_firstCallable_1 : decode cX1_firstCallable 1 = .ok (.istore_n 2, 1) := by decide +kernel
theorem dX1_firstCallable_2 : decode cX1_firstCallable 2 = .ok (.iconst 3, 1) := by decide +kernel
theorem dX1_firstCallable_3 : decode cX1_firstCallable 3 = .ok (.istore_n 3, 1) := by decide +kernel
theorem dX1_firstCallable_4 : decode cX1_firstCallable 4 = .ok (.iconst 0, 1) := by decide +kernel
theorem dX1_firstCallable_5 : decode cX1_firstCallable 5 = .ok (.istore 4, 2) := by decide +kernel
theorem dX1_firstCallable_7 : decode cX1_firstCallable 7 = .ok (.iload 4, 2) := by decide +kernel
theorem dX1_firstCallable_9 : decode cX1_firstCallable 9 = .ok (.aload_n 0, 1) := by decide +kernel
theorem dX1_firstCallable_10 : decode cX1_firstCallable 10 = .ok (.getfield 12, 3) := by decide +kernel
theorem dX1_firstCallable_13 : decode cX1_firstCallable 13 = .ok (.getfield 59, 3) := by decide +kernel
theorem dX1_firstCallable_16 : decode cX1_firstCallable 16 = .ok (.if_icmp .ge 87, 3) := by decide +kernel
theorem dX1_firstCallable_19 : decode cX1_firstCallable 19 = .ok (.iload_n 1, 1) := by decide +kernel
theorem dX1_firstCallable_20 : decode cX1_firstCallable 20 = .ok (.iload 4, 2) := by decide +kernel
theorem dX1_firstCallable_22 : decode cX1_firstCallable 22 = .ok (.invokestatic 53, 3) := by decide +kernel
theorem dX1_firstCallable_25 : decode cX1_firstCallable 25 = .ok (.ifCond .eq 7, 3) := by decide +kernel
theorem dX1_firstCallable_28 : decode cX1_firstCallable 28 = .ok (.iconst 3, 1) := by decide +kernel
theorem dX1_firstCallable_29 : decode cX1_firstCallable 29 = .ok (.goto 9, 3) := by decide +kernel
theorem dX1_firstCallable_32 : decode cX1_firstCallable 32 = .ok (.aload_n 0, 1) := by decide +kernel
theorem dX1_firstCallable_33 : decode cX1_firstCallable 33 = .ok (.iload 4, 2) := by decide +kernel
theorem dX1_firstCallable_35 : decode cX1_firstCallable 35 = .ok (.invokevirtual 60, 3) := by decide +kernel
theorem dX1_firstCallable_38 : decode cX1_firstCallable 38 = .ok (.istore 5, 2) := by decide +kernel
theorem dX1_firstCallable_40 : decode cX1_firstCallable 40 = .ok (.iload 5, 2) := by decide +kernel
theorem dX1_firstCallable_42 : decode cX1_firstCallable 42 = .ok (.iload_n 3, 1) := by decide +kernel
theorem dX1_firstCallable_43 : decode cX1_firstCallable 43 = .ok (.if_icmp .ne 34, 3) := by decide +kernel
theorem dX1_firstCallable_46 : decode cX1_firstCallable 46 = .ok (.iload_n 2, 1) := by decide +kernel
theorem dX1_firstCallable_47 : decode cX1_firstCallable 47 = .ok (.iconst (-1), 1) := by decide +kernel
theorem dX1_firstCallable_48 : decode cX1_firstCallable 48 = .ok (.if_icmp .eq 29, 3) := by decide +kernel
theorem dX1_firstCallable_51 : decode cX1_firstCallable 51 = .ok (.aload_n 0, 1) := by decide +kernel
theorem dX1_firstCallable_52 : decode cX1_firstCallable 52 = .ok (.getfield 12, 3) := by decide +kernel
theorem dX1_firstCallable_55 : decode cX1_firstCallable 55 = .ok (.getfield 70, 3) := by decide +kernel
theorem dX1_firstCallable_58 : decode cX1_firstCallable 58 = .ok (.iload 4, 2) := by decide +kernel
theorem dX1_firstCallable_60 : decode cX1_firstCallable 60 = .ok (.iaload, 1) := by decide +kernel
theorem dX1_firstCallable_61 : decode cX1_firstCallable 61 = .ok (.aload_n 0, 1) := by decide +kernel
theorem dX1_firstCallable_62 : decode cX1_firstCallable 62 = .ok (.getfield 12, 3) := by decide +kernel
theorem dX1_firstCallable_65 : decode cX1_firstCallable 65 = .ok (.getfield 70, 3) := by decide +kernel
theorem dX1_firstCallable_68 : decode cX1_firstCallable 68 = .ok (.iload_n 2, 1) := by decide +kernel
theorem dX1_firstCallable_69 : decode cX1_firstCallable 69 = .ok (.iaload, 1) := by decide +kernel
theorem dX1_firstCallable_70 : decode cX1_firstCallable 70 = .ok (.if_icmp .ge 7, 3) := by decide +kernel
theorem dX1_firstCallable_73 : decode cX1_firstCallable 73 = .ok (.iconst 1, 1) := by decide +kernel
theorem dX1_firstCallable_74 : decode cX1_firstCallable 74 = .ok (.goto 4, 3) := by decide +kernel
theorem dX1_firstCallable_77 : decode cX1_firstCallable 77 = .ok (.iconst 0, 1) := by decide +kernel
theorem dX1_firstCallable_78 : decode cX1_firstCallable 78 = .ok (.istore 6, 2) := by decide +kernel
theorem dX1_firstCallable_80 : decode cX1_firstCallable 80 = .ok (.iload 5, 2) := by decide +kernel
theorem dX1_firstCallable_82 : decode cX1_firstCallable 82 = .ok (.iload_n 3, 1) := by decide +kernel
theorem dX1_firstCallable_83 : decode cX1_firstCallable 83 = .ok (.if_icmp .lt 8, 3) := by decide +kernel
theorem dX1_firstCallable_86 : decode cX1_firstCallable 86 = .ok (.iload 6, 2) := by decide +kernel
theorem dX1_firstCallable_88 : decode cX1_firstCallable 88 = .ok (.ifCond .eq 9, 3) := by decide +kernel
theorem dX1_firstCallable_91 : decode cX1_firstCallable 91 = .ok (.iload 4, 2) := by decide +kernel
theorem dX1_firstCallable_93 : decode cX1_firstCallable 93 = .ok (.istore_n 2, 1) := by decide +kernel
theorem dX1_firstCallable_94 : decode cX1_firstCallable 94 = .ok (.iload 5, 2) := by decide +kernel
theorem dX1_firstCallable_96 : decode cX1_firstCallable 96 = .ok (.istore_n 3, 1) := by decide +kernel
theorem dX1_firstCallable_97 : decode cX1_firstCallable 97 = .ok (.iinc 4 1, 3) := by decide +kernel
theorem dX1_firstCallable_100 : decode cX1_firstCallable 100 = .ok (.goto (-93), 3) := by decide +kernel
theorem dX1_firstCallable_103 : decode cX1_firstCallable 103 = .ok (.iload_n 2, 1) := by decide +kernel
theorem dX1_firstCallable_104 : decode cX1_firstCallable 104 = .ok (.ireturn, 1) := by decide +kernel
theorem dX1_callPanel_0 : decode cX1_callPanel 0 = .ok (.iconst 0, 1) := by decide +kernel
theorem dX1_callPanel_1 : decode cX1_callPanel 1 = .ok (.istore_n 2, 1) := by decide +kernel
theorem dX1_callPanel_2 : decode cX1_callPanel 2 = .ok (.iconst 0, 1) := by decide +kernel
theorem dX1_callPanel_3 : decode cX1_callPanel 3 = .ok (.istore_n 3, 1) := by decide +kernel
theorem dX1_callPanel_4 : decode cX1_callPanel 4 = .ok (.iload_n 3, 1) := by decide +kernel
theorem dX1_callPanel_5 : decode cX1_callPanel 5 = .ok (.iconst 3, 1) := by decide +kernel
theorem dX1_callPanel_6 : decode cX1_callPanel 6 = .ok (.if_icmp .ge 33, 3) := by decide +kernel
theorem dX1_callPanel_9 : decode cX1_callPanel 9 = .ok (.aload_n 0, 1) := by decide +kernel
theorem dX1_callPanel_10 : decode cX1_callPanel 10 = .ok (.iload_n 2, 1) := by decide +kernel
theorem dX1_callPanel_11 : decode cX1_callPanel 11 = .ok (.invokevirtual 67, 3) := by decide +kernel
theorem dX1_callPanel_14 : decode cX1_callPanel 14 = .ok (.istore 4, 2) := by decide +kernel
theorem dX1_callPanel_16 : decode cX1_callPanel 16 = .ok (.iload_n 2, 1) := by decide +kernel
theorem dX1_callPanel_17 : decode cX1_callPanel 17 = .ok (.iload 4, 2) := by decide +kernel
theorem dX1_callPanel_19 : decode cX1_callPanel 19 = .ok (.iconst (-1), 1) := by decide +kernel
theorem dX1_callPanel_20 : decode cX1_callPanel 20 = .ok (.if_icmp .ne 7, 3) := by decide +kernel
theorem dX1_callPanel_23 : decode cX1_callPanel 23 = .ok (.iconst 0, 1) := by decide +kernel
theorem dX1_callPanel_24 : decode cX1_callPanel 24 = .ok (.goto 7, 3) := by decide +kernel
theorem dX1_callPanel_27 : decode cX1_callPanel 27 = .ok (.iconst 1, 1) := by decide +kernel
theorem dX1_callPanel_28 : decode cX1_callPanel 28 = .ok (.iload 4, 2) := by decide +kernel
theorem dX1_callPanel_30 : decode cX1_callPanel 30 = .ok (.ishl, 1) := by decide +kernel
theorem dX1_callPanel_31 : decode cX1_callPanel 31 = .ok (.ior, 1) := by decide +kernel
theorem dX1_callPanel_32 : decode cX1_callPanel 32 = .ok (.istore_n 2, 1) := by decide +kernel
theorem dX1_callPanel_33 : decode cX1_callPanel 33 = .ok (.iinc 3 1, 3) := by decide +kernel
theorem dX1_callPanel_36 : decode cX1_callPanel 36 = .ok (.goto (-32), 3) := by decide +kernel
theorem dX1_callPanel_39 : decode cX1_callPanel 39 = .ok (.aload_n 0, 1) := by decide +kernel
theorem dX1_callPanel_40 : decode cX1_callPanel 40 = .ok (.getfield 21, 3) := by decide +kernel
theorem dX1_callPanel_43 : decode cX1_callPanel 43 = .ok (.getfield 49, 3) := by decide +kernel
theorem dX1_callPanel_46 : decode cX1_callPanel 46 = .ok (.iload_n 1, 1) := by decide +kernel
theorem dX1_callPanel_47 : decode cX1_callPanel 47 = .ok (.iload_n 2, 1) := by decide +kernel
theorem dX1_callPanel_48 : decode cX1_callPanel 48 = .ok (.iastore, 1) := by decide +kernel
theorem dX1_callPanel_49 : decode cX1_callPanel 49 = .ok (.aload_n 0, 1) := by decide +kernel
theorem dX1_callPanel_50 : decode cX1_callPanel 50 = .ok (.getfield 21, 3) := by decide +kernel
theorem dX1_callPanel_53 : decode cX1_callPanel 53 = .ok (.iload_n 1, 1) := by decide +kernel
theorem dX1_callPanel_54 : decode cX1_callPanel 54 = .ok (.invokevirtual 73, 3) := by decide +kernel
theorem dX1_callPanel_57 : decode cX1_callPanel 57 = .ok (.iload_n 2, 1) := by decide +kernel
theorem dX1_callPanel_58 : decode cX1_callPanel 58 = .ok (.ireturn, 1) := by decide +kernel
theorem dX1_sayVerdict_0 : decode cX1_sayVerdict 0 = .ok (.aload_n 0, 1) := by decide +kernel
theorem dX1_sayVerdict_1 : decode cX1_sayVerdict 1 = .ok (.getfield 21, 3) := by decide +kernel
theorem dX1_sayVerdict_4 : decode cX1_sayVerdict 4 = .ok (.getfield 49, 3) := by decide +kernel
theorem dX1_sayVerdict_7 : decode cX1_sayVerdict 7 = .ok (.iload_n 1, 1) := by decide +kernel
theorem dX1_sayVerdict_8 : decode cX1_sayVerdict 8 = .ok (.iaload, 1) := by decide +kernel
theorem dX1_sayVerdict_9 : decode cX1_sayVerdict 9 = .ok (.istore_n 2, 1) := by decide +kernel
theorem dX1_sayVerdict_10 : decode cX1_sayVerdict 10 = .ok (.aload_n 0, 1) := by decide +kernel
theorem dX1_sayVerdict_11 : decode cX1_sayVerdict 11 = .ok (.getfield 12, 3) := by decide +kernel
theorem dX1_sayVerdict_14 : decode cX1_sayVerdict 14 = .ok (.iload_n 2, 1) := by decide +kernel
theorem dX1_sayVerdict_15 : decode cX1_sayVerdict 15 = .ok (.aload_n 0, 1) := by decide +kernel
theorem dX1_sayVerdict_16 : decode cX1_sayVerdict 16 = .ok (.getfield 21, 3) := by decide +kernel
theorem dX1_sayVerdict_19 : decode cX1_sayVerdict 19 = .ok (.getfield 77, 3) := by decide +kernel
theorem dX1_sayVerdict_22 : decode cX1_sayVerdict 22 = .ok (.iload_n 1, 1) := by decide +kernel
theorem dX1_sayVerdict_23 : decode cX1_sayVerdict 23 = .ok (.iaload, 1) := by decide +kernel
theorem dX1_sayVerdict_24 : decode cX1_sayVerdict 24 = .ok (.invokevirtual 80, 3) := by decide +kernel
theorem dX1_sayVerdict_27 : decode cX1_sayVerdict 27 = .ok (.istore_n 3, 1) := by decide +kernel
theorem dX1_sayVerdict_28 : decode cX1_sayVerdict 28 = .ok (.aload_n 0, 1) := by decide +kernel
theorem dX1_sayVerdict_29 : decode cX1_sayVerdict 29 = .ok (.getfield 12, 3) := by decide +kernel
theorem dX1_sayVerdict_32 : decode cX1_sayVerdict 32 = .ok (.iload_n 2, 1) := by decide +kernel
theorem dX1_sayVerdict_33 : decode cX1_sayVerdict 33 = .ok (.aload_n 0, 1) := by decide +kernel
theorem dX1_sayVerdict_34 : decode cX1_sayVerdict 34 = .ok (.getfield 21, 3) := by decide +kernel
theorem dX1_sayVerdict_37 : decode cX1_sayVerdict 37 = .ok (.getfield 77, 3) := by decide +kernel
theorem dX1_sayVerdict_40 : decode cX1_sayVerdict 40 = .ok (.iload_n 1, 1) := by decide +kernel
theorem dX1_sayVerdict_41 : decode cX1_sayVerdict 41 = .ok (.iaload, 1) := by decide +kernel
theorem dX1_sayVerdict_42 : decode cX1_sayVerdict 42 = .ok (.iload_n 3, 1) := by decide +kernel
theorem dX1_sayVerdict_43 : decode cX1_sayVerdict 43 = .ok (.invokevirtual 84, 3) := by decide +kernel
theorem dX1_sayVerdict_46 : decode cX1_sayVerdict 46 = .ok (.aload_n 0, 1) := by decide +kernel
theorem dX1_sayVerdict_47 : decode cX1_sayVerdict 47 = .ok (.getfield 21, 3) := by decide +kernel
theorem dX1_sayVerdict_50 : decode cX1_sayVerdict 50 = .ok (.getfield 88, 3) := by decide +kernel
theorem dX1_sayVerdict_53 : decode cX1_sayVerdict 53 = .ok (.iload_n 1, 1) := by decide +kernel
theorem dX1_sayVerdict_54 : decode cX1_sayVerdict 54 = .ok (.iload_n 3, 1) := by decide +kernel
theorem dX1_sayVerdict_55 : decode cX1_sayVerdict 55 = .ok (.iastore, 1) := by decide +kernel
theorem dX1_sayVerdict_56 : decode cX1_sayVerdict 56 = .ok (.aload_n 0, 1) := by decide +kernel
theorem dX1_sayVerdict_57 : decode cX1_sayVerdict 57 = .ok (.getfield 21, 3) := by decide +kernel
theorem dX1_sayVerdict_60 : decode cX1_sayVerdict 60 = .ok (.getfield 91, 3) := by decide +kernel
theorem dX1_sayVerdict_63 : decode cX1_sayVerdict 63 = .ok (.iload_n 1, 1) := by decide +kernel
theorem dX1_sayVerdict_64 : decode cX1_sayVerdict 64 = .ok (.aload_n 0, 1) := by decide +kernel
theorem dX1_sayVerdict_65 : decode cX1_sayVerdict 65 = .ok (.getfield 29, 3) := by decide +kernel
theorem dX1_sayVerdict_68 : decode cX1_sayVerdict 68 = .ok (.iastore, 1) := by decide +kernel
theorem dX1_sayVerdict_69 : decode cX1_sayVerdict 69 = .ok (.aload_n 0, 1) := by decide +kernel
theorem dX1_sayVerdict_70 : decode cX1_sayVerdict 70 = .ok (.getfield 21, 3) := by decide +kernel
theorem dX1_sayVerdict_73 : decode cX1_sayVerdict 73 = .ok (.iload_n 1, 1) := by decide +kernel
theorem dX1_sayVerdict_74 : decode cX1_sayVerdict 74 = .ok (.invokevirtual 94, 3) := by decide +kernel
theorem dX1_sayVerdict_77 : decode cX1_sayVerdict 77 = .ok (.aload_n 0, 1) := by decide +kernel
theorem dX1_sayVerdict_78 : decode cX1_sayVerdict 78 = .ok (.dup, 1) := by decide +kernel
theorem dX1_sayVerdict_79 : decode cX1_sayVerdict 79 = .ok (.getfield 32, 3) := by decide +kernel
theorem dX1_sayVerdict_82 : decode cX1_sayVerdict 82 = .ok (.iconst 1, 1) := by decide +kernel
theorem dX1_sayVerdict_83 : decode cX1_sayVerdict 83 = .ok (.iadd, 1) := by decide +kernel
theorem dX1_sayVerdict_84 : decode cX1_sayVerdict 84 = .ok (.putfield 32, 3) := by decide +kernel
theorem dX1_sayVerdict_87 : decode cX1_sayVerdict 87 = .ok (.iload_n 3, 1) := by decide +kernel
theorem dX1_sayVerdict_88 : decode cX1_sayVerdict 88 = .ok (.ireturn, 1) := by decide +kernel
theorem dX1_unsayVerdict_0 : decode cX1_unsayVerdict 0 = .ok (.aload_n 0, 1) := by decide +kernel
theorem dX1_unsayVerdict_1 : decode cX1_unsayVerdict 1 = .ok (.getfield 21, 3) := by decide +kernel
theorem dX1_unsayVerdict_4 : decode cX1_unsayVerdict 4 = .ok (.getfield 88, 3) := by decide +kernel
theorem dX1_unsayVerdict_7 : decode cX1_unsayVerdict 7 = .ok (.iload_n 1, 1) := by decide +kernel
theorem dX1_unsayVerdict_8 : decode cX1_unsayVerdict 8 = .ok (.iconst 0, 1) := by decide +kernel
theorem dX1_unsayVerdict_9 : decode cX1_unsayVerdict 9 = .ok (.iastore, 1) := by decide +kernel
theorem dX1_unsayVerdict_10 : decode cX1_unsayVerdict 10 = .ok (.aload_n 0, 1) := by decide +kernel
theorem dX1_unsayVerdict_11 : decode cX1_unsayVerdict 11 = .ok (.getfield 21, 3) := by decide +kernel
theorem dX1_unsayVerdict_14 : decode cX1_unsayVerdict 14 = .ok (.getfield 91, 3) := by decide +kernel
theorem dX1_unsayVerdict_17 : decode cX1_unsayVerdict 17 = .ok (.iload_n 1, 1) := by decide +kernel
theorem dX1_unsayVerdict_18 : decode cX1_unsayVerdict 18 = .ok (.iconst (-1), 1) := by decide +kernel
theorem dX1_unsayVerdict_19 : decode cX1_unsayVerdict 19 = .ok (.iastore, 1) := by decide +kernel
theorem dX1_unsayVerdict_20 : decode cX1_unsayVerdict 20 = .ok (.aload_n 0, 1) := by decide +kernel
theorem dX1_unsayVerdict_21 : decode cX1_unsayVerdict 21 = .ok (.getfield 21, 3) := by decide +kernel
theorem dX1_unsayVerdict_24 : decode cX1_unsayVerdict 24 = .ok (.getfield 97, 3) := by decide +kernel
theorem dX1_unsayVerdict_27 : decode cX1_unsayVerdict 27 = .ok (.iload_n 1, 1) := by decide +kernel
theorem dX1_unsayVerdict_28 : decode cX1_unsayVerdict 28 = .ok (.dup2, 1) := by decide +kernel
theorem dX1_unsayVerdict_29 : decode cX1_unsayVerdict 29 = .ok (.iaload, 1) := by decide +kernel
theorem dX1_unsayVerdict_30 : decode cX1_unsayVerdict 30 = .ok (.iconst 1, 1) := by decide +kernel
theorem dX1_unsayVerdict_31 : decode cX1_unsayVerdict 31 = .ok (.iadd, 1) := by decide +kernel
theorem dX1_unsayVerdict_32 : decode cX1_unsayVerdict 32 = .ok (.iastore, 1) := by decide +kernel
theorem dX1_unsayVerdict_33 : decode cX1_unsayVerdict 33 = .ok (.aload_n 0, 1) := by decide +kernel
theorem dX1_unsayVerdict_34 : decode cX1_unsayVerdict 34 = .ok (.getfield 21, 3) := by decide +kernel
theorem dX1_unsayVerdict_37 : decode cX1_unsayVerdict 37 = .ok (.iload_n 1, 1) := by decide +kernel
theorem dX1_unsayVerdict_38 : decode cX1_unsayVerdict 38 = .ok (.invokevirtual 73, 3) := by decide +kernel
theorem dX1_unsayVerdict_41 : decode cX1_unsayVerdict 41 = .ok (.aload_n 0, 1) := by decide +kernel
theorem dX1_unsayVerdict_42 : decode cX1_unsayVerdict 42 = .ok (.getfield 12, 3) := by decide +kernel
theorem dX1_unsayVerdict_45 : decode cX1_unsayVerdict 45 = .ok (.aload_n 0, 1) := by decide +kernel
theorem dX1_unsayVerdict_46 : decode cX1_unsayVerdict 46 = .ok (.getfield 21, 3) := by decide +kernel
theorem dX1_unsayVerdict_49 : decode cX1_unsayVerdict 49 = .ok (.getfield 49, 3) := by decide +kernel
theorem dX1_unsayVerdict_52 : decode cX1_unsayVerdict 52 = .ok (.iload_n 1, 1) := by decide +kernel
theorem dX1_unsayVerdict_53 : decode cX1_unsayVerdict 53 = .ok (.iaload, 1) := by decide +kernel
theorem dX1_unsayVerdict_54 : decode cX1_unsayVerdict 54 = .ok (.aload_n 0, 1) := by decide +kernel
theorem dX1_unsayVerdict_55 : decode cX1_unsayVerdict 55 = .ok (.getfield 21, 3) := by decide +kernel
theorem dX1_unsayVerdict_58 : decode cX1_unsayVerdict 58 = .ok (.getfield 77, 3) := by decide +kernel
theorem dX1_unsayVerdict_61 : decode cX1_unsayVerdict 61 = .ok (.iload_n 1, 1) := by decide +kernel
theorem dX1_unsayVerdict_62 : decode cX1_unsayVerdict 62 = .ok (.iaload, 1) := by decide +kernel
theorem dX1_unsayVerdict_63 : decode cX1_unsayVerdict 63 = .ok (.invokevirtual 100, 3) := by decide +kernel
theorem dX1_unsayVerdict_66 : decode cX1_unsayVerdict 66 = .ok (.ireturn, 1) := by decide +kernel
theorem dX1_voteAnew_0 : decode cX1_voteAnew 0 = .ok (.aload_n 0, 1) := by decide +kernel
theorem dX1_voteAnew_1 : decode cX1_voteAnew 1 = .ok (.getfield 21, 3) := by decide +kernel
theorem dX1_voteAnew_4 : decode cX1_voteAnew 4 = .ok (.getfield 49, 3) := by decide +kernel
theorem dX1_voteAnew_7 : decode cX1_voteAnew 7 = .ok (.iload_n 1, 1) := by decide +kernel
theorem dX1_voteAnew_8 : decode cX1_voteAnew 8 = .ok (.iaload, 1) := by decide +kernel
theorem dX1_voteAnew_9 : decode cX1_voteAnew 9 = .ok (.istore_n 2, 1) := by decide +kernel
theorem dX1_voteAnew_10 : decode cX1_voteAnew 10 = .ok (.aload_n 0, 1) := by decide +kernel
theorem dX1_voteAnew_11 : decode cX1_voteAnew 11 = .ok (.getfield 12, 3) := by decide +kernel
theorem dX1_voteAnew_14 : decode cX1_voteAnew 14 = .ok (.iload_n 2, 1) := by decide +kernel
theorem dX1_voteAnew_15 : decode cX1_voteAnew 15 = .ok (.invokevirtual 103, 3) := by decide +kernel
theorem dX1_voteAnew_18 : decode cX1_voteAnew 18 = .ok (.istore_n 3, 1) := by decide +kernel
theorem dX1_voteAnew_19 : decode cX1_voteAnew 19 = .ok (.aload_n 0, 1) := by decide +kernel
theorem dX1_voteAnew_20 : decode cX1_voteAnew 20 = .ok (.iload_n 2, 1) := by decide +kernel
theorem dX1_voteAnew_21 : decode cX1_voteAnew 21 = .ok (.invokevirtual 67, 3) := by decide +kernel
theorem dX1_voteAnew_24 : decode cX1_voteAnew 24 = .ok (.istore 4, 2) := by decide +kernel
theorem dX1_voteAnew_26 : decode cX1_voteAnew 26 = .ok (.iload_n 3, 1) := by decide +kernel
theorem dX1_voteAnew_27 : decode cX1_voteAnew 27 = .ok (.iconst (-1), 1) := by decide +kernel
theorem dX1_voteAnew_28 : decode cX1_voteAnew 28 = .ok (.if_icmp .eq 30, 3) := by decide +kernel
theorem dX1_voteAnew_31 : decode cX1_voteAnew 31 = .ok (.iload 4, 2) := by decide +kernel
theorem dX1_voteAnew_33 : decode cX1_voteAnew 33 = .ok (.iconst (-1), 1) := by decide +kernel
theorem dX1_voteAnew_34 : decode cX1_voteAnew 34 = .ok (.if_icmp .eq 24, 3) := by decide +kernel
theorem dX1_voteAnew_37 : decode cX1_voteAnew 37 = .ok (.aload_n 0, 1) := by decide +kernel
theorem dX1_voteAnew_38 : decode cX1_voteAnew 38 = .ok (.getfield 21, 3) := by decide +kernel
theorem dX1_voteAnew_41 : decode cX1_voteAnew 41 = .ok (.getfield 49, 3) := by decide +kernel
theorem dX1_voteAnew_44 : decode cX1_voteAnew 44 = .ok (.iload_n 1, 1) := by decide +kernel
theorem dX1_voteAnew_45 : decode cX1_voteAnew 45 = .ok (.iload_n 2, 1) := by decide +kernel
theorem dX1_voteAnew_46 : decode cX1_voteAnew 46 = .ok (.iconst 1, 1) := by decide +kernel
theorem dX1_voteAnew_47 : decode cX1_voteAnew 47 = .ok (.iload_n 3, 1) := by decide +kernel
theorem dX1_voteAnew_48 : decode cX1_voteAnew 48 = .ok (.ishl, 1) := by decide +kernel
theorem dX1_voteAnew_49 : decode cX1_voteAnew 49 = .ok (.iconst (-1), 1) := by decide +kernel
theorem dX1_voteAnew_50 : decode cX1_voteAnew 50 = .ok (.ixor, 1) := by decide +kernel
theorem dX1_voteAnew_51 : decode cX1_voteAnew 51 = .ok (.iand, 1) := by decide +kernel
theorem dX1_voteAnew_52 : decode cX1_voteAnew 52 = .ok (.iconst 1, 1) := by decide +kernel
theorem dX1_voteAnew_53 : decode cX1_voteAnew 53 = .ok (.iload 4, 2) := by decide +kernel
theorem dX1_voteAnew_55 : decode cX1_voteAnew 55 = .ok (.ishl, 1) := by decide +kernel
theorem dX1_voteAnew_56 : decode cX1_voteAnew 56 = .ok (.ior, 1) := by decide +kernel
theorem dX1_voteAnew_57 : decode cX1_voteAnew 57 = .ok (.iastore, 1) := by decide +kernel
theorem dX1_voteAnew_58 : decode cX1_voteAnew 58 = .ok (.aload_n 0, 1) := by decide +kernel
theorem dX1_voteAnew_59 : decode cX1_voteAnew 59 = .ok (.getfield 21, 3) := by decide +kernel
theorem dX1_voteAnew_62 : decode cX1_voteAnew 62 = .ok (.getfield 106, 3) := by decide +kernel
theorem dX1_voteAnew_65 : decode cX1_voteAnew 65 = .ok (.iload_n 1, 1) := by decide +kernel
theorem dX1_voteAnew_66 : decode cX1_voteAnew 66 = .ok (.aload_n 0, 1) := by decide +kernel
theorem dX1_voteAnew_67 : decode cX1_voteAnew 67 = .ok (.getfield 21, 3) := by decide +kernel
theorem dX1_voteAnew_70 : decode cX1_voteAnew 70 = .ok (.getfield 106, 3) := by decide +kernel
theorem dX1_voteAnew_73 : decode cX1_voteAnew 73 = .ok (.iload_n 1, 1) := by decide +kernel
theorem dX1_voteAnew_74 : decode cX1_voteAnew 74 = .ok (.iaload, 1) := by decide +kernel
theorem dX1_voteAnew_75 : decode cX1_voteAnew 75 = .ok (.iconst 3, 1) := by decide +kernel
theorem dX1_voteAnew_76 : decode cX1_voteAnew 76 = .ok (.iadd, 1) := by decide +kernel
theorem dX1_voteAnew_77 : decode cX1_voteAnew 77 = .ok (.bipush 99, 2) := by decide +kernel
theorem dX1_voteAnew_79 : decode cX1_voteAnew 79 = .ok (.invokestatic 109, 3) := by decide +kernel
theorem dX1_voteAnew_82 : decode cX1_voteAnew 82 = .ok (.iastore, 1) := by decide +kernel
theorem dX1_voteAnew_83 : decode cX1_voteAnew 83 = .ok (.aload_n 0, 1) := by decide +kernel
theorem dX1_voteAnew_84 : decode cX1_voteAnew 84 = .ok (.getfield 21, 3) := by decide +kernel
theorem dX1_voteAnew_87 : decode cX1_voteAnew 87 = .ok (.getfield 114, 3) := by decide +kernel
theorem dX1_voteAnew_90 : decode cX1_voteAnew 90 = .ok (.iload_n 1, 1) := by decide +kernel
theorem dX1_voteAnew_91 : decode cX1_voteAnew 91 = .ok (.dup2, 1) := by decide +kernel
theorem dX1_voteAnew_92 : decode cX1_voteAnew 92 = .ok (.iaload, 1) := by decide +kernel
theorem dX1_voteAnew_93 : decode cX1_voteAnew 93 = .ok (.iconst 1, 1) := by decide +kernel
theorem dX1_voteAnew_94 : decode cX1_voteAnew 94 = .ok (.iadd, 1) := by decide +kernel
theorem dX1_voteAnew_95 : decode cX1_voteAnew 95 = .ok (.iastore, 1) := by decide +kernel
theorem dX1_voteAnew_96 : decode cX1_voteAnew 96 = .ok (.aload_n 0, 1) := by decide +kernel
theorem dX1_voteAnew_97 : decode cX1_voteAnew 97 = .ok (.iload_n 1, 1) := by decide +kernel
theorem dX1_voteAnew_98 : decode cX1_voteAnew 98 = .ok (.invokevirtual 117, 3) := by decide +kernel
theorem dX1_voteAnew_101 : decode cX1_voteAnew 101 = .ok (.ireturn, 1) := by decide +kernel
theorem dX1_addClerk_0 : decode cX1_addClerk 0 = .ok (.aload_n 0, 1) := by decide +kernel
theorem dX1_addClerk_1 : decode cX1_addClerk 1 = .ok (.dup, 1) := by decide +kernel
theorem dX1_addClerk_2 : decode cX1_addClerk 2 = .ok (.getfield 25, 3) := by decide +kernel
theorem dX1_addClerk_5 : decode cX1_addClerk 5 = .ok (.iconst 1, 1) := by decide +kernel
theorem dX1_addClerk_6 : decode cX1_addClerk 6 = .ok (.iadd, 1) := by decide +kernel
theorem dX1_addClerk_7 : decode cX1_addClerk 7 = .ok (.putfield 25, 3) := by decide +kernel
theorem dX1_addClerk_10 : decode cX1_addClerk 10 = .ok (.aload_n 0, 1) := by decide +kernel
theorem dX1_addClerk_11 : decode cX1_addClerk 11 = .ok (.getfield 25, 3) := by decide +kernel
theorem dX1_addClerk_14 : decode cX1_addClerk 14 = .ok (.ireturn, 1) := by decide +kernel
theorem dX1_passNight_0 : decode cX1_passNight 0 = .ok (.aload_n 0, 1) := by decide +kernel
theorem dX1_passNight_1 : decode cX1_passNight 1 = .ok (.dup, 1) := by decide +kernel
theorem dX1_passNight_2 : decode cX1_passNight 2 = .ok (.getfield 29, 3) := by decide +kernel
theorem dX1_passNight_5 : decode cX1_passNight 5 = .ok (.iconst 1, 1) := by decide +kernel
theorem dX1_passNight_6 : decode cX1_passNight 6 = .ok (.iadd, 1) := by decide +kernel
theorem dX1_passNight_7 : decode cX1_passNight 7 = .ok (.putfield 29, 3) := by decide +kernel
theorem dX1_passNight_10 : decode cX1_passNight 10 = .ok (.aload_n 0, 1) := by decide +kernel
theorem dX1_passNight_11 : decode cX1_passNight 11 = .ok (.getfield 21, 3) := by decide +kernel
theorem dX1_passNight_14 : decode cX1_passNight 14 = .ok (.aload_n 0, 1) := by decide +kernel
theorem dX1_passNight_15 : decode cX1_passNight 15 = .ok (.getfield 29, 3) := by decide +kernel
theorem dX1_passNight_18 : decode cX1_passNight 18 = .ok (.invokevirtual 120, 3) := by decide +kernel
theorem dX1_passNight_21 : decode cX1_passNight 21 = .ok (.aload_n 0, 1) := by decide +kernel
theorem dX1_passNight_22 : decode cX1_passNight 22 = .ok (.getfield 25, 3) := by decide +kernel
theorem dX1_passNight_25 : decode cX1_passNight 25 = .ok (.aload_n 0, 1) := by decide +kernel
theorem dX1_passNight_26 : decode cX1_passNight 26 = .ok (.getfield 21, 3) := by decide +kernel
theorem dX1_passNight_29 : decode cX1_passNight 29 = .ok (.getfield 123, 3) := by decide +kernel
theorem dX1_passNight_32 : decode cX1_passNight 32 = .ok (.invokestatic 109, 3) := by decide +kernel
theorem dX1_passNight_35 : decode cX1_passNight 35 = .ok (.istore_n 1, 1) := by decide +kernel
theorem dX1_passNight_36 : decode cX1_passNight 36 = .ok (.iconst 0, 1) := by decide +kernel
theorem dX1_passNight_37 : decode cX1_passNight 37 = .ok (.istore_n 2, 1) := by decide +kernel
theorem dX1_passNight_38 : decode cX1_passNight 38 = .ok (.iload_n 2, 1) := by decide +kernel
theorem dX1_passNight_39 : decode cX1_passNight 39 = .ok (.iload_n 1, 1) := by decide +kernel
theorem dX1_passNight_40 : decode cX1_passNight 40 = .ok (.if_icmp .ge 23, 3) := by decide +kernel
theorem dX1_passNight_43 : decode cX1_passNight 43 = .ok (.aload_n 0, 1) := by decide +kernel
theorem dX1_passNight_44 : decode cX1_passNight 44 = .ok (.aload_n 0, 1) := by decide +kernel
theorem dX1_passNight_45 : decode cX1_passNight 45 = .ok (.getfield 21, 3) := by decide +kernel
theorem dX1_passNight_48 : decode cX1_passNight 48 = .ok (.getfield 126, 3) := by decide +kernel
theorem dX1_passNight_51 : decode cX1_passNight 51 = .ok (.iconst 0, 1) := by decide +kernel
theorem dX1_passNight_52 : decode cX1_passNight 52 = .ok (.iaload, 1) := by decide +kernel
theorem dX1_passNight_53 : decode cX1_passNight 53 = .ok (.invokevirtual 117, 3) := by decide +kernel
theorem dX1_passNight_56 : decode cX1_passNight 56 = .ok (.pop, 1) := by decide +kernel
theorem dX1_passNight_57 : decode cX1_passNight 57 = .ok (.iinc 2 1, 3) := by decide +kernel
theorem dX1_passNight_60 : decode cX1_passNight 60 = .ok (.goto (-22), 3) := by decide +kernel
theorem dX1_passNight_63 : decode cX1_passNight 63 = .ok (.iload_n 1, 1) := by decide +kernel
theorem dX1_passNight_64 : decode cX1_passNight 64 = .ok (.ireturn, 1) := by decide +kernel
theorem dX1_takenIn_0 : decode cX1_takenIn 0 = .ok (.aload_n 0, 1) := by decide +kernel
theorem dX1_takenIn_1 : decode cX1_takenIn 1 = .ok (.getfield 21, 3) := by decide +kernel
theorem dX1_takenIn_4 : decode cX1_takenIn 4 = .ok (.iload_n 1, 1) := by decide +kernel
theorem dX1_takenIn_5 : decode cX1_takenIn 5 = .ok (.invokevirtual 129, 3) := by decide +kernel
theorem dX1_takenIn_8 : decode cX1_takenIn 8 = .ok (.istore_n 2, 1) := by decide +kernel
theorem dX1_takenIn_9 : decode cX1_takenIn 9 = .ok (.iload_n 2, 1) := by decide +kernel
theorem dX1_takenIn_10 : decode cX1_takenIn 10 = .ok (.iconst (-1), 1) := by decide +kernel
theorem dX1_takenIn_11 : decode cX1_takenIn 11 = .ok (.if_icmp .eq 11, 3) := by decide +kernel
theorem dX1_takenIn_14 : decode cX1_takenIn 14 = .ok (.aload_n 0, 1) := by decide +kernel
theorem dX1_takenIn_15 : decode cX1_takenIn 15 = .ok (.getfield 25, 3) := by decide +kernel
theorem dX1_takenIn_18 : decode cX1_takenIn 18 = .ok (.iconst 1, 1) := by decide +kernel
theorem dX1_takenIn_19 : decode cX1_takenIn 19 = .ok (.if_icmp .ge 5, 3) := by decide +kernel
theorem dX1_takenIn_22 : decode cX1_takenIn 22 = .ok (.iconst (-1), 1) := by decide +kernel
theorem dX1_takenIn_23 : decode cX1_takenIn 23 = .ok (.ireturn, 1) := by decide +kernel
theorem dX1_takenIn_24 : decode cX1_takenIn 24 = .ok (.aload_n 0, 1) := by decide +kernel
theorem dX1_takenIn_25 : decode cX1_takenIn 25 = .ok (.getfield 29, 3) := by decide +kernel
theorem dX1_takenIn_28 : decode cX1_takenIn 28 = .ok (.iconst 1, 1) := by decide +kernel
theorem dX1_takenIn_29 : decode cX1_takenIn 29 = .ok (.iadd, 1) := by decide +kernel
theorem dX1_takenIn_30 : decode cX1_takenIn 30 = .ok (.iload_n 2, 1) := by decide +kernel
theorem dX1_takenIn_31 : decode cX1_takenIn 31 = .ok (.aload_n 0, 1) := by decide +kernel
theorem dX1_takenIn_32 : decode cX1_takenIn 32 = .ok (.getfield 25, 3) := by decide +kernel
theorem dX1_takenIn_35 : decode cX1_takenIn 35 = .ok (.idiv, 1) := by decide +kernel
theorem dX1_takenIn_36 : decode cX1_takenIn 36 = .ok (.iadd, 1) := by decide +kernel
theorem dX1_takenIn_37 : decode cX1_takenIn 37 = .ok (.istore_n 3, 1) := by decide +kernel
theorem dX1_takenIn_38 : decode cX1_takenIn 38 = .ok (.iload_n 3, 1) := by decide +kernel
theorem dX1_takenIn_39 : decode cX1_takenIn 39 = .ok (.bipush 99, 2) := by decide +kernel
theorem dX1_takenIn_41 : decode cX1_takenIn 41 = .ok (.if_icmp .le 7, 3) := by decide +kernel
theorem dX1_takenIn_44 : decode cX1_takenIn 44 = .ok (.iconst (-1), 1) := by decide +kernel
theorem dX1_takenIn_45 : decode cX1_takenIn 45 = .ok (.goto 4, 3) := by decide +kernel
theorem dX1_takenIn_48 : decode cX1_takenIn 48 = .ok (.iload_n 3, 1) := by decide +kernel
theorem dX1_takenIn_49 : decode cX1_takenIn 49 = .ok (.ireturn, 1) := by decide +kernel
theorem dX1_isOrderRight_0 : decode cX1_isOrderRight 0 = .ok (.iload_n 1, 1) := by decide +kernel
theorem dX1_isOrderRight_1 : decode cX1_isOrderRight 1 = .ok (.tableswitch 60 0 5 #[39, 45, 51, 51, 51, 51], 39) := by decide +kernel
theorem dX1_isOrderRight_40 : decode cX1_isOrderRight 40 = .ok (.iload_n 2, 1) := by decide +kernel
theorem dX1_isOrderRight_41 : decode cX1_isOrderRight 41 = .ok (.iload_n 3, 1) := by decide +kernel
theorem dX1_isOrderRight_42 : decode cX1_isOrderRight 42 = .ok (.invokestatic 132, 3) := by decide +kernel
theorem dX1_isOrderRight_45 : decode cX1_isOrderRight 45 = .ok (.ireturn, 1) := by decide +kernel
theorem dX1_isOrderRight_46 : decode cX1_isOrderRight 46 = .ok (.iload_n 2, 1) := by decide +kernel
theorem dX1_isOrderRight_47 : decode cX1_isOrderRight 47 = .ok (.iload_n 3, 1) := by decide +kernel
theorem dX1_isOrderRight_48 : decode cX1_isOrderRight 48 = .ok (.invokestatic 135, 3) := by decide +kernel
theorem dX1_isOrderRight_51 : decode cX1_isOrderRight 51 = .ok (.ireturn, 1) := by decide +kernel
theorem dX1_isOrderRight_52 : decode cX1_isOrderRight 52 = .ok (.aload_n 0, 1) := by decide +kernel
theorem dX1_isOrderRight_53 : decode cX1_isOrderRight 53 = .ok (.getfield 21, 3) := by decide +kernel
theorem dX1_isOrderRight_56 : decode cX1_isOrderRight 56 = .ok (.iload_n 2, 1) := by decide +kernel
theorem dX1_isOrderRight_57 : decode cX1_isOrderRight 57 = .ok (.invokevirtual 138, 3) := by decide +kernel
theorem dX1_isOrderRight_60 : decode cX1_isOrderRight 60 = .ok (.ireturn, 1) := by decide +kernel
theorem dX1_isOrderRight_61 : decode cX1_isOrderRight 61 = .ok (.iconst 1, 1) := by decide +kernel
theorem dX1_isOrderRight_62 : decode cX1_isOrderRight 62 = .ok (.ireturn, 1) := by decide +kernel
theorem dX1_obey_0 : decode cX1_obey 0 = .ok (.iload_n 1, 1) := by decide +kernel
theorem dX1_obey_1 : decode cX1_obey 1 = .ok (.tableswitch 113 0 6 #[43, 56, 69, 78, 87, 96, 105], 43) := by decide +kernel
theorem dX1_obey_44 : decode cX1_obey 44 = .ok (.aload_n 0, 1) := by decide +kernel
theorem dX1_obey_45 : decode cX1_obey 45 = .ok (.getfield 12, 3) := by decide +kernel
theorem dX1_obey_48 : decode cX1_obey 48 = .ok (.iload_n 2, 1) := by decide +kernel
theorem dX1_obey_49 : decode cX1_obey 49 = .ok (.iload_n 3, 1) := by decide +kernel
theorem dX1_obey_50 : decode cX1_obey 50 = .ok (.invokevirtual 139, 3) := by decide +kernel
theorem dX1_obey_53 : decode cX1_obey 53 = .ok (.pop, 1) := by decide +kernel
theorem dX1_obey_54 : decode cX1_obey 54 = .ok (.goto 65, 3) := by decide +kernel
theorem dX1_obey_57 : decode cX1_obey 57 = .ok (.aload_n 0, 1) := by decide +kernel
theorem dX1_obey_58 : decode cX1_obey 58 = .ok (.getfield 21, 3) := by decide +kernel
theorem dX1_obey_61 : decode cX1_obey 61 = .ok (.iload_n 2, 1) := by decide +kernel
theorem dX1_obey_62 : decode cX1_obey 62 = .ok (.iload_n 3, 1) := by decide +kernel
theorem dX1_obey_63 : decode cX1_obey 63 = .ok (.invokevirtual 142, 3) := by decide +kernel
theorem dX1_obey_66 : decode cX1_obey 66 = .ok (.pop, 1) := by decide +kernel
theorem dX1_obey_67 : decode cX1_obey 67 = .ok (.goto 52, 3) := by decide +kernel
theorem dX1_obey_70 : decode cX1_obey 70 = .ok (.aload_n 0, 1) := by decide +kernel
theorem dX1_obey_71 : decode cX1_obey 71 = .ok (.iload_n 2, 1) := by decide +kernel
theorem dX1_obey_72 : decode cX1_obey 72 = .ok (.invokevirtual 143, 3) := by decide +kernel
theorem dX1_obey_75 : decode cX1_obey 75 = .ok (.pop, 1) := by decide +kernel
theorem dX1_obey_76 : decode cX1_obey 76 = .ok (.goto 43, 3) := by decide +kernel
theorem dX1_obey_79 : decode cX1_obey 79 = .ok (.aload_n 0, 1) := by decide +kernel
theorem dX1_obey_80 : decode cX1_obey 80 = .ok (.iload_n 2, 1) := by decide +kernel
theorem dX1_obey_81 : decode cX1_obey 81 = .ok (.invokevirtual 117, 3) := by decide +kernel
theorem dX1_obey_84 : decode cX1_obey 84 = .ok (.pop, 1) := by decide +kernel
theorem dX1_obey_85 : decode cX1_obey 85 = .ok (.goto 34, 3) := by decide +kernel
theorem dX1_obey_88 : decode cX1_obey 88 = .ok (.aload_n 0, 1) := by decide +kernel
theorem dX1_obey_89 : decode cX1_obey 89 = .ok (.iload_n 2, 1) := by decide +kernel
theorem dX1_obey_90 : decode cX1_obey 90 = .ok (.invokevirtual 146, 3) := by decide +kernel
theorem dX1_obey_93 : decode cX1_obey 93 = .ok (.pop, 1) := by decide +kernel
theorem dX1_obey_94 : decode cX1_obey 94 = .ok (.goto 25, 3) := by decide +kernel
theorem dX1_obey_97 : decode cX1_obey 97 = .ok (.aload_n 0, 1) := by decide +kernel
theorem dX1_obey_98 : decode cX1_obey 98 = .ok (.iload_n 2, 1) := by decide +kernel
theorem dX1_obey_99 : decode cX1_obey 99 = .ok (.invokevirtual 149, 3) := by decide +kernel
theorem dX1_obey_102 : decode cX1_obey 102 = .ok (.pop, 1) := by decide +kernel
theorem dX1_obey_103 : decode cX1_obey 103 = .ok (.goto 16, 3) := by decide +kernel
theorem dX1_obey_106 : decode cX1_obey 106 = .ok (.aload_n 0, 1) := by decide +kernel
theorem dX1_obey_107 : decode cX1_obey 107 = .ok (.invokevirtual 152, 3) := by decide +kernel
theorem dX1_obey_110 : decode cX1_obey 110 = .ok (.pop, 1) := by decide +kernel
theorem dX1_obey_111 : decode cX1_obey 111 = .ok (.goto 8, 3) := by decide +kernel
theorem dX1_obey_114 : decode cX1_obey 114 = .ok (.aload_n 0, 1) := by decide +kernel
theorem dX1_obey_115 : decode cX1_obey 115 = .ok (.invokevirtual 156, 3) := by decide +kernel
theorem dX1_obey_118 : decode cX1_obey 118 = .ok (.pop, 1) := by decide +kernel
theorem dX1_obey_119 : decode cX1_obey 119 = .ok (.return_, 1) := by decide +kernel
theorem dX1_areLoadsWell_0 : decode cX1_areLoadsWell 0 = .ok (.iconst 0, 1) := by decide +kernel
theorem dX1_areLoadsWell_1 : decode cX1_areLoadsWell 1 = .ok (.istore_n 1, 1) := by decide +kernel
theorem dX1_areLoadsWell_2 : decode cX1_areLoadsWell 2 = .ok (.iload_n 1, 1) := by decide +kernel
theorem dX1_areLoadsWell_3 : decode cX1_areLoadsWell 3 = .ok (.aload_n 0, 1) := by decide +kernel
theorem dX1_areLoadsWell_4 : decode cX1_areLoadsWell 4 = .ok (.getfield 12, 3) := by decide +kernel
theorem dX1_areLoadsWell_7 : decode cX1_areLoadsWell 7 = .ok (.getfield 59, 3) := by decide +kernel
theorem dX1_areLoadsWell_10 : decode cX1_areLoadsWell 10 = .ok (.if_icmp .ge 31, 3) := by decide +kernel
theorem dX1_areLoadsWell_13 : decode cX1_areLoadsWell 13 = .ok (.aload_n 0, 1) := by decide +kernel
theorem dX1_areLoadsWell_14 : decode cX1_areLoadsWell 14 = .ok (.iload_n 1, 1) := by decide +kernel
theorem dX1_areLoadsWell_15 : decode cX1_areLoadsWell 15 = .ok (.invokevirtual 60, 3) := by decide +kernel
theorem dX1_areLoadsWell_18 : decode cX1_areLoadsWell 18 = .ok (.istore_n 2, 1) := by decide +kernel
theorem dX1_areLoadsWell_19 : decode cX1_areLoadsWell 19 = .ok (.iload_n 2, 1) := by decide +kernel
theorem dX1_areLoadsWell_20 : decode cX1_areLoadsWell 20 = .ok (.aload_n 0, 1) := by decide +kernel
theorem dX1_areLoadsWell_21 : decode cX1_areLoadsWell 21 = .ok (.iload_n 1, 1) := by decide +kernel
theorem dX1_areLoadsWell_22 : decode cX1_areLoadsWell 22 = .ok (.invokevirtual 159, 3) := by decide +kernel
theorem dX1_areLoadsWell_25 : decode cX1_areLoadsWell 25 = .ok (.if_icmp .ne 8, 3) := by decide +kernel
theorem dX1_areLoadsWell_28 : decode cX1_areLoadsWell 28 = .ok (.iload_n 2, 1) := by decide +kernel
theorem dX1_areLoadsWell_29 : decode cX1_areLoadsWell 29 = .ok (.iconst 3, 1) := by decide +kernel
theorem dX1_areLoadsWell_30 : decode cX1_areLoadsWell 30 = .ok (.if_icmp .le 5, 3) := by decide +kernel
theorem dX1_areLoadsWell_33 : decode cX1_areLoadsWell 33 = .ok (.iconst 0, 1) := by decide +kernel
theorem dX1_areLoadsWell_34 : decode cX1_areLoadsWell 34 = .ok (.ireturn, 1) := by decide +kernel
theorem dX1_areLoadsWell_35 : decode cX1_areLoadsWell 35 = .ok (.iinc 1 1, 3) := by decide +kernel
theorem dX1_areLoadsWell_38 : decode cX1_areLoadsWell 38 = .ok (.goto (-36), 3) := by decide +kernel
theorem dX1_areLoadsWell_41 : decode cX1_areLoadsWell 41 = .ok (.iconst 1, 1) := by decide +kernel
theorem dX1_areLoadsWell_42 : decode cX1_areLoadsWell 42 = .ok (.ireturn, 1) := by decide +kernel
theorem dX1_isRollWell_0 : decode cX1_isRollWell 0 = .ok (.iconst 0, 1) := by decide +kernel
theorem dX1_isRollWell_1 : decode cX1_isRollWell 1 = .ok (.istore_n 1, 1) := by decide +kernel
theorem dX1_isRollWell_2 : decode cX1_isRollWell 2 = .ok (.iload_n 1, 1) := by decide +kernel
theorem dX1_isRollWell_3 : decode cX1_isRollWell 3 = .ok (.aload_n 0, 1) := by decide +kernel
theorem dX1_isRollWell_4 : decode cX1_isRollWell 4 = .ok (.getfield 21, 3) := by decide +kernel
theorem dX1_isRollWell_7 : decode cX1_isRollWell 7 = .ok (.getfield 123, 3) := by decide +kernel
theorem dX1_isRollWell_10 : decode cX1_isRollWell 10 = .ok (.if_icmp .gt 30, 3) := by decide +kernel
theorem dX1_isRollWell_13 : decode cX1_isRollWell 13 = .ok (.aload_n 0, 1) := by decide +kernel
theorem dX1_isRollWell_14 : decode cX1_isRollWell 14 = .ok (.getfield 21, 3) := by decide +kernel
theorem dX1_isRollWell_17 : decode cX1_isRollWell 17 = .ok (.iload_n 1, 1) := by decide +kernel
theorem dX1_isRollWell_18 : decode cX1_isRollWell 18 = .ok (.invokevirtual 162, 3) := by decide +kernel
theorem dX1_isRollWell_21 : decode cX1_isRollWell 21 = .ok (.aload_n 0, 1) := by decide +kernel
theorem dX1_isRollWell_22 : decode cX1_isRollWell 22 = .ok (.getfield 21, 3) := by decide +kernel
theorem dX1_isRollWell_25 : decode cX1_isRollWell 25 = .ok (.iload_n 1, 1) := by decide +kernel
theorem dX1_isRollWell_26 : decode cX1_isRollWell 26 = .ok (.invokevirtual 165, 3) := by decide +kernel
theorem dX1_isRollWell_29 : decode cX1_isRollWell 29 = .ok (.if_icmp .eq 5, 3) := by decide +kernel
theorem dX1_isRollWell_32 : decode cX1_isRollWell 32 = .ok (.iconst 0, 1) := by decide +kernel
theorem dX1_isRollWell_33 : decode cX1_isRollWell 33 = .ok (.ireturn, 1) := by decide +kernel
theorem dX1_isRollWell_34 : decode cX1_isRollWell 34 = .ok (.iinc 1 1, 3) := by decide +kernel
theorem dX1_isRollWell_37 : decode cX1_isRollWell 37 = .ok (.goto (-35), 3) := by decide +kernel
theorem dX1_isRollWell_40 : decode cX1_isRollWell 40 = .ok (.iconst 1, 1) := by decide +kernel
theorem dX1_isRollWell_41 : decode cX1_isRollWell 41 = .ok (.ireturn, 1) := by decide +kernel
theorem dX1_areVotesWell_0 : decode cX1_areVotesWell 0 = .ok (.iconst 0, 1) := by decide +kernel
theorem dX1_areVotesWell_1 : decode cX1_areVotesWell 1 = .ok (.istore_n 1, 1) := by decide +kernel
theorem dX1_areVotesWell_2 : decode cX1_areVotesWell 2 = .ok (.iload_n 1, 1) := by decide +kernel
theorem dX1_areVotesWell_3 : decode cX1_areVotesWell 3 = .ok (.aload_n 0, 1) := by decide +kernel
theorem dX1_areVotesWell_4 : decode cX1_areVotesWell 4 = .ok (.getfield 21, 3) := by decide +kernel
theorem dX1_areVotesWell_7 : decode cX1_areVotesWell 7 = .ok (.getfield 42, 3) := by decide +kernel
theorem dX1_areVotesWell_10 : decode cX1_areVotesWell 10 = .ok (.if_icmp .ge 56, 3) := by decide +kernel
theorem dX1_areVotesWell_13 : decode cX1_areVotesWell 13 = .ok (.aload_n 0, 1) := by decide +kernel
theorem dX1_areVotesWell_14 : decode cX1_areVotesWell 14 = .ok (.getfield 21, 3) := by decide +kernel
theorem dX1_areVotesWell_17 : decode cX1_areVotesWell 17 = .ok (.getfield 49, 3) := by decide +kernel
theorem dX1_areVotesWell_20 : decode cX1_areVotesWell 20 = .ok (.iload_n 1, 1) := by decide +kernel
theorem dX1_areVotesWell_21 : decode cX1_areVotesWell 21 = .ok (.iaload, 1) := by decide +kernel
theorem dX1_areVotesWell_22 : decode cX1_areVotesWell 22 = .ok (.istore_n 2, 1) := by decide +kernel
theorem dX1_areVotesWell_23 : decode cX1_areVotesWell 23 = .ok (.aload_n 0, 1) := by decide +kernel
theorem dX1_areVotesWell_24 : decode cX1_areVotesWell 24 = .ok (.getfield 21, 3) := by decide +kernel
theorem dX1_areVotesWell_27 : decode cX1_areVotesWell 27 = .ok (.getfield 77, 3) := by decide +kernel
theorem dX1_areVotesWell_30 : decode cX1_areVotesWell 30 = .ok (.iload_n 1, 1) := by decide +kernel
theorem dX1_areVotesWell_31 : decode cX1_areVotesWell 31 = .ok (.iaload, 1) := by decide +kernel
theorem dX1_areVotesWell_32 : decode cX1_areVotesWell 32 = .ok (.istore_n 3, 1) := by decide +kernel
theorem dX1_areVotesWell_33 : decode cX1_areVotesWell 33 = .ok (.iload_n 2, 1) := by decide +kernel
theorem dX1_areVotesWell_34 : decode cX1_areVotesWell 34 = .ok (.ifCond .eq 26, 3) := by decide +kernel
theorem dX1_areVotesWell_37 : decode cX1_areVotesWell 37 = .ok (.aload_n 0, 1) := by decide +kernel
theorem dX1_areVotesWell_38 : decode cX1_areVotesWell 38 = .ok (.getfield 12, 3) := by decide +kernel
theorem dX1_areVotesWell_41 : decode cX1_areVotesWell 41 = .ok (.iload_n 2, 1) := by decide +kernel
theorem dX1_areVotesWell_42 : decode cX1_areVotesWell 42 = .ok (.iload_n 3, 1) := by decide +kernel
theorem dX1_areVotesWell_43 : decode cX1_areVotesWell 43 = .ok (.invokevirtual 80, 3) := by decide +kernel
theorem dX1_areVotesWell_46 : decode cX1_areVotesWell 46 = .ok (.aload_n 0, 1) := by decide +kernel
theorem dX1_areVotesWell_47 : decode cX1_areVotesWell 47 = .ok (.getfield 12, 3) := by decide +kernel
theorem dX1_areVotesWell_50 : decode cX1_areVotesWell 50 = .ok (.iload_n 2, 1) := by decide +kernel
theorem dX1_areVotesWell_51 : decode cX1_areVotesWell 51 = .ok (.iload_n 3, 1) := by decide +kernel
theorem dX1_areVotesWell_52 : decode cX1_areVotesWell 52 = .ok (.invokevirtual 168, 3) := by decide +kernel
theorem dX1_areVotesWell_55 : decode cX1_areVotesWell 55 = .ok (.if_icmp .eq 5, 3) := by decide +kernel
theorem dX1_areVotesWell_58 : decode cX1_areVotesWell 58 = .ok (.iconst 0, 1) := by decide +kernel
theorem dX1_areVotesWell_59 : decode cX1_areVotesWell 59 = .ok (.ireturn, 1) := by decide +kernel
theorem dX1_areVotesWell_60 : decode cX1_areVotesWell 60 = .ok (.iinc 1 1, 3) := by decide +kernel
theorem dX1_areVotesWell_63 : decode cX1_areVotesWell 63 = .ok (.goto (-61), 3) := by decide +kernel
theorem dX1_areVotesWell_66 : decode cX1_areVotesWell 66 = .ok (.iconst 1, 1) := by decide +kernel
theorem dX1_areVotesWell_67 : decode cX1_areVotesWell 67 = .ok (.ireturn, 1) := by decide +kernel
theorem dX1_areVerdictsWell_0 : decode cX1_areVerdictsWell 0 = .ok (.iconst 0, 1) := by decide +kernel
theorem dX1_areVerdictsWell_1 : decode cX1_areVerdictsWell 1 = .ok (.istore_n 1, 1) := by decide +kernel
theorem dX1_areVerdictsWell_2 : decode cX1_areVerdictsWell 2 = .ok (.iload_n 1, 1) := by decide +kernel
theorem dX1_areVerdictsWell_3 : decode cX1_areVerdictsWell 3 = .ok (.aload_n 0, 1) := by decide +kernel
theorem dX1_areVerdictsWell_4 : decode cX1_areVerdictsWell 4 = .ok (.getfield 21, 3) := by decide +kernel
theorem dX1_areVerdictsWell_7 : decode cX1_areVerdictsWell 7 = .ok (.getfield 42, 3) := by decide +kernel
theorem dX1_areVerdictsWell_10 : decode cX1_areVerdictsWell 10 = .ok (.if_icmp .ge 26, 3) := by decide +kernel
theorem dX1_areVerdictsWell_13 : decode cX1_areVerdictsWell 13 = .ok (.aload_n 0, 1) := by decide +kernel
theorem dX1_areVerdictsWell_14 : decode cX1_areVerdictsWell 14 = .ok (.getfield 21, 3) := by decide +kernel
theorem dX1_areVerdictsWell_17 : decode cX1_areVerdictsWell 17 = .ok (.iload_n 1, 1) := by decide +kernel
theorem dX1_areVerdictsWell_18 : decode cX1_areVerdictsWell 18 = .ok (.aload_n 0, 1) := by decide +kernel
theorem dX1_areVerdictsWell_19 : decode cX1_areVerdictsWell 19 = .ok (.getfield 29, 3) := by decide +kernel
theorem dX1_areVerdictsWell_22 : decode cX1_areVerdictsWell 22 = .ok (.invokevirtual 171, 3) := by decide +kernel
theorem dX1_areVerdictsWell_25 : decode cX1_areVerdictsWell 25 = .ok (.ifCond .eq 5, 3) := by decide +kernel
theorem dX1_areVerdictsWell_28 : decode cX1_areVerdictsWell 28 = .ok (.iconst 0, 1) := by decide +kernel
theorem dX1_areVerdictsWell_29 : decode cX1_areVerdictsWell 29 = .ok (.ireturn, 1) := by decide +kernel
theorem dX1_areVerdictsWell_30 : decode cX1_areVerdictsWell 30 = .ok (.iinc 1 1, 3) := by decide +kernel
theorem dX1_areVerdictsWell_33 : decode cX1_areVerdictsWell 33 = .ok (.goto (-31), 3) := by decide +kernel
theorem dX1_areVerdictsWell_36 : decode cX1_areVerdictsWell 36 = .ok (.iconst 1, 1) := by decide +kernel
theorem dX1_areVerdictsWell_37 : decode cX1_areVerdictsWell 37 = .ok (.ireturn, 1) := by decide +kernel
theorem dX2_init_0 : decode cX2_init 0 = .ok (.aload_n 0, 1) := by decide +kernel
theorem dX2_init_1 : decode cX2_init 1 = .ok (.invokespecial 3, 3) := by decide +kernel
theorem dX2_init_4 : decode cX2_init 4 = .ok (.aload_n 0, 1) := by decide +kernel
theorem dX2_init_5 : decode cX2_init 5 = .ok (.bipush 9, 2) := by decide +kernel
theorem dX2_init_7 : decode cX2_init 7 = .ok (.anewarray 9, 3) := by decide +kernel
theorem dX2_init_10 : decode cX2_init 10 = .ok (.putfield 11, 3) := by decide +kernel
theorem dX2_init_13 : decode cX2_init 13 = .ok (.aload_n 0, 1) := by decide +kernel
theorem dX2_init_14 : decode cX2_init 14 = .ok (.iconst 0, 1) := by decide +kernel
theorem dX2_init_15 : decode cX2_init 15 = .ok (.putfield 17, 3) := by decide +kernel
theorem dX2_init_18 : decode cX2_init 18 = .ok (.aload_n 0, 1) := by decide +kernel
theorem dX2_init_19 : decode cX2_init 19 = .ok (.iconst 0, 1) := by decide +kernel
theorem dX2_init_20 : decode cX2_init 20 = .ok (.putfield 21, 3) := by decide +kernel
theorem dX2_init_23 : decode cX2_init 23 = .ok (.iconst 0, 1) := by decide +kernel
theorem dX2_init_24 : decode cX2_init 24 = .ok (.istore_n 1, 1) := by decide +kernel
theorem dX2_init_25 : decode cX2_init 25 = .ok (.iload_n 1, 1) := by decide +kernel
theorem dX2_init_26 : decode cX2_init 26 = .ok (.aload_n 0, 1) := by decide +kernel
theorem dX2_init_27 : decode cX2_init 27 = .ok (.getfield 11, 3) := by decide +kernel
theorem dX2_init_30 : decode cX2_init 30 = .ok (.arraylength, 1) := by decide +kernel
theorem dX2_init_31 : decode cX2_init 31 = .ok (.if_icmp .ge 22, 3) := by decide +kernel
theorem dX2_init_34 : decode cX2_init 34 = .ok (.aload_n 0, 1) := by decide +kernel
theorem dX2_init_35 : decode cX2_init 35 = .ok (.getfield 11, 3) := by decide +kernel
theorem dX2_init_38 : decode cX2_init 38 = .ok (.iload_n 1, 1) := by decide +kernel
theorem dX2_init_39 : decode cX2_init 39 = .ok (.new 9, 3) := by decide +kernel
theorem dX2_init_42 : decode cX2_init 42 = .ok (.dup, 1) := by decide +kernel
theorem dX2_init_43 : decode cX2_init 43 = .ok (.invokespecial 24, 3) := by decide +kernel
theorem dX2_init_46 : decode cX2_init 46 = .ok (.aastore, 1) := by decide +kernel
theorem dX2_init_47 : decode cX2_init 47 = .ok (.iinc 1 1, 3) := by decide +kernel
theorem dX2_init_50 : decode cX2_init 50 = .ok (.goto (-25), 3) := by decide +kernel
theorem dX2_init_53 : decode cX2_init 53 = .ok (.return_, 1) := by decide +kernel
theorem dX2_keep_0 : decode cX2_keep 0 = .ok (.aload_n 0, 1) := by decide +kernel
theorem dX2_keep_1 : decode cX2_keep 1 = .ok (.aload_n 1, 1) := by decide +kernel
theorem dX2_keep_2 : decode cX2_keep 2 = .ok (.invokevirtual 25, 3) := by decide +kernel
theorem dX2_keep_5 : decode cX2_keep 5 = .ok (.aload_n 0, 1) := by decide +kernel
theorem dX2_keep_6 : decode cX2_keep 6 = .ok (.invokevirtual 29, 3) := by decide +kernel
theorem dX2_keep_9 : decode cX2_keep 9 = .ok (.return_, 1) := by decide +kernel
theorem dX2_note_0 : decode cX2_note 0 = .ok (.aload_n 0, 1) := by decide +kernel
theorem dX2_note_1 : decode cX2_note 1 = .ok (.getfield 11, 3) := by decide +kernel
theorem dX2_note_4 : decode cX2_note 4 = .ok (.aload_n 0, 1) := by decide +kernel
theorem dX2_note_5 : decode cX2_note 5 = .ok (.getfield 17, 3) := by decide +kernel
theorem dX2_note_8 : decode cX2_note 8 = .ok (.aaload, 1) := by decide +kernel
theorem dX2_note_9 : decode cX2_note 9 = .ok (.aload_n 1, 1) := by decide +kernel
theorem dX2_note_10 : decode cX2_note 10 = .ok (.invokevirtual 32, 3) := by decide +kernel
theorem dX2_note_13 : decode cX2_note 13 = .ok (.return_, 1) := by decide +kernel
theorem dX2_keepNoted_0 : decode cX2_keepNoted 0 = .ok (.aload_n 0, 1) := by decide +kernel
theorem dX2_keepNoted_1 : decode cX2_keepNoted 1 = .ok (.aload_n 0, 1) := by decide +kernel
theorem dX2_keepNoted_2 : decode cX2_keepNoted 2 = .ok (.getfield 17, 3) := by decide +kernel
theorem dX2_keepNoted_5 : decode cX2_keepNoted 5 = .ok (.bipush 8, 2) := by decide +kernel
theorem dX2_keepNoted_7 : decode cX2_keepNoted 7 = .ok (.if_icmp .ne 7, 3) := by decide +kernel
theorem dX2_keepNoted_10 : decode cX2_keepNoted 10 = .ok (.iconst 0, 1) := by decide +kernel
theorem dX2_keepNoted_11 : decode cX2_keepNoted 11 = .ok (.goto 9, 3) := by decide +kernel
theorem dX2_keepNoted_14 : decode cX2_keepNoted 14 = .ok (.aload_n 0, 1) := by decide +kernel
theorem dX2_keepNoted_15 : decode cX2_keepNoted 15 = .ok (.getfield 17, 3) := by decide +kernel
theorem dX2_keepNoted_18 : decode cX2_keepNoted 18 = .ok (.iconst 1, 1) := by decide +kernel
theorem dX2_keepNoted_19 : decode cX2_keepNoted 19 = .ok (.iadd, 1) := by decide +kernel
theorem dX2_keepNoted_20 : decode cX2_keepNoted 20 = .ok (.putfield 17, 3) := by decide +kernel
theorem dX2_keepNoted_23 : decode cX2_keepNoted 23 = .ok (.aload_n 0, 1) := by decide +kernel
theorem dX2_keepNoted_24 : decode cX2_keepNoted 24 = .ok (.aload_n 0, 1) := by decide +kernel
theorem dX2_keepNoted_25 : decode cX2_keepNoted 25 = .ok (.getfield 21, 3) := by decide +kernel
theorem dX2_keepNoted_28 : decode cX2_keepNoted 28 = .ok (.iconst 1, 1) := by decide +kernel
theorem dX2_keepNoted_29 : decode cX2_keepNoted 29 = .ok (.iadd, 1) := by decide +kernel
theorem dX2_keepNoted_30 : decode cX2_keepNoted 30 = .ok (.bipush 8, 2) := by decide +kernel
theorem dX2_keepNoted_32 : decode cX2_keepNoted 32 = .ok (.invokestatic 35, 3) := by decide +kernel
theorem dX2_keepNoted_35 : decode cX2_keepNoted 35 = .ok (.putfield 21, 3) := by decide +kernel
theorem dX2_keepNoted_38 : decode cX2_keepNoted 38 = .ok (.return_, 1) := by decide +kernel
theorem dX2_takeBack_0 : decode cX2_takeBack 0 = .ok (.aload_n 1, 1) := by decide +kernel
theorem dX2_takeBack_1 : decode cX2_takeBack 1 = .ok (.aload_n 0, 1) := by decide +kernel
theorem dX2_takeBack_2 : decode cX2_takeBack 2 = .ok (.getfield 11, 3) := by decide +kernel
theorem dX2_takeBack_5 : decode cX2_takeBack 5 = .ok (.aload_n 0, 1) := by decide +kernel
theorem dX2_takeBack_6 : decode cX2_takeBack 6 = .ok (.getfield 17, 3) := by decide +kernel
theorem dX2_takeBack_9 : decode cX2_takeBack 9 = .ok (.aaload, 1) := by decide +kernel
theorem dX2_takeBack_10 : decode cX2_takeBack 10 = .ok (.invokevirtual 32, 3) := by decide +kernel
theorem dX2_takeBack_13 : decode cX2_takeBack 13 = .ok (.return_, 1) := by decide +kernel
theorem dX2_bringBack_0 : decode cX2_bringBack 0 = .ok (.aload_n 0, 1) := by decide +kernel
theorem dX2_bringBack_1 : decode cX2_bringBack 1 = .ok (.aload_n 0, 1) := by decide +kernel
theorem dX2_bringBack_2 : decode cX2_bringBack 2 = .ok (.getfield 17, 3) := by decide +kernel
theorem dX2_bringBack_5 : decode cX2_bringBack 5 = .ok (.ifCond .ne 8, 3) := by decide +kernel
theorem dX2_bringBack_8 : decode cX2_bringBack 8 = .ok (.bipush 8, 2) := by decide +kernel
theorem dX2_bringBack_10 : decode cX2_bringBack 10 = .ok (.goto 9, 3) := by decide +kernel
theorem dX2_bringBack_13 : decode cX2_bringBack 13 = .ok (.aload_n 0, 1) := by decide +kernel
theorem dX2_bringBack_14 : decode cX2_bringBack 14 = .ok (.getfield 17, 3) := by decide +kernel
theorem dX2_bringBack_17 : decode cX2_bringBack 17 = .ok (.iconst 1, 1) := by decide +kernel
theorem dX2_bringBack_18 : decode cX2_bringBack 18 = .ok (.isub, 1) := by decide +kernel
theorem dX2_bringBack_19 : decode cX2_bringBack 19 = .ok (.putfield 17, 3) := by decide +kernel
theorem dX2_bringBack_22 : decode cX2_bringBack 22 = .ok (.aload_n 0, 1) := by decide +kernel
theorem dX2_bringBack_23 : decode cX2_bringBack 23 = .ok (.dup, 1) := by decide +kernel
theorem dX2_bringBack_24 : decode cX2_bringBack 24 = .ok (.getfield 21, 3) := by decide +kernel
theorem dX2_bringBack_27 : decode cX2_bringBack 27 = .ok (.iconst 1, 1) := by decide +kernel
theorem dX2_bringBack_28 : decode cX2_bringBack 28 = .ok (.isub, 1) := by decide +kernel
theorem dX2_bringBack_29 : decode cX2_bringBack 29 = .ok (.putfield 21, 3) := by decide +kernel
theorem dX2_bringBack_32 : decode cX2_bringBack 32 = .ok (.aload_n 0, 1) := by decide +kernel
theorem dX2_bringBack_33 : decode cX2_bringBack 33 = .ok (.aload_n 1, 1) := by decide +kernel
theorem dX2_bringBack_34 : decode cX2_bringBack 34 = .ok (.invokevirtual 41, 3) := by decide +kernel
theorem dX2_bringBack_37 : decode cX2_bringBack 37 = .ok (.return_, 1) := by decide +kernel
theorem dX3_init_0 : decode cX3_init 0 = .ok (.aload_n 0, 1) := by decide +kernel
theorem dX3_init_1 : decode cX3_init 1 = .ok (.invokespecial 3, 3) := by decide +kernel
theorem dX3_init_4 : decode cX3_init 4 = .ok (.aload_n 0, 1) := by decide +kernel
theorem dX3_init_5 : decode cX3_init 5 = .ok (.bipush 9, 2) := by decide +kernel
theorem dX3_init_7 : decode cX3_init 7 = .ok (.newarray .int, 2) := by decide +kernel
theorem dX3_init_9 : decode cX3_init 9 = .ok (.putfield 9, 3) := by decide +kernel
theorem dX3_init_12 : decode cX3_init 12 = .ok (.aload_n 0, 1) := by decide +kernel
theorem dX3_init_13 : decode cX3_init 13 = .ok (.bipush 9, 2) := by decide +kernel
theorem dX3_init_15 : decode cX3_init 15 = .ok (.newarray .int, 2) := by decide +kernel
theorem dX3_init_17 : decode cX3_init 17 = .ok (.putfield 15, 3) := by decide +kernel
theorem dX3_init_20 : decode cX3_init 20 = .ok (.aload_n 0, 1) := by decide +kernel
theorem dX3_init_21 : decode cX3_init 21 = .ok (.bipush 9, 2) := by decide +kernel
theorem dX3_init_23 : decode cX3_init 23 = .ok (.newarray .int, 2) := by decide +kernel
theorem dX3_init_25 : decode cX3_init 25 = .ok (.putfield 18, 3) := by decide +kernel
theorem dX3_init_28 : decode cX3_init 28 = .ok (.aload_n 0, 1) := by decide +kernel
theorem dX3_init_29 : decode cX3_init 29 = .ok (.bipush 9, 2) := by decide +kernel
theorem dX3_init_31 : decode cX3_init 31 = .ok (.newarray .int, 2) := by decide +kernel
theorem dX3_init_33 : decode cX3_init 33 = .ok (.putfield 21, 3) := by decide +kernel
theorem dX3_init_36 : decode cX3_init 36 = .ok (.aload_n 0, 1) := by decide +kernel
theorem dX3_init_37 : decode cX3_init 37 = .ok (.iconst 0, 1) := by decide +kernel
theorem dX3_init_38 : decode cX3_init 38 = .ok (.putfield 24, 3) := by decide +kernel
theorem dX3_init_41 : decode cX3_init 41 = .ok (.return_, 1) := by decide +kernel
theorem dX3_has_0 : decode cX3_has 0 = .ok (.iload_n 1, 1) := by decide +kernel
theorem dX3_has_1 : decode cX3_has 1 = .ok (.ifCond .lt 15, 3) := by decide +kernel
theorem dX3_has_4 : decode cX3_has 4 = .ok (.iload_n 1, 1) := by decide +kernel
theorem dX3_has_5 : decode cX3_has 5 = .ok (.aload_n 0, 1) := by decide +kernel
theorem dX3_has_6 : decode cX3_has 6 = .ok (.getfield 24, 3) := by decide +kernel
theorem dX3_has_9 : decode cX3_has 9 = .ok (.if_icmp .ge 7, 3) := by decide +kernel
theorem dX3_has_12 : decode cX3_has 12 = .ok (.iconst 1, 1) := by decide +kernel
theorem dX3_has_13 : decode cX3_has 13 = .ok (.goto 4, 3) := by decide +kernel
theorem dX3_has_16 : decode cX3_has 16 = .ok (.iconst 0, 1) := by decide +kernel
theorem dX3_has_17 : decode cX3_has 17 = .ok (.ireturn, 1) := by decide +kernel
theorem dX3_add_0 : decode cX3_add 0 = .ok (.aload_n 0, 1) := by decide +kernel
theorem dX3_add_1 : decode cX3_add 1 = .ok (.getfield 24, 3) := by decide +kernel
theorem dX3_add_4 : decode cX3_add 4 = .ok (.bipush 9, 2) := by decide +kernel
theorem dX3_add_6 : decode cX3_add 6 = .ok (.if_icmp .lt 5, 3) := by decide +kernel
theorem dX3_add_9 : decode cX3_add 9 = .ok (.iconst (-1), 1) := by decide +kernel
theorem dX3_add_10 : decode cX3_add 10 = .ok (.ireturn, 1) := by decide +kernel
theorem dX3_add_11 : decode cX3_add 11 = .ok (.aload_n 0, 1) := by decide +kernel
theorem dX3_add_12 : decode cX3_add 12 = .ok (.getfield 24, 3) := by decide +kernel
theorem dX3_add_15 : decode cX3_add 15 = .ok (.istore_n 3, 1) := by decide +kernel
theorem dX3_add_16 : decode cX3_add 16 = .ok (.aload_n 0, 1) := by decide +kernel
theorem dX3_add_17 : decode cX3_add 17 = .ok (.getfield 9, 3) := by decide +kernel
theorem dX3_add_20 : decode cX3_add 20 = .ok (.iload_n 3, 1) := by decide +kernel
theorem dX3_add_21 : decode cX3_add 21 = .ok (.iload_n 1, 1) := by decide +kernel
theorem dX3_add_22 : decode cX3_add 22 = .ok (.iastore, 1) := by decide +kernel
theorem dX3_add_23 : decode cX3_add 23 = .ok (.aload_n 0, 1) := by decide +kernel
theorem dX3_add_24 : decode cX3_add 24 = .ok (.getfield 15, 3) := by decide +kernel
theorem dX3_add_27 : decode cX3_add 27 = .ok (.iload_n 3, 1) := by decide +kernel
theorem dX3_add_28 : decode cX3_add 28 = .ok (.iload_n 2, 1) := by decide +kernel
theorem dX3_add_29 : decode cX3_add 29 = .ok (.iastore, 1) := by decide +kernel
theorem dX3_add_30 : decode cX3_add 30 = .ok (.aload_n 0, 1) := by decide +kernel
theorem dX3_add_31 : decode cX3_add 31 = .ok (.getfield 18, 3) := by decide +kernel
theorem dX3_add_34 : decode cX3_add 34 = .ok (.iload_n 3, 1) := by decide +kernel
theorem dX3_add_35 : decode cX3_add 35 = .ok (.iconst 0, 1) := by decide +kernel
theorem dX3_add_36 : decode cX3_add 36 = .ok (.iastore, 1) := by decide +kernel
theorem dX3_add_37 : decode cX3_add 37 = .ok (.aload_n 0, 1) := by decide +kernel
theorem dX3_add_38 : decode cX3_add 38 = .ok (.getfield 21, 3) := by decide +kernel
theorem dX3_add_41 : decode cX3_add 41 = .ok (.iload_n 3, 1) := by decide +kernel
theorem dX3_add_42 : decode cX3_add 42 = .ok (.iconst 0, 1) := by decide +kernel
theorem dX3_add_43 : decode cX3_add 43 = .ok (.iastore, 1) := by decide +kernel
theorem dX3_add_44 : decode cX3_add 44 = .ok (.aload_n 0, 1) := by decide +kernel
theorem dX3_add_45 : decode cX3_add 45 = .ok (.dup, 1) := by decide +kernel
theorem dX3_add_46 : decode cX3_add 46 = .ok (.getfield 24, 3) := by decide +kernel
theorem dX3_add_49 : decode cX3_add 49 = .ok (.iconst 1, 1) := by decide +kernel
theorem dX3_add_50 : decode cX3_add 50 = .ok (.iadd, 1) := by decide +kernel
theorem dX3_add_51 : decode cX3_add 51 = .ok (.putfield 24, 3) := by decide +kernel
theorem dX3_add_54 : decode cX3_add 54 = .ok (.iload_n 3, 1) := by decide +kernel
theorem dX3_add_55 : decode cX3_add 55 = .ok (.ireturn, 1) := by decide +kernel
theorem dX3_copyFrom_0 : decode cX3_copyFrom 0 = .ok (.aload_n 1, 1) := by decide +kernel
theorem dX3_copyFrom_1 : decode cX3_copyFrom 1 = .ok (.getfield 9, 3) := by decide +kernel
theorem dX3_copyFrom_4 : decode cX3_copyFrom 4 = .ok (.iconst 0, 1) := by decide +kernel
theorem dX3_copyFrom_5 : decode cX3_copyFrom 5 = .ok (.aload_n 0, 1) := by decide +kernel
theorem dX3_copyFrom_6 : decode cX3_copyFrom 6 = .ok (.getfield 9, 3) := by decide +kernel
theorem dX3_copyFrom_9 : decode cX3_copyFrom 9 = .ok (.iconst 0, 1) := by decide +kernel
theorem dX3_copyFrom_10 : decode cX3_copyFrom 10 = .ok (.bipush 9, 2) := by decide +kernel
theorem dX3_copyFrom_12 : decode cX3_copyFrom 12 = .ok (.invokestatic 28, 3) := by decide +kernel
theorem dX3_copyFrom_15 : decode cX3_copyFrom 15 = .ok (.aload_n 1, 1) := by decide +kernel
theorem dX3_copyFrom_16 : decode cX3_copyFrom 16 = .ok (.getfield 15, 3) := by decide +kernel
theorem dX3_copyFrom_19 : decode cX3_copyFrom 19 = .ok (.iconst 0, 1) := by decide +kernel
theorem dX3_copyFrom_20 : decode cX3_copyFrom 20 = .ok (.aload_n 0, 1) := by decide +kernel
theorem dX3_copyFrom_21 : decode cX3_copyFrom 21 = .ok (.getfield 15, 3) := by decide +kernel
theorem dX3_copyFrom_24 : decode cX3_copyFrom 24 = .ok (.iconst 0, 1) := by decide +kernel
theorem dX3_copyFrom_25 : decode cX3_copyFrom 25 = .ok (.bipush 9, 2) := by decide +kernel
theorem dX3_copyFrom_27 : decode cX3_copyFrom 27 = .ok (.invokestatic 28, 3) := by decide +kernel
theorem dX3_copyFrom_30 : decode cX3_copyFrom 30 = .ok (.aload_n 1, 1) := by decide +kernel
theorem dX3_copyFrom_31 : decode cX3_copyFrom 31 = .ok (.getfield 18, 3) := by decide +kernel
theorem dX3_copyFrom_34 : decode cX3_copyFrom 34 = .ok (.iconst 0, 1) := by decide +kernel
theorem dX3_copyFrom_35 : decode cX3_copyFrom 35 = .ok (.aload_n 0, 1) := by decide +kernel
theorem dX3_copyFrom_36 : decode cX3_copyFrom 36 = .ok (.getfield 18, 3) := by decide +kernel
theorem dX3_copyFrom_39 : decode cX3_copyFrom 39 = .ok (.iconst 0, 1) := by decide +kernel
theorem dX3_copyFrom_40 : decode cX3_copyFrom 40 = .ok (.bipush 9, 2) := by decide +kernel
theorem dX3_copyFrom_42 : decode cX3_copyFrom 42 = .ok (.invokestatic 28, 3) := by decide +kernel
theorem dX3_copyFrom_45 : decode cX3_copyFrom 45 = .ok (.aload_n 1, 1) := by decide +kernel
theorem dX3_copyFrom_46 : decode cX3_copyFrom 46 = .ok (.getfield 21, 3) := by decide +kernel
theorem dX3_copyFrom_49 : decode cX3_copyFrom 49 = .ok (.iconst 0, 1) := by decide +kernel
theorem dX3_copyFrom_50 : decode cX3_copyFrom 50 = .ok (.aload_n 0, 1) := by decide +kernel
theorem dX3_copyFrom_51 : decode cX3_copyFrom 51 = .ok (.getfield 21, 3) := by decide +kernel
theorem dX3_copyFrom_54 : decode cX3_copyFrom 54 = .ok (.iconst 0, 1) := by decide +kernel
theorem dX3_copyFrom_55 : decode cX3_copyFrom 55 = .ok (.bipush 9, 2) := by decide +kernel
theorem dX3_copyFrom_57 : decode cX3_copyFrom 57 = .ok (.invokestatic 28, 3) := by decide +kernel
theorem dX3_copyFrom_60 : decode cX3_copyFrom 60 = .ok (.aload_n 0, 1) := by decide +kernel
theorem dX3_copyFrom_61 : decode cX3_copyFrom 61 = .ok (.aload_n 1, 1) := by decide +kernel
theorem dX3_copyFrom_62 : decode cX3_copyFrom 62 = .ok (.getfield 24, 3) := by decide +kernel
theorem dX3_copyFrom_65 : decode cX3_copyFrom 65 = .ok (.putfield 24, 3) := by decide +kernel
theorem dX3_copyFrom_68 : decode cX3_copyFrom 68 = .ok (.return_, 1) := by decide +kernel
theorem dX3_sum_0 : decode cX3_sum 0 = .ok (.iconst 0, 1) := by decide +kernel
theorem dX3_sum_1 : decode cX3_sum 1 = .ok (.istore_n 2, 1) := by decide +kernel
theorem dX3_sum_2 : decode cX3_sum 2 = .ok (.iconst 0, 1) := by decide +kernel
theorem dX3_sum_3 : decode cX3_sum 3 = .ok (.istore_n 3, 1) := by decide +kernel
theorem dX3_sum_4 : decode cX3_sum 4 = .ok (.iload_n 3, 1) := by decide +kernel
theorem dX3_sum_5 : decode cX3_sum 5 = .ok (.aload_n 0, 1) := by decide +kernel
theorem dX3_sum_6 : decode cX3_sum 6 = .ok (.getfield 24, 3) := by decide +kernel
theorem dX3_sum_9 : decode cX3_sum 9 = .ok (.if_icmp .ge 15, 3) := by decide +kernel
theorem dX3_sum_12 : decode cX3_sum 12 = .ok (.iload_n 2, 1) := by decide +kernel
theorem dX3_sum_13 : decode cX3_sum 13 = .ok (.aload_n 1, 1) := by decide +kernel
theorem dX3_sum_14 : decode cX3_sum 14 = .ok (.iload_n 3, 1) := by decide +kernel
theorem dX3_sum_15 : decode cX3_sum 15 = .ok (.iaload, 1) := by decide +kernel
theorem dX3_sum_16 : decode cX3_sum 16 = .ok (.iadd, 1) := by decide +kernel
theorem dX3_sum_17 : decode cX3_sum 17 = .ok (.istore_n 2, 1) := by decide +kernel
theorem dX3_sum_18 : decode cX3_sum 18 = .ok (.iinc 3 1, 3) := by decide +kernel
theorem dX3_sum_21 : decode cX3_sum 21 = .ok (.goto (-17), 3) := by decide +kernel
theorem dX3_sum_24 : decode cX3_sum 24 = .ok (.iload_n 2, 1) := by decide +kernel
theorem dX3_sum_25 : decode cX3_sum 25 = .ok (.ireturn, 1) := by decide +kernel
theorem dX3_opinion_0 : decode cX3_opinion 0 = .ok (.iload_n 2, 1) := by decide +kernel
theorem dX3_opinion_1 : decode cX3_opinion 1 = .ok (.iconst 5, 1) := by decide +kernel
theorem dX3_opinion_2 : decode cX3_opinion 2 = .ok (.aload_n 0, 1) := by decide +kernel
theorem dX3_opinion_3 : decode cX3_opinion 3 = .ok (.getfield 9, 3) := by decide +kernel
theorem dX3_opinion_6 : decode cX3_opinion 6 = .ok (.iload_n 1, 1) := by decide +kernel
theorem dX3_opinion_7 : decode cX3_opinion 7 = .ok (.iaload, 1) := by decide +kernel
theorem dX3_opinion_8 : decode cX3_opinion 8 = .ok (.imul, 1) := by decide +kernel
theorem dX3_opinion_9 : decode cX3_opinion 9 = .ok (.iadd, 1) := by decide +kernel
theorem dX3_opinion_10 : decode cX3_opinion 10 = .ok (.aload_n 0, 1) := by decide +kernel
theorem dX3_opinion_11 : decode cX3_opinion 11 = .ok (.getfield 15, 3) := by decide +kernel
theorem dX3_opinion_14 : decode cX3_opinion 14 = .ok (.iload_n 1, 1) := by decide +kernel
theorem dX3_opinion_15 : decode cX3_opinion 15 = .ok (.iaload, 1) := by decide +kernel
theorem dX3_opinion_16 : decode cX3_opinion 16 = .ok (.isub, 1) := by decide +kernel
theorem dX3_opinion_17 : decode cX3_opinion 17 = .ok (.bipush 50, 2) := by decide +kernel
theorem dX3_opinion_19 : decode cX3_opinion 19 = .ok (.if_icmp .lt 7, 3) := by decide +kernel
theorem dX3_opinion_22 : decode cX3_opinion 22 = .ok (.iconst 1, 1) := by decide +kernel
theorem dX3_opinion_23 : decode cX3_opinion 23 = .ok (.goto 4, 3) := by decide +kernel
theorem dX3_opinion_26 : decode cX3_opinion 26 = .ok (.iconst 2, 1) := by decide +kernel
theorem dX3_opinion_27 : decode cX3_opinion 27 = .ok (.ireturn, 1) := by decide +kernel
theorem dX3_verdictByCount_0 : decode cX3_verdictByCount 0 = .ok (.iconst 0, 1) := by decide +kernel
theorem dX3_verdictByCount_1 : decode cX3_verdictByCount 1 = .ok (.istore_n 3, 1) := by decide +kernel
theorem dX3_verdictByCount_2 : decode cX3_verdictByCount 2 = .ok (.iconst 0, 1) := by decide +kernel
theorem dX3_verdictByCount_3 : decode cX3_verdictByCount 3 = .ok (.istore 4, 2) := by decide +kernel
theorem dX3_verdictByCount_5 : decode cX3_verdictByCount 5 = .ok (.iload 4, 2) := by decide +kernel
theorem dX3_verdictByCount_7 : decode cX3_verdictByCount 7 = .ok (.aload_n 0, 1) := by decide +kernel
theorem dX3_verdictByCount_8 : decode cX3_verdictByCount 8 = .ok (.getfield 24, 3) := by decide +kernel
theorem dX3_verdictByCount_11 : decode cX3_verdictByCount 11 = .ok (.if_icmp .ge 32, 3) := by decide +kernel
theorem dX3_verdictByCount_14 : decode cX3_verdictByCount 14 = .ok (.iload_n 1, 1) := by decide +kernel
theorem dX3_verdictByCount_15 : decode cX3_verdictByCount 15 = .ok (.iload 4, 2) := by decide +kernel
theorem dX3_verdictByCount_17 : decode cX3_verdictByCount 17 = .ok (.invokestatic 34, 3) := by decide +kernel
theorem dX3_verdictByCount_20 : decode cX3_verdictByCount 20 = .ok (.ifCond .eq 17, 3) := by decide +kernel
theorem dX3_verdictByCount_23 : decode cX3_verdictByCount 23 = .ok (.aload_n 0, 1) := by decide +kernel
theorem dX3_verdictByCount_24 : decode cX3_verdictByCount 24 = .ok (.iload 4, 2) := by decide +kernel
theorem dX3_verdictByCount_26 : decode cX3_verdictByCount 26 = .ok (.iload_n 2, 1) := by decide +kernel
theorem dX3_verdictByCount_27 : decode cX3_verdictByCount 27 = .ok (.invokevirtual 38, 3) := by decide +kernel
theorem dX3_verdictByCount_30 : decode cX3_verdictByCount 30 = .ok (.iconst 1, 1) := by decide +kernel
theorem dX3_verdictByCount_31 : decode cX3_verdictByCount 31 = .ok (.if_icmp .ne 6, 3) := by decide +kernel
theorem dX3_verdictByCount_34 : decode cX3_verdictByCount 34 = .ok (.iinc 3 1, 3) := by decide +kernel
theorem dX3_verdictByCount_37 : decode cX3_verdictByCount 37 = .ok (.iinc 4 1, 3) := by decide +kernel
theorem dX3_verdictByCount_40 : decode cX3_verdictByCount 40 = .ok (.goto (-35), 3) := by decide +kernel
theorem dX3_verdictByCount_43 : decode cX3_verdictByCount 43 = .ok (.iload_n 3, 1) := by decide +kernel
theorem dX3_verdictByCount_44 : decode cX3_verdictByCount 44 = .ok (.iconst 2, 1) := by decide +kernel
theorem dX3_verdictByCount_45 : decode cX3_verdictByCount 45 = .ok (.if_icmp .lt 7, 3) := by decide +kernel
theorem dX3_verdictByCount_48 : decode cX3_verdictByCount 48 = .ok (.iconst 1, 1) := by decide +kernel
theorem dX3_verdictByCount_49 : decode cX3_verdictByCount 49 = .ok (.goto 4, 3) := by decide +kernel
theorem dX3_verdictByCount_52 : decode cX3_verdictByCount 52 = .ok (.iconst 2, 1) := by decide +kernel
theorem dX3_verdictByCount_53 : decode cX3_verdictByCount 53 = .ok (.ireturn, 1) := by decide +kernel
theorem dX3_verdictOfMiddle_0 : decode cX3_verdictOfMiddle 0 = .ok (.iconst 0, 1) := by decide +kernel
theorem dX3_verdictOfMiddle_1 : decode cX3_verdictOfMiddle 1 = .ok (.istore_n 3, 1) := by decide +kernel
theorem dX3_verdictOfMiddle_2 : decode cX3_verdictOfMiddle 2 = .ok (.ldc 44, 2) := by decide +kernel
theorem dX3_verdictOfMiddle_4 : decode cX3_verdictOfMiddle 4 = .ok (.istore 4, 2) := by decide +kernel
theorem dX3_verdictOfMiddle_6 : decode cX3_verdictOfMiddle 6 = .ok (.ldc 45, 2) := by decide +kernel
theorem dX3_verdictOfMiddle_8 : decode cX3_verdictOfMiddle 8 = .ok (.istore 5, 2) := by decide +kernel
theorem dX3_verdictOfMiddle_10 : decode cX3_verdictOfMiddle 10 = .ok (.iconst 0, 1) := by decide +kernel
theorem dX3_verdictOfMiddle_11 : decode cX3_verdictOfMiddle 11 = .ok (.istore 6, 2) := by decide +kernel
theorem dX3_verdictOfMiddle_13 : decode cX3_verdictOfMiddle 13 = .ok (.iload 6, 2) := by decide +kernel
theorem dX3_verdictOfMiddle_15 : decode cX3_verdictOfMiddle 15 = .ok (.aload_n 0, 1) := by decide +kernel
theorem dX3_verdictOfMiddle_16 : decode cX3_verdictOfMiddle 16 = .ok (.getfield 24, 3) := by decide +kernel
theorem dX3_verdictOfMiddle_19 : decode cX3_verdictOfMiddle 19 = .ok (.if_icmp .ge 60, 3) := by decide +kernel
theorem dX3_verdictOfMiddle_22 : decode cX3_verdictOfMiddle 22 = .ok (.iload_n 1, 1) := by decide +kernel
theorem dX3_verdictOfMiddle_23 : decode cX3_verdictOfMiddle 23 = .ok (.iload 6, 2) := by decide +kernel
theorem dX3_verdictOfMiddle_25 : decode cX3_verdictOfMiddle 25 = .ok (.invokestatic 34, 3) := by decide +kernel
theorem dX3_verdictOfMiddle_28 : decode cX3_verdictOfMiddle 28 = .ok (.ifCond .eq 45, 3) := by decide +kernel
theorem dX3_verdictOfMiddle_31 : decode cX3_verdictOfMiddle 31 = .ok (.iconst 5, 1) := by decide +kernel
theorem dX3_verdictOfMiddle_32 : decode cX3_verdictOfMiddle 32 = .ok (.aload_n 0, 1) := by decide +kernel
theorem dX3_verdictOfMiddle_33 : decode cX3_verdictOfMiddle 33 = .ok (.getfield 9, 3) := by decide +kernel
theorem dX3_verdictOfMiddle_36 : decode cX3_verdictOfMiddle 36 = .ok (.iload 6, 2) := by decide +kernel
theorem dX3_verdictOfMiddle_38 : decode cX3_verdictOfMiddle 38 = .ok (.iaload, 1) := by decide +kernel
theorem dX3_verdictOfMiddle_39 : decode cX3_verdictOfMiddle 39 = .ok (.imul, 1) := by decide +kernel
theorem dX3_verdictOfMiddle_40 : decode cX3_verdictOfMiddle 40 = .ok (.aload_n 0, 1) := by decide +kernel
theorem dX3_verdictOfMiddle_41 : decode cX3_verdictOfMiddle 41 = .ok (.getfield 15, 3) := by decide +kernel
theorem dX3_verdictOfMiddle_44 : decode cX3_verdictOfMiddle 44 = .ok (.iload 6, 2) := by decide +kernel
theorem dX3_verdictOfMiddle_46 : decode cX3_verdictOfMiddle 46 = .ok (.iaload, 1) := by decide +kernel
theorem dX3_verdictOfMiddle_47 : decode cX3_verdictOfMiddle 47 = .ok (.isub, 1) := by decide +kernel
theorem dX3_verdictOfMiddle_48 : decode cX3_verdictOfMiddle 48 = .ok (.istore 7, 2) := by decide +kernel
theorem dX3_verdictOfMiddle_50 : decode cX3_verdictOfMiddle 50 = .ok (.iload_n 3, 1) := by decide +kernel
theorem dX3_verdictOfMiddle_51 : decode cX3_verdictOfMiddle 51 = .ok (.iload 7, 2) := by decide +kernel
theorem dX3_verdictOfMiddle_53 : decode cX3_verdictOfMiddle 53 = .ok (.iadd, 1) := by decide +kernel
theorem dX3_verdictOfMiddle_54 : decode cX3_verdictOfMiddle 54 = .ok (.istore_n 3, 1) := by decide +kernel
theorem dX3_verdictOfMiddle_55 : decode cX3_verdictOfMiddle 55 = .ok (.iload 4, 2) := by decide +kernel
theorem dX3_verdictOfMiddle_57 : decode cX3_verdictOfMiddle 57 = .ok (.iload 7, 2) := by decide +kernel
theorem dX3_verdictOfMiddle_59 : decode cX3_verdictOfMiddle 59 = .ok (.invokestatic 46, 3) := by decide +kernel
theorem dX3_verdictOfMiddle_62 : decode cX3_verdictOfMiddle 62 = .ok (.istore 4, 2) := by decide +kernel
theorem dX3_verdictOfMiddle_64 : decode cX3_verdictOfMiddle 64 = .ok (.iload 5, 2) := by decide +kernel
theorem dX3_verdictOfMiddle_66 : decode cX3_verdictOfMiddle 66 = .ok (.iload 7, 2) := by decide +kernel
theorem dX3_verdictOfMiddle_68 : decode cX3_verdictOfMiddle 68 = .ok (.invokestatic 51, 3) := by decide +kernel
theorem dX3_verdictOfMiddle_71 : decode cX3_verdictOfMiddle 71 = .ok (.istore 5, 2) := by decide +kernel
theorem dX3_verdictOfMiddle_73 : decode cX3_verdictOfMiddle 73 = .ok (.iinc 6 1, 3) := by decide +kernel
theorem dX3_verdictOfMiddle_76 : decode cX3_verdictOfMiddle 76 = .ok (.goto (-63), 3) := by decide +kernel
theorem dX3_verdictOfMiddle_79 : decode cX3_verdictOfMiddle 79 = .ok (.iload_n 3, 1) := by decide +kernel
theorem dX3_verdictOfMiddle_80 : decode cX3_verdictOfMiddle 80 = .ok (.iload 4, 2) := by decide +kernel
theorem dX3_verdictOfMiddle_82 : decode cX3_verdictOfMiddle 82 = .ok (.isub, 1) := by decide +kernel
theorem dX3_verdictOfMiddle_83 : decode cX3_verdictOfMiddle 83 = .ok (.iload 5, 2) := by decide +kernel
theorem dX3_verdictOfMiddle_85 : decode cX3_verdictOfMiddle 85 = .ok (.isub, 1) := by decide +kernel
theorem dX3_verdictOfMiddle_86 : decode cX3_verdictOfMiddle 86 = .ok (.istore 6, 2) := by decide +kernel
theorem dX3_verdictOfMiddle_88 : decode cX3_verdictOfMiddle 88 = .ok (.iload_n 2, 1) := by decide +kernel
theorem dX3_verdictOfMiddle_89 : decode cX3_verdictOfMiddle 89 = .ok (.iload 6, 2) := by decide +kernel
theorem dX3_verdictOfMiddle_91 : decode cX3_verdictOfMiddle 91 = .ok (.iadd, 1) := by decide +kernel
theorem dX3_verdictOfMiddle_92 : decode cX3_verdictOfMiddle 92 = .ok (.bipush 50, 2) := by decide +kernel
theorem dX3_verdictOfMiddle_94 : decode cX3_verdictOfMiddle 94 = .ok (.if_icmp .lt 7, 3) := by decide +kernel
theorem dX3_verdictOfMiddle_97 : decode cX3_verdictOfMiddle 97 = .ok (.iconst 1, 1) := by decide +kernel
theorem dX3_verdictOfMiddle_98 : decode cX3_verdictOfMiddle 98 = .ok (.goto 4, 3) := by decide +kernel
theorem dX3_verdictOfMiddle_101 : decode cX3_verdictOfMiddle 101 = .ok (.iconst 2, 1) := by decide +kernel
theorem dX3_verdictOfMiddle_102 : decode cX3_verdictOfMiddle 102 = .ok (.ireturn, 1) := by decide +kernel
theorem dX3_thinkOver_0 : decode cX3_thinkOver 0 = .ok (.iconst 0, 1) := by decide +kernel
theorem dX3_thinkOver_1 : decode cX3_thinkOver 1 = .ok (.istore_n 3, 1) := by decide +kernel
theorem dX3_thinkOver_2 : decode cX3_thinkOver 2 = .ok (.iconst 0, 1) := by decide +kernel
theorem dX3_thinkOver_3 : decode cX3_thinkOver 3 = .ok (.istore 4, 2) := by decide +kernel
theorem dX3_thinkOver_5 : decode cX3_thinkOver 5 = .ok (.iload 4, 2) := by decide +kernel
theorem dX3_thinkOver_7 : decode cX3_thinkOver 7 = .ok (.aload_n 0, 1) := by decide +kernel
theorem dX3_thinkOver_8 : decode cX3_thinkOver 8 = .ok (.getfield 24, 3) := by decide +kernel
theorem dX3_thinkOver_11 : decode cX3_thinkOver 11 = .ok (.if_icmp .ge 78, 3) := by decide +kernel
theorem dX3_thinkOver_14 : decode cX3_thinkOver 14 = .ok (.iload_n 1, 1) := by decide +kernel
theorem dX3_thinkOver_15 : decode cX3_thinkOver 15 = .ok (.iload 4, 2) := by decide +kernel
theorem dX3_thinkOver_17 : decode cX3_thinkOver 17 = .ok (.invokestatic 34, 3) := by decide +kernel
theorem dX3_thinkOver_20 : decode cX3_thinkOver 20 = .ok (.ifCond .eq 63, 3) := by decide +kernel
theorem dX3_thinkOver_23 : decode cX3_thinkOver 23 = .ok (.aload_n 0, 1) := by decide +kernel
theorem dX3_thinkOver_24 : decode cX3_thinkOver 24 = .ok (.iload 4, 2) := by decide +kernel
theorem dX3_thinkOver_26 : decode cX3_thinkOver 26 = .ok (.iload_n 2, 1) := by decide +kernel
theorem dX3_thinkOver_27 : decode cX3_thinkOver 27 = .ok (.invokevirtual 38, 3) := by decide +kernel
theorem dX3_thinkOver_30 : decode cX3_thinkOver 30 = .ok (.iconst 1, 1) := by decide +kernel
theorem dX3_thinkOver_31 : decode cX3_thinkOver 31 = .ok (.if_icmp .ne 15, 3) := by decide +kernel
theorem dX3_thinkOver_34 : decode cX3_thinkOver 34 = .ok (.aload_n 0, 1) := by decide +kernel
theorem dX3_thinkOver_35 : decode cX3_thinkOver 35 = .ok (.getfield 9, 3) := by decide +kernel
theorem dX3_thinkOver_38 : decode cX3_thinkOver 38 = .ok (.iload 4, 2) := by decide +kernel
theorem dX3_thinkOver_40 : decode cX3_thinkOver 40 = .ok (.iaload, 1) := by decide +kernel
theorem dX3_thinkOver_41 : decode cX3_thinkOver 41 = .ok (.iconst 1, 1) := by decide +kernel
theorem dX3_thinkOver_42 : decode cX3_thinkOver 42 = .ok (.isub, 1) := by decide +kernel
theorem dX3_thinkOver_43 : decode cX3_thinkOver 43 = .ok (.goto 12, 3) := by decide +kernel
theorem dX3_thinkOver_46 : decode cX3_thinkOver 46 = .ok (.aload_n 0, 1) := by decide +kernel
theorem dX3_thinkOver_47 : decode cX3_thinkOver 47 = .ok (.getfield 9, 3) := by decide +kernel
theorem dX3_thinkOver_50 : decode cX3_thinkOver 50 = .ok (.iload 4, 2) := by decide +kernel
theorem dX3_thinkOver_52 : decode cX3_thinkOver 52 = .ok (.iaload, 1) := by decide +kernel
theorem dX3_thinkOver_53 : decode cX3_thinkOver 53 = .ok (.iconst 1, 1) := by decide +kernel
theorem dX3_thinkOver_54 : decode cX3_thinkOver 54 = .ok (.iadd, 1) := by decide +kernel
theorem dX3_thinkOver_55 : decode cX3_thinkOver 55 = .ok (.istore 5, 2) := by decide +kernel
theorem dX3_thinkOver_57 : decode cX3_thinkOver 57 = .ok (.iload 5, 2) := by decide +kernel
theorem dX3_thinkOver_59 : decode cX3_thinkOver 59 = .ok (.bipush (-9), 2) := by decide +kernel
theorem dX3_thinkOver_61 : decode cX3_thinkOver 61 = .ok (.if_icmp .lt 22, 3) := by decide +kernel
theorem dX3_thinkOver_64 : decode cX3_thinkOver 64 = .ok (.iload 5, 2) := by decide +kernel
theorem dX3_thinkOver_66 : decode cX3_thinkOver 66 = .ok (.bipush 9, 2) := by decide +kernel
theorem dX3_thinkOver_68 : decode cX3_thinkOver 68 = .ok (.if_icmp .gt 15, 3) := by decide +kernel
theorem dX3_thinkOver_71 : decode cX3_thinkOver 71 = .ok (.aload_n 0, 1) := by decide +kernel
theorem dX3_thinkOver_72 : decode cX3_thinkOver 72 = .ok (.getfield 9, 3) := by decide +kernel
theorem dX3_thinkOver_75 : decode cX3_thinkOver 75 = .ok (.iload 4, 2) := by decide +kernel
theorem dX3_thinkOver_77 : decode cX3_thinkOver 77 = .ok (.iload 5, 2) := by decide +kernel
theorem dX3_thinkOver_79 : decode cX3_thinkOver 79 = .ok (.iastore, 1) := by decide +kernel
theorem dX3_thinkOver_80 : decode cX3_thinkOver 80 = .ok (.iinc 3 1, 3) := by decide +kernel
theorem dX3_thinkOver_83 : decode cX3_thinkOver 83 = .ok (.iinc 4 1, 3) := by decide +kernel
theorem dX3_thinkOver_86 : decode cX3_thinkOver 86 = .ok (.goto (-81), 3) := by decide +kernel
theorem dX3_thinkOver_89 : decode cX3_thinkOver 89 = .ok (.iload_n 3, 1) := by decide +kernel
theorem dX3_thinkOver_90 : decode cX3_thinkOver 90 = .ok (.ireturn, 1) := by decide +kernel
theorem dX3_takeVerdict_0 : decode cX3_takeVerdict 0 = .ok (.iconst 0, 1) := by decide +kernel
theorem dX3_takeVerdict_1 : decode cX3_takeVerdict 1 = .ok (.istore 4, 2) := by decide +kernel
theorem dX3_takeVerdict_3 : decode cX3_takeVerdict 3 = .ok (.iload 4, 2) := by decide +kernel
theorem dX3_takeVerdict_5 : decode cX3_takeVerdict 5 = .ok (.aload_n 0, 1) := by decide +kernel
theorem dX3_takeVerdict_6 : decode cX3_takeVerdict 6 = .ok (.getfield 24, 3) := by decide +kernel
theorem dX3_takeVerdict_9 : decode cX3_takeVerdict 9 = .ok (.if_icmp .ge 109, 3) := by decide +kernel
theorem dX3_takeVerdict_12 : decode cX3_takeVerdict 12 = .ok (.iload_n 1, 1) := by decide +kernel
theorem dX3_takeVerdict_13 : decode cX3_takeVerdict 13 = .ok (.iload 4, 2) := by decide +kernel
theorem dX3_takeVerdict_15 : decode cX3_takeVerdict 15 = .ok (.invokestatic 34, 3) := by decide +kernel
theorem dX3_takeVerdict_18 : decode cX3_takeVerdict 18 = .ok (.ifCond .eq 94, 3) := by decide +kernel
theorem dX3_takeVerdict_21 : decode cX3_takeVerdict 21 = .ok (.aload_n 0, 1) := by decide +kernel
theorem dX3_takeVerdict_22 : decode cX3_takeVerdict 22 = .ok (.iload 4, 2) := by decide +kernel
theorem dX3_takeVerdict_24 : decode cX3_takeVerdict 24 = .ok (.iload_n 2, 1) := by decide +kernel
theorem dX3_takeVerdict_25 : decode cX3_takeVerdict 25 = .ok (.invokevirtual 38, 3) := by decide +kernel
theorem dX3_takeVerdict_28 : decode cX3_takeVerdict 28 = .ok (.iload_n 3, 1) := by decide +kernel
theorem dX3_takeVerdict_29 : decode cX3_takeVerdict 29 = .ok (.if_icmp .eq 7, 3) := by decide +kernel
theorem dX3_takeVerdict_32 : decode cX3_takeVerdict 32 = .ok (.iconst 1, 1) := by decide +kernel
theorem dX3_takeVerdict_33 : decode cX3_takeVerdict 33 = .ok (.goto 4, 3) := by decide +kernel
theorem dX3_takeVerdict_36 : decode cX3_takeVerdict 36 = .ok (.iconst 0, 1) := by decide +kernel
theorem dX3_takeVerdict_37 : decode cX3_takeVerdict 37 = .ok (.istore 5, 2) := by decide +kernel
theorem dX3_takeVerdict_39 : decode cX3_takeVerdict 39 = .ok (.aload_n 0, 1) := by decide +kernel
theorem dX3_takeVerdict_40 : decode cX3_takeVerdict 40 = .ok (.getfield 18, 3) := by decide +kernel
theorem dX3_takeVerdict_43 : decode cX3_takeVerdict 43 = .ok (.iload 4, 2) := by decide +kernel
theorem dX3_takeVerdict_45 : decode cX3_takeVerdict 45 = .ok (.dup2, 1) := by decide +kernel
theorem dX3_takeVerdict_46 : decode cX3_takeVerdict 46 = .ok (.iaload, 1) := by decide +kernel
theorem dX3_takeVerdict_47 : decode cX3_takeVerdict 47 = .ok (.iconst 1, 1) := by decide +kernel
theorem dX3_takeVerdict_48 : decode cX3_takeVerdict 48 = .ok (.iadd, 1) := by decide +kernel
theorem dX3_takeVerdict_49 : decode cX3_takeVerdict 49 = .ok (.iastore, 1) := by decide +kernel
theorem dX3_takeVerdict_50 : decode cX3_takeVerdict 50 = .ok (.aload_n 0, 1) := by decide +kernel
theorem dX3_takeVerdict_51 : decode cX3_takeVerdict 51 = .ok (.getfield 21, 3) := by decide +kernel
theorem dX3_takeVerdict_54 : decode cX3_takeVerdict 54 = .ok (.iload 4, 2) := by decide +kernel
theorem dX3_takeVerdict_56 : decode cX3_takeVerdict 56 = .ok (.dup2, 1) := by decide +kernel
theorem dX3_takeVerdict_57 : decode cX3_takeVerdict 57 = .ok (.iaload, 1) := by decide +kernel
theorem dX3_takeVerdict_58 : decode cX3_takeVerdict 58 = .ok (.iload 5, 2) := by decide +kernel
theorem dX3_takeVerdict_60 : decode cX3_takeVerdict 60 = .ok (.ifCond .eq 7, 3) := by decide +kernel
theorem dX3_takeVerdict_63 : decode cX3_takeVerdict 63 = .ok (.iconst 1, 1) := by decide +kernel
theorem dX3_takeVerdict_64 : decode cX3_takeVerdict 64 = .ok (.goto 4, 3) := by decide +kernel
theorem dX3_takeVerdict_67 : decode cX3_takeVerdict 67 = .ok (.iconst 0, 1) := by decide +kernel
theorem dX3_takeVerdict_68 : decode cX3_takeVerdict 68 = .ok (.iadd, 1) := by decide +kernel
theorem dX3_takeVerdict_69 : decode cX3_takeVerdict 69 = .ok (.iastore, 1) := by decide +kernel
theorem dX3_takeVerdict_70 : decode cX3_takeVerdict 70 = .ok (.aload_n 0, 1) := by decide +kernel
theorem dX3_takeVerdict_71 : decode cX3_takeVerdict 71 = .ok (.getfield 15, 3) := by decide +kernel
theorem dX3_takeVerdict_74 : decode cX3_takeVerdict 74 = .ok (.iload 4, 2) := by decide +kernel
theorem dX3_takeVerdict_76 : decode cX3_takeVerdict 76 = .ok (.iload 5, 2) := by decide +kernel
theorem dX3_takeVerdict_78 : decode cX3_takeVerdict 78 = .ok (.ifCond .eq 20, 3) := by decide +kernel
theorem dX3_takeVerdict_81 : decode cX3_takeVerdict 81 = .ok (.aload_n 0, 1) := by decide +kernel
theorem dX3_takeVerdict_82 : decode cX3_takeVerdict 82 = .ok (.getfield 15, 3) := by decide +kernel
theorem dX3_takeVerdict_85 : decode cX3_takeVerdict 85 = .ok (.iload 4, 2) := by decide +kernel
theorem dX3_takeVerdict_87 : decode cX3_takeVerdict 87 = .ok (.iaload, 1) := by decide +kernel
theorem dX3_takeVerdict_88 : decode cX3_takeVerdict 88 = .ok (.iconst 1, 1) := by decide +kernel
theorem dX3_takeVerdict_89 : decode cX3_takeVerdict 89 = .ok (.iadd, 1) := by decide +kernel
theorem dX3_takeVerdict_90 : decode cX3_takeVerdict 90 = .ok (.bipush 9, 2) := by decide +kernel
theorem dX3_takeVerdict_92 : decode cX3_takeVerdict 92 = .ok (.invokestatic 46, 3) := by decide +kernel
theorem dX3_takeVerdict_95 : decode cX3_takeVerdict 95 = .ok (.goto 16, 3) := by decide +kernel
theorem dX3_takeVerdict_98 : decode cX3_takeVerdict 98 = .ok (.aload_n 0, 1) := by decide +kernel
theorem dX3_takeVerdict_99 : decode cX3_takeVerdict 99 = .ok (.getfield 15, 3) := by decide +kernel
theorem dX3_takeVerdict_102 : decode cX3_takeVerdict 102 = .ok (.iload 4, 2) := by decide +kernel
theorem dX3_takeVerdict_104 : decode cX3_takeVerdict 104 = .ok (.iaload, 1) := by decide +kernel
theorem dX3_takeVerdict_105 : decode cX3_takeVerdict 105 = .ok (.iconst 1, 1) := by decide +kernel
theorem dX3_takeVerdict_106 : decode cX3_takeVerdict 106 = .ok (.isub, 1) := by decide +kernel
theorem dX3_takeVerdict_107 : decode cX3_takeVerdict 107 = .ok (.iconst 0, 1) := by decide +kernel
theorem dX3_takeVerdict_108 : decode cX3_takeVerdict 108 = .ok (.invokestatic 51, 3) := by decide +kernel
theorem dX3_takeVerdict_111 : decode cX3_takeVerdict 111 = .ok (.iastore, 1) := by decide +kernel
theorem dX3_takeVerdict_112 : decode cX3_takeVerdict 112 = .ok (.iinc 4 1, 3) := by decide +kernel
theorem dX3_takeVerdict_115 : decode cX3_takeVerdict 115 = .ok (.goto (-112), 3) := by decide +kernel
theorem dX3_takeVerdict_118 : decode cX3_takeVerdict 118 = .ok (.return_, 1) := by decide +kernel
theorem dX3_thoughtsToTurn_0 : decode cX3_thoughtsToTurn 0 = .ok (.aload_n 0, 1) := by decide +kernel
theorem dX3_thoughtsToTurn_1 : decode cX3_thoughtsToTurn 1 = .ok (.iload_n 1, 1) := by decide +kernel
theorem dX3_thoughtsToTurn_2 : decode cX3_thoughtsToTurn 2 = .ok (.iload_n 2, 1) := by decide +kernel
theorem dX3_thoughtsToTurn_3 : decode cX3_thoughtsToTurn 3 = .ok (.invokevirtual 54, 3) := by decide +kernel
theorem dX3_thoughtsToTurn_6 : decode cX3_thoughtsToTurn 6 = .ok (.istore_n 3, 1) := by decide +kernel
theorem dX3_thoughtsToTurn_7 : decode cX3_thoughtsToTurn 7 = .ok (.iconst 1, 1) := by decide +kernel
theorem dX3_thoughtsToTurn_8 : decode cX3_thoughtsToTurn 8 = .ok (.istore 4, 2) := by decide +kernel
theorem dX3_thoughtsToTurn_10 : decode cX3_thoughtsToTurn 10 = .ok (.iload 4, 2) := by decide +kernel
theorem dX3_thoughtsToTurn_12 : decode cX3_thoughtsToTurn 12 = .ok (.bipush 40, 2) := by decide +kernel
theorem dX3_thoughtsToTurn_14 : decode cX3_thoughtsToTurn 14 = .ok (.if_icmp .gt 41, 3) := by decide +kernel
theorem dX3_thoughtsToTurn_17 : decode cX3_thoughtsToTurn 17 = .ok (.aload_n 0, 1) := by decide +kernel
theorem dX3_thoughtsToTurn_18 : decode cX3_thoughtsToTurn 18 = .ok (.iload_n 1, 1) := by decide +kernel
theorem dX3_thoughtsToTurn_19 : decode cX3_thoughtsToTurn 19 = .ok (.iload_n 2, 1) := by decide +kernel
theorem dX3_thoughtsToTurn_20 : decode cX3_thoughtsToTurn 20 = .ok (.invokevirtual 57, 3) := by decide +kernel
theorem dX3_thoughtsToTurn_23 : decode cX3_thoughtsToTurn 23 = .ok (.pop, 1) := by decide +kernel
theorem dX3_thoughtsToTurn_24 : decode cX3_thoughtsToTurn 24 = .ok (.aload_n 0, 1) := by decide +kernel
theorem dX3_thoughtsToTurn_25 : decode cX3_thoughtsToTurn 25 = .ok (.iload_n 1, 1) := by decide +kernel
theorem dX3_thoughtsToTurn_26 : decode cX3_thoughtsToTurn 26 = .ok (.iload_n 2, 1) := by decide +kernel
theorem dX3_thoughtsToTurn_27 : decode cX3_thoughtsToTurn 27 = .ok (.invokevirtual 54, 3) := by decide +kernel
theorem dX3_thoughtsToTurn_30 : decode cX3_thoughtsToTurn 30 = .ok (.istore 5, 2) := by decide +kernel
theorem dX3_thoughtsToTurn_32 : decode cX3_thoughtsToTurn 32 = .ok (.iload 5, 2) := by decide +kernel
theorem dX3_thoughtsToTurn_34 : decode cX3_thoughtsToTurn 34 = .ok (.iload_n 3, 1) := by decide +kernel
theorem dX3_thoughtsToTurn_35 : decode cX3_thoughtsToTurn 35 = .ok (.if_icmp .eq 6, 3) := by decide +kernel
theorem dX3_thoughtsToTurn_38 : decode cX3_thoughtsToTurn 38 = .ok (.iload 4, 2) := by decide +kernel
theorem dX3_thoughtsToTurn_40 : decode cX3_thoughtsToTurn 40 = .ok (.ireturn, 1) := by decide +kernel
theorem dX3_thoughtsToTurn_41 : decode cX3_thoughtsToTurn 41 = .ok (.aload_n 0, 1) := by decide +kernel
theorem dX3_thoughtsToTurn_42 : decode cX3_thoughtsToTurn 42 = .ok (.iload_n 1, 1) := by decide +kernel
theorem dX3_thoughtsToTurn_43 : decode cX3_thoughtsToTurn 43 = .ok (.iload_n 2, 1) := by decide +kernel
theorem dX3_thoughtsToTurn_44 : decode cX3_thoughtsToTurn 44 = .ok (.iload 5, 2) := by decide +kernel
theorem dX3_thoughtsToTurn_46 : decode cX3_thoughtsToTurn 46 = .ok (.invokevirtual 60, 3) := by decide +kernel
theorem dX3_thoughtsToTurn_49 : decode cX3_thoughtsToTurn 49 = .ok (.iinc 4 1, 3) := by decide +kernel
theorem dX3_thoughtsToTurn_52 : decode cX3_thoughtsToTurn 52 = .ok (.goto (-42), 3) := by decide +kernel
theorem dX3_thoughtsToTurn_55 : decode cX3_thoughtsToTurn 55 = .ok (.iconst 0, 1) := by decide +kernel
theorem dX3_thoughtsToTurn_56 : decode cX3_thoughtsToTurn 56 = .ok (.ireturn, 1) := by decide +kernel
theorem dX3_lowestOf_0 : decode cX3_lowestOf 0 = .ok (.iconst 0, 1) := by decide +kernel
theorem dX3_lowestOf_1 : decode cX3_lowestOf 1 = .ok (.istore_n 2, 1) := by decide +kernel
theorem dX3_lowestOf_2 : decode cX3_lowestOf 2 = .ok (.iload_n 2, 1) := by decide +kernel
theorem dX3_lowestOf_3 : decode cX3_lowestOf 3 = .ok (.aload_n 0, 1) := by decide +kernel
theorem dX3_lowestOf_4 : decode cX3_lowestOf 4 = .ok (.getfield 24, 3) := by decide +kernel
theorem dX3_lowestOf_7 : decode cX3_lowestOf 7 = .ok (.if_icmp .ge 19, 3) := by decide +kernel
theorem dX3_lowestOf_10 : decode cX3_lowestOf 10 = .ok (.iload_n 1, 1) := by decide +kernel
theorem dX3_lowestOf_11 : decode cX3_lowestOf 11 = .ok (.iload_n 2, 1) := by decide +kernel
theorem dX3_lowestOf_12 : decode cX3_lowestOf 12 = .ok (.invokestatic 34, 3) := by decide +kernel
theorem dX3_lowestOf_15 : decode cX3_lowestOf 15 = .ok (.ifCond .eq 5, 3) := by decide +kernel
theorem dX3_lowestOf_18 : decode cX3_lowestOf 18 = .ok (.iload_n 2, 1) := by decide +kernel
theorem dX3_lowestOf_19 : decode cX3_lowestOf 19 = .ok (.ireturn, 1) := by decide +kernel
theorem dX3_lowestOf_20 : decode cX3_lowestOf 20 = .ok (.iinc 2 1, 3) := by decide +kernel
theorem dX3_lowestOf_23 : decode cX3_lowestOf 23 = .ok (.goto (-21), 3) := by decide +kernel
theorem dX3_lowestOf_26 : decode cX3_lowestOf 26 = .ok (.iconst (-1), 1) := by decide +kernel
theorem dX3_lowestOf_27 : decode cX3_lowestOf 27 = .ok (.ireturn, 1) := by decide +kernel
theorem dX3_mostDoubtfulOf_0 : decode cX3_mostDoubtfulOf 0 = .ok (.iconst (-1), 1) := by decide +kernel
theorem dX3_mostDoubtfulOf_1 : decode cX3_mostDoubtfulOf 1 = .ok (.istore_n 2, 1) := by decide +kernel
theorem dX3_mostDoubtfulOf_2 : decode cX3_mostDoubtfulOf 2 = .ok (.iconst 0, 1) := by decide +kernel
theorem dX3_mostDoubtfulOf_3 : decode cX3_mostDoubtfulOf 3 = .ok (.istore_n 3, 1) := by decide +kernel
theorem dX3_mostDoubtfulOf_4 : decode cX3_mostDoubtfulOf 4 = .ok (.iload_n 3, 1) := by decide +kernel
theorem dX3_mostDoubtfulOf_5 : decode cX3_mostDoubtfulOf 5 = .ok (.aload_n 0, 1) := by decide +kernel
theorem dX3_mostDoubtfulOf_6 : decode cX3_mostDoubtfulOf 6 = .ok (.getfield 24, 3) := by decide +kernel
theorem dX3_mostDoubtfulOf_9 : decode cX3_mostDoubtfulOf 9 = .ok (.if_icmp .ge 39, 3) := by decide +kernel
theorem dX3_mostDoubtfulOf_12 : decode cX3_mostDoubtfulOf 12 = .ok (.iload_n 1, 1) := by decide +kernel
theorem dX3_mostDoubtfulOf_13 : decode cX3_mostDoubtfulOf 13 = .ok (.iload_n 3, 1) := by decide +kernel
theorem dX3_mostDoubtfulOf_14 : decode cX3_mostDoubtfulOf 14 = .ok (.invokestatic 34, 3) := by decide +kernel
theorem dX3_mostDoubtfulOf_17 : decode cX3_mostDoubtfulOf 17 = .ok (.ifCond .eq 25, 3) := by decide +kernel
theorem dX3_mostDoubtfulOf_20 : decode cX3_mostDoubtfulOf 20 = .ok (.iload_n 2, 1) := by decide +kernel
theorem dX3_mostDoubtfulOf_21 : decode cX3_mostDoubtfulOf 21 = .ok (.iconst (-1), 1) := by decide +kernel
theorem dX3_mostDoubtfulOf_22 : decode cX3_mostDoubtfulOf 22 = .ok (.if_icmp .eq 18, 3) := by decide +kernel
theorem dX3_mostDoubtfulOf_25 : decode cX3_mostDoubtfulOf 25 = .ok (.aload_n 0, 1) := by decide +kernel
theorem dX3_mostDoubtfulOf_26 : decode cX3_mostDoubtfulOf 26 = .ok (.getfield 15, 3) := by decide +kernel
theorem dX3_mostDoubtfulOf_29 : decode cX3_mostDoubtfulOf 29 = .ok (.iload_n 3, 1) := by decide +kernel
theorem dX3_mostDoubtfulOf_30 : decode cX3_mostDoubtfulOf 30 = .ok (.iaload, 1) := by decide +kernel
theorem dX3_mostDoubtfulOf_31 : decode cX3_mostDoubtfulOf 31 = .ok (.aload_n 0, 1) := by decide +kernel
theorem dX3_mostDoubtfulOf_32 : decode cX3_mostDoubtfulOf 32 = .ok (.getfield 15, 3) := by decide +kernel
theorem dX3_mostDoubtfulOf_35 : decode cX3_mostDoubtfulOf 35 = .ok (.iload_n 2, 1) := by decide +kernel
theorem dX3_mostDoubtfulOf_36 : decode cX3_mostDoubtfulOf 36 = .ok (.iaload, 1) := by decide +kernel
theorem dX3_mostDoubtfulOf_37 : decode cX3_mostDoubtfulOf 37 = .ok (.if_icmp .le 5, 3) := by decide +kernel
theorem dX3_mostDoubtfulOf_40 : decode cX3_mostDoubtfulOf 40 = .ok (.iload_n 3, 1) := by decide +kernel
theorem dX3_mostDoubtfulOf_41 : decode cX3_mostDoubtfulOf 41 = .ok (.istore_n 2, 1) := by decide +kernel
theorem dX3_mostDoubtfulOf_42 : decode cX3_mostDoubtfulOf 42 = .ok (.iinc 3 1, 3) := by decide +kernel
theorem dX3_mostDoubtfulOf_45 : decode cX3_mostDoubtfulOf 45 = .ok (.goto (-41), 3) := by decide +kernel
theorem dX3_mostDoubtfulOf_48 : decode cX3_mostDoubtfulOf 48 = .ok (.iload_n 2, 1) := by decide +kernel
theorem dX3_mostDoubtfulOf_49 : decode cX3_mostDoubtfulOf 49 = .ok (.ireturn, 1) := by decide +kernel
theorem dX3_doubtfulAt_0 : decode cX3_doubtfulAt 0 = .ok (.aload_n 0, 1) := by decide +kernel
theorem dX3_doubtfulAt_1 : decode cX3_doubtfulAt 1 = .ok (.iload_n 1, 1) := by decide +kernel
theorem dX3_doubtfulAt_2 : decode cX3_doubtfulAt 2 = .ok (.invokevirtual 64, 3) := by decide +kernel
theorem dX3_doubtfulAt_5 : decode cX3_doubtfulAt 5 = .ok (.ifCond .ne 5, 3) := by decide +kernel
theorem dX3_doubtfulAt_8 : decode cX3_doubtfulAt 8 = .ok (.iconst (-1), 1) := by decide +kernel
theorem dX3_doubtfulAt_9 : decode cX3_doubtfulAt 9 = .ok (.ireturn, 1) := by decide +kernel
theorem dX3_doubtfulAt_10 : decode cX3_doubtfulAt 10 = .ok (.iconst 0, 1) := by decide +kernel
theorem dX3_doubtfulAt_11 : decode cX3_doubtfulAt 11 = .ok (.istore_n 2, 1) := by decide +kernel
theorem dX3_doubtfulAt_12 : decode cX3_doubtfulAt 12 = .ok (.aload_n 0, 1) := by decide +kernel
theorem dX3_doubtfulAt_13 : decode cX3_doubtfulAt 13 = .ok (.iload_n 2, 1) := by decide +kernel
theorem dX3_doubtfulAt_14 : decode cX3_doubtfulAt 14 = .ok (.invokevirtual 68, 3) := by decide +kernel
theorem dX3_doubtfulAt_17 : decode cX3_doubtfulAt 17 = .ok (.istore_n 3, 1) := by decide +kernel
theorem dX3_doubtfulAt_18 : decode cX3_doubtfulAt 18 = .ok (.iconst 0, 1) := by decide +kernel
theorem dX3_doubtfulAt_19 : decode cX3_doubtfulAt 19 = .ok (.istore 4, 2) := by decide +kernel
theorem dX3_doubtfulAt_21 : decode cX3_doubtfulAt 21 = .ok (.iload 4, 2) := by decide +kernel
theorem dX3_doubtfulAt_23 : decode cX3_doubtfulAt 23 = .ok (.iload_n 1, 1) := by decide +kernel
theorem dX3_doubtfulAt_24 : decode cX3_doubtfulAt 24 = .ok (.if_icmp .ge 26, 3) := by decide +kernel
theorem dX3_doubtfulAt_27 : decode cX3_doubtfulAt 27 = .ok (.iload_n 3, 1) := by decide +kernel
theorem dX3_doubtfulAt_28 : decode cX3_doubtfulAt 28 = .ok (.iconst (-1), 1) := by decide +kernel
theorem dX3_doubtfulAt_29 : decode cX3_doubtfulAt 29 = .ok (.if_icmp .eq 21, 3) := by decide +kernel
theorem dX3_doubtfulAt_32 : decode cX3_doubtfulAt 32 = .ok (.iload_n 2, 1) := by decide +kernel
theorem dX3_doubtfulAt_33 : decode cX3_doubtfulAt 33 = .ok (.iconst 1, 1) := by decide +kernel
theorem dX3_doubtfulAt_34 : decode cX3_doubtfulAt 34 = .ok (.iload_n 3, 1) := by decide +kernel
theorem dX3_doubtfulAt_35 : decode cX3_doubtfulAt 35 = .ok (.ishl, 1) := by decide +kernel
theorem dX3_doubtfulAt_36 : decode cX3_doubtfulAt 36 = .ok (.ior, 1) := by decide +kernel
theorem dX3_doubtfulAt_37 : decode cX3_doubtfulAt 37 = .ok (.istore_n 2, 1) := by decide +kernel
theorem dX3_doubtfulAt_38 : decode cX3_doubtfulAt 38 = .ok (.aload_n 0, 1) := by decide +kernel
theorem dX3_doubtfulAt_39 : decode cX3_doubtfulAt 39 = .ok (.iload_n 2, 1) := by decide +kernel
theorem dX3_doubtfulAt_40 : decode cX3_doubtfulAt 40 = .ok (.invokevirtual 68, 3) := by decide +kernel
theorem dX3_doubtfulAt_43 : decode cX3_doubtfulAt 43 = .ok (.istore_n 3, 1) := by decide +kernel
theorem dX3_doubtfulAt_44 : decode cX3_doubtfulAt 44 = .ok (.iinc 4 1, 3) := by decide +kernel
theorem dX3_doubtfulAt_47 : decode cX3_doubtfulAt 47 = .ok (.goto (-26), 3) := by decide +kernel
theorem dX3_doubtfulAt_50 : decode cX3_doubtfulAt 50 = .ok (.iload_n 3, 1) := by decide +kernel
theorem dX3_doubtfulAt_51 : decode cX3_doubtfulAt 51 = .ok (.ireturn, 1) := by decide +kernel
theorem dX3_firstDoubtful_0 : decode cX3_firstDoubtful 0 = .ok (.iconst (-1), 1) := by decide +kernel
theorem dX3_firstDoubtful_1 : decode cX3_firstDoubtful 1 = .ok (.istore_n 2, 1) := by decide +kernel
theorem dX3_firstDoubtful_2 : decode cX3_firstDoubtful 2 = .ok (.iconst 0, 1) := by decide +kernel
theorem dX3_firstDoubtful_3 : decode cX3_firstDoubtful 3 = .ok (.istore_n 3, 1) := by decide +kernel
theorem dX3_firstDoubtful_4 : decode cX3_firstDoubtful 4 = .ok (.iload_n 3, 1) := by decide +kernel
theorem dX3_firstDoubtful_5 : decode cX3_firstDoubtful 5 = .ok (.aload_n 0, 1) := by decide +kernel
theorem dX3_firstDoubtful_6 : decode cX3_firstDoubtful 6 = .ok (.getfield 24, 3) := by decide +kernel
theorem dX3_firstDoubtful_9 : decode cX3_firstDoubtful 9 = .ok (.if_icmp .ge 33, 3) := by decide +kernel
theorem dX3_firstDoubtful_12 : decode cX3_firstDoubtful 12 = .ok (.iload_n 1, 1) := by decide +kernel
theorem dX3_firstDoubtful_13 : decode cX3_firstDoubtful 13 = .ok (.iload_n 3, 1) := by decide +kernel
theorem dX3_firstDoubtful_14 : decode cX3_firstDoubtful 14 = .ok (.invokestatic 34, 3) := by decide +kernel
theorem dX3_firstDoubtful_17 : decode cX3_firstDoubtful 17 = .ok (.ifCond .ne 19, 3) := by decide +kernel
theorem dX3_firstDoubtful_20 : decode cX3_firstDoubtful 20 = .ok (.iload_n 2, 1) := by decide +kernel
theorem dX3_firstDoubtful_21 : decode cX3_firstDoubtful 21 = .ok (.iconst (-1), 1) := by decide +kernel
theorem dX3_firstDoubtful_22 : decode cX3_firstDoubtful 22 = .ok (.if_icmp .eq 12, 3) := by decide +kernel
theorem dX3_firstDoubtful_25 : decode cX3_firstDoubtful 25 = .ok (.aload_n 0, 1) := by decide +kernel
theorem dX3_firstDoubtful_26 : decode cX3_firstDoubtful 26 = .ok (.iload_n 3, 1) := by decide +kernel
theorem dX3_firstDoubtful_27 : decode cX3_firstDoubtful 27 = .ok (.iload_n 2, 1) := by decide +kernel
theorem dX3_firstDoubtful_28 : decode cX3_firstDoubtful 28 = .ok (.invokevirtual 72, 3) := by decide +kernel
theorem dX3_firstDoubtful_31 : decode cX3_firstDoubtful 31 = .ok (.ifCond .eq 5, 3) := by decide +kernel
theorem dX3_firstDoubtful_34 : decode cX3_firstDoubtful 34 = .ok (.iload_n 3, 1) := by decide +kernel
theorem dX3_firstDoubtful_35 : decode cX3_firstDoubtful 35 = .ok (.istore_n 2, 1) := by decide +kernel
theorem dX3_firstDoubtful_36 : decode cX3_firstDoubtful 36 = .ok (.iinc 3 1, 3) := by decide +kernel
theorem dX3_firstDoubtful_39 : decode cX3_firstDoubtful 39 = .ok (.goto (-35), 3) := by decide +kernel
theorem dX3_firstDoubtful_42 : decode cX3_firstDoubtful 42 = .ok (.iload_n 2, 1) := by decide +kernel
theorem dX3_firstDoubtful_43 : decode cX3_firstDoubtful 43 = .ok (.ireturn, 1) := by decide +kernel
theorem dX3_isMoreDoubtful_0 : decode cX3_isMoreDoubtful 0 = .ok (.aload_n 0, 1) := by decide +kernel
theorem dX3_isMoreDoubtful_1 : decode cX3_isMoreDoubtful 1 = .ok (.getfield 15, 3) := by decide +kernel
theorem dX3_isMoreDoubtful_4 : decode cX3_isMoreDoubtful 4 = .ok (.iload_n 1, 1) := by decide +kernel
theorem dX3_isMoreDoubtful_5 : decode cX3_isMoreDoubtful 5 = .ok (.iaload, 1) := by decide +kernel
theorem dX3_isMoreDoubtful_6 : decode cX3_isMoreDoubtful 6 = .ok (.aload_n 0, 1) := by decide +kernel
theorem dX3_isMoreDoubtful_7 : decode cX3_isMoreDoubtful 7 = .ok (.getfield 15, 3) := by decide +kernel
theorem dX3_isMoreDoubtful_10 : decode cX3_isMoreDoubtful 10 = .ok (.iload_n 2, 1) := by decide +kernel
theorem dX3_isMoreDoubtful_11 : decode cX3_isMoreDoubtful 11 = .ok (.iaload, 1) := by decide +kernel
theorem dX3_isMoreDoubtful_12 : decode cX3_isMoreDoubtful 12 = .ok (.if_icmp .eq 24, 3) := by decide +kernel
theorem dX3_isMoreDoubtful_15 : decode cX3_isMoreDoubtful 15 = .ok (.aload_n 0, 1) := by decide +kernel
theorem dX3_isMoreDoubtful_16 : decode cX3_isMoreDoubtful 16 = .ok (.getfield 15, 3) := by decide +kernel
theorem dX3_isMoreDoubtful_19 : decode cX3_isMoreDoubtful 19 = .ok (.iload_n 1, 1) := by decide +kernel
theorem dX3_isMoreDoubtful_20 : decode cX3_isMoreDoubtful 20 = .ok (.iaload, 1) := by decide +kernel
theorem dX3_isMoreDoubtful_21 : decode cX3_isMoreDoubtful 21 = .ok (.aload_n 0, 1) := by decide +kernel
theorem dX3_isMoreDoubtful_22 : decode cX3_isMoreDoubtful 22 = .ok (.getfield 15, 3) := by decide +kernel
theorem dX3_isMoreDoubtful_25 : decode cX3_isMoreDoubtful 25 = .ok (.iload_n 2, 1) := by decide +kernel
theorem dX3_isMoreDoubtful_26 : decode cX3_isMoreDoubtful 26 = .ok (.iaload, 1) := by decide +kernel
theorem dX3_isMoreDoubtful_27 : decode cX3_isMoreDoubtful 27 = .ok (.if_icmp .le 7, 3) := by decide +kernel
theorem dX3_isMoreDoubtful_30 : decode cX3_isMoreDoubtful 30 = .ok (.iconst 1, 1) := by decide +kernel
theorem dX3_isMoreDoubtful_31 : decode cX3_isMoreDoubtful 31 = .ok (.goto 4, 3) := by decide +kernel
theorem dX3_isMoreDoubtful_34 : decode cX3_isMoreDoubtful 34 = .ok (.iconst 0, 1) := by decide +kernel
theorem dX3_isMoreDoubtful_35 : decode cX3_isMoreDoubtful 35 = .ok (.ireturn, 1) := by decide +kernel
theorem dX3_isMoreDoubtful_36 : decode cX3_isMoreDoubtful 36 = .ok (.aload_n 0, 1) := by decide +kernel
theorem dX3_isMoreDoubtful_37 : decode cX3_isMoreDoubtful 37 = .ok (.getfield 9, 3) := by decide +kernel
theorem dX3_isMoreDoubtful_40 : decode cX3_isMoreDoubtful 40 = .ok (.iload_n 1, 1) := by decide +kernel
theorem dX3_isMoreDoubtful_41 : decode cX3_isMoreDoubtful 41 = .ok (.iaload, 1) := by decide +kernel
theorem dX3_isMoreDoubtful_42 : decode cX3_isMoreDoubtful 42 = .ok (.aload_n 0, 1) := by decide +kernel
theorem dX3_isMoreDoubtful_43 : decode cX3_isMoreDoubtful 43 = .ok (.getfield 9, 3) := by decide +kernel
theorem dX3_isMoreDoubtful_46 : decode cX3_isMoreDoubtful 46 = .ok (.iload_n 2, 1) := by decide +kernel
theorem dX3_isMoreDoubtful_47 : decode cX3_isMoreDoubtful 47 = .ok (.iaload, 1) := by decide +kernel
theorem dX3_isMoreDoubtful_48 : decode cX3_isMoreDoubtful 48 = .ok (.if_icmp .le 7, 3) := by decide +kernel
theorem dX3_isMoreDoubtful_51 : decode cX3_isMoreDoubtful 51 = .ok (.iconst 1, 1) := by decide +kernel
theorem dX3_isMoreDoubtful_52 : decode cX3_isMoreDoubtful 52 = .ok (.goto 4, 3) := by decide +kernel
theorem dX3_isMoreDoubtful_55 : decode cX3_isMoreDoubtful 55 = .ok (.iconst 0, 1) := by decide +kernel
theorem dX3_isMoreDoubtful_56 : decode cX3_isMoreDoubtful 56 = .ok (.ireturn, 1) := by decide +kernel
theorem dX4_init_0 : decode cX4_init 0 = .ok (.aload_n 0, 1) := by decide +kernel
theorem dX4_init_1 : decode cX4_init 1 = .ok (.invokespecial 3, 3) := by decide +kernel
theorem dX4_init_4 : decode cX4_init 4 = .ok (.aload_n 0, 1) := by decide +kernel
theorem dX4_init_5 : decode cX4_init 5 = .ok (.bipush 32, 2) := by decide +kernel
theorem dX4_init_7 : decode cX4_init 7 = .ok (.newarray .char, 2) := by decide +kernel
theorem dX4_init_9 : decode cX4_init 9 = .ok (.putfield 11, 3) := by decide +kernel
theorem dX4_init_12 : decode cX4_init 12 = .ok (.aload_n 0, 1) := by decide +kernel
theorem dX4_init_13 : decode cX4_init 13 = .ok (.iconst 0, 1) := by decide +kernel
theorem dX4_init_14 : decode cX4_init 14 = .ok (.putfield 15, 3) := by decide +kernel
theorem dX4_init_17 : decode cX4_init 17 = .ok (.return_, 1) := by decide +kernel
theorem dX4_writeCase_0 : decode cX4_writeCase 0 = .ok (.aload_n 0, 1) := by decide +kernel
theorem dX4_writeCase_1 : decode cX4_writeCase 1 = .ok (.iconst 0, 1) := by decide +kernel
theorem dX4_writeCase_2 : decode cX4_writeCase 2 = .ok (.putfield 15, 3) := by decide +kernel
theorem dX4_writeCase_5 : decode cX4_writeCase 5 = .ok (.aload_n 0, 1) := by decide +kernel
theorem dX4_writeCase_6 : decode cX4_writeCase 6 = .ok (.iload_n 2, 1) := by decide +kernel
theorem dX4_writeCase_7 : decode cX4_writeCase 7 = .ok (.invokevirtual 19, 3) := by decide +kernel
theorem dX4_writeCase_10 : decode cX4_writeCase 10 = .ok (.aload_n 0, 1) := by decide +kernel
theorem dX4_writeCase_11 : decode cX4_writeCase 11 = .ok (.bipush 58, 2) := by decide +kernel
theorem dX4_writeCase_13 : decode cX4_writeCase 13 = .ok (.invokevirtual 23, 3) := by decide +kernel
theorem dX4_writeCase_16 : decode cX4_writeCase 16 = .ok (.aload_n 0, 1) := by decide +kernel
theorem dX4_writeCase_17 : decode cX4_writeCase 17 = .ok (.aload_n 1, 1) := by decide +kernel
theorem dX4_writeCase_18 : decode cX4_writeCase 18 = .ok (.getfield 27, 3) := by decide +kernel
theorem dX4_writeCase_21 : decode cX4_writeCase 21 = .ok (.iload_n 2, 1) := by decide +kernel
theorem dX4_writeCase_22 : decode cX4_writeCase 22 = .ok (.iaload, 1) := by decide +kernel
theorem dX4_writeCase_23 : decode cX4_writeCase 23 = .ok (.invokevirtual 19, 3) := by decide +kernel
theorem dX4_writeCase_26 : decode cX4_writeCase 26 = .ok (.aload_n 0, 1) := by decide +kernel
theorem dX4_writeCase_27 : decode cX4_writeCase 27 = .ok (.bipush 64, 2) := by decide +kernel
theorem dX4_writeCase_29 : decode cX4_writeCase 29 = .ok (.invokevirtual 23, 3) := by decide +kernel
theorem dX4_writeCase_32 : decode cX4_writeCase 32 = .ok (.aload_n 0, 1) := by decide +kernel
theorem dX4_writeCase_33 : decode cX4_writeCase 33 = .ok (.aload_n 1, 1) := by decide +kernel
theorem dX4_writeCase_34 : decode cX4_writeCase 34 = .ok (.getfield 33, 3) := by decide +kernel
theorem dX4_writeCase_37 : decode cX4_writeCase 37 = .ok (.iload_n 2, 1) := by decide +kernel
theorem dX4_writeCase_38 : decode cX4_writeCase 38 = .ok (.iaload, 1) := by decide +kernel
theorem dX4_writeCase_39 : decode cX4_writeCase 39 = .ok (.invokevirtual 19, 3) := by decide +kernel
theorem dX4_writeCase_42 : decode cX4_writeCase 42 = .ok (.aload_n 1, 1) := by decide +kernel
theorem dX4_writeCase_43 : decode cX4_writeCase 43 = .ok (.iload_n 2, 1) := by decide +kernel
theorem dX4_writeCase_44 : decode cX4_writeCase 44 = .ok (.invokevirtual 36, 3) := by decide +kernel
theorem dX4_writeCase_47 : decode cX4_writeCase 47 = .ok (.ifCond .eq 13, 3) := by decide +kernel
theorem dX4_writeCase_50 : decode cX4_writeCase 50 = .ok (.aload_n 0, 1) := by decide +kernel
theorem dX4_writeCase_51 : decode cX4_writeCase 51 = .ok (.aload_n 1, 1) := by decide +kernel
theorem dX4_writeCase_52 : decode cX4_writeCase 52 = .ok (.getfield 40, 3) := by decide +kernel
theorem dX4_writeCase_55 : decode cX4_writeCase 55 = .ok (.iload_n 2, 1) := by decide +kernel
theorem dX4_writeCase_56 : decode cX4_writeCase 56 = .ok (.iaload, 1) := by decide +kernel
theorem dX4_writeCase_57 : decode cX4_writeCase 57 = .ok (.invokevirtual 43, 3) := by decide +kernel
theorem dX4_writeCase_60 : decode cX4_writeCase 60 = .ok (.aload_n 1, 1) := by decide +kernel
theorem dX4_writeCase_61 : decode cX4_writeCase 61 = .ok (.iload_n 2, 1) := by decide +kernel
theorem dX4_writeCase_62 : decode cX4_writeCase 62 = .ok (.invokevirtual 46, 3) := by decide +kernel
theorem dX4_writeCase_65 : decode cX4_writeCase 65 = .ok (.ifCond .eq 24, 3) := by decide +kernel
theorem dX4_writeCase_68 : decode cX4_writeCase 68 = .ok (.aload_n 0, 1) := by decide +kernel
theorem dX4_writeCase_69 : decode cX4_writeCase 69 = .ok (.aload_n 1, 1) := by decide +kernel
theorem dX4_writeCase_70 : decode cX4_writeCase 70 = .ok (.getfield 49, 3) := by decide +kernel
theorem dX4_writeCase_73 : decode cX4_writeCase 73 = .ok (.iload_n 2, 1) := by decide +kernel
theorem dX4_writeCase_74 : decode cX4_writeCase 74 = .ok (.iaload, 1) := by decide +kernel
theorem dX4_writeCase_75 : decode cX4_writeCase 75 = .ok (.iconst 1, 1) := by decide +kernel
theorem dX4_writeCase_76 : decode cX4_writeCase 76 = .ok (.if_icmp .ne 8, 3) := by decide +kernel
theorem dX4_writeCase_79 : decode cX4_writeCase 79 = .ok (.bipush 43, 2) := by decide +kernel
theorem dX4_writeCase_81 : decode cX4_writeCase 81 = .ok (.goto 5, 3) := by decide +kernel
theorem dX4_writeCase_84 : decode cX4_writeCase 84 = .ok (.bipush 45, 2) := by decide +kernel
theorem dX4_writeCase_86 : decode cX4_writeCase 86 = .ok (.invokevirtual 23, 3) := by decide +kernel
theorem dX4_writeCase_89 : decode cX4_writeCase 89 = .ok (.aload_n 1, 1) := by decide +kernel
theorem dX4_writeCase_90 : decode cX4_writeCase 90 = .ok (.iload_n 2, 1) := by decide +kernel
theorem dX4_writeCase_91 : decode cX4_writeCase 91 = .ok (.invokevirtual 52, 3) := by decide +kernel
theorem dX4_writeCase_94 : decode cX4_writeCase 94 = .ok (.ifCond .eq 9, 3) := by decide +kernel
theorem dX4_writeCase_97 : decode cX4_writeCase 97 = .ok (.aload_n 0, 1) := by decide +kernel
theorem dX4_writeCase_98 : decode cX4_writeCase 98 = .ok (.bipush 33, 2) := by decide +kernel
theorem dX4_writeCase_100 : decode cX4_writeCase 100 = .ok (.invokevirtual 23, 3) := by decide +kernel
theorem dX4_writeCase_103 : decode cX4_writeCase 103 = .ok (.return_, 1) := by decide +kernel
theorem dX4_writeRoll_0 : decode cX4_writeRoll 0 = .ok (.aload_n 0, 1) := by decide +kernel
theorem dX4_writeRoll_1 : decode cX4_writeRoll 1 = .ok (.iconst 0, 1) := by decide +kernel
theorem dX4_writeRoll_2 : decode cX4_writeRoll 2 = .ok (.putfield 15, 3) := by decide +kernel
theorem dX4_writeRoll_5 : decode cX4_writeRoll 5 = .ok (.iconst 0, 1) := by decide +kernel
theorem dX4_writeRoll_6 : decode cX4_writeRoll 6 = .ok (.istore_n 2, 1) := by decide +kernel
theorem dX4_writeRoll_7 : decode cX4_writeRoll 7 = .ok (.iload_n 2, 1) := by decide +kernel
theorem dX4_writeRoll_8 : decode cX4_writeRoll 8 = .ok (.aload_n 1, 1) := by decide +kernel
theorem dX4_writeRoll_9 : decode cX4_writeRoll 9 = .ok (.getfield 55, 3) := by decide +kernel
theorem dX4_writeRoll_12 : decode cX4_writeRoll 12 = .ok (.if_icmp .ge 29, 3) := by decide +kernel
theorem dX4_writeRoll_15 : decode cX4_writeRoll 15 = .ok (.iload_n 2, 1) := by decide +kernel
theorem dX4_writeRoll_16 : decode cX4_writeRoll 16 = .ok (.ifCond .le 9, 3) := by decide +kernel
theorem dX4_writeRoll_19 : decode cX4_writeRoll 19 = .ok (.aload_n 0, 1) := by decide +kernel
theorem dX4_writeRoll_20 : decode cX4_writeRoll 20 = .ok (.bipush 32, 2) := by decide +kernel
theorem dX4_writeRoll_22 : decode cX4_writeRoll 22 = .ok (.invokevirtual 23, 3) := by decide +kernel
theorem dX4_writeRoll_25 : decode cX4_writeRoll 25 = .ok (.aload_n 0, 1) := by decide +kernel
theorem dX4_writeRoll_26 : decode cX4_writeRoll 26 = .ok (.aload_n 1, 1) := by decide +kernel
theorem dX4_writeRoll_27 : decode cX4_writeRoll 27 = .ok (.getfield 58, 3) := by decide +kernel
theorem dX4_writeRoll_30 : decode cX4_writeRoll 30 = .ok (.iload_n 2, 1) := by decide +kernel
theorem dX4_writeRoll_31 : decode cX4_writeRoll 31 = .ok (.iaload, 1) := by decide +kernel
theorem dX4_writeRoll_32 : decode cX4_writeRoll 32 = .ok (.invokevirtual 19, 3) := by decide +kernel
theorem dX4_writeRoll_35 : decode cX4_writeRoll 35 = .ok (.iinc 2 1, 3) := by decide +kernel
theorem dX4_writeRoll_38 : decode cX4_writeRoll 38 = .ok (.goto (-31), 3) := by decide +kernel
theorem dX4_writeRoll_41 : decode cX4_writeRoll 41 = .ok (.return_, 1) := by decide +kernel
theorem dX4_addPanel_0 : decode cX4_addPanel 0 = .ok (.bipush 91, 2) := by decide +kernel
theorem dX4_addPanel_2 : decode cX4_addPanel 2 = .ok (.istore_n 2, 1) := by decide +kernel
theorem dX4_addPanel_3 : decode cX4_addPanel 3 = .ok (.iconst 0, 1) := by decide +kernel
theorem dX4_addPanel_4 : decode cX4_addPanel 4 = .ok (.istore_n 3, 1) := by decide +kernel
theorem dX4_addPanel_5 : decode cX4_addPanel 5 = .ok (.iload_n 3, 1) := by decide +kernel
theorem dX4_addPanel_6 : decode cX4_addPanel 6 = .ok (.bipush 9, 2) := by decide +kernel
theorem dX4_addPanel_8 : decode cX4_addPanel 8 = .ok (.if_icmp .ge 30, 3) := by decide +kernel
theorem dX4_addPanel_11 : decode cX4_addPanel 11 = .ok (.iload_n 1, 1) := by decide +kernel
theorem dX4_addPanel_12 : decode cX4_addPanel 12 = .ok (.iload_n 3, 1) := by decide +kernel
theorem dX4_addPanel_13 : decode cX4_addPanel 13 = .ok (.invokestatic 61, 3) := by decide +kernel
theorem dX4_addPanel_16 : decode cX4_addPanel 16 = .ok (.ifCond .eq 16, 3) := by decide +kernel
theorem dX4_addPanel_19 : decode cX4_addPanel 19 = .ok (.aload_n 0, 1) := by decide +kernel
theorem dX4_addPanel_20 : decode cX4_addPanel 20 = .ok (.iload_n 2, 1) := by decide +kernel
theorem dX4_addPanel_21 : decode cX4_addPanel 21 = .ok (.invokevirtual 23, 3) := by decide +kernel
theorem dX4_addPanel_24 : decode cX4_addPanel 24 = .ok (.aload_n 0, 1) := by decide +kernel
theorem dX4_addPanel_25 : decode cX4_addPanel 25 = .ok (.iload_n 3, 1) := by decide +kernel
theorem dX4_addPanel_26 : decode cX4_addPanel 26 = .ok (.invokevirtual 19, 3) := by decide +kernel
theorem dX4_addPanel_29 : decode cX4_addPanel 29 = .ok (.bipush 44, 2) := by decide +kernel
theorem dX4_addPanel_31 : decode cX4_addPanel 31 = .ok (.istore_n 2, 1) := by decide +kernel
theorem dX4_addPanel_32 : decode cX4_addPanel 32 = .ok (.iinc 3 1, 3) := by decide +kernel
theorem dX4_addPanel_35 : decode cX4_addPanel 35 = .ok (.goto (-30), 3) := by decide +kernel
theorem dX4_addPanel_38 : decode cX4_addPanel 38 = .ok (.aload_n 0, 1) := by decide +kernel
theorem dX4_addPanel_39 : decode cX4_addPanel 39 = .ok (.bipush 93, 2) := by decide +kernel
theorem dX4_addPanel_41 : decode cX4_addPanel 41 = .ok (.invokevirtual 23, 3) := by decide +kernel
theorem dX4_addPanel_44 : decode cX4_addPanel 44 = .ok (.return_, 1) := by decide +kernel
theorem dX4_addNumber_0 : decode cX4_addNumber 0 = .ok (.iload_n 1, 1) := by decide +kernel
theorem dX4_addNumber_1 : decode cX4_addNumber 1 = .ok (.bipush 100, 2) := by decide +kernel
theorem dX4_addNumber_3 : decode cX4_addNumber 3 = .ok (.if_icmp .lt 15, 3) := by decide +kernel
theorem dX4_addNumber_6 : decode cX4_addNumber 6 = .ok (.aload_n 0, 1) := by decide +kernel
theorem dX4_addNumber_7 : decode cX4_addNumber 7 = .ok (.bipush 48, 2) := by decide +kernel
theorem dX4_addNumber_9 : decode cX4_addNumber 9 = .ok (.iload_n 1, 1) := by decide +kernel
theorem dX4_addNumber_10 : decode cX4_addNumber 10 = .ok (.bipush 100, 2) := by decide +kernel
theorem dX4_addNumber_12 : decode cX4_addNumber 12 = .ok (.idiv, 1) := by decide +kernel
theorem dX4_addNumber_13 : decode cX4_addNumber 13 = .ok (.iadd, 1) := by decide +kernel
theorem dX4_addNumber_14 : decode cX4_addNumber 14 = .ok (.i2c, 1) := by decide +kernel
theorem dX4_addNumber_15 : decode cX4_addNumber 15 = .ok (.invokevirtual 23, 3) := by decide +kernel
theorem dX4_addNumber_18 : decode cX4_addNumber 18 = .ok (.iload_n 1, 1) := by decide +kernel
theorem dX4_addNumber_19 : decode cX4_addNumber 19 = .ok (.bipush 10, 2) := by decide +kernel
theorem dX4_addNumber_21 : decode cX4_addNumber 21 = .ok (.if_icmp .lt 18, 3) := by decide +kernel
theorem dX4_addNumber_24 : decode cX4_addNumber 24 = .ok (.aload_n 0, 1) := by decide +kernel
theorem dX4_addNumber_25 : decode cX4_addNumber 25 = .ok (.bipush 48, 2) := by decide +kernel
theorem dX4_addNumber_27 : decode cX4_addNumber 27 = .ok (.iload_n 1, 1) := by decide +kernel
theorem dX4_addNumber_28 : decode cX4_addNumber 28 = .ok (.bipush 10, 2) := by decide +kernel
theorem dX4_addNumber_30 : decode cX4_addNumber 30 = .ok (.idiv, 1) := by decide +kernel
theorem dX4_addNumber_31 : decode cX4_addNumber 31 = .ok (.bipush 10, 2) := by decide +kernel
theorem dX4_addNumber_33 : decode cX4_addNumber 33 = .ok (.irem, 1) := by decide +kernel
theorem dX4_addNumber_34 : decode cX4_addNumber 34 = .ok (.iadd, 1) := by decide +kernel
theorem dX4_addNumber_35 : decode cX4_addNumber 35 = .ok (.i2c, 1) := by decide +kernel
theorem dX4_addNumber_36 : decode cX4_addNumber 36 = .ok (.invokevirtual 23, 3) := by decide +kernel
theorem dX4_addNumber_39 : decode cX4_addNumber 39 = .ok (.aload_n 0, 1) := by decide +kernel
theorem dX4_addNumber_40 : decode cX4_addNumber 40 = .ok (.bipush 48, 2) := by decide +kernel
theorem dX4_addNumber_42 : decode cX4_addNumber 42 = .ok (.iload_n 1, 1) := by decide +kernel
theorem dX4_addNumber_43 : decode cX4_addNumber 43 = .ok (.bipush 10, 2) := by decide +kernel
theorem dX4_addNumber_45 : decode cX4_addNumber 45 = .ok (.irem, 1) := by decide +kernel
theorem dX4_addNumber_46 : decode cX4_addNumber 46 = .ok (.iadd, 1) := by decide +kernel
theorem dX4_addNumber_47 : decode cX4_addNumber 47 = .ok (.i2c, 1) := by decide +kernel
theorem dX4_addNumber_48 : decode cX4_addNumber 48 = .ok (.invokevirtual 23, 3) := by decide +kernel
theorem dX4_addNumber_51 : decode cX4_addNumber 51 = .ok (.return_, 1) := by decide +kernel
theorem dX4_add_0 : decode cX4_add 0 = .ok (.aload_n 0, 1) := by decide +kernel
theorem dX4_add_1 : decode cX4_add 1 = .ok (.getfield 15, 3) := by decide +kernel
theorem dX4_add_4 : decode cX4_add 4 = .ok (.bipush 32, 2) := by decide +kernel
theorem dX4_add_6 : decode cX4_add 6 = .ok (.if_icmp .ge 23, 3) := by decide +kernel
theorem dX4_add_9 : decode cX4_add 9 = .ok (.aload_n 0, 1) := by decide +kernel
theorem dX4_add_10 : decode cX4_add 10 = .ok (.getfield 11, 3) := by decide +kernel
theorem dX4_add_13 : decode cX4_add 13 = .ok (.aload_n 0, 1) := by decide +kernel
theorem dX4_add_14 : decode cX4_add 14 = .ok (.getfield 15, 3) := by decide +kernel
theorem dX4_add_17 : decode cX4_add 17 = .ok (.iload_n 1, 1) := by decide +kernel
theorem dX4_add_18 : decode cX4_add 18 = .ok (.castore, 1) := by decide +kernel
theorem dX4_add_19 : decode cX4_add 19 = .ok (.aload_n 0, 1) := by decide +kernel
theorem dX4_add_20 : decode cX4_add 20 = .ok (.dup, 1) := by decide +kernel
theorem dX4_add_21 : decode cX4_add 21 = .ok (.getfield 15, 3) := by decide +kernel
theorem dX4_add_24 : decode cX4_add 24 = .ok (.iconst 1, 1) := by decide +kernel
theorem dX4_add_25 : decode cX4_add 25 = .ok (.iadd, 1) := by decide +kernel
theorem dX4_add_26 : decode cX4_add 26 = .ok (.putfield 15, 3) := by decide +kernel
theorem dX4_add_29 : decode cX4_add 29 = .ok (.return_, 1) := by decide +kernel
theorem dX5_init_0 : decode cX5_init 0 = .ok (.aload_n 0, 1) := by decide +kernel
theorem dX5_init_1 : decode cX5_init 1 = .ok (.invokespecial 3, 3) := by decide +kernel
theorem dX5_init_4 : decode cX5_init 4 = .ok (.aload_n 0, 1) := by decide +kernel
theorem dX5_init_5 : decode cX5_init 5 = .ok (.iconst 0, 1) := by decide +kernel
theorem dX5_init_6 : decode cX5_init 6 = .ok (.putfield 9, 3) := by decide +kernel
theorem dX5_init_9 : decode cX5_init 9 = .ok (.aload_n 0, 1) := by decide +kernel
theorem dX5_init_10 : decode cX5_init 10 = .ok (.iconst 0, 1) := by decide +kernel
theorem dX5_init_11 : decode cX5_init 11 = .ok (.putfield 15, 3) := by decide +kernel
theorem dX5_init_14 : decode cX5_init 14 = .ok (.return_, 1) := by decide +kernel
theorem dX5_ofJuror_0 : decode cX5_ofJuror 0 = .ok (.aload_n 1, 1) := by decide +kernel
theorem dX5_ofJuror_1 : decode cX5_ofJuror 1 = .ok (.getfield 18, 3) := by decide +kernel
theorem dX5_ofJuror_4 : decode cX5_ofJuror 4 = .ok (.getfield 24, 3) := by decide +kernel
theorem dX5_ofJuror_7 : decode cX5_ofJuror 7 = .ok (.bipush 9, 2) := by decide +kernel
theorem dX5_ofJuror_9 : decode cX5_ofJuror 9 = .ok (.if_icmp .lt 17, 3) := by decide +kernel
theorem dX5_ofJuror_12 : decode cX5_ofJuror 12 = .ok (.aload_n 0, 1) := by decide +kernel
theorem dX5_ofJuror_13 : decode cX5_ofJuror 13 = .ok (.iconst 1, 1) := by decide +kernel
theorem dX5_ofJuror_14 : decode cX5_ofJuror 14 = .ok (.bipush 9, 2) := by decide +kernel
theorem dX5_ofJuror_16 : decode cX5_ofJuror 16 = .ok (.invokevirtual 29, 3) := by decide +kernel
theorem dX5_ofJuror_19 : decode cX5_ofJuror 19 = .ok (.ifCond .eq 7, 3) := by decide +kernel
theorem dX5_ofJuror_22 : decode cX5_ofJuror 22 = .ok (.iconst 1, 1) := by decide +kernel
theorem dX5_ofJuror_23 : decode cX5_ofJuror 23 = .ok (.goto 4, 3) := by decide +kernel
theorem dX5_ofJuror_26 : decode cX5_ofJuror 26 = .ok (.iconst 0, 1) := by decide +kernel
theorem dX5_ofJuror_27 : decode cX5_ofJuror 27 = .ok (.ireturn, 1) := by decide +kernel
theorem dX5_ofCase_0 : decode cX5_ofCase 0 = .ok (.aload_n 1, 1) := by decide +kernel
theorem dX5_ofCase_1 : decode cX5_ofCase 1 = .ok (.getfield 33, 3) := by decide +kernel
theorem dX5_ofCase_4 : decode cX5_ofCase 4 = .ok (.getfield 37, 3) := by decide +kernel
theorem dX5_ofCase_7 : decode cX5_ofCase 7 = .ok (.bipush 10, 2) := by decide +kernel
theorem dX5_ofCase_9 : decode cX5_ofCase 9 = .ok (.if_icmp .lt 17, 3) := by decide +kernel
theorem dX5_ofCase_12 : decode cX5_ofCase 12 = .ok (.aload_n 0, 1) := by decide +kernel
theorem dX5_ofCase_13 : decode cX5_ofCase 13 = .ok (.iconst 1, 1) := by decide +kernel
theorem dX5_ofCase_14 : decode cX5_ofCase 14 = .ok (.bipush 10, 2) := by decide +kernel
theorem dX5_ofCase_16 : decode cX5_ofCase 16 = .ok (.invokevirtual 29, 3) := by decide +kernel
theorem dX5_ofCase_19 : decode cX5_ofCase 19 = .ok (.ifCond .eq 7, 3) := by decide +kernel
theorem dX5_ofCase_22 : decode cX5_ofCase 22 = .ok (.iconst 1, 1) := by decide +kernel
theorem dX5_ofCase_23 : decode cX5_ofCase 23 = .ok (.goto 4, 3) := by decide +kernel
theorem dX5_ofCase_26 : decode cX5_ofCase 26 = .ok (.iconst 0, 1) := by decide +kernel
theorem dX5_ofCase_27 : decode cX5_ofCase 27 = .ok (.ireturn, 1) := by decide +kernel
theorem dX5_ofClerk_0 : decode cX5_ofClerk 0 = .ok (.aload_n 1, 1) := by decide +kernel
theorem dX5_ofClerk_1 : decode cX5_ofClerk 1 = .ok (.getfield 40, 3) := by decide +kernel
theorem dX5_ofClerk_4 : decode cX5_ofClerk 4 = .ok (.iconst 4, 1) := by decide +kernel
theorem dX5_ofClerk_5 : decode cX5_ofClerk 5 = .ok (.if_icmp .lt 16, 3) := by decide +kernel
theorem dX5_ofClerk_8 : decode cX5_ofClerk 8 = .ok (.aload_n 0, 1) := by decide +kernel
theorem dX5_ofClerk_9 : decode cX5_ofClerk 9 = .ok (.iconst 1, 1) := by decide +kernel
theorem dX5_ofClerk_10 : decode cX5_ofClerk 10 = .ok (.iconst 4, 1) := by decide +kernel
theorem dX5_ofClerk_11 : decode cX5_ofClerk 11 = .ok (.invokevirtual 29, 3) := by decide +kernel
theorem dX5_ofClerk_14 : decode cX5_ofClerk 14 = .ok (.ifCond .eq 7, 3) := by decide +kernel
theorem dX5_ofClerk_17 : decode cX5_ofClerk 17 = .ok (.iconst 1, 1) := by decide +kernel
theorem dX5_ofClerk_18 : decode cX5_ofClerk 18 = .ok (.goto 4, 3) := by decide +kernel
theorem dX5_ofClerk_21 : decode cX5_ofClerk 21 = .ok (.iconst 0, 1) := by decide +kernel
theorem dX5_ofClerk_22 : decode cX5_ofClerk 22 = .ok (.ireturn, 1) := by decide +kernel
theorem dX5_ofNight_0 : decode cX5_ofNight 0 = .ok (.aload_n 1, 1) := by decide +kernel
theorem dX5_ofNight_1 : decode cX5_ofNight 1 = .ok (.getfield 43, 3) := by decide +kernel
theorem dX5_ofNight_4 : decode cX5_ofNight 4 = .ok (.bipush 99, 2) := by decide +kernel
theorem dX5_ofNight_6 : decode cX5_ofNight 6 = .ok (.if_icmp .lt 23, 3) := by decide +kernel
theorem dX5_ofNight_9 : decode cX5_ofNight 9 = .ok (.aload_n 0, 1) := by decide +kernel
theorem dX5_ofNight_10 : decode cX5_ofNight 10 = .ok (.bipush 8, 2) := by decide +kernel
theorem dX5_ofNight_12 : decode cX5_ofNight 12 = .ok (.aload_n 1, 1) := by decide +kernel
theorem dX5_ofNight_13 : decode cX5_ofNight 13 = .ok (.getfield 33, 3) := by decide +kernel
theorem dX5_ofNight_16 : decode cX5_ofNight 16 = .ok (.getfield 46, 3) := by decide +kernel
theorem dX5_ofNight_19 : decode cX5_ofNight 19 = .ok (.invokevirtual 29, 3) := by decide +kernel
theorem dX5_ofNight_22 : decode cX5_ofNight 22 = .ok (.ifCond .eq 7, 3) := by decide +kernel
theorem dX5_ofNight_25 : decode cX5_ofNight 25 = .ok (.iconst 1, 1) := by decide +kernel
theorem dX5_ofNight_26 : decode cX5_ofNight 26 = .ok (.goto 4, 3) := by decide +kernel
theorem dX5_ofNight_29 : decode cX5_ofNight 29 = .ok (.iconst 0, 1) := by decide +kernel
theorem dX5_ofNight_30 : decode cX5_ofNight 30 = .ok (.ireturn, 1) := by decide +kernel
theorem dX5_ofCall_0 : decode cX5_ofCall 0 = .ok (.aload_n 1, 1) := by decide +kernel
theorem dX5_ofCall_1 : decode cX5_ofCall 1 = .ok (.getfield 33, 3) := by decide +kernel
theorem dX5_ofCall_4 : decode cX5_ofCall 4 = .ok (.iload_n 2, 1) := by decide +kernel
theorem dX5_ofCall_5 : decode cX5_ofCall 5 = .ok (.invokevirtual 49, 3) := by decide +kernel
theorem dX5_ofCall_8 : decode cX5_ofCall 8 = .ok (.ifCond .eq 29, 3) := by decide +kernel
theorem dX5_ofCall_11 : decode cX5_ofCall 11 = .ok (.aload_n 0, 1) := by decide +kernel
theorem dX5_ofCall_12 : decode cX5_ofCall 12 = .ok (.iconst 2, 1) := by decide +kernel
theorem dX5_ofCall_13 : decode cX5_ofCall 13 = .ok (.aload_n 1, 1) := by decide +kernel
theorem dX5_ofCall_14 : decode cX5_ofCall 14 = .ok (.aload_n 1, 1) := by decide +kernel
theorem dX5_ofCall_15 : decode cX5_ofCall 15 = .ok (.getfield 18, 3) := by decide +kernel
theorem dX5_ofCall_18 : decode cX5_ofCall 18 = .ok (.aload_n 1, 1) := by decide +kernel
theorem dX5_ofCall_19 : decode cX5_ofCall 19 = .ok (.getfield 33, 3) := by decide +kernel
theorem dX5_ofCall_22 : decode cX5_ofCall 22 = .ok (.getfield 53, 3) := by decide +kernel
theorem dX5_ofCall_25 : decode cX5_ofCall 25 = .ok (.iload_n 2, 1) := by decide +kernel
theorem dX5_ofCall_26 : decode cX5_ofCall 26 = .ok (.iaload, 1) := by decide +kernel
theorem dX5_ofCall_27 : decode cX5_ofCall 27 = .ok (.invokevirtual 57, 3) := by decide +kernel
theorem dX5_ofCall_30 : decode cX5_ofCall 30 = .ok (.invokevirtual 61, 3) := by decide +kernel
theorem dX5_ofCall_33 : decode cX5_ofCall 33 = .ok (.invokevirtual 29, 3) := by decide +kernel
theorem dX5_ofCall_36 : decode cX5_ofCall 36 = .ok (.ireturn, 1) := by decide +kernel
theorem dX5_ofCall_37 : decode cX5_ofCall 37 = .ok (.aload_n 1, 1) := by decide +kernel
theorem dX5_ofCall_38 : decode cX5_ofCall 38 = .ok (.iconst 0, 1) := by decide +kernel
theorem dX5_ofCall_39 : decode cX5_ofCall 39 = .ok (.invokevirtual 64, 3) := by decide +kernel
theorem dX5_ofCall_42 : decode cX5_ofCall 42 = .ok (.istore_n 3, 1) := by decide +kernel
theorem dX5_ofCall_43 : decode cX5_ofCall 43 = .ok (.iload_n 3, 1) := by decide +kernel
theorem dX5_ofCall_44 : decode cX5_ofCall 44 = .ok (.iconst 3, 1) := by decide +kernel
theorem dX5_ofCall_45 : decode cX5_ofCall 45 = .ok (.if_icmp .ge 16, 3) := by decide +kernel
theorem dX5_ofCall_48 : decode cX5_ofCall 48 = .ok (.aload_n 0, 1) := by decide +kernel
theorem dX5_ofCall_49 : decode cX5_ofCall 49 = .ok (.iconst 3, 1) := by decide +kernel
theorem dX5_ofCall_50 : decode cX5_ofCall 50 = .ok (.iload_n 3, 1) := by decide +kernel
theorem dX5_ofCall_51 : decode cX5_ofCall 51 = .ok (.invokevirtual 29, 3) := by decide +kernel
theorem dX5_ofCall_54 : decode cX5_ofCall 54 = .ok (.ifCond .eq 7, 3) := by decide +kernel
theorem dX5_ofCall_57 : decode cX5_ofCall 57 = .ok (.iconst 1, 1) := by decide +kernel
theorem dX5_ofCall_58 : decode cX5_ofCall 58 = .ok (.goto 4, 3) := by decide +kernel
theorem dX5_ofCall_61 : decode cX5_ofCall 61 = .ok (.iconst 0, 1) := by decide +kernel
theorem dX5_ofCall_62 : decode cX5_ofCall 62 = .ok (.ireturn, 1) := by decide +kernel
theorem dX5_ofVote_0 : decode cX5_ofVote 0 = .ok (.aload_n 1, 1) := by decide +kernel
theorem dX5_ofVote_1 : decode cX5_ofVote 1 = .ok (.getfield 33, 3) := by decide +kernel
theorem dX5_ofVote_4 : decode cX5_ofVote 4 = .ok (.iload_n 2, 1) := by decide +kernel
theorem dX5_ofVote_5 : decode cX5_ofVote 5 = .ok (.invokevirtual 49, 3) := by decide +kernel
theorem dX5_ofVote_8 : decode cX5_ofVote 8 = .ok (.ifCond .ne 18, 3) := by decide +kernel
theorem dX5_ofVote_11 : decode cX5_ofVote 11 = .ok (.aload_n 0, 1) := by decide +kernel
theorem dX5_ofVote_12 : decode cX5_ofVote 12 = .ok (.iconst 4, 1) := by decide +kernel
theorem dX5_ofVote_13 : decode cX5_ofVote 13 = .ok (.aload_n 1, 1) := by decide +kernel
theorem dX5_ofVote_14 : decode cX5_ofVote 14 = .ok (.getfield 33, 3) := by decide +kernel
theorem dX5_ofVote_17 : decode cX5_ofVote 17 = .ok (.getfield 67, 3) := by decide +kernel
theorem dX5_ofVote_20 : decode cX5_ofVote 20 = .ok (.iload_n 2, 1) := by decide +kernel
theorem dX5_ofVote_21 : decode cX5_ofVote 21 = .ok (.iaload, 1) := by decide +kernel
theorem dX5_ofVote_22 : decode cX5_ofVote 22 = .ok (.invokevirtual 29, 3) := by decide +kernel
theorem dX5_ofVote_25 : decode cX5_ofVote 25 = .ok (.ireturn, 1) := by decide +kernel
theorem dX5_ofVote_26 : decode cX5_ofVote 26 = .ok (.aload_n 1, 1) := by decide +kernel
theorem dX5_ofVote_27 : decode cX5_ofVote 27 = .ok (.getfield 33, 3) := by decide +kernel
theorem dX5_ofVote_30 : decode cX5_ofVote 30 = .ok (.iload_n 2, 1) := by decide +kernel
theorem dX5_ofVote_31 : decode cX5_ofVote 31 = .ok (.invokevirtual 70, 3) := by decide +kernel
theorem dX5_ofVote_34 : decode cX5_ofVote 34 = .ok (.ifCond .eq 19, 3) := by decide +kernel
theorem dX5_ofVote_37 : decode cX5_ofVote 37 = .ok (.aload_n 0, 1) := by decide +kernel
theorem dX5_ofVote_38 : decode cX5_ofVote 38 = .ok (.bipush 6, 2) := by decide +kernel
theorem dX5_ofVote_40 : decode cX5_ofVote 40 = .ok (.aload_n 1, 1) := by decide +kernel
theorem dX5_ofVote_41 : decode cX5_ofVote 41 = .ok (.getfield 33, 3) := by decide +kernel
theorem dX5_ofVote_44 : decode cX5_ofVote 44 = .ok (.getfield 73, 3) := by decide +kernel
theorem dX5_ofVote_47 : decode cX5_ofVote 47 = .ok (.iload_n 2, 1) := by decide +kernel
theorem dX5_ofVote_48 : decode cX5_ofVote 48 = .ok (.iaload, 1) := by decide +kernel
theorem dX5_ofVote_49 : decode cX5_ofVote 49 = .ok (.invokevirtual 29, 3) := by decide +kernel
theorem dX5_ofVote_52 : decode cX5_ofVote 52 = .ok (.ireturn, 1) := by decide +kernel
theorem dX5_ofVote_53 : decode cX5_ofVote 53 = .ok (.aload_n 1, 1) := by decide +kernel
theorem dX5_ofVote_54 : decode cX5_ofVote 54 = .ok (.getfield 33, 3) := by decide +kernel
theorem dX5_ofVote_57 : decode cX5_ofVote 57 = .ok (.iload_n 2, 1) := by decide +kernel
theorem dX5_ofVote_58 : decode cX5_ofVote 58 = .ok (.invokevirtual 76, 3) := by decide +kernel
theorem dX5_ofVote_61 : decode cX5_ofVote 61 = .ok (.ifCond .eq 24, 3) := by decide +kernel
theorem dX5_ofVote_64 : decode cX5_ofVote 64 = .ok (.aload_n 0, 1) := by decide +kernel
theorem dX5_ofVote_65 : decode cX5_ofVote 65 = .ok (.iconst 2, 1) := by decide +kernel
theorem dX5_ofVote_66 : decode cX5_ofVote 66 = .ok (.aload_n 1, 1) := by decide +kernel
theorem dX5_ofVote_67 : decode cX5_ofVote 67 = .ok (.getfield 33, 3) := by decide +kernel
theorem dX5_ofVote_70 : decode cX5_ofVote 70 = .ok (.getfield 79, 3) := by decide +kernel
theorem dX5_ofVote_73 : decode cX5_ofVote 73 = .ok (.iload_n 2, 1) := by decide +kernel
theorem dX5_ofVote_74 : decode cX5_ofVote 74 = .ok (.iaload, 1) := by decide +kernel
theorem dX5_ofVote_75 : decode cX5_ofVote 75 = .ok (.invokevirtual 29, 3) := by decide +kernel
theorem dX5_ofVote_78 : decode cX5_ofVote 78 = .ok (.ifCond .eq 7, 3) := by decide +kernel
theorem dX5_ofVote_81 : decode cX5_ofVote 81 = .ok (.iconst 1, 1) := by decide +kernel
theorem dX5_ofVote_82 : decode cX5_ofVote 82 = .ok (.goto 4, 3) := by decide +kernel
theorem dX5_ofVote_85 : decode cX5_ofVote 85 = .ok (.iconst 0, 1) := by decide +kernel
theorem dX5_ofVote_86 : decode cX5_ofVote 86 = .ok (.ireturn, 1) := by decide +kernel
theorem dX5_ofUnsay_0 : decode cX5_ofUnsay 0 = .ok (.aload_n 1, 1) := by decide +kernel
theorem dX5_ofUnsay_1 : decode cX5_ofUnsay 1 = .ok (.getfield 33, 3) := by decide +kernel
theorem dX5_ofUnsay_4 : decode cX5_ofUnsay 4 = .ok (.iload_n 2, 1) := by decide +kernel
theorem dX5_ofUnsay_5 : decode cX5_ofUnsay 5 = .ok (.invokevirtual 76, 3) := by decide +kernel
theorem dX5_ofUnsay_8 : decode cX5_ofUnsay 8 = .ok (.ifCond .ne 18, 3) := by decide +kernel
theorem dX5_ofUnsay_11 : decode cX5_ofUnsay 11 = .ok (.aload_n 0, 1) := by decide +kernel
theorem dX5_ofUnsay_12 : decode cX5_ofUnsay 12 = .ok (.iconst 5, 1) := by decide +kernel
theorem dX5_ofUnsay_13 : decode cX5_ofUnsay 13 = .ok (.aload_n 1, 1) := by decide +kernel
theorem dX5_ofUnsay_14 : decode cX5_ofUnsay 14 = .ok (.getfield 33, 3) := by decide +kernel
theorem dX5_ofUnsay_17 : decode cX5_ofUnsay 17 = .ok (.getfield 82, 3) := by decide +kernel
theorem dX5_ofUnsay_20 : decode cX5_ofUnsay 20 = .ok (.iload_n 2, 1) := by decide +kernel
theorem dX5_ofUnsay_21 : decode cX5_ofUnsay 21 = .ok (.iaload, 1) := by decide +kernel
theorem dX5_ofUnsay_22 : decode cX5_ofUnsay 22 = .ok (.invokevirtual 29, 3) := by decide +kernel
theorem dX5_ofUnsay_25 : decode cX5_ofUnsay 25 = .ok (.ireturn, 1) := by decide +kernel
theorem dX5_ofUnsay_26 : decode cX5_ofUnsay 26 = .ok (.aload_n 1, 1) := by decide +kernel
theorem dX5_ofUnsay_27 : decode cX5_ofUnsay 27 = .ok (.getfield 33, 3) := by decide +kernel
theorem dX5_ofUnsay_30 : decode cX5_ofUnsay 30 = .ok (.iload_n 2, 1) := by decide +kernel
theorem dX5_ofUnsay_31 : decode cX5_ofUnsay 31 = .ok (.invokevirtual 70, 3) := by decide +kernel
theorem dX5_ofUnsay_34 : decode cX5_ofUnsay 34 = .ok (.ifCond .eq 25, 3) := by decide +kernel
theorem dX5_ofUnsay_37 : decode cX5_ofUnsay 37 = .ok (.aload_n 0, 1) := by decide +kernel
theorem dX5_ofUnsay_38 : decode cX5_ofUnsay 38 = .ok (.bipush 6, 2) := by decide +kernel
theorem dX5_ofUnsay_40 : decode cX5_ofUnsay 40 = .ok (.aload_n 1, 1) := by decide +kernel
theorem dX5_ofUnsay_41 : decode cX5_ofUnsay 41 = .ok (.getfield 33, 3) := by decide +kernel
theorem dX5_ofUnsay_44 : decode cX5_ofUnsay 44 = .ok (.getfield 73, 3) := by decide +kernel
theorem dX5_ofUnsay_47 : decode cX5_ofUnsay 47 = .ok (.iload_n 2, 1) := by decide +kernel
theorem dX5_ofUnsay_48 : decode cX5_ofUnsay 48 = .ok (.iaload, 1) := by decide +kernel
theorem dX5_ofUnsay_49 : decode cX5_ofUnsay 49 = .ok (.invokevirtual 29, 3) := by decide +kernel
theorem dX5_ofUnsay_52 : decode cX5_ofUnsay 52 = .ok (.ifCond .eq 7, 3) := by decide +kernel
theorem dX5_ofUnsay_55 : decode cX5_ofUnsay 55 = .ok (.iconst 1, 1) := by decide +kernel
theorem dX5_ofUnsay_56 : decode cX5_ofUnsay 56 = .ok (.goto 4, 3) := by decide +kernel
theorem dX5_ofUnsay_59 : decode cX5_ofUnsay 59 = .ok (.iconst 0, 1) := by decide +kernel
theorem dX5_ofUnsay_60 : decode cX5_ofUnsay 60 = .ok (.ireturn, 1) := by decide +kernel
theorem dX5_ofAppeal_0 : decode cX5_ofAppeal 0 = .ok (.aload_n 0, 1) := by decide +kernel
theorem dX5_ofAppeal_1 : decode cX5_ofAppeal 1 = .ok (.aload_n 1, 1) := by decide +kernel
theorem dX5_ofAppeal_2 : decode cX5_ofAppeal 2 = .ok (.iload_n 2, 1) := by decide +kernel
theorem dX5_ofAppeal_3 : decode cX5_ofAppeal 3 = .ok (.invokevirtual 85, 3) := by decide +kernel
theorem dX5_ofAppeal_6 : decode cX5_ofAppeal 6 = .ok (.ifCond .eq 5, 3) := by decide +kernel
theorem dX5_ofAppeal_9 : decode cX5_ofAppeal 9 = .ok (.iconst 1, 1) := by decide +kernel
theorem dX5_ofAppeal_10 : decode cX5_ofAppeal 10 = .ok (.ireturn, 1) := by decide +kernel
theorem dX5_ofAppeal_11 : decode cX5_ofAppeal 11 = .ok (.aload_n 1, 1) := by decide +kernel
theorem dX5_ofAppeal_12 : decode cX5_ofAppeal 12 = .ok (.getfield 33, 3) := by decide +kernel
theorem dX5_ofAppeal_15 : decode cX5_ofAppeal 15 = .ok (.getfield 89, 3) := by decide +kernel
theorem dX5_ofAppeal_18 : decode cX5_ofAppeal 18 = .ok (.iload_n 2, 1) := by decide +kernel
theorem dX5_ofAppeal_19 : decode cX5_ofAppeal 19 = .ok (.iaload, 1) := by decide +kernel
theorem dX5_ofAppeal_20 : decode cX5_ofAppeal 20 = .ok (.iconst 2, 1) := by decide +kernel
theorem dX5_ofAppeal_21 : decode cX5_ofAppeal 21 = .ok (.if_icmp .lt 19, 3) := by decide +kernel
theorem dX5_ofAppeal_24 : decode cX5_ofAppeal 24 = .ok (.aload_n 0, 1) := by decide +kernel
theorem dX5_ofAppeal_25 : decode cX5_ofAppeal 25 = .ok (.bipush 7, 2) := by decide +kernel
theorem dX5_ofAppeal_27 : decode cX5_ofAppeal 27 = .ok (.aload_n 1, 1) := by decide +kernel
theorem dX5_ofAppeal_28 : decode cX5_ofAppeal 28 = .ok (.getfield 33, 3) := by decide +kernel
theorem dX5_ofAppeal_31 : decode cX5_ofAppeal 31 = .ok (.getfield 79, 3) := by decide +kernel
theorem dX5_ofAppeal_34 : decode cX5_ofAppeal 34 = .ok (.iload_n 2, 1) := by decide +kernel
theorem dX5_ofAppeal_35 : decode cX5_ofAppeal 35 = .ok (.iaload, 1) := by decide +kernel
theorem dX5_ofAppeal_36 : decode cX5_ofAppeal 36 = .ok (.invokevirtual 29, 3) := by decide +kernel
theorem dX5_ofAppeal_39 : decode cX5_ofAppeal 39 = .ok (.ireturn, 1) := by decide +kernel
theorem dX5_ofAppeal_40 : decode cX5_ofAppeal 40 = .ok (.aload_n 1, 1) := by decide +kernel
theorem dX5_ofAppeal_41 : decode cX5_ofAppeal 41 = .ok (.aload_n 1, 1) := by decide +kernel
theorem dX5_ofAppeal_42 : decode cX5_ofAppeal 42 = .ok (.getfield 33, 3) := by decide +kernel
theorem dX5_ofAppeal_45 : decode cX5_ofAppeal 45 = .ok (.getfield 53, 3) := by decide +kernel
theorem dX5_ofAppeal_48 : decode cX5_ofAppeal 48 = .ok (.iload_n 2, 1) := by decide +kernel
theorem dX5_ofAppeal_49 : decode cX5_ofAppeal 49 = .ok (.iaload, 1) := by decide +kernel
theorem dX5_ofAppeal_50 : decode cX5_ofAppeal 50 = .ok (.invokevirtual 64, 3) := by decide +kernel
theorem dX5_ofAppeal_53 : decode cX5_ofAppeal 53 = .ok (.istore_n 3, 1) := by decide +kernel
theorem dX5_ofAppeal_54 : decode cX5_ofAppeal 54 = .ok (.iload_n 3, 1) := by decide +kernel
theorem dX5_ofAppeal_55 : decode cX5_ofAppeal 55 = .ok (.iconst 1, 1) := by decide +kernel
theorem dX5_ofAppeal_56 : decode cX5_ofAppeal 56 = .ok (.if_icmp .ge 16, 3) := by decide +kernel
theorem dX5_ofAppeal_59 : decode cX5_ofAppeal 59 = .ok (.aload_n 0, 1) := by decide +kernel
theorem dX5_ofAppeal_60 : decode cX5_ofAppeal 60 = .ok (.iconst 3, 1) := by decide +kernel
theorem dX5_ofAppeal_61 : decode cX5_ofAppeal 61 = .ok (.iload_n 3, 1) := by decide +kernel
theorem dX5_ofAppeal_62 : decode cX5_ofAppeal 62 = .ok (.invokevirtual 29, 3) := by decide +kernel
theorem dX5_ofAppeal_65 : decode cX5_ofAppeal 65 = .ok (.ifCond .eq 7, 3) := by decide +kernel
theorem dX5_ofAppeal_68 : decode cX5_ofAppeal 68 = .ok (.iconst 1, 1) := by decide +kernel
theorem dX5_ofAppeal_69 : decode cX5_ofAppeal 69 = .ok (.goto 4, 3) := by decide +kernel
theorem dX5_ofAppeal_72 : decode cX5_ofAppeal 72 = .ok (.iconst 0, 1) := by decide +kernel
theorem dX5_ofAppeal_73 : decode cX5_ofAppeal 73 = .ok (.ireturn, 1) := by decide +kernel
theorem dX5_ofOrder_0 : decode cX5_ofOrder 0 = .ok (.iload_n 2, 1) := by decide +kernel
theorem dX5_ofOrder_1 : decode cX5_ofOrder 1 = .ok (.tableswitch 89 0 6 #[43, 49, 55, 62, 69, 76, 83], 43) := by decide +kernel
theorem dX5_ofOrder_44 : decode cX5_ofOrder 44 = .ok (.aload_n 0, 1) := by decide +kernel
theorem dX5_ofOrder_45 : decode cX5_ofOrder 45 = .ok (.aload_n 1, 1) := by decide +kernel
theorem dX5_ofOrder_46 : decode cX5_ofOrder 46 = .ok (.invokevirtual 92, 3) := by decide +kernel
theorem dX5_ofOrder_49 : decode cX5_ofOrder 49 = .ok (.ireturn, 1) := by decide +kernel
theorem dX5_ofOrder_50 : decode cX5_ofOrder 50 = .ok (.aload_n 0, 1) := by decide +kernel
theorem dX5_ofOrder_51 : decode cX5_ofOrder 51 = .ok (.aload_n 1, 1) := by decide +kernel
theorem dX5_ofOrder_52 : decode cX5_ofOrder 52 = .ok (.invokevirtual 96, 3) := by decide +kernel
theorem dX5_ofOrder_55 : decode cX5_ofOrder 55 = .ok (.ireturn, 1) := by decide +kernel
theorem dX5_ofOrder_56 : decode cX5_ofOrder 56 = .ok (.aload_n 0, 1) := by decide +kernel
theorem dX5_ofOrder_57 : decode cX5_ofOrder 57 = .ok (.aload_n 1, 1) := by decide +kernel
theorem dX5_ofOrder_58 : decode cX5_ofOrder 58 = .ok (.iload_n 3, 1) := by decide +kernel
theorem dX5_ofOrder_59 : decode cX5_ofOrder 59 = .ok (.invokevirtual 99, 3) := by decide +kernel
theorem dX5_ofOrder_62 : decode cX5_ofOrder 62 = .ok (.ireturn, 1) := by decide +kernel
theorem dX5_ofOrder_63 : decode cX5_ofOrder 63 = .ok (.aload_n 0, 1) := by decide +kernel
theorem dX5_ofOrder_64 : decode cX5_ofOrder 64 = .ok (.aload_n 1, 1) := by decide +kernel
theorem dX5_ofOrder_65 : decode cX5_ofOrder 65 = .ok (.iload_n 3, 1) := by decide +kernel
theorem dX5_ofOrder_66 : decode cX5_ofOrder 66 = .ok (.invokevirtual 102, 3) := by decide +kernel
theorem dX5_ofOrder_69 : decode cX5_ofOrder 69 = .ok (.ireturn, 1) := by decide +kernel
theorem dX5_ofOrder_70 : decode cX5_ofOrder 70 = .ok (.aload_n 0, 1) := by decide +kernel
theorem dX5_ofOrder_71 : decode cX5_ofOrder 71 = .ok (.aload_n 1, 1) := by decide +kernel
theorem dX5_ofOrder_72 : decode cX5_ofOrder 72 = .ok (.iload_n 3, 1) := by decide +kernel
theorem dX5_ofOrder_73 : decode cX5_ofOrder 73 = .ok (.invokevirtual 85, 3) := by decide +kernel
theorem dX5_ofOrder_76 : decode cX5_ofOrder 76 = .ok (.ireturn, 1) := by decide +kernel
theorem dX5_ofOrder_77 : decode cX5_ofOrder 77 = .ok (.aload_n 0, 1) := by decide +kernel
theorem dX5_ofOrder_78 : decode cX5_ofOrder 78 = .ok (.aload_n 1, 1) := by decide +kernel
theorem dX5_ofOrder_79 : decode cX5_ofOrder 79 = .ok (.iload_n 3, 1) := by decide +kernel
theorem dX5_ofOrder_80 : decode cX5_ofOrder 80 = .ok (.invokevirtual 105, 3) := by decide +kernel
theorem dX5_ofOrder_83 : decode cX5_ofOrder 83 = .ok (.ireturn, 1) := by decide +kernel
theorem dX5_ofOrder_84 : decode cX5_ofOrder 84 = .ok (.aload_n 0, 1) := by decide +kernel
theorem dX5_ofOrder_85 : decode cX5_ofOrder 85 = .ok (.aload_n 1, 1) := by decide +kernel
theorem dX5_ofOrder_86 : decode cX5_ofOrder 86 = .ok (.invokevirtual 108, 3) := by decide +kernel
theorem dX5_ofOrder_89 : decode cX5_ofOrder 89 = .ok (.ireturn, 1) := by decide +kernel
theorem dX5_ofOrder_90 : decode cX5_ofOrder 90 = .ok (.aload_n 0, 1) := by decide +kernel
theorem dX5_ofOrder_91 : decode cX5_ofOrder 91 = .ok (.aload_n 1, 1) := by decide +kernel
theorem dX5_ofOrder_92 : decode cX5_ofOrder 92 = .ok (.invokevirtual 111, 3) := by decide +kernel
theorem dX5_ofOrder_95 : decode cX5_ofOrder 95 = .ok (.ireturn, 1) := by decide +kernel
theorem dX5_isFor_0 : decode cX5_isFor 0 = .ok (.aload_n 0, 1) := by decide +kernel
theorem dX5_isFor_1 : decode cX5_isFor 1 = .ok (.iload_n 1, 1) := by decide +kernel
theorem dX5_isFor_2 : decode cX5_isFor 2 = .ok (.putfield 9, 3) := by decide +kernel
theorem dX5_isFor_5 : decode cX5_isFor 5 = .ok (.aload_n 0, 1) := by decide +kernel
theorem dX5_isFor_6 : decode cX5_isFor 6 = .ok (.iload_n 2, 1) := by decide +kernel
theorem dX5_isFor_7 : decode cX5_isFor 7 = .ok (.putfield 15, 3) := by decide +kernel
theorem dX5_isFor_10 : decode cX5_isFor 10 = .ok (.iconst 1, 1) := by decide +kernel
theorem dX5_isFor_11 : decode cX5_isFor 11 = .ok (.ireturn, 1) := by decide +kernel
theorem dX6_init_0 : decode cX6_init 0 = .ok (.aload_n 0, 1) := by decide +kernel
theorem dX6_init_1 : decode cX6_init 1 = .ok (.invokespecial 3, 3) := by decide +kernel
theorem dX6_init_4 : decode cX6_init 4 = .ok (.aload_n 0, 1) := by decide +kernel
theorem dX6_init_5 : decode cX6_init 5 = .ok (.bipush 60, 2) := by decide +kernel
theorem dX6_init_7 : decode cX6_init 7 = .ok (.newarray .char, 2) := by decide +kernel
theorem dX6_init_9 : decode cX6_init 9 = .ok (.putfield 9, 3) := by decide +kernel
theorem dX6_init_12 : decode cX6_init 12 = .ok (.aload_n 0, 1) := by decide +kernel
theorem dX6_init_13 : decode cX6_init 13 = .ok (.iconst 0, 1) := by decide +kernel
theorem dX6_init_14 : decode cX6_init 14 = .ok (.putfield 15, 3) := by decide +kernel
theorem dX6_init_17 : decode cX6_init 17 = .ok (.aload_n 0, 1) := by decide +kernel
theorem dX6_init_18 : decode cX6_init 18 = .ok (.iconst 0, 1) := by decide +kernel
theorem dX6_init_19 : decode cX6_init 19 = .ok (.putfield 19, 3) := by decide +kernel
theorem dX6_init_22 : decode cX6_init 22 = .ok (.aload_n 0, 1) := by decide +kernel
theorem dX6_init_23 : decode cX6_init 23 = .ok (.iconst (-1), 1) := by decide +kernel
theorem dX6_init_24 : decode cX6_init 24 = .ok (.putfield 22, 3) := by decide +kernel
theorem dX6_init_27 : decode cX6_init 27 = .ok (.aload_n 0, 1) := by decide +kernel
theorem dX6_init_28 : decode cX6_init 28 = .ok (.iconst 0, 1) := by decide +kernel
theorem dX6_init_29 : decode cX6_init 29 = .ok (.putfield 25, 3) := by decide +kernel
theorem dX6_init_32 : decode cX6_init 32 = .ok (.aload_n 0, 1) := by decide +kernel
theorem dX6_init_33 : decode cX6_init 33 = .ok (.iconst 0, 1) := by decide +kernel
theorem dX6_init_34 : decode cX6_init 34 = .ok (.putfield 28, 3) := by decide +kernel
theorem dX6_init_37 : decode cX6_init 37 = .ok (.aload_n 0, 1) := by decide +kernel
theorem dX6_init_38 : decode cX6_init 38 = .ok (.iconst 0, 1) := by decide +kernel
theorem dX6_init_39 : decode cX6_init 39 = .ok (.putfield 31, 3) := by decide +kernel
theorem dX6_init_42 : decode cX6_init 42 = .ok (.aload_n 0, 1) := by decide +kernel
theorem dX6_init_43 : decode cX6_init 43 = .ok (.iconst 0, 1) := by decide +kernel
theorem dX6_init_44 : decode cX6_init 44 = .ok (.putfield 34, 3) := by decide +kernel
theorem dX6_init_47 : decode cX6_init 47 = .ok (.return_, 1) := by decide +kernel
theorem dX6_add_0 : decode cX6_add 0 = .ok (.aload_n 0, 1) := by decide +kernel
theorem dX6_add_1 : decode cX6_add 1 = .ok (.getfield 15, 3) := by decide +kernel
theorem dX6_add_4 : decode cX6_add 4 = .ok (.bipush 60, 2) := by decide +kernel
theorem dX6_add_6 : decode cX6_add 6 = .ok (.if_icmp .ge 23, 3) := by decide +kernel
theorem dX6_add_9 : decode cX6_add 9 = .ok (.aload_n 0, 1) := by decide +kernel
theorem dX6_add_10 : decode cX6_add 10 = .ok (.getfield 9, 3) := by decide +kernel
theorem dX6_add_13 : decode cX6_add 13 = .ok (.aload_n 0, 1) := by decide +kernel
theorem dX6_add_14 : decode cX6_add 14 = .ok (.getfield 15, 3) := by decide +kernel
theorem dX6_add_17 : decode cX6_add 17 = .ok (.iload_n 1, 1) := by decide +kernel
theorem dX6_add_18 : decode cX6_add 18 = .ok (.castore, 1) := by decide +kernel
theorem dX6_add_19 : decode cX6_add 19 = .ok (.aload_n 0, 1) := by decide +kernel
theorem dX6_add_20 : decode cX6_add 20 = .ok (.dup, 1) := by decide +kernel
theorem dX6_add_21 : decode cX6_add 21 = .ok (.getfield 15, 3) := by decide +kernel
theorem dX6_add_24 : decode cX6_add 24 = .ok (.iconst 1, 1) := by decide +kernel
theorem dX6_add_25 : decode cX6_add 25 = .ok (.iadd, 1) := by decide +kernel
theorem dX6_add_26 : decode cX6_add 26 = .ok (.putfield 15, 3) := by decide +kernel
theorem dX6_add_29 : decode cX6_add 29 = .ok (.aload_n 0, 1) := by decide +kernel
theorem dX6_add_30 : decode cX6_add 30 = .ok (.getfield 15, 3) := by decide +kernel
theorem dX6_add_33 : decode cX6_add 33 = .ok (.ireturn, 1) := by decide +kernel
theorem dX6_rewind_0 : decode cX6_rewind 0 = .ok (.aload_n 0, 1) := by decide +kernel
theorem dX6_rewind_1 : decode cX6_rewind 1 = .ok (.iconst 0, 1) := by decide +kernel
theorem dX6_rewind_2 : decode cX6_rewind 2 = .ok (.putfield 31, 3) := by decide +kernel
theorem dX6_rewind_5 : decode cX6_rewind 5 = .ok (.return_, 1) := by decide +kernel
theorem dX6_findError_0 : decode cX6_findError 0 = .ok (.aload_n 0, 1) := by decide +kernel
theorem dX6_findError_1 : decode cX6_findError 1 = .ok (.invokevirtual 37, 3) := by decide +kernel
theorem dX6_findError_4 : decode cX6_findError 4 = .ok (.aload_n 0, 1) := by decide +kernel
theorem dX6_findError_5 : decode cX6_findError 5 = .ok (.iconst 0, 1) := by decide +kernel
theorem dX6_findError_6 : decode cX6_findError 6 = .ok (.putfield 19, 3) := by decide +kernel
theorem dX6_findError_9 : decode cX6_findError 9 = .ok (.iconst 0, 1) := by decide +kernel
theorem dX6_findError_10 : decode cX6_findError 10 = .ok (.istore_n 1, 1) := by decide +kernel
theorem dX6_findError_11 : decode cX6_findError 11 = .ok (.iload_n 1, 1) := by decide +kernel
theorem dX6_findError_12 : decode cX6_findError 12 = .ok (.bipush 60, 2) := by decide +kernel
theorem dX6_findError_14 : decode cX6_findError 14 = .ok (.if_icmp .ge 44, 3) := by decide +kernel
theorem dX6_findError_17 : decode cX6_findError 17 = .ok (.aload_n 0, 1) := by decide +kernel
theorem dX6_findError_18 : decode cX6_findError 18 = .ok (.invokevirtual 40, 3) := by decide +kernel
theorem dX6_findError_21 : decode cX6_findError 21 = .ok (.ifCond .ne 8, 3) := by decide +kernel
theorem dX6_findError_24 : decode cX6_findError 24 = .ok (.aload_n 0, 1) := by decide +kernel
theorem dX6_findError_25 : decode cX6_findError 25 = .ok (.getfield 31, 3) := by decide +kernel
theorem dX6_findError_28 : decode cX6_findError 28 = .ok (.ireturn, 1) := by decide +kernel
theorem dX6_findError_29 : decode cX6_findError 29 = .ok (.aload_n 0, 1) := by decide +kernel
theorem dX6_findError_30 : decode cX6_findError 30 = .ok (.dup, 1) := by decide +kernel
theorem dX6_findError_31 : decode cX6_findError 31 = .ok (.getfield 19, 3) := by decide +kernel
theorem dX6_findError_34 : decode cX6_findError 34 = .ok (.iconst 1, 1) := by decide +kernel
theorem dX6_findError_35 : decode cX6_findError 35 = .ok (.iadd, 1) := by decide +kernel
theorem dX6_findError_36 : decode cX6_findError 36 = .ok (.putfield 19, 3) := by decide +kernel
theorem dX6_findError_39 : decode cX6_findError 39 = .ok (.aload_n 0, 1) := by decide +kernel
theorem dX6_findError_40 : decode cX6_findError 40 = .ok (.getfield 31, 3) := by decide +kernel
theorem dX6_findError_43 : decode cX6_findError 43 = .ok (.aload_n 0, 1) := by decide +kernel
theorem dX6_findError_44 : decode cX6_findError 44 = .ok (.getfield 15, 3) := by decide +kernel
theorem dX6_findError_47 : decode cX6_findError 47 = .ok (.if_icmp .lt 5, 3) := by decide +kernel
theorem dX6_findError_50 : decode cX6_findError 50 = .ok (.iconst (-1), 1) := by decide +kernel
theorem dX6_findError_51 : decode cX6_findError 51 = .ok (.ireturn, 1) := by decide +kernel
theorem dX6_findError_52 : decode cX6_findError 52 = .ok (.iinc 1 1, 3) := by decide +kernel
theorem dX6_findError_55 : decode cX6_findError 55 = .ok (.goto (-44), 3) := by decide +kernel
theorem dX6_findError_58 : decode cX6_findError 58 = .ok (.aload_n 0, 1) := by decide +kernel
theorem dX6_findError_59 : decode cX6_findError 59 = .ok (.getfield 31, 3) := by decide +kernel
theorem dX6_findError_62 : decode cX6_findError 62 = .ok (.ireturn, 1) := by decide +kernel
theorem dX6_readOrder_0 : decode cX6_readOrder 0 = .ok (.aload_n 0, 1) := by decide +kernel
theorem dX6_readOrder_1 : decode cX6_readOrder 1 = .ok (.getfield 31, 3) := by decide +kernel
theorem dX6_readOrder_4 : decode cX6_readOrder 4 = .ok (.ifCond .le 14, 3) := by decide +kernel
theorem dX6_readOrder_7 : decode cX6_readOrder 7 = .ok (.aload_n 0, 1) := by decide +kernel
theorem dX6_readOrder_8 : decode cX6_readOrder 8 = .ok (.bipush 59, 2) := by decide +kernel
theorem dX6_readOrder_10 : decode cX6_readOrder 10 = .ok (.invokevirtual 44, 3) := by decide +kernel
theorem dX6_readOrder_13 : decode cX6_readOrder 13 = .ok (.ifCond .ne 5, 3) := by decide +kernel
theorem dX6_readOrder_16 : decode cX6_readOrder 16 = .ok (.iconst 0, 1) := by decide +kernel
theorem dX6_readOrder_17 : decode cX6_readOrder 17 = .ok (.ireturn, 1) := by decide +kernel
theorem dX6_readOrder_18 : decode cX6_readOrder 18 = .ok (.aload_n 0, 1) := by decide +kernel
theorem dX6_readOrder_19 : decode cX6_readOrder 19 = .ok (.aload_n 0, 1) := by decide +kernel
theorem dX6_readOrder_20 : decode cX6_readOrder 20 = .ok (.invokevirtual 48, 3) := by decide +kernel
theorem dX6_readOrder_23 : decode cX6_readOrder 23 = .ok (.putfield 22, 3) := by decide +kernel
theorem dX6_readOrder_26 : decode cX6_readOrder 26 = .ok (.aload_n 0, 1) := by decide +kernel
theorem dX6_readOrder_27 : decode cX6_readOrder 27 = .ok (.getfield 22, 3) := by decide +kernel
theorem dX6_readOrder_30 : decode cX6_readOrder 30 = .ok (.tableswitch 100 (-1) 7 #[50, 52, 75, 100, 100, 100, 100, 98, 98], 50) := by decide +kernel
theorem dX6_readOrder_80 : decode cX6_readOrder 80 = .ok (.iconst 0, 1) := by decide +kernel
theorem dX6_readOrder_81 : decode cX6_readOrder 81 = .ok (.ireturn, 1) := by decide +kernel
theorem dX6_readOrder_82 : decode cX6_readOrder 82 = .ok (.aload_n 0, 1) := by decide +kernel
theorem dX6_readOrder_83 : decode cX6_readOrder 83 = .ok (.iconst 1, 1) := by decide +kernel
theorem dX6_readOrder_84 : decode cX6_readOrder 84 = .ok (.iconst 1, 1) := by decide +kernel
theorem dX6_readOrder_85 : decode cX6_readOrder 85 = .ok (.invokevirtual 52, 3) := by decide +kernel
theorem dX6_readOrder_88 : decode cX6_readOrder 88 = .ok (.ifCond .eq 15, 3) := by decide +kernel
theorem dX6_readOrder_91 : decode cX6_readOrder 91 = .ok (.aload_n 0, 1) := by decide +kernel
theorem dX6_readOrder_92 : decode cX6_readOrder 92 = .ok (.iconst 1, 1) := by decide +kernel
theorem dX6_readOrder_93 : decode cX6_readOrder 93 = .ok (.invokevirtual 56, 3) := by decide +kernel
theorem dX6_readOrder_96 : decode cX6_readOrder 96 = .ok (.ifCond .eq 7, 3) := by decide +kernel
theorem dX6_readOrder_99 : decode cX6_readOrder 99 = .ok (.iconst 1, 1) := by decide +kernel
theorem dX6_readOrder_100 : decode cX6_readOrder 100 = .ok (.goto 4, 3) := by decide +kernel
theorem dX6_readOrder_103 : decode cX6_readOrder 103 = .ok (.iconst 0, 1) := by decide +kernel
theorem dX6_readOrder_104 : decode cX6_readOrder 104 = .ok (.ireturn, 1) := by decide +kernel
theorem dX6_readOrder_105 : decode cX6_readOrder 105 = .ok (.aload_n 0, 1) := by decide +kernel
theorem dX6_readOrder_106 : decode cX6_readOrder 106 = .ok (.iconst 3, 1) := by decide +kernel
theorem dX6_readOrder_107 : decode cX6_readOrder 107 = .ok (.iconst 0, 1) := by decide +kernel
theorem dX6_readOrder_108 : decode cX6_readOrder 108 = .ok (.invokevirtual 52, 3) := by decide +kernel
theorem dX6_readOrder_111 : decode cX6_readOrder 111 = .ok (.ifCond .eq 15, 3) := by decide +kernel
theorem dX6_readOrder_114 : decode cX6_readOrder 114 = .ok (.aload_n 0, 1) := by decide +kernel
theorem dX6_readOrder_115 : decode cX6_readOrder 115 = .ok (.iconst 2, 1) := by decide +kernel
theorem dX6_readOrder_116 : decode cX6_readOrder 116 = .ok (.invokevirtual 56, 3) := by decide +kernel
theorem dX6_readOrder_119 : decode cX6_readOrder 119 = .ok (.ifCond .eq 7, 3) := by decide +kernel
theorem dX6_readOrder_122 : decode cX6_readOrder 122 = .ok (.iconst 1, 1) := by decide +kernel
theorem dX6_readOrder_123 : decode cX6_readOrder 123 = .ok (.goto 4, 3) := by decide +kernel
theorem dX6_readOrder_126 : decode cX6_readOrder 126 = .ok (.iconst 0, 1) := by decide +kernel
theorem dX6_readOrder_127 : decode cX6_readOrder 127 = .ok (.ireturn, 1) := by decide +kernel
theorem dX6_readOrder_128 : decode cX6_readOrder 128 = .ok (.iconst 1, 1) := by decide +kernel
theorem dX6_readOrder_129 : decode cX6_readOrder 129 = .ok (.ireturn, 1) := by decide +kernel
theorem dX6_readOrder_130 : decode cX6_readOrder 130 = .ok (.aload_n 0, 1) := by decide +kernel
theorem dX6_readOrder_131 : decode cX6_readOrder 131 = .ok (.iconst 1, 1) := by decide +kernel
theorem dX6_readOrder_132 : decode cX6_readOrder 132 = .ok (.iconst 0, 1) := by decide +kernel
theorem dX6_readOrder_133 : decode cX6_readOrder 133 = .ok (.invokevirtual 52, 3) := by decide +kernel
theorem dX6_readOrder_136 : decode cX6_readOrder 136 = .ok (.ireturn, 1) := by decide +kernel
theorem dX6_readWord_0 : decode cX6_readWord 0 = .ok (.iconst 0, 1) := by decide +kernel
theorem dX6_readWord_1 : decode cX6_readWord 1 = .ok (.istore_n 1, 1) := by decide +kernel
theorem dX6_readWord_2 : decode cX6_readWord 2 = .ok (.iconst 0, 1) := by decide +kernel
theorem dX6_readWord_3 : decode cX6_readWord 3 = .ok (.istore_n 2, 1) := by decide +kernel
theorem dX6_readWord_4 : decode cX6_readWord 4 = .ok (.iload_n 2, 1) := by decide +kernel
theorem dX6_readWord_5 : decode cX6_readWord 5 = .ok (.bipush 7, 2) := by decide +kernel
theorem dX6_readWord_7 : decode cX6_readWord 7 = .ok (.if_icmp .gt 50, 3) := by decide +kernel
theorem dX6_readWord_10 : decode cX6_readWord 10 = .ok (.iload_n 2, 1) := by decide +kernel
theorem dX6_readWord_11 : decode cX6_readWord 11 = .ok (.invokestatic 60, 3) := by decide +kernel
theorem dX6_readWord_14 : decode cX6_readWord 14 = .ok (.astore_n 3, 1) := by decide +kernel
theorem dX6_readWord_15 : decode cX6_readWord 15 = .ok (.aload_n 0, 1) := by decide +kernel
theorem dX6_readWord_16 : decode cX6_readWord 16 = .ok (.aload_n 3, 1) := by decide +kernel
theorem dX6_readWord_17 : decode cX6_readWord 17 = .ok (.invokevirtual 64, 3) := by decide +kernel
theorem dX6_readWord_20 : decode cX6_readWord 20 = .ok (.istore 4, 2) := by decide +kernel
theorem dX6_readWord_22 : decode cX6_readWord 22 = .ok (.iload 4, 2) := by decide +kernel
theorem dX6_readWord_24 : decode cX6_readWord 24 = .ok (.aload_n 3, 1) := by decide +kernel
theorem dX6_readWord_25 : decode cX6_readWord 25 = .ok (.invokevirtual 68, 3) := by decide +kernel
theorem dX6_readWord_28 : decode cX6_readWord 28 = .ok (.if_icmp .ne 16, 3) := by decide +kernel
theorem dX6_readWord_31 : decode cX6_readWord 31 = .ok (.aload_n 0, 1) := by decide +kernel
theorem dX6_readWord_32 : decode cX6_readWord 32 = .ok (.dup, 1) := by decide +kernel
theorem dX6_readWord_33 : decode cX6_readWord 33 = .ok (.getfield 31, 3) := by decide +kernel
theorem dX6_readWord_36 : decode cX6_readWord 36 = .ok (.iload 4, 2) := by decide +kernel
theorem dX6_readWord_38 : decode cX6_readWord 38 = .ok (.iadd, 1) := by decide +kernel
theorem dX6_readWord_39 : decode cX6_readWord 39 = .ok (.putfield 31, 3) := by decide +kernel
theorem dX6_readWord_42 : decode cX6_readWord 42 = .ok (.iload_n 2, 1) := by decide +kernel
theorem dX6_readWord_43 : decode cX6_readWord 43 = .ok (.ireturn, 1) := by decide +kernel
theorem dX6_readWord_44 : decode cX6_readWord 44 = .ok (.iload_n 1, 1) := by decide +kernel
theorem dX6_readWord_45 : decode cX6_readWord 45 = .ok (.iload 4, 2) := by decide +kernel
theorem dX6_readWord_47 : decode cX6_readWord 47 = .ok (.invokestatic 72, 3) := by decide +kernel
theorem dX6_readWord_50 : decode cX6_readWord 50 = .ok (.istore_n 1, 1) := by decide +kernel
theorem dX6_readWord_51 : decode cX6_readWord 51 = .ok (.iinc 2 1, 3) := by decide +kernel
theorem dX6_readWord_54 : decode cX6_readWord 54 = .ok (.goto (-50), 3) := by decide +kernel
theorem dX6_readWord_57 : decode cX6_readWord 57 = .ok (.aload_n 0, 1) := by decide +kernel
theorem dX6_readWord_58 : decode cX6_readWord 58 = .ok (.dup, 1) := by decide +kernel
theorem dX6_readWord_59 : decode cX6_readWord 59 = .ok (.getfield 31, 3) := by decide +kernel
theorem dX6_readWord_62 : decode cX6_readWord 62 = .ok (.iload_n 1, 1) := by decide +kernel
theorem dX6_readWord_63 : decode cX6_readWord 63 = .ok (.iadd, 1) := by decide +kernel
theorem dX6_readWord_64 : decode cX6_readWord 64 = .ok (.putfield 31, 3) := by decide +kernel
theorem dX6_readWord_67 : decode cX6_readWord 67 = .ok (.iconst (-1), 1) := by decide +kernel
theorem dX6_readWord_68 : decode cX6_readWord 68 = .ok (.ireturn, 1) := by decide +kernel
theorem dX6_lettersOf_0 : decode cX6_lettersOf 0 = .ok (.iload_n 0, 1) := by decide +kernel
theorem dX6_lettersOf_1 : decode cX6_lettersOf 1 = .ok (.tableswitch 64 0 6 #[43, 46, 49, 52, 55, 58, 61], 43) := by decide +kernel
theorem dX6_lettersOf_44 : decode cX6_lettersOf 44 = .ok (.ldc 78, 2) := by decide +kernel
theorem dX6_lettersOf_46 : decode cX6_lettersOf 46 = .ok (.areturn, 1) := by decide +kernel
theorem dX6_lettersOf_47 : decode cX6_lettersOf 47 = .ok (.ldc 80, 2) := by decide +kernel
theorem dX6_lettersOf_49 : decode cX6_lettersOf 49 = .ok (.areturn, 1) := by decide +kernel
theorem dX6_lettersOf_50 : decode cX6_lettersOf 50 = .ok (.ldc 82, 2) := by decide +kernel
theorem dX6_lettersOf_52 : decode cX6_lettersOf 52 = .ok (.areturn, 1) := by decide +kernel
theorem dX6_lettersOf_53 : decode cX6_lettersOf 53 = .ok (.ldc 84, 2) := by decide +kernel
theorem dX6_lettersOf_55 : decode cX6_lettersOf 55 = .ok (.areturn, 1) := by decide +kernel
theorem dX6_lettersOf_56 : decode cX6_lettersOf 56 = .ok (.ldc 86, 2) := by decide +kernel
theorem dX6_lettersOf_58 : decode cX6_lettersOf 58 = .ok (.areturn, 1) := by decide +kernel
theorem dX6_lettersOf_59 : decode cX6_lettersOf 59 = .ok (.ldc 88, 2) := by decide +kernel
theorem dX6_lettersOf_61 : decode cX6_lettersOf 61 = .ok (.areturn, 1) := by decide +kernel
theorem dX6_lettersOf_62 : decode cX6_lettersOf 62 = .ok (.ldc 90, 2) := by decide +kernel
theorem dX6_lettersOf_64 : decode cX6_lettersOf 64 = .ok (.areturn, 1) := by decide +kernel
theorem dX6_lettersOf_65 : decode cX6_lettersOf 65 = .ok (.ldc 92, 2) := by decide +kernel
theorem dX6_lettersOf_67 : decode cX6_lettersOf 67 = .ok (.areturn, 1) := by decide +kernel
theorem dX6_lettersAlike_0 : decode cX6_lettersAlike 0 = .ok (.iconst 0, 1) := by decide +kernel
theorem dX6_lettersAlike_1 : decode cX6_lettersAlike 1 = .ok (.istore_n 2, 1) := by decide +kernel
theorem dX6_lettersAlike_2 : decode cX6_lettersAlike 2 = .ok (.iload_n 2, 1) := by decide +kernel
theorem dX6_lettersAlike_3 : decode cX6_lettersAlike 3 = .ok (.aload_n 1, 1) := by decide +kernel
theorem dX6_lettersAlike_4 : decode cX6_lettersAlike 4 = .ok (.invokevirtual 68, 3) := by decide +kernel
theorem dX6_lettersAlike_7 : decode cX6_lettersAlike 7 = .ok (.if_icmp .ge 41, 3) := by decide +kernel
theorem dX6_lettersAlike_10 : decode cX6_lettersAlike 10 = .ok (.aload_n 0, 1) := by decide +kernel
theorem dX6_lettersAlike_11 : decode cX6_lettersAlike 11 = .ok (.getfield 31, 3) := by decide +kernel
theorem dX6_lettersAlike_14 : decode cX6_lettersAlike 14 = .ok (.iload_n 2, 1) := by decide +kernel
theorem dX6_lettersAlike_15 : decode cX6_lettersAlike 15 = .ok (.iadd, 1) := by decide +kernel
theorem dX6_lettersAlike_16 : decode cX6_lettersAlike 16 = .ok (.aload_n 0, 1) := by decide +kernel
theorem dX6_lettersAlike_17 : decode cX6_lettersAlike 17 = .ok (.getfield 15, 3) := by decide +kernel
theorem dX6_lettersAlike_20 : decode cX6_lettersAlike 20 = .ok (.if_icmp .ge 28, 3) := by decide +kernel
theorem dX6_lettersAlike_23 : decode cX6_lettersAlike 23 = .ok (.aload_n 0, 1) := by decide +kernel
theorem dX6_lettersAlike_24 : decode cX6_lettersAlike 24 = .ok (.getfield 9, 3) := by decide +kernel
theorem dX6_lettersAlike_27 : decode cX6_lettersAlike 27 = .ok (.aload_n 0, 1) := by decide +kernel
theorem dX6_lettersAlike_28 : decode cX6_lettersAlike 28 = .ok (.getfield 31, 3) := by decide +kernel
theorem dX6_lettersAlike_31 : decode cX6_lettersAlike 31 = .ok (.iload_n 2, 1) := by decide +kernel
theorem dX6_lettersAlike_32 : decode cX6_lettersAlike 32 = .ok (.iadd, 1) := by decide +kernel
theorem dX6_lettersAlike_33 : decode cX6_lettersAlike 33 = .ok (.caload, 1) := by decide +kernel
theorem dX6_lettersAlike_34 : decode cX6_lettersAlike 34 = .ok (.aload_n 1, 1) := by decide +kernel
theorem dX6_lettersAlike_35 : decode cX6_lettersAlike 35 = .ok (.iload_n 2, 1) := by decide +kernel
theorem dX6_lettersAlike_36 : decode cX6_lettersAlike 36 = .ok (.invokevirtual 94, 3) := by decide +kernel
theorem dX6_lettersAlike_39 : decode cX6_lettersAlike 39 = .ok (.if_icmp .ne 9, 3) := by decide +kernel
theorem dX6_lettersAlike_42 : decode cX6_lettersAlike 42 = .ok (.iinc 2 1, 3) := by decide +kernel
theorem dX6_lettersAlike_45 : decode cX6_lettersAlike 45 = .ok (.goto (-43), 3) := by decide +kernel
theorem dX6_lettersAlike_48 : decode cX6_lettersAlike 48 = .ok (.iload_n 2, 1) := by decide +kernel
theorem dX6_lettersAlike_49 : decode cX6_lettersAlike 49 = .ok (.ireturn, 1) := by decide +kernel
theorem dX6_readFirst_0 : decode cX6_readFirst 0 = .ok (.aload_n 0, 1) := by decide +kernel
theorem dX6_readFirst_1 : decode cX6_readFirst 1 = .ok (.iload_n 1, 1) := by decide +kernel
theorem dX6_readFirst_2 : decode cX6_readFirst 2 = .ok (.iload_n 2, 1) := by decide +kernel
theorem dX6_readFirst_3 : decode cX6_readFirst 3 = .ok (.invokevirtual 98, 3) := by decide +kernel
theorem dX6_readFirst_6 : decode cX6_readFirst 6 = .ok (.istore_n 3, 1) := by decide +kernel
theorem dX6_readFirst_7 : decode cX6_readFirst 7 = .ok (.aload_n 0, 1) := by decide +kernel
theorem dX6_readFirst_8 : decode cX6_readFirst 8 = .ok (.aload_n 0, 1) := by decide +kernel
theorem dX6_readFirst_9 : decode cX6_readFirst 9 = .ok (.getfield 34, 3) := by decide +kernel
theorem dX6_readFirst_12 : decode cX6_readFirst 12 = .ok (.putfield 25, 3) := by decide +kernel
theorem dX6_readFirst_15 : decode cX6_readFirst 15 = .ok (.iload_n 3, 1) := by decide +kernel
theorem dX6_readFirst_16 : decode cX6_readFirst 16 = .ok (.ireturn, 1) := by decide +kernel
theorem dX6_readSecond_0 : decode cX6_readSecond 0 = .ok (.aload_n 0, 1) := by decide +kernel
theorem dX6_readSecond_1 : decode cX6_readSecond 1 = .ok (.iload_n 1, 1) := by decide +kernel
theorem dX6_readSecond_2 : decode cX6_readSecond 2 = .ok (.iconst 0, 1) := by decide +kernel
theorem dX6_readSecond_3 : decode cX6_readSecond 3 = .ok (.invokevirtual 98, 3) := by decide +kernel
theorem dX6_readSecond_6 : decode cX6_readSecond 6 = .ok (.istore_n 2, 1) := by decide +kernel
theorem dX6_readSecond_7 : decode cX6_readSecond 7 = .ok (.aload_n 0, 1) := by decide +kernel
theorem dX6_readSecond_8 : decode cX6_readSecond 8 = .ok (.aload_n 0, 1) := by decide +kernel
theorem dX6_readSecond_9 : decode cX6_readSecond 9 = .ok (.getfield 34, 3) := by decide +kernel
theorem dX6_readSecond_12 : decode cX6_readSecond 12 = .ok (.putfield 28, 3) := by decide +kernel
theorem dX6_readSecond_15 : decode cX6_readSecond 15 = .ok (.iload_n 2, 1) := by decide +kernel
theorem dX6_readSecond_16 : decode cX6_readSecond 16 = .ok (.ireturn, 1) := by decide +kernel
theorem dX6_readNumber_0 : decode cX6_readNumber 0 = .ok (.aload_n 0, 1) := by decide +kernel
theorem dX6_readNumber_1 : decode cX6_readNumber 1 = .ok (.iconst 0, 1) := by decide +kernel
theorem dX6_readNumber_2 : decode cX6_readNumber 2 = .ok (.putfield 34, 3) := by decide +kernel
theorem dX6_readNumber_5 : decode cX6_readNumber 5 = .ok (.aload_n 0, 1) := by decide +kernel
theorem dX6_readNumber_6 : decode cX6_readNumber 6 = .ok (.bipush 32, 2) := by decide +kernel
theorem dX6_readNumber_8 : decode cX6_readNumber 8 = .ok (.invokevirtual 44, 3) := by decide +kernel
theorem dX6_readNumber_11 : decode cX6_readNumber 11 = .ok (.ifCond .ne 5, 3) := by decide +kernel
theorem dX6_readNumber_14 : decode cX6_readNumber 14 = .ok (.iconst 0, 1) := by decide +kernel
theorem dX6_readNumber_15 : decode cX6_readNumber 15 = .ok (.ireturn, 1) := by decide +kernel
theorem dX6_readNumber_16 : decode cX6_readNumber 16 = .ok (.iload_n 2, 1) := by decide +kernel
theorem dX6_readNumber_17 : decode cX6_readNumber 17 = .ok (.ifCond .eq 16, 3) := by decide +kernel
theorem dX6_readNumber_20 : decode cX6_readNumber 20 = .ok (.aload_n 0, 1) := by decide +kernel
theorem dX6_readNumber_21 : decode cX6_readNumber 21 = .ok (.bipush 45, 2) := by decide +kernel
theorem dX6_readNumber_23 : decode cX6_readNumber 23 = .ok (.invokevirtual 44, 3) := by decide +kernel
theorem dX6_readNumber_26 : decode cX6_readNumber 26 = .ok (.ifCond .eq 7, 3) := by decide +kernel
theorem dX6_readNumber_29 : decode cX6_readNumber 29 = .ok (.iconst 1, 1) := by decide +kernel
theorem dX6_readNumber_30 : decode cX6_readNumber 30 = .ok (.goto 4, 3) := by decide +kernel
theorem dX6_readNumber_33 : decode cX6_readNumber 33 = .ok (.iconst 0, 1) := by decide +kernel
theorem dX6_readNumber_34 : decode cX6_readNumber 34 = .ok (.istore_n 3, 1) := by decide +kernel
theorem dX6_readNumber_35 : decode cX6_readNumber 35 = .ok (.iconst 0, 1) := by decide +kernel
theorem dX6_readNumber_36 : decode cX6_readNumber 36 = .ok (.istore 4, 2) := by decide +kernel
theorem dX6_readNumber_38 : decode cX6_readNumber 38 = .ok (.iload 4, 2) := by decide +kernel
theorem dX6_readNumber_40 : decode cX6_readNumber 40 = .ok (.iload_n 1, 1) := by decide +kernel
theorem dX6_readNumber_41 : decode cX6_readNumber 41 = .ok (.if_icmp .ge 48, 3) := by decide +kernel
theorem dX6_readNumber_44 : decode cX6_readNumber 44 = .ok (.aload_n 0, 1) := by decide +kernel
theorem dX6_readNumber_45 : decode cX6_readNumber 45 = .ok (.invokevirtual 101, 3) := by decide +kernel
theorem dX6_readNumber_48 : decode cX6_readNumber 48 = .ok (.invokestatic 105, 3) := by decide +kernel
theorem dX6_readNumber_51 : decode cX6_readNumber 51 = .ok (.ifCond .eq 38, 3) := by decide +kernel
theorem dX6_readNumber_54 : decode cX6_readNumber 54 = .ok (.aload_n 0, 1) := by decide +kernel
theorem dX6_readNumber_55 : decode cX6_readNumber 55 = .ok (.bipush 10, 2) := by decide +kernel
theorem dX6_readNumber_57 : decode cX6_readNumber 57 = .ok (.aload_n 0, 1) := by decide +kernel
theorem dX6_readNumber_58 : decode cX6_readNumber 58 = .ok (.getfield 34, 3) := by decide +kernel
theorem dX6_readNumber_61 : decode cX6_readNumber 61 = .ok (.imul, 1) := by decide +kernel
theorem dX6_readNumber_62 : decode cX6_readNumber 62 = .ok (.aload_n 0, 1) := by decide +kernel
theorem dX6_readNumber_63 : decode cX6_readNumber 63 = .ok (.invokevirtual 101, 3) := by decide +kernel
theorem dX6_readNumber_66 : decode cX6_readNumber 66 = .ok (.bipush 48, 2) := by decide +kernel
theorem dX6_readNumber_68 : decode cX6_readNumber 68 = .ok (.isub, 1) := by decide +kernel
theorem dX6_readNumber_69 : decode cX6_readNumber 69 = .ok (.iadd, 1) := by decide +kernel
theorem dX6_readNumber_70 : decode cX6_readNumber 70 = .ok (.putfield 34, 3) := by decide +kernel
theorem dX6_readNumber_73 : decode cX6_readNumber 73 = .ok (.aload_n 0, 1) := by decide +kernel
theorem dX6_readNumber_74 : decode cX6_readNumber 74 = .ok (.dup, 1) := by decide +kernel
theorem dX6_readNumber_75 : decode cX6_readNumber 75 = .ok (.getfield 31, 3) := by decide +kernel
theorem dX6_readNumber_78 : decode cX6_readNumber 78 = .ok (.iconst 1, 1) := by decide +kernel
theorem dX6_readNumber_79 : decode cX6_readNumber 79 = .ok (.iadd, 1) := by decide +kernel
theorem dX6_readNumber_80 : decode cX6_readNumber 80 = .ok (.putfield 31, 3) := by decide +kernel
theorem dX6_readNumber_83 : decode cX6_readNumber 83 = .ok (.iinc 4 1, 3) := by decide +kernel
theorem dX6_readNumber_86 : decode cX6_readNumber 86 = .ok (.goto (-48), 3) := by decide +kernel
theorem dX6_readNumber_89 : decode cX6_readNumber 89 = .ok (.aload_n 0, 1) := by decide +kernel
theorem dX6_readNumber_90 : decode cX6_readNumber 90 = .ok (.iload_n 3, 1) := by decide +kernel
theorem dX6_readNumber_91 : decode cX6_readNumber 91 = .ok (.ifCond .eq 11, 3) := by decide +kernel
theorem dX6_readNumber_94 : decode cX6_readNumber 94 = .ok (.aload_n 0, 1) := by decide +kernel
theorem dX6_readNumber_95 : decode cX6_readNumber 95 = .ok (.getfield 34, 3) := by decide +kernel
theorem dX6_readNumber_98 : decode cX6_readNumber 98 = .ok (.ineg, 1) := by decide +kernel
theorem dX6_readNumber_99 : decode cX6_readNumber 99 = .ok (.goto 7, 3) := by decide +kernel
theorem dX6_readNumber_102 : decode cX6_readNumber 102 = .ok (.aload_n 0, 1) := by decide +kernel
theorem dX6_readNumber_103 : decode cX6_readNumber 103 = .ok (.getfield 34, 3) := by decide +kernel
theorem dX6_readNumber_106 : decode cX6_readNumber 106 = .ok (.putfield 34, 3) := by decide +kernel
theorem dX6_readNumber_109 : decode cX6_readNumber 109 = .ok (.iload 4, 2) := by decide +kernel
theorem dX6_readNumber_111 : decode cX6_readNumber 111 = .ok (.ifCond .le 7, 3) := by decide +kernel
theorem dX6_readNumber_114 : decode cX6_readNumber 114 = .ok (.iconst 1, 1) := by decide +kernel
theorem dX6_readNumber_115 : decode cX6_readNumber 115 = .ok (.goto 4, 3) := by decide +kernel
theorem dX6_readNumber_118 : decode cX6_readNumber 118 = .ok (.iconst 0, 1) := by decide +kernel
theorem dX6_readNumber_119 : decode cX6_readNumber 119 = .ok (.ireturn, 1) := by decide +kernel
theorem dX6_take_0 : decode cX6_take 0 = .ok (.aload_n 0, 1) := by decide +kernel
theorem dX6_take_1 : decode cX6_take 1 = .ok (.invokevirtual 101, 3) := by decide +kernel
theorem dX6_take_4 : decode cX6_take 4 = .ok (.iload_n 1, 1) := by decide +kernel
theorem dX6_take_5 : decode cX6_take 5 = .ok (.if_icmp .ne 7, 3) := by decide +kernel
theorem dX6_take_8 : decode cX6_take 8 = .ok (.iconst 1, 1) := by decide +kernel
theorem dX6_take_9 : decode cX6_take 9 = .ok (.goto 4, 3) := by decide +kernel
theorem dX6_take_12 : decode cX6_take 12 = .ok (.iconst 0, 1) := by decide +kernel
theorem dX6_take_13 : decode cX6_take 13 = .ok (.istore_n 2, 1) := by decide +kernel
theorem dX6_take_14 : decode cX6_take 14 = .ok (.aload_n 0, 1) := by decide +kernel
theorem dX6_take_15 : decode cX6_take 15 = .ok (.dup, 1) := by decide +kernel
theorem dX6_take_16 : decode cX6_take 16 = .ok (.getfield 31, 3) := by decide +kernel
theorem dX6_take_19 : decode cX6_take 19 = .ok (.iload_n 2, 1) := by decide +kernel
theorem dX6_take_20 : decode cX6_take 20 = .ok (.ifCond .eq 7, 3) := by decide +kernel
theorem dX6_take_23 : decode cX6_take 23 = .ok (.iconst 1, 1) := by decide +kernel
theorem dX6_take_24 : decode cX6_take 24 = .ok (.goto 4, 3) := by decide +kernel
theorem dX6_take_27 : decode cX6_take 27 = .ok (.iconst 0, 1) := by decide +kernel
theorem dX6_take_28 : decode cX6_take 28 = .ok (.iadd, 1) := by decide +kernel
theorem dX6_take_29 : decode cX6_take 29 = .ok (.putfield 31, 3) := by decide +kernel
theorem dX6_take_32 : decode cX6_take 32 = .ok (.iload_n 2, 1) := by decide +kernel
theorem dX6_take_33 : decode cX6_take 33 = .ok (.ireturn, 1) := by decide +kernel
theorem dX6_peek_0 : decode cX6_peek 0 = .ok (.aload_n 0, 1) := by decide +kernel
theorem dX6_peek_1 : decode cX6_peek 1 = .ok (.getfield 31, 3) := by decide +kernel
theorem dX6_peek_4 : decode cX6_peek 4 = .ok (.aload_n 0, 1) := by decide +kernel
theorem dX6_peek_5 : decode cX6_peek 5 = .ok (.getfield 15, 3) := by decide +kernel
theorem dX6_peek_8 : decode cX6_peek 8 = .ok (.if_icmp .ge 15, 3) := by decide +kernel
theorem dX6_peek_11 : decode cX6_peek 11 = .ok (.aload_n 0, 1) := by decide +kernel
theorem dX6_peek_12 : decode cX6_peek 12 = .ok (.getfield 9, 3) := by decide +kernel
theorem dX6_peek_15 : decode cX6_peek 15 = .ok (.aload_n 0, 1) := by decide +kernel
theorem dX6_peek_16 : decode cX6_peek 16 = .ok (.getfield 31, 3) := by decide +kernel
theorem dX6_peek_19 : decode cX6_peek 19 = .ok (.caload, 1) := by decide +kernel
theorem dX6_peek_20 : decode cX6_peek 20 = .ok (.goto 4, 3) := by decide +kernel
theorem dX6_peek_23 : decode cX6_peek 23 = .ok (.iconst 0, 1) := by decide +kernel
theorem dX6_peek_24 : decode cX6_peek 24 = .ok (.ireturn, 1) := by decide +kernel
theorem dX6_isDigit_0 : decode cX6_isDigit 0 = .ok (.iload_n 0, 1) := by decide +kernel
theorem dX6_isDigit_1 : decode cX6_isDigit 1 = .ok (.bipush 48, 2) := by decide +kernel
theorem dX6_isDigit_3 : decode cX6_isDigit 3 = .ok (.if_icmp .lt 13, 3) := by decide +kernel
theorem dX6_isDigit_6 : decode cX6_isDigit 6 = .ok (.iload_n 0, 1) := by decide +kernel
theorem dX6_isDigit_7 : decode cX6_isDigit 7 = .ok (.bipush 57, 2) := by decide +kernel
theorem dX6_isDigit_9 : decode cX6_isDigit 9 = .ok (.if_icmp .gt 7, 3) := by decide +kernel
theorem dX6_isDigit_12 : decode cX6_isDigit 12 = .ok (.iconst 1, 1) := by decide +kernel
theorem dX6_isDigit_13 : decode cX6_isDigit 13 = .ok (.goto 4, 3) := by decide +kernel
theorem dX6_isDigit_16 : decode cX6_isDigit 16 = .ok (.iconst 0, 1) := by decide +kernel
theorem dX6_isDigit_17 : decode cX6_isDigit 17 = .ok (.ireturn, 1) := by decide +kernel
theorem dX7_init_0 : decode cX7_init 0 = .ok (.aload_n 0, 1) := by decide +kernel
theorem dX7_init_1 : decode cX7_init 1 = .ok (.invokespecial 1, 3) := by decide +kernel
theorem dX7_init_4 : decode cX7_init 4 = .ok (.aload_n 0, 1) := by decide +kernel
theorem dX7_init_5 : decode cX7_init 5 = .ok (.new 7, 3) := by decide +kernel
theorem dX7_init_8 : decode cX7_init 8 = .ok (.dup, 1) := by decide +kernel
theorem dX7_init_9 : decode cX7_init 9 = .ok (.invokespecial 9, 3) := by decide +kernel
theorem dX7_init_12 : decode cX7_init 12 = .ok (.putfield 10, 3) := by decide +kernel
theorem dX7_init_15 : decode cX7_init 15 = .ok (.aload_n 0, 1) := by decide +kernel
theorem dX7_init_16 : decode cX7_init 16 = .ok (.new 7, 3) := by decide +kernel
theorem dX7_init_19 : decode cX7_init 19 = .ok (.dup, 1) := by decide +kernel
theorem dX7_init_20 : decode cX7_init 20 = .ok (.invokespecial 9, 3) := by decide +kernel
theorem dX7_init_23 : decode cX7_init 23 = .ok (.putfield 16, 3) := by decide +kernel
theorem dX7_init_26 : decode cX7_init 26 = .ok (.aload_n 0, 1) := by decide +kernel
theorem dX7_init_27 : decode cX7_init 27 = .ok (.new 19, 3) := by decide +kernel
theorem dX7_init_30 : decode cX7_init 30 = .ok (.dup, 1) := by decide +kernel
theorem dX7_init_31 : decode cX7_init 31 = .ok (.invokespecial 21, 3) := by decide +kernel
theorem dX7_init_34 : decode cX7_init 34 = .ok (.putfield 22, 3) := by decide +kernel
theorem dX7_init_37 : decode cX7_init 37 = .ok (.aload_n 0, 1) := by decide +kernel
theorem dX7_init_38 : decode cX7_init 38 = .ok (.new 26, 3) := by decide +kernel
theorem dX7_init_41 : decode cX7_init 41 = .ok (.dup, 1) := by decide +kernel
theorem dX7_init_42 : decode cX7_init 42 = .ok (.invokespecial 28, 3) := by decide +kernel
theorem dX7_init_45 : decode cX7_init 45 = .ok (.putfield 29, 3) := by decide +kernel
theorem dX7_init_48 : decode cX7_init 48 = .ok (.aload_n 0, 1) := by decide +kernel
theorem dX7_init_49 : decode cX7_init 49 = .ok (.new 33, 3) := by decide +kernel
theorem dX7_init_52 : decode cX7_init 52 = .ok (.dup, 1) := by decide +kernel
theorem dX7_init_53 : decode cX7_init 53 = .ok (.invokespecial 35, 3) := by decide +kernel
theorem dX7_init_56 : decode cX7_init 56 = .ok (.putfield 36, 3) := by decide +kernel
theorem dX7_init_59 : decode cX7_init 59 = .ok (.aload_n 0, 1) := by decide +kernel
theorem dX7_init_60 : decode cX7_init 60 = .ok (.new 40, 3) := by decide +kernel
theorem dX7_init_63 : decode cX7_init 63 = .ok (.dup, 1) := by decide +kernel
theorem dX7_init_64 : decode cX7_init 64 = .ok (.invokespecial 42, 3) := by decide +kernel
theorem dX7_init_67 : decode cX7_init 67 = .ok (.putfield 43, 3) := by decide +kernel
theorem dX7_init_70 : decode cX7_init 70 = .ok (.aload_n 0, 1) := by decide +kernel
theorem dX7_init_71 : decode cX7_init 71 = .ok (.new 47, 3) := by decide +kernel
theorem dX7_init_74 : decode cX7_init 74 = .ok (.dup, 1) := by decide +kernel
theorem dX7_init_75 : decode cX7_init 75 = .ok (.invokespecial 49, 3) := by decide +kernel
theorem dX7_init_78 : decode cX7_init 78 = .ok (.putfield 50, 3) := by decide +kernel
theorem dX7_init_81 : decode cX7_init 81 = .ok (.aload_n 0, 1) := by decide +kernel
theorem dX7_init_82 : decode cX7_init 82 = .ok (.iconst 0, 1) := by decide +kernel
theorem dX7_init_83 : decode cX7_init 83 = .ok (.putfield 54, 3) := by decide +kernel
theorem dX7_init_86 : decode cX7_init 86 = .ok (.aload_n 0, 1) := by decide +kernel
theorem dX7_init_87 : decode cX7_init 87 = .ok (.iconst (-1), 1) := by decide +kernel
theorem dX7_init_88 : decode cX7_init 88 = .ok (.putfield 58, 3) := by decide +kernel
theorem dX7_init_91 : decode cX7_init 91 = .ok (.return_, 1) := by decide +kernel
theorem dX7_juror_0 : decode cX7_juror 0 = .ok (.iload_n 1, 1) := by decide +kernel
theorem dX7_juror_1 : decode cX7_juror 1 = .ok (.iload_n 2, 1) := by decide +kernel
theorem dX7_juror_2 : decode cX7_juror 2 = .ok (.invokestatic 62, 3) := by decide +kernel
theorem dX7_juror_5 : decode cX7_juror 5 = .ok (.ifCond .ne 13, 3) := by decide +kernel
theorem dX7_juror_8 : decode cX7_juror 8 = .ok (.new 66, 3) := by decide +kernel
theorem dX7_juror_11 : decode cX7_juror 11 = .ok (.dup, 1) := by decide +kernel
theorem dX7_juror_12 : decode cX7_juror 12 = .ok (.ldc 68, 2) := by decide +kernel
theorem dX7_juror_14 : decode cX7_juror 14 = .ok (.invokespecial 70, 3) := by decide +kernel
theorem dX7_juror_17 : decode cX7_juror 17 = .ok (.athrow, 1) := by decide +kernel
theorem dX7_juror_18 : decode cX7_juror 18 = .ok (.aload_n 0, 1) := by decide +kernel
theorem dX7_juror_19 : decode cX7_juror 19 = .ok (.getfield 29, 3) := by decide +kernel
theorem dX7_juror_22 : decode cX7_juror 22 = .ok (.aload_n 0, 1) := by decide +kernel
theorem dX7_juror_23 : decode cX7_juror 23 = .ok (.getfield 10, 3) := by decide +kernel
theorem dX7_juror_26 : decode cX7_juror 26 = .ok (.invokevirtual 73, 3) := by decide +kernel
theorem dX7_juror_29 : decode cX7_juror 29 = .ok (.ifCond .eq 13, 3) := by decide +kernel
theorem dX7_juror_32 : decode cX7_juror 32 = .ok (.new 77, 3) := by decide +kernel
theorem dX7_juror_35 : decode cX7_juror 35 = .ok (.dup, 1) := by decide +kernel
theorem dX7_juror_36 : decode cX7_juror 36 = .ok (.ldc 79, 2) := by decide +kernel
theorem dX7_juror_38 : decode cX7_juror 38 = .ok (.invokespecial 81, 3) := by decide +kernel
theorem dX7_juror_41 : decode cX7_juror 41 = .ok (.athrow, 1) := by decide +kernel
theorem dX7_juror_42 : decode cX7_juror 42 = .ok (.aload_n 0, 1) := by decide +kernel
theorem dX7_juror_43 : decode cX7_juror 43 = .ok (.getfield 22, 3) := by decide +kernel
theorem dX7_juror_46 : decode cX7_juror 46 = .ok (.aload_n 0, 1) := by decide +kernel
theorem dX7_juror_47 : decode cX7_juror 47 = .ok (.getfield 10, 3) := by decide +kernel
theorem dX7_juror_50 : decode cX7_juror 50 = .ok (.invokevirtual 82, 3) := by decide +kernel
theorem dX7_juror_53 : decode cX7_juror 53 = .ok (.aload_n 0, 1) := by decide +kernel
theorem dX7_juror_54 : decode cX7_juror 54 = .ok (.getfield 10, 3) := by decide +kernel
theorem dX7_juror_57 : decode cX7_juror 57 = .ok (.getfield 86, 3) := by decide +kernel
theorem dX7_juror_60 : decode cX7_juror 60 = .ok (.iload_n 1, 1) := by decide +kernel
theorem dX7_juror_61 : decode cX7_juror 61 = .ok (.iload_n 2, 1) := by decide +kernel
theorem dX7_juror_62 : decode cX7_juror 62 = .ok (.invokevirtual 89, 3) := by decide +kernel
theorem dX7_juror_65 : decode cX7_juror 65 = .ok (.ireturn, 1) := by decide +kernel
theorem dX7_bring_0 : decode cX7_bring 0 = .ok (.iload_n 1, 1) := by decide +kernel
theorem dX7_bring_1 : decode cX7_bring 1 = .ok (.iload_n 2, 1) := by decide +kernel
theorem dX7_bring_2 : decode cX7_bring 2 = .ok (.invokestatic 93, 3) := by decide +kernel
theorem dX7_bring_5 : decode cX7_bring 5 = .ok (.ifCond .ne 13, 3) := by decide +kernel
theorem dX7_bring_8 : decode cX7_bring 8 = .ok (.new 66, 3) := by decide +kernel
theorem dX7_bring_11 : decode cX7_bring 11 = .ok (.dup, 1) := by decide +kernel
theorem dX7_bring_12 : decode cX7_bring 12 = .ok (.ldc 96, 2) := by decide +kernel
theorem dX7_bring_14 : decode cX7_bring 14 = .ok (.invokespecial 70, 3) := by decide +kernel
theorem dX7_bring_17 : decode cX7_bring 17 = .ok (.athrow, 1) := by decide +kernel
theorem dX7_bring_18 : decode cX7_bring 18 = .ok (.aload_n 0, 1) := by decide +kernel
theorem dX7_bring_19 : decode cX7_bring 19 = .ok (.getfield 29, 3) := by decide +kernel
theorem dX7_bring_22 : decode cX7_bring 22 = .ok (.aload_n 0, 1) := by decide +kernel
theorem dX7_bring_23 : decode cX7_bring 23 = .ok (.getfield 10, 3) := by decide +kernel
theorem dX7_bring_26 : decode cX7_bring 26 = .ok (.invokevirtual 98, 3) := by decide +kernel
theorem dX7_bring_29 : decode cX7_bring 29 = .ok (.ifCond .eq 13, 3) := by decide +kernel
theorem dX7_bring_32 : decode cX7_bring 32 = .ok (.new 77, 3) := by decide +kernel
theorem dX7_bring_35 : decode cX7_bring 35 = .ok (.dup, 1) := by decide +kernel
theorem dX7_bring_36 : decode cX7_bring 36 = .ok (.ldc 101, 2) := by decide +kernel
theorem dX7_bring_38 : decode cX7_bring 38 = .ok (.invokespecial 81, 3) := by decide +kernel
theorem dX7_bring_41 : decode cX7_bring 41 = .ok (.athrow, 1) := by decide +kernel
theorem dX7_bring_42 : decode cX7_bring 42 = .ok (.aload_n 0, 1) := by decide +kernel
theorem dX7_bring_43 : decode cX7_bring 43 = .ok (.getfield 22, 3) := by decide +kernel
theorem dX7_bring_46 : decode cX7_bring 46 = .ok (.aload_n 0, 1) := by decide +kernel
theorem dX7_bring_47 : decode cX7_bring 47 = .ok (.getfield 10, 3) := by decide +kernel
theorem dX7_bring_50 : decode cX7_bring 50 = .ok (.invokevirtual 82, 3) := by decide +kernel
theorem dX7_bring_53 : decode cX7_bring 53 = .ok (.aload_n 0, 1) := by decide +kernel
theorem dX7_bring_54 : decode cX7_bring 54 = .ok (.getfield 10, 3) := by decide +kernel
theorem dX7_bring_57 : decode cX7_bring 57 = .ok (.getfield 103, 3) := by decide +kernel
theorem dX7_bring_60 : decode cX7_bring 60 = .ok (.iload_n 1, 1) := by decide +kernel
theorem dX7_bring_61 : decode cX7_bring 61 = .ok (.iload_n 2, 1) := by decide +kernel
theorem dX7_bring_62 : decode cX7_bring 62 = .ok (.invokevirtual 107, 3) := by decide +kernel
theorem dX7_bring_65 : decode cX7_bring 65 = .ok (.ireturn, 1) := by decide +kernel
theorem dX7_call_0 : decode cX7_call 0 = .ok (.aload_n 0, 1) := by decide +kernel
theorem dX7_call_1 : decode cX7_call 1 = .ok (.getfield 10, 3) := by decide +kernel
theorem dX7_call_4 : decode cX7_call 4 = .ok (.getfield 103, 3) := by decide +kernel
theorem dX7_call_7 : decode cX7_call 7 = .ok (.iload_n 1, 1) := by decide +kernel
theorem dX7_call_8 : decode cX7_call 8 = .ok (.invokevirtual 110, 3) := by decide +kernel
theorem dX7_call_11 : decode cX7_call 11 = .ok (.ifCond .ne 13, 3) := by decide +kernel
theorem dX7_call_14 : decode cX7_call 14 = .ok (.new 114, 3) := by decide +kernel
theorem dX7_call_17 : decode cX7_call 17 = .ok (.dup, 1) := by decide +kernel
theorem dX7_call_18 : decode cX7_call 18 = .ok (.ldc 116, 2) := by decide +kernel
theorem dX7_call_20 : decode cX7_call 20 = .ok (.invokespecial 118, 3) := by decide +kernel
theorem dX7_call_23 : decode cX7_call 23 = .ok (.athrow, 1) := by decide +kernel
theorem dX7_call_24 : decode cX7_call 24 = .ok (.aload_n 0, 1) := by decide +kernel
theorem dX7_call_25 : decode cX7_call 25 = .ok (.getfield 29, 3) := by decide +kernel
theorem dX7_call_28 : decode cX7_call 28 = .ok (.aload_n 0, 1) := by decide +kernel
theorem dX7_call_29 : decode cX7_call 29 = .ok (.getfield 10, 3) := by decide +kernel
theorem dX7_call_32 : decode cX7_call 32 = .ok (.iload_n 1, 1) := by decide +kernel
theorem dX7_call_33 : decode cX7_call 33 = .ok (.invokevirtual 119, 3) := by decide +kernel
theorem dX7_call_36 : decode cX7_call 36 = .ok (.ifCond .eq 13, 3) := by decide +kernel
theorem dX7_call_39 : decode cX7_call 39 = .ok (.new 77, 3) := by decide +kernel
theorem dX7_call_42 : decode cX7_call 42 = .ok (.dup, 1) := by decide +kernel
theorem dX7_call_43 : decode cX7_call 43 = .ok (.ldc 123, 2) := by decide +kernel
theorem dX7_call_45 : decode cX7_call 45 = .ok (.invokespecial 81, 3) := by decide +kernel
theorem dX7_call_48 : decode cX7_call 48 = .ok (.athrow, 1) := by decide +kernel
theorem dX7_call_49 : decode cX7_call 49 = .ok (.aload_n 0, 1) := by decide +kernel
theorem dX7_call_50 : decode cX7_call 50 = .ok (.getfield 22, 3) := by decide +kernel
theorem dX7_call_53 : decode cX7_call 53 = .ok (.aload_n 0, 1) := by decide +kernel
theorem dX7_call_54 : decode cX7_call 54 = .ok (.getfield 10, 3) := by decide +kernel
theorem dX7_call_57 : decode cX7_call 57 = .ok (.invokevirtual 82, 3) := by decide +kernel
theorem dX7_call_60 : decode cX7_call 60 = .ok (.aload_n 0, 1) := by decide +kernel
theorem dX7_call_61 : decode cX7_call 61 = .ok (.getfield 10, 3) := by decide +kernel
theorem dX7_call_64 : decode cX7_call 64 = .ok (.iload_n 1, 1) := by decide +kernel
theorem dX7_call_65 : decode cX7_call 65 = .ok (.invokevirtual 125, 3) := by decide +kernel
theorem dX7_call_68 : decode cX7_call 68 = .ok (.ireturn, 1) := by decide +kernel
theorem dX7_vote_0 : decode cX7_vote 0 = .ok (.aload_n 0, 1) := by decide +kernel
theorem dX7_vote_1 : decode cX7_vote 1 = .ok (.getfield 10, 3) := by decide +kernel
theorem dX7_vote_4 : decode cX7_vote 4 = .ok (.getfield 103, 3) := by decide +kernel
theorem dX7_vote_7 : decode cX7_vote 7 = .ok (.iload_n 1, 1) := by decide +kernel
theorem dX7_vote_8 : decode cX7_vote 8 = .ok (.invokevirtual 110, 3) := by decide +kernel
theorem dX7_vote_11 : decode cX7_vote 11 = .ok (.ifCond .ne 13, 3) := by decide +kernel
theorem dX7_vote_14 : decode cX7_vote 14 = .ok (.new 114, 3) := by decide +kernel
theorem dX7_vote_17 : decode cX7_vote 17 = .ok (.dup, 1) := by decide +kernel
theorem dX7_vote_18 : decode cX7_vote 18 = .ok (.ldc 116, 2) := by decide +kernel
theorem dX7_vote_20 : decode cX7_vote 20 = .ok (.invokespecial 118, 3) := by decide +kernel
theorem dX7_vote_23 : decode cX7_vote 23 = .ok (.athrow, 1) := by decide +kernel
theorem dX7_vote_24 : decode cX7_vote 24 = .ok (.aload_n 0, 1) := by decide +kernel
theorem dX7_vote_25 : decode cX7_vote 25 = .ok (.getfield 29, 3) := by decide +kernel
theorem dX7_vote_28 : decode cX7_vote 28 = .ok (.aload_n 0, 1) := by decide +kernel
theorem dX7_vote_29 : decode cX7_vote 29 = .ok (.getfield 10, 3) := by decide +kernel
theorem dX7_vote_32 : decode cX7_vote 32 = .ok (.iload_n 1, 1) := by decide +kernel
theorem dX7_vote_33 : decode cX7_vote 33 = .ok (.invokevirtual 129, 3) := by decide +kernel
theorem dX7_vote_36 : decode cX7_vote 36 = .ok (.ifCond .eq 13, 3) := by decide +kernel
theorem dX7_vote_39 : decode cX7_vote 39 = .ok (.new 77, 3) := by decide +kernel
theorem dX7_vote_42 : decode cX7_vote 42 = .ok (.dup, 1) := by decide +kernel
theorem dX7_vote_43 : decode cX7_vote 43 = .ok (.ldc 132, 2) := by decide +kernel
theorem dX7_vote_45 : decode cX7_vote 45 = .ok (.invokespecial 81, 3) := by decide +kernel
theorem dX7_vote_48 : decode cX7_vote 48 = .ok (.athrow, 1) := by decide +kernel
theorem dX7_vote_49 : decode cX7_vote 49 = .ok (.aload_n 0, 1) := by decide +kernel
theorem dX7_vote_50 : decode cX7_vote 50 = .ok (.getfield 22, 3) := by decide +kernel
theorem dX7_vote_53 : decode cX7_vote 53 = .ok (.aload_n 0, 1) := by decide +kernel
theorem dX7_vote_54 : decode cX7_vote 54 = .ok (.getfield 10, 3) := by decide +kernel
theorem dX7_vote_57 : decode cX7_vote 57 = .ok (.invokevirtual 82, 3) := by decide +kernel
theorem dX7_vote_60 : decode cX7_vote 60 = .ok (.aload_n 0, 1) := by decide +kernel
theorem dX7_vote_61 : decode cX7_vote 61 = .ok (.getfield 10, 3) := by decide +kernel
theorem dX7_vote_64 : decode cX7_vote 64 = .ok (.iload_n 1, 1) := by decide +kernel
theorem dX7_vote_65 : decode cX7_vote 65 = .ok (.invokevirtual 134, 3) := by decide +kernel
theorem dX7_vote_68 : decode cX7_vote 68 = .ok (.ireturn, 1) := by decide +kernel
theorem dX7_unsay_0 : decode cX7_unsay 0 = .ok (.aload_n 0, 1) := by decide +kernel
theorem dX7_unsay_1 : decode cX7_unsay 1 = .ok (.getfield 10, 3) := by decide +kernel
theorem dX7_unsay_4 : decode cX7_unsay 4 = .ok (.getfield 103, 3) := by decide +kernel
theorem dX7_unsay_7 : decode cX7_unsay 7 = .ok (.iload_n 1, 1) := by decide +kernel
theorem dX7_unsay_8 : decode cX7_unsay 8 = .ok (.invokevirtual 110, 3) := by decide +kernel
theorem dX7_unsay_11 : decode cX7_unsay 11 = .ok (.ifCond .ne 13, 3) := by decide +kernel
theorem dX7_unsay_14 : decode cX7_unsay 14 = .ok (.new 114, 3) := by decide +kernel
theorem dX7_unsay_17 : decode cX7_unsay 17 = .ok (.dup, 1) := by decide +kernel
theorem dX7_unsay_18 : decode cX7_unsay 18 = .ok (.ldc 116, 2) := by decide +kernel
theorem dX7_unsay_20 : decode cX7_unsay 20 = .ok (.invokespecial 118, 3) := by decide +kernel
theorem dX7_unsay_23 : decode cX7_unsay 23 = .ok (.athrow, 1) := by decide +kernel
theorem dX7_unsay_24 : decode cX7_unsay 24 = .ok (.aload_n 0, 1) := by decide +kernel
theorem dX7_unsay_25 : decode cX7_unsay 25 = .ok (.getfield 29, 3) := by decide +kernel
theorem dX7_unsay_28 : decode cX7_unsay 28 = .ok (.aload_n 0, 1) := by decide +kernel
theorem dX7_unsay_29 : decode cX7_unsay 29 = .ok (.getfield 10, 3) := by decide +kernel
theorem dX7_unsay_32 : decode cX7_unsay 32 = .ok (.iload_n 1, 1) := by decide +kernel
theorem dX7_unsay_33 : decode cX7_unsay 33 = .ok (.invokevirtual 137, 3) := by decide +kernel
theorem dX7_unsay_36 : decode cX7_unsay 36 = .ok (.ifCond .eq 13, 3) := by decide +kernel
theorem dX7_unsay_39 : decode cX7_unsay 39 = .ok (.new 77, 3) := by decide +kernel
theorem dX7_unsay_42 : decode cX7_unsay 42 = .ok (.dup, 1) := by decide +kernel
theorem dX7_unsay_43 : decode cX7_unsay 43 = .ok (.ldc 140, 2) := by decide +kernel
theorem dX7_unsay_45 : decode cX7_unsay 45 = .ok (.invokespecial 81, 3) := by decide +kernel
theorem dX7_unsay_48 : decode cX7_unsay 48 = .ok (.athrow, 1) := by decide +kernel
theorem dX7_unsay_49 : decode cX7_unsay 49 = .ok (.aload_n 0, 1) := by decide +kernel
theorem dX7_unsay_50 : decode cX7_unsay 50 = .ok (.getfield 22, 3) := by decide +kernel
theorem dX7_unsay_53 : decode cX7_unsay 53 = .ok (.aload_n 0, 1) := by decide +kernel
theorem dX7_unsay_54 : decode cX7_unsay 54 = .ok (.getfield 10, 3) := by decide +kernel
theorem dX7_unsay_57 : decode cX7_unsay 57 = .ok (.invokevirtual 82, 3) := by decide +kernel
theorem dX7_unsay_60 : decode cX7_unsay 60 = .ok (.aload_n 0, 1) := by decide +kernel
theorem dX7_unsay_61 : decode cX7_unsay 61 = .ok (.getfield 10, 3) := by decide +kernel
theorem dX7_unsay_64 : decode cX7_unsay 64 = .ok (.iload_n 1, 1) := by decide +kernel
theorem dX7_unsay_65 : decode cX7_unsay 65 = .ok (.invokevirtual 142, 3) := by decide +kernel
theorem dX7_unsay_68 : decode cX7_unsay 68 = .ok (.ireturn, 1) := by decide +kernel
theorem dX7_appeal_0 : decode cX7_appeal 0 = .ok (.aload_n 0, 1) := by decide +kernel
theorem dX7_appeal_1 : decode cX7_appeal 1 = .ok (.getfield 10, 3) := by decide +kernel
theorem dX7_appeal_4 : decode cX7_appeal 4 = .ok (.getfield 103, 3) := by decide +kernel
theorem dX7_appeal_7 : decode cX7_appeal 7 = .ok (.iload_n 1, 1) := by decide +kernel
theorem dX7_appeal_8 : decode cX7_appeal 8 = .ok (.invokevirtual 110, 3) := by decide +kernel
theorem dX7_appeal_11 : decode cX7_appeal 11 = .ok (.ifCond .ne 13, 3) := by decide +kernel
theorem dX7_appeal_14 : decode cX7_appeal 14 = .ok (.new 114, 3) := by decide +kernel
theorem dX7_appeal_17 : decode cX7_appeal 17 = .ok (.dup, 1) := by decide +kernel
theorem dX7_appeal_18 : decode cX7_appeal 18 = .ok (.ldc 116, 2) := by decide +kernel
theorem dX7_appeal_20 : decode cX7_appeal 20 = .ok (.invokespecial 118, 3) := by decide +kernel
theorem dX7_appeal_23 : decode cX7_appeal 23 = .ok (.athrow, 1) := by decide +kernel
theorem dX7_appeal_24 : decode cX7_appeal 24 = .ok (.aload_n 0, 1) := by decide +kernel
theorem dX7_appeal_25 : decode cX7_appeal 25 = .ok (.getfield 29, 3) := by decide +kernel
theorem dX7_appeal_28 : decode cX7_appeal 28 = .ok (.aload_n 0, 1) := by decide +kernel
theorem dX7_appeal_29 : decode cX7_appeal 29 = .ok (.getfield 10, 3) := by decide +kernel
theorem dX7_appeal_32 : decode cX7_appeal 32 = .ok (.iload_n 1, 1) := by decide +kernel
theorem dX7_appeal_33 : decode cX7_appeal 33 = .ok (.invokevirtual 145, 3) := by decide +kernel
theorem dX7_appeal_36 : decode cX7_appeal 36 = .ok (.ifCond .eq 13, 3) := by decide +kernel
theorem dX7_appeal_39 : decode cX7_appeal 39 = .ok (.new 77, 3) := by decide +kernel
theorem dX7_appeal_42 : decode cX7_appeal 42 = .ok (.dup, 1) := by decide +kernel
theorem dX7_appeal_43 : decode cX7_appeal 43 = .ok (.ldc 148, 2) := by decide +kernel
theorem dX7_appeal_45 : decode cX7_appeal 45 = .ok (.invokespecial 81, 3) := by decide +kernel
theorem dX7_appeal_48 : decode cX7_appeal 48 = .ok (.athrow, 1) := by decide +kernel
theorem dX7_appeal_49 : decode cX7_appeal 49 = .ok (.aload_n 0, 1) := by decide +kernel
theorem dX7_appeal_50 : decode cX7_appeal 50 = .ok (.getfield 22, 3) := by decide +kernel
theorem dX7_appeal_53 : decode cX7_appeal 53 = .ok (.aload_n 0, 1) := by decide +kernel
theorem dX7_appeal_54 : decode cX7_appeal 54 = .ok (.getfield 10, 3) := by decide +kernel
theorem dX7_appeal_57 : decode cX7_appeal 57 = .ok (.invokevirtual 82, 3) := by decide +kernel
theorem dX7_appeal_60 : decode cX7_appeal 60 = .ok (.aload_n 0, 1) := by decide +kernel
theorem dX7_appeal_61 : decode cX7_appeal 61 = .ok (.getfield 10, 3) := by decide +kernel
theorem dX7_appeal_64 : decode cX7_appeal 64 = .ok (.iload_n 1, 1) := by decide +kernel
theorem dX7_appeal_65 : decode cX7_appeal 65 = .ok (.invokevirtual 150, 3) := by decide +kernel
theorem dX7_appeal_68 : decode cX7_appeal 68 = .ok (.ireturn, 1) := by decide +kernel
theorem dX7_clerk_0 : decode cX7_clerk 0 = .ok (.aload_n 0, 1) := by decide +kernel
theorem dX7_clerk_1 : decode cX7_clerk 1 = .ok (.getfield 29, 3) := by decide +kernel
theorem dX7_clerk_4 : decode cX7_clerk 4 = .ok (.aload_n 0, 1) := by decide +kernel
theorem dX7_clerk_5 : decode cX7_clerk 5 = .ok (.getfield 10, 3) := by decide +kernel
theorem dX7_clerk_8 : decode cX7_clerk 8 = .ok (.invokevirtual 153, 3) := by decide +kernel
theorem dX7_clerk_11 : decode cX7_clerk 11 = .ok (.ifCond .eq 13, 3) := by decide +kernel
theorem dX7_clerk_14 : decode cX7_clerk 14 = .ok (.new 77, 3) := by decide +kernel
theorem dX7_clerk_17 : decode cX7_clerk 17 = .ok (.dup, 1) := by decide +kernel
theorem dX7_clerk_18 : decode cX7_clerk 18 = .ok (.ldc 156, 2) := by decide +kernel
theorem dX7_clerk_20 : decode cX7_clerk 20 = .ok (.invokespecial 81, 3) := by decide +kernel
theorem dX7_clerk_23 : decode cX7_clerk 23 = .ok (.athrow, 1) := by decide +kernel
theorem dX7_clerk_24 : decode cX7_clerk 24 = .ok (.aload_n 0, 1) := by decide +kernel
theorem dX7_clerk_25 : decode cX7_clerk 25 = .ok (.getfield 22, 3) := by decide +kernel
theorem dX7_clerk_28 : decode cX7_clerk 28 = .ok (.aload_n 0, 1) := by decide +kernel
theorem dX7_clerk_29 : decode cX7_clerk 29 = .ok (.getfield 10, 3) := by decide +kernel
theorem dX7_clerk_32 : decode cX7_clerk 32 = .ok (.invokevirtual 82, 3) := by decide +kernel
theorem dX7_clerk_35 : decode cX7_clerk 35 = .ok (.aload_n 0, 1) := by decide +kernel
theorem dX7_clerk_36 : decode cX7_clerk 36 = .ok (.getfield 10, 3) := by decide +kernel
theorem dX7_clerk_39 : decode cX7_clerk 39 = .ok (.invokevirtual 158, 3) := by decide +kernel
theorem dX7_clerk_42 : decode cX7_clerk 42 = .ok (.ireturn, 1) := by decide +kernel
theorem dX7_night_0 : decode cX7_night 0 = .ok (.aload_n 0, 1) := by decide +kernel
theorem dX7_night_1 : decode cX7_night 1 = .ok (.getfield 29, 3) := by decide +kernel
theorem dX7_night_4 : decode cX7_night 4 = .ok (.aload_n 0, 1) := by decide +kernel
theorem dX7_night_5 : decode cX7_night 5 = .ok (.getfield 10, 3) := by decide +kernel
theorem dX7_night_8 : decode cX7_night 8 = .ok (.invokevirtual 162, 3) := by decide +kernel
theorem dX7_night_11 : decode cX7_night 11 = .ok (.ifCond .eq 13, 3) := by decide +kernel
theorem dX7_night_14 : decode cX7_night 14 = .ok (.new 77, 3) := by decide +kernel
theorem dX7_night_17 : decode cX7_night 17 = .ok (.dup, 1) := by decide +kernel
theorem dX7_night_18 : decode cX7_night 18 = .ok (.ldc 165, 2) := by decide +kernel
theorem dX7_night_20 : decode cX7_night 20 = .ok (.invokespecial 81, 3) := by decide +kernel
theorem dX7_night_23 : decode cX7_night 23 = .ok (.athrow, 1) := by decide +kernel
theorem dX7_night_24 : decode cX7_night 24 = .ok (.aload_n 0, 1) := by decide +kernel
theorem dX7_night_25 : decode cX7_night 25 = .ok (.getfield 22, 3) := by decide +kernel
theorem dX7_night_28 : decode cX7_night 28 = .ok (.aload_n 0, 1) := by decide +kernel
theorem dX7_night_29 : decode cX7_night 29 = .ok (.getfield 10, 3) := by decide +kernel
theorem dX7_night_32 : decode cX7_night 32 = .ok (.invokevirtual 82, 3) := by decide +kernel
theorem dX7_night_35 : decode cX7_night 35 = .ok (.aload_n 0, 1) := by decide +kernel
theorem dX7_night_36 : decode cX7_night 36 = .ok (.getfield 10, 3) := by decide +kernel
theorem dX7_night_39 : decode cX7_night 39 = .ok (.invokevirtual 167, 3) := by decide +kernel
theorem dX7_night_42 : decode cX7_night 42 = .ok (.ireturn, 1) := by decide +kernel
theorem dX7_jurorOf_0 : decode cX7_jurorOf 0 = .ok (.aload_n 0, 1) := by decide +kernel
theorem dX7_jurorOf_1 : decode cX7_jurorOf 1 = .ok (.getfield 10, 3) := by decide +kernel
theorem dX7_jurorOf_4 : decode cX7_jurorOf 4 = .ok (.getfield 86, 3) := by decide +kernel
theorem dX7_jurorOf_7 : decode cX7_jurorOf 7 = .ok (.iload_n 1, 1) := by decide +kernel
theorem dX7_jurorOf_8 : decode cX7_jurorOf 8 = .ok (.invokevirtual 170, 3) := by decide +kernel
theorem dX7_jurorOf_11 : decode cX7_jurorOf 11 = .ok (.ifCond .ne 13, 3) := by decide +kernel
theorem dX7_jurorOf_14 : decode cX7_jurorOf 14 = .ok (.new 114, 3) := by decide +kernel
theorem dX7_jurorOf_17 : decode cX7_jurorOf 17 = .ok (.dup, 1) := by decide +kernel
theorem dX7_jurorOf_18 : decode cX7_jurorOf 18 = .ok (.ldc 171, 2) := by decide +kernel
theorem dX7_jurorOf_20 : decode cX7_jurorOf 20 = .ok (.invokespecial 118, 3) := by decide +kernel
theorem dX7_jurorOf_23 : decode cX7_jurorOf 23 = .ok (.athrow, 1) := by decide +kernel
theorem dX7_jurorOf_24 : decode cX7_jurorOf 24 = .ok (.iload_n 2, 1) := by decide +kernel
theorem dX7_jurorOf_25 : decode cX7_jurorOf 25 = .ok (.tableswitch 96 0 4 #[35, 48, 61, 70, 83], 35) := by decide +kernel
theorem dX7_jurorOf_60 : decode cX7_jurorOf 60 = .ok (.aload_n 0, 1) := by decide +kernel
theorem dX7_jurorOf_61 : decode cX7_jurorOf 61 = .ok (.getfield 10, 3) := by decide +kernel
theorem dX7_jurorOf_64 : decode cX7_jurorOf 64 = .ok (.getfield 86, 3) := by decide +kernel
theorem dX7_jurorOf_67 : decode cX7_jurorOf 67 = .ok (.getfield 173, 3) := by decide +kernel
theorem dX7_jurorOf_70 : decode cX7_jurorOf 70 = .ok (.iload_n 1, 1) := by decide +kernel
theorem dX7_jurorOf_71 : decode cX7_jurorOf 71 = .ok (.iaload, 1) := by decide +kernel
theorem dX7_jurorOf_72 : decode cX7_jurorOf 72 = .ok (.ireturn, 1) := by decide +kernel
theorem dX7_jurorOf_73 : decode cX7_jurorOf 73 = .ok (.aload_n 0, 1) := by decide +kernel
theorem dX7_jurorOf_74 : decode cX7_jurorOf 74 = .ok (.getfield 10, 3) := by decide +kernel
theorem dX7_jurorOf_77 : decode cX7_jurorOf 77 = .ok (.getfield 86, 3) := by decide +kernel
theorem dX7_jurorOf_80 : decode cX7_jurorOf 80 = .ok (.getfield 177, 3) := by decide +kernel
theorem dX7_jurorOf_83 : decode cX7_jurorOf 83 = .ok (.iload_n 1, 1) := by decide +kernel
theorem dX7_jurorOf_84 : decode cX7_jurorOf 84 = .ok (.iaload, 1) := by decide +kernel
theorem dX7_jurorOf_85 : decode cX7_jurorOf 85 = .ok (.ireturn, 1) := by decide +kernel
theorem dX7_jurorOf_86 : decode cX7_jurorOf 86 = .ok (.aload_n 0, 1) := by decide +kernel
theorem dX7_jurorOf_87 : decode cX7_jurorOf 87 = .ok (.getfield 10, 3) := by decide +kernel
theorem dX7_jurorOf_90 : decode cX7_jurorOf 90 = .ok (.iload_n 1, 1) := by decide +kernel
theorem dX7_jurorOf_91 : decode cX7_jurorOf 91 = .ok (.invokevirtual 180, 3) := by decide +kernel
theorem dX7_jurorOf_94 : decode cX7_jurorOf 94 = .ok (.ireturn, 1) := by decide +kernel
theorem dX7_jurorOf_95 : decode cX7_jurorOf 95 = .ok (.aload_n 0, 1) := by decide +kernel
theorem dX7_jurorOf_96 : decode cX7_jurorOf 96 = .ok (.getfield 10, 3) := by decide +kernel
theorem dX7_jurorOf_99 : decode cX7_jurorOf 99 = .ok (.getfield 86, 3) := by decide +kernel
theorem dX7_jurorOf_102 : decode cX7_jurorOf 102 = .ok (.getfield 183, 3) := by decide +kernel
theorem dX7_jurorOf_105 : decode cX7_jurorOf 105 = .ok (.iload_n 1, 1) := by decide +kernel
theorem dX7_jurorOf_106 : decode cX7_jurorOf 106 = .ok (.iaload, 1) := by decide +kernel
theorem dX7_jurorOf_107 : decode cX7_jurorOf 107 = .ok (.ireturn, 1) := by decide +kernel
theorem dX7_jurorOf_108 : decode cX7_jurorOf 108 = .ok (.aload_n 0, 1) := by decide +kernel
theorem dX7_jurorOf_109 : decode cX7_jurorOf 109 = .ok (.getfield 10, 3) := by decide +kernel
theorem dX7_jurorOf_112 : decode cX7_jurorOf 112 = .ok (.getfield 86, 3) := by decide +kernel
theorem dX7_jurorOf_115 : decode cX7_jurorOf 115 = .ok (.getfield 186, 3) := by decide +kernel
theorem dX7_jurorOf_118 : decode cX7_jurorOf 118 = .ok (.iload_n 1, 1) := by decide +kernel
theorem dX7_jurorOf_119 : decode cX7_jurorOf 119 = .ok (.iaload, 1) := by decide +kernel
theorem dX7_jurorOf_120 : decode cX7_jurorOf 120 = .ok (.ireturn, 1) := by decide +kernel
theorem dX7_jurorOf_121 : decode cX7_jurorOf 121 = .ok (.new 66, 3) := by decide +kernel
theorem dX7_jurorOf_124 : decode cX7_jurorOf 124 = .ok (.dup, 1) := by decide +kernel
theorem dX7_jurorOf_125 : decode cX7_jurorOf 125 = .ok (.ldc 189, 2) := by decide +kernel
theorem dX7_jurorOf_127 : decode cX7_jurorOf 127 = .ok (.invokespecial 70, 3) := by decide +kernel
theorem dX7_jurorOf_130 : decode cX7_jurorOf 130 = .ok (.athrow, 1) := by decide +kernel
theorem dX7_caseOf_0 : decode cX7_caseOf 0 = .ok (.aload_n 0, 1) := by decide +kernel
theorem dX7_caseOf_1 : decode cX7_caseOf 1 = .ok (.getfield 10, 3) := by decide +kernel
theorem dX7_caseOf_4 : decode cX7_caseOf 4 = .ok (.getfield 103, 3) := by decide +kernel
theorem dX7_caseOf_7 : decode cX7_caseOf 7 = .ok (.astore_n 3, 1) := by decide +kernel
theorem dX7_caseOf_8 : decode cX7_caseOf 8 = .ok (.aload_n 3, 1) := by decide +kernel
theorem dX7_caseOf_9 : decode cX7_caseOf 9 = .ok (.iload_n 1, 1) := by decide +kernel
theorem dX7_caseOf_10 : decode cX7_caseOf 10 = .ok (.invokevirtual 110, 3) := by decide +kernel
theorem dX7_caseOf_13 : decode cX7_caseOf 13 = .ok (.ifCond .ne 13, 3) := by decide +kernel
theorem dX7_caseOf_16 : decode cX7_caseOf 16 = .ok (.new 114, 3) := by decide +kernel
theorem dX7_caseOf_19 : decode cX7_caseOf 19 = .ok (.dup, 1) := by decide +kernel
theorem dX7_caseOf_20 : decode cX7_caseOf 20 = .ok (.ldc 116, 2) := by decide +kernel
theorem dX7_caseOf_22 : decode cX7_caseOf 22 = .ok (.invokespecial 118, 3) := by decide +kernel
theorem dX7_caseOf_25 : decode cX7_caseOf 25 = .ok (.athrow, 1) := by decide +kernel
theorem dX7_caseOf_26 : decode cX7_caseOf 26 = .ok (.iload_n 2, 1) := by decide +kernel
theorem dX7_caseOf_27 : decode cX7_caseOf 27 = .ok (.tableswitch 108 0 7 #[45, 52, 59, 66, 73, 80, 94, 101], 45) := by decide +kernel
theorem dX7_caseOf_72 : decode cX7_caseOf 72 = .ok (.aload_n 3, 1) := by decide +kernel
theorem dX7_caseOf_73 : decode cX7_caseOf 73 = .ok (.getfield 191, 3) := by decide +kernel
theorem dX7_caseOf_76 : decode cX7_caseOf 76 = .ok (.iload_n 1, 1) := by decide +kernel
theorem dX7_caseOf_77 : decode cX7_caseOf 77 = .ok (.iaload, 1) := by decide +kernel
theorem dX7_caseOf_78 : decode cX7_caseOf 78 = .ok (.ireturn, 1) := by decide +kernel
theorem dX7_caseOf_79 : decode cX7_caseOf 79 = .ok (.aload_n 3, 1) := by decide +kernel
theorem dX7_caseOf_80 : decode cX7_caseOf 80 = .ok (.getfield 194, 3) := by decide +kernel
theorem dX7_caseOf_83 : decode cX7_caseOf 83 = .ok (.iload_n 1, 1) := by decide +kernel
theorem dX7_caseOf_84 : decode cX7_caseOf 84 = .ok (.iaload, 1) := by decide +kernel
theorem dX7_caseOf_85 : decode cX7_caseOf 85 = .ok (.ireturn, 1) := by decide +kernel
theorem dX7_caseOf_86 : decode cX7_caseOf 86 = .ok (.aload_n 3, 1) := by decide +kernel
theorem dX7_caseOf_87 : decode cX7_caseOf 87 = .ok (.getfield 197, 3) := by decide +kernel
theorem dX7_caseOf_90 : decode cX7_caseOf 90 = .ok (.iload_n 1, 1) := by decide +kernel
theorem dX7_caseOf_91 : decode cX7_caseOf 91 = .ok (.iaload, 1) := by decide +kernel
theorem dX7_caseOf_92 : decode cX7_caseOf 92 = .ok (.ireturn, 1) := by decide +kernel
theorem dX7_caseOf_93 : decode cX7_caseOf 93 = .ok (.aload_n 3, 1) := by decide +kernel
theorem dX7_caseOf_94 : decode cX7_caseOf 94 = .ok (.getfield 200, 3) := by decide +kernel
theorem dX7_caseOf_97 : decode cX7_caseOf 97 = .ok (.iload_n 1, 1) := by decide +kernel
theorem dX7_caseOf_98 : decode cX7_caseOf 98 = .ok (.iaload, 1) := by decide +kernel
theorem dX7_caseOf_99 : decode cX7_caseOf 99 = .ok (.ireturn, 1) := by decide +kernel
theorem dX7_caseOf_100 : decode cX7_caseOf 100 = .ok (.aload_n 3, 1) := by decide +kernel
theorem dX7_caseOf_101 : decode cX7_caseOf 101 = .ok (.getfield 203, 3) := by decide +kernel
theorem dX7_caseOf_104 : decode cX7_caseOf 104 = .ok (.iload_n 1, 1) := by decide +kernel
theorem dX7_caseOf_105 : decode cX7_caseOf 105 = .ok (.iaload, 1) := by decide +kernel
theorem dX7_caseOf_106 : decode cX7_caseOf 106 = .ok (.ireturn, 1) := by decide +kernel
theorem dX7_caseOf_107 : decode cX7_caseOf 107 = .ok (.aload_n 3, 1) := by decide +kernel
theorem dX7_caseOf_108 : decode cX7_caseOf 108 = .ok (.iload_n 1, 1) := by decide +kernel
theorem dX7_caseOf_109 : decode cX7_caseOf 109 = .ok (.invokevirtual 206, 3) := by decide +kernel
theorem dX7_caseOf_112 : decode cX7_caseOf 112 = .ok (.ifCond .eq 7, 3) := by decide +kernel
theorem dX7_caseOf_115 : decode cX7_caseOf 115 = .ok (.iconst 1, 1) := by decide +kernel
theorem dX7_caseOf_116 : decode cX7_caseOf 116 = .ok (.goto 4, 3) := by decide +kernel
theorem dX7_caseOf_119 : decode cX7_caseOf 119 = .ok (.iconst 0, 1) := by decide +kernel
theorem dX7_caseOf_120 : decode cX7_caseOf 120 = .ok (.ireturn, 1) := by decide +kernel
theorem dX7_caseOf_121 : decode cX7_caseOf 121 = .ok (.aload_n 3, 1) := by decide +kernel
theorem dX7_caseOf_122 : decode cX7_caseOf 122 = .ok (.getfield 209, 3) := by decide +kernel
theorem dX7_caseOf_125 : decode cX7_caseOf 125 = .ok (.iload_n 1, 1) := by decide +kernel
theorem dX7_caseOf_126 : decode cX7_caseOf 126 = .ok (.iaload, 1) := by decide +kernel
theorem dX7_caseOf_127 : decode cX7_caseOf 127 = .ok (.ireturn, 1) := by decide +kernel
theorem dX7_caseOf_128 : decode cX7_caseOf 128 = .ok (.aload_n 3, 1) := by decide +kernel
theorem dX7_caseOf_129 : decode cX7_caseOf 129 = .ok (.getfield 212, 3) := by decide +kernel
theorem dX7_caseOf_132 : decode cX7_caseOf 132 = .ok (.iload_n 1, 1) := by decide +kernel
theorem dX7_caseOf_133 : decode cX7_caseOf 133 = .ok (.iaload, 1) := by decide +kernel
theorem dX7_caseOf_134 : decode cX7_caseOf 134 = .ok (.ireturn, 1) := by decide +kernel
theorem dX7_caseOf_135 : decode cX7_caseOf 135 = .ok (.new 66, 3) := by decide +kernel
theorem dX7_caseOf_138 : decode cX7_caseOf 138 = .ok (.dup, 1) := by decide +kernel
theorem dX7_caseOf_139 : decode cX7_caseOf 139 = .ok (.ldc 215, 2) := by decide +kernel
theorem dX7_caseOf_141 : decode cX7_caseOf 141 = .ok (.invokespecial 70, 3) := by decide +kernel
theorem dX7_caseOf_144 : decode cX7_caseOf 144 = .ok (.athrow, 1) := by decide +kernel
theorem dX7_voteOf_0 : decode cX7_voteOf 0 = .ok (.aload_n 0, 1) := by decide +kernel
theorem dX7_voteOf_1 : decode cX7_voteOf 1 = .ok (.getfield 10, 3) := by decide +kernel
theorem dX7_voteOf_4 : decode cX7_voteOf 4 = .ok (.getfield 86, 3) := by decide +kernel
theorem dX7_voteOf_7 : decode cX7_voteOf 7 = .ok (.iload_n 1, 1) := by decide +kernel
theorem dX7_voteOf_8 : decode cX7_voteOf 8 = .ok (.invokevirtual 170, 3) := by decide +kernel
theorem dX7_voteOf_11 : decode cX7_voteOf 11 = .ok (.ifCond .eq 17, 3) := by decide +kernel
theorem dX7_voteOf_14 : decode cX7_voteOf 14 = .ok (.aload_n 0, 1) := by decide +kernel
theorem dX7_voteOf_15 : decode cX7_voteOf 15 = .ok (.getfield 10, 3) := by decide +kernel
theorem dX7_voteOf_18 : decode cX7_voteOf 18 = .ok (.getfield 103, 3) := by decide +kernel
theorem dX7_voteOf_21 : decode cX7_voteOf 21 = .ok (.iload_n 2, 1) := by decide +kernel
theorem dX7_voteOf_22 : decode cX7_voteOf 22 = .ok (.invokevirtual 110, 3) := by decide +kernel
theorem dX7_voteOf_25 : decode cX7_voteOf 25 = .ok (.ifCond .ne 13, 3) := by decide +kernel
theorem dX7_voteOf_28 : decode cX7_voteOf 28 = .ok (.new 114, 3) := by decide +kernel
theorem dX7_voteOf_31 : decode cX7_voteOf 31 = .ok (.dup, 1) := by decide +kernel
theorem dX7_voteOf_32 : decode cX7_voteOf 32 = .ok (.ldc 217, 2) := by decide +kernel
theorem dX7_voteOf_34 : decode cX7_voteOf 34 = .ok (.invokespecial 118, 3) := by decide +kernel
theorem dX7_voteOf_37 : decode cX7_voteOf 37 = .ok (.athrow, 1) := by decide +kernel
theorem dX7_voteOf_38 : decode cX7_voteOf 38 = .ok (.aload_n 0, 1) := by decide +kernel
theorem dX7_voteOf_39 : decode cX7_voteOf 39 = .ok (.getfield 10, 3) := by decide +kernel
theorem dX7_voteOf_42 : decode cX7_voteOf 42 = .ok (.getfield 86, 3) := by decide +kernel
theorem dX7_voteOf_45 : decode cX7_voteOf 45 = .ok (.iload_n 1, 1) := by decide +kernel
theorem dX7_voteOf_46 : decode cX7_voteOf 46 = .ok (.aload_n 0, 1) := by decide +kernel
theorem dX7_voteOf_47 : decode cX7_voteOf 47 = .ok (.getfield 10, 3) := by decide +kernel
theorem dX7_voteOf_50 : decode cX7_voteOf 50 = .ok (.getfield 103, 3) := by decide +kernel
theorem dX7_voteOf_53 : decode cX7_voteOf 53 = .ok (.getfield 191, 3) := by decide +kernel
theorem dX7_voteOf_56 : decode cX7_voteOf 56 = .ok (.iload_n 2, 1) := by decide +kernel
theorem dX7_voteOf_57 : decode cX7_voteOf 57 = .ok (.iaload, 1) := by decide +kernel
theorem dX7_voteOf_58 : decode cX7_voteOf 58 = .ok (.invokevirtual 219, 3) := by decide +kernel
theorem dX7_voteOf_61 : decode cX7_voteOf 61 = .ok (.ireturn, 1) := by decide +kernel
theorem dX7_wouldBe_0 : decode cX7_wouldBe 0 = .ok (.aload_n 0, 1) := by decide +kernel
theorem dX7_wouldBe_1 : decode cX7_wouldBe 1 = .ok (.getfield 10, 3) := by decide +kernel
theorem dX7_wouldBe_4 : decode cX7_wouldBe 4 = .ok (.getfield 103, 3) := by decide +kernel
theorem dX7_wouldBe_7 : decode cX7_wouldBe 7 = .ok (.iload_n 1, 1) := by decide +kernel
theorem dX7_wouldBe_8 : decode cX7_wouldBe 8 = .ok (.invokevirtual 110, 3) := by decide +kernel
theorem dX7_wouldBe_11 : decode cX7_wouldBe 11 = .ok (.ifCond .ne 13, 3) := by decide +kernel
theorem dX7_wouldBe_14 : decode cX7_wouldBe 14 = .ok (.new 114, 3) := by decide +kernel
theorem dX7_wouldBe_17 : decode cX7_wouldBe 17 = .ok (.dup, 1) := by decide +kernel
theorem dX7_wouldBe_18 : decode cX7_wouldBe 18 = .ok (.ldc 116, 2) := by decide +kernel
theorem dX7_wouldBe_20 : decode cX7_wouldBe 20 = .ok (.invokespecial 118, 3) := by decide +kernel
theorem dX7_wouldBe_23 : decode cX7_wouldBe 23 = .ok (.athrow, 1) := by decide +kernel
theorem dX7_wouldBe_24 : decode cX7_wouldBe 24 = .ok (.aload_n 0, 1) := by decide +kernel
theorem dX7_wouldBe_25 : decode cX7_wouldBe 25 = .ok (.getfield 10, 3) := by decide +kernel
theorem dX7_wouldBe_28 : decode cX7_wouldBe 28 = .ok (.getfield 103, 3) := by decide +kernel
theorem dX7_wouldBe_31 : decode cX7_wouldBe 31 = .ok (.iload_n 1, 1) := by decide +kernel
theorem dX7_wouldBe_32 : decode cX7_wouldBe 32 = .ok (.invokevirtual 222, 3) := by decide +kernel
theorem dX7_wouldBe_35 : decode cX7_wouldBe 35 = .ok (.ifCond .ne 13, 3) := by decide +kernel
theorem dX7_wouldBe_38 : decode cX7_wouldBe 38 = .ok (.new 225, 3) := by decide +kernel
theorem dX7_wouldBe_41 : decode cX7_wouldBe 41 = .ok (.dup, 1) := by decide +kernel
theorem dX7_wouldBe_42 : decode cX7_wouldBe 42 = .ok (.ldc 227, 2) := by decide +kernel
theorem dX7_wouldBe_44 : decode cX7_wouldBe 44 = .ok (.invokespecial 229, 3) := by decide +kernel
theorem dX7_wouldBe_47 : decode cX7_wouldBe 47 = .ok (.athrow, 1) := by decide +kernel
theorem dX7_wouldBe_48 : decode cX7_wouldBe 48 = .ok (.aload_n 0, 1) := by decide +kernel
theorem dX7_wouldBe_49 : decode cX7_wouldBe 49 = .ok (.getfield 10, 3) := by decide +kernel
theorem dX7_wouldBe_52 : decode cX7_wouldBe 52 = .ok (.getfield 103, 3) := by decide +kernel
theorem dX7_wouldBe_55 : decode cX7_wouldBe 55 = .ok (.getfield 197, 3) := by decide +kernel
theorem dX7_wouldBe_58 : decode cX7_wouldBe 58 = .ok (.iload_n 1, 1) := by decide +kernel
theorem dX7_wouldBe_59 : decode cX7_wouldBe 59 = .ok (.iaload, 1) := by decide +kernel
theorem dX7_wouldBe_60 : decode cX7_wouldBe 60 = .ok (.istore_n 3, 1) := by decide +kernel
theorem dX7_wouldBe_61 : decode cX7_wouldBe 61 = .ok (.aload_n 0, 1) := by decide +kernel
theorem dX7_wouldBe_62 : decode cX7_wouldBe 62 = .ok (.getfield 10, 3) := by decide +kernel
theorem dX7_wouldBe_65 : decode cX7_wouldBe 65 = .ok (.getfield 103, 3) := by decide +kernel
theorem dX7_wouldBe_68 : decode cX7_wouldBe 68 = .ok (.getfield 191, 3) := by decide +kernel
theorem dX7_wouldBe_71 : decode cX7_wouldBe 71 = .ok (.iload_n 1, 1) := by decide +kernel
theorem dX7_wouldBe_72 : decode cX7_wouldBe 72 = .ok (.iaload, 1) := by decide +kernel
theorem dX7_wouldBe_73 : decode cX7_wouldBe 73 = .ok (.istore 4, 2) := by decide +kernel
theorem dX7_wouldBe_75 : decode cX7_wouldBe 75 = .ok (.iload_n 2, 1) := by decide +kernel
theorem dX7_wouldBe_76 : decode cX7_wouldBe 76 = .ok (.ifCond .eq 19, 3) := by decide +kernel
theorem dX7_wouldBe_79 : decode cX7_wouldBe 79 = .ok (.aload_n 0, 1) := by decide +kernel
theorem dX7_wouldBe_80 : decode cX7_wouldBe 80 = .ok (.getfield 10, 3) := by decide +kernel
theorem dX7_wouldBe_83 : decode cX7_wouldBe 83 = .ok (.getfield 86, 3) := by decide +kernel
theorem dX7_wouldBe_86 : decode cX7_wouldBe 86 = .ok (.iload_n 3, 1) := by decide +kernel
theorem dX7_wouldBe_87 : decode cX7_wouldBe 87 = .ok (.iload 4, 2) := by decide +kernel
theorem dX7_wouldBe_89 : decode cX7_wouldBe 89 = .ok (.invokevirtual 230, 3) := by decide +kernel
theorem dX7_wouldBe_92 : decode cX7_wouldBe 92 = .ok (.goto 16, 3) := by decide +kernel
theorem dX7_wouldBe_95 : decode cX7_wouldBe 95 = .ok (.aload_n 0, 1) := by decide +kernel
theorem dX7_wouldBe_96 : decode cX7_wouldBe 96 = .ok (.getfield 10, 3) := by decide +kernel
theorem dX7_wouldBe_99 : decode cX7_wouldBe 99 = .ok (.getfield 86, 3) := by decide +kernel
theorem dX7_wouldBe_102 : decode cX7_wouldBe 102 = .ok (.iload_n 3, 1) := by decide +kernel
theorem dX7_wouldBe_103 : decode cX7_wouldBe 103 = .ok (.iload 4, 2) := by decide +kernel
theorem dX7_wouldBe_105 : decode cX7_wouldBe 105 = .ok (.invokevirtual 233, 3) := by decide +kernel
theorem dX7_wouldBe_108 : decode cX7_wouldBe 108 = .ok (.ireturn, 1) := by decide +kernel
theorem dX7_load_0 : decode cX7_load 0 = .ok (.aload_n 0, 1) := by decide +kernel
theorem dX7_load_1 : decode cX7_load 1 = .ok (.getfield 10, 3) := by decide +kernel
theorem dX7_load_4 : decode cX7_load 4 = .ok (.getfield 86, 3) := by decide +kernel
theorem dX7_load_7 : decode cX7_load 7 = .ok (.iload_n 1, 1) := by decide +kernel
theorem dX7_load_8 : decode cX7_load 8 = .ok (.invokevirtual 170, 3) := by decide +kernel
theorem dX7_load_11 : decode cX7_load 11 = .ok (.ifCond .ne 13, 3) := by decide +kernel
theorem dX7_load_14 : decode cX7_load 14 = .ok (.new 114, 3) := by decide +kernel
theorem dX7_load_17 : decode cX7_load 17 = .ok (.dup, 1) := by decide +kernel
theorem dX7_load_18 : decode cX7_load 18 = .ok (.ldc 171, 2) := by decide +kernel
theorem dX7_load_20 : decode cX7_load 20 = .ok (.invokespecial 118, 3) := by decide +kernel
theorem dX7_load_23 : decode cX7_load 23 = .ok (.athrow, 1) := by decide +kernel
theorem dX7_load_24 : decode cX7_load 24 = .ok (.iload_n 2, 1) := by decide +kernel
theorem dX7_load_25 : decode cX7_load 25 = .ok (.ifCond .eq 14, 3) := by decide +kernel
theorem dX7_load_28 : decode cX7_load 28 = .ok (.aload_n 0, 1) := by decide +kernel
theorem dX7_load_29 : decode cX7_load 29 = .ok (.getfield 10, 3) := by decide +kernel
theorem dX7_load_32 : decode cX7_load 32 = .ok (.iload_n 1, 1) := by decide +kernel
theorem dX7_load_33 : decode cX7_load 33 = .ok (.invokevirtual 236, 3) := by decide +kernel
theorem dX7_load_36 : decode cX7_load 36 = .ok (.goto 11, 3) := by decide +kernel
theorem dX7_load_39 : decode cX7_load 39 = .ok (.aload_n 0, 1) := by decide +kernel
theorem dX7_load_40 : decode cX7_load 40 = .ok (.getfield 10, 3) := by decide +kernel
theorem dX7_load_43 : decode cX7_load 43 = .ok (.iload_n 1, 1) := by decide +kernel
theorem dX7_load_44 : decode cX7_load 44 = .ok (.invokevirtual 180, 3) := by decide +kernel
theorem dX7_load_47 : decode cX7_load 47 = .ok (.ireturn, 1) := by decide +kernel
theorem dX7_callable_0 : decode cX7_callable 0 = .ok (.aload_n 0, 1) := by decide +kernel
theorem dX7_callable_1 : decode cX7_callable 1 = .ok (.getfield 10, 3) := by decide +kernel
theorem dX7_callable_4 : decode cX7_callable 4 = .ok (.iload_n 1, 1) := by decide +kernel
theorem dX7_callable_5 : decode cX7_callable 5 = .ok (.invokevirtual 239, 3) := by decide +kernel
theorem dX7_callable_8 : decode cX7_callable 8 = .ok (.istore_n 2, 1) := by decide +kernel
theorem dX7_callable_9 : decode cX7_callable 9 = .ok (.iload_n 2, 1) := by decide +kernel
theorem dX7_callable_10 : decode cX7_callable 10 = .ok (.iconst (-1), 1) := by decide +kernel
theorem dX7_callable_11 : decode cX7_callable 11 = .ok (.if_icmp .ne 13, 3) := by decide +kernel
theorem dX7_callable_14 : decode cX7_callable 14 = .ok (.new 225, 3) := by decide +kernel
theorem dX7_callable_17 : decode cX7_callable 17 = .ok (.dup, 1) := by decide +kernel
theorem dX7_callable_18 : decode cX7_callable 18 = .ok (.ldc 242, 2) := by decide +kernel
theorem dX7_callable_20 : decode cX7_callable 20 = .ok (.invokespecial 229, 3) := by decide +kernel
theorem dX7_callable_23 : decode cX7_callable 23 = .ok (.athrow, 1) := by decide +kernel
theorem dX7_callable_24 : decode cX7_callable 24 = .ok (.iload_n 2, 1) := by decide +kernel
theorem dX7_callable_25 : decode cX7_callable 25 = .ok (.ireturn, 1) := by decide +kernel
theorem dX7_thoughts_0 : decode cX7_thoughts 0 = .ok (.aload_n 0, 1) := by decide +kernel
theorem dX7_thoughts_1 : decode cX7_thoughts 1 = .ok (.getfield 10, 3) := by decide +kernel
theorem dX7_thoughts_4 : decode cX7_thoughts 4 = .ok (.getfield 103, 3) := by decide +kernel
theorem dX7_thoughts_7 : decode cX7_thoughts 7 = .ok (.iload_n 1, 1) := by decide +kernel
theorem dX7_thoughts_8 : decode cX7_thoughts 8 = .ok (.invokevirtual 110, 3) := by decide +kernel
theorem dX7_thoughts_11 : decode cX7_thoughts 11 = .ok (.ifCond .ne 13, 3) := by decide +kernel
theorem dX7_thoughts_14 : decode cX7_thoughts 14 = .ok (.new 114, 3) := by decide +kernel
theorem dX7_thoughts_17 : decode cX7_thoughts 17 = .ok (.dup, 1) := by decide +kernel
theorem dX7_thoughts_18 : decode cX7_thoughts 18 = .ok (.ldc 116, 2) := by decide +kernel
theorem dX7_thoughts_20 : decode cX7_thoughts 20 = .ok (.invokespecial 118, 3) := by decide +kernel
theorem dX7_thoughts_23 : decode cX7_thoughts 23 = .ok (.athrow, 1) := by decide +kernel
theorem dX7_thoughts_24 : decode cX7_thoughts 24 = .ok (.aload_n 0, 1) := by decide +kernel
theorem dX7_thoughts_25 : decode cX7_thoughts 25 = .ok (.getfield 10, 3) := by decide +kernel
theorem dX7_thoughts_28 : decode cX7_thoughts 28 = .ok (.getfield 103, 3) := by decide +kernel
theorem dX7_thoughts_31 : decode cX7_thoughts 31 = .ok (.iload_n 1, 1) := by decide +kernel
theorem dX7_thoughts_32 : decode cX7_thoughts 32 = .ok (.invokevirtual 222, 3) := by decide +kernel
theorem dX7_thoughts_35 : decode cX7_thoughts 35 = .ok (.ifCond .ne 13, 3) := by decide +kernel
theorem dX7_thoughts_38 : decode cX7_thoughts 38 = .ok (.new 225, 3) := by decide +kernel
theorem dX7_thoughts_41 : decode cX7_thoughts 41 = .ok (.dup, 1) := by decide +kernel
theorem dX7_thoughts_42 : decode cX7_thoughts 42 = .ok (.ldc 227, 2) := by decide +kernel
theorem dX7_thoughts_44 : decode cX7_thoughts 44 = .ok (.invokespecial 229, 3) := by decide +kernel
theorem dX7_thoughts_47 : decode cX7_thoughts 47 = .ok (.athrow, 1) := by decide +kernel
theorem dX7_thoughts_48 : decode cX7_thoughts 48 = .ok (.aload_n 0, 1) := by decide +kernel
theorem dX7_thoughts_49 : decode cX7_thoughts 49 = .ok (.getfield 36, 3) := by decide +kernel
theorem dX7_thoughts_52 : decode cX7_thoughts 52 = .ok (.aload_n 0, 1) := by decide +kernel
theorem dX7_thoughts_53 : decode cX7_thoughts 53 = .ok (.getfield 10, 3) := by decide +kernel
theorem dX7_thoughts_56 : decode cX7_thoughts 56 = .ok (.getfield 86, 3) := by decide +kernel
theorem dX7_thoughts_59 : decode cX7_thoughts 59 = .ok (.invokevirtual 244, 3) := by decide +kernel
theorem dX7_thoughts_62 : decode cX7_thoughts 62 = .ok (.aload_n 0, 1) := by decide +kernel
theorem dX7_thoughts_63 : decode cX7_thoughts 63 = .ok (.getfield 36, 3) := by decide +kernel
theorem dX7_thoughts_66 : decode cX7_thoughts 66 = .ok (.aload_n 0, 1) := by decide +kernel
theorem dX7_thoughts_67 : decode cX7_thoughts 67 = .ok (.getfield 10, 3) := by decide +kernel
theorem dX7_thoughts_70 : decode cX7_thoughts 70 = .ok (.getfield 103, 3) := by decide +kernel
theorem dX7_thoughts_73 : decode cX7_thoughts 73 = .ok (.getfield 197, 3) := by decide +kernel
theorem dX7_thoughts_76 : decode cX7_thoughts 76 = .ok (.iload_n 1, 1) := by decide +kernel
theorem dX7_thoughts_77 : decode cX7_thoughts 77 = .ok (.iaload, 1) := by decide +kernel
theorem dX7_thoughts_78 : decode cX7_thoughts 78 = .ok (.aload_n 0, 1) := by decide +kernel
theorem dX7_thoughts_79 : decode cX7_thoughts 79 = .ok (.getfield 10, 3) := by decide +kernel
theorem dX7_thoughts_82 : decode cX7_thoughts 82 = .ok (.getfield 103, 3) := by decide +kernel
theorem dX7_thoughts_85 : decode cX7_thoughts 85 = .ok (.getfield 191, 3) := by decide +kernel
theorem dX7_thoughts_88 : decode cX7_thoughts 88 = .ok (.iload_n 1, 1) := by decide +kernel
theorem dX7_thoughts_89 : decode cX7_thoughts 89 = .ok (.iaload, 1) := by decide +kernel
theorem dX7_thoughts_90 : decode cX7_thoughts 90 = .ok (.invokevirtual 248, 3) := by decide +kernel
theorem dX7_thoughts_93 : decode cX7_thoughts 93 = .ok (.ireturn, 1) := by decide +kernel
theorem dX7_isOn_0 : decode cX7_isOn 0 = .ok (.aload_n 0, 1) := by decide +kernel
theorem dX7_isOn_1 : decode cX7_isOn 1 = .ok (.getfield 10, 3) := by decide +kernel
theorem dX7_isOn_4 : decode cX7_isOn 4 = .ok (.getfield 86, 3) := by decide +kernel
theorem dX7_isOn_7 : decode cX7_isOn 7 = .ok (.iload_n 1, 1) := by decide +kernel
theorem dX7_isOn_8 : decode cX7_isOn 8 = .ok (.invokevirtual 170, 3) := by decide +kernel
theorem dX7_isOn_11 : decode cX7_isOn 11 = .ok (.ifCond .eq 17, 3) := by decide +kernel
theorem dX7_isOn_14 : decode cX7_isOn 14 = .ok (.aload_n 0, 1) := by decide +kernel
theorem dX7_isOn_15 : decode cX7_isOn 15 = .ok (.getfield 10, 3) := by decide +kernel
theorem dX7_isOn_18 : decode cX7_isOn 18 = .ok (.getfield 103, 3) := by decide +kernel
theorem dX7_isOn_21 : decode cX7_isOn 21 = .ok (.iload_n 2, 1) := by decide +kernel
theorem dX7_isOn_22 : decode cX7_isOn 22 = .ok (.invokevirtual 110, 3) := by decide +kernel
theorem dX7_isOn_25 : decode cX7_isOn 25 = .ok (.ifCond .ne 13, 3) := by decide +kernel
theorem dX7_isOn_28 : decode cX7_isOn 28 = .ok (.new 114, 3) := by decide +kernel
theorem dX7_isOn_31 : decode cX7_isOn 31 = .ok (.dup, 1) := by decide +kernel
theorem dX7_isOn_32 : decode cX7_isOn 32 = .ok (.ldc 217, 2) := by decide +kernel
theorem dX7_isOn_34 : decode cX7_isOn 34 = .ok (.invokespecial 118, 3) := by decide +kernel
theorem dX7_isOn_37 : decode cX7_isOn 37 = .ok (.athrow, 1) := by decide +kernel
theorem dX7_isOn_38 : decode cX7_isOn 38 = .ok (.aload_n 0, 1) := by decide +kernel
theorem dX7_isOn_39 : decode cX7_isOn 39 = .ok (.getfield 10, 3) := by decide +kernel
theorem dX7_isOn_42 : decode cX7_isOn 42 = .ok (.getfield 103, 3) := by decide +kernel
theorem dX7_isOn_45 : decode cX7_isOn 45 = .ok (.getfield 197, 3) := by decide +kernel
theorem dX7_isOn_48 : decode cX7_isOn 48 = .ok (.iload_n 2, 1) := by decide +kernel
theorem dX7_isOn_49 : decode cX7_isOn 49 = .ok (.iaload, 1) := by decide +kernel
theorem dX7_isOn_50 : decode cX7_isOn 50 = .ok (.iload_n 1, 1) := by decide +kernel
theorem dX7_isOn_51 : decode cX7_isOn 51 = .ok (.invokestatic 251, 3) := by decide +kernel
theorem dX7_isOn_54 : decode cX7_isOn 54 = .ok (.ireturn, 1) := by decide +kernel
theorem dX7_roll_0 : decode cX7_roll 0 = .ok (.iload_n 2, 1) := by decide +kernel
theorem dX7_roll_1 : decode cX7_roll 1 = .ok (.ifCond .eq 17, 3) := by decide +kernel
theorem dX7_roll_4 : decode cX7_roll 4 = .ok (.aload_n 0, 1) := by decide +kernel
theorem dX7_roll_5 : decode cX7_roll 5 = .ok (.getfield 10, 3) := by decide +kernel
theorem dX7_roll_8 : decode cX7_roll 8 = .ok (.getfield 103, 3) := by decide +kernel
theorem dX7_roll_11 : decode cX7_roll 11 = .ok (.iload_n 1, 1) := by decide +kernel
theorem dX7_roll_12 : decode cX7_roll 12 = .ok (.invokevirtual 254, 3) := by decide +kernel
theorem dX7_roll_15 : decode cX7_roll 15 = .ok (.goto 14, 3) := by decide +kernel
theorem dX7_roll_18 : decode cX7_roll 18 = .ok (.aload_n 0, 1) := by decide +kernel
theorem dX7_roll_19 : decode cX7_roll 19 = .ok (.getfield 10, 3) := by decide +kernel
theorem dX7_roll_22 : decode cX7_roll 22 = .ok (.getfield 103, 3) := by decide +kernel
theorem dX7_roll_25 : decode cX7_roll 25 = .ok (.iload_n 1, 1) := by decide +kernel
theorem dX7_roll_26 : decode cX7_roll 26 = .ok (.invokevirtual 257, 3) := by decide +kernel
theorem dX7_roll_29 : decode cX7_roll 29 = .ok (.istore_n 3, 1) := by decide +kernel
theorem dX7_roll_30 : decode cX7_roll 30 = .ok (.iload_n 3, 1) := by decide +kernel
theorem dX7_roll_31 : decode cX7_roll 31 = .ok (.iconst (-1), 1) := by decide +kernel
theorem dX7_roll_32 : decode cX7_roll 32 = .ok (.if_icmp .ne 13, 3) := by decide +kernel
theorem dX7_roll_35 : decode cX7_roll 35 = .ok (.new 225, 3) := by decide +kernel
theorem dX7_roll_38 : decode cX7_roll 38 = .ok (.dup, 1) := by decide +kernel
theorem dX7_roll_39 : decode cX7_roll 39 = .ok (.ldc 242, 2) := by decide +kernel
theorem dX7_roll_41 : decode cX7_roll 41 = .ok (.invokespecial 229, 3) := by decide +kernel
theorem dX7_roll_44 : decode cX7_roll 44 = .ok (.athrow, 1) := by decide +kernel
theorem dX7_roll_45 : decode cX7_roll 45 = .ok (.iload_n 3, 1) := by decide +kernel
theorem dX7_roll_46 : decode cX7_roll 46 = .ok (.ireturn, 1) := by decide +kernel
theorem dX7_rolled_0 : decode cX7_rolled 0 = .ok (.aload_n 0, 1) := by decide +kernel
theorem dX7_rolled_1 : decode cX7_rolled 1 = .ok (.getfield 10, 3) := by decide +kernel
theorem dX7_rolled_4 : decode cX7_rolled 4 = .ok (.getfield 103, 3) := by decide +kernel
theorem dX7_rolled_7 : decode cX7_rolled 7 = .ok (.getfield 260, 3) := by decide +kernel
theorem dX7_rolled_10 : decode cX7_rolled 10 = .ok (.ireturn, 1) := by decide +kernel
theorem dX7_wouldTake_0 : decode cX7_wouldTake 0 = .ok (.aload_n 0, 1) := by decide +kernel
theorem dX7_wouldTake_1 : decode cX7_wouldTake 1 = .ok (.getfield 10, 3) := by decide +kernel
theorem dX7_wouldTake_4 : decode cX7_wouldTake 4 = .ok (.getfield 103, 3) := by decide +kernel
theorem dX7_wouldTake_7 : decode cX7_wouldTake 7 = .ok (.iload_n 1, 1) := by decide +kernel
theorem dX7_wouldTake_8 : decode cX7_wouldTake 8 = .ok (.invokevirtual 110, 3) := by decide +kernel
theorem dX7_wouldTake_11 : decode cX7_wouldTake 11 = .ok (.ifCond .ne 13, 3) := by decide +kernel
theorem dX7_wouldTake_14 : decode cX7_wouldTake 14 = .ok (.new 114, 3) := by decide +kernel
theorem dX7_wouldTake_17 : decode cX7_wouldTake 17 = .ok (.dup, 1) := by decide +kernel
theorem dX7_wouldTake_18 : decode cX7_wouldTake 18 = .ok (.ldc 116, 2) := by decide +kernel
theorem dX7_wouldTake_20 : decode cX7_wouldTake 20 = .ok (.invokespecial 118, 3) := by decide +kernel
theorem dX7_wouldTake_23 : decode cX7_wouldTake 23 = .ok (.athrow, 1) := by decide +kernel
theorem dX7_wouldTake_24 : decode cX7_wouldTake 24 = .ok (.aload_n 0, 1) := by decide +kernel
theorem dX7_wouldTake_25 : decode cX7_wouldTake 25 = .ok (.getfield 10, 3) := by decide +kernel
theorem dX7_wouldTake_28 : decode cX7_wouldTake 28 = .ok (.iload_n 1, 1) := by decide +kernel
theorem dX7_wouldTake_29 : decode cX7_wouldTake 29 = .ok (.invokevirtual 263, 3) := by decide +kernel
theorem dX7_wouldTake_32 : decode cX7_wouldTake 32 = .ok (.istore_n 2, 1) := by decide +kernel
theorem dX7_wouldTake_33 : decode cX7_wouldTake 33 = .ok (.iload_n 2, 1) := by decide +kernel
theorem dX7_wouldTake_34 : decode cX7_wouldTake 34 = .ok (.iconst (-1), 1) := by decide +kernel
theorem dX7_wouldTake_35 : decode cX7_wouldTake 35 = .ok (.if_icmp .ne 14, 3) := by decide +kernel
theorem dX7_wouldTake_38 : decode cX7_wouldTake 38 = .ok (.new 225, 3) := by decide +kernel
theorem dX7_wouldTake_41 : decode cX7_wouldTake 41 = .ok (.dup, 1) := by decide +kernel
theorem dX7_wouldTake_42 : decode cX7_wouldTake 42 = .ok (.ldc_w 266, 3) := by decide +kernel
theorem dX7_wouldTake_45 : decode cX7_wouldTake 45 = .ok (.invokespecial 229, 3) := by decide +kernel
theorem dX7_wouldTake_48 : decode cX7_wouldTake 48 = .ok (.athrow, 1) := by decide +kernel
theorem dX7_wouldTake_49 : decode cX7_wouldTake 49 = .ok (.iload_n 2, 1) := by decide +kernel
theorem dX7_wouldTake_50 : decode cX7_wouldTake 50 = .ok (.ireturn, 1) := by decide +kernel
theorem dX7_overdue_0 : decode cX7_overdue 0 = .ok (.aload_n 0, 1) := by decide +kernel
theorem dX7_overdue_1 : decode cX7_overdue 1 = .ok (.getfield 10, 3) := by decide +kernel
theorem dX7_overdue_4 : decode cX7_overdue 4 = .ok (.getfield 103, 3) := by decide +kernel
theorem dX7_overdue_7 : decode cX7_overdue 7 = .ok (.aload_n 0, 1) := by decide +kernel
theorem dX7_overdue_8 : decode cX7_overdue 8 = .ok (.getfield 10, 3) := by decide +kernel
theorem dX7_overdue_11 : decode cX7_overdue 11 = .ok (.getfield 268, 3) := by decide +kernel
theorem dX7_overdue_14 : decode cX7_overdue 14 = .ok (.invokevirtual 271, 3) := by decide +kernel
theorem dX7_overdue_17 : decode cX7_overdue 17 = .ok (.ireturn, 1) := by decide +kernel
theorem dX7_termFrom_0 : decode cX7_termFrom 0 = .ok (.iload_n 1, 1) := by decide +kernel
theorem dX7_termFrom_1 : decode cX7_termFrom 1 = .ok (.ifCond .lt 9, 3) := by decide +kernel
theorem dX7_termFrom_4 : decode cX7_termFrom 4 = .ok (.iload_n 1, 1) := by decide +kernel
theorem dX7_termFrom_5 : decode cX7_termFrom 5 = .ok (.bipush 99, 2) := by decide +kernel
theorem dX7_termFrom_7 : decode cX7_termFrom 7 = .ok (.if_icmp .le 14, 3) := by decide +kernel
theorem dX7_termFrom_10 : decode cX7_termFrom 10 = .ok (.new 66, 3) := by decide +kernel
theorem dX7_termFrom_13 : decode cX7_termFrom 13 = .ok (.dup, 1) := by decide +kernel
theorem dX7_termFrom_14 : decode cX7_termFrom 14 = .ok (.ldc_w 274, 3) := by decide +kernel
theorem dX7_termFrom_17 : decode cX7_termFrom 17 = .ok (.invokespecial 70, 3) := by decide +kernel
theorem dX7_termFrom_20 : decode cX7_termFrom 20 = .ok (.athrow, 1) := by decide +kernel
theorem dX7_termFrom_21 : decode cX7_termFrom 21 = .ok (.aload_n 0, 1) := by decide +kernel
theorem dX7_termFrom_22 : decode cX7_termFrom 22 = .ok (.getfield 10, 3) := by decide +kernel
theorem dX7_termFrom_25 : decode cX7_termFrom 25 = .ok (.getfield 103, 3) := by decide +kernel
theorem dX7_termFrom_28 : decode cX7_termFrom 28 = .ok (.iload_n 1, 1) := by decide +kernel
theorem dX7_termFrom_29 : decode cX7_termFrom 29 = .ok (.invokevirtual 276, 3) := by decide +kernel
theorem dX7_termFrom_32 : decode cX7_termFrom 32 = .ok (.istore_n 2, 1) := by decide +kernel
theorem dX7_termFrom_33 : decode cX7_termFrom 33 = .ok (.iload_n 2, 1) := by decide +kernel
theorem dX7_termFrom_34 : decode cX7_termFrom 34 = .ok (.iconst (-1), 1) := by decide +kernel
theorem dX7_termFrom_35 : decode cX7_termFrom 35 = .ok (.if_icmp .ne 14, 3) := by decide +kernel
theorem dX7_termFrom_38 : decode cX7_termFrom 38 = .ok (.new 225, 3) := by decide +kernel
theorem dX7_termFrom_41 : decode cX7_termFrom 41 = .ok (.dup, 1) := by decide +kernel
theorem dX7_termFrom_42 : decode cX7_termFrom 42 = .ok (.ldc_w 279, 3) := by decide +kernel
theorem dX7_termFrom_45 : decode cX7_termFrom 45 = .ok (.invokespecial 229, 3) := by decide +kernel
theorem dX7_termFrom_48 : decode cX7_termFrom 48 = .ok (.athrow, 1) := by decide +kernel
theorem dX7_termFrom_49 : decode cX7_termFrom 49 = .ok (.iload_n 2, 1) := by decide +kernel
theorem dX7_termFrom_50 : decode cX7_termFrom 50 = .ok (.ireturn, 1) := by decide +kernel
theorem dX7_finalIn_0 : decode cX7_finalIn 0 = .ok (.aload_n 0, 1) := by decide +kernel
theorem dX7_finalIn_1 : decode cX7_finalIn 1 = .ok (.getfield 10, 3) := by decide +kernel
theorem dX7_finalIn_4 : decode cX7_finalIn 4 = .ok (.getfield 103, 3) := by decide +kernel
theorem dX7_finalIn_7 : decode cX7_finalIn 7 = .ok (.astore_n 2, 1) := by decide +kernel
theorem dX7_finalIn_8 : decode cX7_finalIn 8 = .ok (.aload_n 2, 1) := by decide +kernel
theorem dX7_finalIn_9 : decode cX7_finalIn 9 = .ok (.iload_n 1, 1) := by decide +kernel
theorem dX7_finalIn_10 : decode cX7_finalIn 10 = .ok (.invokevirtual 110, 3) := by decide +kernel
theorem dX7_finalIn_13 : decode cX7_finalIn 13 = .ok (.ifCond .ne 13, 3) := by decide +kernel
theorem dX7_finalIn_16 : decode cX7_finalIn 16 = .ok (.new 114, 3) := by decide +kernel
theorem dX7_finalIn_19 : decode cX7_finalIn 19 = .ok (.dup, 1) := by decide +kernel
theorem dX7_finalIn_20 : decode cX7_finalIn 20 = .ok (.ldc 116, 2) := by decide +kernel
theorem dX7_finalIn_22 : decode cX7_finalIn 22 = .ok (.invokespecial 118, 3) := by decide +kernel
theorem dX7_finalIn_25 : decode cX7_finalIn 25 = .ok (.athrow, 1) := by decide +kernel
theorem dX7_finalIn_26 : decode cX7_finalIn 26 = .ok (.aload_n 2, 1) := by decide +kernel
theorem dX7_finalIn_27 : decode cX7_finalIn 27 = .ok (.iload_n 1, 1) := by decide +kernel
theorem dX7_finalIn_28 : decode cX7_finalIn 28 = .ok (.invokevirtual 281, 3) := by decide +kernel
theorem dX7_finalIn_31 : decode cX7_finalIn 31 = .ok (.ifCond .ne 14, 3) := by decide +kernel
theorem dX7_finalIn_34 : decode cX7_finalIn 34 = .ok (.new 225, 3) := by decide +kernel
theorem dX7_finalIn_37 : decode cX7_finalIn 37 = .ok (.dup, 1) := by decide +kernel
theorem dX7_finalIn_38 : decode cX7_finalIn 38 = .ok (.ldc_w 284, 3) := by decide +kernel
theorem dX7_finalIn_41 : decode cX7_finalIn 41 = .ok (.invokespecial 229, 3) := by decide +kernel
theorem dX7_finalIn_44 : decode cX7_finalIn 44 = .ok (.athrow, 1) := by decide +kernel
theorem dX7_finalIn_45 : decode cX7_finalIn 45 = .ok (.aload_n 2, 1) := by decide +kernel
theorem dX7_finalIn_46 : decode cX7_finalIn 46 = .ok (.iload_n 1, 1) := by decide +kernel
theorem dX7_finalIn_47 : decode cX7_finalIn 47 = .ok (.invokevirtual 206, 3) := by decide +kernel
theorem dX7_finalIn_50 : decode cX7_finalIn 50 = .ok (.ifCond .eq 12, 3) := by decide +kernel
theorem dX7_finalIn_53 : decode cX7_finalIn 53 = .ok (.aload_n 2, 1) := by decide +kernel
theorem dX7_finalIn_54 : decode cX7_finalIn 54 = .ok (.getfield 286, 3) := by decide +kernel
theorem dX7_finalIn_57 : decode cX7_finalIn 57 = .ok (.iload_n 1, 1) := by decide +kernel
theorem dX7_finalIn_58 : decode cX7_finalIn 58 = .ok (.iaload, 1) := by decide +kernel
theorem dX7_finalIn_59 : decode cX7_finalIn 59 = .ok (.goto 11, 3) := by decide +kernel
theorem dX7_finalIn_62 : decode cX7_finalIn 62 = .ok (.aload_n 2, 1) := by decide +kernel
theorem dX7_finalIn_63 : decode cX7_finalIn 63 = .ok (.getfield 203, 3) := by decide +kernel
theorem dX7_finalIn_66 : decode cX7_finalIn 66 = .ok (.iload_n 1, 1) := by decide +kernel
theorem dX7_finalIn_67 : decode cX7_finalIn 67 = .ok (.iaload, 1) := by decide +kernel
theorem dX7_finalIn_68 : decode cX7_finalIn 68 = .ok (.iconst 4, 1) := by decide +kernel
theorem dX7_finalIn_69 : decode cX7_finalIn 69 = .ok (.iadd, 1) := by decide +kernel
theorem dX7_finalIn_70 : decode cX7_finalIn 70 = .ok (.ireturn, 1) := by decide +kernel
theorem dX7_doubtful_0 : decode cX7_doubtful 0 = .ok (.aload_n 0, 1) := by decide +kernel
theorem dX7_doubtful_1 : decode cX7_doubtful 1 = .ok (.getfield 10, 3) := by decide +kernel
theorem dX7_doubtful_4 : decode cX7_doubtful 4 = .ok (.getfield 86, 3) := by decide +kernel
theorem dX7_doubtful_7 : decode cX7_doubtful 7 = .ok (.iload_n 1, 1) := by decide +kernel
theorem dX7_doubtful_8 : decode cX7_doubtful 8 = .ok (.invokevirtual 289, 3) := by decide +kernel
theorem dX7_doubtful_11 : decode cX7_doubtful 11 = .ok (.istore_n 2, 1) := by decide +kernel
theorem dX7_doubtful_12 : decode cX7_doubtful 12 = .ok (.iload_n 2, 1) := by decide +kernel
theorem dX7_doubtful_13 : decode cX7_doubtful 13 = .ok (.iconst (-1), 1) := by decide +kernel
theorem dX7_doubtful_14 : decode cX7_doubtful 14 = .ok (.if_icmp .ne 13, 3) := by decide +kernel
theorem dX7_doubtful_17 : decode cX7_doubtful 17 = .ok (.new 225, 3) := by decide +kernel
theorem dX7_doubtful_20 : decode cX7_doubtful 20 = .ok (.dup, 1) := by decide +kernel
theorem dX7_doubtful_21 : decode cX7_doubtful 21 = .ok (.ldc 242, 2) := by decide +kernel
theorem dX7_doubtful_23 : decode cX7_doubtful 23 = .ok (.invokespecial 229, 3) := by decide +kernel
theorem dX7_doubtful_26 : decode cX7_doubtful 26 = .ok (.athrow, 1) := by decide +kernel
theorem dX7_doubtful_27 : decode cX7_doubtful 27 = .ok (.iload_n 2, 1) := by decide +kernel
theorem dX7_doubtful_28 : decode cX7_doubtful 28 = .ok (.ireturn, 1) := by decide +kernel
theorem dX7_line_0 : decode cX7_line 0 = .ok (.aload_n 0, 1) := by decide +kernel
theorem dX7_line_1 : decode cX7_line 1 = .ok (.getfield 10, 3) := by decide +kernel
theorem dX7_line_4 : decode cX7_line 4 = .ok (.getfield 103, 3) := by decide +kernel
theorem dX7_line_7 : decode cX7_line 7 = .ok (.iload_n 1, 1) := by decide +kernel
theorem dX7_line_8 : decode cX7_line 8 = .ok (.invokevirtual 110, 3) := by decide +kernel
theorem dX7_line_11 : decode cX7_line 11 = .ok (.ifCond .ne 13, 3) := by decide +kernel
theorem dX7_line_14 : decode cX7_line 14 = .ok (.new 114, 3) := by decide +kernel
theorem dX7_line_17 : decode cX7_line 17 = .ok (.dup, 1) := by decide +kernel
theorem dX7_line_18 : decode cX7_line 18 = .ok (.ldc 116, 2) := by decide +kernel
theorem dX7_line_20 : decode cX7_line 20 = .ok (.invokespecial 118, 3) := by decide +kernel
theorem dX7_line_23 : decode cX7_line 23 = .ok (.athrow, 1) := by decide +kernel
theorem dX7_line_24 : decode cX7_line 24 = .ok (.aload_n 0, 1) := by decide +kernel
theorem dX7_line_25 : decode cX7_line 25 = .ok (.getfield 50, 3) := by decide +kernel
theorem dX7_line_28 : decode cX7_line 28 = .ok (.aload_n 0, 1) := by decide +kernel
theorem dX7_line_29 : decode cX7_line 29 = .ok (.getfield 10, 3) := by decide +kernel
theorem dX7_line_32 : decode cX7_line 32 = .ok (.getfield 103, 3) := by decide +kernel
theorem dX7_line_35 : decode cX7_line 35 = .ok (.iload_n 1, 1) := by decide +kernel
theorem dX7_line_36 : decode cX7_line 36 = .ok (.invokevirtual 292, 3) := by decide +kernel
theorem dX7_line_39 : decode cX7_line 39 = .ok (.aload_n 0, 1) := by decide +kernel
theorem dX7_line_40 : decode cX7_line 40 = .ok (.getfield 50, 3) := by decide +kernel
theorem dX7_line_43 : decode cX7_line 43 = .ok (.getfield 296, 3) := by decide +kernel
theorem dX7_line_46 : decode cX7_line 46 = .ok (.ireturn, 1) := by decide +kernel
theorem dX7_rollLine_0 : decode cX7_rollLine 0 = .ok (.aload_n 0, 1) := by decide +kernel
theorem dX7_rollLine_1 : decode cX7_rollLine 1 = .ok (.getfield 50, 3) := by decide +kernel
theorem dX7_rollLine_4 : decode cX7_rollLine 4 = .ok (.aload_n 0, 1) := by decide +kernel
theorem dX7_rollLine_5 : decode cX7_rollLine 5 = .ok (.getfield 10, 3) := by decide +kernel
theorem dX7_rollLine_8 : decode cX7_rollLine 8 = .ok (.getfield 103, 3) := by decide +kernel
theorem dX7_rollLine_11 : decode cX7_rollLine 11 = .ok (.invokevirtual 299, 3) := by decide +kernel
theorem dX7_rollLine_14 : decode cX7_rollLine 14 = .ok (.aload_n 0, 1) := by decide +kernel
theorem dX7_rollLine_15 : decode cX7_rollLine 15 = .ok (.getfield 50, 3) := by decide +kernel
theorem dX7_rollLine_18 : decode cX7_rollLine 18 = .ok (.getfield 296, 3) := by decide +kernel
theorem dX7_rollLine_21 : decode cX7_rollLine 21 = .ok (.ireturn, 1) := by decide +kernel
theorem dX7_character_0 : decode cX7_character 0 = .ok (.iload_n 1, 1) := by decide +kernel
theorem dX7_character_1 : decode cX7_character 1 = .ok (.ifCond .lt 14, 3) := by decide +kernel
theorem dX7_character_4 : decode cX7_character 4 = .ok (.iload_n 1, 1) := by decide +kernel
theorem dX7_character_5 : decode cX7_character 5 = .ok (.aload_n 0, 1) := by decide +kernel
theorem dX7_character_6 : decode cX7_character 6 = .ok (.getfield 50, 3) := by decide +kernel
theorem dX7_character_9 : decode cX7_character 9 = .ok (.getfield 296, 3) := by decide +kernel
theorem dX7_character_12 : decode cX7_character 12 = .ok (.if_icmp .lt 14, 3) := by decide +kernel
theorem dX7_character_15 : decode cX7_character 15 = .ok (.new 114, 3) := by decide +kernel
theorem dX7_character_18 : decode cX7_character 18 = .ok (.dup, 1) := by decide +kernel
theorem dX7_character_19 : decode cX7_character 19 = .ok (.ldc_w 303, 3) := by decide +kernel
theorem dX7_character_22 : decode cX7_character 22 = .ok (.invokespecial 118, 3) := by decide +kernel
theorem dX7_character_25 : decode cX7_character 25 = .ok (.athrow, 1) := by decide +kernel
theorem dX7_character_26 : decode cX7_character 26 = .ok (.aload_n 0, 1) := by decide +kernel
theorem dX7_character_27 : decode cX7_character 27 = .ok (.getfield 50, 3) := by decide +kernel
theorem dX7_character_30 : decode cX7_character 30 = .ok (.getfield 305, 3) := by decide +kernel
theorem dX7_character_33 : decode cX7_character 33 = .ok (.iload_n 1, 1) := by decide +kernel
theorem dX7_character_34 : decode cX7_character 34 = .ok (.caload, 1) := by decide +kernel
theorem dX7_character_35 : decode cX7_character 35 = .ok (.ireturn, 1) := by decide +kernel
theorem dX7_append_0 : decode cX7_append 0 = .ok (.aload_n 0, 1) := by decide +kernel
theorem dX7_append_1 : decode cX7_append 1 = .ok (.getfield 43, 3) := by decide +kernel
theorem dX7_append_4 : decode cX7_append 4 = .ok (.getfield 309, 3) := by decide +kernel
theorem dX7_append_7 : decode cX7_append 7 = .ok (.bipush 60, 2) := by decide +kernel
theorem dX7_append_9 : decode cX7_append 9 = .ok (.if_icmp .lt 14, 3) := by decide +kernel
theorem dX7_append_12 : decode cX7_append 12 = .ok (.new 310, 3) := by decide +kernel
theorem dX7_append_15 : decode cX7_append 15 = .ok (.dup, 1) := by decide +kernel
theorem dX7_append_16 : decode cX7_append 16 = .ok (.ldc_w 312, 3) := by decide +kernel
theorem dX7_append_19 : decode cX7_append 19 = .ok (.invokespecial 314, 3) := by decide +kernel
theorem dX7_append_22 : decode cX7_append 22 = .ok (.athrow, 1) := by decide +kernel
theorem dX7_append_23 : decode cX7_append 23 = .ok (.aload_n 0, 1) := by decide +kernel
theorem dX7_append_24 : decode cX7_append 24 = .ok (.getfield 43, 3) := by decide +kernel
theorem dX7_append_27 : decode cX7_append 27 = .ok (.iload_n 1, 1) := by decide +kernel
theorem dX7_append_28 : decode cX7_append 28 = .ok (.invokevirtual 315, 3) := by decide +kernel
theorem dX7_append_31 : decode cX7_append 31 = .ok (.ireturn, 1) := by decide +kernel
theorem dX7_run_0 : decode cX7_run 0 = .ok (.aload_n 0, 1) := by decide +kernel
theorem dX7_run_1 : decode cX7_run 1 = .ok (.aload_n 0, 1) := by decide +kernel
theorem dX7_run_2 : decode cX7_run 2 = .ok (.getfield 43, 3) := by decide +kernel
theorem dX7_run_5 : decode cX7_run 5 = .ok (.invokevirtual 318, 3) := by decide +kernel
theorem dX7_run_8 : decode cX7_run 8 = .ok (.putfield 58, 3) := by decide +kernel
theorem dX7_run_11 : decode cX7_run 11 = .ok (.aload_n 0, 1) := by decide +kernel
theorem dX7_run_12 : decode cX7_run 12 = .ok (.getfield 58, 3) := by decide +kernel
theorem dX7_run_15 : decode cX7_run 15 = .ok (.iconst (-1), 1) := by decide +kernel
theorem dX7_run_16 : decode cX7_run 16 = .ok (.if_icmp .ne 10, 3) := by decide +kernel
theorem dX7_run_19 : decode cX7_run 19 = .ok (.aload_n 0, 1) := by decide +kernel
theorem dX7_run_20 : decode cX7_run 20 = .ok (.invokevirtual 321, 3) := by decide +kernel
theorem dX7_run_23 : decode cX7_run 23 = .ok (.goto 4, 3) := by decide +kernel
theorem dX7_run_26 : decode cX7_run 26 = .ok (.iconst 1, 1) := by decide +kernel
theorem dX7_run_27 : decode cX7_run 27 = .ok (.istore_n 1, 1) := by decide +kernel
theorem dX7_run_28 : decode cX7_run 28 = .ok (.aload_n 0, 1) := by decide +kernel
theorem dX7_run_29 : decode cX7_run 29 = .ok (.getfield 43, 3) := by decide +kernel
theorem dX7_run_32 : decode cX7_run 32 = .ok (.iconst 0, 1) := by decide +kernel
theorem dX7_run_33 : decode cX7_run 33 = .ok (.putfield 309, 3) := by decide +kernel
theorem dX7_run_36 : decode cX7_run 36 = .ok (.iload_n 1, 1) := by decide +kernel
theorem dX7_run_37 : decode cX7_run 37 = .ok (.iconst 1, 1) := by decide +kernel
theorem dX7_run_38 : decode cX7_run 38 = .ok (.if_icmp .ne 14, 3) := by decide +kernel
theorem dX7_run_41 : decode cX7_run 41 = .ok (.new 66, 3) := by decide +kernel
theorem dX7_run_44 : decode cX7_run 44 = .ok (.dup, 1) := by decide +kernel
theorem dX7_run_45 : decode cX7_run 45 = .ok (.ldc_w 324, 3) := by decide +kernel
theorem dX7_run_48 : decode cX7_run 48 = .ok (.invokespecial 70, 3) := by decide +kernel
theorem dX7_run_51 : decode cX7_run 51 = .ok (.athrow, 1) := by decide +kernel
theorem dX7_run_52 : decode cX7_run 52 = .ok (.iload_n 1, 1) := by decide +kernel
theorem dX7_run_53 : decode cX7_run 53 = .ok (.iconst 2, 1) := by decide +kernel
theorem dX7_run_54 : decode cX7_run 54 = .ok (.if_icmp .ne 14, 3) := by decide +kernel
theorem dX7_run_57 : decode cX7_run 57 = .ok (.new 77, 3) := by decide +kernel
theorem dX7_run_60 : decode cX7_run 60 = .ok (.dup, 1) := by decide +kernel
theorem dX7_run_61 : decode cX7_run 61 = .ok (.ldc_w 326, 3) := by decide +kernel
theorem dX7_run_64 : decode cX7_run 64 = .ok (.invokespecial 81, 3) := by decide +kernel
theorem dX7_run_67 : decode cX7_run 67 = .ok (.athrow, 1) := by decide +kernel
theorem dX7_run_68 : decode cX7_run 68 = .ok (.aload_n 0, 1) := by decide +kernel
theorem dX7_run_69 : decode cX7_run 69 = .ok (.getfield 43, 3) := by decide +kernel
theorem dX7_run_72 : decode cX7_run 72 = .ok (.getfield 328, 3) := by decide +kernel
theorem dX7_run_75 : decode cX7_run 75 = .ok (.ireturn, 1) := by decide +kernel
theorem dX7_errorPosition_0 : decode cX7_errorPosition 0 = .ok (.aload_n 0, 1) := by decide +kernel
theorem dX7_errorPosition_1 : decode cX7_errorPosition 1 = .ok (.getfield 58, 3) := by decide +kernel
theorem dX7_errorPosition_4 : decode cX7_errorPosition 4 = .ok (.ireturn, 1) := by decide +kernel
theorem dX7_refusal_0 : decode cX7_refusal 0 = .ok (.aload_n 0, 1) := by decide +kernel
theorem dX7_refusal_1 : decode cX7_refusal 1 = .ok (.getfield 29, 3) := by decide +kernel
theorem dX7_refusal_4 : decode cX7_refusal 4 = .ok (.getfield 331, 3) := by decide +kernel
theorem dX7_refusal_7 : decode cX7_refusal 7 = .ok (.ifCond .ne 14, 3) := by decide +kernel
theorem dX7_refusal_10 : decode cX7_refusal 10 = .ok (.new 225, 3) := by decide +kernel
theorem dX7_refusal_13 : decode cX7_refusal 13 = .ok (.dup, 1) := by decide +kernel
theorem dX7_refusal_14 : decode cX7_refusal 14 = .ok (.ldc_w 334, 3) := by decide +kernel
theorem dX7_refusal_17 : decode cX7_refusal 17 = .ok (.invokespecial 229, 3) := by decide +kernel
theorem dX7_refusal_20 : decode cX7_refusal 20 = .ok (.athrow, 1) := by decide +kernel
theorem dX7_refusal_21 : decode cX7_refusal 21 = .ok (.iload_n 1, 1) := by decide +kernel
theorem dX7_refusal_22 : decode cX7_refusal 22 = .ok (.ifCond .eq 13, 3) := by decide +kernel
theorem dX7_refusal_25 : decode cX7_refusal 25 = .ok (.aload_n 0, 1) := by decide +kernel
theorem dX7_refusal_26 : decode cX7_refusal 26 = .ok (.getfield 29, 3) := by decide +kernel
theorem dX7_refusal_29 : decode cX7_refusal 29 = .ok (.getfield 336, 3) := by decide +kernel
theorem dX7_refusal_32 : decode cX7_refusal 32 = .ok (.goto 10, 3) := by decide +kernel
theorem dX7_refusal_35 : decode cX7_refusal 35 = .ok (.aload_n 0, 1) := by decide +kernel
theorem dX7_refusal_36 : decode cX7_refusal 36 = .ok (.getfield 29, 3) := by decide +kernel
theorem dX7_refusal_39 : decode cX7_refusal 39 = .ok (.getfield 331, 3) := by decide +kernel
theorem dX7_refusal_42 : decode cX7_refusal 42 = .ok (.ireturn, 1) := by decide +kernel
theorem dX7_account_0 : decode cX7_account 0 = .ok (.iload_n 1, 1) := by decide +kernel
theorem dX7_account_1 : decode cX7_account 1 = .ok (.tableswitch 210 0 11 #[63, 74, 85, 93, 101, 112, 123, 131, 152, 173, 194, 202], 63) := by decide +kernel
theorem dX7_account_64 : decode cX7_account 64 = .ok (.aload_n 0, 1) := by decide +kernel
theorem dX7_account_65 : decode cX7_account 65 = .ok (.getfield 10, 3) := by decide +kernel
theorem dX7_account_68 : decode cX7_account 68 = .ok (.getfield 86, 3) := by decide +kernel
theorem dX7_account_71 : decode cX7_account 71 = .ok (.getfield 339, 3) := by decide +kernel
theorem dX7_account_74 : decode cX7_account 74 = .ok (.ireturn, 1) := by decide +kernel
theorem dX7_account_75 : decode cX7_account 75 = .ok (.aload_n 0, 1) := by decide +kernel
theorem dX7_account_76 : decode cX7_account 76 = .ok (.getfield 10, 3) := by decide +kernel
theorem dX7_account_79 : decode cX7_account 79 = .ok (.getfield 103, 3) := by decide +kernel
theorem dX7_account_82 : decode cX7_account 82 = .ok (.getfield 342, 3) := by decide +kernel
theorem dX7_account_85 : decode cX7_account 85 = .ok (.ireturn, 1) := by decide +kernel
theorem dX7_account_86 : decode cX7_account 86 = .ok (.aload_n 0, 1) := by decide +kernel
theorem dX7_account_87 : decode cX7_account 87 = .ok (.getfield 10, 3) := by decide +kernel
theorem dX7_account_90 : decode cX7_account 90 = .ok (.getfield 343, 3) := by decide +kernel
theorem dX7_account_93 : decode cX7_account 93 = .ok (.ireturn, 1) := by decide +kernel
theorem dX7_account_94 : decode cX7_account 94 = .ok (.aload_n 0, 1) := by decide +kernel
theorem dX7_account_95 : decode cX7_account 95 = .ok (.getfield 10, 3) := by decide +kernel
theorem dX7_account_98 : decode cX7_account 98 = .ok (.getfield 268, 3) := by decide +kernel
theorem dX7_account_101 : decode cX7_account 101 = .ok (.ireturn, 1) := by decide +kernel
theorem dX7_account_102 : decode cX7_account 102 = .ok (.aload_n 0, 1) := by decide +kernel
theorem dX7_account_103 : decode cX7_account 103 = .ok (.getfield 10, 3) := by decide +kernel
theorem dX7_account_106 : decode cX7_account 106 = .ok (.getfield 103, 3) := by decide +kernel
theorem dX7_account_109 : decode cX7_account 109 = .ok (.invokevirtual 346, 3) := by decide +kernel
theorem dX7_account_112 : decode cX7_account 112 = .ok (.ireturn, 1) := by decide +kernel
theorem dX7_account_113 : decode cX7_account 113 = .ok (.aload_n 0, 1) := by decide +kernel
theorem dX7_account_114 : decode cX7_account 114 = .ok (.getfield 10, 3) := by decide +kernel
theorem dX7_account_117 : decode cX7_account 117 = .ok (.getfield 103, 3) := by decide +kernel
theorem dX7_account_120 : decode cX7_account 120 = .ok (.invokevirtual 349, 3) := by decide +kernel
theorem dX7_account_123 : decode cX7_account 123 = .ok (.ireturn, 1) := by decide +kernel
theorem dX7_account_124 : decode cX7_account 124 = .ok (.aload_n 0, 1) := by decide +kernel
theorem dX7_account_125 : decode cX7_account 125 = .ok (.getfield 10, 3) := by decide +kernel
theorem dX7_account_128 : decode cX7_account 128 = .ok (.getfield 352, 3) := by decide +kernel
theorem dX7_account_131 : decode cX7_account 131 = .ok (.ireturn, 1) := by decide +kernel
theorem dX7_account_132 : decode cX7_account 132 = .ok (.aload_n 0, 1) := by decide +kernel
theorem dX7_account_133 : decode cX7_account 133 = .ok (.getfield 10, 3) := by decide +kernel
theorem dX7_account_136 : decode cX7_account 136 = .ok (.getfield 103, 3) := by decide +kernel
theorem dX7_account_139 : decode cX7_account 139 = .ok (.aload_n 0, 1) := by decide +kernel
theorem dX7_account_140 : decode cX7_account 140 = .ok (.getfield 10, 3) := by decide +kernel
theorem dX7_account_143 : decode cX7_account 143 = .ok (.getfield 103, 3) := by decide +kernel
theorem dX7_account_146 : decode cX7_account 146 = .ok (.getfield 209, 3) := by decide +kernel
theorem dX7_account_149 : decode cX7_account 149 = .ok (.invokevirtual 355, 3) := by decide +kernel
theorem dX7_account_152 : decode cX7_account 152 = .ok (.ireturn, 1) := by decide +kernel
theorem dX7_account_153 : decode cX7_account 153 = .ok (.aload_n 0, 1) := by decide +kernel
theorem dX7_account_154 : decode cX7_account 154 = .ok (.getfield 10, 3) := by decide +kernel
theorem dX7_account_157 : decode cX7_account 157 = .ok (.getfield 103, 3) := by decide +kernel
theorem dX7_account_160 : decode cX7_account 160 = .ok (.aload_n 0, 1) := by decide +kernel
theorem dX7_account_161 : decode cX7_account 161 = .ok (.getfield 10, 3) := by decide +kernel
theorem dX7_account_164 : decode cX7_account 164 = .ok (.getfield 103, 3) := by decide +kernel
theorem dX7_account_167 : decode cX7_account 167 = .ok (.getfield 212, 3) := by decide +kernel
theorem dX7_account_170 : decode cX7_account 170 = .ok (.invokevirtual 355, 3) := by decide +kernel
theorem dX7_account_173 : decode cX7_account 173 = .ok (.ireturn, 1) := by decide +kernel
theorem dX7_account_174 : decode cX7_account 174 = .ok (.aload_n 0, 1) := by decide +kernel
theorem dX7_account_175 : decode cX7_account 175 = .ok (.getfield 10, 3) := by decide +kernel
theorem dX7_account_178 : decode cX7_account 178 = .ok (.getfield 86, 3) := by decide +kernel
theorem dX7_account_181 : decode cX7_account 181 = .ok (.aload_n 0, 1) := by decide +kernel
theorem dX7_account_182 : decode cX7_account 182 = .ok (.getfield 10, 3) := by decide +kernel
theorem dX7_account_185 : decode cX7_account 185 = .ok (.getfield 86, 3) := by decide +kernel
theorem dX7_account_188 : decode cX7_account 188 = .ok (.getfield 177, 3) := by decide +kernel
theorem dX7_account_191 : decode cX7_account 191 = .ok (.invokevirtual 359, 3) := by decide +kernel
theorem dX7_account_194 : decode cX7_account 194 = .ok (.ireturn, 1) := by decide +kernel
theorem dX7_account_195 : decode cX7_account 195 = .ok (.aload_n 0, 1) := by decide +kernel
theorem dX7_account_196 : decode cX7_account 196 = .ok (.getfield 43, 3) := by decide +kernel
theorem dX7_account_199 : decode cX7_account 199 = .ok (.getfield 309, 3) := by decide +kernel
theorem dX7_account_202 : decode cX7_account 202 = .ok (.ireturn, 1) := by decide +kernel
theorem dX7_account_203 : decode cX7_account 203 = .ok (.aload_n 0, 1) := by decide +kernel
theorem dX7_account_204 : decode cX7_account 204 = .ok (.getfield 22, 3) := by decide +kernel
theorem dX7_account_207 : decode cX7_account 207 = .ok (.getfield 360, 3) := by decide +kernel
theorem dX7_account_210 : decode cX7_account 210 = .ok (.ireturn, 1) := by decide +kernel
theorem dX7_account_211 : decode cX7_account 211 = .ok (.new 66, 3) := by decide +kernel
theorem dX7_account_214 : decode cX7_account 214 = .ok (.dup, 1) := by decide +kernel
theorem dX7_account_215 : decode cX7_account 215 = .ok (.ldc_w 361, 3) := by decide +kernel
theorem dX7_account_218 : decode cX7_account 218 = .ok (.invokespecial 70, 3) := by decide +kernel
theorem dX7_account_221 : decode cX7_account 221 = .ok (.athrow, 1) := by decide +kernel
theorem dX7_isWell_0 : decode cX7_isWell 0 = .ok (.aload_n 0, 1) := by decide +kernel
theorem dX7_isWell_1 : decode cX7_isWell 1 = .ok (.getfield 10, 3) := by decide +kernel
theorem dX7_isWell_4 : decode cX7_isWell 4 = .ok (.invokevirtual 363, 3) := by decide +kernel
theorem dX7_isWell_7 : decode cX7_isWell 7 = .ok (.ifCond .eq 37, 3) := by decide +kernel
theorem dX7_isWell_10 : decode cX7_isWell 10 = .ok (.aload_n 0, 1) := by decide +kernel
theorem dX7_isWell_11 : decode cX7_isWell 11 = .ok (.getfield 10, 3) := by decide +kernel
theorem dX7_isWell_14 : decode cX7_isWell 14 = .ok (.invokevirtual 367, 3) := by decide +kernel
theorem dX7_isWell_17 : decode cX7_isWell 17 = .ok (.ifCond .eq 27, 3) := by decide +kernel
theorem dX7_isWell_20 : decode cX7_isWell 20 = .ok (.aload_n 0, 1) := by decide +kernel
theorem dX7_isWell_21 : decode cX7_isWell 21 = .ok (.getfield 10, 3) := by decide +kernel
theorem dX7_isWell_24 : decode cX7_isWell 24 = .ok (.invokevirtual 370, 3) := by decide +kernel
theorem dX7_isWell_27 : decode cX7_isWell 27 = .ok (.ifCond .eq 17, 3) := by decide +kernel
theorem dX7_isWell_30 : decode cX7_isWell 30 = .ok (.aload_n 0, 1) := by decide +kernel
theorem dX7_isWell_31 : decode cX7_isWell 31 = .ok (.getfield 10, 3) := by decide +kernel
theorem dX7_isWell_34 : decode cX7_isWell 34 = .ok (.invokevirtual 373, 3) := by decide +kernel
theorem dX7_isWell_37 : decode cX7_isWell 37 = .ok (.ifCond .eq 7, 3) := by decide +kernel
theorem dX7_isWell_40 : decode cX7_isWell 40 = .ok (.iconst 1, 1) := by decide +kernel
theorem dX7_isWell_41 : decode cX7_isWell 41 = .ok (.goto 4, 3) := by decide +kernel
theorem dX7_isWell_44 : decode cX7_isWell 44 = .ok (.iconst 0, 1) := by decide +kernel
theorem dX7_isWell_45 : decode cX7_isWell 45 = .ok (.ireturn, 1) := by decide +kernel
theorem dX7_meanLeaning_0 : decode cX7_meanLeaning 0 = .ok (.aload_n 0, 1) := by decide +kernel
theorem dX7_meanLeaning_1 : decode cX7_meanLeaning 1 = .ok (.getfield 10, 3) := by decide +kernel
theorem dX7_meanLeaning_4 : decode cX7_meanLeaning 4 = .ok (.getfield 86, 3) := by decide +kernel
theorem dX7_meanLeaning_7 : decode cX7_meanLeaning 7 = .ok (.getfield 339, 3) := by decide +kernel
theorem dX7_meanLeaning_10 : decode cX7_meanLeaning 10 = .ok (.istore_n 1, 1) := by decide +kernel
theorem dX7_meanLeaning_11 : decode cX7_meanLeaning 11 = .ok (.iload_n 1, 1) := by decide +kernel
theorem dX7_meanLeaning_12 : decode cX7_meanLeaning 12 = .ok (.ifCond .ne 14, 3) := by decide +kernel
theorem dX7_meanLeaning_15 : decode cX7_meanLeaning 15 = .ok (.new 376, 3) := by decide +kernel
theorem dX7_meanLeaning_18 : decode cX7_meanLeaning 18 = .ok (.dup, 1) := by decide +kernel
theorem dX7_meanLeaning_19 : decode cX7_meanLeaning 19 = .ok (.ldc_w 378, 3) := by decide +kernel
theorem dX7_meanLeaning_22 : decode cX7_meanLeaning 22 = .ok (.invokespecial 380, 3) := by decide +kernel
theorem dX7_meanLeaning_25 : decode cX7_meanLeaning 25 = .ok (.athrow, 1) := by decide +kernel
theorem dX7_meanLeaning_26 : decode cX7_meanLeaning 26 = .ok (.aload_n 0, 1) := by decide +kernel
theorem dX7_meanLeaning_27 : decode cX7_meanLeaning 27 = .ok (.getfield 10, 3) := by decide +kernel
theorem dX7_meanLeaning_30 : decode cX7_meanLeaning 30 = .ok (.getfield 86, 3) := by decide +kernel
theorem dX7_meanLeaning_33 : decode cX7_meanLeaning 33 = .ok (.aload_n 0, 1) := by decide +kernel
theorem dX7_meanLeaning_34 : decode cX7_meanLeaning 34 = .ok (.getfield 10, 3) := by decide +kernel
theorem dX7_meanLeaning_37 : decode cX7_meanLeaning 37 = .ok (.getfield 86, 3) := by decide +kernel
theorem dX7_meanLeaning_40 : decode cX7_meanLeaning 40 = .ok (.getfield 173, 3) := by decide +kernel
theorem dX7_meanLeaning_43 : decode cX7_meanLeaning 43 = .ok (.invokevirtual 359, 3) := by decide +kernel
theorem dX7_meanLeaning_46 : decode cX7_meanLeaning 46 = .ok (.i2d, 1) := by decide +kernel
theorem dX7_meanLeaning_47 : decode cX7_meanLeaning 47 = .ok (.iload_n 1, 1) := by decide +kernel
theorem dX7_meanLeaning_48 : decode cX7_meanLeaning 48 = .ok (.i2d, 1) := by decide +kernel
theorem dX7_meanLeaning_49 : decode cX7_meanLeaning 49 = .ok (.ddiv, 1) := by decide +kernel
theorem dX7_meanLeaning_50 : decode cX7_meanLeaning 50 = .ok (.dreturn, 1) := by decide +kernel
theorem dX7_unsaidShare_0 : decode cX7_unsaidShare 0 = .ok (.aload_n 0, 1) := by decide +kernel
theorem dX7_unsaidShare_1 : decode cX7_unsaidShare 1 = .ok (.getfield 10, 3) := by decide +kernel
theorem dX7_unsaidShare_4 : decode cX7_unsaidShare 4 = .ok (.getfield 352, 3) := by decide +kernel
theorem dX7_unsaidShare_7 : decode cX7_unsaidShare 7 = .ok (.ifCond .ne 14, 3) := by decide +kernel
theorem dX7_unsaidShare_10 : decode cX7_unsaidShare 10 = .ok (.new 376, 3) := by decide +kernel
theorem dX7_unsaidShare_13 : decode cX7_unsaidShare 13 = .ok (.dup, 1) := by decide +kernel
theorem dX7_unsaidShare_14 : decode cX7_unsaidShare 14 = .ok (.ldc_w 381, 3) := by decide +kernel
theorem dX7_unsaidShare_17 : decode cX7_unsaidShare 17 = .ok (.invokespecial 380, 3) := by decide +kernel
theorem dX7_unsaidShare_20 : decode cX7_unsaidShare 20 = .ok (.athrow, 1) := by decide +kernel
theorem dX7_unsaidShare_21 : decode cX7_unsaidShare 21 = .ok (.aload_n 0, 1) := by decide +kernel
theorem dX7_unsaidShare_22 : decode cX7_unsaidShare 22 = .ok (.getfield 10, 3) := by decide +kernel
theorem dX7_unsaidShare_25 : decode cX7_unsaidShare 25 = .ok (.getfield 103, 3) := by decide +kernel
theorem dX7_unsaidShare_28 : decode cX7_unsaidShare 28 = .ok (.aload_n 0, 1) := by decide +kernel
theorem dX7_unsaidShare_29 : decode cX7_unsaidShare 29 = .ok (.getfield 10, 3) := by decide +kernel
theorem dX7_unsaidShare_32 : decode cX7_unsaidShare 32 = .ok (.getfield 103, 3) := by decide +kernel
theorem dX7_unsaidShare_35 : decode cX7_unsaidShare 35 = .ok (.getfield 209, 3) := by decide +kernel
theorem dX7_unsaidShare_38 : decode cX7_unsaidShare 38 = .ok (.invokevirtual 355, 3) := by decide +kernel
theorem dX7_unsaidShare_41 : decode cX7_unsaidShare 41 = .ok (.i2f, 1) := by decide +kernel
theorem dX7_unsaidShare_42 : decode cX7_unsaidShare 42 = .ok (.aload_n 0, 1) := by decide +kernel
theorem dX7_unsaidShare_43 : decode cX7_unsaidShare 43 = .ok (.getfield 10, 3) := by decide +kernel
theorem dX7_unsaidShare_46 : decode cX7_unsaidShare 46 = .ok (.getfield 352, 3) := by decide +kernel
theorem dX7_unsaidShare_49 : decode cX7_unsaidShare 49 = .ok (.i2f, 1) := by decide +kernel
theorem dX7_unsaidShare_50 : decode cX7_unsaidShare 50 = .ok (.fdiv, 1) := by decide +kernel
theorem dX7_unsaidShare_51 : decode cX7_unsaidShare 51 = .ok (.freturn, 1) := by decide +kernel
theorem dX7_undo_0 : decode cX7_undo 0 = .ok (.aload_n 0, 1) := by decide +kernel
theorem dX7_undo_1 : decode cX7_undo 1 = .ok (.getfield 22, 3) := by decide +kernel
theorem dX7_undo_4 : decode cX7_undo 4 = .ok (.getfield 360, 3) := by decide +kernel
theorem dX7_undo_7 : decode cX7_undo 7 = .ok (.ifCond .ne 14, 3) := by decide +kernel
theorem dX7_undo_10 : decode cX7_undo 10 = .ok (.new 310, 3) := by decide +kernel
theorem dX7_undo_13 : decode cX7_undo 13 = .ok (.dup, 1) := by decide +kernel
theorem dX7_undo_14 : decode cX7_undo 14 = .ok (.ldc_w 383, 3) := by decide +kernel
theorem dX7_undo_17 : decode cX7_undo 17 = .ok (.invokespecial 314, 3) := by decide +kernel
theorem dX7_undo_20 : decode cX7_undo 20 = .ok (.athrow, 1) := by decide +kernel
theorem dX7_undo_21 : decode cX7_undo 21 = .ok (.aload_n 0, 1) := by decide +kernel
theorem dX7_undo_22 : decode cX7_undo 22 = .ok (.getfield 22, 3) := by decide +kernel
theorem dX7_undo_25 : decode cX7_undo 25 = .ok (.aload_n 0, 1) := by decide +kernel
theorem dX7_undo_26 : decode cX7_undo 26 = .ok (.getfield 10, 3) := by decide +kernel
theorem dX7_undo_29 : decode cX7_undo 29 = .ok (.invokevirtual 385, 3) := by decide +kernel
theorem dX7_undo_32 : decode cX7_undo 32 = .ok (.aload_n 0, 1) := by decide +kernel
theorem dX7_undo_33 : decode cX7_undo 33 = .ok (.getfield 22, 3) := by decide +kernel
theorem dX7_undo_36 : decode cX7_undo 36 = .ok (.getfield 360, 3) := by decide +kernel
theorem dX7_undo_39 : decode cX7_undo 39 = .ok (.ireturn, 1) := by decide +kernel
theorem dX7_save_0 : decode cX7_save 0 = .ok (.aload_n 0, 1) := by decide +kernel
theorem dX7_save_1 : decode cX7_save 1 = .ok (.getfield 16, 3) := by decide +kernel
theorem dX7_save_4 : decode cX7_save 4 = .ok (.aload_n 0, 1) := by decide +kernel
theorem dX7_save_5 : decode cX7_save 5 = .ok (.getfield 10, 3) := by decide +kernel
theorem dX7_save_8 : decode cX7_save 8 = .ok (.invokevirtual 388, 3) := by decide +kernel
theorem dX7_save_11 : decode cX7_save 11 = .ok (.aload_n 0, 1) := by decide +kernel
theorem dX7_save_12 : decode cX7_save 12 = .ok (.iconst 1, 1) := by decide +kernel
theorem dX7_save_13 : decode cX7_save 13 = .ok (.putfield 54, 3) := by decide +kernel
theorem dX7_save_16 : decode cX7_save 16 = .ok (.aload_n 0, 1) := by decide +kernel
theorem dX7_save_17 : decode cX7_save 17 = .ok (.getfield 10, 3) := by decide +kernel
theorem dX7_save_20 : decode cX7_save 20 = .ok (.getfield 103, 3) := by decide +kernel
theorem dX7_save_23 : decode cX7_save 23 = .ok (.getfield 342, 3) := by decide +kernel
theorem dX7_save_26 : decode cX7_save 26 = .ok (.ireturn, 1) := by decide +kernel
theorem dX7_restore_0 : decode cX7_restore 0 = .ok (.aload_n 0, 1) := by decide +kernel
theorem dX7_restore_1 : decode cX7_restore 1 = .ok (.getfield 54, 3) := by decide +kernel
theorem dX7_restore_4 : decode cX7_restore 4 = .ok (.ifCond .ne 14, 3) := by decide +kernel
theorem dX7_restore_7 : decode cX7_restore 7 = .ok (.new 310, 3) := by decide +kernel
theorem dX7_restore_10 : decode cX7_restore 10 = .ok (.dup, 1) := by decide +kernel
theorem dX7_restore_11 : decode cX7_restore 11 = .ok (.ldc_w 390, 3) := by decide +kernel
theorem dX7_restore_14 : decode cX7_restore 14 = .ok (.invokespecial 314, 3) := by decide +kernel
theorem dX7_restore_17 : decode cX7_restore 17 = .ok (.athrow, 1) := by decide +kernel
theorem dX7_restore_18 : decode cX7_restore 18 = .ok (.aload_n 0, 1) := by decide +kernel
theorem dX7_restore_19 : decode cX7_restore 19 = .ok (.getfield 10, 3) := by decide +kernel
theorem dX7_restore_22 : decode cX7_restore 22 = .ok (.aload_n 0, 1) := by decide +kernel
theorem dX7_restore_23 : decode cX7_restore 23 = .ok (.getfield 16, 3) := by decide +kernel
theorem dX7_restore_26 : decode cX7_restore 26 = .ok (.invokevirtual 388, 3) := by decide +kernel
theorem dX7_restore_29 : decode cX7_restore 29 = .ok (.aload_n 0, 1) := by decide +kernel
theorem dX7_restore_30 : decode cX7_restore 30 = .ok (.getfield 22, 3) := by decide +kernel
theorem dX7_restore_33 : decode cX7_restore 33 = .ok (.iconst 0, 1) := by decide +kernel
theorem dX7_restore_34 : decode cX7_restore 34 = .ok (.putfield 360, 3) := by decide +kernel
theorem dX7_restore_37 : decode cX7_restore 37 = .ok (.aload_n 0, 1) := by decide +kernel
theorem dX7_restore_38 : decode cX7_restore 38 = .ok (.getfield 10, 3) := by decide +kernel
theorem dX7_restore_41 : decode cX7_restore 41 = .ok (.getfield 103, 3) := by decide +kernel
theorem dX7_restore_44 : decode cX7_restore 44 = .ok (.getfield 342, 3) := by decide +kernel
theorem dX7_restore_47 : decode cX7_restore 47 = .ok (.ireturn, 1) := by decide +kernel
theorem dX7_carryOutText_0 : decode cX7_carryOutText 0 = .ok (.aload_n 0, 1) := by decide +kernel
theorem dX7_carryOutText_1 : decode cX7_carryOutText 1 = .ok (.getfield 22, 3) := by decide +kernel
theorem dX7_carryOutText_4 : decode cX7_carryOutText 4 = .ok (.aload_n 0, 1) := by decide +kernel
theorem dX7_carryOutText_5 : decode cX7_carryOutText 5 = .ok (.getfield 10, 3) := by decide +kernel
theorem dX7_carryOutText_8 : decode cX7_carryOutText 8 = .ok (.invokevirtual 392, 3) := by decide +kernel
theorem dX7_carryOutText_11 : decode cX7_carryOutText 11 = .ok (.aload_n 0, 1) := by decide +kernel
theorem dX7_carryOutText_12 : decode cX7_carryOutText 12 = .ok (.getfield 43, 3) := by decide +kernel
theorem dX7_carryOutText_15 : decode cX7_carryOutText 15 = .ok (.invokevirtual 395, 3) := by decide +kernel
theorem dX7_carryOutText_18 : decode cX7_carryOutText 18 = .ok (.iconst 0, 1) := by decide +kernel
theorem dX7_carryOutText_19 : decode cX7_carryOutText 19 = .ok (.istore_n 1, 1) := by decide +kernel
theorem dX7_carryOutText_20 : decode cX7_carryOutText 20 = .ok (.iconst 0, 1) := by decide +kernel
theorem dX7_carryOutText_21 : decode cX7_carryOutText 21 = .ok (.istore_n 2, 1) := by decide +kernel
theorem dX7_carryOutText_22 : decode cX7_carryOutText 22 = .ok (.iload_n 2, 1) := by decide +kernel
theorem dX7_carryOutText_23 : decode cX7_carryOutText 23 = .ok (.aload_n 0, 1) := by decide +kernel
theorem dX7_carryOutText_24 : decode cX7_carryOutText 24 = .ok (.getfield 43, 3) := by decide +kernel
theorem dX7_carryOutText_27 : decode cX7_carryOutText 27 = .ok (.getfield 328, 3) := by decide +kernel
theorem dX7_carryOutText_30 : decode cX7_carryOutText 30 = .ok (.if_icmp .ge 118, 3) := by decide +kernel
theorem dX7_carryOutText_33 : decode cX7_carryOutText 33 = .ok (.iload_n 1, 1) := by decide +kernel
theorem dX7_carryOutText_34 : decode cX7_carryOutText 34 = .ok (.ifCond .ne 114, 3) := by decide +kernel
theorem dX7_carryOutText_37 : decode cX7_carryOutText 37 = .ok (.aload_n 0, 1) := by decide +kernel
theorem dX7_carryOutText_38 : decode cX7_carryOutText 38 = .ok (.getfield 43, 3) := by decide +kernel
theorem dX7_carryOutText_41 : decode cX7_carryOutText 41 = .ok (.invokevirtual 398, 3) := by decide +kernel
theorem dX7_carryOutText_44 : decode cX7_carryOutText 44 = .ok (.pop, 1) := by decide +kernel
theorem dX7_carryOutText_45 : decode cX7_carryOutText 45 = .ok (.aload_n 0, 1) := by decide +kernel
theorem dX7_carryOutText_46 : decode cX7_carryOutText 46 = .ok (.getfield 10, 3) := by decide +kernel
theorem dX7_carryOutText_49 : decode cX7_carryOutText 49 = .ok (.aload_n 0, 1) := by decide +kernel
theorem dX7_carryOutText_50 : decode cX7_carryOutText 50 = .ok (.getfield 43, 3) := by decide +kernel
theorem dX7_carryOutText_53 : decode cX7_carryOutText 53 = .ok (.getfield 401, 3) := by decide +kernel
theorem dX7_carryOutText_56 : decode cX7_carryOutText 56 = .ok (.aload_n 0, 1) := by decide +kernel
theorem dX7_carryOutText_57 : decode cX7_carryOutText 57 = .ok (.getfield 43, 3) := by decide +kernel
theorem dX7_carryOutText_60 : decode cX7_carryOutText 60 = .ok (.getfield 404, 3) := by decide +kernel
theorem dX7_carryOutText_63 : decode cX7_carryOutText 63 = .ok (.aload_n 0, 1) := by decide +kernel
theorem dX7_carryOutText_64 : decode cX7_carryOutText 64 = .ok (.getfield 43, 3) := by decide +kernel
theorem dX7_carryOutText_67 : decode cX7_carryOutText 67 = .ok (.getfield 407, 3) := by decide +kernel
theorem dX7_carryOutText_70 : decode cX7_carryOutText 70 = .ok (.invokevirtual 410, 3) := by decide +kernel
theorem dX7_carryOutText_73 : decode cX7_carryOutText 73 = .ok (.ifCond .ne 8, 3) := by decide +kernel
theorem dX7_carryOutText_76 : decode cX7_carryOutText 76 = .ok (.iconst 1, 1) := by decide +kernel
theorem dX7_carryOutText_77 : decode cX7_carryOutText 77 = .ok (.istore_n 1, 1) := by decide +kernel
theorem dX7_carryOutText_78 : decode cX7_carryOutText 78 = .ok (.goto 64, 3) := by decide +kernel
theorem dX7_carryOutText_81 : decode cX7_carryOutText 81 = .ok (.aload_n 0, 1) := by decide +kernel
theorem dX7_carryOutText_82 : decode cX7_carryOutText 82 = .ok (.getfield 29, 3) := by decide +kernel
theorem dX7_carryOutText_85 : decode cX7_carryOutText 85 = .ok (.aload_n 0, 1) := by decide +kernel
theorem dX7_carryOutText_86 : decode cX7_carryOutText 86 = .ok (.getfield 10, 3) := by decide +kernel
theorem dX7_carryOutText_89 : decode cX7_carryOutText 89 = .ok (.aload_n 0, 1) := by decide +kernel
theorem dX7_carryOutText_90 : decode cX7_carryOutText 90 = .ok (.getfield 43, 3) := by decide +kernel
theorem dX7_carryOutText_93 : decode cX7_carryOutText 93 = .ok (.getfield 401, 3) := by decide +kernel
theorem dX7_carryOutText_96 : decode cX7_carryOutText 96 = .ok (.aload_n 0, 1) := by decide +kernel
theorem dX7_carryOutText_97 : decode cX7_carryOutText 97 = .ok (.getfield 43, 3) := by decide +kernel
theorem dX7_carryOutText_100 : decode cX7_carryOutText 100 = .ok (.getfield 404, 3) := by decide +kernel
theorem dX7_carryOutText_103 : decode cX7_carryOutText 103 = .ok (.invokevirtual 414, 3) := by decide +kernel
theorem dX7_carryOutText_106 : decode cX7_carryOutText 106 = .ok (.ifCond .eq 8, 3) := by decide +kernel
theorem dX7_carryOutText_109 : decode cX7_carryOutText 109 = .ok (.iconst 2, 1) := by decide +kernel
theorem dX7_carryOutText_110 : decode cX7_carryOutText 110 = .ok (.istore_n 1, 1) := by decide +kernel
theorem dX7_carryOutText_111 : decode cX7_carryOutText 111 = .ok (.goto 31, 3) := by decide +kernel
theorem dX7_carryOutText_114 : decode cX7_carryOutText 114 = .ok (.aload_n 0, 1) := by decide +kernel
theorem dX7_carryOutText_115 : decode cX7_carryOutText 115 = .ok (.getfield 10, 3) := by decide +kernel
theorem dX7_carryOutText_118 : decode cX7_carryOutText 118 = .ok (.aload_n 0, 1) := by decide +kernel
theorem dX7_carryOutText_119 : decode cX7_carryOutText 119 = .ok (.getfield 43, 3) := by decide +kernel
theorem dX7_carryOutText_122 : decode cX7_carryOutText 122 = .ok (.getfield 401, 3) := by decide +kernel
theorem dX7_carryOutText_125 : decode cX7_carryOutText 125 = .ok (.aload_n 0, 1) := by decide +kernel
theorem dX7_carryOutText_126 : decode cX7_carryOutText 126 = .ok (.getfield 43, 3) := by decide +kernel
theorem dX7_carryOutText_129 : decode cX7_carryOutText 129 = .ok (.getfield 404, 3) := by decide +kernel
theorem dX7_carryOutText_132 : decode cX7_carryOutText 132 = .ok (.aload_n 0, 1) := by decide +kernel
theorem dX7_carryOutText_133 : decode cX7_carryOutText 133 = .ok (.getfield 43, 3) := by decide +kernel
theorem dX7_carryOutText_136 : decode cX7_carryOutText 136 = .ok (.getfield 407, 3) := by decide +kernel
theorem dX7_carryOutText_139 : decode cX7_carryOutText 139 = .ok (.invokevirtual 418, 3) := by decide +kernel
theorem dX7_carryOutText_142 : decode cX7_carryOutText 142 = .ok (.iinc 2 1, 3) := by decide +kernel
theorem dX7_carryOutText_145 : decode cX7_carryOutText 145 = .ok (.goto (-123), 3) := by decide +kernel
theorem dX7_carryOutText_148 : decode cX7_carryOutText 148 = .ok (.iload_n 1, 1) := by decide +kernel
theorem dX7_carryOutText_149 : decode cX7_carryOutText 149 = .ok (.ifCond .ne 13, 3) := by decide +kernel
theorem dX7_carryOutText_152 : decode cX7_carryOutText 152 = .ok (.aload_n 0, 1) := by decide +kernel
theorem dX7_carryOutText_153 : decode cX7_carryOutText 153 = .ok (.getfield 22, 3) := by decide +kernel
theorem dX7_carryOutText_156 : decode cX7_carryOutText 156 = .ok (.invokevirtual 422, 3) := by decide +kernel
theorem dX7_carryOutText_159 : decode cX7_carryOutText 159 = .ok (.goto 14, 3) := by decide +kernel
theorem dX7_carryOutText_162 : decode cX7_carryOutText 162 = .ok (.aload_n 0, 1) := by decide +kernel
theorem dX7_carryOutText_163 : decode cX7_carryOutText 163 = .ok (.getfield 22, 3) := by decide +kernel
theorem dX7_carryOutText_166 : decode cX7_carryOutText 166 = .ok (.aload_n 0, 1) := by decide +kernel
theorem dX7_carryOutText_167 : decode cX7_carryOutText 167 = .ok (.getfield 10, 3) := by decide +kernel
theorem dX7_carryOutText_170 : decode cX7_carryOutText 170 = .ok (.invokevirtual 425, 3) := by decide +kernel
theorem dX7_carryOutText_173 : decode cX7_carryOutText 173 = .ok (.iload_n 1, 1) := by decide +kernel
theorem dX7_carryOutText_174 : decode cX7_carryOutText 174 = .ok (.ireturn, 1) := by decide +kernel
theorem dX7_isJurorRight_0 : decode cX7_isJurorRight 0 = .ok (.iload_n 0, 1) := by decide +kernel
theorem dX7_isJurorRight_1 : decode cX7_isJurorRight 1 = .ok (.bipush (-9), 2) := by decide +kernel
theorem dX7_isJurorRight_3 : decode cX7_isJurorRight 3 = .ok (.if_icmp .lt 23, 3) := by decide +kernel
theorem dX7_isJurorRight_6 : decode cX7_isJurorRight 6 = .ok (.iload_n 0, 1) := by decide +kernel
theorem dX7_isJurorRight_7 : decode cX7_isJurorRight 7 = .ok (.bipush 9, 2) := by decide +kernel
theorem dX7_isJurorRight_9 : decode cX7_isJurorRight 9 = .ok (.if_icmp .gt 17, 3) := by decide +kernel
theorem dX7_isJurorRight_12 : decode cX7_isJurorRight 12 = .ok (.iload_n 1, 1) := by decide +kernel
theorem dX7_isJurorRight_13 : decode cX7_isJurorRight 13 = .ok (.ifCond .lt 13, 3) := by decide +kernel
theorem dX7_isJurorRight_16 : decode cX7_isJurorRight 16 = .ok (.iload_n 1, 1) := by decide +kernel
theorem dX7_isJurorRight_17 : decode cX7_isJurorRight 17 = .ok (.bipush 9, 2) := by decide +kernel
theorem dX7_isJurorRight_19 : decode cX7_isJurorRight 19 = .ok (.if_icmp .gt 7, 3) := by decide +kernel
theorem dX7_isJurorRight_22 : decode cX7_isJurorRight 22 = .ok (.iconst 1, 1) := by decide +kernel
theorem dX7_isJurorRight_23 : decode cX7_isJurorRight 23 = .ok (.goto 4, 3) := by decide +kernel
theorem dX7_isJurorRight_26 : decode cX7_isJurorRight 26 = .ok (.iconst 0, 1) := by decide +kernel
theorem dX7_isJurorRight_27 : decode cX7_isJurorRight 27 = .ok (.ireturn, 1) := by decide +kernel
theorem dX7_isCaseRight_0 : decode cX7_isCaseRight 0 = .ok (.iload_n 0, 1) := by decide +kernel
theorem dX7_isCaseRight_1 : decode cX7_isCaseRight 1 = .ok (.ifCond .lt 23, 3) := by decide +kernel
theorem dX7_isCaseRight_4 : decode cX7_isCaseRight 4 = .ok (.iload_n 0, 1) := by decide +kernel
theorem dX7_isCaseRight_5 : decode cX7_isCaseRight 5 = .ok (.bipush 100, 2) := by decide +kernel
theorem dX7_isCaseRight_7 : decode cX7_isCaseRight 7 = .ok (.if_icmp .gt 17, 3) := by decide +kernel
theorem dX7_isCaseRight_10 : decode cX7_isCaseRight 10 = .ok (.iload_n 1, 1) := by decide +kernel
theorem dX7_isCaseRight_11 : decode cX7_isCaseRight 11 = .ok (.ifCond .lt 13, 3) := by decide +kernel
theorem dX7_isCaseRight_14 : decode cX7_isCaseRight 14 = .ok (.iload_n 1, 1) := by decide +kernel
theorem dX7_isCaseRight_15 : decode cX7_isCaseRight 15 = .ok (.bipush 99, 2) := by decide +kernel
theorem dX7_isCaseRight_17 : decode cX7_isCaseRight 17 = .ok (.if_icmp .gt 7, 3) := by decide +kernel
theorem dX7_isCaseRight_20 : decode cX7_isCaseRight 20 = .ok (.iconst 1, 1) := by decide +kernel
theorem dX7_isCaseRight_21 : decode cX7_isCaseRight 21 = .ok (.goto 4, 3) := by decide +kernel
theorem dX7_isCaseRight_24 : decode cX7_isCaseRight 24 = .ok (.iconst 0, 1) := by decide +kernel
theorem dX7_isCaseRight_25 : decode cX7_isCaseRight 25 = .ok (.ireturn, 1) := by decide +kernel
theorem dX7_isIn_0 : decode cX7_isIn 0 = .ok (.iload_n 0, 1) := by decide +kernel
theorem dX7_isIn_1 : decode cX7_isIn 1 = .ok (.iload_n 1, 1) := by decide +kernel
theorem dX7_isIn_2 : decode cX7_isIn 2 = .ok (.ishr, 1) := by decide +kernel
theorem dX7_isIn_3 : decode cX7_isIn 3 = .ok (.iconst 1, 1) := by decide +kernel
theorem dX7_isIn_4 : decode cX7_isIn 4 = .ok (.iand, 1) := by decide +kernel
theorem dX7_isIn_5 : decode cX7_isIn 5 = .ok (.iconst 1, 1) := by decide +kernel
theorem dX7_isIn_6 : decode cX7_isIn 6 = .ok (.if_icmp .ne 7, 3) := by decide +kernel
theorem dX7_isIn_9 : decode cX7_isIn 9 = .ok (.iconst 1, 1) := by decide +kernel
theorem dX7_isIn_10 : decode cX7_isIn 10 = .ok (.goto 4, 3) := by decide +kernel
theorem dX7_isIn_13 : decode cX7_isIn 13 = .ok (.iconst 0, 1) := by decide +kernel
theorem dX7_isIn_14 : decode cX7_isIn 14 = .ok (.ireturn, 1) := by decide +kernel
theorem dX8_init_0 : decode cX8_init 0 = .ok (.aload_n 0, 1) := by decide +kernel
theorem dX8_init_1 : decode cX8_init 1 = .ok (.invokespecial 1, 3) := by decide +kernel
theorem dX8_init_4 : decode cX8_init 4 = .ok (.aload_n 0, 1) := by decide +kernel
theorem dX8_init_5 : decode cX8_init 5 = .ok (.bipush 124, 2) := by decide +kernel
theorem dX8_init_7 : decode cX8_init 7 = .ok (.newarray .int, 2) := by decide +kernel
theorem dX8_init_9 : decode cX8_init 9 = .ok (.putfield 7, 3) := by decide +kernel
theorem dX8_init_12 : decode cX8_init 12 = .ok (.aload_n 0, 1) := by decide +kernel
theorem dX8_init_13 : decode cX8_init 13 = .ok (.sipush 992, 3) := by decide +kernel
theorem dX8_init_16 : decode cX8_init 16 = .ok (.newarray .int, 2) := by decide +kernel
theorem dX8_init_18 : decode cX8_init 18 = .ok (.putfield 13, 3) := by decide +kernel
theorem dX8_init_21 : decode cX8_init 21 = .ok (.aload_n 0, 1) := by decide +kernel
theorem dX8_init_22 : decode cX8_init 22 = .ok (.bipush 124, 2) := by decide +kernel
theorem dX8_init_24 : decode cX8_init 24 = .ok (.newarray .int, 2) := by decide +kernel
theorem dX8_init_26 : decode cX8_init 26 = .ok (.putfield 16, 3) := by decide +kernel
theorem dX8_init_29 : decode cX8_init 29 = .ok (.aload_n 0, 1) := by decide +kernel
theorem dX8_init_30 : decode cX8_init 30 = .ok (.bipush 124, 2) := by decide +kernel
theorem dX8_init_32 : decode cX8_init 32 = .ok (.newarray .int, 2) := by decide +kernel
theorem dX8_init_34 : decode cX8_init 34 = .ok (.putfield 19, 3) := by decide +kernel
theorem dX8_init_37 : decode cX8_init 37 = .ok (.aload_n 0, 1) := by decide +kernel
theorem dX8_init_38 : decode cX8_init 38 = .ok (.bipush 60, 2) := by decide +kernel
theorem dX8_init_40 : decode cX8_init 40 = .ok (.newarray .int, 2) := by decide +kernel
theorem dX8_init_42 : decode cX8_init 42 = .ok (.putfield 22, 3) := by decide +kernel
theorem dX8_init_45 : decode cX8_init 45 = .ok (.aload_n 0, 1) := by decide +kernel
theorem dX8_init_46 : decode cX8_init 46 = .ok (.iconst (-1), 1) := by decide +kernel
theorem dX8_init_47 : decode cX8_init 47 = .ok (.putfield 25, 3) := by decide +kernel
theorem dX8_init_50 : decode cX8_init 50 = .ok (.aload_n 0, 1) := by decide +kernel
theorem dX8_init_51 : decode cX8_init 51 = .ok (.bipush 60, 2) := by decide +kernel
theorem dX8_init_53 : decode cX8_init 53 = .ok (.newarray .char, 2) := by decide +kernel
theorem dX8_init_55 : decode cX8_init 55 = .ok (.putfield 29, 3) := by decide +kernel
theorem dX8_init_58 : decode cX8_init 58 = .ok (.aload_n 0, 1) := by decide +kernel
theorem dX8_init_59 : decode cX8_init 59 = .ok (.bipush 9, 2) := by decide +kernel
theorem dX8_init_61 : decode cX8_init 61 = .ok (.newarray .int, 2) := by decide +kernel
theorem dX8_init_63 : decode cX8_init 63 = .ok (.putfield 33, 3) := by decide +kernel
theorem dX8_init_66 : decode cX8_init 66 = .ok (.aload_n 0, 1) := by decide +kernel
theorem dX8_init_67 : decode cX8_init 67 = .ok (.bipush 9, 2) := by decide +kernel
theorem dX8_init_69 : decode cX8_init 69 = .ok (.newarray .int, 2) := by decide +kernel
theorem dX8_init_71 : decode cX8_init 71 = .ok (.putfield 36, 3) := by decide +kernel
theorem dX8_init_74 : decode cX8_init 74 = .ok (.aload_n 0, 1) := by decide +kernel
theorem dX8_init_75 : decode cX8_init 75 = .ok (.bipush 93, 2) := by decide +kernel
theorem dX8_init_77 : decode cX8_init 77 = .ok (.newarray .int, 2) := by decide +kernel
theorem dX8_init_79 : decode cX8_init 79 = .ok (.putfield 39, 3) := by decide +kernel
theorem dX8_init_82 : decode cX8_init 82 = .ok (.aload_n 0, 1) := by decide +kernel
theorem dX8_init_83 : decode cX8_init 83 = .ok (.getfield 7, 3) := by decide +kernel
theorem dX8_init_86 : decode cX8_init 86 = .ok (.iconst 2, 1) := by decide +kernel
theorem dX8_init_87 : decode cX8_init 87 = .ok (.iconst 1, 1) := by decide +kernel
theorem dX8_init_88 : decode cX8_init 88 = .ok (.iastore, 1) := by decide +kernel
theorem dX8_init_89 : decode cX8_init 89 = .ok (.return_, 1) := by decide +kernel
theorem dX8_thrown_0 : decode cX8_thrown 0 = .ok (.aload_n 0, 1) := by decide +kernel
theorem dX8_thrown_1 : decode cX8_thrown 1 = .ok (.getfield 42, 3) := by decide +kernel
theorem dX8_thrown_4 : decode cX8_thrown 4 = .ok (.ireturn, 1) := by decide +kernel
theorem dX8_fails_0 : decode cX8_fails 0 = .ok (.aload_n 0, 1) := by decide +kernel
theorem dX8_fails_1 : decode cX8_fails 1 = .ok (.iload_n 1, 1) := by decide +kernel
theorem dX8_fails_2 : decode cX8_fails 2 = .ok (.putfield 42, 3) := by decide +kernel
theorem dX8_fails_5 : decode cX8_fails 5 = .ok (.aload_n 0, 1) := by decide +kernel
theorem dX8_fails_6 : decode cX8_fails 6 = .ok (.iconst 0, 1) := by decide +kernel
theorem dX8_fails_7 : decode cX8_fails 7 = .ok (.putfield 45, 3) := by decide +kernel
theorem dX8_fails_10 : decode cX8_fails 10 = .ok (.iload_n 1, 1) := by decide +kernel
theorem dX8_fails_11 : decode cX8_fails 11 = .ok (.ifCond .le 7, 3) := by decide +kernel
theorem dX8_fails_14 : decode cX8_fails 14 = .ok (.iconst 1, 1) := by decide +kernel
theorem dX8_fails_15 : decode cX8_fails 15 = .ok (.goto 4, 3) := by decide +kernel
theorem dX8_fails_18 : decode cX8_fails 18 = .ok (.iconst 0, 1) := by decide +kernel
theorem dX8_fails_19 : decode cX8_fails 19 = .ok (.ireturn, 1) := by decide +kernel
theorem dX8_refuses_0 : decode cX8_refuses 0 = .ok (.aload_n 0, 1) := by decide +kernel
theorem dX8_refuses_1 : decode cX8_refuses 1 = .ok (.iload_n 1, 1) := by decide +kernel
theorem dX8_refuses_2 : decode cX8_refuses 2 = .ok (.putfield 42, 3) := by decide +kernel
theorem dX8_refuses_5 : decode cX8_refuses 5 = .ok (.aload_n 0, 1) := by decide +kernel
theorem dX8_refuses_6 : decode cX8_refuses 6 = .ok (.iconst 1, 1) := by decide +kernel
theorem dX8_refuses_7 : decode cX8_refuses 7 = .ok (.putfield 45, 3) := by decide +kernel
theorem dX8_refuses_10 : decode cX8_refuses 10 = .ok (.aload_n 0, 1) := by decide +kernel
theorem dX8_refuses_11 : decode cX8_refuses 11 = .ok (.iload_n 2, 1) := by decide +kernel
theorem dX8_refuses_12 : decode cX8_refuses 12 = .ok (.putfield 49, 3) := by decide +kernel
theorem dX8_refuses_15 : decode cX8_refuses 15 = .ok (.aload_n 0, 1) := by decide +kernel
theorem dX8_refuses_16 : decode cX8_refuses 16 = .ok (.iload_n 3, 1) := by decide +kernel
theorem dX8_refuses_17 : decode cX8_refuses 17 = .ok (.putfield 52, 3) := by decide +kernel
theorem dX8_refuses_20 : decode cX8_refuses 20 = .ok (.iconst 0, 1) := by decide +kernel
theorem dX8_refuses_21 : decode cX8_refuses 21 = .ok (.ireturn, 1) := by decide +kernel
theorem dX8_in_0 : decode cX8_in 0 = .ok (.iload_n 0, 1) := by decide +kernel
theorem dX8_in_1 : decode cX8_in 1 = .ok (.iload_n 1, 1) := by decide +kernel
theorem dX8_in_2 : decode cX8_in 2 = .ok (.if_icmp .lt 12, 3) := by decide +kernel
theorem dX8_in_5 : decode cX8_in 5 = .ok (.iload_n 0, 1) := by decide +kernel
theorem dX8_in_6 : decode cX8_in 6 = .ok (.iload_n 2, 1) := by decide +kernel
theorem dX8_in_7 : decode cX8_in 7 = .ok (.if_icmp .gt 7, 3) := by decide +kernel
theorem dX8_in_10 : decode cX8_in 10 = .ok (.iconst 1, 1) := by decide +kernel
theorem dX8_in_11 : decode cX8_in 11 = .ok (.goto 4, 3) := by decide +kernel
theorem dX8_in_14 : decode cX8_in 14 = .ok (.iconst 0, 1) := by decide +kernel
theorem dX8_in_15 : decode cX8_in 15 = .ok (.ireturn, 1) := by decide +kernel
theorem dX8_has_0 : decode cX8_has 0 = .ok (.iload_n 0, 1) := by decide +kernel
theorem dX8_has_1 : decode cX8_has 1 = .ok (.iload_n 1, 1) := by decide +kernel
theorem dX8_has_2 : decode cX8_has 2 = .ok (.ishr, 1) := by decide +kernel
theorem dX8_has_3 : decode cX8_has 3 = .ok (.iconst 1, 1) := by decide +kernel
theorem dX8_has_4 : decode cX8_has 4 = .ok (.iand, 1) := by decide +kernel
theorem dX8_has_5 : decode cX8_has 5 = .ok (.iconst 1, 1) := by decide +kernel
theorem dX8_has_6 : decode cX8_has 6 = .ok (.if_icmp .ne 7, 3) := by decide +kernel
theorem dX8_has_9 : decode cX8_has 9 = .ok (.iconst 1, 1) := by decide +kernel
theorem dX8_has_10 : decode cX8_has 10 = .ok (.goto 4, 3) := by decide +kernel
theorem dX8_has_13 : decode cX8_has 13 = .ok (.iconst 0, 1) := by decide +kernel
theorem dX8_has_14 : decode cX8_has 14 = .ok (.ireturn, 1) := by decide +kernel
theorem dX8_within_0 : decode cX8_within 0 = .ok (.iload_n 0, 1) := by decide +kernel
theorem dX8_within_1 : decode cX8_within 1 = .ok (.iload_n 1, 1) := by decide +kernel
theorem dX8_within_2 : decode cX8_within 2 = .ok (.if_icmp .ge 7, 3) := by decide +kernel
theorem dX8_within_5 : decode cX8_within 5 = .ok (.iload_n 1, 1) := by decide +kernel
theorem dX8_within_6 : decode cX8_within 6 = .ok (.goto 13, 3) := by decide +kernel
theorem dX8_within_9 : decode cX8_within 9 = .ok (.iload_n 0, 1) := by decide +kernel
theorem dX8_within_10 : decode cX8_within 10 = .ok (.iload_n 2, 1) := by decide +kernel
theorem dX8_within_11 : decode cX8_within 11 = .ok (.if_icmp .le 7, 3) := by decide +kernel
theorem dX8_within_14 : decode cX8_within 14 = .ok (.iload_n 2, 1) := by decide +kernel
theorem dX8_within_15 : decode cX8_within 15 = .ok (.goto 4, 3) := by decide +kernel
theorem dX8_within_18 : decode cX8_within 18 = .ok (.iload_n 0, 1) := by decide +kernel
theorem dX8_within_19 : decode cX8_within 19 = .ok (.ireturn, 1) := by decide +kernel
theorem dX8_copies_0 : decode cX8_copies 0 = .ok (.iconst 0, 1) := by decide +kernel
theorem dX8_copies_1 : decode cX8_copies 1 = .ok (.istore 4, 2) := by decide +kernel
theorem dX8_copies_3 : decode cX8_copies 3 = .ok (.iload 4, 2) := by decide +kernel
theorem dX8_copies_5 : decode cX8_copies 5 = .ok (.bipush 124, 2) := by decide +kernel
theorem dX8_copies_7 : decode cX8_copies 7 = .ok (.if_icmp .ge 21, 3) := by decide +kernel
theorem dX8_copies_10 : decode cX8_copies 10 = .ok (.aload_n 2, 1) := by decide +kernel
theorem dX8_copies_11 : decode cX8_copies 11 = .ok (.iload_n 3, 1) := by decide +kernel
theorem dX8_copies_12 : decode cX8_copies 12 = .ok (.iload 4, 2) := by decide +kernel
theorem dX8_copies_14 : decode cX8_copies 14 = .ok (.iadd, 1) := by decide +kernel
theorem dX8_copies_15 : decode cX8_copies 15 = .ok (.aload_n 0, 1) := by decide +kernel
theorem dX8_copies_16 : decode cX8_copies 16 = .ok (.iload_n 1, 1) := by decide +kernel
theorem dX8_copies_17 : decode cX8_copies 17 = .ok (.iload 4, 2) := by decide +kernel
theorem dX8_copies_19 : decode cX8_copies 19 = .ok (.iadd, 1) := by decide +kernel
theorem dX8_copies_20 : decode cX8_copies 20 = .ok (.iaload, 1) := by decide +kernel
theorem dX8_copies_21 : decode cX8_copies 21 = .ok (.iastore, 1) := by decide +kernel
theorem dX8_copies_22 : decode cX8_copies 22 = .ok (.iinc 4 1, 3) := by decide +kernel
theorem dX8_copies_25 : decode cX8_copies 25 = .ok (.goto (-22), 3) := by decide +kernel
theorem dX8_copies_28 : decode cX8_copies 28 = .ok (.return_, 1) := by decide +kernel
theorem dX8_keeps_0 : decode cX8_keeps 0 = .ok (.aload_n 0, 1) := by decide +kernel
theorem dX8_keeps_1 : decode cX8_keeps 1 = .ok (.iconst 0, 1) := by decide +kernel
theorem dX8_keeps_2 : decode cX8_keeps 2 = .ok (.putfield 42, 3) := by decide +kernel
theorem dX8_keeps_5 : decode cX8_keeps 5 = .ok (.aload_n 0, 1) := by decide +kernel
theorem dX8_keeps_6 : decode cX8_keeps 6 = .ok (.getfield 55, 3) := by decide +kernel
theorem dX8_keeps_9 : decode cX8_keeps 9 = .ok (.ifCond .eq 4, 3) := by decide +kernel
theorem dX8_keeps_12 : decode cX8_keeps 12 = .ok (.return_, 1) := by decide +kernel
theorem dX8_keeps_13 : decode cX8_keeps 13 = .ok (.aload_n 0, 1) := by decide +kernel
theorem dX8_keeps_14 : decode cX8_keeps 14 = .ok (.getfield 58, 3) := by decide +kernel
theorem dX8_keeps_17 : decode cX8_keeps 17 = .ok (.bipush 8, 2) := by decide +kernel
theorem dX8_keeps_19 : decode cX8_keeps 19 = .ok (.if_icmp .ne 43, 3) := by decide +kernel
theorem dX8_keeps_22 : decode cX8_keeps 22 = .ok (.iconst 0, 1) := by decide +kernel
theorem dX8_keeps_23 : decode cX8_keeps 23 = .ok (.istore_n 2, 1) := by decide +kernel
theorem dX8_keeps_24 : decode cX8_keeps 24 = .ok (.iload_n 2, 1) := by decide +kernel
theorem dX8_keeps_25 : decode cX8_keeps 25 = .ok (.sipush 868, 3) := by decide +kernel
theorem dX8_keeps_28 : decode cX8_keeps 28 = .ok (.if_icmp .ge 24, 3) := by decide +kernel
theorem dX8_keeps_31 : decode cX8_keeps 31 = .ok (.aload_n 0, 1) := by decide +kernel
theorem dX8_keeps_32 : decode cX8_keeps 32 = .ok (.getfield 13, 3) := by decide +kernel
theorem dX8_keeps_35 : decode cX8_keeps 35 = .ok (.iload_n 2, 1) := by decide +kernel
theorem dX8_keeps_36 : decode cX8_keeps 36 = .ok (.aload_n 0, 1) := by decide +kernel
theorem dX8_keeps_37 : decode cX8_keeps 37 = .ok (.getfield 13, 3) := by decide +kernel
theorem dX8_keeps_40 : decode cX8_keeps 40 = .ok (.iload_n 2, 1) := by decide +kernel
theorem dX8_keeps_41 : decode cX8_keeps 41 = .ok (.bipush 124, 2) := by decide +kernel
theorem dX8_keeps_43 : decode cX8_keeps 43 = .ok (.iadd, 1) := by decide +kernel
theorem dX8_keeps_44 : decode cX8_keeps 44 = .ok (.iaload, 1) := by decide +kernel
theorem dX8_keeps_45 : decode cX8_keeps 45 = .ok (.iastore, 1) := by decide +kernel
theorem dX8_keeps_46 : decode cX8_keeps 46 = .ok (.iinc 2 1, 3) := by decide +kernel
theorem dX8_keeps_49 : decode cX8_keeps 49 = .ok (.goto (-25), 3) := by decide +kernel
theorem dX8_keeps_52 : decode cX8_keeps 52 = .ok (.aload_n 0, 1) := by decide +kernel
theorem dX8_keeps_53 : decode cX8_keeps 53 = .ok (.dup, 1) := by decide +kernel
theorem dX8_keeps_54 : decode cX8_keeps 54 = .ok (.getfield 58, 3) := by decide +kernel
theorem dX8_keeps_57 : decode cX8_keeps 57 = .ok (.iconst 1, 1) := by decide +kernel
theorem dX8_keeps_58 : decode cX8_keeps 58 = .ok (.isub, 1) := by decide +kernel
theorem dX8_keeps_59 : decode cX8_keeps 59 = .ok (.putfield 58, 3) := by decide +kernel
theorem dX8_keeps_62 : decode cX8_keeps 62 = .ok (.aload_n 1, 1) := by decide +kernel
theorem dX8_keeps_63 : decode cX8_keeps 63 = .ok (.iconst 0, 1) := by decide +kernel
theorem dX8_keeps_64 : decode cX8_keeps 64 = .ok (.aload_n 0, 1) := by decide +kernel
theorem dX8_keeps_65 : decode cX8_keeps 65 = .ok (.getfield 13, 3) := by decide +kernel
theorem dX8_keeps_68 : decode cX8_keeps 68 = .ok (.bipush 124, 2) := by decide +kernel
theorem dX8_keeps_70 : decode cX8_keeps 70 = .ok (.aload_n 0, 1) := by decide +kernel
theorem dX8_keeps_71 : decode cX8_keeps 71 = .ok (.getfield 58, 3) := by decide +kernel
theorem dX8_keeps_74 : decode cX8_keeps 74 = .ok (.imul, 1) := by decide +kernel
theorem dX8_keeps_75 : decode cX8_keeps 75 = .ok (.invokestatic 61, 3) := by decide +kernel
theorem dX8_keeps_78 : decode cX8_keeps 78 = .ok (.aload_n 0, 1) := by decide +kernel
theorem dX8_keeps_79 : decode cX8_keeps 79 = .ok (.dup, 1) := by decide +kernel
theorem dX8_keeps_80 : decode cX8_keeps 80 = .ok (.getfield 58, 3) := by decide +kernel
theorem dX8_keeps_83 : decode cX8_keeps 83 = .ok (.iconst 1, 1) := by decide +kernel
theorem dX8_keeps_84 : decode cX8_keeps 84 = .ok (.iadd, 1) := by decide +kernel
theorem dX8_keeps_85 : decode cX8_keeps 85 = .ok (.putfield 58, 3) := by decide +kernel
theorem dX8_keeps_88 : decode cX8_keeps 88 = .ok (.return_, 1) := by decide +kernel
theorem dX8_by_0 : decode cX8_by 0 = .ok (.aload_n 0, 1) := by decide +kernel
theorem dX8_by_1 : decode cX8_by 1 = .ok (.getfield 7, 3) := by decide +kernel
theorem dX8_by_4 : decode cX8_by 4 = .ok (.bipush 8, 2) := by decide +kernel
theorem dX8_by_6 : decode cX8_by 6 = .ok (.iconst 4, 1) := by decide +kernel
theorem dX8_by_7 : decode cX8_by 7 = .ok (.iload_n 1, 1) := by decide +kernel
theorem dX8_by_8 : decode cX8_by 8 = .ok (.imul, 1) := by decide +kernel
theorem dX8_by_9 : decode cX8_by 9 = .ok (.iadd, 1) := by decide +kernel
theorem dX8_by_10 : decode cX8_by 10 = .ok (.iload_n 2, 1) := by decide +kernel
theorem dX8_by_11 : decode cX8_by 11 = .ok (.iadd, 1) := by decide +kernel
theorem dX8_by_12 : decode cX8_by 12 = .ok (.iaload, 1) := by decide +kernel
theorem dX8_by_13 : decode cX8_by 13 = .ok (.ireturn, 1) := by decide +kernel
theorem dX8_of_0 : decode cX8_of 0 = .ok (.aload_n 0, 1) := by decide +kernel
theorem dX8_of_1 : decode cX8_of 1 = .ok (.getfield 7, 3) := by decide +kernel
theorem dX8_of_4 : decode cX8_of 4 = .ok (.bipush 44, 2) := by decide +kernel
theorem dX8_of_6 : decode cX8_of 6 = .ok (.bipush 8, 2) := by decide +kernel
theorem dX8_of_8 : decode cX8_of 8 = .ok (.iload_n 1, 1) := by decide +kernel
theorem dX8_of_9 : decode cX8_of 9 = .ok (.imul, 1) := by decide +kernel
theorem dX8_of_10 : decode cX8_of 10 = .ok (.iadd, 1) := by decide +kernel
theorem dX8_of_11 : decode cX8_of 11 = .ok (.iload_n 2, 1) := by decide +kernel
theorem dX8_of_12 : decode cX8_of 12 = .ok (.iadd, 1) := by decide +kernel
theorem dX8_of_13 : decode cX8_of 13 = .ok (.iaload, 1) := by decide +kernel
theorem dX8_of_14 : decode cX8_of 14 = .ok (.ireturn, 1) := by decide +kernel
theorem dX8_lays_0 : decode cX8_lays 0 = .ok (.aload_n 0, 1) := by decide +kernel
theorem dX8_lays_1 : decode cX8_lays 1 = .ok (.getfield 7, 3) := by decide +kernel
theorem dX8_lays_4 : decode cX8_lays 4 = .ok (.bipush 44, 2) := by decide +kernel
theorem dX8_lays_6 : decode cX8_lays 6 = .ok (.bipush 8, 2) := by decide +kernel
theorem dX8_lays_8 : decode cX8_lays 8 = .ok (.iload_n 1, 1) := by decide +kernel
theorem dX8_lays_9 : decode cX8_lays 9 = .ok (.imul, 1) := by decide +kernel
theorem dX8_lays_10 : decode cX8_lays 10 = .ok (.iadd, 1) := by decide +kernel
theorem dX8_lays_11 : decode cX8_lays 11 = .ok (.iload_n 2, 1) := by decide +kernel
theorem dX8_lays_12 : decode cX8_lays 12 = .ok (.iadd, 1) := by decide +kernel
theorem dX8_lays_13 : decode cX8_lays 13 = .ok (.iload_n 3, 1) := by decide +kernel
theorem dX8_lays_14 : decode cX8_lays 14 = .ok (.iastore, 1) := by decide +kernel
theorem dX8_lays_15 : decode cX8_lays 15 = .ok (.return_, 1) := by decide +kernel
theorem dX8_isJuror_0 : decode cX8_isJuror 0 = .ok (.iload_n 1, 1) := by decide +kernel
theorem dX8_isJuror_1 : decode cX8_isJuror 1 = .ok (.iconst 0, 1) := by decide +kernel
theorem dX8_isJuror_2 : decode cX8_isJuror 2 = .ok (.aload_n 0, 1) := by decide +kernel
theorem dX8_isJuror_3 : decode cX8_isJuror 3 = .ok (.getfield 7, 3) := by decide +kernel
theorem dX8_isJuror_6 : decode cX8_isJuror 6 = .ok (.iconst 0, 1) := by decide +kernel
theorem dX8_isJuror_7 : decode cX8_isJuror 7 = .ok (.iaload, 1) := by decide +kernel
theorem dX8_isJuror_8 : decode cX8_isJuror 8 = .ok (.iconst 1, 1) := by decide +kernel
theorem dX8_isJuror_9 : decode cX8_isJuror 9 = .ok (.isub, 1) := by decide +kernel
theorem dX8_isJuror_10 : decode cX8_isJuror 10 = .ok (.invokestatic 65, 3) := by decide +kernel
theorem dX8_isJuror_13 : decode cX8_isJuror 13 = .ok (.ireturn, 1) := by decide +kernel
theorem dX8_isCase_0 : decode cX8_isCase 0 = .ok (.iload_n 1, 1) := by decide +kernel
theorem dX8_isCase_1 : decode cX8_isCase 1 = .ok (.iconst 0, 1) := by decide +kernel
theorem dX8_isCase_2 : decode cX8_isCase 2 = .ok (.aload_n 0, 1) := by decide +kernel
theorem dX8_isCase_3 : decode cX8_isCase 3 = .ok (.getfield 7, 3) := by decide +kernel
theorem dX8_isCase_6 : decode cX8_isCase 6 = .ok (.iconst 1, 1) := by decide +kernel
theorem dX8_isCase_7 : decode cX8_isCase 7 = .ok (.iaload, 1) := by decide +kernel
theorem dX8_isCase_8 : decode cX8_isCase 8 = .ok (.iconst 1, 1) := by decide +kernel
theorem dX8_isCase_9 : decode cX8_isCase 9 = .ok (.isub, 1) := by decide +kernel
theorem dX8_isCase_10 : decode cX8_isCase 10 = .ok (.invokestatic 65, 3) := by decide +kernel
theorem dX8_isCase_13 : decode cX8_isCase 13 = .ok (.ireturn, 1) := by decide +kernel
theorem dX8_isClosed_0 : decode cX8_isClosed 0 = .ok (.aload_n 0, 1) := by decide +kernel
theorem dX8_isClosed_1 : decode cX8_isClosed 1 = .ok (.iload_n 1, 1) := by decide +kernel
theorem dX8_isClosed_2 : decode cX8_isClosed 2 = .ok (.iconst 5, 1) := by decide +kernel
theorem dX8_isClosed_3 : decode cX8_isClosed 3 = .ok (.invokevirtual 69, 3) := by decide +kernel
theorem dX8_isClosed_6 : decode cX8_isClosed 6 = .ok (.ifCond .lt 7, 3) := by decide +kernel
theorem dX8_isClosed_9 : decode cX8_isClosed 9 = .ok (.iconst 1, 1) := by decide +kernel
theorem dX8_isClosed_10 : decode cX8_isClosed 10 = .ok (.goto 4, 3) := by decide +kernel
theorem dX8_isClosed_13 : decode cX8_isClosed 13 = .ok (.iconst 0, 1) := by decide +kernel
theorem dX8_isClosed_14 : decode cX8_isClosed 14 = .ok (.ireturn, 1) := by decide +kernel
theorem dX8_juror_0 : decode cX8_juror 0 = .ok (.aload_n 0, 1) := by decide +kernel
theorem dX8_juror_1 : decode cX8_juror 1 = .ok (.iload_n 1, 1) := by decide +kernel
theorem dX8_juror_2 : decode cX8_juror 2 = .ok (.bipush (-9), 2) := by decide +kernel
theorem dX8_juror_4 : decode cX8_juror 4 = .ok (.bipush 9, 2) := by decide +kernel
theorem dX8_juror_6 : decode cX8_juror 6 = .ok (.invokestatic 65, 3) := by decide +kernel
theorem dX8_juror_9 : decode cX8_juror 9 = .ok (.ifCond .eq 17, 3) := by decide +kernel
theorem dX8_juror_12 : decode cX8_juror 12 = .ok (.iload_n 2, 1) := by decide +kernel
theorem dX8_juror_13 : decode cX8_juror 13 = .ok (.iconst 0, 1) := by decide +kernel
theorem dX8_juror_14 : decode cX8_juror 14 = .ok (.bipush 9, 2) := by decide +kernel
theorem dX8_juror_16 : decode cX8_juror 16 = .ok (.invokestatic 65, 3) := by decide +kernel
theorem dX8_juror_19 : decode cX8_juror 19 = .ok (.ifCond .eq 7, 3) := by decide +kernel
theorem dX8_juror_22 : decode cX8_juror 22 = .ok (.iconst 0, 1) := by decide +kernel
theorem dX8_juror_23 : decode cX8_juror 23 = .ok (.goto 4, 3) := by decide +kernel
theorem dX8_juror_26 : decode cX8_juror 26 = .ok (.iconst 1, 1) := by decide +kernel
theorem dX8_juror_27 : decode cX8_juror 27 = .ok (.invokevirtual 73, 3) := by decide +kernel
theorem dX8_juror_30 : decode cX8_juror 30 = .ok (.ifCond .eq 5, 3) := by decide +kernel
theorem dX8_juror_33 : decode cX8_juror 33 = .ok (.iconst 0, 1) := by decide +kernel
theorem dX8_juror_34 : decode cX8_juror 34 = .ok (.ireturn, 1) := by decide +kernel
theorem dX8_juror_35 : decode cX8_juror 35 = .ok (.aload_n 0, 1) := by decide +kernel
theorem dX8_juror_36 : decode cX8_juror 36 = .ok (.getfield 7, 3) := by decide +kernel
theorem dX8_juror_39 : decode cX8_juror 39 = .ok (.iconst 0, 1) := by decide +kernel
theorem dX8_juror_40 : decode cX8_juror 40 = .ok (.iaload, 1) := by decide +kernel
theorem dX8_juror_41 : decode cX8_juror 41 = .ok (.bipush 9, 2) := by decide +kernel
theorem dX8_juror_43 : decode cX8_juror 43 = .ok (.if_icmp .ne 12, 3) := by decide +kernel
theorem dX8_juror_46 : decode cX8_juror 46 = .ok (.aload_n 0, 1) := by decide +kernel
theorem dX8_juror_47 : decode cX8_juror 47 = .ok (.iconst 2, 1) := by decide +kernel
theorem dX8_juror_48 : decode cX8_juror 48 = .ok (.iconst 1, 1) := by decide +kernel
theorem dX8_juror_49 : decode cX8_juror 49 = .ok (.bipush 9, 2) := by decide +kernel
theorem dX8_juror_51 : decode cX8_juror 51 = .ok (.invokevirtual 77, 3) := by decide +kernel
theorem dX8_juror_54 : decode cX8_juror 54 = .ok (.ireturn, 1) := by decide +kernel
theorem dX8_juror_55 : decode cX8_juror 55 = .ok (.aload_n 0, 1) := by decide +kernel
theorem dX8_juror_56 : decode cX8_juror 56 = .ok (.aload_n 0, 1) := by decide +kernel
theorem dX8_juror_57 : decode cX8_juror 57 = .ok (.getfield 7, 3) := by decide +kernel
theorem dX8_juror_60 : decode cX8_juror 60 = .ok (.invokevirtual 81, 3) := by decide +kernel
theorem dX8_juror_63 : decode cX8_juror 63 = .ok (.bipush 8, 2) := by decide +kernel
theorem dX8_juror_65 : decode cX8_juror 65 = .ok (.iconst 4, 1) := by decide +kernel
theorem dX8_juror_66 : decode cX8_juror 66 = .ok (.aload_n 0, 1) := by decide +kernel
theorem dX8_juror_67 : decode cX8_juror 67 = .ok (.getfield 7, 3) := by decide +kernel
theorem dX8_juror_70 : decode cX8_juror 70 = .ok (.iconst 0, 1) := by decide +kernel
theorem dX8_juror_71 : decode cX8_juror 71 = .ok (.iaload, 1) := by decide +kernel
theorem dX8_juror_72 : decode cX8_juror 72 = .ok (.imul, 1) := by decide +kernel
theorem dX8_juror_73 : decode cX8_juror 73 = .ok (.iadd, 1) := by decide +kernel
theorem dX8_juror_74 : decode cX8_juror 74 = .ok (.istore_n 3, 1) := by decide +kernel
theorem dX8_juror_75 : decode cX8_juror 75 = .ok (.aload_n 0, 1) := by decide +kernel
theorem dX8_juror_76 : decode cX8_juror 76 = .ok (.getfield 7, 3) := by decide +kernel
theorem dX8_juror_79 : decode cX8_juror 79 = .ok (.iload_n 3, 1) := by decide +kernel
theorem dX8_juror_80 : decode cX8_juror 80 = .ok (.iconst 0, 1) := by decide +kernel
theorem dX8_juror_81 : decode cX8_juror 81 = .ok (.iadd, 1) := by decide +kernel
theorem dX8_juror_82 : decode cX8_juror 82 = .ok (.iload_n 1, 1) := by decide +kernel
theorem dX8_juror_83 : decode cX8_juror 83 = .ok (.iastore, 1) := by decide +kernel
theorem dX8_juror_84 : decode cX8_juror 84 = .ok (.aload_n 0, 1) := by decide +kernel
theorem dX8_juror_85 : decode cX8_juror 85 = .ok (.getfield 7, 3) := by decide +kernel
theorem dX8_juror_88 : decode cX8_juror 88 = .ok (.iload_n 3, 1) := by decide +kernel
theorem dX8_juror_89 : decode cX8_juror 89 = .ok (.iconst 1, 1) := by decide +kernel
theorem dX8_juror_90 : decode cX8_juror 90 = .ok (.iadd, 1) := by decide +kernel
theorem dX8_juror_91 : decode cX8_juror 91 = .ok (.iload_n 2, 1) := by decide +kernel
theorem dX8_juror_92 : decode cX8_juror 92 = .ok (.iastore, 1) := by decide +kernel
theorem dX8_juror_93 : decode cX8_juror 93 = .ok (.aload_n 0, 1) := by decide +kernel
theorem dX8_juror_94 : decode cX8_juror 94 = .ok (.getfield 7, 3) := by decide +kernel
theorem dX8_juror_97 : decode cX8_juror 97 = .ok (.iload_n 3, 1) := by decide +kernel
theorem dX8_juror_98 : decode cX8_juror 98 = .ok (.iconst 2, 1) := by decide +kernel
theorem dX8_juror_99 : decode cX8_juror 99 = .ok (.iadd, 1) := by decide +kernel
theorem dX8_juror_100 : decode cX8_juror 100 = .ok (.iconst 0, 1) := by decide +kernel
theorem dX8_juror_101 : decode cX8_juror 101 = .ok (.iastore, 1) := by decide +kernel
theorem dX8_juror_102 : decode cX8_juror 102 = .ok (.aload_n 0, 1) := by decide +kernel
theorem dX8_juror_103 : decode cX8_juror 103 = .ok (.getfield 7, 3) := by decide +kernel
theorem dX8_juror_106 : decode cX8_juror 106 = .ok (.iload_n 3, 1) := by decide +kernel
theorem dX8_juror_107 : decode cX8_juror 107 = .ok (.iconst 3, 1) := by decide +kernel
theorem dX8_juror_108 : decode cX8_juror 108 = .ok (.iadd, 1) := by decide +kernel
theorem dX8_juror_109 : decode cX8_juror 109 = .ok (.iconst 0, 1) := by decide +kernel
theorem dX8_juror_110 : decode cX8_juror 110 = .ok (.iastore, 1) := by decide +kernel
theorem dX8_juror_111 : decode cX8_juror 111 = .ok (.aload_n 0, 1) := by decide +kernel
theorem dX8_juror_112 : decode cX8_juror 112 = .ok (.getfield 7, 3) := by decide +kernel
theorem dX8_juror_115 : decode cX8_juror 115 = .ok (.iconst 0, 1) := by decide +kernel
theorem dX8_juror_116 : decode cX8_juror 116 = .ok (.dup2, 1) := by decide +kernel
theorem dX8_juror_117 : decode cX8_juror 117 = .ok (.iaload, 1) := by decide +kernel
theorem dX8_juror_118 : decode cX8_juror 118 = .ok (.iconst 1, 1) := by decide +kernel
theorem dX8_juror_119 : decode cX8_juror 119 = .ok (.iadd, 1) := by decide +kernel
theorem dX8_juror_120 : decode cX8_juror 120 = .ok (.iastore, 1) := by decide +kernel
theorem dX8_juror_121 : decode cX8_juror 121 = .ok (.aload_n 0, 1) := by decide +kernel
theorem dX8_juror_122 : decode cX8_juror 122 = .ok (.getfield 7, 3) := by decide +kernel
theorem dX8_juror_125 : decode cX8_juror 125 = .ok (.iconst 0, 1) := by decide +kernel
theorem dX8_juror_126 : decode cX8_juror 126 = .ok (.iaload, 1) := by decide +kernel
theorem dX8_juror_127 : decode cX8_juror 127 = .ok (.iconst 1, 1) := by decide +kernel
theorem dX8_juror_128 : decode cX8_juror 128 = .ok (.isub, 1) := by decide +kernel
theorem dX8_juror_129 : decode cX8_juror 129 = .ok (.ireturn, 1) := by decide +kernel
theorem dX8_bring_0 : decode cX8_bring 0 = .ok (.aload_n 0, 1) := by decide +kernel
theorem dX8_bring_1 : decode cX8_bring 1 = .ok (.iload_n 1, 1) := by decide +kernel
theorem dX8_bring_2 : decode cX8_bring 2 = .ok (.iconst 0, 1) := by decide +kernel
theorem dX8_bring_3 : decode cX8_bring 3 = .ok (.bipush 100, 2) := by decide +kernel
theorem dX8_bring_5 : decode cX8_bring 5 = .ok (.invokestatic 65, 3) := by decide +kernel
theorem dX8_bring_8 : decode cX8_bring 8 = .ok (.ifCond .eq 17, 3) := by decide +kernel
theorem dX8_bring_11 : decode cX8_bring 11 = .ok (.iload_n 2, 1) := by decide +kernel
theorem dX8_bring_12 : decode cX8_bring 12 = .ok (.iconst 0, 1) := by decide +kernel
theorem dX8_bring_13 : decode cX8_bring 13 = .ok (.bipush 99, 2) := by decide +kernel
theorem dX8_bring_15 : decode cX8_bring 15 = .ok (.invokestatic 65, 3) := by decide +kernel
theorem dX8_bring_18 : decode cX8_bring 18 = .ok (.ifCond .eq 7, 3) := by decide +kernel
theorem dX8_bring_21 : decode cX8_bring 21 = .ok (.iconst 0, 1) := by decide +kernel
theorem dX8_bring_22 : decode cX8_bring 22 = .ok (.goto 4, 3) := by decide +kernel
theorem dX8_bring_25 : decode cX8_bring 25 = .ok (.iconst 1, 1) := by decide +kernel
theorem dX8_bring_26 : decode cX8_bring 26 = .ok (.invokevirtual 73, 3) := by decide +kernel
theorem dX8_bring_29 : decode cX8_bring 29 = .ok (.ifCond .eq 5, 3) := by decide +kernel
theorem dX8_bring_32 : decode cX8_bring 32 = .ok (.iconst 0, 1) := by decide +kernel
theorem dX8_bring_33 : decode cX8_bring 33 = .ok (.ireturn, 1) := by decide +kernel
theorem dX8_bring_34 : decode cX8_bring 34 = .ok (.aload_n 0, 1) := by decide +kernel
theorem dX8_bring_35 : decode cX8_bring 35 = .ok (.getfield 7, 3) := by decide +kernel
theorem dX8_bring_38 : decode cX8_bring 38 = .ok (.iconst 1, 1) := by decide +kernel
theorem dX8_bring_39 : decode cX8_bring 39 = .ok (.iaload, 1) := by decide +kernel
theorem dX8_bring_40 : decode cX8_bring 40 = .ok (.bipush 10, 2) := by decide +kernel
theorem dX8_bring_42 : decode cX8_bring 42 = .ok (.if_icmp .ne 12, 3) := by decide +kernel
theorem dX8_bring_45 : decode cX8_bring 45 = .ok (.aload_n 0, 1) := by decide +kernel
theorem dX8_bring_46 : decode cX8_bring 46 = .ok (.iconst 2, 1) := by decide +kernel
theorem dX8_bring_47 : decode cX8_bring 47 = .ok (.iconst 1, 1) := by decide +kernel
theorem dX8_bring_48 : decode cX8_bring 48 = .ok (.bipush 10, 2) := by decide +kernel
theorem dX8_bring_50 : decode cX8_bring 50 = .ok (.invokevirtual 77, 3) := by decide +kernel
theorem dX8_bring_53 : decode cX8_bring 53 = .ok (.ireturn, 1) := by decide +kernel
theorem dX8_bring_54 : decode cX8_bring 54 = .ok (.aload_n 0, 1) := by decide +kernel
theorem dX8_bring_55 : decode cX8_bring 55 = .ok (.aload_n 0, 1) := by decide +kernel
theorem dX8_bring_56 : decode cX8_bring 56 = .ok (.getfield 7, 3) := by decide +kernel
theorem dX8_bring_59 : decode cX8_bring 59 = .ok (.invokevirtual 81, 3) := by decide +kernel
theorem dX8_bring_62 : decode cX8_bring 62 = .ok (.aload_n 0, 1) := by decide +kernel
theorem dX8_bring_63 : decode cX8_bring 63 = .ok (.getfield 7, 3) := by decide +kernel
theorem dX8_bring_66 : decode cX8_bring 66 = .ok (.iconst 1, 1) := by decide +kernel
theorem dX8_bring_67 : decode cX8_bring 67 = .ok (.iaload, 1) := by decide +kernel
theorem dX8_bring_68 : decode cX8_bring 68 = .ok (.istore_n 3, 1) := by decide +kernel
theorem dX8_bring_69 : decode cX8_bring 69 = .ok (.aload_n 0, 1) := by decide +kernel
theorem dX8_bring_70 : decode cX8_bring 70 = .ok (.getfield 7, 3) := by decide +kernel
theorem dX8_bring_73 : decode cX8_bring 73 = .ok (.iconst 1, 1) := by decide +kernel
theorem dX8_bring_74 : decode cX8_bring 74 = .ok (.dup2, 1) := by decide +kernel
theorem dX8_bring_75 : decode cX8_bring 75 = .ok (.iaload, 1) := by decide +kernel
theorem dX8_bring_76 : decode cX8_bring 76 = .ok (.iconst 1, 1) := by decide +kernel
theorem dX8_bring_77 : decode cX8_bring 77 = .ok (.iadd, 1) := by decide +kernel
theorem dX8_bring_78 : decode cX8_bring 78 = .ok (.iastore, 1) := by decide +kernel
theorem dX8_bring_79 : decode cX8_bring 79 = .ok (.iconst 0, 1) := by decide +kernel
theorem dX8_bring_80 : decode cX8_bring 80 = .ok (.istore 4, 2) := by decide +kernel
theorem dX8_bring_82 : decode cX8_bring 82 = .ok (.iload 4, 2) := by decide +kernel
theorem dX8_bring_84 : decode cX8_bring 84 = .ok (.bipush 8, 2) := by decide +kernel
theorem dX8_bring_86 : decode cX8_bring 86 = .ok (.if_icmp .ge 17, 3) := by decide +kernel
theorem dX8_bring_89 : decode cX8_bring 89 = .ok (.aload_n 0, 1) := by decide +kernel
theorem dX8_bring_90 : decode cX8_bring 90 = .ok (.iload_n 3, 1) := by decide +kernel
theorem dX8_bring_91 : decode cX8_bring 91 = .ok (.iload 4, 2) := by decide +kernel
theorem dX8_bring_93 : decode cX8_bring 93 = .ok (.iconst 0, 1) := by decide +kernel
theorem dX8_bring_94 : decode cX8_bring 94 = .ok (.invokevirtual 85, 3) := by decide +kernel
theorem dX8_bring_97 : decode cX8_bring 97 = .ok (.iinc 4 1, 3) := by decide +kernel
theorem dX8_bring_100 : decode cX8_bring 100 = .ok (.goto (-18), 3) := by decide +kernel
theorem dX8_bring_103 : decode cX8_bring 103 = .ok (.aload_n 0, 1) := by decide +kernel
theorem dX8_bring_104 : decode cX8_bring 104 = .ok (.iload_n 3, 1) := by decide +kernel
theorem dX8_bring_105 : decode cX8_bring 105 = .ok (.iconst 0, 1) := by decide +kernel
theorem dX8_bring_106 : decode cX8_bring 106 = .ok (.iload_n 1, 1) := by decide +kernel
theorem dX8_bring_107 : decode cX8_bring 107 = .ok (.invokevirtual 85, 3) := by decide +kernel
theorem dX8_bring_110 : decode cX8_bring 110 = .ok (.aload_n 0, 1) := by decide +kernel
theorem dX8_bring_111 : decode cX8_bring 111 = .ok (.iload_n 3, 1) := by decide +kernel
theorem dX8_bring_112 : decode cX8_bring 112 = .ok (.iconst 1, 1) := by decide +kernel
theorem dX8_bring_113 : decode cX8_bring 113 = .ok (.iload_n 2, 1) := by decide +kernel
theorem dX8_bring_114 : decode cX8_bring 114 = .ok (.invokevirtual 85, 3) := by decide +kernel
theorem dX8_bring_117 : decode cX8_bring 117 = .ok (.aload_n 0, 1) := by decide +kernel
theorem dX8_bring_118 : decode cX8_bring 118 = .ok (.iload_n 3, 1) := by decide +kernel
theorem dX8_bring_119 : decode cX8_bring 119 = .ok (.iconst 4, 1) := by decide +kernel
theorem dX8_bring_120 : decode cX8_bring 120 = .ok (.iconst (-1), 1) := by decide +kernel
theorem dX8_bring_121 : decode cX8_bring 121 = .ok (.invokevirtual 85, 3) := by decide +kernel
theorem dX8_bring_124 : decode cX8_bring 124 = .ok (.aload_n 0, 1) := by decide +kernel
theorem dX8_bring_125 : decode cX8_bring 125 = .ok (.iload_n 3, 1) := by decide +kernel
theorem dX8_bring_126 : decode cX8_bring 126 = .ok (.iconst 5, 1) := by decide +kernel
theorem dX8_bring_127 : decode cX8_bring 127 = .ok (.iconst (-1), 1) := by decide +kernel
theorem dX8_bring_128 : decode cX8_bring 128 = .ok (.invokevirtual 85, 3) := by decide +kernel
theorem dX8_bring_131 : decode cX8_bring 131 = .ok (.iload_n 3, 1) := by decide +kernel
theorem dX8_bring_132 : decode cX8_bring 132 = .ok (.ireturn, 1) := by decide +kernel
theorem dX8_loadOf_0 : decode cX8_loadOf 0 = .ok (.iconst 0, 1) := by decide +kernel
theorem dX8_loadOf_1 : decode cX8_loadOf 1 = .ok (.istore_n 2, 1) := by decide +kernel
theorem dX8_loadOf_2 : decode cX8_loadOf 2 = .ok (.iconst 0, 1) := by decide +kernel
theorem dX8_loadOf_3 : decode cX8_loadOf 3 = .ok (.istore_n 3, 1) := by decide +kernel
theorem dX8_loadOf_4 : decode cX8_loadOf 4 = .ok (.iload_n 3, 1) := by decide +kernel
theorem dX8_loadOf_5 : decode cX8_loadOf 5 = .ok (.aload_n 0, 1) := by decide +kernel
theorem dX8_loadOf_6 : decode cX8_loadOf 6 = .ok (.getfield 7, 3) := by decide +kernel
theorem dX8_loadOf_9 : decode cX8_loadOf 9 = .ok (.iconst 1, 1) := by decide +kernel
theorem dX8_loadOf_10 : decode cX8_loadOf 10 = .ok (.iaload, 1) := by decide +kernel
theorem dX8_loadOf_11 : decode cX8_loadOf 11 = .ok (.if_icmp .ge 38, 3) := by decide +kernel
theorem dX8_loadOf_14 : decode cX8_loadOf 14 = .ok (.iload_n 2, 1) := by decide +kernel
theorem dX8_loadOf_15 : decode cX8_loadOf 15 = .ok (.aload_n 0, 1) := by decide +kernel
theorem dX8_loadOf_16 : decode cX8_loadOf 16 = .ok (.iload_n 3, 1) := by decide +kernel
theorem dX8_loadOf_17 : decode cX8_loadOf 17 = .ok (.invokevirtual 89, 3) := by decide +kernel
theorem dX8_loadOf_20 : decode cX8_loadOf 20 = .ok (.ifCond .ne 20, 3) := by decide +kernel
theorem dX8_loadOf_23 : decode cX8_loadOf 23 = .ok (.aload_n 0, 1) := by decide +kernel
theorem dX8_loadOf_24 : decode cX8_loadOf 24 = .ok (.iload_n 3, 1) := by decide +kernel
theorem dX8_loadOf_25 : decode cX8_loadOf 25 = .ok (.iconst 2, 1) := by decide +kernel
theorem dX8_loadOf_26 : decode cX8_loadOf 26 = .ok (.invokevirtual 69, 3) := by decide +kernel
theorem dX8_loadOf_29 : decode cX8_loadOf 29 = .ok (.iload_n 1, 1) := by decide +kernel
theorem dX8_loadOf_30 : decode cX8_loadOf 30 = .ok (.invokestatic 92, 3) := by decide +kernel
theorem dX8_loadOf_33 : decode cX8_loadOf 33 = .ok (.ifCond .eq 7, 3) := by decide +kernel
theorem dX8_loadOf_36 : decode cX8_loadOf 36 = .ok (.iconst 1, 1) := by decide +kernel
theorem dX8_loadOf_37 : decode cX8_loadOf 37 = .ok (.goto 4, 3) := by decide +kernel
theorem dX8_loadOf_40 : decode cX8_loadOf 40 = .ok (.iconst 0, 1) := by decide +kernel
theorem dX8_loadOf_41 : decode cX8_loadOf 41 = .ok (.iadd, 1) := by decide +kernel
theorem dX8_loadOf_42 : decode cX8_loadOf 42 = .ok (.istore_n 2, 1) := by decide +kernel
theorem dX8_loadOf_43 : decode cX8_loadOf 43 = .ok (.iinc 3 1, 3) := by decide +kernel
theorem dX8_loadOf_46 : decode cX8_loadOf 46 = .ok (.goto (-42), 3) := by decide +kernel
theorem dX8_loadOf_49 : decode cX8_loadOf 49 = .ok (.iload_n 2, 1) := by decide +kernel
theorem dX8_loadOf_50 : decode cX8_loadOf 50 = .ok (.ireturn, 1) := by decide +kernel
theorem dX8_isEarlier_0 : decode cX8_isEarlier 0 = .ok (.aload_n 0, 1) := by decide +kernel
theorem dX8_isEarlier_1 : decode cX8_isEarlier 1 = .ok (.iload_n 1, 1) := by decide +kernel
theorem dX8_isEarlier_2 : decode cX8_isEarlier 2 = .ok (.invokevirtual 96, 3) := by decide +kernel
theorem dX8_isEarlier_5 : decode cX8_isEarlier 5 = .ok (.aload_n 0, 1) := by decide +kernel
theorem dX8_isEarlier_6 : decode cX8_isEarlier 6 = .ok (.iload_n 2, 1) := by decide +kernel
theorem dX8_isEarlier_7 : decode cX8_isEarlier 7 = .ok (.invokevirtual 96, 3) := by decide +kernel
theorem dX8_isEarlier_10 : decode cX8_isEarlier 10 = .ok (.isub, 1) := by decide +kernel
theorem dX8_isEarlier_11 : decode cX8_isEarlier 11 = .ok (.istore_n 3, 1) := by decide +kernel
theorem dX8_isEarlier_12 : decode cX8_isEarlier 12 = .ok (.iload_n 3, 1) := by decide +kernel
theorem dX8_isEarlier_13 : decode cX8_isEarlier 13 = .ok (.ifCond .eq 13, 3) := by decide +kernel
theorem dX8_isEarlier_16 : decode cX8_isEarlier 16 = .ok (.iload_n 3, 1) := by decide +kernel
theorem dX8_isEarlier_17 : decode cX8_isEarlier 17 = .ok (.ifCond .ge 7, 3) := by decide +kernel
theorem dX8_isEarlier_20 : decode cX8_isEarlier 20 = .ok (.iconst 1, 1) := by decide +kernel
theorem dX8_isEarlier_21 : decode cX8_isEarlier 21 = .ok (.goto 4, 3) := by decide +kernel
theorem dX8_isEarlier_24 : decode cX8_isEarlier 24 = .ok (.iconst 0, 1) := by decide +kernel
theorem dX8_isEarlier_25 : decode cX8_isEarlier 25 = .ok (.ireturn, 1) := by decide +kernel
theorem dX8_isEarlier_26 : decode cX8_isEarlier 26 = .ok (.aload_n 0, 1) := by decide +kernel
theorem dX8_isEarlier_27 : decode cX8_isEarlier 27 = .ok (.iload_n 1, 1) := by decide +kernel
theorem dX8_isEarlier_28 : decode cX8_isEarlier 28 = .ok (.iconst 1, 1) := by decide +kernel
theorem dX8_isEarlier_29 : decode cX8_isEarlier 29 = .ok (.invokevirtual 100, 3) := by decide +kernel
theorem dX8_isEarlier_32 : decode cX8_isEarlier 32 = .ok (.aload_n 0, 1) := by decide +kernel
theorem dX8_isEarlier_33 : decode cX8_isEarlier 33 = .ok (.iload_n 2, 1) := by decide +kernel
theorem dX8_isEarlier_34 : decode cX8_isEarlier 34 = .ok (.iconst 1, 1) := by decide +kernel
theorem dX8_isEarlier_35 : decode cX8_isEarlier 35 = .ok (.invokevirtual 100, 3) := by decide +kernel
theorem dX8_isEarlier_38 : decode cX8_isEarlier 38 = .ok (.isub, 1) := by decide +kernel
theorem dX8_isEarlier_39 : decode cX8_isEarlier 39 = .ok (.istore 4, 2) := by decide +kernel
theorem dX8_isEarlier_41 : decode cX8_isEarlier 41 = .ok (.iload 4, 2) := by decide +kernel
theorem dX8_isEarlier_43 : decode cX8_isEarlier 43 = .ok (.ifCond .lt 13, 3) := by decide +kernel
theorem dX8_isEarlier_46 : decode cX8_isEarlier 46 = .ok (.iload 4, 2) := by decide +kernel
theorem dX8_isEarlier_48 : decode cX8_isEarlier 48 = .ok (.ifCond .ne 12, 3) := by decide +kernel
theorem dX8_isEarlier_51 : decode cX8_isEarlier 51 = .ok (.iload_n 1, 1) := by decide +kernel
theorem dX8_isEarlier_52 : decode cX8_isEarlier 52 = .ok (.iload_n 2, 1) := by decide +kernel
theorem dX8_isEarlier_53 : decode cX8_isEarlier 53 = .ok (.if_icmp .ge 7, 3) := by decide +kernel
theorem dX8_isEarlier_56 : decode cX8_isEarlier 56 = .ok (.iconst 1, 1) := by decide +kernel
theorem dX8_isEarlier_57 : decode cX8_isEarlier 57 = .ok (.goto 4, 3) := by decide +kernel
theorem dX8_isEarlier_60 : decode cX8_isEarlier 60 = .ok (.iconst 0, 1) := by decide +kernel
theorem dX8_isEarlier_61 : decode cX8_isEarlier 61 = .ok (.ireturn, 1) := by decide +kernel
theorem dX8_callables_0 : decode cX8_callables 0 = .ok (.iconst 0, 1) := by decide +kernel
theorem dX8_callables_1 : decode cX8_callables 1 = .ok (.istore_n 2, 1) := by decide +kernel
theorem dX8_callables_2 : decode cX8_callables 2 = .ok (.iconst 0, 1) := by decide +kernel
theorem dX8_callables_3 : decode cX8_callables 3 = .ok (.istore_n 3, 1) := by decide +kernel
theorem dX8_callables_4 : decode cX8_callables 4 = .ok (.iload_n 3, 1) := by decide +kernel
theorem dX8_callables_5 : decode cX8_callables 5 = .ok (.aload_n 0, 1) := by decide +kernel
theorem dX8_callables_6 : decode cX8_callables 6 = .ok (.getfield 7, 3) := by decide +kernel
theorem dX8_callables_9 : decode cX8_callables 9 = .ok (.iconst 0, 1) := by decide +kernel
theorem dX8_callables_10 : decode cX8_callables 10 = .ok (.iaload, 1) := by decide +kernel
theorem dX8_callables_11 : decode cX8_callables 11 = .ok (.if_icmp .ge 34, 3) := by decide +kernel
theorem dX8_callables_14 : decode cX8_callables 14 = .ok (.iload_n 2, 1) := by decide +kernel
theorem dX8_callables_15 : decode cX8_callables 15 = .ok (.iload_n 1, 1) := by decide +kernel
theorem dX8_callables_16 : decode cX8_callables 16 = .ok (.iload_n 3, 1) := by decide +kernel
theorem dX8_callables_17 : decode cX8_callables 17 = .ok (.invokestatic 92, 3) := by decide +kernel
theorem dX8_callables_20 : decode cX8_callables 20 = .ok (.ifCond .ne 16, 3) := by decide +kernel
theorem dX8_callables_23 : decode cX8_callables 23 = .ok (.aload_n 0, 1) := by decide +kernel
theorem dX8_callables_24 : decode cX8_callables 24 = .ok (.iload_n 3, 1) := by decide +kernel
theorem dX8_callables_25 : decode cX8_callables 25 = .ok (.invokevirtual 96, 3) := by decide +kernel
theorem dX8_callables_28 : decode cX8_callables 28 = .ok (.iconst 3, 1) := by decide +kernel
theorem dX8_callables_29 : decode cX8_callables 29 = .ok (.if_icmp .ge 7, 3) := by decide +kernel
theorem dX8_callables_32 : decode cX8_callables 32 = .ok (.iconst 1, 1) := by decide +kernel
theorem dX8_callables_33 : decode cX8_callables 33 = .ok (.goto 4, 3) := by decide +kernel
theorem dX8_callables_36 : decode cX8_callables 36 = .ok (.iconst 0, 1) := by decide +kernel
theorem dX8_callables_37 : decode cX8_callables 37 = .ok (.iadd, 1) := by decide +kernel
theorem dX8_callables_38 : decode cX8_callables 38 = .ok (.istore_n 2, 1) := by decide +kernel
theorem dX8_callables_39 : decode cX8_callables 39 = .ok (.iinc 3 1, 3) := by decide +kernel
theorem dX8_callables_42 : decode cX8_callables 42 = .ok (.goto (-38), 3) := by decide +kernel
theorem dX8_callables_45 : decode cX8_callables 45 = .ok (.iload_n 2, 1) := by decide +kernel
theorem dX8_callables_46 : decode cX8_callables 46 = .ok (.ireturn, 1) := by decide +kernel
theorem dX8_called_0 : decode cX8_called 0 = .ok (.iconst 0, 1) := by decide +kernel
theorem dX8_called_1 : decode cX8_called 1 = .ok (.istore_n 3, 1) := by decide +kernel
theorem dX8_called_2 : decode cX8_called 2 = .ok (.iload_n 3, 1) := by decide +kernel
theorem dX8_called_3 : decode cX8_called 3 = .ok (.aload_n 0, 1) := by decide +kernel
theorem dX8_called_4 : decode cX8_called 4 = .ok (.getfield 7, 3) := by decide +kernel
theorem dX8_called_7 : decode cX8_called 7 = .ok (.iconst 0, 1) := by decide +kernel
theorem dX8_called_8 : decode cX8_called 8 = .ok (.iaload, 1) := by decide +kernel
theorem dX8_called_9 : decode cX8_called 9 = .ok (.if_icmp .ge 99, 3) := by decide +kernel
theorem dX8_called_12 : decode cX8_called 12 = .ok (.iload_n 2, 1) := by decide +kernel
theorem dX8_called_13 : decode cX8_called 13 = .ok (.iload_n 3, 1) := by decide +kernel
theorem dX8_called_14 : decode cX8_called 14 = .ok (.invokestatic 92, 3) := by decide +kernel
theorem dX8_called_17 : decode cX8_called 17 = .ok (.ifCond .ne 85, 3) := by decide +kernel
theorem dX8_called_20 : decode cX8_called 20 = .ok (.aload_n 0, 1) := by decide +kernel
theorem dX8_called_21 : decode cX8_called 21 = .ok (.iload_n 3, 1) := by decide +kernel
theorem dX8_called_22 : decode cX8_called 22 = .ok (.invokevirtual 96, 3) := by decide +kernel
theorem dX8_called_25 : decode cX8_called 25 = .ok (.iconst 3, 1) := by decide +kernel
theorem dX8_called_26 : decode cX8_called 26 = .ok (.if_icmp .lt 6, 3) := by decide +kernel
theorem dX8_called_29 : decode cX8_called 29 = .ok (.goto 73, 3) := by decide +kernel
theorem dX8_called_32 : decode cX8_called 32 = .ok (.iconst 0, 1) := by decide +kernel
theorem dX8_called_33 : decode cX8_called 33 = .ok (.istore 4, 2) := by decide +kernel
theorem dX8_called_35 : decode cX8_called 35 = .ok (.iconst 0, 1) := by decide +kernel
theorem dX8_called_36 : decode cX8_called 36 = .ok (.istore 5, 2) := by decide +kernel
theorem dX8_called_38 : decode cX8_called 38 = .ok (.iload 5, 2) := by decide +kernel
theorem dX8_called_40 : decode cX8_called 40 = .ok (.aload_n 0, 1) := by decide +kernel
theorem dX8_called_41 : decode cX8_called 41 = .ok (.getfield 7, 3) := by decide +kernel
theorem dX8_called_44 : decode cX8_called 44 = .ok (.iconst 0, 1) := by decide +kernel
theorem dX8_called_45 : decode cX8_called 45 = .ok (.iaload, 1) := by decide +kernel
theorem dX8_called_46 : decode cX8_called 46 = .ok (.if_icmp .ge 48, 3) := by decide +kernel
theorem dX8_called_49 : decode cX8_called 49 = .ok (.iload 4, 2) := by decide +kernel
theorem dX8_called_51 : decode cX8_called 51 = .ok (.iload_n 2, 1) := by decide +kernel
theorem dX8_called_52 : decode cX8_called 52 = .ok (.iload 5, 2) := by decide +kernel
theorem dX8_called_54 : decode cX8_called 54 = .ok (.invokestatic 92, 3) := by decide +kernel
theorem dX8_called_57 : decode cX8_called 57 = .ok (.ifCond .ne 27, 3) := by decide +kernel
theorem dX8_called_60 : decode cX8_called 60 = .ok (.aload_n 0, 1) := by decide +kernel
theorem dX8_called_61 : decode cX8_called 61 = .ok (.iload 5, 2) := by decide +kernel
theorem dX8_called_63 : decode cX8_called 63 = .ok (.invokevirtual 96, 3) := by decide +kernel
theorem dX8_called_66 : decode cX8_called 66 = .ok (.iconst 3, 1) := by decide +kernel
theorem dX8_called_67 : decode cX8_called 67 = .ok (.if_icmp .ge 17, 3) := by decide +kernel
theorem dX8_called_70 : decode cX8_called 70 = .ok (.aload_n 0, 1) := by decide +kernel
theorem dX8_called_71 : decode cX8_called 71 = .ok (.iload 5, 2) := by decide +kernel
theorem dX8_called_73 : decode cX8_called 73 = .ok (.iload_n 3, 1) := by decide +kernel
theorem dX8_called_74 : decode cX8_called 74 = .ok (.invokevirtual 103, 3) := by decide +kernel
theorem dX8_called_77 : decode cX8_called 77 = .ok (.ifCond .eq 7, 3) := by decide +kernel
theorem dX8_called_80 : decode cX8_called 80 = .ok (.iconst 1, 1) := by decide +kernel
theorem dX8_called_81 : decode cX8_called 81 = .ok (.goto 4, 3) := by decide +kernel
theorem dX8_called_84 : decode cX8_called 84 = .ok (.iconst 0, 1) := by decide +kernel
theorem dX8_called_85 : decode cX8_called 85 = .ok (.iadd, 1) := by decide +kernel
theorem dX8_called_86 : decode cX8_called 86 = .ok (.istore 4, 2) := by decide +kernel
theorem dX8_called_88 : decode cX8_called 88 = .ok (.iinc 5 1, 3) := by decide +kernel
theorem dX8_called_91 : decode cX8_called 91 = .ok (.goto (-53), 3) := by decide +kernel
theorem dX8_called_94 : decode cX8_called 94 = .ok (.iload 4, 2) := by decide +kernel
theorem dX8_called_96 : decode cX8_called 96 = .ok (.iload_n 1, 1) := by decide +kernel
theorem dX8_called_97 : decode cX8_called 97 = .ok (.if_icmp .ne 5, 3) := by decide +kernel
theorem dX8_called_100 : decode cX8_called 100 = .ok (.iload_n 3, 1) := by decide +kernel
theorem dX8_called_101 : decode cX8_called 101 = .ok (.ireturn, 1) := by decide +kernel
theorem dX8_called_102 : decode cX8_called 102 = .ok (.iinc 3 1, 3) := by decide +kernel
theorem dX8_called_105 : decode cX8_called 105 = .ok (.goto (-103), 3) := by decide +kernel
theorem dX8_called_108 : decode cX8_called 108 = .ok (.iconst (-1), 1) := by decide +kernel
theorem dX8_called_109 : decode cX8_called 109 = .ok (.ireturn, 1) := by decide +kernel
theorem dX8_lowest_0 : decode cX8_lowest 0 = .ok (.iconst 0, 1) := by decide +kernel
theorem dX8_lowest_1 : decode cX8_lowest 1 = .ok (.istore_n 1, 1) := by decide +kernel
theorem dX8_lowest_2 : decode cX8_lowest 2 = .ok (.iload_n 0, 1) := by decide +kernel
theorem dX8_lowest_3 : decode cX8_lowest 3 = .ok (.iload_n 1, 1) := by decide +kernel
theorem dX8_lowest_4 : decode cX8_lowest 4 = .ok (.invokestatic 92, 3) := by decide +kernel
theorem dX8_lowest_7 : decode cX8_lowest 7 = .ok (.ifCond .ne 9, 3) := by decide +kernel
theorem dX8_lowest_10 : decode cX8_lowest 10 = .ok (.iinc 1 1, 3) := by decide +kernel
theorem dX8_lowest_13 : decode cX8_lowest 13 = .ok (.goto (-11), 3) := by decide +kernel
theorem dX8_lowest_16 : decode cX8_lowest 16 = .ok (.iload_n 1, 1) := by decide +kernel
theorem dX8_lowest_17 : decode cX8_lowest 17 = .ok (.ireturn, 1) := by decide +kernel
theorem dX8_call_0 : decode cX8_call 0 = .ok (.aload_n 0, 1) := by decide +kernel
theorem dX8_call_1 : decode cX8_call 1 = .ok (.aload_n 0, 1) := by decide +kernel
theorem dX8_call_2 : decode cX8_call 2 = .ok (.iload_n 1, 1) := by decide +kernel
theorem dX8_call_3 : decode cX8_call 3 = .ok (.invokevirtual 106, 3) := by decide +kernel
theorem dX8_call_6 : decode cX8_call 6 = .ok (.ifCond .eq 7, 3) := by decide +kernel
theorem dX8_call_9 : decode cX8_call 9 = .ok (.iconst 0, 1) := by decide +kernel
theorem dX8_call_10 : decode cX8_call 10 = .ok (.goto 4, 3) := by decide +kernel
theorem dX8_call_13 : decode cX8_call 13 = .ok (.iconst 1, 1) := by decide +kernel
theorem dX8_call_14 : decode cX8_call 14 = .ok (.invokevirtual 73, 3) := by decide +kernel
theorem dX8_call_17 : decode cX8_call 17 = .ok (.ifCond .eq 5, 3) := by decide +kernel
theorem dX8_call_20 : decode cX8_call 20 = .ok (.iconst 0, 1) := by decide +kernel
theorem dX8_call_21 : decode cX8_call 21 = .ok (.ireturn, 1) := by decide +kernel
theorem dX8_call_22 : decode cX8_call 22 = .ok (.aload_n 0, 1) := by decide +kernel
theorem dX8_call_23 : decode cX8_call 23 = .ok (.iload_n 1, 1) := by decide +kernel
theorem dX8_call_24 : decode cX8_call 24 = .ok (.iconst 2, 1) := by decide +kernel
theorem dX8_call_25 : decode cX8_call 25 = .ok (.invokevirtual 69, 3) := by decide +kernel
theorem dX8_call_28 : decode cX8_call 28 = .ok (.ifCond .eq 23, 3) := by decide +kernel
theorem dX8_call_31 : decode cX8_call 31 = .ok (.aload_n 0, 1) := by decide +kernel
theorem dX8_call_32 : decode cX8_call 32 = .ok (.iconst 2, 1) := by decide +kernel
theorem dX8_call_33 : decode cX8_call 33 = .ok (.iconst 2, 1) := by decide +kernel
theorem dX8_call_34 : decode cX8_call 34 = .ok (.aload_n 0, 1) := by decide +kernel
theorem dX8_call_35 : decode cX8_call 35 = .ok (.aload_n 0, 1) := by decide +kernel
theorem dX8_call_36 : decode cX8_call 36 = .ok (.iload_n 1, 1) := by decide +kernel
theorem dX8_call_37 : decode cX8_call 37 = .ok (.iconst 2, 1) := by decide +kernel
theorem dX8_call_38 : decode cX8_call 38 = .ok (.invokevirtual 69, 3) := by decide +kernel
theorem dX8_call_41 : decode cX8_call 41 = .ok (.invokestatic 109, 3) := by decide +kernel
theorem dX8_call_44 : decode cX8_call 44 = .ok (.invokevirtual 96, 3) := by decide +kernel
theorem dX8_call_47 : decode cX8_call 47 = .ok (.invokevirtual 77, 3) := by decide +kernel
theorem dX8_call_50 : decode cX8_call 50 = .ok (.ireturn, 1) := by decide +kernel
theorem dX8_call_51 : decode cX8_call 51 = .ok (.aload_n 0, 1) := by decide +kernel
theorem dX8_call_52 : decode cX8_call 52 = .ok (.iconst 0, 1) := by decide +kernel
theorem dX8_call_53 : decode cX8_call 53 = .ok (.invokevirtual 112, 3) := by decide +kernel
theorem dX8_call_56 : decode cX8_call 56 = .ok (.iconst 3, 1) := by decide +kernel
theorem dX8_call_57 : decode cX8_call 57 = .ok (.if_icmp .ge 15, 3) := by decide +kernel
theorem dX8_call_60 : decode cX8_call 60 = .ok (.aload_n 0, 1) := by decide +kernel
theorem dX8_call_61 : decode cX8_call 61 = .ok (.iconst 2, 1) := by decide +kernel
theorem dX8_call_62 : decode cX8_call 62 = .ok (.iconst 3, 1) := by decide +kernel
theorem dX8_call_63 : decode cX8_call 63 = .ok (.aload_n 0, 1) := by decide +kernel
theorem dX8_call_64 : decode cX8_call 64 = .ok (.iconst 0, 1) := by decide +kernel
theorem dX8_call_65 : decode cX8_call 65 = .ok (.invokevirtual 112, 3) := by decide +kernel
theorem dX8_call_68 : decode cX8_call 68 = .ok (.invokevirtual 77, 3) := by decide +kernel
theorem dX8_call_71 : decode cX8_call 71 = .ok (.ireturn, 1) := by decide +kernel
theorem dX8_call_72 : decode cX8_call 72 = .ok (.iconst 1, 1) := by decide +kernel
theorem dX8_call_73 : decode cX8_call 73 = .ok (.aload_n 0, 1) := by decide +kernel
theorem dX8_call_74 : decode cX8_call 74 = .ok (.iconst 0, 1) := by decide +kernel
theorem dX8_call_75 : decode cX8_call 75 = .ok (.iconst 0, 1) := by decide +kernel
theorem dX8_call_76 : decode cX8_call 76 = .ok (.invokevirtual 115, 3) := by decide +kernel
theorem dX8_call_79 : decode cX8_call 79 = .ok (.ishl, 1) := by decide +kernel
theorem dX8_call_80 : decode cX8_call 80 = .ok (.iconst 1, 1) := by decide +kernel
theorem dX8_call_81 : decode cX8_call 81 = .ok (.aload_n 0, 1) := by decide +kernel
theorem dX8_call_82 : decode cX8_call 82 = .ok (.iconst 1, 1) := by decide +kernel
theorem dX8_call_83 : decode cX8_call 83 = .ok (.iconst 0, 1) := by decide +kernel
theorem dX8_call_84 : decode cX8_call 84 = .ok (.invokevirtual 115, 3) := by decide +kernel
theorem dX8_call_87 : decode cX8_call 87 = .ok (.ishl, 1) := by decide +kernel
theorem dX8_call_88 : decode cX8_call 88 = .ok (.ior, 1) := by decide +kernel
theorem dX8_call_89 : decode cX8_call 89 = .ok (.iconst 1, 1) := by decide +kernel
theorem dX8_call_90 : decode cX8_call 90 = .ok (.aload_n 0, 1) := by decide +kernel
theorem dX8_call_91 : decode cX8_call 91 = .ok (.iconst 2, 1) := by decide +kernel
theorem dX8_call_92 : decode cX8_call 92 = .ok (.iconst 0, 1) := by decide +kernel
theorem dX8_call_93 : decode cX8_call 93 = .ok (.invokevirtual 115, 3) := by decide +kernel
theorem dX8_call_96 : decode cX8_call 96 = .ok (.ishl, 1) := by decide +kernel
theorem dX8_call_97 : decode cX8_call 97 = .ok (.ior, 1) := by decide +kernel
theorem dX8_call_98 : decode cX8_call 98 = .ok (.istore_n 2, 1) := by decide +kernel
theorem dX8_call_99 : decode cX8_call 99 = .ok (.aload_n 0, 1) := by decide +kernel
theorem dX8_call_100 : decode cX8_call 100 = .ok (.aload_n 0, 1) := by decide +kernel
theorem dX8_call_101 : decode cX8_call 101 = .ok (.getfield 7, 3) := by decide +kernel
theorem dX8_call_104 : decode cX8_call 104 = .ok (.invokevirtual 81, 3) := by decide +kernel
theorem dX8_call_107 : decode cX8_call 107 = .ok (.aload_n 0, 1) := by decide +kernel
theorem dX8_call_108 : decode cX8_call 108 = .ok (.iload_n 1, 1) := by decide +kernel
theorem dX8_call_109 : decode cX8_call 109 = .ok (.iconst 2, 1) := by decide +kernel
theorem dX8_call_110 : decode cX8_call 110 = .ok (.iload_n 2, 1) := by decide +kernel
theorem dX8_call_111 : decode cX8_call 111 = .ok (.invokevirtual 85, 3) := by decide +kernel
theorem dX8_call_114 : decode cX8_call 114 = .ok (.iload_n 2, 1) := by decide +kernel
theorem dX8_call_115 : decode cX8_call 115 = .ok (.ireturn, 1) := by decide +kernel
theorem dX8_laysMinds_0 : decode cX8_laysMinds 0 = .ok (.iconst 0, 1) := by decide +kernel
theorem dX8_laysMinds_1 : decode cX8_laysMinds 1 = .ok (.istore_n 1, 1) := by decide +kernel
theorem dX8_laysMinds_2 : decode cX8_laysMinds 2 = .ok (.iload_n 1, 1) := by decide +kernel
theorem dX8_laysMinds_3 : decode cX8_laysMinds 3 = .ok (.aload_n 0, 1) := by decide +kernel
theorem dX8_laysMinds_4 : decode cX8_laysMinds 4 = .ok (.getfield 7, 3) := by decide +kernel
theorem dX8_laysMinds_7 : decode cX8_laysMinds 7 = .ok (.iconst 0, 1) := by decide +kernel
theorem dX8_laysMinds_8 : decode cX8_laysMinds 8 = .ok (.iaload, 1) := by decide +kernel
theorem dX8_laysMinds_9 : decode cX8_laysMinds 9 = .ok (.if_icmp .ge 33, 3) := by decide +kernel
theorem dX8_laysMinds_12 : decode cX8_laysMinds 12 = .ok (.aload_n 0, 1) := by decide +kernel
theorem dX8_laysMinds_13 : decode cX8_laysMinds 13 = .ok (.getfield 33, 3) := by decide +kernel
theorem dX8_laysMinds_16 : decode cX8_laysMinds 16 = .ok (.iload_n 1, 1) := by decide +kernel
theorem dX8_laysMinds_17 : decode cX8_laysMinds 17 = .ok (.aload_n 0, 1) := by decide +kernel
theorem dX8_laysMinds_18 : decode cX8_laysMinds 18 = .ok (.iload_n 1, 1) := by decide +kernel
theorem dX8_laysMinds_19 : decode cX8_laysMinds 19 = .ok (.iconst 0, 1) := by decide +kernel
theorem dX8_laysMinds_20 : decode cX8_laysMinds 20 = .ok (.invokevirtual 100, 3) := by decide +kernel
theorem dX8_laysMinds_23 : decode cX8_laysMinds 23 = .ok (.iastore, 1) := by decide +kernel
theorem dX8_laysMinds_24 : decode cX8_laysMinds 24 = .ok (.aload_n 0, 1) := by decide +kernel
theorem dX8_laysMinds_25 : decode cX8_laysMinds 25 = .ok (.getfield 36, 3) := by decide +kernel
theorem dX8_laysMinds_28 : decode cX8_laysMinds 28 = .ok (.iload_n 1, 1) := by decide +kernel
theorem dX8_laysMinds_29 : decode cX8_laysMinds 29 = .ok (.aload_n 0, 1) := by decide +kernel
theorem dX8_laysMinds_30 : decode cX8_laysMinds 30 = .ok (.iload_n 1, 1) := by decide +kernel
theorem dX8_laysMinds_31 : decode cX8_laysMinds 31 = .ok (.iconst 1, 1) := by decide +kernel
theorem dX8_laysMinds_32 : decode cX8_laysMinds 32 = .ok (.invokevirtual 100, 3) := by decide +kernel
theorem dX8_laysMinds_35 : decode cX8_laysMinds 35 = .ok (.iastore, 1) := by decide +kernel
theorem dX8_laysMinds_36 : decode cX8_laysMinds 36 = .ok (.iinc 1 1, 3) := by decide +kernel
theorem dX8_laysMinds_39 : decode cX8_laysMinds 39 = .ok (.goto (-37), 3) := by decide +kernel
theorem dX8_laysMinds_42 : decode cX8_laysMinds 42 = .ok (.return_, 1) := by decide +kernel
theorem dX8_takesMinds_0 : decode cX8_takesMinds 0 = .ok (.iconst 0, 1) := by decide +kernel
theorem dX8_takesMinds_1 : decode cX8_takesMinds 1 = .ok (.istore_n 1, 1) := by decide +kernel
theorem dX8_takesMinds_2 : decode cX8_takesMinds 2 = .ok (.iload_n 1, 1) := by decide +kernel
theorem dX8_takesMinds_3 : decode cX8_takesMinds 3 = .ok (.aload_n 0, 1) := by decide +kernel
theorem dX8_takesMinds_4 : decode cX8_takesMinds 4 = .ok (.getfield 7, 3) := by decide +kernel
theorem dX8_takesMinds_7 : decode cX8_takesMinds 7 = .ok (.iconst 0, 1) := by decide +kernel
theorem dX8_takesMinds_8 : decode cX8_takesMinds 8 = .ok (.iaload, 1) := by decide +kernel
theorem dX8_takesMinds_9 : decode cX8_takesMinds 9 = .ok (.if_icmp .ge 47, 3) := by decide +kernel
theorem dX8_takesMinds_12 : decode cX8_takesMinds 12 = .ok (.aload_n 0, 1) := by decide +kernel
theorem dX8_takesMinds_13 : decode cX8_takesMinds 13 = .ok (.getfield 7, 3) := by decide +kernel
theorem dX8_takesMinds_16 : decode cX8_takesMinds 16 = .ok (.bipush 8, 2) := by decide +kernel
theorem dX8_takesMinds_18 : decode cX8_takesMinds 18 = .ok (.iconst 4, 1) := by decide +kernel
theorem dX8_takesMinds_19 : decode cX8_takesMinds 19 = .ok (.iload_n 1, 1) := by decide +kernel
theorem dX8_takesMinds_20 : decode cX8_takesMinds 20 = .ok (.imul, 1) := by decide +kernel
theorem dX8_takesMinds_21 : decode cX8_takesMinds 21 = .ok (.iadd, 1) := by decide +kernel
theorem dX8_takesMinds_22 : decode cX8_takesMinds 22 = .ok (.iconst 0, 1) := by decide +kernel
theorem dX8_takesMinds_23 : decode cX8_takesMinds 23 = .ok (.iadd, 1) := by decide +kernel
theorem dX8_takesMinds_24 : decode cX8_takesMinds 24 = .ok (.aload_n 0, 1) := by decide +kernel
theorem dX8_takesMinds_25 : decode cX8_takesMinds 25 = .ok (.getfield 33, 3) := by decide +kernel
theorem dX8_takesMinds_28 : decode cX8_takesMinds 28 = .ok (.iload_n 1, 1) := by decide +kernel
theorem dX8_takesMinds_29 : decode cX8_takesMinds 29 = .ok (.iaload, 1) := by decide +kernel
theorem dX8_takesMinds_30 : decode cX8_takesMinds 30 = .ok (.iastore, 1) := by decide +kernel
theorem dX8_takesMinds_31 : decode cX8_takesMinds 31 = .ok (.aload_n 0, 1) := by decide +kernel
theorem dX8_takesMinds_32 : decode cX8_takesMinds 32 = .ok (.getfield 7, 3) := by decide +kernel
theorem dX8_takesMinds_35 : decode cX8_takesMinds 35 = .ok (.bipush 8, 2) := by decide +kernel
theorem dX8_takesMinds_37 : decode cX8_takesMinds 37 = .ok (.iconst 4, 1) := by decide +kernel
theorem dX8_takesMinds_38 : decode cX8_takesMinds 38 = .ok (.iload_n 1, 1) := by decide +kernel
theorem dX8_takesMinds_39 : decode cX8_takesMinds 39 = .ok (.imul, 1) := by decide +kernel
theorem dX8_takesMinds_40 : decode cX8_takesMinds 40 = .ok (.iadd, 1) := by decide +kernel
theorem dX8_takesMinds_41 : decode cX8_takesMinds 41 = .ok (.iconst 1, 1) := by decide +kernel
theorem dX8_takesMinds_42 : decode cX8_takesMinds 42 = .ok (.iadd, 1) := by decide +kernel
theorem dX8_takesMinds_43 : decode cX8_takesMinds 43 = .ok (.aload_n 0, 1) := by decide +kernel
theorem dX8_takesMinds_44 : decode cX8_takesMinds 44 = .ok (.getfield 36, 3) := by decide +kernel
theorem dX8_takesMinds_47 : decode cX8_takesMinds 47 = .ok (.iload_n 1, 1) := by decide +kernel
theorem dX8_takesMinds_48 : decode cX8_takesMinds 48 = .ok (.iaload, 1) := by decide +kernel
theorem dX8_takesMinds_49 : decode cX8_takesMinds 49 = .ok (.iastore, 1) := by decide +kernel
theorem dX8_takesMinds_50 : decode cX8_takesMinds 50 = .ok (.iinc 1 1, 3) := by decide +kernel
theorem dX8_takesMinds_53 : decode cX8_takesMinds 53 = .ok (.goto (-51), 3) := by decide +kernel
theorem dX8_takesMinds_56 : decode cX8_takesMinds 56 = .ok (.return_, 1) := by decide +kernel
theorem dX8_isFor_0 : decode cX8_isFor 0 = .ok (.iload_n 2, 1) := by decide +kernel
theorem dX8_isFor_1 : decode cX8_isFor 1 = .ok (.iconst 5, 1) := by decide +kernel
theorem dX8_isFor_2 : decode cX8_isFor 2 = .ok (.aload_n 0, 1) := by decide +kernel
theorem dX8_isFor_3 : decode cX8_isFor 3 = .ok (.getfield 33, 3) := by decide +kernel
theorem dX8_isFor_6 : decode cX8_isFor 6 = .ok (.iload_n 1, 1) := by decide +kernel
theorem dX8_isFor_7 : decode cX8_isFor 7 = .ok (.iaload, 1) := by decide +kernel
theorem dX8_isFor_8 : decode cX8_isFor 8 = .ok (.imul, 1) := by decide +kernel
theorem dX8_isFor_9 : decode cX8_isFor 9 = .ok (.iadd, 1) := by decide +kernel
theorem dX8_isFor_10 : decode cX8_isFor 10 = .ok (.aload_n 0, 1) := by decide +kernel
theorem dX8_isFor_11 : decode cX8_isFor 11 = .ok (.getfield 36, 3) := by decide +kernel
theorem dX8_isFor_14 : decode cX8_isFor 14 = .ok (.iload_n 1, 1) := by decide +kernel
theorem dX8_isFor_15 : decode cX8_isFor 15 = .ok (.iaload, 1) := by decide +kernel
theorem dX8_isFor_16 : decode cX8_isFor 16 = .ok (.isub, 1) := by decide +kernel
theorem dX8_isFor_17 : decode cX8_isFor 17 = .ok (.bipush 50, 2) := by decide +kernel
theorem dX8_isFor_19 : decode cX8_isFor 19 = .ok (.if_icmp .lt 7, 3) := by decide +kernel
theorem dX8_isFor_22 : decode cX8_isFor 22 = .ok (.iconst 1, 1) := by decide +kernel
theorem dX8_isFor_23 : decode cX8_isFor 23 = .ok (.goto 4, 3) := by decide +kernel
theorem dX8_isFor_26 : decode cX8_isFor 26 = .ok (.iconst 0, 1) := by decide +kernel
theorem dX8_isFor_27 : decode cX8_isFor 27 = .ok (.ireturn, 1) := by decide +kernel
theorem dX8_verdictBy_0 : decode cX8_verdictBy 0 = .ok (.iconst 0, 1) := by decide +kernel
theorem dX8_verdictBy_1 : decode cX8_verdictBy 1 = .ok (.istore_n 3, 1) := by decide +kernel
theorem dX8_verdictBy_2 : decode cX8_verdictBy 2 = .ok (.iconst 0, 1) := by decide +kernel
theorem dX8_verdictBy_3 : decode cX8_verdictBy 3 = .ok (.istore 4, 2) := by decide +kernel
theorem dX8_verdictBy_5 : decode cX8_verdictBy 5 = .ok (.iload 4, 2) := by decide +kernel
theorem dX8_verdictBy_7 : decode cX8_verdictBy 7 = .ok (.aload_n 0, 1) := by decide +kernel
theorem dX8_verdictBy_8 : decode cX8_verdictBy 8 = .ok (.getfield 7, 3) := by decide +kernel
theorem dX8_verdictBy_11 : decode cX8_verdictBy 11 = .ok (.iconst 0, 1) := by decide +kernel
theorem dX8_verdictBy_12 : decode cX8_verdictBy 12 = .ok (.iaload, 1) := by decide +kernel
theorem dX8_verdictBy_13 : decode cX8_verdictBy 13 = .ok (.if_icmp .ge 36, 3) := by decide +kernel
theorem dX8_verdictBy_16 : decode cX8_verdictBy 16 = .ok (.iload_n 3, 1) := by decide +kernel
theorem dX8_verdictBy_17 : decode cX8_verdictBy 17 = .ok (.iload_n 1, 1) := by decide +kernel
theorem dX8_verdictBy_18 : decode cX8_verdictBy 18 = .ok (.iload 4, 2) := by decide +kernel
theorem dX8_verdictBy_20 : decode cX8_verdictBy 20 = .ok (.invokestatic 92, 3) := by decide +kernel
theorem dX8_verdictBy_23 : decode cX8_verdictBy 23 = .ok (.ifCond .eq 17, 3) := by decide +kernel
theorem dX8_verdictBy_26 : decode cX8_verdictBy 26 = .ok (.aload_n 0, 1) := by decide +kernel
theorem dX8_verdictBy_27 : decode cX8_verdictBy 27 = .ok (.iload 4, 2) := by decide +kernel
theorem dX8_verdictBy_29 : decode cX8_verdictBy 29 = .ok (.iload_n 2, 1) := by decide +kernel
theorem dX8_verdictBy_30 : decode cX8_verdictBy 30 = .ok (.invokevirtual 118, 3) := by decide +kernel
theorem dX8_verdictBy_33 : decode cX8_verdictBy 33 = .ok (.ifCond .eq 7, 3) := by decide +kernel
theorem dX8_verdictBy_36 : decode cX8_verdictBy 36 = .ok (.iconst 1, 1) := by decide +kernel
theorem dX8_verdictBy_37 : decode cX8_verdictBy 37 = .ok (.goto 4, 3) := by decide +kernel
theorem dX8_verdictBy_40 : decode cX8_verdictBy 40 = .ok (.iconst 0, 1) := by decide +kernel
theorem dX8_verdictBy_41 : decode cX8_verdictBy 41 = .ok (.iadd, 1) := by decide +kernel
theorem dX8_verdictBy_42 : decode cX8_verdictBy 42 = .ok (.istore_n 3, 1) := by decide +kernel
theorem dX8_verdictBy_43 : decode cX8_verdictBy 43 = .ok (.iinc 4 1, 3) := by decide +kernel
theorem dX8_verdictBy_46 : decode cX8_verdictBy 46 = .ok (.goto (-41), 3) := by decide +kernel
theorem dX8_verdictBy_49 : decode cX8_verdictBy 49 = .ok (.iload_n 3, 1) := by decide +kernel
theorem dX8_verdictBy_50 : decode cX8_verdictBy 50 = .ok (.iconst 1, 1) := by decide +kernel
theorem dX8_verdictBy_51 : decode cX8_verdictBy 51 = .ok (.if_icmp .le 7, 3) := by decide +kernel
theorem dX8_verdictBy_54 : decode cX8_verdictBy 54 = .ok (.iconst 1, 1) := by decide +kernel
theorem dX8_verdictBy_55 : decode cX8_verdictBy 55 = .ok (.goto 4, 3) := by decide +kernel
theorem dX8_verdictBy_58 : decode cX8_verdictBy 58 = .ok (.iconst 2, 1) := by decide +kernel
theorem dX8_verdictBy_59 : decode cX8_verdictBy 59 = .ok (.ireturn, 1) := by decide +kernel
theorem dX8_doubtsBy_0 : decode cX8_doubtsBy 0 = .ok (.iconst 0, 1) := by decide +kernel
theorem dX8_doubtsBy_1 : decode cX8_doubtsBy 1 = .ok (.istore 4, 2) := by decide +kernel
theorem dX8_doubtsBy_3 : decode cX8_doubtsBy 3 = .ok (.iconst 0, 1) := by decide +kernel
theorem dX8_doubtsBy_4 : decode cX8_doubtsBy 4 = .ok (.istore 5, 2) := by decide +kernel
theorem dX8_doubtsBy_6 : decode cX8_doubtsBy 6 = .ok (.iload 5, 2) := by decide +kernel
theorem dX8_doubtsBy_8 : decode cX8_doubtsBy 8 = .ok (.aload_n 0, 1) := by decide +kernel
theorem dX8_doubtsBy_9 : decode cX8_doubtsBy 9 = .ok (.getfield 7, 3) := by decide +kernel
theorem dX8_doubtsBy_12 : decode cX8_doubtsBy 12 = .ok (.iconst 0, 1) := by decide +kernel
theorem dX8_doubtsBy_13 : decode cX8_doubtsBy 13 = .ok (.iaload, 1) := by decide +kernel
theorem dX8_doubtsBy_14 : decode cX8_doubtsBy 14 = .ok (.if_icmp .ge 47, 3) := by decide +kernel
theorem dX8_doubtsBy_17 : decode cX8_doubtsBy 17 = .ok (.iload_n 1, 1) := by decide +kernel
theorem dX8_doubtsBy_18 : decode cX8_doubtsBy 18 = .ok (.iload 5, 2) := by decide +kernel
theorem dX8_doubtsBy_20 : decode cX8_doubtsBy 20 = .ok (.invokestatic 92, 3) := by decide +kernel
theorem dX8_doubtsBy_23 : decode cX8_doubtsBy 23 = .ok (.ifCond .eq 32, 3) := by decide +kernel
theorem dX8_doubtsBy_26 : decode cX8_doubtsBy 26 = .ok (.aload_n 0, 1) := by decide +kernel
theorem dX8_doubtsBy_27 : decode cX8_doubtsBy 27 = .ok (.iload 5, 2) := by decide +kernel
theorem dX8_doubtsBy_29 : decode cX8_doubtsBy 29 = .ok (.iload_n 2, 1) := by decide +kernel
theorem dX8_doubtsBy_30 : decode cX8_doubtsBy 30 = .ok (.invokevirtual 118, 3) := by decide +kernel
theorem dX8_doubtsBy_33 : decode cX8_doubtsBy 33 = .ok (.iload_n 3, 1) := by decide +kernel
theorem dX8_doubtsBy_34 : decode cX8_doubtsBy 34 = .ok (.iconst 1, 1) := by decide +kernel
theorem dX8_doubtsBy_35 : decode cX8_doubtsBy 35 = .ok (.if_icmp .ne 7, 3) := by decide +kernel
theorem dX8_doubtsBy_38 : decode cX8_doubtsBy 38 = .ok (.iconst 1, 1) := by decide +kernel
theorem dX8_doubtsBy_39 : decode cX8_doubtsBy 39 = .ok (.goto 4, 3) := by decide +kernel
theorem dX8_doubtsBy_42 : decode cX8_doubtsBy 42 = .ok (.iconst 0, 1) := by decide +kernel
theorem dX8_doubtsBy_43 : decode cX8_doubtsBy 43 = .ok (.if_icmp .eq 12, 3) := by decide +kernel
theorem dX8_doubtsBy_46 : decode cX8_doubtsBy 46 = .ok (.iload 4, 2) := by decide +kernel
theorem dX8_doubtsBy_48 : decode cX8_doubtsBy 48 = .ok (.iconst 1, 1) := by decide +kernel
theorem dX8_doubtsBy_49 : decode cX8_doubtsBy 49 = .ok (.iload 5, 2) := by decide +kernel
theorem dX8_doubtsBy_51 : decode cX8_doubtsBy 51 = .ok (.ishl, 1) := by decide +kernel
theorem dX8_doubtsBy_52 : decode cX8_doubtsBy 52 = .ok (.ior, 1) := by decide +kernel
theorem dX8_doubtsBy_53 : decode cX8_doubtsBy 53 = .ok (.istore 4, 2) := by decide +kernel
theorem dX8_doubtsBy_55 : decode cX8_doubtsBy 55 = .ok (.iinc 5 1, 3) := by decide +kernel
theorem dX8_doubtsBy_58 : decode cX8_doubtsBy 58 = .ok (.goto (-52), 3) := by decide +kernel
theorem dX8_doubtsBy_61 : decode cX8_doubtsBy 61 = .ok (.iconst 0, 1) := by decide +kernel
theorem dX8_doubtsBy_62 : decode cX8_doubtsBy 62 = .ok (.istore 5, 2) := by decide +kernel
theorem dX8_doubtsBy_64 : decode cX8_doubtsBy 64 = .ok (.iload 5, 2) := by decide +kernel
theorem dX8_doubtsBy_66 : decode cX8_doubtsBy 66 = .ok (.aload_n 0, 1) := by decide +kernel
theorem dX8_doubtsBy_67 : decode cX8_doubtsBy 67 = .ok (.getfield 7, 3) := by decide +kernel
theorem dX8_doubtsBy_70 : decode cX8_doubtsBy 70 = .ok (.iconst 0, 1) := by decide +kernel
theorem dX8_doubtsBy_71 : decode cX8_doubtsBy 71 = .ok (.iaload, 1) := by decide +kernel
theorem dX8_doubtsBy_72 : decode cX8_doubtsBy 72 = .ok (.if_icmp .ge 54, 3) := by decide +kernel
theorem dX8_doubtsBy_75 : decode cX8_doubtsBy 75 = .ok (.iload_n 1, 1) := by decide +kernel
theorem dX8_doubtsBy_76 : decode cX8_doubtsBy 76 = .ok (.iload 5, 2) := by decide +kernel
theorem dX8_doubtsBy_78 : decode cX8_doubtsBy 78 = .ok (.invokestatic 92, 3) := by decide +kernel
theorem dX8_doubtsBy_81 : decode cX8_doubtsBy 81 = .ok (.ifCond .eq 39, 3) := by decide +kernel
theorem dX8_doubtsBy_84 : decode cX8_doubtsBy 84 = .ok (.aload_n 0, 1) := by decide +kernel
theorem dX8_doubtsBy_85 : decode cX8_doubtsBy 85 = .ok (.getfield 36, 3) := by decide +kernel
theorem dX8_doubtsBy_88 : decode cX8_doubtsBy 88 = .ok (.iload 5, 2) := by decide +kernel
theorem dX8_doubtsBy_90 : decode cX8_doubtsBy 90 = .ok (.aload_n 0, 1) := by decide +kernel
theorem dX8_doubtsBy_91 : decode cX8_doubtsBy 91 = .ok (.getfield 36, 3) := by decide +kernel
theorem dX8_doubtsBy_94 : decode cX8_doubtsBy 94 = .ok (.iload 5, 2) := by decide +kernel
theorem dX8_doubtsBy_96 : decode cX8_doubtsBy 96 = .ok (.iaload, 1) := by decide +kernel
theorem dX8_doubtsBy_97 : decode cX8_doubtsBy 97 = .ok (.iload 4, 2) := by decide +kernel
theorem dX8_doubtsBy_99 : decode cX8_doubtsBy 99 = .ok (.iload 5, 2) := by decide +kernel
theorem dX8_doubtsBy_101 : decode cX8_doubtsBy 101 = .ok (.invokestatic 92, 3) := by decide +kernel
theorem dX8_doubtsBy_104 : decode cX8_doubtsBy 104 = .ok (.ifCond .eq 7, 3) := by decide +kernel
theorem dX8_doubtsBy_107 : decode cX8_doubtsBy 107 = .ok (.iconst 1, 1) := by decide +kernel
theorem dX8_doubtsBy_108 : decode cX8_doubtsBy 108 = .ok (.goto 4, 3) := by decide +kernel
theorem dX8_doubtsBy_111 : decode cX8_doubtsBy 111 = .ok (.iconst (-1), 1) := by decide +kernel
theorem dX8_doubtsBy_112 : decode cX8_doubtsBy 112 = .ok (.iadd, 1) := by decide +kernel
theorem dX8_doubtsBy_113 : decode cX8_doubtsBy 113 = .ok (.iconst 0, 1) := by decide +kernel
theorem dX8_doubtsBy_114 : decode cX8_doubtsBy 114 = .ok (.bipush 9, 2) := by decide +kernel
theorem dX8_doubtsBy_116 : decode cX8_doubtsBy 116 = .ok (.invokestatic 121, 3) := by decide +kernel
theorem dX8_doubtsBy_119 : decode cX8_doubtsBy 119 = .ok (.iastore, 1) := by decide +kernel
theorem dX8_doubtsBy_120 : decode cX8_doubtsBy 120 = .ok (.iinc 5 1, 3) := by decide +kernel
theorem dX8_doubtsBy_123 : decode cX8_doubtsBy 123 = .ok (.goto (-59), 3) := by decide +kernel
theorem dX8_doubtsBy_126 : decode cX8_doubtsBy 126 = .ok (.iload 4, 2) := by decide +kernel
theorem dX8_doubtsBy_128 : decode cX8_doubtsBy 128 = .ok (.ireturn, 1) := by decide +kernel
theorem dX8_thinks_0 : decode cX8_thinks 0 = .ok (.iconst 0, 1) := by decide +kernel
theorem dX8_thinks_1 : decode cX8_thinks 1 = .ok (.istore_n 3, 1) := by decide +kernel
theorem dX8_thinks_2 : decode cX8_thinks 2 = .ok (.iconst 0, 1) := by decide +kernel
theorem dX8_thinks_3 : decode cX8_thinks 3 = .ok (.istore 4, 2) := by decide +kernel
theorem dX8_thinks_5 : decode cX8_thinks 5 = .ok (.iload 4, 2) := by decide +kernel
theorem dX8_thinks_7 : decode cX8_thinks 7 = .ok (.aload_n 0, 1) := by decide +kernel
theorem dX8_thinks_8 : decode cX8_thinks 8 = .ok (.getfield 7, 3) := by decide +kernel
theorem dX8_thinks_11 : decode cX8_thinks 11 = .ok (.iconst 0, 1) := by decide +kernel
theorem dX8_thinks_12 : decode cX8_thinks 12 = .ok (.iaload, 1) := by decide +kernel
theorem dX8_thinks_13 : decode cX8_thinks 13 = .ok (.if_icmp .ge 82, 3) := by decide +kernel
theorem dX8_thinks_16 : decode cX8_thinks 16 = .ok (.iload_n 1, 1) := by decide +kernel
theorem dX8_thinks_17 : decode cX8_thinks 17 = .ok (.iload 4, 2) := by decide +kernel
theorem dX8_thinks_19 : decode cX8_thinks 19 = .ok (.invokestatic 92, 3) := by decide +kernel
theorem dX8_thinks_22 : decode cX8_thinks 22 = .ok (.ifCond .ne 6, 3) := by decide +kernel
theorem dX8_thinks_25 : decode cX8_thinks 25 = .ok (.goto 64, 3) := by decide +kernel
theorem dX8_thinks_28 : decode cX8_thinks 28 = .ok (.aload_n 0, 1) := by decide +kernel
theorem dX8_thinks_29 : decode cX8_thinks 29 = .ok (.getfield 33, 3) := by decide +kernel
theorem dX8_thinks_32 : decode cX8_thinks 32 = .ok (.iload 4, 2) := by decide +kernel
theorem dX8_thinks_34 : decode cX8_thinks 34 = .ok (.iaload, 1) := by decide +kernel
theorem dX8_thinks_35 : decode cX8_thinks 35 = .ok (.aload_n 0, 1) := by decide +kernel
theorem dX8_thinks_36 : decode cX8_thinks 36 = .ok (.iload 4, 2) := by decide +kernel
theorem dX8_thinks_38 : decode cX8_thinks 38 = .ok (.iload_n 2, 1) := by decide +kernel
theorem dX8_thinks_39 : decode cX8_thinks 39 = .ok (.invokevirtual 118, 3) := by decide +kernel
theorem dX8_thinks_42 : decode cX8_thinks 42 = .ok (.ifCond .eq 7, 3) := by decide +kernel
theorem dX8_thinks_45 : decode cX8_thinks 45 = .ok (.iconst (-1), 1) := by decide +kernel
theorem dX8_thinks_46 : decode cX8_thinks 46 = .ok (.goto 4, 3) := by decide +kernel
theorem dX8_thinks_49 : decode cX8_thinks 49 = .ok (.iconst 1, 1) := by decide +kernel
theorem dX8_thinks_50 : decode cX8_thinks 50 = .ok (.iadd, 1) := by decide +kernel
theorem dX8_thinks_51 : decode cX8_thinks 51 = .ok (.bipush (-9), 2) := by decide +kernel
theorem dX8_thinks_53 : decode cX8_thinks 53 = .ok (.bipush 9, 2) := by decide +kernel
theorem dX8_thinks_55 : decode cX8_thinks 55 = .ok (.invokestatic 121, 3) := by decide +kernel
theorem dX8_thinks_58 : decode cX8_thinks 58 = .ok (.istore 5, 2) := by decide +kernel
theorem dX8_thinks_60 : decode cX8_thinks 60 = .ok (.iload_n 3, 1) := by decide +kernel
theorem dX8_thinks_61 : decode cX8_thinks 61 = .ok (.iload 5, 2) := by decide +kernel
theorem dX8_thinks_63 : decode cX8_thinks 63 = .ok (.aload_n 0, 1) := by decide +kernel
theorem dX8_thinks_64 : decode cX8_thinks 64 = .ok (.getfield 33, 3) := by decide +kernel
theorem dX8_thinks_67 : decode cX8_thinks 67 = .ok (.iload 4, 2) := by decide +kernel
theorem dX8_thinks_69 : decode cX8_thinks 69 = .ok (.iaload, 1) := by decide +kernel
theorem dX8_thinks_70 : decode cX8_thinks 70 = .ok (.if_icmp .ne 7, 3) := by decide +kernel
theorem dX8_thinks_73 : decode cX8_thinks 73 = .ok (.iconst 0, 1) := by decide +kernel
theorem dX8_thinks_74 : decode cX8_thinks 74 = .ok (.goto 4, 3) := by decide +kernel
theorem dX8_thinks_77 : decode cX8_thinks 77 = .ok (.iconst 1, 1) := by decide +kernel
theorem dX8_thinks_78 : decode cX8_thinks 78 = .ok (.iadd, 1) := by decide +kernel
theorem dX8_thinks_79 : decode cX8_thinks 79 = .ok (.istore_n 3, 1) := by decide +kernel
theorem dX8_thinks_80 : decode cX8_thinks 80 = .ok (.aload_n 0, 1) := by decide +kernel
theorem dX8_thinks_81 : decode cX8_thinks 81 = .ok (.getfield 33, 3) := by decide +kernel
theorem dX8_thinks_84 : decode cX8_thinks 84 = .ok (.iload 4, 2) := by decide +kernel
theorem dX8_thinks_86 : decode cX8_thinks 86 = .ok (.iload 5, 2) := by decide +kernel
theorem dX8_thinks_88 : decode cX8_thinks 88 = .ok (.iastore, 1) := by decide +kernel
theorem dX8_thinks_89 : decode cX8_thinks 89 = .ok (.iinc 4 1, 3) := by decide +kernel
theorem dX8_thinks_92 : decode cX8_thinks 92 = .ok (.goto (-87), 3) := by decide +kernel
theorem dX8_thinks_95 : decode cX8_thinks 95 = .ok (.iload_n 3, 1) := by decide +kernel
theorem dX8_thinks_96 : decode cX8_thinks 96 = .ok (.ireturn, 1) := by decide +kernel
theorem dX8_says_0 : decode cX8_says 0 = .ok (.aload_n 0, 1) := by decide +kernel
theorem dX8_says_1 : decode cX8_says 1 = .ok (.invokevirtual 124, 3) := by decide +kernel
theorem dX8_says_4 : decode cX8_says 4 = .ok (.aload_n 0, 1) := by decide +kernel
theorem dX8_says_5 : decode cX8_says 5 = .ok (.aload_n 0, 1) := by decide +kernel
theorem dX8_says_6 : decode cX8_says 6 = .ok (.iload_n 1, 1) := by decide +kernel
theorem dX8_says_7 : decode cX8_says 7 = .ok (.iconst 2, 1) := by decide +kernel
theorem dX8_says_8 : decode cX8_says 8 = .ok (.invokevirtual 69, 3) := by decide +kernel
theorem dX8_says_11 : decode cX8_says 11 = .ok (.aload_n 0, 1) := by decide +kernel
theorem dX8_says_12 : decode cX8_says 12 = .ok (.iload_n 1, 1) := by decide +kernel
theorem dX8_says_13 : decode cX8_says 13 = .ok (.iconst 0, 1) := by decide +kernel
theorem dX8_says_14 : decode cX8_says 14 = .ok (.invokevirtual 69, 3) := by decide +kernel
theorem dX8_says_17 : decode cX8_says 17 = .ok (.invokevirtual 127, 3) := by decide +kernel
theorem dX8_says_20 : decode cX8_says 20 = .ok (.istore_n 2, 1) := by decide +kernel
theorem dX8_says_21 : decode cX8_says 21 = .ok (.aload_n 0, 1) := by decide +kernel
theorem dX8_says_22 : decode cX8_says 22 = .ok (.aload_n 0, 1) := by decide +kernel
theorem dX8_says_23 : decode cX8_says 23 = .ok (.iload_n 1, 1) := by decide +kernel
theorem dX8_says_24 : decode cX8_says 24 = .ok (.iconst 2, 1) := by decide +kernel
theorem dX8_says_25 : decode cX8_says 25 = .ok (.invokevirtual 69, 3) := by decide +kernel
theorem dX8_says_28 : decode cX8_says 28 = .ok (.aload_n 0, 1) := by decide +kernel
theorem dX8_says_29 : decode cX8_says 29 = .ok (.iload_n 1, 1) := by decide +kernel
theorem dX8_says_30 : decode cX8_says 30 = .ok (.iconst 0, 1) := by decide +kernel
theorem dX8_says_31 : decode cX8_says 31 = .ok (.invokevirtual 69, 3) := by decide +kernel
theorem dX8_says_34 : decode cX8_says 34 = .ok (.iload_n 2, 1) := by decide +kernel
theorem dX8_says_35 : decode cX8_says 35 = .ok (.invokevirtual 130, 3) := by decide +kernel
theorem dX8_says_38 : decode cX8_says 38 = .ok (.istore_n 3, 1) := by decide +kernel
theorem dX8_says_39 : decode cX8_says 39 = .ok (.aload_n 0, 1) := by decide +kernel
theorem dX8_says_40 : decode cX8_says 40 = .ok (.invokevirtual 133, 3) := by decide +kernel
theorem dX8_says_43 : decode cX8_says 43 = .ok (.iconst 0, 1) := by decide +kernel
theorem dX8_says_44 : decode cX8_says 44 = .ok (.istore 4, 2) := by decide +kernel
theorem dX8_says_46 : decode cX8_says 46 = .ok (.iload 4, 2) := by decide +kernel
theorem dX8_says_48 : decode cX8_says 48 = .ok (.aload_n 0, 1) := by decide +kernel
theorem dX8_says_49 : decode cX8_says 49 = .ok (.getfield 7, 3) := by decide +kernel
theorem dX8_says_52 : decode cX8_says 52 = .ok (.iconst 0, 1) := by decide +kernel
theorem dX8_says_53 : decode cX8_says 53 = .ok (.iaload, 1) := by decide +kernel
theorem dX8_says_54 : decode cX8_says 54 = .ok (.if_icmp .ge 76, 3) := by decide +kernel
theorem dX8_says_57 : decode cX8_says 57 = .ok (.aload_n 0, 1) := by decide +kernel
theorem dX8_says_58 : decode cX8_says 58 = .ok (.getfield 7, 3) := by decide +kernel
theorem dX8_says_61 : decode cX8_says 61 = .ok (.bipush 8, 2) := by decide +kernel
theorem dX8_says_63 : decode cX8_says 63 = .ok (.iconst 4, 1) := by decide +kernel
theorem dX8_says_64 : decode cX8_says 64 = .ok (.iload 4, 2) := by decide +kernel
theorem dX8_says_66 : decode cX8_says 66 = .ok (.imul, 1) := by decide +kernel
theorem dX8_says_67 : decode cX8_says 67 = .ok (.iadd, 1) := by decide +kernel
theorem dX8_says_68 : decode cX8_says 68 = .ok (.iconst 2, 1) := by decide +kernel
theorem dX8_says_69 : decode cX8_says 69 = .ok (.iadd, 1) := by decide +kernel
theorem dX8_says_70 : decode cX8_says 70 = .ok (.dup2, 1) := by decide +kernel
theorem dX8_says_71 : decode cX8_says 71 = .ok (.iaload, 1) := by decide +kernel
theorem dX8_says_72 : decode cX8_says 72 = .ok (.aload_n 0, 1) := by decide +kernel
theorem dX8_says_73 : decode cX8_says 73 = .ok (.iload_n 1, 1) := by decide +kernel
theorem dX8_says_74 : decode cX8_says 74 = .ok (.iconst 2, 1) := by decide +kernel
theorem dX8_says_75 : decode cX8_says 75 = .ok (.invokevirtual 69, 3) := by decide +kernel
theorem dX8_says_78 : decode cX8_says 78 = .ok (.iload 4, 2) := by decide +kernel
theorem dX8_says_80 : decode cX8_says 80 = .ok (.invokestatic 92, 3) := by decide +kernel
theorem dX8_says_83 : decode cX8_says 83 = .ok (.ifCond .eq 7, 3) := by decide +kernel
theorem dX8_says_86 : decode cX8_says 86 = .ok (.iconst 1, 1) := by decide +kernel
theorem dX8_says_87 : decode cX8_says 87 = .ok (.goto 4, 3) := by decide +kernel
theorem dX8_says_90 : decode cX8_says 90 = .ok (.iconst 0, 1) := by decide +kernel
theorem dX8_says_91 : decode cX8_says 91 = .ok (.iadd, 1) := by decide +kernel
theorem dX8_says_92 : decode cX8_says 92 = .ok (.iastore, 1) := by decide +kernel
theorem dX8_says_93 : decode cX8_says 93 = .ok (.aload_n 0, 1) := by decide +kernel
theorem dX8_says_94 : decode cX8_says 94 = .ok (.getfield 7, 3) := by decide +kernel
theorem dX8_says_97 : decode cX8_says 97 = .ok (.bipush 8, 2) := by decide +kernel
theorem dX8_says_99 : decode cX8_says 99 = .ok (.iconst 4, 1) := by decide +kernel
theorem dX8_says_100 : decode cX8_says 100 = .ok (.iload 4, 2) := by decide +kernel
theorem dX8_says_102 : decode cX8_says 102 = .ok (.imul, 1) := by decide +kernel
theorem dX8_says_103 : decode cX8_says 103 = .ok (.iadd, 1) := by decide +kernel
theorem dX8_says_104 : decode cX8_says 104 = .ok (.iconst 3, 1) := by decide +kernel
theorem dX8_says_105 : decode cX8_says 105 = .ok (.iadd, 1) := by decide +kernel
theorem dX8_says_106 : decode cX8_says 106 = .ok (.dup2, 1) := by decide +kernel
theorem dX8_says_107 : decode cX8_says 107 = .ok (.iaload, 1) := by decide +kernel
theorem dX8_says_108 : decode cX8_says 108 = .ok (.iload_n 3, 1) := by decide +kernel
theorem dX8_says_109 : decode cX8_says 109 = .ok (.iload 4, 2) := by decide +kernel
theorem dX8_says_111 : decode cX8_says 111 = .ok (.invokestatic 92, 3) := by decide +kernel
theorem dX8_says_114 : decode cX8_says 114 = .ok (.ifCond .eq 7, 3) := by decide +kernel
theorem dX8_says_117 : decode cX8_says 117 = .ok (.iconst 1, 1) := by decide +kernel
theorem dX8_says_118 : decode cX8_says 118 = .ok (.goto 4, 3) := by decide +kernel
theorem dX8_says_121 : decode cX8_says 121 = .ok (.iconst 0, 1) := by decide +kernel
theorem dX8_says_122 : decode cX8_says 122 = .ok (.iadd, 1) := by decide +kernel
theorem dX8_says_123 : decode cX8_says 123 = .ok (.iastore, 1) := by decide +kernel
theorem dX8_says_124 : decode cX8_says 124 = .ok (.iinc 4 1, 3) := by decide +kernel
theorem dX8_says_127 : decode cX8_says 127 = .ok (.goto (-81), 3) := by decide +kernel
theorem dX8_says_130 : decode cX8_says 130 = .ok (.aload_n 0, 1) := by decide +kernel
theorem dX8_says_131 : decode cX8_says 131 = .ok (.iload_n 1, 1) := by decide +kernel
theorem dX8_says_132 : decode cX8_says 132 = .ok (.iconst 3, 1) := by decide +kernel
theorem dX8_says_133 : decode cX8_says 133 = .ok (.iload_n 2, 1) := by decide +kernel
theorem dX8_says_134 : decode cX8_says 134 = .ok (.invokevirtual 85, 3) := by decide +kernel
theorem dX8_says_137 : decode cX8_says 137 = .ok (.aload_n 0, 1) := by decide +kernel
theorem dX8_says_138 : decode cX8_says 138 = .ok (.iload_n 1, 1) := by decide +kernel
theorem dX8_says_139 : decode cX8_says 139 = .ok (.iconst 4, 1) := by decide +kernel
theorem dX8_says_140 : decode cX8_says 140 = .ok (.aload_n 0, 1) := by decide +kernel
theorem dX8_says_141 : decode cX8_says 141 = .ok (.getfield 7, 3) := by decide +kernel
theorem dX8_says_144 : decode cX8_says 144 = .ok (.iconst 3, 1) := by decide +kernel
theorem dX8_says_145 : decode cX8_says 145 = .ok (.iaload, 1) := by decide +kernel
theorem dX8_says_146 : decode cX8_says 146 = .ok (.invokevirtual 85, 3) := by decide +kernel
theorem dX8_says_149 : decode cX8_says 149 = .ok (.aload_n 0, 1) := by decide +kernel
theorem dX8_says_150 : decode cX8_says 150 = .ok (.getfield 7, 3) := by decide +kernel
theorem dX8_says_153 : decode cX8_says 153 = .ok (.iconst 4, 1) := by decide +kernel
theorem dX8_says_154 : decode cX8_says 154 = .ok (.dup2, 1) := by decide +kernel
theorem dX8_says_155 : decode cX8_says 155 = .ok (.iaload, 1) := by decide +kernel
theorem dX8_says_156 : decode cX8_says 156 = .ok (.iconst 1, 1) := by decide +kernel
theorem dX8_says_157 : decode cX8_says 157 = .ok (.iadd, 1) := by decide +kernel
theorem dX8_says_158 : decode cX8_says 158 = .ok (.iastore, 1) := by decide +kernel
theorem dX8_says_159 : decode cX8_says 159 = .ok (.iload_n 2, 1) := by decide +kernel
theorem dX8_says_160 : decode cX8_says 160 = .ok (.ireturn, 1) := by decide +kernel
theorem dX8_vote_0 : decode cX8_vote 0 = .ok (.aload_n 0, 1) := by decide +kernel
theorem dX8_vote_1 : decode cX8_vote 1 = .ok (.aload_n 0, 1) := by decide +kernel
theorem dX8_vote_2 : decode cX8_vote 2 = .ok (.iload_n 1, 1) := by decide +kernel
theorem dX8_vote_3 : decode cX8_vote 3 = .ok (.invokevirtual 106, 3) := by decide +kernel
theorem dX8_vote_6 : decode cX8_vote 6 = .ok (.ifCond .eq 7, 3) := by decide +kernel
theorem dX8_vote_9 : decode cX8_vote 9 = .ok (.iconst 0, 1) := by decide +kernel
theorem dX8_vote_10 : decode cX8_vote 10 = .ok (.goto 4, 3) := by decide +kernel
theorem dX8_vote_13 : decode cX8_vote 13 = .ok (.iconst 1, 1) := by decide +kernel
theorem dX8_vote_14 : decode cX8_vote 14 = .ok (.invokevirtual 73, 3) := by decide +kernel
theorem dX8_vote_17 : decode cX8_vote 17 = .ok (.ifCond .eq 5, 3) := by decide +kernel
theorem dX8_vote_20 : decode cX8_vote 20 = .ok (.iconst 0, 1) := by decide +kernel
theorem dX8_vote_21 : decode cX8_vote 21 = .ok (.ireturn, 1) := by decide +kernel
theorem dX8_vote_22 : decode cX8_vote 22 = .ok (.aload_n 0, 1) := by decide +kernel
theorem dX8_vote_23 : decode cX8_vote 23 = .ok (.iload_n 1, 1) := by decide +kernel
theorem dX8_vote_24 : decode cX8_vote 24 = .ok (.iconst 2, 1) := by decide +kernel
theorem dX8_vote_25 : decode cX8_vote 25 = .ok (.invokevirtual 69, 3) := by decide +kernel
theorem dX8_vote_28 : decode cX8_vote 28 = .ok (.ifCond .ne 16, 3) := by decide +kernel
theorem dX8_vote_31 : decode cX8_vote 31 = .ok (.aload_n 0, 1) := by decide +kernel
theorem dX8_vote_32 : decode cX8_vote 32 = .ok (.iconst 2, 1) := by decide +kernel
theorem dX8_vote_33 : decode cX8_vote 33 = .ok (.iconst 4, 1) := by decide +kernel
theorem dX8_vote_34 : decode cX8_vote 34 = .ok (.aload_n 0, 1) := by decide +kernel
theorem dX8_vote_35 : decode cX8_vote 35 = .ok (.iload_n 1, 1) := by decide +kernel
theorem dX8_vote_36 : decode cX8_vote 36 = .ok (.iconst 1, 1) := by decide +kernel
theorem dX8_vote_37 : decode cX8_vote 37 = .ok (.invokevirtual 69, 3) := by decide +kernel
theorem dX8_vote_40 : decode cX8_vote 40 = .ok (.invokevirtual 77, 3) := by decide +kernel
theorem dX8_vote_43 : decode cX8_vote 43 = .ok (.ireturn, 1) := by decide +kernel
theorem dX8_vote_44 : decode cX8_vote 44 = .ok (.aload_n 0, 1) := by decide +kernel
theorem dX8_vote_45 : decode cX8_vote 45 = .ok (.iload_n 1, 1) := by decide +kernel
theorem dX8_vote_46 : decode cX8_vote 46 = .ok (.invokevirtual 89, 3) := by decide +kernel
theorem dX8_vote_49 : decode cX8_vote 49 = .ok (.ifCond .eq 17, 3) := by decide +kernel
theorem dX8_vote_52 : decode cX8_vote 52 = .ok (.aload_n 0, 1) := by decide +kernel
theorem dX8_vote_53 : decode cX8_vote 53 = .ok (.iconst 2, 1) := by decide +kernel
theorem dX8_vote_54 : decode cX8_vote 54 = .ok (.bipush 6, 2) := by decide +kernel
theorem dX8_vote_56 : decode cX8_vote 56 = .ok (.aload_n 0, 1) := by decide +kernel
theorem dX8_vote_57 : decode cX8_vote 57 = .ok (.iload_n 1, 1) := by decide +kernel
theorem dX8_vote_58 : decode cX8_vote 58 = .ok (.iconst 5, 1) := by decide +kernel
theorem dX8_vote_59 : decode cX8_vote 59 = .ok (.invokevirtual 69, 3) := by decide +kernel
theorem dX8_vote_62 : decode cX8_vote 62 = .ok (.invokevirtual 77, 3) := by decide +kernel
theorem dX8_vote_65 : decode cX8_vote 65 = .ok (.ireturn, 1) := by decide +kernel
theorem dX8_vote_66 : decode cX8_vote 66 = .ok (.aload_n 0, 1) := by decide +kernel
theorem dX8_vote_67 : decode cX8_vote 67 = .ok (.iload_n 1, 1) := by decide +kernel
theorem dX8_vote_68 : decode cX8_vote 68 = .ok (.iconst 3, 1) := by decide +kernel
theorem dX8_vote_69 : decode cX8_vote 69 = .ok (.invokevirtual 69, 3) := by decide +kernel
theorem dX8_vote_72 : decode cX8_vote 72 = .ok (.ifCond .le 16, 3) := by decide +kernel
theorem dX8_vote_75 : decode cX8_vote 75 = .ok (.aload_n 0, 1) := by decide +kernel
theorem dX8_vote_76 : decode cX8_vote 76 = .ok (.iconst 2, 1) := by decide +kernel
theorem dX8_vote_77 : decode cX8_vote 77 = .ok (.iconst 2, 1) := by decide +kernel
theorem dX8_vote_78 : decode cX8_vote 78 = .ok (.aload_n 0, 1) := by decide +kernel
theorem dX8_vote_79 : decode cX8_vote 79 = .ok (.iload_n 1, 1) := by decide +kernel
theorem dX8_vote_80 : decode cX8_vote 80 = .ok (.iconst 3, 1) := by decide +kernel
theorem dX8_vote_81 : decode cX8_vote 81 = .ok (.invokevirtual 69, 3) := by decide +kernel
theorem dX8_vote_84 : decode cX8_vote 84 = .ok (.invokevirtual 77, 3) := by decide +kernel
theorem dX8_vote_87 : decode cX8_vote 87 = .ok (.ireturn, 1) := by decide +kernel
theorem dX8_vote_88 : decode cX8_vote 88 = .ok (.aload_n 0, 1) := by decide +kernel
theorem dX8_vote_89 : decode cX8_vote 89 = .ok (.aload_n 0, 1) := by decide +kernel
theorem dX8_vote_90 : decode cX8_vote 90 = .ok (.getfield 7, 3) := by decide +kernel
theorem dX8_vote_93 : decode cX8_vote 93 = .ok (.invokevirtual 81, 3) := by decide +kernel
theorem dX8_vote_96 : decode cX8_vote 96 = .ok (.aload_n 0, 1) := by decide +kernel
theorem dX8_vote_97 : decode cX8_vote 97 = .ok (.iload_n 1, 1) := by decide +kernel
theorem dX8_vote_98 : decode cX8_vote 98 = .ok (.invokevirtual 136, 3) := by decide +kernel
theorem dX8_vote_101 : decode cX8_vote 101 = .ok (.ireturn, 1) := by decide +kernel
theorem dX8_unsay_0 : decode cX8_unsay 0 = .ok (.aload_n 0, 1) := by decide +kernel
theorem dX8_unsay_1 : decode cX8_unsay 1 = .ok (.aload_n 0, 1) := by decide +kernel
theorem dX8_unsay_2 : decode cX8_unsay 2 = .ok (.iload_n 1, 1) := by decide +kernel
theorem dX8_unsay_3 : decode cX8_unsay 3 = .ok (.invokevirtual 106, 3) := by decide +kernel
theorem dX8_unsay_6 : decode cX8_unsay 6 = .ok (.ifCond .eq 7, 3) := by decide +kernel
theorem dX8_unsay_9 : decode cX8_unsay 9 = .ok (.iconst 0, 1) := by decide +kernel
theorem dX8_unsay_10 : decode cX8_unsay 10 = .ok (.goto 4, 3) := by decide +kernel
theorem dX8_unsay_13 : decode cX8_unsay 13 = .ok (.iconst 1, 1) := by decide +kernel
theorem dX8_unsay_14 : decode cX8_unsay 14 = .ok (.invokevirtual 73, 3) := by decide +kernel
theorem dX8_unsay_17 : decode cX8_unsay 17 = .ok (.ifCond .eq 5, 3) := by decide +kernel
theorem dX8_unsay_20 : decode cX8_unsay 20 = .ok (.iconst 0, 1) := by decide +kernel
theorem dX8_unsay_21 : decode cX8_unsay 21 = .ok (.ireturn, 1) := by decide +kernel
theorem dX8_unsay_22 : decode cX8_unsay 22 = .ok (.aload_n 0, 1) := by decide +kernel
theorem dX8_unsay_23 : decode cX8_unsay 23 = .ok (.iload_n 1, 1) := by decide +kernel
theorem dX8_unsay_24 : decode cX8_unsay 24 = .ok (.iconst 3, 1) := by decide +kernel
theorem dX8_unsay_25 : decode cX8_unsay 25 = .ok (.invokevirtual 69, 3) := by decide +kernel
theorem dX8_unsay_28 : decode cX8_unsay 28 = .ok (.ifCond .ne 17, 3) := by decide +kernel
theorem dX8_unsay_31 : decode cX8_unsay 31 = .ok (.aload_n 0, 1) := by decide +kernel
theorem dX8_unsay_32 : decode cX8_unsay 32 = .ok (.iconst 2, 1) := by decide +kernel
theorem dX8_unsay_33 : decode cX8_unsay 33 = .ok (.iconst 5, 1) := by decide +kernel
theorem dX8_unsay_34 : decode cX8_unsay 34 = .ok (.aload_n 0, 1) := by decide +kernel
theorem dX8_unsay_35 : decode cX8_unsay 35 = .ok (.iload_n 1, 1) := by decide +kernel
theorem dX8_unsay_36 : decode cX8_unsay 36 = .ok (.bipush 6, 2) := by decide +kernel
theorem dX8_unsay_38 : decode cX8_unsay 38 = .ok (.invokevirtual 69, 3) := by decide +kernel
theorem dX8_unsay_41 : decode cX8_unsay 41 = .ok (.invokevirtual 77, 3) := by decide +kernel
theorem dX8_unsay_44 : decode cX8_unsay 44 = .ok (.ireturn, 1) := by decide +kernel
theorem dX8_unsay_45 : decode cX8_unsay 45 = .ok (.aload_n 0, 1) := by decide +kernel
theorem dX8_unsay_46 : decode cX8_unsay 46 = .ok (.iload_n 1, 1) := by decide +kernel
theorem dX8_unsay_47 : decode cX8_unsay 47 = .ok (.invokevirtual 89, 3) := by decide +kernel
theorem dX8_unsay_50 : decode cX8_unsay 50 = .ok (.ifCond .eq 17, 3) := by decide +kernel
theorem dX8_unsay_53 : decode cX8_unsay 53 = .ok (.aload_n 0, 1) := by decide +kernel
theorem dX8_unsay_54 : decode cX8_unsay 54 = .ok (.iconst 2, 1) := by decide +kernel
theorem dX8_unsay_55 : decode cX8_unsay 55 = .ok (.bipush 6, 2) := by decide +kernel
theorem dX8_unsay_57 : decode cX8_unsay 57 = .ok (.aload_n 0, 1) := by decide +kernel
theorem dX8_unsay_58 : decode cX8_unsay 58 = .ok (.iload_n 1, 1) := by decide +kernel
theorem dX8_unsay_59 : decode cX8_unsay 59 = .ok (.iconst 5, 1) := by decide +kernel
theorem dX8_unsay_60 : decode cX8_unsay 60 = .ok (.invokevirtual 69, 3) := by decide +kernel
theorem dX8_unsay_63 : decode cX8_unsay 63 = .ok (.invokevirtual 77, 3) := by decide +kernel
theorem dX8_unsay_66 : decode cX8_unsay 66 = .ok (.ireturn, 1) := by decide +kernel
theorem dX8_unsay_67 : decode cX8_unsay 67 = .ok (.aload_n 0, 1) := by decide +kernel
theorem dX8_unsay_68 : decode cX8_unsay 68 = .ok (.aload_n 0, 1) := by decide +kernel
theorem dX8_unsay_69 : decode cX8_unsay 69 = .ok (.getfield 7, 3) := by decide +kernel
theorem dX8_unsay_72 : decode cX8_unsay 72 = .ok (.invokevirtual 81, 3) := by decide +kernel
theorem dX8_unsay_75 : decode cX8_unsay 75 = .ok (.aload_n 0, 1) := by decide +kernel
theorem dX8_unsay_76 : decode cX8_unsay 76 = .ok (.invokevirtual 124, 3) := by decide +kernel
theorem dX8_unsay_79 : decode cX8_unsay 79 = .ok (.aload_n 0, 1) := by decide +kernel
theorem dX8_unsay_80 : decode cX8_unsay 80 = .ok (.aload_n 0, 1) := by decide +kernel
theorem dX8_unsay_81 : decode cX8_unsay 81 = .ok (.iload_n 1, 1) := by decide +kernel
theorem dX8_unsay_82 : decode cX8_unsay 82 = .ok (.iconst 2, 1) := by decide +kernel
theorem dX8_unsay_83 : decode cX8_unsay 83 = .ok (.invokevirtual 69, 3) := by decide +kernel
theorem dX8_unsay_86 : decode cX8_unsay 86 = .ok (.aload_n 0, 1) := by decide +kernel
theorem dX8_unsay_87 : decode cX8_unsay 87 = .ok (.iload_n 1, 1) := by decide +kernel
theorem dX8_unsay_88 : decode cX8_unsay 88 = .ok (.iconst 0, 1) := by decide +kernel
theorem dX8_unsay_89 : decode cX8_unsay 89 = .ok (.invokevirtual 69, 3) := by decide +kernel
theorem dX8_unsay_92 : decode cX8_unsay 92 = .ok (.invokevirtual 139, 3) := by decide +kernel
theorem dX8_unsay_95 : decode cX8_unsay 95 = .ok (.istore_n 2, 1) := by decide +kernel
theorem dX8_unsay_96 : decode cX8_unsay 96 = .ok (.aload_n 0, 1) := by decide +kernel
theorem dX8_unsay_97 : decode cX8_unsay 97 = .ok (.invokevirtual 133, 3) := by decide +kernel
theorem dX8_unsay_100 : decode cX8_unsay 100 = .ok (.aload_n 0, 1) := by decide +kernel
theorem dX8_unsay_101 : decode cX8_unsay 101 = .ok (.iload_n 1, 1) := by decide +kernel
theorem dX8_unsay_102 : decode cX8_unsay 102 = .ok (.iconst 3, 1) := by decide +kernel
theorem dX8_unsay_103 : decode cX8_unsay 103 = .ok (.iconst 0, 1) := by decide +kernel
theorem dX8_unsay_104 : decode cX8_unsay 104 = .ok (.invokevirtual 85, 3) := by decide +kernel
theorem dX8_unsay_107 : decode cX8_unsay 107 = .ok (.aload_n 0, 1) := by decide +kernel
theorem dX8_unsay_108 : decode cX8_unsay 108 = .ok (.iload_n 1, 1) := by decide +kernel
theorem dX8_unsay_109 : decode cX8_unsay 109 = .ok (.iconst 4, 1) := by decide +kernel
theorem dX8_unsay_110 : decode cX8_unsay 110 = .ok (.iconst (-1), 1) := by decide +kernel
theorem dX8_unsay_111 : decode cX8_unsay 111 = .ok (.invokevirtual 85, 3) := by decide +kernel
theorem dX8_unsay_114 : decode cX8_unsay 114 = .ok (.aload_n 0, 1) := by decide +kernel
theorem dX8_unsay_115 : decode cX8_unsay 115 = .ok (.iload_n 1, 1) := by decide +kernel
theorem dX8_unsay_116 : decode cX8_unsay 116 = .ok (.bipush 6, 2) := by decide +kernel
theorem dX8_unsay_118 : decode cX8_unsay 118 = .ok (.aload_n 0, 1) := by decide +kernel
theorem dX8_unsay_119 : decode cX8_unsay 119 = .ok (.iload_n 1, 1) := by decide +kernel
theorem dX8_unsay_120 : decode cX8_unsay 120 = .ok (.bipush 6, 2) := by decide +kernel
theorem dX8_unsay_122 : decode cX8_unsay 122 = .ok (.invokevirtual 69, 3) := by decide +kernel
theorem dX8_unsay_125 : decode cX8_unsay 125 = .ok (.iconst 1, 1) := by decide +kernel
theorem dX8_unsay_126 : decode cX8_unsay 126 = .ok (.iadd, 1) := by decide +kernel
theorem dX8_unsay_127 : decode cX8_unsay 127 = .ok (.invokevirtual 85, 3) := by decide +kernel
theorem dX8_unsay_130 : decode cX8_unsay 130 = .ok (.aload_n 0, 1) := by decide +kernel
theorem dX8_unsay_131 : decode cX8_unsay 131 = .ok (.getfield 7, 3) := by decide +kernel
theorem dX8_unsay_134 : decode cX8_unsay 134 = .ok (.iconst 5, 1) := by decide +kernel
theorem dX8_unsay_135 : decode cX8_unsay 135 = .ok (.dup2, 1) := by decide +kernel
theorem dX8_unsay_136 : decode cX8_unsay 136 = .ok (.iaload, 1) := by decide +kernel
theorem dX8_unsay_137 : decode cX8_unsay 137 = .ok (.iconst 1, 1) := by decide +kernel
theorem dX8_unsay_138 : decode cX8_unsay 138 = .ok (.iadd, 1) := by decide +kernel
theorem dX8_unsay_139 : decode cX8_unsay 139 = .ok (.iastore, 1) := by decide +kernel
theorem dX8_unsay_140 : decode cX8_unsay 140 = .ok (.iload_n 2, 1) := by decide +kernel
theorem dX8_unsay_141 : decode cX8_unsay 141 = .ok (.ireturn, 1) := by decide +kernel
theorem dX8_doubter_0 : decode cX8_doubter 0 = .ok (.iconst (-1), 1) := by decide +kernel
theorem dX8_doubter_1 : decode cX8_doubter 1 = .ok (.istore_n 2, 1) := by decide +kernel
theorem dX8_doubter_2 : decode cX8_doubter 2 = .ok (.iconst 0, 1) := by decide +kernel
theorem dX8_doubter_3 : decode cX8_doubter 3 = .ok (.istore_n 3, 1) := by decide +kernel
theorem dX8_doubter_4 : decode cX8_doubter 4 = .ok (.iload_n 3, 1) := by decide +kernel
theorem dX8_doubter_5 : decode cX8_doubter 5 = .ok (.aload_n 0, 1) := by decide +kernel
theorem dX8_doubter_6 : decode cX8_doubter 6 = .ok (.getfield 7, 3) := by decide +kernel
theorem dX8_doubter_9 : decode cX8_doubter 9 = .ok (.iconst 0, 1) := by decide +kernel
theorem dX8_doubter_10 : decode cX8_doubter 10 = .ok (.iaload, 1) := by decide +kernel
theorem dX8_doubter_11 : decode cX8_doubter 11 = .ok (.if_icmp .ge 38, 3) := by decide +kernel
theorem dX8_doubter_14 : decode cX8_doubter 14 = .ok (.iload_n 1, 1) := by decide +kernel
theorem dX8_doubter_15 : decode cX8_doubter 15 = .ok (.iload_n 3, 1) := by decide +kernel
theorem dX8_doubter_16 : decode cX8_doubter 16 = .ok (.invokestatic 92, 3) := by decide +kernel
theorem dX8_doubter_19 : decode cX8_doubter 19 = .ok (.ifCond .eq 24, 3) := by decide +kernel
theorem dX8_doubter_22 : decode cX8_doubter 22 = .ok (.iload_n 2, 1) := by decide +kernel
theorem dX8_doubter_23 : decode cX8_doubter 23 = .ok (.ifCond .lt 18, 3) := by decide +kernel
theorem dX8_doubter_26 : decode cX8_doubter 26 = .ok (.aload_n 0, 1) := by decide +kernel
theorem dX8_doubter_27 : decode cX8_doubter 27 = .ok (.iload_n 3, 1) := by decide +kernel
theorem dX8_doubter_28 : decode cX8_doubter 28 = .ok (.iconst 1, 1) := by decide +kernel
theorem dX8_doubter_29 : decode cX8_doubter 29 = .ok (.invokevirtual 100, 3) := by decide +kernel
theorem dX8_doubter_32 : decode cX8_doubter 32 = .ok (.aload_n 0, 1) := by decide +kernel
theorem dX8_doubter_33 : decode cX8_doubter 33 = .ok (.iload_n 2, 1) := by decide +kernel
theorem dX8_doubter_34 : decode cX8_doubter 34 = .ok (.iconst 1, 1) := by decide +kernel
theorem dX8_doubter_35 : decode cX8_doubter 35 = .ok (.invokevirtual 100, 3) := by decide +kernel
theorem dX8_doubter_38 : decode cX8_doubter 38 = .ok (.if_icmp .le 5, 3) := by decide +kernel
theorem dX8_doubter_41 : decode cX8_doubter 41 = .ok (.iload_n 3, 1) := by decide +kernel
theorem dX8_doubter_42 : decode cX8_doubter 42 = .ok (.istore_n 2, 1) := by decide +kernel
theorem dX8_doubter_43 : decode cX8_doubter 43 = .ok (.iinc 3 1, 3) := by decide +kernel
theorem dX8_doubter_46 : decode cX8_doubter 46 = .ok (.goto (-42), 3) := by decide +kernel
theorem dX8_doubter_49 : decode cX8_doubter 49 = .ok (.iload_n 2, 1) := by decide +kernel
theorem dX8_doubter_50 : decode cX8_doubter 50 = .ok (.ireturn, 1) := by decide +kernel
theorem dX8_appeal_0 : decode cX8_appeal 0 = .ok (.aload_n 0, 1) := by decide +kernel
theorem dX8_appeal_1 : decode cX8_appeal 1 = .ok (.aload_n 0, 1) := by decide +kernel
theorem dX8_appeal_2 : decode cX8_appeal 2 = .ok (.iload_n 1, 1) := by decide +kernel
theorem dX8_appeal_3 : decode cX8_appeal 3 = .ok (.invokevirtual 106, 3) := by decide +kernel
theorem dX8_appeal_6 : decode cX8_appeal 6 = .ok (.ifCond .eq 7, 3) := by decide +kernel
theorem dX8_appeal_9 : decode cX8_appeal 9 = .ok (.iconst 0, 1) := by decide +kernel
theorem dX8_appeal_10 : decode cX8_appeal 10 = .ok (.goto 4, 3) := by decide +kernel
theorem dX8_appeal_13 : decode cX8_appeal 13 = .ok (.iconst 1, 1) := by decide +kernel
theorem dX8_appeal_14 : decode cX8_appeal 14 = .ok (.invokevirtual 73, 3) := by decide +kernel
theorem dX8_appeal_17 : decode cX8_appeal 17 = .ok (.ifCond .eq 5, 3) := by decide +kernel
theorem dX8_appeal_20 : decode cX8_appeal 20 = .ok (.iconst 0, 1) := by decide +kernel
theorem dX8_appeal_21 : decode cX8_appeal 21 = .ok (.ireturn, 1) := by decide +kernel
theorem dX8_appeal_22 : decode cX8_appeal 22 = .ok (.aload_n 0, 1) := by decide +kernel
theorem dX8_appeal_23 : decode cX8_appeal 23 = .ok (.iload_n 1, 1) := by decide +kernel
theorem dX8_appeal_24 : decode cX8_appeal 24 = .ok (.iconst 3, 1) := by decide +kernel
theorem dX8_appeal_25 : decode cX8_appeal 25 = .ok (.invokevirtual 69, 3) := by decide +kernel
theorem dX8_appeal_28 : decode cX8_appeal 28 = .ok (.ifCond .ne 17, 3) := by decide +kernel
theorem dX8_appeal_31 : decode cX8_appeal 31 = .ok (.aload_n 0, 1) := by decide +kernel
theorem dX8_appeal_32 : decode cX8_appeal 32 = .ok (.iconst 2, 1) := by decide +kernel
theorem dX8_appeal_33 : decode cX8_appeal 33 = .ok (.iconst 5, 1) := by decide +kernel
theorem dX8_appeal_34 : decode cX8_appeal 34 = .ok (.aload_n 0, 1) := by decide +kernel
theorem dX8_appeal_35 : decode cX8_appeal 35 = .ok (.iload_n 1, 1) := by decide +kernel
theorem dX8_appeal_36 : decode cX8_appeal 36 = .ok (.bipush 6, 2) := by decide +kernel
theorem dX8_appeal_38 : decode cX8_appeal 38 = .ok (.invokevirtual 69, 3) := by decide +kernel
theorem dX8_appeal_41 : decode cX8_appeal 41 = .ok (.invokevirtual 77, 3) := by decide +kernel
theorem dX8_appeal_44 : decode cX8_appeal 44 = .ok (.ireturn, 1) := by decide +kernel
theorem dX8_appeal_45 : decode cX8_appeal 45 = .ok (.aload_n 0, 1) := by decide +kernel
theorem dX8_appeal_46 : decode cX8_appeal 46 = .ok (.iload_n 1, 1) := by decide +kernel
theorem dX8_appeal_47 : decode cX8_appeal 47 = .ok (.invokevirtual 89, 3) := by decide +kernel
theorem dX8_appeal_50 : decode cX8_appeal 50 = .ok (.ifCond .eq 17, 3) := by decide +kernel
theorem dX8_appeal_53 : decode cX8_appeal 53 = .ok (.aload_n 0, 1) := by decide +kernel
theorem dX8_appeal_54 : decode cX8_appeal 54 = .ok (.iconst 2, 1) := by decide +kernel
theorem dX8_appeal_55 : decode cX8_appeal 55 = .ok (.bipush 6, 2) := by decide +kernel
theorem dX8_appeal_57 : decode cX8_appeal 57 = .ok (.aload_n 0, 1) := by decide +kernel
theorem dX8_appeal_58 : decode cX8_appeal 58 = .ok (.iload_n 1, 1) := by decide +kernel
theorem dX8_appeal_59 : decode cX8_appeal 59 = .ok (.iconst 5, 1) := by decide +kernel
theorem dX8_appeal_60 : decode cX8_appeal 60 = .ok (.invokevirtual 69, 3) := by decide +kernel
theorem dX8_appeal_63 : decode cX8_appeal 63 = .ok (.invokevirtual 77, 3) := by decide +kernel
theorem dX8_appeal_66 : decode cX8_appeal 66 = .ok (.ireturn, 1) := by decide +kernel
theorem dX8_appeal_67 : decode cX8_appeal 67 = .ok (.aload_n 0, 1) := by decide +kernel
theorem dX8_appeal_68 : decode cX8_appeal 68 = .ok (.iload_n 1, 1) := by decide +kernel
theorem dX8_appeal_69 : decode cX8_appeal 69 = .ok (.bipush 7, 2) := by decide +kernel
theorem dX8_appeal_71 : decode cX8_appeal 71 = .ok (.invokevirtual 69, 3) := by decide +kernel
theorem dX8_appeal_74 : decode cX8_appeal 74 = .ok (.iconst 2, 1) := by decide +kernel
theorem dX8_appeal_75 : decode cX8_appeal 75 = .ok (.if_icmp .ne 17, 3) := by decide +kernel
theorem dX8_appeal_78 : decode cX8_appeal 78 = .ok (.aload_n 0, 1) := by decide +kernel
theorem dX8_appeal_79 : decode cX8_appeal 79 = .ok (.iconst 2, 1) := by decide +kernel
theorem dX8_appeal_80 : decode cX8_appeal 80 = .ok (.bipush 7, 2) := by decide +kernel
theorem dX8_appeal_82 : decode cX8_appeal 82 = .ok (.aload_n 0, 1) := by decide +kernel
theorem dX8_appeal_83 : decode cX8_appeal 83 = .ok (.iload_n 1, 1) := by decide +kernel
theorem dX8_appeal_84 : decode cX8_appeal 84 = .ok (.iconst 3, 1) := by decide +kernel
theorem dX8_appeal_85 : decode cX8_appeal 85 = .ok (.invokevirtual 69, 3) := by decide +kernel
theorem dX8_appeal_88 : decode cX8_appeal 88 = .ok (.invokevirtual 77, 3) := by decide +kernel
theorem dX8_appeal_91 : decode cX8_appeal 91 = .ok (.ireturn, 1) := by decide +kernel
theorem dX8_appeal_92 : decode cX8_appeal 92 = .ok (.aload_n 0, 1) := by decide +kernel
theorem dX8_appeal_93 : decode cX8_appeal 93 = .ok (.iload_n 1, 1) := by decide +kernel
theorem dX8_appeal_94 : decode cX8_appeal 94 = .ok (.iconst 2, 1) := by decide +kernel
theorem dX8_appeal_95 : decode cX8_appeal 95 = .ok (.invokevirtual 69, 3) := by decide +kernel
theorem dX8_appeal_98 : decode cX8_appeal 98 = .ok (.istore_n 2, 1) := by decide +kernel
theorem dX8_appeal_99 : decode cX8_appeal 99 = .ok (.aload_n 0, 1) := by decide +kernel
theorem dX8_appeal_100 : decode cX8_appeal 100 = .ok (.iload_n 2, 1) := by decide +kernel
theorem dX8_appeal_101 : decode cX8_appeal 101 = .ok (.invokevirtual 112, 3) := by decide +kernel
theorem dX8_appeal_104 : decode cX8_appeal 104 = .ok (.iconst 1, 1) := by decide +kernel
theorem dX8_appeal_105 : decode cX8_appeal 105 = .ok (.if_icmp .ge 11, 3) := by decide +kernel
theorem dX8_appeal_108 : decode cX8_appeal 108 = .ok (.aload_n 0, 1) := by decide +kernel
theorem dX8_appeal_109 : decode cX8_appeal 109 = .ok (.iconst 2, 1) := by decide +kernel
theorem dX8_appeal_110 : decode cX8_appeal 110 = .ok (.iconst 3, 1) := by decide +kernel
theorem dX8_appeal_111 : decode cX8_appeal 111 = .ok (.iconst 0, 1) := by decide +kernel
theorem dX8_appeal_112 : decode cX8_appeal 112 = .ok (.invokevirtual 77, 3) := by decide +kernel
theorem dX8_appeal_115 : decode cX8_appeal 115 = .ok (.ireturn, 1) := by decide +kernel
theorem dX8_appeal_116 : decode cX8_appeal 116 = .ok (.aload_n 0, 1) := by decide +kernel
theorem dX8_appeal_117 : decode cX8_appeal 117 = .ok (.aload_n 0, 1) := by decide +kernel
theorem dX8_appeal_118 : decode cX8_appeal 118 = .ok (.getfield 7, 3) := by decide +kernel
theorem dX8_appeal_121 : decode cX8_appeal 121 = .ok (.invokevirtual 81, 3) := by decide +kernel
theorem dX8_appeal_124 : decode cX8_appeal 124 = .ok (.aload_n 0, 1) := by decide +kernel
theorem dX8_appeal_125 : decode cX8_appeal 125 = .ok (.iload_n 1, 1) := by decide +kernel
theorem dX8_appeal_126 : decode cX8_appeal 126 = .ok (.iconst 2, 1) := by decide +kernel
theorem dX8_appeal_127 : decode cX8_appeal 127 = .ok (.iload_n 2, 1) := by decide +kernel
theorem dX8_appeal_128 : decode cX8_appeal 128 = .ok (.iconst 1, 1) := by decide +kernel
theorem dX8_appeal_129 : decode cX8_appeal 129 = .ok (.aload_n 0, 1) := by decide +kernel
theorem dX8_appeal_130 : decode cX8_appeal 130 = .ok (.iload_n 2, 1) := by decide +kernel
theorem dX8_appeal_131 : decode cX8_appeal 131 = .ok (.invokevirtual 142, 3) := by decide +kernel
theorem dX8_appeal_134 : decode cX8_appeal 134 = .ok (.ishl, 1) := by decide +kernel
theorem dX8_appeal_135 : decode cX8_appeal 135 = .ok (.ixor, 1) := by decide +kernel
theorem dX8_appeal_136 : decode cX8_appeal 136 = .ok (.iconst 1, 1) := by decide +kernel
theorem dX8_appeal_137 : decode cX8_appeal 137 = .ok (.aload_n 0, 1) := by decide +kernel
theorem dX8_appeal_138 : decode cX8_appeal 138 = .ok (.iconst 0, 1) := by decide +kernel
theorem dX8_appeal_139 : decode cX8_appeal 139 = .ok (.iload_n 2, 1) := by decide +kernel
theorem dX8_appeal_140 : decode cX8_appeal 140 = .ok (.invokevirtual 115, 3) := by decide +kernel
theorem dX8_appeal_143 : decode cX8_appeal 143 = .ok (.ishl, 1) := by decide +kernel
theorem dX8_appeal_144 : decode cX8_appeal 144 = .ok (.ixor, 1) := by decide +kernel
theorem dX8_appeal_145 : decode cX8_appeal 145 = .ok (.invokevirtual 85, 3) := by decide +kernel
theorem dX8_appeal_148 : decode cX8_appeal 148 = .ok (.aload_n 0, 1) := by decide +kernel
theorem dX8_appeal_149 : decode cX8_appeal 149 = .ok (.iload_n 1, 1) := by decide +kernel
theorem dX8_appeal_150 : decode cX8_appeal 150 = .ok (.invokevirtual 136, 3) := by decide +kernel
theorem dX8_appeal_153 : decode cX8_appeal 153 = .ok (.istore_n 3, 1) := by decide +kernel
theorem dX8_appeal_154 : decode cX8_appeal 154 = .ok (.aload_n 0, 1) := by decide +kernel
theorem dX8_appeal_155 : decode cX8_appeal 155 = .ok (.iload_n 1, 1) := by decide +kernel
theorem dX8_appeal_156 : decode cX8_appeal 156 = .ok (.iconst 1, 1) := by decide +kernel
theorem dX8_appeal_157 : decode cX8_appeal 157 = .ok (.aload_n 0, 1) := by decide +kernel
theorem dX8_appeal_158 : decode cX8_appeal 158 = .ok (.iload_n 1, 1) := by decide +kernel
theorem dX8_appeal_159 : decode cX8_appeal 159 = .ok (.iconst 1, 1) := by decide +kernel
theorem dX8_appeal_160 : decode cX8_appeal 160 = .ok (.invokevirtual 69, 3) := by decide +kernel
theorem dX8_appeal_163 : decode cX8_appeal 163 = .ok (.iconst 3, 1) := by decide +kernel
theorem dX8_appeal_164 : decode cX8_appeal 164 = .ok (.iadd, 1) := by decide +kernel
theorem dX8_appeal_165 : decode cX8_appeal 165 = .ok (.iconst 0, 1) := by decide +kernel
theorem dX8_appeal_166 : decode cX8_appeal 166 = .ok (.bipush 99, 2) := by decide +kernel
theorem dX8_appeal_168 : decode cX8_appeal 168 = .ok (.invokestatic 121, 3) := by decide +kernel
theorem dX8_appeal_171 : decode cX8_appeal 171 = .ok (.invokevirtual 85, 3) := by decide +kernel
theorem dX8_appeal_174 : decode cX8_appeal 174 = .ok (.aload_n 0, 1) := by decide +kernel
theorem dX8_appeal_175 : decode cX8_appeal 175 = .ok (.iload_n 1, 1) := by decide +kernel
theorem dX8_appeal_176 : decode cX8_appeal 176 = .ok (.bipush 7, 2) := by decide +kernel
theorem dX8_appeal_178 : decode cX8_appeal 178 = .ok (.aload_n 0, 1) := by decide +kernel
theorem dX8_appeal_179 : decode cX8_appeal 179 = .ok (.iload_n 1, 1) := by decide +kernel
theorem dX8_appeal_180 : decode cX8_appeal 180 = .ok (.bipush 7, 2) := by decide +kernel
theorem dX8_appeal_182 : decode cX8_appeal 182 = .ok (.invokevirtual 69, 3) := by decide +kernel
theorem dX8_appeal_185 : decode cX8_appeal 185 = .ok (.iconst 1, 1) := by decide +kernel
theorem dX8_appeal_186 : decode cX8_appeal 186 = .ok (.iadd, 1) := by decide +kernel
theorem dX8_appeal_187 : decode cX8_appeal 187 = .ok (.invokevirtual 85, 3) := by decide +kernel
theorem dX8_appeal_190 : decode cX8_appeal 190 = .ok (.aload_n 0, 1) := by decide +kernel
theorem dX8_appeal_191 : decode cX8_appeal 191 = .ok (.getfield 7, 3) := by decide +kernel
theorem dX8_appeal_194 : decode cX8_appeal 194 = .ok (.bipush 6, 2) := by decide +kernel
theorem dX8_appeal_196 : decode cX8_appeal 196 = .ok (.dup2, 1) := by decide +kernel
theorem dX8_appeal_197 : decode cX8_appeal 197 = .ok (.iaload, 1) := by decide +kernel
theorem dX8_appeal_198 : decode cX8_appeal 198 = .ok (.iconst 1, 1) := by decide +kernel
theorem dX8_appeal_199 : decode cX8_appeal 199 = .ok (.iadd, 1) := by decide +kernel
theorem dX8_appeal_200 : decode cX8_appeal 200 = .ok (.iastore, 1) := by decide +kernel
theorem dX8_appeal_201 : decode cX8_appeal 201 = .ok (.iload_n 3, 1) := by decide +kernel
theorem dX8_appeal_202 : decode cX8_appeal 202 = .ok (.ireturn, 1) := by decide +kernel
theorem dX8_clerk_0 : decode cX8_clerk 0 = .ok (.aload_n 0, 1) := by decide +kernel
theorem dX8_clerk_1 : decode cX8_clerk 1 = .ok (.getfield 7, 3) := by decide +kernel
theorem dX8_clerk_4 : decode cX8_clerk 4 = .ok (.iconst 2, 1) := by decide +kernel
theorem dX8_clerk_5 : decode cX8_clerk 5 = .ok (.iaload, 1) := by decide +kernel
theorem dX8_clerk_6 : decode cX8_clerk 6 = .ok (.iconst 4, 1) := by decide +kernel
theorem dX8_clerk_7 : decode cX8_clerk 7 = .ok (.if_icmp .ne 11, 3) := by decide +kernel
theorem dX8_clerk_10 : decode cX8_clerk 10 = .ok (.aload_n 0, 1) := by decide +kernel
theorem dX8_clerk_11 : decode cX8_clerk 11 = .ok (.iconst 1, 1) := by decide +kernel
theorem dX8_clerk_12 : decode cX8_clerk 12 = .ok (.iconst 1, 1) := by decide +kernel
theorem dX8_clerk_13 : decode cX8_clerk 13 = .ok (.iconst 4, 1) := by decide +kernel
theorem dX8_clerk_14 : decode cX8_clerk 14 = .ok (.invokevirtual 77, 3) := by decide +kernel
theorem dX8_clerk_17 : decode cX8_clerk 17 = .ok (.ireturn, 1) := by decide +kernel
theorem dX8_clerk_18 : decode cX8_clerk 18 = .ok (.aload_n 0, 1) := by decide +kernel
theorem dX8_clerk_19 : decode cX8_clerk 19 = .ok (.aload_n 0, 1) := by decide +kernel
theorem dX8_clerk_20 : decode cX8_clerk 20 = .ok (.getfield 7, 3) := by decide +kernel
theorem dX8_clerk_23 : decode cX8_clerk 23 = .ok (.invokevirtual 81, 3) := by decide +kernel
theorem dX8_clerk_26 : decode cX8_clerk 26 = .ok (.aload_n 0, 1) := by decide +kernel
theorem dX8_clerk_27 : decode cX8_clerk 27 = .ok (.getfield 7, 3) := by decide +kernel
theorem dX8_clerk_30 : decode cX8_clerk 30 = .ok (.iconst 2, 1) := by decide +kernel
theorem dX8_clerk_31 : decode cX8_clerk 31 = .ok (.dup2, 1) := by decide +kernel
theorem dX8_clerk_32 : decode cX8_clerk 32 = .ok (.iaload, 1) := by decide +kernel
theorem dX8_clerk_33 : decode cX8_clerk 33 = .ok (.iconst 1, 1) := by decide +kernel
theorem dX8_clerk_34 : decode cX8_clerk 34 = .ok (.iadd, 1) := by decide +kernel
theorem dX8_clerk_35 : decode cX8_clerk 35 = .ok (.iastore, 1) := by decide +kernel
theorem dX8_clerk_36 : decode cX8_clerk 36 = .ok (.aload_n 0, 1) := by decide +kernel
theorem dX8_clerk_37 : decode cX8_clerk 37 = .ok (.getfield 7, 3) := by decide +kernel
theorem dX8_clerk_40 : decode cX8_clerk 40 = .ok (.iconst 2, 1) := by decide +kernel
theorem dX8_clerk_41 : decode cX8_clerk 41 = .ok (.iaload, 1) := by decide +kernel
theorem dX8_clerk_42 : decode cX8_clerk 42 = .ok (.ireturn, 1) := by decide +kernel
theorem dX8_isRolled_0 : decode cX8_isRolled 0 = .ok (.aload_n 0, 1) := by decide +kernel
theorem dX8_isRolled_1 : decode cX8_isRolled 1 = .ok (.iload_n 1, 1) := by decide +kernel
theorem dX8_isRolled_2 : decode cX8_isRolled 2 = .ok (.iconst 2, 1) := by decide +kernel
theorem dX8_isRolled_3 : decode cX8_isRolled 3 = .ok (.invokevirtual 69, 3) := by decide +kernel
theorem dX8_isRolled_6 : decode cX8_isRolled 6 = .ok (.ifCond .eq 16, 3) := by decide +kernel
theorem dX8_isRolled_9 : decode cX8_isRolled 9 = .ok (.aload_n 0, 1) := by decide +kernel
theorem dX8_isRolled_10 : decode cX8_isRolled 10 = .ok (.iload_n 1, 1) := by decide +kernel
theorem dX8_isRolled_11 : decode cX8_isRolled 11 = .ok (.iconst 3, 1) := by decide +kernel
theorem dX8_isRolled_12 : decode cX8_isRolled 12 = .ok (.invokevirtual 69, 3) := by decide +kernel
theorem dX8_isRolled_15 : decode cX8_isRolled 15 = .ok (.ifCond .ne 7, 3) := by decide +kernel
theorem dX8_isRolled_18 : decode cX8_isRolled 18 = .ok (.iconst 1, 1) := by decide +kernel
theorem dX8_isRolled_19 : decode cX8_isRolled 19 = .ok (.goto 4, 3) := by decide +kernel
theorem dX8_isRolled_22 : decode cX8_isRolled 22 = .ok (.iconst 0, 1) := by decide +kernel
theorem dX8_isRolled_23 : decode cX8_isRolled 23 = .ok (.ireturn, 1) := by decide +kernel
theorem dX8_rolls_0 : decode cX8_rolls 0 = .ok (.iconst 0, 1) := by decide +kernel
theorem dX8_rolls_1 : decode cX8_rolls 1 = .ok (.istore_n 1, 1) := by decide +kernel
theorem dX8_rolls_2 : decode cX8_rolls 2 = .ok (.iconst 0, 1) := by decide +kernel
theorem dX8_rolls_3 : decode cX8_rolls 3 = .ok (.istore_n 2, 1) := by decide +kernel
theorem dX8_rolls_4 : decode cX8_rolls 4 = .ok (.iload_n 2, 1) := by decide +kernel
theorem dX8_rolls_5 : decode cX8_rolls 5 = .ok (.aload_n 0, 1) := by decide +kernel
theorem dX8_rolls_6 : decode cX8_rolls 6 = .ok (.getfield 7, 3) := by decide +kernel
theorem dX8_rolls_9 : decode cX8_rolls 9 = .ok (.iconst 1, 1) := by decide +kernel
theorem dX8_rolls_10 : decode cX8_rolls 10 = .ok (.iaload, 1) := by decide +kernel
theorem dX8_rolls_11 : decode cX8_rolls 11 = .ok (.if_icmp .ge 25, 3) := by decide +kernel
theorem dX8_rolls_14 : decode cX8_rolls 14 = .ok (.iload_n 1, 1) := by decide +kernel
theorem dX8_rolls_15 : decode cX8_rolls 15 = .ok (.aload_n 0, 1) := by decide +kernel
theorem dX8_rolls_16 : decode cX8_rolls 16 = .ok (.iload_n 2, 1) := by decide +kernel
theorem dX8_rolls_17 : decode cX8_rolls 17 = .ok (.invokevirtual 145, 3) := by decide +kernel
theorem dX8_rolls_20 : decode cX8_rolls 20 = .ok (.ifCond .eq 7, 3) := by decide +kernel
theorem dX8_rolls_23 : decode cX8_rolls 23 = .ok (.iconst 1, 1) := by decide +kernel
theorem dX8_rolls_24 : decode cX8_rolls 24 = .ok (.goto 4, 3) := by decide +kernel
theorem dX8_rolls_27 : decode cX8_rolls 27 = .ok (.iconst 0, 1) := by decide +kernel
theorem dX8_rolls_28 : decode cX8_rolls 28 = .ok (.iadd, 1) := by decide +kernel
theorem dX8_rolls_29 : decode cX8_rolls 29 = .ok (.istore_n 1, 1) := by decide +kernel
theorem dX8_rolls_30 : decode cX8_rolls 30 = .ok (.iinc 2 1, 3) := by decide +kernel
theorem dX8_rolls_33 : decode cX8_rolls 33 = .ok (.goto (-29), 3) := by decide +kernel
theorem dX8_rolls_36 : decode cX8_rolls 36 = .ok (.iload_n 1, 1) := by decide +kernel
theorem dX8_rolls_37 : decode cX8_rolls 37 = .ok (.ireturn, 1) := by decide +kernel
theorem dX8_isAhead_0 : decode cX8_isAhead 0 = .ok (.aload_n 0, 1) := by decide +kernel
theorem dX8_isAhead_1 : decode cX8_isAhead 1 = .ok (.iload_n 1, 1) := by decide +kernel
theorem dX8_isAhead_2 : decode cX8_isAhead 2 = .ok (.iconst 1, 1) := by decide +kernel
theorem dX8_isAhead_3 : decode cX8_isAhead 3 = .ok (.invokevirtual 69, 3) := by decide +kernel
theorem dX8_isAhead_6 : decode cX8_isAhead 6 = .ok (.aload_n 0, 1) := by decide +kernel
theorem dX8_isAhead_7 : decode cX8_isAhead 7 = .ok (.iload_n 2, 1) := by decide +kernel
theorem dX8_isAhead_8 : decode cX8_isAhead 8 = .ok (.iconst 1, 1) := by decide +kernel
theorem dX8_isAhead_9 : decode cX8_isAhead 9 = .ok (.invokevirtual 69, 3) := by decide +kernel
theorem dX8_isAhead_12 : decode cX8_isAhead 12 = .ok (.isub, 1) := by decide +kernel
theorem dX8_isAhead_13 : decode cX8_isAhead 13 = .ok (.istore_n 3, 1) := by decide +kernel
theorem dX8_isAhead_14 : decode cX8_isAhead 14 = .ok (.iload_n 3, 1) := by decide +kernel
theorem dX8_isAhead_15 : decode cX8_isAhead 15 = .ok (.ifCond .eq 13, 3) := by decide +kernel
theorem dX8_isAhead_18 : decode cX8_isAhead 18 = .ok (.iload_n 3, 1) := by decide +kernel
theorem dX8_isAhead_19 : decode cX8_isAhead 19 = .ok (.ifCond .ge 7, 3) := by decide +kernel
theorem dX8_isAhead_22 : decode cX8_isAhead 22 = .ok (.iconst 1, 1) := by decide +kernel
theorem dX8_isAhead_23 : decode cX8_isAhead 23 = .ok (.goto 4, 3) := by decide +kernel
theorem dX8_isAhead_26 : decode cX8_isAhead 26 = .ok (.iconst 0, 1) := by decide +kernel
theorem dX8_isAhead_27 : decode cX8_isAhead 27 = .ok (.ireturn, 1) := by decide +kernel
theorem dX8_isAhead_28 : decode cX8_isAhead 28 = .ok (.aload_n 0, 1) := by decide +kernel
theorem dX8_isAhead_29 : decode cX8_isAhead 29 = .ok (.iload_n 1, 1) := by decide +kernel
theorem dX8_isAhead_30 : decode cX8_isAhead 30 = .ok (.iconst 0, 1) := by decide +kernel
theorem dX8_isAhead_31 : decode cX8_isAhead 31 = .ok (.invokevirtual 69, 3) := by decide +kernel
theorem dX8_isAhead_34 : decode cX8_isAhead 34 = .ok (.aload_n 0, 1) := by decide +kernel
theorem dX8_isAhead_35 : decode cX8_isAhead 35 = .ok (.iload_n 2, 1) := by decide +kernel
theorem dX8_isAhead_36 : decode cX8_isAhead 36 = .ok (.iconst 0, 1) := by decide +kernel
theorem dX8_isAhead_37 : decode cX8_isAhead 37 = .ok (.invokevirtual 69, 3) := by decide +kernel
theorem dX8_isAhead_40 : decode cX8_isAhead 40 = .ok (.isub, 1) := by decide +kernel
theorem dX8_isAhead_41 : decode cX8_isAhead 41 = .ok (.istore 4, 2) := by decide +kernel
theorem dX8_isAhead_43 : decode cX8_isAhead 43 = .ok (.iload 4, 2) := by decide +kernel
theorem dX8_isAhead_45 : decode cX8_isAhead 45 = .ok (.ifCond .lt 13, 3) := by decide +kernel
theorem dX8_isAhead_48 : decode cX8_isAhead 48 = .ok (.iload 4, 2) := by decide +kernel
theorem dX8_isAhead_50 : decode cX8_isAhead 50 = .ok (.ifCond .ne 12, 3) := by decide +kernel
theorem dX8_isAhead_53 : decode cX8_isAhead 53 = .ok (.iload_n 1, 1) := by decide +kernel
theorem dX8_isAhead_54 : decode cX8_isAhead 54 = .ok (.iload_n 2, 1) := by decide +kernel
theorem dX8_isAhead_55 : decode cX8_isAhead 55 = .ok (.if_icmp .ge 7, 3) := by decide +kernel
theorem dX8_isAhead_58 : decode cX8_isAhead 58 = .ok (.iconst 1, 1) := by decide +kernel
theorem dX8_isAhead_59 : decode cX8_isAhead 59 = .ok (.goto 4, 3) := by decide +kernel
theorem dX8_isAhead_62 : decode cX8_isAhead 62 = .ok (.iconst 0, 1) := by decide +kernel
theorem dX8_isAhead_63 : decode cX8_isAhead 63 = .ok (.ireturn, 1) := by decide +kernel
theorem dX8_placeOf_0 : decode cX8_placeOf 0 = .ok (.iconst 0, 1) := by decide +kernel
theorem dX8_placeOf_1 : decode cX8_placeOf 1 = .ok (.istore_n 2, 1) := by decide +kernel
theorem dX8_placeOf_2 : decode cX8_placeOf 2 = .ok (.iconst 0, 1) := by decide +kernel
theorem dX8_placeOf_3 : decode cX8_placeOf 3 = .ok (.istore_n 3, 1) := by decide +kernel
theorem dX8_placeOf_4 : decode cX8_placeOf 4 = .ok (.iload_n 3, 1) := by decide +kernel
theorem dX8_placeOf_5 : decode cX8_placeOf 5 = .ok (.aload_n 0, 1) := by decide +kernel
theorem dX8_placeOf_6 : decode cX8_placeOf 6 = .ok (.getfield 7, 3) := by decide +kernel
theorem dX8_placeOf_9 : decode cX8_placeOf 9 = .ok (.iconst 1, 1) := by decide +kernel
theorem dX8_placeOf_10 : decode cX8_placeOf 10 = .ok (.iaload, 1) := by decide +kernel
theorem dX8_placeOf_11 : decode cX8_placeOf 11 = .ok (.if_icmp .ge 34, 3) := by decide +kernel
theorem dX8_placeOf_14 : decode cX8_placeOf 14 = .ok (.iload_n 2, 1) := by decide +kernel
theorem dX8_placeOf_15 : decode cX8_placeOf 15 = .ok (.aload_n 0, 1) := by decide +kernel
theorem dX8_placeOf_16 : decode cX8_placeOf 16 = .ok (.iload_n 3, 1) := by decide +kernel
theorem dX8_placeOf_17 : decode cX8_placeOf 17 = .ok (.invokevirtual 145, 3) := by decide +kernel
theorem dX8_placeOf_20 : decode cX8_placeOf 20 = .ok (.ifCond .eq 16, 3) := by decide +kernel
theorem dX8_placeOf_23 : decode cX8_placeOf 23 = .ok (.aload_n 0, 1) := by decide +kernel
theorem dX8_placeOf_24 : decode cX8_placeOf 24 = .ok (.iload_n 3, 1) := by decide +kernel
theorem dX8_placeOf_25 : decode cX8_placeOf 25 = .ok (.iload_n 1, 1) := by decide +kernel
theorem dX8_placeOf_26 : decode cX8_placeOf 26 = .ok (.invokevirtual 148, 3) := by decide +kernel
theorem dX8_placeOf_29 : decode cX8_placeOf 29 = .ok (.ifCond .eq 7, 3) := by decide +kernel
theorem dX8_placeOf_32 : decode cX8_placeOf 32 = .ok (.iconst 1, 1) := by decide +kernel
theorem dX8_placeOf_33 : decode cX8_placeOf 33 = .ok (.goto 4, 3) := by decide +kernel
theorem dX8_placeOf_36 : decode cX8_placeOf 36 = .ok (.iconst 0, 1) := by decide +kernel
theorem dX8_placeOf_37 : decode cX8_placeOf 37 = .ok (.iadd, 1) := by decide +kernel
theorem dX8_placeOf_38 : decode cX8_placeOf 38 = .ok (.istore_n 2, 1) := by decide +kernel
theorem dX8_placeOf_39 : decode cX8_placeOf 39 = .ok (.iinc 3 1, 3) := by decide +kernel
theorem dX8_placeOf_42 : decode cX8_placeOf 42 = .ok (.goto (-38), 3) := by decide +kernel
theorem dX8_placeOf_45 : decode cX8_placeOf 45 = .ok (.iload_n 2, 1) := by decide +kernel
theorem dX8_placeOf_46 : decode cX8_placeOf 46 = .ok (.ireturn, 1) := by decide +kernel
theorem dX8_rolledAt_0 : decode cX8_rolledAt 0 = .ok (.iconst 0, 1) := by decide +kernel
theorem dX8_rolledAt_1 : decode cX8_rolledAt 1 = .ok (.istore_n 2, 1) := by decide +kernel
theorem dX8_rolledAt_2 : decode cX8_rolledAt 2 = .ok (.iload_n 2, 1) := by decide +kernel
theorem dX8_rolledAt_3 : decode cX8_rolledAt 3 = .ok (.aload_n 0, 1) := by decide +kernel
theorem dX8_rolledAt_4 : decode cX8_rolledAt 4 = .ok (.getfield 7, 3) := by decide +kernel
theorem dX8_rolledAt_7 : decode cX8_rolledAt 7 = .ok (.iconst 1, 1) := by decide +kernel
theorem dX8_rolledAt_8 : decode cX8_rolledAt 8 = .ok (.iaload, 1) := by decide +kernel
theorem dX8_rolledAt_9 : decode cX8_rolledAt 9 = .ok (.if_icmp .ge 28, 3) := by decide +kernel
theorem dX8_rolledAt_12 : decode cX8_rolledAt 12 = .ok (.aload_n 0, 1) := by decide +kernel
theorem dX8_rolledAt_13 : decode cX8_rolledAt 13 = .ok (.iload_n 2, 1) := by decide +kernel
theorem dX8_rolledAt_14 : decode cX8_rolledAt 14 = .ok (.invokevirtual 145, 3) := by decide +kernel
theorem dX8_rolledAt_17 : decode cX8_rolledAt 17 = .ok (.ifCond .eq 14, 3) := by decide +kernel
theorem dX8_rolledAt_20 : decode cX8_rolledAt 20 = .ok (.aload_n 0, 1) := by decide +kernel
theorem dX8_rolledAt_21 : decode cX8_rolledAt 21 = .ok (.iload_n 2, 1) := by decide +kernel
theorem dX8_rolledAt_22 : decode cX8_rolledAt 22 = .ok (.invokevirtual 151, 3) := by decide +kernel
theorem dX8_rolledAt_25 : decode cX8_rolledAt 25 = .ok (.iload_n 1, 1) := by decide +kernel
theorem dX8_rolledAt_26 : decode cX8_rolledAt 26 = .ok (.if_icmp .ne 5, 3) := by decide +kernel
theorem dX8_rolledAt_29 : decode cX8_rolledAt 29 = .ok (.iload_n 2, 1) := by decide +kernel
theorem dX8_rolledAt_30 : decode cX8_rolledAt 30 = .ok (.ireturn, 1) := by decide +kernel
theorem dX8_rolledAt_31 : decode cX8_rolledAt 31 = .ok (.iinc 2 1, 3) := by decide +kernel
theorem dX8_rolledAt_34 : decode cX8_rolledAt 34 = .ok (.goto (-32), 3) := by decide +kernel
theorem dX8_rolledAt_37 : decode cX8_rolledAt 37 = .ok (.iconst (-1), 1) := by decide +kernel
theorem dX8_rolledAt_38 : decode cX8_rolledAt 38 = .ok (.ireturn, 1) := by decide +kernel
theorem dX8_night_0 : decode cX8_night 0 = .ok (.aload_n 0, 1) := by decide +kernel
theorem dX8_night_1 : decode cX8_night 1 = .ok (.getfield 7, 3) := by decide +kernel
theorem dX8_night_4 : decode cX8_night 4 = .ok (.iconst 3, 1) := by decide +kernel
theorem dX8_night_5 : decode cX8_night 5 = .ok (.iaload, 1) := by decide +kernel
theorem dX8_night_6 : decode cX8_night 6 = .ok (.bipush 99, 2) := by decide +kernel
theorem dX8_night_8 : decode cX8_night 8 = .ok (.if_icmp .ne 15, 3) := by decide +kernel
theorem dX8_night_11 : decode cX8_night 11 = .ok (.aload_n 0, 1) := by decide +kernel
theorem dX8_night_12 : decode cX8_night 12 = .ok (.iconst 1, 1) := by decide +kernel
theorem dX8_night_13 : decode cX8_night 13 = .ok (.bipush 8, 2) := by decide +kernel
theorem dX8_night_15 : decode cX8_night 15 = .ok (.aload_n 0, 1) := by decide +kernel
theorem dX8_night_16 : decode cX8_night 16 = .ok (.invokevirtual 154, 3) := by decide +kernel
theorem dX8_night_19 : decode cX8_night 19 = .ok (.invokevirtual 77, 3) := by decide +kernel
theorem dX8_night_22 : decode cX8_night 22 = .ok (.ireturn, 1) := by decide +kernel
theorem dX8_night_23 : decode cX8_night 23 = .ok (.aload_n 0, 1) := by decide +kernel
theorem dX8_night_24 : decode cX8_night 24 = .ok (.aload_n 0, 1) := by decide +kernel
theorem dX8_night_25 : decode cX8_night 25 = .ok (.getfield 7, 3) := by decide +kernel
theorem dX8_night_28 : decode cX8_night 28 = .ok (.invokevirtual 81, 3) := by decide +kernel
theorem dX8_night_31 : decode cX8_night 31 = .ok (.aload_n 0, 1) := by decide +kernel
theorem dX8_night_32 : decode cX8_night 32 = .ok (.getfield 7, 3) := by decide +kernel
theorem dX8_night_35 : decode cX8_night 35 = .ok (.iconst 3, 1) := by decide +kernel
theorem dX8_night_36 : decode cX8_night 36 = .ok (.dup2, 1) := by decide +kernel
theorem dX8_night_37 : decode cX8_night 37 = .ok (.iaload, 1) := by decide +kernel
theorem dX8_night_38 : decode cX8_night 38 = .ok (.iconst 1, 1) := by decide +kernel
theorem dX8_night_39 : decode cX8_night 39 = .ok (.iadd, 1) := by decide +kernel
theorem dX8_night_40 : decode cX8_night 40 = .ok (.iastore, 1) := by decide +kernel
theorem dX8_night_41 : decode cX8_night 41 = .ok (.iconst 0, 1) := by decide +kernel
theorem dX8_night_42 : decode cX8_night 42 = .ok (.istore_n 1, 1) := by decide +kernel
theorem dX8_night_43 : decode cX8_night 43 = .ok (.iload_n 1, 1) := by decide +kernel
theorem dX8_night_44 : decode cX8_night 44 = .ok (.aload_n 0, 1) := by decide +kernel
theorem dX8_night_45 : decode cX8_night 45 = .ok (.getfield 7, 3) := by decide +kernel
theorem dX8_night_48 : decode cX8_night 48 = .ok (.iconst 1, 1) := by decide +kernel
theorem dX8_night_49 : decode cX8_night 49 = .ok (.iaload, 1) := by decide +kernel
theorem dX8_night_50 : decode cX8_night 50 = .ok (.if_icmp .ge 55, 3) := by decide +kernel
theorem dX8_night_53 : decode cX8_night 53 = .ok (.aload_n 0, 1) := by decide +kernel
theorem dX8_night_54 : decode cX8_night 54 = .ok (.iload_n 1, 1) := by decide +kernel
theorem dX8_night_55 : decode cX8_night 55 = .ok (.iconst 3, 1) := by decide +kernel
theorem dX8_night_56 : decode cX8_night 56 = .ok (.invokevirtual 69, 3) := by decide +kernel
theorem dX8_night_59 : decode cX8_night 59 = .ok (.ifCond .le 40, 3) := by decide +kernel
theorem dX8_night_62 : decode cX8_night 62 = .ok (.aload_n 0, 1) := by decide +kernel
theorem dX8_night_63 : decode cX8_night 63 = .ok (.iload_n 1, 1) := by decide +kernel
theorem dX8_night_64 : decode cX8_night 64 = .ok (.invokevirtual 89, 3) := by decide +kernel
theorem dX8_night_67 : decode cX8_night 67 = .ok (.ifCond .ne 32, 3) := by decide +kernel
theorem dX8_night_70 : decode cX8_night 70 = .ok (.aload_n 0, 1) := by decide +kernel
theorem dX8_night_71 : decode cX8_night 71 = .ok (.getfield 7, 3) := by decide +kernel
theorem dX8_night_74 : decode cX8_night 74 = .ok (.iconst 3, 1) := by decide +kernel
theorem dX8_night_75 : decode cX8_night 75 = .ok (.iaload, 1) := by decide +kernel
theorem dX8_night_76 : decode cX8_night 76 = .ok (.aload_n 0, 1) := by decide +kernel
theorem dX8_night_77 : decode cX8_night 77 = .ok (.iload_n 1, 1) := by decide +kernel
theorem dX8_night_78 : decode cX8_night 78 = .ok (.iconst 4, 1) := by decide +kernel
theorem dX8_night_79 : decode cX8_night 79 = .ok (.invokevirtual 69, 3) := by decide +kernel
theorem dX8_night_82 : decode cX8_night 82 = .ok (.isub, 1) := by decide +kernel
theorem dX8_night_83 : decode cX8_night 83 = .ok (.iconst 4, 1) := by decide +kernel
theorem dX8_night_84 : decode cX8_night 84 = .ok (.if_icmp .lt 15, 3) := by decide +kernel
theorem dX8_night_87 : decode cX8_night 87 = .ok (.aload_n 0, 1) := by decide +kernel
theorem dX8_night_88 : decode cX8_night 88 = .ok (.iload_n 1, 1) := by decide +kernel
theorem dX8_night_89 : decode cX8_night 89 = .ok (.iconst 5, 1) := by decide +kernel
theorem dX8_night_90 : decode cX8_night 90 = .ok (.aload_n 0, 1) := by decide +kernel
theorem dX8_night_91 : decode cX8_night 91 = .ok (.getfield 7, 3) := by decide +kernel
theorem dX8_night_94 : decode cX8_night 94 = .ok (.iconst 3, 1) := by decide +kernel
theorem dX8_night_95 : decode cX8_night 95 = .ok (.iaload, 1) := by decide +kernel
theorem dX8_night_96 : decode cX8_night 96 = .ok (.invokevirtual 85, 3) := by decide +kernel
theorem dX8_night_99 : decode cX8_night 99 = .ok (.iinc 1 1, 3) := by decide +kernel
theorem dX8_night_102 : decode cX8_night 102 = .ok (.goto (-59), 3) := by decide +kernel
theorem dX8_night_105 : decode cX8_night 105 = .ok (.iconst 0, 1) := by decide +kernel
theorem dX8_night_106 : decode cX8_night 106 = .ok (.istore_n 1, 1) := by decide +kernel
theorem dX8_night_107 : decode cX8_night 107 = .ok (.iconst 0, 1) := by decide +kernel
theorem dX8_night_108 : decode cX8_night 108 = .ok (.istore_n 2, 1) := by decide +kernel
theorem dX8_night_109 : decode cX8_night 109 = .ok (.iload_n 2, 1) := by decide +kernel
theorem dX8_night_110 : decode cX8_night 110 = .ok (.aload_n 0, 1) := by decide +kernel
theorem dX8_night_111 : decode cX8_night 111 = .ok (.getfield 7, 3) := by decide +kernel
theorem dX8_night_114 : decode cX8_night 114 = .ok (.iconst 2, 1) := by decide +kernel
theorem dX8_night_115 : decode cX8_night 115 = .ok (.iaload, 1) := by decide +kernel
theorem dX8_night_116 : decode cX8_night 116 = .ok (.if_icmp .ge 37, 3) := by decide +kernel
theorem dX8_night_119 : decode cX8_night 119 = .ok (.aload_n 0, 1) := by decide +kernel
theorem dX8_night_120 : decode cX8_night 120 = .ok (.iconst 0, 1) := by decide +kernel
theorem dX8_night_121 : decode cX8_night 121 = .ok (.invokevirtual 158, 3) := by decide +kernel
theorem dX8_night_124 : decode cX8_night 124 = .ok (.ifCond .lt 29, 3) := by decide +kernel
theorem dX8_night_127 : decode cX8_night 127 = .ok (.iload_n 1, 1) := by decide +kernel
theorem dX8_night_128 : decode cX8_night 128 = .ok (.aload_n 0, 1) := by decide +kernel
theorem dX8_night_129 : decode cX8_night 129 = .ok (.aload_n 0, 1) := by decide +kernel
theorem dX8_night_130 : decode cX8_night 130 = .ok (.iconst 0, 1) := by decide +kernel
theorem dX8_night_131 : decode cX8_night 131 = .ok (.invokevirtual 158, 3) := by decide +kernel
theorem dX8_night_134 : decode cX8_night 134 = .ok (.invokevirtual 136, 3) := by decide +kernel
theorem dX8_night_137 : decode cX8_night 137 = .ok (.ifCond .le 7, 3) := by decide +kernel
theorem dX8_night_140 : decode cX8_night 140 = .ok (.iconst 1, 1) := by decide +kernel
theorem dX8_night_141 : decode cX8_night 141 = .ok (.goto 4, 3) := by decide +kernel
theorem dX8_night_144 : decode cX8_night 144 = .ok (.iconst 0, 1) := by decide +kernel
theorem dX8_night_145 : decode cX8_night 145 = .ok (.iadd, 1) := by decide +kernel
theorem dX8_night_146 : decode cX8_night 146 = .ok (.istore_n 1, 1) := by decide +kernel
theorem dX8_night_147 : decode cX8_night 147 = .ok (.iinc 2 1, 3) := by decide +kernel
theorem dX8_night_150 : decode cX8_night 150 = .ok (.goto (-41), 3) := by decide +kernel
theorem dX8_night_153 : decode cX8_night 153 = .ok (.iload_n 1, 1) := by decide +kernel
theorem dX8_night_154 : decode cX8_night 154 = .ok (.ireturn, 1) := by decide +kernel
theorem dX8_jurorOf_0 : decode cX8_jurorOf 0 = .ok (.aload_n 0, 1) := by decide +kernel
theorem dX8_jurorOf_1 : decode cX8_jurorOf 1 = .ok (.aload_n 0, 1) := by decide +kernel
theorem dX8_jurorOf_2 : decode cX8_jurorOf 2 = .ok (.iload_n 1, 1) := by decide +kernel
theorem dX8_jurorOf_3 : decode cX8_jurorOf 3 = .ok (.invokevirtual 161, 3) := by decide +kernel
theorem dX8_jurorOf_6 : decode cX8_jurorOf 6 = .ok (.ifCond .ne 7, 3) := by decide +kernel
theorem dX8_jurorOf_9 : decode cX8_jurorOf 9 = .ok (.iconst 1, 1) := by decide +kernel
theorem dX8_jurorOf_10 : decode cX8_jurorOf 10 = .ok (.goto 17, 3) := by decide +kernel
theorem dX8_jurorOf_13 : decode cX8_jurorOf 13 = .ok (.iload_n 2, 1) := by decide +kernel
theorem dX8_jurorOf_14 : decode cX8_jurorOf 14 = .ok (.iconst 0, 1) := by decide +kernel
theorem dX8_jurorOf_15 : decode cX8_jurorOf 15 = .ok (.iconst 4, 1) := by decide +kernel
theorem dX8_jurorOf_16 : decode cX8_jurorOf 16 = .ok (.invokestatic 65, 3) := by decide +kernel
theorem dX8_jurorOf_19 : decode cX8_jurorOf 19 = .ok (.ifCond .eq 7, 3) := by decide +kernel
theorem dX8_jurorOf_22 : decode cX8_jurorOf 22 = .ok (.iconst 0, 1) := by decide +kernel
theorem dX8_jurorOf_23 : decode cX8_jurorOf 23 = .ok (.goto 4, 3) := by decide +kernel
theorem dX8_jurorOf_26 : decode cX8_jurorOf 26 = .ok (.iconst 2, 1) := by decide +kernel
theorem dX8_jurorOf_27 : decode cX8_jurorOf 27 = .ok (.invokevirtual 73, 3) := by decide +kernel
theorem dX8_jurorOf_30 : decode cX8_jurorOf 30 = .ok (.ifCond .eq 5, 3) := by decide +kernel
theorem dX8_jurorOf_33 : decode cX8_jurorOf 33 = .ok (.iconst 0, 1) := by decide +kernel
theorem dX8_jurorOf_34 : decode cX8_jurorOf 34 = .ok (.ireturn, 1) := by decide +kernel
theorem dX8_jurorOf_35 : decode cX8_jurorOf 35 = .ok (.iload_n 2, 1) := by decide +kernel
theorem dX8_jurorOf_36 : decode cX8_jurorOf 36 = .ok (.iconst 2, 1) := by decide +kernel
theorem dX8_jurorOf_37 : decode cX8_jurorOf 37 = .ok (.if_icmp .ne 11, 3) := by decide +kernel
theorem dX8_jurorOf_40 : decode cX8_jurorOf 40 = .ok (.aload_n 0, 1) := by decide +kernel
theorem dX8_jurorOf_41 : decode cX8_jurorOf 41 = .ok (.iload_n 1, 1) := by decide +kernel
theorem dX8_jurorOf_42 : decode cX8_jurorOf 42 = .ok (.invokevirtual 96, 3) := by decide +kernel
theorem dX8_jurorOf_45 : decode cX8_jurorOf 45 = .ok (.goto 20, 3) := by decide +kernel
theorem dX8_jurorOf_48 : decode cX8_jurorOf 48 = .ok (.aload_n 0, 1) := by decide +kernel
theorem dX8_jurorOf_49 : decode cX8_jurorOf 49 = .ok (.iload_n 1, 1) := by decide +kernel
theorem dX8_jurorOf_50 : decode cX8_jurorOf 50 = .ok (.iload_n 2, 1) := by decide +kernel
theorem dX8_jurorOf_51 : decode cX8_jurorOf 51 = .ok (.iconst 2, 1) := by decide +kernel
theorem dX8_jurorOf_52 : decode cX8_jurorOf 52 = .ok (.if_icmp .ge 7, 3) := by decide +kernel
theorem dX8_jurorOf_55 : decode cX8_jurorOf 55 = .ok (.iload_n 2, 1) := by decide +kernel
theorem dX8_jurorOf_56 : decode cX8_jurorOf 56 = .ok (.goto 6, 3) := by decide +kernel
theorem dX8_jurorOf_59 : decode cX8_jurorOf 59 = .ok (.iload_n 2, 1) := by decide +kernel
theorem dX8_jurorOf_60 : decode cX8_jurorOf 60 = .ok (.iconst 1, 1) := by decide +kernel
theorem dX8_jurorOf_61 : decode cX8_jurorOf 61 = .ok (.isub, 1) := by decide +kernel
theorem dX8_jurorOf_62 : decode cX8_jurorOf 62 = .ok (.invokevirtual 100, 3) := by decide +kernel
theorem dX8_jurorOf_65 : decode cX8_jurorOf 65 = .ok (.ireturn, 1) := by decide +kernel
theorem dX8_caseOf_0 : decode cX8_caseOf 0 = .ok (.aload_n 0, 1) := by decide +kernel
theorem dX8_caseOf_1 : decode cX8_caseOf 1 = .ok (.aload_n 0, 1) := by decide +kernel
theorem dX8_caseOf_2 : decode cX8_caseOf 2 = .ok (.iload_n 1, 1) := by decide +kernel
theorem dX8_caseOf_3 : decode cX8_caseOf 3 = .ok (.invokevirtual 106, 3) := by decide +kernel
theorem dX8_caseOf_6 : decode cX8_caseOf 6 = .ok (.ifCond .ne 7, 3) := by decide +kernel
theorem dX8_caseOf_9 : decode cX8_caseOf 9 = .ok (.iconst 1, 1) := by decide +kernel
theorem dX8_caseOf_10 : decode cX8_caseOf 10 = .ok (.goto 18, 3) := by decide +kernel
theorem dX8_caseOf_13 : decode cX8_caseOf 13 = .ok (.iload_n 2, 1) := by decide +kernel
theorem dX8_caseOf_14 : decode cX8_caseOf 14 = .ok (.iconst 0, 1) := by decide +kernel
theorem dX8_caseOf_15 : decode cX8_caseOf 15 = .ok (.bipush 7, 2) := by decide +kernel
theorem dX8_caseOf_17 : decode cX8_caseOf 17 = .ok (.invokestatic 65, 3) := by decide +kernel
theorem dX8_caseOf_20 : decode cX8_caseOf 20 = .ok (.ifCond .eq 7, 3) := by decide +kernel
theorem dX8_caseOf_23 : decode cX8_caseOf 23 = .ok (.iconst 0, 1) := by decide +kernel
theorem dX8_caseOf_24 : decode cX8_caseOf 24 = .ok (.goto 4, 3) := by decide +kernel
theorem dX8_caseOf_27 : decode cX8_caseOf 27 = .ok (.iconst 2, 1) := by decide +kernel
theorem dX8_caseOf_28 : decode cX8_caseOf 28 = .ok (.invokevirtual 73, 3) := by decide +kernel
theorem dX8_caseOf_31 : decode cX8_caseOf 31 = .ok (.ifCond .eq 5, 3) := by decide +kernel
theorem dX8_caseOf_34 : decode cX8_caseOf 34 = .ok (.iconst 0, 1) := by decide +kernel
theorem dX8_caseOf_35 : decode cX8_caseOf 35 = .ok (.ireturn, 1) := by decide +kernel
theorem dX8_caseOf_36 : decode cX8_caseOf 36 = .ok (.iload_n 2, 1) := by decide +kernel
theorem dX8_caseOf_37 : decode cX8_caseOf 37 = .ok (.iconst 5, 1) := by decide +kernel
theorem dX8_caseOf_38 : decode cX8_caseOf 38 = .ok (.if_icmp .ne 19, 3) := by decide +kernel
theorem dX8_caseOf_41 : decode cX8_caseOf 41 = .ok (.aload_n 0, 1) := by decide +kernel
theorem dX8_caseOf_42 : decode cX8_caseOf 42 = .ok (.iload_n 1, 1) := by decide +kernel
theorem dX8_caseOf_43 : decode cX8_caseOf 43 = .ok (.invokevirtual 89, 3) := by decide +kernel
theorem dX8_caseOf_46 : decode cX8_caseOf 46 = .ok (.ifCond .eq 7, 3) := by decide +kernel
theorem dX8_caseOf_49 : decode cX8_caseOf 49 = .ok (.iconst 1, 1) := by decide +kernel
theorem dX8_caseOf_50 : decode cX8_caseOf 50 = .ok (.goto 13, 3) := by decide +kernel
theorem dX8_caseOf_53 : decode cX8_caseOf 53 = .ok (.iconst 0, 1) := by decide +kernel
theorem dX8_caseOf_54 : decode cX8_caseOf 54 = .ok (.goto 9, 3) := by decide +kernel
theorem dX8_caseOf_57 : decode cX8_caseOf 57 = .ok (.aload_n 0, 1) := by decide +kernel
theorem dX8_caseOf_58 : decode cX8_caseOf 58 = .ok (.iload_n 1, 1) := by decide +kernel
theorem dX8_caseOf_59 : decode cX8_caseOf 59 = .ok (.iload_n 2, 1) := by decide +kernel
theorem dX8_caseOf_60 : decode cX8_caseOf 60 = .ok (.invokevirtual 69, 3) := by decide +kernel
theorem dX8_caseOf_63 : decode cX8_caseOf 63 = .ok (.ireturn, 1) := by decide +kernel
theorem dX8_voteOf_0 : decode cX8_voteOf 0 = .ok (.aload_n 0, 1) := by decide +kernel
theorem dX8_voteOf_1 : decode cX8_voteOf 1 = .ok (.aload_n 0, 1) := by decide +kernel
theorem dX8_voteOf_2 : decode cX8_voteOf 2 = .ok (.iload_n 1, 1) := by decide +kernel
theorem dX8_voteOf_3 : decode cX8_voteOf 3 = .ok (.invokevirtual 161, 3) := by decide +kernel
theorem dX8_voteOf_6 : decode cX8_voteOf 6 = .ok (.ifCond .eq 15, 3) := by decide +kernel
theorem dX8_voteOf_9 : decode cX8_voteOf 9 = .ok (.aload_n 0, 1) := by decide +kernel
theorem dX8_voteOf_10 : decode cX8_voteOf 10 = .ok (.iload_n 2, 1) := by decide +kernel
theorem dX8_voteOf_11 : decode cX8_voteOf 11 = .ok (.invokevirtual 106, 3) := by decide +kernel
theorem dX8_voteOf_14 : decode cX8_voteOf 14 = .ok (.ifCond .eq 7, 3) := by decide +kernel
theorem dX8_voteOf_17 : decode cX8_voteOf 17 = .ok (.iconst 0, 1) := by decide +kernel
theorem dX8_voteOf_18 : decode cX8_voteOf 18 = .ok (.goto 4, 3) := by decide +kernel
theorem dX8_voteOf_21 : decode cX8_voteOf 21 = .ok (.iconst 1, 1) := by decide +kernel
theorem dX8_voteOf_22 : decode cX8_voteOf 22 = .ok (.invokevirtual 73, 3) := by decide +kernel
theorem dX8_voteOf_25 : decode cX8_voteOf 25 = .ok (.ifCond .eq 5, 3) := by decide +kernel
theorem dX8_voteOf_28 : decode cX8_voteOf 28 = .ok (.iconst 0, 1) := by decide +kernel
theorem dX8_voteOf_29 : decode cX8_voteOf 29 = .ok (.ireturn, 1) := by decide +kernel
theorem dX8_voteOf_30 : decode cX8_voteOf 30 = .ok (.aload_n 0, 1) := by decide +kernel
theorem dX8_voteOf_31 : decode cX8_voteOf 31 = .ok (.invokevirtual 124, 3) := by decide +kernel
theorem dX8_voteOf_34 : decode cX8_voteOf 34 = .ok (.aload_n 0, 1) := by decide +kernel
theorem dX8_voteOf_35 : decode cX8_voteOf 35 = .ok (.iload_n 1, 1) := by decide +kernel
theorem dX8_voteOf_36 : decode cX8_voteOf 36 = .ok (.aload_n 0, 1) := by decide +kernel
theorem dX8_voteOf_37 : decode cX8_voteOf 37 = .ok (.iload_n 2, 1) := by decide +kernel
theorem dX8_voteOf_38 : decode cX8_voteOf 38 = .ok (.iconst 0, 1) := by decide +kernel
theorem dX8_voteOf_39 : decode cX8_voteOf 39 = .ok (.invokevirtual 69, 3) := by decide +kernel
theorem dX8_voteOf_42 : decode cX8_voteOf 42 = .ok (.invokevirtual 118, 3) := by decide +kernel
theorem dX8_voteOf_45 : decode cX8_voteOf 45 = .ok (.ifCond .eq 7, 3) := by decide +kernel
theorem dX8_voteOf_48 : decode cX8_voteOf 48 = .ok (.iconst 1, 1) := by decide +kernel
theorem dX8_voteOf_49 : decode cX8_voteOf 49 = .ok (.goto 4, 3) := by decide +kernel
theorem dX8_voteOf_52 : decode cX8_voteOf 52 = .ok (.iconst 2, 1) := by decide +kernel
theorem dX8_voteOf_53 : decode cX8_voteOf 53 = .ok (.ireturn, 1) := by decide +kernel
theorem dX8_isNoPanel_0 : decode cX8_isNoPanel 0 = .ok (.aload_n 0, 1) := by decide +kernel
theorem dX8_isNoPanel_1 : decode cX8_isNoPanel 1 = .ok (.aload_n 0, 1) := by decide +kernel
theorem dX8_isNoPanel_2 : decode cX8_isNoPanel 2 = .ok (.iload_n 1, 1) := by decide +kernel
theorem dX8_isNoPanel_3 : decode cX8_isNoPanel 3 = .ok (.invokevirtual 106, 3) := by decide +kernel
theorem dX8_isNoPanel_6 : decode cX8_isNoPanel 6 = .ok (.ifCond .ne 7, 3) := by decide +kernel
theorem dX8_isNoPanel_9 : decode cX8_isNoPanel 9 = .ok (.iconst 1, 1) := by decide +kernel
theorem dX8_isNoPanel_10 : decode cX8_isNoPanel 10 = .ok (.goto 17, 3) := by decide +kernel
theorem dX8_isNoPanel_13 : decode cX8_isNoPanel 13 = .ok (.aload_n 0, 1) := by decide +kernel
theorem dX8_isNoPanel_14 : decode cX8_isNoPanel 14 = .ok (.iload_n 1, 1) := by decide +kernel
theorem dX8_isNoPanel_15 : decode cX8_isNoPanel 15 = .ok (.iconst 2, 1) := by decide +kernel
theorem dX8_isNoPanel_16 : decode cX8_isNoPanel 16 = .ok (.invokevirtual 69, 3) := by decide +kernel
theorem dX8_isNoPanel_19 : decode cX8_isNoPanel 19 = .ok (.ifCond .ne 7, 3) := by decide +kernel
theorem dX8_isNoPanel_22 : decode cX8_isNoPanel 22 = .ok (.iconst 2, 1) := by decide +kernel
theorem dX8_isNoPanel_23 : decode cX8_isNoPanel 23 = .ok (.goto 4, 3) := by decide +kernel
theorem dX8_isNoPanel_26 : decode cX8_isNoPanel 26 = .ok (.iconst 0, 1) := by decide +kernel
theorem dX8_isNoPanel_27 : decode cX8_isNoPanel 27 = .ok (.invokevirtual 73, 3) := by decide +kernel
theorem dX8_isNoPanel_30 : decode cX8_isNoPanel 30 = .ok (.ireturn, 1) := by decide +kernel
theorem dX8_wouldBe_0 : decode cX8_wouldBe 0 = .ok (.aload_n 0, 1) := by decide +kernel
theorem dX8_wouldBe_1 : decode cX8_wouldBe 1 = .ok (.iload_n 1, 1) := by decide +kernel
theorem dX8_wouldBe_2 : decode cX8_wouldBe 2 = .ok (.invokevirtual 164, 3) := by decide +kernel
theorem dX8_wouldBe_5 : decode cX8_wouldBe 5 = .ok (.ifCond .eq 5, 3) := by decide +kernel
theorem dX8_wouldBe_8 : decode cX8_wouldBe 8 = .ok (.iconst 0, 1) := by decide +kernel
theorem dX8_wouldBe_9 : decode cX8_wouldBe 9 = .ok (.ireturn, 1) := by decide +kernel
theorem dX8_wouldBe_10 : decode cX8_wouldBe 10 = .ok (.aload_n 0, 1) := by decide +kernel
theorem dX8_wouldBe_11 : decode cX8_wouldBe 11 = .ok (.invokevirtual 124, 3) := by decide +kernel
theorem dX8_wouldBe_14 : decode cX8_wouldBe 14 = .ok (.aload_n 0, 1) := by decide +kernel
theorem dX8_wouldBe_15 : decode cX8_wouldBe 15 = .ok (.aload_n 0, 1) := by decide +kernel
theorem dX8_wouldBe_16 : decode cX8_wouldBe 16 = .ok (.iload_n 1, 1) := by decide +kernel
theorem dX8_wouldBe_17 : decode cX8_wouldBe 17 = .ok (.iconst 2, 1) := by decide +kernel
theorem dX8_wouldBe_18 : decode cX8_wouldBe 18 = .ok (.invokevirtual 69, 3) := by decide +kernel
theorem dX8_wouldBe_21 : decode cX8_wouldBe 21 = .ok (.aload_n 0, 1) := by decide +kernel
theorem dX8_wouldBe_22 : decode cX8_wouldBe 22 = .ok (.iload_n 1, 1) := by decide +kernel
theorem dX8_wouldBe_23 : decode cX8_wouldBe 23 = .ok (.iconst 0, 1) := by decide +kernel
theorem dX8_wouldBe_24 : decode cX8_wouldBe 24 = .ok (.invokevirtual 69, 3) := by decide +kernel
theorem dX8_wouldBe_27 : decode cX8_wouldBe 27 = .ok (.invokevirtual 127, 3) := by decide +kernel
theorem dX8_wouldBe_30 : decode cX8_wouldBe 30 = .ok (.ireturn, 1) := by decide +kernel
theorem dX8_load_0 : decode cX8_load 0 = .ok (.aload_n 0, 1) := by decide +kernel
theorem dX8_load_1 : decode cX8_load 1 = .ok (.aload_n 0, 1) := by decide +kernel
theorem dX8_load_2 : decode cX8_load 2 = .ok (.iload_n 1, 1) := by decide +kernel
theorem dX8_load_3 : decode cX8_load 3 = .ok (.invokevirtual 161, 3) := by decide +kernel
theorem dX8_load_6 : decode cX8_load 6 = .ok (.ifCond .eq 7, 3) := by decide +kernel
theorem dX8_load_9 : decode cX8_load 9 = .ok (.iconst 0, 1) := by decide +kernel
theorem dX8_load_10 : decode cX8_load 10 = .ok (.goto 4, 3) := by decide +kernel
theorem dX8_load_13 : decode cX8_load 13 = .ok (.iconst 1, 1) := by decide +kernel
theorem dX8_load_14 : decode cX8_load 14 = .ok (.invokevirtual 73, 3) := by decide +kernel
theorem dX8_load_17 : decode cX8_load 17 = .ok (.ifCond .eq 7, 3) := by decide +kernel
theorem dX8_load_20 : decode cX8_load 20 = .ok (.iconst 0, 1) := by decide +kernel
theorem dX8_load_21 : decode cX8_load 21 = .ok (.goto 8, 3) := by decide +kernel
theorem dX8_load_24 : decode cX8_load 24 = .ok (.aload_n 0, 1) := by decide +kernel
theorem dX8_load_25 : decode cX8_load 25 = .ok (.iload_n 1, 1) := by decide +kernel
theorem dX8_load_26 : decode cX8_load 26 = .ok (.invokevirtual 96, 3) := by decide +kernel
theorem dX8_load_29 : decode cX8_load 29 = .ok (.ireturn, 1) := by decide +kernel
theorem dX8_callable_0 : decode cX8_callable 0 = .ok (.aload_n 0, 1) := by decide +kernel
theorem dX8_callable_1 : decode cX8_callable 1 = .ok (.aload_n 0, 1) := by decide +kernel
theorem dX8_callable_2 : decode cX8_callable 2 = .ok (.iload_n 1, 1) := by decide +kernel
theorem dX8_callable_3 : decode cX8_callable 3 = .ok (.iconst 0, 1) := by decide +kernel
theorem dX8_callable_4 : decode cX8_callable 4 = .ok (.invokevirtual 115, 3) := by decide +kernel
theorem dX8_callable_7 : decode cX8_callable 7 = .ok (.ifCond .ge 7, 3) := by decide +kernel
theorem dX8_callable_10 : decode cX8_callable 10 = .ok (.iconst 1, 1) := by decide +kernel
theorem dX8_callable_11 : decode cX8_callable 11 = .ok (.goto 4, 3) := by decide +kernel
theorem dX8_callable_14 : decode cX8_callable 14 = .ok (.iconst 0, 1) := by decide +kernel
theorem dX8_callable_15 : decode cX8_callable 15 = .ok (.invokevirtual 73, 3) := by decide +kernel
theorem dX8_callable_18 : decode cX8_callable 18 = .ok (.ifCond .eq 7, 3) := by decide +kernel
theorem dX8_callable_21 : decode cX8_callable 21 = .ok (.iconst 0, 1) := by decide +kernel
theorem dX8_callable_22 : decode cX8_callable 22 = .ok (.goto 9, 3) := by decide +kernel
theorem dX8_callable_25 : decode cX8_callable 25 = .ok (.aload_n 0, 1) := by decide +kernel
theorem dX8_callable_26 : decode cX8_callable 26 = .ok (.iload_n 1, 1) := by decide +kernel
theorem dX8_callable_27 : decode cX8_callable 27 = .ok (.iconst 0, 1) := by decide +kernel
theorem dX8_callable_28 : decode cX8_callable 28 = .ok (.invokevirtual 115, 3) := by decide +kernel
theorem dX8_callable_31 : decode cX8_callable 31 = .ok (.ireturn, 1) := by decide +kernel
theorem dX8_thoughts_0 : decode cX8_thoughts 0 = .ok (.aload_n 0, 1) := by decide +kernel
theorem dX8_thoughts_1 : decode cX8_thoughts 1 = .ok (.iload_n 1, 1) := by decide +kernel
theorem dX8_thoughts_2 : decode cX8_thoughts 2 = .ok (.invokevirtual 164, 3) := by decide +kernel
theorem dX8_thoughts_5 : decode cX8_thoughts 5 = .ok (.ifCond .eq 5, 3) := by decide +kernel
theorem dX8_thoughts_8 : decode cX8_thoughts 8 = .ok (.iconst 0, 1) := by decide +kernel
theorem dX8_thoughts_9 : decode cX8_thoughts 9 = .ok (.ireturn, 1) := by decide +kernel
theorem dX8_thoughts_10 : decode cX8_thoughts 10 = .ok (.aload_n 0, 1) := by decide +kernel
theorem dX8_thoughts_11 : decode cX8_thoughts 11 = .ok (.iload_n 1, 1) := by decide +kernel
theorem dX8_thoughts_12 : decode cX8_thoughts 12 = .ok (.iconst 2, 1) := by decide +kernel
theorem dX8_thoughts_13 : decode cX8_thoughts 13 = .ok (.invokevirtual 69, 3) := by decide +kernel
theorem dX8_thoughts_16 : decode cX8_thoughts 16 = .ok (.istore_n 2, 1) := by decide +kernel
theorem dX8_thoughts_17 : decode cX8_thoughts 17 = .ok (.aload_n 0, 1) := by decide +kernel
theorem dX8_thoughts_18 : decode cX8_thoughts 18 = .ok (.iload_n 1, 1) := by decide +kernel
theorem dX8_thoughts_19 : decode cX8_thoughts 19 = .ok (.iconst 0, 1) := by decide +kernel
theorem dX8_thoughts_20 : decode cX8_thoughts 20 = .ok (.invokevirtual 69, 3) := by decide +kernel
theorem dX8_thoughts_23 : decode cX8_thoughts 23 = .ok (.istore_n 3, 1) := by decide +kernel
theorem dX8_thoughts_24 : decode cX8_thoughts 24 = .ok (.aload_n 0, 1) := by decide +kernel
theorem dX8_thoughts_25 : decode cX8_thoughts 25 = .ok (.invokevirtual 124, 3) := by decide +kernel
theorem dX8_thoughts_28 : decode cX8_thoughts 28 = .ok (.aload_n 0, 1) := by decide +kernel
theorem dX8_thoughts_29 : decode cX8_thoughts 29 = .ok (.iload_n 2, 1) := by decide +kernel
theorem dX8_thoughts_30 : decode cX8_thoughts 30 = .ok (.iload_n 3, 1) := by decide +kernel
theorem dX8_thoughts_31 : decode cX8_thoughts 31 = .ok (.invokevirtual 127, 3) := by decide +kernel
theorem dX8_thoughts_34 : decode cX8_thoughts 34 = .ok (.istore 4, 2) := by decide +kernel
theorem dX8_thoughts_36 : decode cX8_thoughts 36 = .ok (.iconst 1, 1) := by decide +kernel
theorem dX8_thoughts_37 : decode cX8_thoughts 37 = .ok (.istore 5, 2) := by decide +kernel
theorem dX8_thoughts_39 : decode cX8_thoughts 39 = .ok (.iload 5, 2) := by decide +kernel
theorem dX8_thoughts_41 : decode cX8_thoughts 41 = .ok (.bipush 40, 2) := by decide +kernel
theorem dX8_thoughts_43 : decode cX8_thoughts 43 = .ok (.if_icmp .gt 53, 3) := by decide +kernel
theorem dX8_thoughts_46 : decode cX8_thoughts 46 = .ok (.aload_n 0, 1) := by decide +kernel
theorem dX8_thoughts_47 : decode cX8_thoughts 47 = .ok (.iload_n 2, 1) := by decide +kernel
theorem dX8_thoughts_48 : decode cX8_thoughts 48 = .ok (.iload_n 3, 1) := by decide +kernel
theorem dX8_thoughts_49 : decode cX8_thoughts 49 = .ok (.invokevirtual 139, 3) := by decide +kernel
theorem dX8_thoughts_52 : decode cX8_thoughts 52 = .ok (.istore 6, 2) := by decide +kernel
theorem dX8_thoughts_54 : decode cX8_thoughts 54 = .ok (.aload_n 0, 1) := by decide +kernel
theorem dX8_thoughts_55 : decode cX8_thoughts 55 = .ok (.iload_n 2, 1) := by decide +kernel
theorem dX8_thoughts_56 : decode cX8_thoughts 56 = .ok (.iload_n 3, 1) := by decide +kernel
theorem dX8_thoughts_57 : decode cX8_thoughts 57 = .ok (.invokevirtual 127, 3) := by decide +kernel
theorem dX8_thoughts_60 : decode cX8_thoughts 60 = .ok (.istore 7, 2) := by decide +kernel
theorem dX8_thoughts_62 : decode cX8_thoughts 62 = .ok (.aload_n 0, 1) := by decide +kernel
theorem dX8_thoughts_63 : decode cX8_thoughts 63 = .ok (.iload_n 2, 1) := by decide +kernel
theorem dX8_thoughts_64 : decode cX8_thoughts 64 = .ok (.iload_n 3, 1) := by decide +kernel
theorem dX8_thoughts_65 : decode cX8_thoughts 65 = .ok (.iload 7, 2) := by decide +kernel
theorem dX8_thoughts_67 : decode cX8_thoughts 67 = .ok (.invokevirtual 130, 3) := by decide +kernel
theorem dX8_thoughts_70 : decode cX8_thoughts 70 = .ok (.istore 8, 2) := by decide +kernel
theorem dX8_thoughts_72 : decode cX8_thoughts 72 = .ok (.iload 7, 2) := by decide +kernel
theorem dX8_thoughts_74 : decode cX8_thoughts 74 = .ok (.iload 4, 2) := by decide +kernel
theorem dX8_thoughts_76 : decode cX8_thoughts 76 = .ok (.if_icmp .eq 14, 3) := by decide +kernel
theorem dX8_thoughts_79 : decode cX8_thoughts 79 = .ok (.iload 6, 2) := by decide +kernel
theorem dX8_thoughts_81 : decode cX8_thoughts 81 = .ok (.iload 8, 2) := by decide +kernel
theorem dX8_thoughts_83 : decode cX8_thoughts 83 = .ok (.iadd, 1) := by decide +kernel
theorem dX8_thoughts_84 : decode cX8_thoughts 84 = .ok (.ifCond .lt 6, 3) := by decide +kernel
theorem dX8_thoughts_87 : decode cX8_thoughts 87 = .ok (.iload 5, 2) := by decide +kernel
theorem dX8_thoughts_89 : decode cX8_thoughts 89 = .ok (.ireturn, 1) := by decide +kernel
theorem dX8_thoughts_90 : decode cX8_thoughts 90 = .ok (.iinc 5 1, 3) := by decide +kernel
theorem dX8_thoughts_93 : decode cX8_thoughts 93 = .ok (.goto (-54), 3) := by decide +kernel
theorem dX8_thoughts_96 : decode cX8_thoughts 96 = .ok (.iconst 0, 1) := by decide +kernel
theorem dX8_thoughts_97 : decode cX8_thoughts 97 = .ok (.ireturn, 1) := by decide +kernel
theorem dX8_isOn_0 : decode cX8_isOn 0 = .ok (.aload_n 0, 1) := by decide +kernel
theorem dX8_isOn_1 : decode cX8_isOn 1 = .ok (.aload_n 0, 1) := by decide +kernel
theorem dX8_isOn_2 : decode cX8_isOn 2 = .ok (.iload_n 1, 1) := by decide +kernel
theorem dX8_isOn_3 : decode cX8_isOn 3 = .ok (.invokevirtual 161, 3) := by decide +kernel
theorem dX8_isOn_6 : decode cX8_isOn 6 = .ok (.ifCond .eq 15, 3) := by decide +kernel
theorem dX8_isOn_9 : decode cX8_isOn 9 = .ok (.aload_n 0, 1) := by decide +kernel
theorem dX8_isOn_10 : decode cX8_isOn 10 = .ok (.iload_n 2, 1) := by decide +kernel
theorem dX8_isOn_11 : decode cX8_isOn 11 = .ok (.invokevirtual 106, 3) := by decide +kernel
theorem dX8_isOn_14 : decode cX8_isOn 14 = .ok (.ifCond .eq 7, 3) := by decide +kernel
theorem dX8_isOn_17 : decode cX8_isOn 17 = .ok (.iconst 0, 1) := by decide +kernel
theorem dX8_isOn_18 : decode cX8_isOn 18 = .ok (.goto 4, 3) := by decide +kernel
theorem dX8_isOn_21 : decode cX8_isOn 21 = .ok (.iconst 1, 1) := by decide +kernel
theorem dX8_isOn_22 : decode cX8_isOn 22 = .ok (.invokevirtual 73, 3) := by decide +kernel
theorem dX8_isOn_25 : decode cX8_isOn 25 = .ok (.ifCond .ne 20, 3) := by decide +kernel
theorem dX8_isOn_28 : decode cX8_isOn 28 = .ok (.aload_n 0, 1) := by decide +kernel
theorem dX8_isOn_29 : decode cX8_isOn 29 = .ok (.iload_n 2, 1) := by decide +kernel
theorem dX8_isOn_30 : decode cX8_isOn 30 = .ok (.iconst 2, 1) := by decide +kernel
theorem dX8_isOn_31 : decode cX8_isOn 31 = .ok (.invokevirtual 69, 3) := by decide +kernel
theorem dX8_isOn_34 : decode cX8_isOn 34 = .ok (.iload_n 1, 1) := by decide +kernel
theorem dX8_isOn_35 : decode cX8_isOn 35 = .ok (.invokestatic 92, 3) := by decide +kernel
theorem dX8_isOn_38 : decode cX8_isOn 38 = .ok (.ifCond .eq 7, 3) := by decide +kernel
theorem dX8_isOn_41 : decode cX8_isOn 41 = .ok (.iconst 1, 1) := by decide +kernel
theorem dX8_isOn_42 : decode cX8_isOn 42 = .ok (.goto 4, 3) := by decide +kernel
theorem dX8_isOn_45 : decode cX8_isOn 45 = .ok (.iconst 0, 1) := by decide +kernel
theorem dX8_isOn_46 : decode cX8_isOn 46 = .ok (.ireturn, 1) := by decide +kernel
theorem dX8_roll_0 : decode cX8_roll 0 = .ok (.aload_n 0, 1) := by decide +kernel
theorem dX8_roll_1 : decode cX8_roll 1 = .ok (.aload_n 0, 1) := by decide +kernel
theorem dX8_roll_2 : decode cX8_roll 2 = .ok (.iload_n 1, 1) := by decide +kernel
theorem dX8_roll_3 : decode cX8_roll 3 = .ok (.invokevirtual 158, 3) := by decide +kernel
theorem dX8_roll_6 : decode cX8_roll 6 = .ok (.ifCond .ge 7, 3) := by decide +kernel
theorem dX8_roll_9 : decode cX8_roll 9 = .ok (.iconst 1, 1) := by decide +kernel
theorem dX8_roll_10 : decode cX8_roll 10 = .ok (.goto 4, 3) := by decide +kernel
theorem dX8_roll_13 : decode cX8_roll 13 = .ok (.iconst 0, 1) := by decide +kernel
theorem dX8_roll_14 : decode cX8_roll 14 = .ok (.invokevirtual 73, 3) := by decide +kernel
theorem dX8_roll_17 : decode cX8_roll 17 = .ok (.ifCond .eq 7, 3) := by decide +kernel
theorem dX8_roll_20 : decode cX8_roll 20 = .ok (.iconst 0, 1) := by decide +kernel
theorem dX8_roll_21 : decode cX8_roll 21 = .ok (.goto 8, 3) := by decide +kernel
theorem dX8_roll_24 : decode cX8_roll 24 = .ok (.aload_n 0, 1) := by decide +kernel
theorem dX8_roll_25 : decode cX8_roll 25 = .ok (.iload_n 1, 1) := by decide +kernel
theorem dX8_roll_26 : decode cX8_roll 26 = .ok (.invokevirtual 158, 3) := by decide +kernel
theorem dX8_roll_29 : decode cX8_roll 29 = .ok (.ireturn, 1) := by decide +kernel
theorem dX8_rolled_0 : decode cX8_rolled 0 = .ok (.aload_n 0, 1) := by decide +kernel
theorem dX8_rolled_1 : decode cX8_rolled 1 = .ok (.iconst 0, 1) := by decide +kernel
theorem dX8_rolled_2 : decode cX8_rolled 2 = .ok (.putfield 42, 3) := by decide +kernel
theorem dX8_rolled_5 : decode cX8_rolled 5 = .ok (.aload_n 0, 1) := by decide +kernel
theorem dX8_rolled_6 : decode cX8_rolled 6 = .ok (.invokevirtual 154, 3) := by decide +kernel
theorem dX8_rolled_9 : decode cX8_rolled 9 = .ok (.ireturn, 1) := by decide +kernel
theorem dX8_wouldTake_0 : decode cX8_wouldTake 0 = .ok (.aload_n 0, 1) := by decide +kernel
theorem dX8_wouldTake_1 : decode cX8_wouldTake 1 = .ok (.aload_n 0, 1) := by decide +kernel
theorem dX8_wouldTake_2 : decode cX8_wouldTake 2 = .ok (.iload_n 1, 1) := by decide +kernel
theorem dX8_wouldTake_3 : decode cX8_wouldTake 3 = .ok (.invokevirtual 106, 3) := by decide +kernel
theorem dX8_wouldTake_6 : decode cX8_wouldTake 6 = .ok (.ifCond .eq 7, 3) := by decide +kernel
theorem dX8_wouldTake_9 : decode cX8_wouldTake 9 = .ok (.iconst 0, 1) := by decide +kernel
theorem dX8_wouldTake_10 : decode cX8_wouldTake 10 = .ok (.goto 4, 3) := by decide +kernel
theorem dX8_wouldTake_13 : decode cX8_wouldTake 13 = .ok (.iconst 1, 1) := by decide +kernel
theorem dX8_wouldTake_14 : decode cX8_wouldTake 14 = .ok (.invokevirtual 73, 3) := by decide +kernel
theorem dX8_wouldTake_17 : decode cX8_wouldTake 17 = .ok (.ifCond .eq 5, 3) := by decide +kernel
theorem dX8_wouldTake_20 : decode cX8_wouldTake 20 = .ok (.iconst 0, 1) := by decide +kernel
theorem dX8_wouldTake_21 : decode cX8_wouldTake 21 = .ok (.ireturn, 1) := by decide +kernel
theorem dX8_wouldTake_22 : decode cX8_wouldTake 22 = .ok (.aload_n 0, 1) := by decide +kernel
theorem dX8_wouldTake_23 : decode cX8_wouldTake 23 = .ok (.getfield 7, 3) := by decide +kernel
theorem dX8_wouldTake_26 : decode cX8_wouldTake 26 = .ok (.iconst 3, 1) := by decide +kernel
theorem dX8_wouldTake_27 : decode cX8_wouldTake 27 = .ok (.iaload, 1) := by decide +kernel
theorem dX8_wouldTake_28 : decode cX8_wouldTake 28 = .ok (.iconst 1, 1) := by decide +kernel
theorem dX8_wouldTake_29 : decode cX8_wouldTake 29 = .ok (.iadd, 1) := by decide +kernel
theorem dX8_wouldTake_30 : decode cX8_wouldTake 30 = .ok (.aload_n 0, 1) := by decide +kernel
theorem dX8_wouldTake_31 : decode cX8_wouldTake 31 = .ok (.iload_n 1, 1) := by decide +kernel
theorem dX8_wouldTake_32 : decode cX8_wouldTake 32 = .ok (.invokevirtual 151, 3) := by decide +kernel
theorem dX8_wouldTake_35 : decode cX8_wouldTake 35 = .ok (.aload_n 0, 1) := by decide +kernel
theorem dX8_wouldTake_36 : decode cX8_wouldTake 36 = .ok (.getfield 7, 3) := by decide +kernel
theorem dX8_wouldTake_39 : decode cX8_wouldTake 39 = .ok (.iconst 2, 1) := by decide +kernel
theorem dX8_wouldTake_40 : decode cX8_wouldTake 40 = .ok (.iaload, 1) := by decide +kernel
theorem dX8_wouldTake_41 : decode cX8_wouldTake 41 = .ok (.idiv, 1) := by decide +kernel
theorem dX8_wouldTake_42 : decode cX8_wouldTake 42 = .ok (.iadd, 1) := by decide +kernel
theorem dX8_wouldTake_43 : decode cX8_wouldTake 43 = .ok (.istore_n 2, 1) := by decide +kernel
theorem dX8_wouldTake_44 : decode cX8_wouldTake 44 = .ok (.aload_n 0, 1) := by decide +kernel
theorem dX8_wouldTake_45 : decode cX8_wouldTake 45 = .ok (.aload_n 0, 1) := by decide +kernel
theorem dX8_wouldTake_46 : decode cX8_wouldTake 46 = .ok (.iload_n 1, 1) := by decide +kernel
theorem dX8_wouldTake_47 : decode cX8_wouldTake 47 = .ok (.invokevirtual 145, 3) := by decide +kernel
theorem dX8_wouldTake_50 : decode cX8_wouldTake 50 = .ok (.ifCond .eq 9, 3) := by decide +kernel
theorem dX8_wouldTake_53 : decode cX8_wouldTake 53 = .ok (.iload_n 2, 1) := by decide +kernel
theorem dX8_wouldTake_54 : decode cX8_wouldTake 54 = .ok (.bipush 99, 2) := by decide +kernel
theorem dX8_wouldTake_56 : decode cX8_wouldTake 56 = .ok (.if_icmp .le 7, 3) := by decide +kernel
theorem dX8_wouldTake_59 : decode cX8_wouldTake 59 = .ok (.iconst 2, 1) := by decide +kernel
theorem dX8_wouldTake_60 : decode cX8_wouldTake 60 = .ok (.goto 4, 3) := by decide +kernel
theorem dX8_wouldTake_63 : decode cX8_wouldTake 63 = .ok (.iconst 0, 1) := by decide +kernel
theorem dX8_wouldTake_64 : decode cX8_wouldTake 64 = .ok (.invokevirtual 73, 3) := by decide +kernel
theorem dX8_wouldTake_67 : decode cX8_wouldTake 67 = .ok (.ifCond .eq 7, 3) := by decide +kernel
theorem dX8_wouldTake_70 : decode cX8_wouldTake 70 = .ok (.iconst 0, 1) := by decide +kernel
theorem dX8_wouldTake_71 : decode cX8_wouldTake 71 = .ok (.goto 4, 3) := by decide +kernel
theorem dX8_wouldTake_74 : decode cX8_wouldTake 74 = .ok (.iload_n 2, 1) := by decide +kernel
theorem dX8_wouldTake_75 : decode cX8_wouldTake 75 = .ok (.ireturn, 1) := by decide +kernel
theorem dX8_overdue_0 : decode cX8_overdue 0 = .ok (.aload_n 0, 1) := by decide +kernel
theorem dX8_overdue_1 : decode cX8_overdue 1 = .ok (.iconst 0, 1) := by decide +kernel
theorem dX8_overdue_2 : decode cX8_overdue 2 = .ok (.putfield 42, 3) := by decide +kernel
theorem dX8_overdue_5 : decode cX8_overdue 5 = .ok (.iconst 0, 1) := by decide +kernel
theorem dX8_overdue_6 : decode cX8_overdue 6 = .ok (.istore_n 1, 1) := by decide +kernel
theorem dX8_overdue_7 : decode cX8_overdue 7 = .ok (.iconst 0, 1) := by decide +kernel
theorem dX8_overdue_8 : decode cX8_overdue 8 = .ok (.istore_n 2, 1) := by decide +kernel
theorem dX8_overdue_9 : decode cX8_overdue 9 = .ok (.iload_n 2, 1) := by decide +kernel
theorem dX8_overdue_10 : decode cX8_overdue 10 = .ok (.aload_n 0, 1) := by decide +kernel
theorem dX8_overdue_11 : decode cX8_overdue 11 = .ok (.getfield 7, 3) := by decide +kernel
theorem dX8_overdue_14 : decode cX8_overdue 14 = .ok (.iconst 1, 1) := by decide +kernel
theorem dX8_overdue_15 : decode cX8_overdue 15 = .ok (.iaload, 1) := by decide +kernel
theorem dX8_overdue_16 : decode cX8_overdue 16 = .ok (.if_icmp .ge 40, 3) := by decide +kernel
theorem dX8_overdue_19 : decode cX8_overdue 19 = .ok (.iload_n 1, 1) := by decide +kernel
theorem dX8_overdue_20 : decode cX8_overdue 20 = .ok (.aload_n 0, 1) := by decide +kernel
theorem dX8_overdue_21 : decode cX8_overdue 21 = .ok (.iload_n 2, 1) := by decide +kernel
theorem dX8_overdue_22 : decode cX8_overdue 22 = .ok (.invokevirtual 145, 3) := by decide +kernel
theorem dX8_overdue_25 : decode cX8_overdue 25 = .ok (.ifCond .eq 22, 3) := by decide +kernel
theorem dX8_overdue_28 : decode cX8_overdue 28 = .ok (.aload_n 0, 1) := by decide +kernel
theorem dX8_overdue_29 : decode cX8_overdue 29 = .ok (.iload_n 2, 1) := by decide +kernel
theorem dX8_overdue_30 : decode cX8_overdue 30 = .ok (.iconst 1, 1) := by decide +kernel
theorem dX8_overdue_31 : decode cX8_overdue 31 = .ok (.invokevirtual 69, 3) := by decide +kernel
theorem dX8_overdue_34 : decode cX8_overdue 34 = .ok (.aload_n 0, 1) := by decide +kernel
theorem dX8_overdue_35 : decode cX8_overdue 35 = .ok (.getfield 7, 3) := by decide +kernel
theorem dX8_overdue_38 : decode cX8_overdue 38 = .ok (.iconst 3, 1) := by decide +kernel
theorem dX8_overdue_39 : decode cX8_overdue 39 = .ok (.iaload, 1) := by decide +kernel
theorem dX8_overdue_40 : decode cX8_overdue 40 = .ok (.if_icmp .ge 7, 3) := by decide +kernel
theorem dX8_overdue_43 : decode cX8_overdue 43 = .ok (.iconst 1, 1) := by decide +kernel
theorem dX8_overdue_44 : decode cX8_overdue 44 = .ok (.goto 4, 3) := by decide +kernel
theorem dX8_overdue_47 : decode cX8_overdue 47 = .ok (.iconst 0, 1) := by decide +kernel
theorem dX8_overdue_48 : decode cX8_overdue 48 = .ok (.iadd, 1) := by decide +kernel
theorem dX8_overdue_49 : decode cX8_overdue 49 = .ok (.istore_n 1, 1) := by decide +kernel
theorem dX8_overdue_50 : decode cX8_overdue 50 = .ok (.iinc 2 1, 3) := by decide +kernel
theorem dX8_overdue_53 : decode cX8_overdue 53 = .ok (.goto (-44), 3) := by decide +kernel
theorem dX8_overdue_56 : decode cX8_overdue 56 = .ok (.iload_n 1, 1) := by decide +kernel
theorem dX8_overdue_57 : decode cX8_overdue 57 = .ok (.ireturn, 1) := by decide +kernel
theorem dX8_termFrom_0 : decode cX8_termFrom 0 = .ok (.aload_n 0, 1) := by decide +kernel
theorem dX8_termFrom_1 : decode cX8_termFrom 1 = .ok (.iload_n 1, 1) := by decide +kernel
theorem dX8_termFrom_2 : decode cX8_termFrom 2 = .ok (.iconst 0, 1) := by decide +kernel
theorem dX8_termFrom_3 : decode cX8_termFrom 3 = .ok (.bipush 99, 2) := by decide +kernel
theorem dX8_termFrom_5 : decode cX8_termFrom 5 = .ok (.invokestatic 65, 3) := by decide +kernel
theorem dX8_termFrom_8 : decode cX8_termFrom 8 = .ok (.ifCond .eq 7, 3) := by decide +kernel
theorem dX8_termFrom_11 : decode cX8_termFrom 11 = .ok (.iconst 0, 1) := by decide +kernel
theorem dX8_termFrom_12 : decode cX8_termFrom 12 = .ok (.goto 4, 3) := by decide +kernel
theorem dX8_termFrom_15 : decode cX8_termFrom 15 = .ok (.iconst 1, 1) := by decide +kernel
theorem dX8_termFrom_16 : decode cX8_termFrom 16 = .ok (.invokevirtual 73, 3) := by decide +kernel
theorem dX8_termFrom_19 : decode cX8_termFrom 19 = .ok (.ifCond .eq 5, 3) := by decide +kernel
theorem dX8_termFrom_22 : decode cX8_termFrom 22 = .ok (.iconst 0, 1) := by decide +kernel
theorem dX8_termFrom_23 : decode cX8_termFrom 23 = .ok (.ireturn, 1) := by decide +kernel
theorem dX8_termFrom_24 : decode cX8_termFrom 24 = .ok (.iconst (-1), 1) := by decide +kernel
theorem dX8_termFrom_25 : decode cX8_termFrom 25 = .ok (.istore_n 2, 1) := by decide +kernel
theorem dX8_termFrom_26 : decode cX8_termFrom 26 = .ok (.iconst 0, 1) := by decide +kernel
theorem dX8_termFrom_27 : decode cX8_termFrom 27 = .ok (.istore_n 3, 1) := by decide +kernel
theorem dX8_termFrom_28 : decode cX8_termFrom 28 = .ok (.iload_n 3, 1) := by decide +kernel
theorem dX8_termFrom_29 : decode cX8_termFrom 29 = .ok (.aload_n 0, 1) := by decide +kernel
theorem dX8_termFrom_30 : decode cX8_termFrom 30 = .ok (.getfield 7, 3) := by decide +kernel
theorem dX8_termFrom_33 : decode cX8_termFrom 33 = .ok (.iconst 1, 1) := by decide +kernel
theorem dX8_termFrom_34 : decode cX8_termFrom 34 = .ok (.iaload, 1) := by decide +kernel
theorem dX8_termFrom_35 : decode cX8_termFrom 35 = .ok (.if_icmp .ge 48, 3) := by decide +kernel
theorem dX8_termFrom_38 : decode cX8_termFrom 38 = .ok (.aload_n 0, 1) := by decide +kernel
theorem dX8_termFrom_39 : decode cX8_termFrom 39 = .ok (.iload_n 3, 1) := by decide +kernel
theorem dX8_termFrom_40 : decode cX8_termFrom 40 = .ok (.invokevirtual 145, 3) := by decide +kernel
theorem dX8_termFrom_43 : decode cX8_termFrom 43 = .ok (.ifCond .eq 34, 3) := by decide +kernel
theorem dX8_termFrom_46 : decode cX8_termFrom 46 = .ok (.aload_n 0, 1) := by decide +kernel
theorem dX8_termFrom_47 : decode cX8_termFrom 47 = .ok (.iload_n 3, 1) := by decide +kernel
theorem dX8_termFrom_48 : decode cX8_termFrom 48 = .ok (.iconst 1, 1) := by decide +kernel
theorem dX8_termFrom_49 : decode cX8_termFrom 49 = .ok (.invokevirtual 69, 3) := by decide +kernel
theorem dX8_termFrom_52 : decode cX8_termFrom 52 = .ok (.iload_n 1, 1) := by decide +kernel
theorem dX8_termFrom_53 : decode cX8_termFrom 53 = .ok (.if_icmp .lt 24, 3) := by decide +kernel
theorem dX8_termFrom_56 : decode cX8_termFrom 56 = .ok (.iload_n 2, 1) := by decide +kernel
theorem dX8_termFrom_57 : decode cX8_termFrom 57 = .ok (.ifCond .lt 13, 3) := by decide +kernel
theorem dX8_termFrom_60 : decode cX8_termFrom 60 = .ok (.aload_n 0, 1) := by decide +kernel
theorem dX8_termFrom_61 : decode cX8_termFrom 61 = .ok (.iload_n 3, 1) := by decide +kernel
theorem dX8_termFrom_62 : decode cX8_termFrom 62 = .ok (.iconst 1, 1) := by decide +kernel
theorem dX8_termFrom_63 : decode cX8_termFrom 63 = .ok (.invokevirtual 69, 3) := by decide +kernel
theorem dX8_termFrom_66 : decode cX8_termFrom 66 = .ok (.iload_n 2, 1) := by decide +kernel
theorem dX8_termFrom_67 : decode cX8_termFrom 67 = .ok (.if_icmp .ge 10, 3) := by decide +kernel
theorem dX8_termFrom_70 : decode cX8_termFrom 70 = .ok (.aload_n 0, 1) := by decide +kernel
theorem dX8_termFrom_71 : decode cX8_termFrom 71 = .ok (.iload_n 3, 1) := by decide +kernel
theorem dX8_termFrom_72 : decode cX8_termFrom 72 = .ok (.iconst 1, 1) := by decide +kernel
theorem dX8_termFrom_73 : decode cX8_termFrom 73 = .ok (.invokevirtual 69, 3) := by decide +kernel
theorem dX8_termFrom_76 : decode cX8_termFrom 76 = .ok (.istore_n 2, 1) := by decide +kernel
theorem dX8_termFrom_77 : decode cX8_termFrom 77 = .ok (.iinc 3 1, 3) := by decide +kernel
theorem dX8_termFrom_80 : decode cX8_termFrom 80 = .ok (.goto (-52), 3) := by decide +kernel
theorem dX8_termFrom_83 : decode cX8_termFrom 83 = .ok (.aload_n 0, 1) := by decide +kernel
theorem dX8_termFrom_84 : decode cX8_termFrom 84 = .ok (.iload_n 2, 1) := by decide +kernel
theorem dX8_termFrom_85 : decode cX8_termFrom 85 = .ok (.ifCond .ge 7, 3) := by decide +kernel
theorem dX8_termFrom_88 : decode cX8_termFrom 88 = .ok (.iconst 2, 1) := by decide +kernel
theorem dX8_termFrom_89 : decode cX8_termFrom 89 = .ok (.goto 4, 3) := by decide +kernel
theorem dX8_termFrom_92 : decode cX8_termFrom 92 = .ok (.iconst 0, 1) := by decide +kernel
theorem dX8_termFrom_93 : decode cX8_termFrom 93 = .ok (.invokevirtual 73, 3) := by decide +kernel
theorem dX8_termFrom_96 : decode cX8_termFrom 96 = .ok (.ifCond .eq 7, 3) := by decide +kernel
theorem dX8_termFrom_99 : decode cX8_termFrom 99 = .ok (.iconst 0, 1) := by decide +kernel
theorem dX8_termFrom_100 : decode cX8_termFrom 100 = .ok (.goto 4, 3) := by decide +kernel
theorem dX8_termFrom_103 : decode cX8_termFrom 103 = .ok (.iload_n 2, 1) := by decide +kernel
theorem dX8_termFrom_104 : decode cX8_termFrom 104 = .ok (.ireturn, 1) := by decide +kernel
theorem dX8_finalIn_0 : decode cX8_finalIn 0 = .ok (.aload_n 0, 1) := by decide +kernel
theorem dX8_finalIn_1 : decode cX8_finalIn 1 = .ok (.aload_n 0, 1) := by decide +kernel
theorem dX8_finalIn_2 : decode cX8_finalIn 2 = .ok (.iload_n 1, 1) := by decide +kernel
theorem dX8_finalIn_3 : decode cX8_finalIn 3 = .ok (.invokevirtual 106, 3) := by decide +kernel
theorem dX8_finalIn_6 : decode cX8_finalIn 6 = .ok (.ifCond .ne 7, 3) := by decide +kernel
theorem dX8_finalIn_9 : decode cX8_finalIn 9 = .ok (.iconst 1, 1) := by decide +kernel
theorem dX8_finalIn_10 : decode cX8_finalIn 10 = .ok (.goto 17, 3) := by decide +kernel
theorem dX8_finalIn_13 : decode cX8_finalIn 13 = .ok (.aload_n 0, 1) := by decide +kernel
theorem dX8_finalIn_14 : decode cX8_finalIn 14 = .ok (.iload_n 1, 1) := by decide +kernel
theorem dX8_finalIn_15 : decode cX8_finalIn 15 = .ok (.iconst 3, 1) := by decide +kernel
theorem dX8_finalIn_16 : decode cX8_finalIn 16 = .ok (.invokevirtual 69, 3) := by decide +kernel
theorem dX8_finalIn_19 : decode cX8_finalIn 19 = .ok (.ifCond .ne 7, 3) := by decide +kernel
theorem dX8_finalIn_22 : decode cX8_finalIn 22 = .ok (.iconst 2, 1) := by decide +kernel
theorem dX8_finalIn_23 : decode cX8_finalIn 23 = .ok (.goto 4, 3) := by decide +kernel
theorem dX8_finalIn_26 : decode cX8_finalIn 26 = .ok (.iconst 0, 1) := by decide +kernel
theorem dX8_finalIn_27 : decode cX8_finalIn 27 = .ok (.invokevirtual 73, 3) := by decide +kernel
theorem dX8_finalIn_30 : decode cX8_finalIn 30 = .ok (.ifCond .eq 5, 3) := by decide +kernel
theorem dX8_finalIn_33 : decode cX8_finalIn 33 = .ok (.iconst 0, 1) := by decide +kernel
theorem dX8_finalIn_34 : decode cX8_finalIn 34 = .ok (.ireturn, 1) := by decide +kernel
theorem dX8_finalIn_35 : decode cX8_finalIn 35 = .ok (.aload_n 0, 1) := by decide +kernel
theorem dX8_finalIn_36 : decode cX8_finalIn 36 = .ok (.iload_n 1, 1) := by decide +kernel
theorem dX8_finalIn_37 : decode cX8_finalIn 37 = .ok (.invokevirtual 89, 3) := by decide +kernel
theorem dX8_finalIn_40 : decode cX8_finalIn 40 = .ok (.ifCond .eq 12, 3) := by decide +kernel
theorem dX8_finalIn_43 : decode cX8_finalIn 43 = .ok (.aload_n 0, 1) := by decide +kernel
theorem dX8_finalIn_44 : decode cX8_finalIn 44 = .ok (.iload_n 1, 1) := by decide +kernel
theorem dX8_finalIn_45 : decode cX8_finalIn 45 = .ok (.iconst 5, 1) := by decide +kernel
theorem dX8_finalIn_46 : decode cX8_finalIn 46 = .ok (.invokevirtual 69, 3) := by decide +kernel
theorem dX8_finalIn_49 : decode cX8_finalIn 49 = .ok (.goto 11, 3) := by decide +kernel
theorem dX8_finalIn_52 : decode cX8_finalIn 52 = .ok (.aload_n 0, 1) := by decide +kernel
theorem dX8_finalIn_53 : decode cX8_finalIn 53 = .ok (.iload_n 1, 1) := by decide +kernel
theorem dX8_finalIn_54 : decode cX8_finalIn 54 = .ok (.iconst 4, 1) := by decide +kernel
theorem dX8_finalIn_55 : decode cX8_finalIn 55 = .ok (.invokevirtual 69, 3) := by decide +kernel
theorem dX8_finalIn_58 : decode cX8_finalIn 58 = .ok (.iconst 4, 1) := by decide +kernel
theorem dX8_finalIn_59 : decode cX8_finalIn 59 = .ok (.iadd, 1) := by decide +kernel
theorem dX8_finalIn_60 : decode cX8_finalIn 60 = .ok (.ireturn, 1) := by decide +kernel
theorem dX8_isMoreDoubtful_0 : decode cX8_isMoreDoubtful 0 = .ok (.aload_n 0, 1) := by decide +kernel
theorem dX8_isMoreDoubtful_1 : decode cX8_isMoreDoubtful 1 = .ok (.iload_n 1, 1) := by decide +kernel
theorem dX8_isMoreDoubtful_2 : decode cX8_isMoreDoubtful 2 = .ok (.iconst 1, 1) := by decide +kernel
theorem dX8_isMoreDoubtful_3 : decode cX8_isMoreDoubtful 3 = .ok (.invokevirtual 100, 3) := by decide +kernel
theorem dX8_isMoreDoubtful_6 : decode cX8_isMoreDoubtful 6 = .ok (.aload_n 0, 1) := by decide +kernel
theorem dX8_isMoreDoubtful_7 : decode cX8_isMoreDoubtful 7 = .ok (.iload_n 2, 1) := by decide +kernel
theorem dX8_isMoreDoubtful_8 : decode cX8_isMoreDoubtful 8 = .ok (.iconst 1, 1) := by decide +kernel
theorem dX8_isMoreDoubtful_9 : decode cX8_isMoreDoubtful 9 = .ok (.invokevirtual 100, 3) := by decide +kernel
theorem dX8_isMoreDoubtful_12 : decode cX8_isMoreDoubtful 12 = .ok (.isub, 1) := by decide +kernel
theorem dX8_isMoreDoubtful_13 : decode cX8_isMoreDoubtful 13 = .ok (.istore_n 3, 1) := by decide +kernel
theorem dX8_isMoreDoubtful_14 : decode cX8_isMoreDoubtful 14 = .ok (.iload_n 3, 1) := by decide +kernel
theorem dX8_isMoreDoubtful_15 : decode cX8_isMoreDoubtful 15 = .ok (.ifCond .eq 13, 3) := by decide +kernel
theorem dX8_isMoreDoubtful_18 : decode cX8_isMoreDoubtful 18 = .ok (.iload_n 3, 1) := by decide +kernel
theorem dX8_isMoreDoubtful_19 : decode cX8_isMoreDoubtful 19 = .ok (.ifCond .le 7, 3) := by decide +kernel
theorem dX8_isMoreDoubtful_22 : decode cX8_isMoreDoubtful 22 = .ok (.iconst 1, 1) := by decide +kernel
theorem dX8_isMoreDoubtful_23 : decode cX8_isMoreDoubtful 23 = .ok (.goto 4, 3) := by decide +kernel
theorem dX8_isMoreDoubtful_26 : decode cX8_isMoreDoubtful 26 = .ok (.iconst 0, 1) := by decide +kernel
theorem dX8_isMoreDoubtful_27 : decode cX8_isMoreDoubtful 27 = .ok (.ireturn, 1) := by decide +kernel
theorem dX8_isMoreDoubtful_28 : decode cX8_isMoreDoubtful 28 = .ok (.aload_n 0, 1) := by decide +kernel
theorem dX8_isMoreDoubtful_29 : decode cX8_isMoreDoubtful 29 = .ok (.iload_n 1, 1) := by decide +kernel
theorem dX8_isMoreDoubtful_30 : decode cX8_isMoreDoubtful 30 = .ok (.iconst 0, 1) := by decide +kernel
theorem dX8_isMoreDoubtful_31 : decode cX8_isMoreDoubtful 31 = .ok (.invokevirtual 100, 3) := by decide +kernel
theorem dX8_isMoreDoubtful_34 : decode cX8_isMoreDoubtful 34 = .ok (.aload_n 0, 1) := by decide +kernel
theorem dX8_isMoreDoubtful_35 : decode cX8_isMoreDoubtful 35 = .ok (.iload_n 2, 1) := by decide +kernel
theorem dX8_isMoreDoubtful_36 : decode cX8_isMoreDoubtful 36 = .ok (.iconst 0, 1) := by decide +kernel
theorem dX8_isMoreDoubtful_37 : decode cX8_isMoreDoubtful 37 = .ok (.invokevirtual 100, 3) := by decide +kernel
theorem dX8_isMoreDoubtful_40 : decode cX8_isMoreDoubtful 40 = .ok (.isub, 1) := by decide +kernel
theorem dX8_isMoreDoubtful_41 : decode cX8_isMoreDoubtful 41 = .ok (.istore 4, 2) := by decide +kernel
theorem dX8_isMoreDoubtful_43 : decode cX8_isMoreDoubtful 43 = .ok (.iload 4, 2) := by decide +kernel
theorem dX8_isMoreDoubtful_45 : decode cX8_isMoreDoubtful 45 = .ok (.ifCond .gt 13, 3) := by decide +kernel
theorem dX8_isMoreDoubtful_48 : decode cX8_isMoreDoubtful 48 = .ok (.iload 4, 2) := by decide +kernel
theorem dX8_isMoreDoubtful_50 : decode cX8_isMoreDoubtful 50 = .ok (.ifCond .ne 12, 3) := by decide +kernel
theorem dX8_isMoreDoubtful_53 : decode cX8_isMoreDoubtful 53 = .ok (.iload_n 1, 1) := by decide +kernel
theorem dX8_isMoreDoubtful_54 : decode cX8_isMoreDoubtful 54 = .ok (.iload_n 2, 1) := by decide +kernel
theorem dX8_isMoreDoubtful_55 : decode cX8_isMoreDoubtful 55 = .ok (.if_icmp .ge 7, 3) := by decide +kernel
theorem dX8_isMoreDoubtful_58 : decode cX8_isMoreDoubtful 58 = .ok (.iconst 1, 1) := by decide +kernel
theorem dX8_isMoreDoubtful_59 : decode cX8_isMoreDoubtful 59 = .ok (.goto 4, 3) := by decide +kernel
theorem dX8_isMoreDoubtful_62 : decode cX8_isMoreDoubtful 62 = .ok (.iconst 0, 1) := by decide +kernel
theorem dX8_isMoreDoubtful_63 : decode cX8_isMoreDoubtful 63 = .ok (.ireturn, 1) := by decide +kernel
theorem dX8_doubtful_0 : decode cX8_doubtful 0 = .ok (.iconst 0, 1) := by decide +kernel
theorem dX8_doubtful_1 : decode cX8_doubtful 1 = .ok (.istore_n 2, 1) := by decide +kernel
theorem dX8_doubtful_2 : decode cX8_doubtful 2 = .ok (.iload_n 2, 1) := by decide +kernel
theorem dX8_doubtful_3 : decode cX8_doubtful 3 = .ok (.aload_n 0, 1) := by decide +kernel
theorem dX8_doubtful_4 : decode cX8_doubtful 4 = .ok (.getfield 7, 3) := by decide +kernel
theorem dX8_doubtful_7 : decode cX8_doubtful 7 = .ok (.iconst 0, 1) := by decide +kernel
theorem dX8_doubtful_8 : decode cX8_doubtful 8 = .ok (.iaload, 1) := by decide +kernel
theorem dX8_doubtful_9 : decode cX8_doubtful 9 = .ok (.if_icmp .ge 64, 3) := by decide +kernel
theorem dX8_doubtful_12 : decode cX8_doubtful 12 = .ok (.iconst 0, 1) := by decide +kernel
theorem dX8_doubtful_13 : decode cX8_doubtful 13 = .ok (.istore_n 3, 1) := by decide +kernel
theorem dX8_doubtful_14 : decode cX8_doubtful 14 = .ok (.iconst 0, 1) := by decide +kernel
theorem dX8_doubtful_15 : decode cX8_doubtful 15 = .ok (.istore 4, 2) := by decide +kernel
theorem dX8_doubtful_17 : decode cX8_doubtful 17 = .ok (.iload 4, 2) := by decide +kernel
theorem dX8_doubtful_19 : decode cX8_doubtful 19 = .ok (.aload_n 0, 1) := by decide +kernel
theorem dX8_doubtful_20 : decode cX8_doubtful 20 = .ok (.getfield 7, 3) := by decide +kernel
theorem dX8_doubtful_23 : decode cX8_doubtful 23 = .ok (.iconst 0, 1) := by decide +kernel
theorem dX8_doubtful_24 : decode cX8_doubtful 24 = .ok (.iaload, 1) := by decide +kernel
theorem dX8_doubtful_25 : decode cX8_doubtful 25 = .ok (.if_icmp .ge 27, 3) := by decide +kernel
theorem dX8_doubtful_28 : decode cX8_doubtful 28 = .ok (.iload_n 3, 1) := by decide +kernel
theorem dX8_doubtful_29 : decode cX8_doubtful 29 = .ok (.aload_n 0, 1) := by decide +kernel
theorem dX8_doubtful_30 : decode cX8_doubtful 30 = .ok (.iload 4, 2) := by decide +kernel
theorem dX8_doubtful_32 : decode cX8_doubtful 32 = .ok (.iload_n 2, 1) := by decide +kernel
theorem dX8_doubtful_33 : decode cX8_doubtful 33 = .ok (.invokevirtual 167, 3) := by decide +kernel
theorem dX8_doubtful_36 : decode cX8_doubtful 36 = .ok (.ifCond .eq 7, 3) := by decide +kernel
theorem dX8_doubtful_39 : decode cX8_doubtful 39 = .ok (.iconst 1, 1) := by decide +kernel
theorem dX8_doubtful_40 : decode cX8_doubtful 40 = .ok (.goto 4, 3) := by decide +kernel
theorem dX8_doubtful_43 : decode cX8_doubtful 43 = .ok (.iconst 0, 1) := by decide +kernel
theorem dX8_doubtful_44 : decode cX8_doubtful 44 = .ok (.iadd, 1) := by decide +kernel
theorem dX8_doubtful_45 : decode cX8_doubtful 45 = .ok (.istore_n 3, 1) := by decide +kernel
theorem dX8_doubtful_46 : decode cX8_doubtful 46 = .ok (.iinc 4 1, 3) := by decide +kernel
theorem dX8_doubtful_49 : decode cX8_doubtful 49 = .ok (.goto (-32), 3) := by decide +kernel
theorem dX8_doubtful_52 : decode cX8_doubtful 52 = .ok (.iload_n 3, 1) := by decide +kernel
theorem dX8_doubtful_53 : decode cX8_doubtful 53 = .ok (.iload_n 1, 1) := by decide +kernel
theorem dX8_doubtful_54 : decode cX8_doubtful 54 = .ok (.if_icmp .eq 6, 3) := by decide +kernel
theorem dX8_doubtful_57 : decode cX8_doubtful 57 = .ok (.goto 10, 3) := by decide +kernel
theorem dX8_doubtful_60 : decode cX8_doubtful 60 = .ok (.aload_n 0, 1) := by decide +kernel
theorem dX8_doubtful_61 : decode cX8_doubtful 61 = .ok (.iconst 0, 1) := by decide +kernel
theorem dX8_doubtful_62 : decode cX8_doubtful 62 = .ok (.putfield 42, 3) := by decide +kernel
theorem dX8_doubtful_65 : decode cX8_doubtful 65 = .ok (.iload_n 2, 1) := by decide +kernel
theorem dX8_doubtful_66 : decode cX8_doubtful 66 = .ok (.ireturn, 1) := by decide +kernel
theorem dX8_doubtful_67 : decode cX8_doubtful 67 = .ok (.iinc 2 1, 3) := by decide +kernel
theorem dX8_doubtful_70 : decode cX8_doubtful 70 = .ok (.goto (-68), 3) := by decide +kernel
theorem dX8_doubtful_73 : decode cX8_doubtful 73 = .ok (.aload_n 0, 1) := by decide +kernel
theorem dX8_doubtful_74 : decode cX8_doubtful 74 = .ok (.iconst 1, 1) := by decide +kernel
theorem dX8_doubtful_75 : decode cX8_doubtful 75 = .ok (.putfield 42, 3) := by decide +kernel
theorem dX8_doubtful_78 : decode cX8_doubtful 78 = .ok (.iconst 0, 1) := by decide +kernel
theorem dX8_doubtful_79 : decode cX8_doubtful 79 = .ok (.ireturn, 1) := by decide +kernel
theorem dX8_writes_0 : decode cX8_writes 0 = .ok (.aload_n 0, 1) := by decide +kernel
theorem dX8_writes_1 : decode cX8_writes 1 = .ok (.getfield 29, 3) := by decide +kernel
theorem dX8_writes_4 : decode cX8_writes 4 = .ok (.aload_n 0, 1) := by decide +kernel
theorem dX8_writes_5 : decode cX8_writes 5 = .ok (.getfield 170, 3) := by decide +kernel
theorem dX8_writes_8 : decode cX8_writes 8 = .ok (.iload_n 1, 1) := by decide +kernel
theorem dX8_writes_9 : decode cX8_writes 9 = .ok (.i2c, 1) := by decide +kernel
theorem dX8_writes_10 : decode cX8_writes 10 = .ok (.castore, 1) := by decide +kernel
theorem dX8_writes_11 : decode cX8_writes 11 = .ok (.aload_n 0, 1) := by decide +kernel
theorem dX8_writes_12 : decode cX8_writes 12 = .ok (.dup, 1) := by decide +kernel
theorem dX8_writes_13 : decode cX8_writes 13 = .ok (.getfield 170, 3) := by decide +kernel
theorem dX8_writes_16 : decode cX8_writes 16 = .ok (.iconst 1, 1) := by decide +kernel
theorem dX8_writes_17 : decode cX8_writes 17 = .ok (.iadd, 1) := by decide +kernel
theorem dX8_writes_18 : decode cX8_writes 18 = .ok (.putfield 170, 3) := by decide +kernel
theorem dX8_writes_21 : decode cX8_writes 21 = .ok (.return_, 1) := by decide +kernel
theorem dX8_writesNumber_0 : decode cX8_writesNumber 0 = .ok (.iload_n 1, 1) := by decide +kernel
theorem dX8_writesNumber_1 : decode cX8_writesNumber 1 = .ok (.bipush 9, 2) := by decide +kernel
theorem dX8_writesNumber_3 : decode cX8_writesNumber 3 = .ok (.if_icmp .le 11, 3) := by decide +kernel
theorem dX8_writesNumber_6 : decode cX8_writesNumber 6 = .ok (.aload_n 0, 1) := by decide +kernel
theorem dX8_writesNumber_7 : decode cX8_writesNumber 7 = .ok (.iload_n 1, 1) := by decide +kernel
theorem dX8_writesNumber_8 : decode cX8_writesNumber 8 = .ok (.bipush 10, 2) := by decide +kernel
theorem dX8_writesNumber_10 : decode cX8_writesNumber 10 = .ok (.idiv, 1) := by decide +kernel
theorem dX8_writesNumber_11 : decode cX8_writesNumber 11 = .ok (.invokevirtual 173, 3) := by decide +kernel
theorem dX8_writesNumber_14 : decode cX8_writesNumber 14 = .ok (.aload_n 0, 1) := by decide +kernel
theorem dX8_writesNumber_15 : decode cX8_writesNumber 15 = .ok (.bipush 48, 2) := by decide +kernel
theorem dX8_writesNumber_17 : decode cX8_writesNumber 17 = .ok (.iload_n 1, 1) := by decide +kernel
theorem dX8_writesNumber_18 : decode cX8_writesNumber 18 = .ok (.bipush 10, 2) := by decide +kernel
theorem dX8_writesNumber_20 : decode cX8_writesNumber 20 = .ok (.irem, 1) := by decide +kernel
theorem dX8_writesNumber_21 : decode cX8_writesNumber 21 = .ok (.iadd, 1) := by decide +kernel
theorem dX8_writesNumber_22 : decode cX8_writesNumber 22 = .ok (.invokevirtual 177, 3) := by decide +kernel
theorem dX8_writesNumber_25 : decode cX8_writesNumber 25 = .ok (.return_, 1) := by decide +kernel
theorem dX8_line_0 : decode cX8_line 0 = .ok (.aload_n 0, 1) := by decide +kernel
theorem dX8_line_1 : decode cX8_line 1 = .ok (.aload_n 0, 1) := by decide +kernel
theorem dX8_line_2 : decode cX8_line 2 = .ok (.iload_n 1, 1) := by decide +kernel
theorem dX8_line_3 : decode cX8_line 3 = .ok (.invokevirtual 106, 3) := by decide +kernel
theorem dX8_line_6 : decode cX8_line 6 = .ok (.ifCond .eq 7, 3) := by decide +kernel
theorem dX8_line_9 : decode cX8_line 9 = .ok (.iconst 0, 1) := by decide +kernel
theorem dX8_line_10 : decode cX8_line 10 = .ok (.goto 4, 3) := by decide +kernel
theorem dX8_line_13 : decode cX8_line 13 = .ok (.iconst 1, 1) := by decide +kernel
theorem dX8_line_14 : decode cX8_line 14 = .ok (.invokevirtual 73, 3) := by decide +kernel
theorem dX8_line_17 : decode cX8_line 17 = .ok (.ifCond .eq 5, 3) := by decide +kernel
theorem dX8_line_20 : decode cX8_line 20 = .ok (.iconst 0, 1) := by decide +kernel
theorem dX8_line_21 : decode cX8_line 21 = .ok (.ireturn, 1) := by decide +kernel
theorem dX8_line_22 : decode cX8_line 22 = .ok (.aload_n 0, 1) := by decide +kernel
theorem dX8_line_23 : decode cX8_line 23 = .ok (.iconst 0, 1) := by decide +kernel
theorem dX8_line_24 : decode cX8_line 24 = .ok (.putfield 170, 3) := by decide +kernel
theorem dX8_line_27 : decode cX8_line 27 = .ok (.aload_n 0, 1) := by decide +kernel
theorem dX8_line_28 : decode cX8_line 28 = .ok (.iload_n 1, 1) := by decide +kernel
theorem dX8_line_29 : decode cX8_line 29 = .ok (.invokevirtual 173, 3) := by decide +kernel
theorem dX8_line_32 : decode cX8_line 32 = .ok (.aload_n 0, 1) := by decide +kernel
theorem dX8_line_33 : decode cX8_line 33 = .ok (.bipush 58, 2) := by decide +kernel
theorem dX8_line_35 : decode cX8_line 35 = .ok (.invokevirtual 177, 3) := by decide +kernel
theorem dX8_line_38 : decode cX8_line 38 = .ok (.aload_n 0, 1) := by decide +kernel
theorem dX8_line_39 : decode cX8_line 39 = .ok (.aload_n 0, 1) := by decide +kernel
theorem dX8_line_40 : decode cX8_line 40 = .ok (.iload_n 1, 1) := by decide +kernel
theorem dX8_line_41 : decode cX8_line 41 = .ok (.iconst 0, 1) := by decide +kernel
theorem dX8_line_42 : decode cX8_line 42 = .ok (.invokevirtual 69, 3) := by decide +kernel
theorem dX8_line_45 : decode cX8_line 45 = .ok (.invokevirtual 173, 3) := by decide +kernel
theorem dX8_line_48 : decode cX8_line 48 = .ok (.aload_n 0, 1) := by decide +kernel
theorem dX8_line_49 : decode cX8_line 49 = .ok (.bipush 64, 2) := by decide +kernel
theorem dX8_line_51 : decode cX8_line 51 = .ok (.invokevirtual 177, 3) := by decide +kernel
theorem dX8_line_54 : decode cX8_line 54 = .ok (.aload_n 0, 1) := by decide +kernel
theorem dX8_line_55 : decode cX8_line 55 = .ok (.aload_n 0, 1) := by decide +kernel
theorem dX8_line_56 : decode cX8_line 56 = .ok (.iload_n 1, 1) := by decide +kernel
theorem dX8_line_57 : decode cX8_line 57 = .ok (.iconst 1, 1) := by decide +kernel
theorem dX8_line_58 : decode cX8_line 58 = .ok (.invokevirtual 69, 3) := by decide +kernel
theorem dX8_line_61 : decode cX8_line 61 = .ok (.invokevirtual 173, 3) := by decide +kernel
theorem dX8_line_64 : decode cX8_line 64 = .ok (.aload_n 0, 1) := by decide +kernel
theorem dX8_line_65 : decode cX8_line 65 = .ok (.iload_n 1, 1) := by decide +kernel
theorem dX8_line_66 : decode cX8_line 66 = .ok (.iconst 2, 1) := by decide +kernel
theorem dX8_line_67 : decode cX8_line 67 = .ok (.invokevirtual 69, 3) := by decide +kernel
theorem dX8_line_70 : decode cX8_line 70 = .ok (.istore_n 2, 1) := by decide +kernel
theorem dX8_line_71 : decode cX8_line 71 = .ok (.iconst 0, 1) := by decide +kernel
theorem dX8_line_72 : decode cX8_line 72 = .ok (.istore_n 3, 1) := by decide +kernel
theorem dX8_line_73 : decode cX8_line 73 = .ok (.iload_n 3, 1) := by decide +kernel
theorem dX8_line_74 : decode cX8_line 74 = .ok (.aload_n 0, 1) := by decide +kernel
theorem dX8_line_75 : decode cX8_line 75 = .ok (.getfield 7, 3) := by decide +kernel
theorem dX8_line_78 : decode cX8_line 78 = .ok (.iconst 0, 1) := by decide +kernel
theorem dX8_line_79 : decode cX8_line 79 = .ok (.iaload, 1) := by decide +kernel
theorem dX8_line_80 : decode cX8_line 80 = .ok (.if_icmp .ge 44, 3) := by decide +kernel
theorem dX8_line_83 : decode cX8_line 83 = .ok (.iload_n 2, 1) := by decide +kernel
theorem dX8_line_84 : decode cX8_line 84 = .ok (.iload_n 3, 1) := by decide +kernel
theorem dX8_line_85 : decode cX8_line 85 = .ok (.invokestatic 92, 3) := by decide +kernel
theorem dX8_line_88 : decode cX8_line 88 = .ok (.ifCond .ne 6, 3) := by decide +kernel
theorem dX8_line_91 : decode cX8_line 91 = .ok (.goto 27, 3) := by decide +kernel
theorem dX8_line_94 : decode cX8_line 94 = .ok (.aload_n 0, 1) := by decide +kernel
theorem dX8_line_95 : decode cX8_line 95 = .ok (.iload_n 3, 1) := by decide +kernel
theorem dX8_line_96 : decode cX8_line 96 = .ok (.iload_n 2, 1) := by decide +kernel
theorem dX8_line_97 : decode cX8_line 97 = .ok (.invokestatic 109, 3) := by decide +kernel
theorem dX8_line_100 : decode cX8_line 100 = .ok (.if_icmp .ne 8, 3) := by decide +kernel
theorem dX8_line_103 : decode cX8_line 103 = .ok (.bipush 91, 2) := by decide +kernel
theorem dX8_line_105 : decode cX8_line 105 = .ok (.goto 5, 3) := by decide +kernel
theorem dX8_line_108 : decode cX8_line 108 = .ok (.bipush 44, 2) := by decide +kernel
theorem dX8_line_110 : decode cX8_line 110 = .ok (.invokevirtual 177, 3) := by decide +kernel
theorem dX8_line_113 : decode cX8_line 113 = .ok (.aload_n 0, 1) := by decide +kernel
theorem dX8_line_114 : decode cX8_line 114 = .ok (.iload_n 3, 1) := by decide +kernel
theorem dX8_line_115 : decode cX8_line 115 = .ok (.invokevirtual 173, 3) := by decide +kernel
theorem dX8_line_118 : decode cX8_line 118 = .ok (.iinc 3 1, 3) := by decide +kernel
theorem dX8_line_121 : decode cX8_line 121 = .ok (.goto (-48), 3) := by decide +kernel
theorem dX8_line_124 : decode cX8_line 124 = .ok (.iload_n 2, 1) := by decide +kernel
theorem dX8_line_125 : decode cX8_line 125 = .ok (.ifCond .eq 9, 3) := by decide +kernel
theorem dX8_line_128 : decode cX8_line 128 = .ok (.aload_n 0, 1) := by decide +kernel
theorem dX8_line_129 : decode cX8_line 129 = .ok (.bipush 93, 2) := by decide +kernel
theorem dX8_line_131 : decode cX8_line 131 = .ok (.invokevirtual 177, 3) := by decide +kernel
theorem dX8_line_134 : decode cX8_line 134 = .ok (.aload_n 0, 1) := by decide +kernel
theorem dX8_line_135 : decode cX8_line 135 = .ok (.iload_n 1, 1) := by decide +kernel
theorem dX8_line_136 : decode cX8_line 136 = .ok (.iconst 3, 1) := by decide +kernel
theorem dX8_line_137 : decode cX8_line 137 = .ok (.invokevirtual 69, 3) := by decide +kernel
theorem dX8_line_140 : decode cX8_line 140 = .ok (.ifCond .le 24, 3) := by decide +kernel
theorem dX8_line_143 : decode cX8_line 143 = .ok (.aload_n 0, 1) := by decide +kernel
theorem dX8_line_144 : decode cX8_line 144 = .ok (.aload_n 0, 1) := by decide +kernel
theorem dX8_line_145 : decode cX8_line 145 = .ok (.iload_n 1, 1) := by decide +kernel
theorem dX8_line_146 : decode cX8_line 146 = .ok (.iconst 3, 1) := by decide +kernel
theorem dX8_line_147 : decode cX8_line 147 = .ok (.invokevirtual 69, 3) := by decide +kernel
theorem dX8_line_150 : decode cX8_line 150 = .ok (.iconst 1, 1) := by decide +kernel
theorem dX8_line_151 : decode cX8_line 151 = .ok (.if_icmp .ne 8, 3) := by decide +kernel
theorem dX8_line_154 : decode cX8_line 154 = .ok (.bipush 43, 2) := by decide +kernel
theorem dX8_line_156 : decode cX8_line 156 = .ok (.goto 5, 3) := by decide +kernel
theorem dX8_line_159 : decode cX8_line 159 = .ok (.bipush 45, 2) := by decide +kernel
theorem dX8_line_161 : decode cX8_line 161 = .ok (.invokevirtual 177, 3) := by decide +kernel
theorem dX8_line_164 : decode cX8_line 164 = .ok (.aload_n 0, 1) := by decide +kernel
theorem dX8_line_165 : decode cX8_line 165 = .ok (.iload_n 1, 1) := by decide +kernel
theorem dX8_line_166 : decode cX8_line 166 = .ok (.invokevirtual 89, 3) := by decide +kernel
theorem dX8_line_169 : decode cX8_line 169 = .ok (.ifCond .eq 9, 3) := by decide +kernel
theorem dX8_line_172 : decode cX8_line 172 = .ok (.aload_n 0, 1) := by decide +kernel
theorem dX8_line_173 : decode cX8_line 173 = .ok (.bipush 33, 2) := by decide +kernel
theorem dX8_line_175 : decode cX8_line 175 = .ok (.invokevirtual 177, 3) := by decide +kernel
theorem dX8_line_178 : decode cX8_line 178 = .ok (.aload_n 0, 1) := by decide +kernel
theorem dX8_line_179 : decode cX8_line 179 = .ok (.getfield 170, 3) := by decide +kernel
theorem dX8_line_182 : decode cX8_line 182 = .ok (.ireturn, 1) := by decide +kernel
theorem dX8_rollLine_0 : decode cX8_rollLine 0 = .ok (.aload_n 0, 1) := by decide +kernel
theorem dX8_rollLine_1 : decode cX8_rollLine 1 = .ok (.iconst 0, 1) := by decide +kernel
theorem dX8_rollLine_2 : decode cX8_rollLine 2 = .ok (.putfield 42, 3) := by decide +kernel
theorem dX8_rollLine_5 : decode cX8_rollLine 5 = .ok (.aload_n 0, 1) := by decide +kernel
theorem dX8_rollLine_6 : decode cX8_rollLine 6 = .ok (.iconst 0, 1) := by decide +kernel
theorem dX8_rollLine_7 : decode cX8_rollLine 7 = .ok (.putfield 170, 3) := by decide +kernel
theorem dX8_rollLine_10 : decode cX8_rollLine 10 = .ok (.iconst 0, 1) := by decide +kernel
theorem dX8_rollLine_11 : decode cX8_rollLine 11 = .ok (.istore_n 1, 1) := by decide +kernel
theorem dX8_rollLine_12 : decode cX8_rollLine 12 = .ok (.iload_n 1, 1) := by decide +kernel
theorem dX8_rollLine_13 : decode cX8_rollLine 13 = .ok (.aload_n 0, 1) := by decide +kernel
theorem dX8_rollLine_14 : decode cX8_rollLine 14 = .ok (.invokevirtual 154, 3) := by decide +kernel
theorem dX8_rollLine_17 : decode cX8_rollLine 17 = .ok (.if_icmp .ge 28, 3) := by decide +kernel
theorem dX8_rollLine_20 : decode cX8_rollLine 20 = .ok (.iload_n 1, 1) := by decide +kernel
theorem dX8_rollLine_21 : decode cX8_rollLine 21 = .ok (.ifCond .le 9, 3) := by decide +kernel
theorem dX8_rollLine_24 : decode cX8_rollLine 24 = .ok (.aload_n 0, 1) := by decide +kernel
theorem dX8_rollLine_25 : decode cX8_rollLine 25 = .ok (.bipush 32, 2) := by decide +kernel
theorem dX8_rollLine_27 : decode cX8_rollLine 27 = .ok (.invokevirtual 177, 3) := by decide +kernel
theorem dX8_rollLine_30 : decode cX8_rollLine 30 = .ok (.aload_n 0, 1) := by decide +kernel
theorem dX8_rollLine_31 : decode cX8_rollLine 31 = .ok (.aload_n 0, 1) := by decide +kernel
theorem dX8_rollLine_32 : decode cX8_rollLine 32 = .ok (.iload_n 1, 1) := by decide +kernel
theorem dX8_rollLine_33 : decode cX8_rollLine 33 = .ok (.invokevirtual 158, 3) := by decide +kernel
theorem dX8_rollLine_36 : decode cX8_rollLine 36 = .ok (.invokevirtual 173, 3) := by decide +kernel
theorem dX8_rollLine_39 : decode cX8_rollLine 39 = .ok (.iinc 1 1, 3) := by decide +kernel
theorem dX8_rollLine_42 : decode cX8_rollLine 42 = .ok (.goto (-30), 3) := by decide +kernel
theorem dX8_rollLine_45 : decode cX8_rollLine 45 = .ok (.aload_n 0, 1) := by decide +kernel
theorem dX8_rollLine_46 : decode cX8_rollLine 46 = .ok (.getfield 170, 3) := by decide +kernel
theorem dX8_rollLine_49 : decode cX8_rollLine 49 = .ok (.ireturn, 1) := by decide +kernel
theorem dX8_character_0 : decode cX8_character 0 = .ok (.aload_n 0, 1) := by decide +kernel
theorem dX8_character_1 : decode cX8_character 1 = .ok (.iload_n 1, 1) := by decide +kernel
theorem dX8_character_2 : decode cX8_character 2 = .ok (.iconst 0, 1) := by decide +kernel
theorem dX8_character_3 : decode cX8_character 3 = .ok (.aload_n 0, 1) := by decide +kernel
theorem dX8_character_4 : decode cX8_character 4 = .ok (.getfield 170, 3) := by decide +kernel
theorem dX8_character_7 : decode cX8_character 7 = .ok (.iconst 1, 1) := by decide +kernel
theorem dX8_character_8 : decode cX8_character 8 = .ok (.isub, 1) := by decide +kernel
theorem dX8_character_9 : decode cX8_character 9 = .ok (.invokestatic 65, 3) := by decide +kernel
theorem dX8_character_12 : decode cX8_character 12 = .ok (.ifCond .eq 7, 3) := by decide +kernel
theorem dX8_character_15 : decode cX8_character 15 = .ok (.iconst 0, 1) := by decide +kernel
theorem dX8_character_16 : decode cX8_character 16 = .ok (.goto 4, 3) := by decide +kernel
theorem dX8_character_19 : decode cX8_character 19 = .ok (.iconst 1, 1) := by decide +kernel
theorem dX8_character_20 : decode cX8_character 20 = .ok (.invokevirtual 73, 3) := by decide +kernel
theorem dX8_character_23 : decode cX8_character 23 = .ok (.ifCond .eq 8, 3) := by decide +kernel
theorem dX8_character_26 : decode cX8_character 26 = .ok (.bipush 32, 2) := by decide +kernel
theorem dX8_character_28 : decode cX8_character 28 = .ok (.goto 9, 3) := by decide +kernel
theorem dX8_character_31 : decode cX8_character 31 = .ok (.aload_n 0, 1) := by decide +kernel
theorem dX8_character_32 : decode cX8_character 32 = .ok (.getfield 29, 3) := by decide +kernel
theorem dX8_character_35 : decode cX8_character 35 = .ok (.iload_n 1, 1) := by decide +kernel
theorem dX8_character_36 : decode cX8_character 36 = .ok (.caload, 1) := by decide +kernel
theorem dX8_character_37 : decode cX8_character 37 = .ok (.ireturn, 1) := by decide +kernel
theorem dX8_append_0 : decode cX8_append 0 = .ok (.aload_n 0, 1) := by decide +kernel
theorem dX8_append_1 : decode cX8_append 1 = .ok (.aload_n 0, 1) := by decide +kernel
theorem dX8_append_2 : decode cX8_append 2 = .ok (.getfield 180, 3) := by decide +kernel
theorem dX8_append_5 : decode cX8_append 5 = .ok (.bipush 60, 2) := by decide +kernel
theorem dX8_append_7 : decode cX8_append 7 = .ok (.if_icmp .ne 7, 3) := by decide +kernel
theorem dX8_append_10 : decode cX8_append 10 = .ok (.iconst 1, 1) := by decide +kernel
theorem dX8_append_11 : decode cX8_append 11 = .ok (.goto 4, 3) := by decide +kernel
theorem dX8_append_14 : decode cX8_append 14 = .ok (.iconst 0, 1) := by decide +kernel
theorem dX8_append_15 : decode cX8_append 15 = .ok (.invokevirtual 73, 3) := by decide +kernel
theorem dX8_append_18 : decode cX8_append 18 = .ok (.ifCond .eq 5, 3) := by decide +kernel
theorem dX8_append_21 : decode cX8_append 21 = .ok (.iconst 0, 1) := by decide +kernel
theorem dX8_append_22 : decode cX8_append 22 = .ok (.ireturn, 1) := by decide +kernel
theorem dX8_append_23 : decode cX8_append 23 = .ok (.aload_n 0, 1) := by decide +kernel
theorem dX8_append_24 : decode cX8_append 24 = .ok (.getfield 22, 3) := by decide +kernel
theorem dX8_append_27 : decode cX8_append 27 = .ok (.aload_n 0, 1) := by decide +kernel
theorem dX8_append_28 : decode cX8_append 28 = .ok (.getfield 180, 3) := by decide +kernel
theorem dX8_append_31 : decode cX8_append 31 = .ok (.iload_n 1, 1) := by decide +kernel
theorem dX8_append_32 : decode cX8_append 32 = .ok (.iastore, 1) := by decide +kernel
theorem dX8_append_33 : decode cX8_append 33 = .ok (.aload_n 0, 1) := by decide +kernel
theorem dX8_append_34 : decode cX8_append 34 = .ok (.dup, 1) := by decide +kernel
theorem dX8_append_35 : decode cX8_append 35 = .ok (.getfield 180, 3) := by decide +kernel
theorem dX8_append_38 : decode cX8_append 38 = .ok (.iconst 1, 1) := by decide +kernel
theorem dX8_append_39 : decode cX8_append 39 = .ok (.iadd, 1) := by decide +kernel
theorem dX8_append_40 : decode cX8_append 40 = .ok (.putfield 180, 3) := by decide +kernel
theorem dX8_append_43 : decode cX8_append 43 = .ok (.aload_n 0, 1) := by decide +kernel
theorem dX8_append_44 : decode cX8_append 44 = .ok (.getfield 180, 3) := by decide +kernel
theorem dX8_append_47 : decode cX8_append 47 = .ok (.ireturn, 1) := by decide +kernel
theorem dX8_here_0 : decode cX8_here 0 = .ok (.aload_n 0, 1) := by decide +kernel
theorem dX8_here_1 : decode cX8_here 1 = .ok (.getfield 183, 3) := by decide +kernel
theorem dX8_here_4 : decode cX8_here 4 = .ok (.aload_n 0, 1) := by decide +kernel
theorem dX8_here_5 : decode cX8_here 5 = .ok (.getfield 180, 3) := by decide +kernel
theorem dX8_here_8 : decode cX8_here 8 = .ok (.if_icmp .ge 15, 3) := by decide +kernel
theorem dX8_here_11 : decode cX8_here 11 = .ok (.aload_n 0, 1) := by decide +kernel
theorem dX8_here_12 : decode cX8_here 12 = .ok (.getfield 22, 3) := by decide +kernel
theorem dX8_here_15 : decode cX8_here 15 = .ok (.aload_n 0, 1) := by decide +kernel
theorem dX8_here_16 : decode cX8_here 16 = .ok (.getfield 183, 3) := by decide +kernel
theorem dX8_here_19 : decode cX8_here 19 = .ok (.iaload, 1) := by decide +kernel
theorem dX8_here_20 : decode cX8_here 20 = .ok (.goto 4, 3) := by decide +kernel
theorem dX8_here_23 : decode cX8_here 23 = .ok (.iconst (-1), 1) := by decide +kernel
theorem dX8_here_24 : decode cX8_here 24 = .ok (.ireturn, 1) := by decide +kernel
theorem dX8_skips_0 : decode cX8_skips 0 = .ok (.aload_n 0, 1) := by decide +kernel
theorem dX8_skips_1 : decode cX8_skips 1 = .ok (.invokevirtual 186, 3) := by decide +kernel
theorem dX8_skips_4 : decode cX8_skips 4 = .ok (.iload_n 1, 1) := by decide +kernel
theorem dX8_skips_5 : decode cX8_skips 5 = .ok (.if_icmp .eq 5, 3) := by decide +kernel
theorem dX8_skips_8 : decode cX8_skips 8 = .ok (.iconst 0, 1) := by decide +kernel
theorem dX8_skips_9 : decode cX8_skips 9 = .ok (.ireturn, 1) := by decide +kernel
theorem dX8_skips_10 : decode cX8_skips 10 = .ok (.aload_n 0, 1) := by decide +kernel
theorem dX8_skips_11 : decode cX8_skips 11 = .ok (.dup, 1) := by decide +kernel
theorem dX8_skips_12 : decode cX8_skips 12 = .ok (.getfield 183, 3) := by decide +kernel
theorem dX8_skips_15 : decode cX8_skips 15 = .ok (.iconst 1, 1) := by decide +kernel
theorem dX8_skips_16 : decode cX8_skips 16 = .ok (.iadd, 1) := by decide +kernel
theorem dX8_skips_17 : decode cX8_skips 17 = .ok (.putfield 183, 3) := by decide +kernel
theorem dX8_skips_20 : decode cX8_skips 20 = .ok (.iconst 1, 1) := by decide +kernel
theorem dX8_skips_21 : decode cX8_skips 21 = .ok (.ireturn, 1) := by decide +kernel
theorem dX8_isWord_0 : decode cX8_isWord 0 = .ok (.iconst 0, 1) := by decide +kernel
theorem dX8_isWord_1 : decode cX8_isWord 1 = .ok (.istore_n 2, 1) := by decide +kernel
theorem dX8_isWord_2 : decode cX8_isWord 2 = .ok (.iload_n 2, 1) := by decide +kernel
theorem dX8_isWord_3 : decode cX8_isWord 3 = .ok (.aload_n 1, 1) := by decide +kernel
theorem dX8_isWord_4 : decode cX8_isWord 4 = .ok (.invokevirtual 189, 3) := by decide +kernel
theorem dX8_isWord_7 : decode cX8_isWord 7 = .ok (.if_icmp .ge 23, 3) := by decide +kernel
theorem dX8_isWord_10 : decode cX8_isWord 10 = .ok (.aload_n 0, 1) := by decide +kernel
theorem dX8_isWord_11 : decode cX8_isWord 11 = .ok (.aload_n 1, 1) := by decide +kernel
theorem dX8_isWord_12 : decode cX8_isWord 12 = .ok (.iload_n 2, 1) := by decide +kernel
theorem dX8_isWord_13 : decode cX8_isWord 13 = .ok (.invokevirtual 193, 3) := by decide +kernel
theorem dX8_isWord_16 : decode cX8_isWord 16 = .ok (.invokevirtual 197, 3) := by decide +kernel
theorem dX8_isWord_19 : decode cX8_isWord 19 = .ok (.ifCond .ne 5, 3) := by decide +kernel
theorem dX8_isWord_22 : decode cX8_isWord 22 = .ok (.iconst 0, 1) := by decide +kernel
theorem dX8_isWord_23 : decode cX8_isWord 23 = .ok (.ireturn, 1) := by decide +kernel
theorem dX8_isWord_24 : decode cX8_isWord 24 = .ok (.iinc 2 1, 3) := by decide +kernel
theorem dX8_isWord_27 : decode cX8_isWord 27 = .ok (.goto (-25), 3) := by decide +kernel
theorem dX8_isWord_30 : decode cX8_isWord 30 = .ok (.iconst 1, 1) := by decide +kernel
theorem dX8_isWord_31 : decode cX8_isWord 31 = .ok (.ireturn, 1) := by decide +kernel
theorem dX8_figures_0 : decode cX8_figures 0 = .ok (.aload_n 0, 1) := by decide +kernel
theorem dX8_figures_1 : decode cX8_figures 1 = .ok (.invokevirtual 186, 3) := by decide +kernel
theorem dX8_figures_4 : decode cX8_figures 4 = .ok (.bipush 48, 2) := by decide +kernel
theorem dX8_figures_6 : decode cX8_figures 6 = .ok (.bipush 57, 2) := by decide +kernel
theorem dX8_figures_8 : decode cX8_figures 8 = .ok (.invokestatic 65, 3) := by decide +kernel
theorem dX8_figures_11 : decode cX8_figures 11 = .ok (.ifCond .ne 5, 3) := by decide +kernel
theorem dX8_figures_14 : decode cX8_figures 14 = .ok (.iconst 0, 1) := by decide +kernel
theorem dX8_figures_15 : decode cX8_figures 15 = .ok (.ireturn, 1) := by decide +kernel
theorem dX8_figures_16 : decode cX8_figures 16 = .ok (.aload_n 0, 1) := by decide +kernel
theorem dX8_figures_17 : decode cX8_figures 17 = .ok (.getfield 39, 3) := by decide +kernel
theorem dX8_figures_20 : decode cX8_figures 20 = .ok (.iload_n 1, 1) := by decide +kernel
theorem dX8_figures_21 : decode cX8_figures 21 = .ok (.iconst 0, 1) := by decide +kernel
theorem dX8_figures_22 : decode cX8_figures 22 = .ok (.iastore, 1) := by decide +kernel
theorem dX8_figures_23 : decode cX8_figures 23 = .ok (.iconst 0, 1) := by decide +kernel
theorem dX8_figures_24 : decode cX8_figures 24 = .ok (.istore_n 3, 1) := by decide +kernel
theorem dX8_figures_25 : decode cX8_figures 25 = .ok (.iload_n 3, 1) := by decide +kernel
theorem dX8_figures_26 : decode cX8_figures 26 = .ok (.iload_n 2, 1) := by decide +kernel
theorem dX8_figures_27 : decode cX8_figures 27 = .ok (.if_icmp .ge 56, 3) := by decide +kernel
theorem dX8_figures_30 : decode cX8_figures 30 = .ok (.aload_n 0, 1) := by decide +kernel
theorem dX8_figures_31 : decode cX8_figures 31 = .ok (.invokevirtual 186, 3) := by decide +kernel
theorem dX8_figures_34 : decode cX8_figures 34 = .ok (.bipush 48, 2) := by decide +kernel
theorem dX8_figures_36 : decode cX8_figures 36 = .ok (.bipush 57, 2) := by decide +kernel
theorem dX8_figures_38 : decode cX8_figures 38 = .ok (.invokestatic 65, 3) := by decide +kernel
theorem dX8_figures_41 : decode cX8_figures 41 = .ok (.ifCond .eq 42, 3) := by decide +kernel
theorem dX8_figures_44 : decode cX8_figures 44 = .ok (.aload_n 0, 1) := by decide +kernel
theorem dX8_figures_45 : decode cX8_figures 45 = .ok (.getfield 39, 3) := by decide +kernel
theorem dX8_figures_48 : decode cX8_figures 48 = .ok (.iload_n 1, 1) := by decide +kernel
theorem dX8_figures_49 : decode cX8_figures 49 = .ok (.bipush 10, 2) := by decide +kernel
theorem dX8_figures_51 : decode cX8_figures 51 = .ok (.aload_n 0, 1) := by decide +kernel
theorem dX8_figures_52 : decode cX8_figures 52 = .ok (.getfield 39, 3) := by decide +kernel
theorem dX8_figures_55 : decode cX8_figures 55 = .ok (.iload_n 1, 1) := by decide +kernel
theorem dX8_figures_56 : decode cX8_figures 56 = .ok (.iaload, 1) := by decide +kernel
theorem dX8_figures_57 : decode cX8_figures 57 = .ok (.imul, 1) := by decide +kernel
theorem dX8_figures_58 : decode cX8_figures 58 = .ok (.aload_n 0, 1) := by decide +kernel
theorem dX8_figures_59 : decode cX8_figures 59 = .ok (.invokevirtual 186, 3) := by decide +kernel
theorem dX8_figures_62 : decode cX8_figures 62 = .ok (.iadd, 1) := by decide +kernel
theorem dX8_figures_63 : decode cX8_figures 63 = .ok (.bipush 48, 2) := by decide +kernel
theorem dX8_figures_65 : decode cX8_figures 65 = .ok (.isub, 1) := by decide +kernel
theorem dX8_figures_66 : decode cX8_figures 66 = .ok (.iastore, 1) := by decide +kernel
theorem dX8_figures_67 : decode cX8_figures 67 = .ok (.aload_n 0, 1) := by decide +kernel
theorem dX8_figures_68 : decode cX8_figures 68 = .ok (.dup, 1) := by decide +kernel
theorem dX8_figures_69 : decode cX8_figures 69 = .ok (.getfield 183, 3) := by decide +kernel
theorem dX8_figures_72 : decode cX8_figures 72 = .ok (.iconst 1, 1) := by decide +kernel
theorem dX8_figures_73 : decode cX8_figures 73 = .ok (.iadd, 1) := by decide +kernel
theorem dX8_figures_74 : decode cX8_figures 74 = .ok (.putfield 183, 3) := by decide +kernel
theorem dX8_figures_77 : decode cX8_figures 77 = .ok (.iinc 3 1, 3) := by decide +kernel
theorem dX8_figures_80 : decode cX8_figures 80 = .ok (.goto (-55), 3) := by decide +kernel
theorem dX8_figures_83 : decode cX8_figures 83 = .ok (.iconst 1, 1) := by decide +kernel
theorem dX8_figures_84 : decode cX8_figures 84 = .ok (.ireturn, 1) := by decide +kernel
theorem dX8_leaningHere_0 : decode cX8_leaningHere 0 = .ok (.aload_n 0, 1) := by decide +kernel
theorem dX8_leaningHere_1 : decode cX8_leaningHere 1 = .ok (.bipush 45, 2) := by decide +kernel
theorem dX8_leaningHere_3 : decode cX8_leaningHere 3 = .ok (.invokevirtual 197, 3) := by decide +kernel
theorem dX8_leaningHere_6 : decode cX8_leaningHere 6 = .ok (.istore_n 2, 1) := by decide +kernel
theorem dX8_leaningHere_7 : decode cX8_leaningHere 7 = .ok (.aload_n 0, 1) := by decide +kernel
theorem dX8_leaningHere_8 : decode cX8_leaningHere 8 = .ok (.iload_n 1, 1) := by decide +kernel
theorem dX8_leaningHere_9 : decode cX8_leaningHere 9 = .ok (.iconst 1, 1) := by decide +kernel
theorem dX8_leaningHere_10 : decode cX8_leaningHere 10 = .ok (.invokevirtual 200, 3) := by decide +kernel
theorem dX8_leaningHere_13 : decode cX8_leaningHere 13 = .ok (.ifCond .ne 5, 3) := by decide +kernel
theorem dX8_leaningHere_16 : decode cX8_leaningHere 16 = .ok (.iconst 0, 1) := by decide +kernel
theorem dX8_leaningHere_17 : decode cX8_leaningHere 17 = .ok (.ireturn, 1) := by decide +kernel
theorem dX8_leaningHere_18 : decode cX8_leaningHere 18 = .ok (.aload_n 0, 1) := by decide +kernel
theorem dX8_leaningHere_19 : decode cX8_leaningHere 19 = .ok (.getfield 39, 3) := by decide +kernel
theorem dX8_leaningHere_22 : decode cX8_leaningHere 22 = .ok (.iload_n 1, 1) := by decide +kernel
theorem dX8_leaningHere_23 : decode cX8_leaningHere 23 = .ok (.iload_n 2, 1) := by decide +kernel
theorem dX8_leaningHere_24 : decode cX8_leaningHere 24 = .ok (.ifCond .eq 13, 3) := by decide +kernel
theorem dX8_leaningHere_27 : decode cX8_leaningHere 27 = .ok (.aload_n 0, 1) := by decide +kernel
theorem dX8_leaningHere_28 : decode cX8_leaningHere 28 = .ok (.getfield 39, 3) := by decide +kernel
theorem dX8_leaningHere_31 : decode cX8_leaningHere 31 = .ok (.iload_n 1, 1) := by decide +kernel
theorem dX8_leaningHere_32 : decode cX8_leaningHere 32 = .ok (.iaload, 1) := by decide +kernel
theorem dX8_leaningHere_33 : decode cX8_leaningHere 33 = .ok (.ineg, 1) := by decide +kernel
theorem dX8_leaningHere_34 : decode cX8_leaningHere 34 = .ok (.goto 9, 3) := by decide +kernel
theorem dX8_leaningHere_37 : decode cX8_leaningHere 37 = .ok (.aload_n 0, 1) := by decide +kernel
theorem dX8_leaningHere_38 : decode cX8_leaningHere 38 = .ok (.getfield 39, 3) := by decide +kernel
theorem dX8_leaningHere_41 : decode cX8_leaningHere 41 = .ok (.iload_n 1, 1) := by decide +kernel
theorem dX8_leaningHere_42 : decode cX8_leaningHere 42 = .ok (.iaload, 1) := by decide +kernel
theorem dX8_leaningHere_43 : decode cX8_leaningHere 43 = .ok (.iastore, 1) := by decide +kernel
theorem dX8_leaningHere_44 : decode cX8_leaningHere 44 = .ok (.iconst 1, 1) := by decide +kernel
theorem dX8_leaningHere_45 : decode cX8_leaningHere 45 = .ok (.ireturn, 1) := by decide +kernel
theorem dX8_hasOrder_0 : decode cX8_hasOrder 0 = .ok (.aload_n 0, 1) := by decide +kernel
theorem dX8_hasOrder_1 : decode cX8_hasOrder 1 = .ok (.getfield 39, 3) := by decide +kernel
theorem dX8_hasOrder_4 : decode cX8_hasOrder 4 = .ok (.iconst 3, 1) := by decide +kernel
theorem dX8_hasOrder_5 : decode cX8_hasOrder 5 = .ok (.aload_n 0, 1) := by decide +kernel
theorem dX8_hasOrder_6 : decode cX8_hasOrder 6 = .ok (.getfield 203, 3) := by decide +kernel
theorem dX8_hasOrder_9 : decode cX8_hasOrder 9 = .ok (.imul, 1) := by decide +kernel
theorem dX8_hasOrder_10 : decode cX8_hasOrder 10 = .ok (.iload_n 1, 1) := by decide +kernel
theorem dX8_hasOrder_11 : decode cX8_hasOrder 11 = .ok (.iastore, 1) := by decide +kernel
theorem dX8_hasOrder_12 : decode cX8_hasOrder 12 = .ok (.iconst 1, 1) := by decide +kernel
theorem dX8_hasOrder_13 : decode cX8_hasOrder 13 = .ok (.ireturn, 1) := by decide +kernel
theorem dX8_orderHere_0 : decode cX8_orderHere 0 = .ok (.iconst 3, 1) := by decide +kernel
theorem dX8_orderHere_1 : decode cX8_orderHere 1 = .ok (.aload_n 0, 1) := by decide +kernel
theorem dX8_orderHere_2 : decode cX8_orderHere 2 = .ok (.getfield 203, 3) := by decide +kernel
theorem dX8_orderHere_5 : decode cX8_orderHere 5 = .ok (.imul, 1) := by decide +kernel
theorem dX8_orderHere_6 : decode cX8_orderHere 6 = .ok (.istore_n 1, 1) := by decide +kernel
theorem dX8_orderHere_7 : decode cX8_orderHere 7 = .ok (.aload_n 0, 1) := by decide +kernel
theorem dX8_orderHere_8 : decode cX8_orderHere 8 = .ok (.bipush 106, 2) := by decide +kernel
theorem dX8_orderHere_10 : decode cX8_orderHere 10 = .ok (.invokevirtual 197, 3) := by decide +kernel
theorem dX8_orderHere_13 : decode cX8_orderHere 13 = .ok (.ifCond .eq 56, 3) := by decide +kernel
theorem dX8_orderHere_16 : decode cX8_orderHere 16 = .ok (.aload_n 0, 1) := by decide +kernel
theorem dX8_orderHere_17 : decode cX8_orderHere 17 = .ok (.iconst 0, 1) := by decide +kernel
theorem dX8_orderHere_18 : decode cX8_orderHere 18 = .ok (.invokevirtual 206, 3) := by decide +kernel
theorem dX8_orderHere_21 : decode cX8_orderHere 21 = .ok (.ifCond .eq 46, 3) := by decide +kernel
theorem dX8_orderHere_24 : decode cX8_orderHere 24 = .ok (.aload_n 0, 1) := by decide +kernel
theorem dX8_orderHere_25 : decode cX8_orderHere 25 = .ok (.ldc 209, 2) := by decide +kernel
theorem dX8_orderHere_27 : decode cX8_orderHere 27 = .ok (.invokevirtual 211, 3) := by decide +kernel
theorem dX8_orderHere_30 : decode cX8_orderHere 30 = .ok (.ifCond .eq 37, 3) := by decide +kernel
theorem dX8_orderHere_33 : decode cX8_orderHere 33 = .ok (.aload_n 0, 1) := by decide +kernel
theorem dX8_orderHere_34 : decode cX8_orderHere 34 = .ok (.iload_n 1, 1) := by decide +kernel
theorem dX8_orderHere_35 : decode cX8_orderHere 35 = .ok (.iconst 1, 1) := by decide +kernel
theorem dX8_orderHere_36 : decode cX8_orderHere 36 = .ok (.iadd, 1) := by decide +kernel
theorem dX8_orderHere_37 : decode cX8_orderHere 37 = .ok (.invokevirtual 215, 3) := by decide +kernel
theorem dX8_orderHere_40 : decode cX8_orderHere 40 = .ok (.ifCond .eq 27, 3) := by decide +kernel
theorem dX8_orderHere_43 : decode cX8_orderHere 43 = .ok (.aload_n 0, 1) := by decide +kernel
theorem dX8_orderHere_44 : decode cX8_orderHere 44 = .ok (.bipush 32, 2) := by decide +kernel
theorem dX8_orderHere_46 : decode cX8_orderHere 46 = .ok (.invokevirtual 197, 3) := by decide +kernel
theorem dX8_orderHere_49 : decode cX8_orderHere 49 = .ok (.ifCond .eq 18, 3) := by decide +kernel
theorem dX8_orderHere_52 : decode cX8_orderHere 52 = .ok (.aload_n 0, 1) := by decide +kernel
theorem dX8_orderHere_53 : decode cX8_orderHere 53 = .ok (.iload_n 1, 1) := by decide +kernel
theorem dX8_orderHere_54 : decode cX8_orderHere 54 = .ok (.iconst 2, 1) := by decide +kernel
theorem dX8_orderHere_55 : decode cX8_orderHere 55 = .ok (.iadd, 1) := by decide +kernel
theorem dX8_orderHere_56 : decode cX8_orderHere 56 = .ok (.iconst 1, 1) := by decide +kernel
theorem dX8_orderHere_57 : decode cX8_orderHere 57 = .ok (.invokevirtual 200, 3) := by decide +kernel
theorem dX8_orderHere_60 : decode cX8_orderHere 60 = .ok (.ifCond .eq 7, 3) := by decide +kernel
theorem dX8_orderHere_63 : decode cX8_orderHere 63 = .ok (.iconst 1, 1) := by decide +kernel
theorem dX8_orderHere_64 : decode cX8_orderHere 64 = .ok (.goto 4, 3) := by decide +kernel
theorem dX8_orderHere_67 : decode cX8_orderHere 67 = .ok (.iconst 0, 1) := by decide +kernel
theorem dX8_orderHere_68 : decode cX8_orderHere 68 = .ok (.ireturn, 1) := by decide +kernel
theorem dX8_orderHere_69 : decode cX8_orderHere 69 = .ok (.aload_n 0, 1) := by decide +kernel
theorem dX8_orderHere_70 : decode cX8_orderHere 70 = .ok (.bipush 118, 2) := by decide +kernel
theorem dX8_orderHere_72 : decode cX8_orderHere 72 = .ok (.invokevirtual 197, 3) := by decide +kernel
theorem dX8_orderHere_75 : decode cX8_orderHere 75 = .ok (.ifCond .eq 37, 3) := by decide +kernel
theorem dX8_orderHere_78 : decode cX8_orderHere 78 = .ok (.aload_n 0, 1) := by decide +kernel
theorem dX8_orderHere_79 : decode cX8_orderHere 79 = .ok (.iconst 3, 1) := by decide +kernel
theorem dX8_orderHere_80 : decode cX8_orderHere 80 = .ok (.invokevirtual 206, 3) := by decide +kernel
theorem dX8_orderHere_83 : decode cX8_orderHere 83 = .ok (.ifCond .eq 27, 3) := by decide +kernel
theorem dX8_orderHere_86 : decode cX8_orderHere 86 = .ok (.aload_n 0, 1) := by decide +kernel
theorem dX8_orderHere_87 : decode cX8_orderHere 87 = .ok (.ldc 218, 2) := by decide +kernel
theorem dX8_orderHere_89 : decode cX8_orderHere 89 = .ok (.invokevirtual 211, 3) := by decide +kernel
theorem dX8_orderHere_92 : decode cX8_orderHere 92 = .ok (.ifCond .eq 18, 3) := by decide +kernel
theorem dX8_orderHere_95 : decode cX8_orderHere 95 = .ok (.aload_n 0, 1) := by decide +kernel
theorem dX8_orderHere_96 : decode cX8_orderHere 96 = .ok (.iload_n 1, 1) := by decide +kernel
theorem dX8_orderHere_97 : decode cX8_orderHere 97 = .ok (.iconst 1, 1) := by decide +kernel
theorem dX8_orderHere_98 : decode cX8_orderHere 98 = .ok (.iadd, 1) := by decide +kernel
theorem dX8_orderHere_99 : decode cX8_orderHere 99 = .ok (.iconst 1, 1) := by decide +kernel
theorem dX8_orderHere_100 : decode cX8_orderHere 100 = .ok (.invokevirtual 200, 3) := by decide +kernel
theorem dX8_orderHere_103 : decode cX8_orderHere 103 = .ok (.ifCond .eq 7, 3) := by decide +kernel
theorem dX8_orderHere_106 : decode cX8_orderHere 106 = .ok (.iconst 1, 1) := by decide +kernel
theorem dX8_orderHere_107 : decode cX8_orderHere 107 = .ok (.goto 4, 3) := by decide +kernel
theorem dX8_orderHere_110 : decode cX8_orderHere 110 = .ok (.iconst 0, 1) := by decide +kernel
theorem dX8_orderHere_111 : decode cX8_orderHere 111 = .ok (.ireturn, 1) := by decide +kernel
theorem dX8_orderHere_112 : decode cX8_orderHere 112 = .ok (.aload_n 0, 1) := by decide +kernel
theorem dX8_orderHere_113 : decode cX8_orderHere 113 = .ok (.bipush 117, 2) := by decide +kernel
theorem dX8_orderHere_115 : decode cX8_orderHere 115 = .ok (.invokevirtual 197, 3) := by decide +kernel
theorem dX8_orderHere_118 : decode cX8_orderHere 118 = .ok (.ifCond .eq 37, 3) := by decide +kernel
theorem dX8_orderHere_121 : decode cX8_orderHere 121 = .ok (.aload_n 0, 1) := by decide +kernel
theorem dX8_orderHere_122 : decode cX8_orderHere 122 = .ok (.iconst 4, 1) := by decide +kernel
theorem dX8_orderHere_123 : decode cX8_orderHere 123 = .ok (.invokevirtual 206, 3) := by decide +kernel
theorem dX8_orderHere_126 : decode cX8_orderHere 126 = .ok (.ifCond .eq 27, 3) := by decide +kernel
theorem dX8_orderHere_129 : decode cX8_orderHere 129 = .ok (.aload_n 0, 1) := by decide +kernel
theorem dX8_orderHere_130 : decode cX8_orderHere 130 = .ok (.ldc 220, 2) := by decide +kernel
theorem dX8_orderHere_132 : decode cX8_orderHere 132 = .ok (.invokevirtual 211, 3) := by decide +kernel
theorem dX8_orderHere_135 : decode cX8_orderHere 135 = .ok (.ifCond .eq 18, 3) := by decide +kernel
theorem dX8_orderHere_138 : decode cX8_orderHere 138 = .ok (.aload_n 0, 1) := by decide +kernel
theorem dX8_orderHere_139 : decode cX8_orderHere 139 = .ok (.iload_n 1, 1) := by decide +kernel
theorem dX8_orderHere_140 : decode cX8_orderHere 140 = .ok (.iconst 1, 1) := by decide +kernel
theorem dX8_orderHere_141 : decode cX8_orderHere 141 = .ok (.iadd, 1) := by decide +kernel
theorem dX8_orderHere_142 : decode cX8_orderHere 142 = .ok (.iconst 1, 1) := by decide +kernel
theorem dX8_orderHere_143 : decode cX8_orderHere 143 = .ok (.invokevirtual 200, 3) := by decide +kernel
theorem dX8_orderHere_146 : decode cX8_orderHere 146 = .ok (.ifCond .eq 7, 3) := by decide +kernel
theorem dX8_orderHere_149 : decode cX8_orderHere 149 = .ok (.iconst 1, 1) := by decide +kernel
theorem dX8_orderHere_150 : decode cX8_orderHere 150 = .ok (.goto 4, 3) := by decide +kernel
theorem dX8_orderHere_153 : decode cX8_orderHere 153 = .ok (.iconst 0, 1) := by decide +kernel
theorem dX8_orderHere_154 : decode cX8_orderHere 154 = .ok (.ireturn, 1) := by decide +kernel
theorem dX8_orderHere_155 : decode cX8_orderHere 155 = .ok (.aload_n 0, 1) := by decide +kernel
theorem dX8_orderHere_156 : decode cX8_orderHere 156 = .ok (.bipush 97, 2) := by decide +kernel
theorem dX8_orderHere_158 : decode cX8_orderHere 158 = .ok (.invokevirtual 197, 3) := by decide +kernel
theorem dX8_orderHere_161 : decode cX8_orderHere 161 = .ok (.ifCond .eq 37, 3) := by decide +kernel
theorem dX8_orderHere_164 : decode cX8_orderHere 164 = .ok (.aload_n 0, 1) := by decide +kernel
theorem dX8_orderHere_165 : decode cX8_orderHere 165 = .ok (.iconst 5, 1) := by decide +kernel
theorem dX8_orderHere_166 : decode cX8_orderHere 166 = .ok (.invokevirtual 206, 3) := by decide +kernel
theorem dX8_orderHere_169 : decode cX8_orderHere 169 = .ok (.ifCond .eq 27, 3) := by decide +kernel
theorem dX8_orderHere_172 : decode cX8_orderHere 172 = .ok (.aload_n 0, 1) := by decide +kernel
theorem dX8_orderHere_173 : decode cX8_orderHere 173 = .ok (.ldc 222, 2) := by decide +kernel
theorem dX8_orderHere_175 : decode cX8_orderHere 175 = .ok (.invokevirtual 211, 3) := by decide +kernel
theorem dX8_orderHere_178 : decode cX8_orderHere 178 = .ok (.ifCond .eq 18, 3) := by decide +kernel
theorem dX8_orderHere_181 : decode cX8_orderHere 181 = .ok (.aload_n 0, 1) := by decide +kernel
theorem dX8_orderHere_182 : decode cX8_orderHere 182 = .ok (.iload_n 1, 1) := by decide +kernel
theorem dX8_orderHere_183 : decode cX8_orderHere 183 = .ok (.iconst 1, 1) := by decide +kernel
theorem dX8_orderHere_184 : decode cX8_orderHere 184 = .ok (.iadd, 1) := by decide +kernel
theorem dX8_orderHere_185 : decode cX8_orderHere 185 = .ok (.iconst 1, 1) := by decide +kernel
theorem dX8_orderHere_186 : decode cX8_orderHere 186 = .ok (.invokevirtual 200, 3) := by decide +kernel
theorem dX8_orderHere_189 : decode cX8_orderHere 189 = .ok (.ifCond .eq 7, 3) := by decide +kernel
theorem dX8_orderHere_192 : decode cX8_orderHere 192 = .ok (.iconst 1, 1) := by decide +kernel
theorem dX8_orderHere_193 : decode cX8_orderHere 193 = .ok (.goto 4, 3) := by decide +kernel
theorem dX8_orderHere_196 : decode cX8_orderHere 196 = .ok (.iconst 0, 1) := by decide +kernel
theorem dX8_orderHere_197 : decode cX8_orderHere 197 = .ok (.ireturn, 1) := by decide +kernel
theorem dX8_orderHere_198 : decode cX8_orderHere 198 = .ok (.aload_n 0, 1) := by decide +kernel
theorem dX8_orderHere_199 : decode cX8_orderHere 199 = .ok (.bipush 110, 2) := by decide +kernel
theorem dX8_orderHere_201 : decode cX8_orderHere 201 = .ok (.invokevirtual 197, 3) := by decide +kernel
theorem dX8_orderHere_204 : decode cX8_orderHere 204 = .ok (.ifCond .eq 27, 3) := by decide +kernel
theorem dX8_orderHere_207 : decode cX8_orderHere 207 = .ok (.aload_n 0, 1) := by decide +kernel
theorem dX8_orderHere_208 : decode cX8_orderHere 208 = .ok (.bipush 7, 2) := by decide +kernel
theorem dX8_orderHere_210 : decode cX8_orderHere 210 = .ok (.invokevirtual 206, 3) := by decide +kernel
theorem dX8_orderHere_213 : decode cX8_orderHere 213 = .ok (.ifCond .eq 16, 3) := by decide +kernel
theorem dX8_orderHere_216 : decode cX8_orderHere 216 = .ok (.aload_n 0, 1) := by decide +kernel
theorem dX8_orderHere_217 : decode cX8_orderHere 217 = .ok (.ldc 224, 2) := by decide +kernel
theorem dX8_orderHere_219 : decode cX8_orderHere 219 = .ok (.invokevirtual 211, 3) := by decide +kernel
theorem dX8_orderHere_222 : decode cX8_orderHere 222 = .ok (.ifCond .eq 7, 3) := by decide +kernel
theorem dX8_orderHere_225 : decode cX8_orderHere 225 = .ok (.iconst 1, 1) := by decide +kernel
theorem dX8_orderHere_226 : decode cX8_orderHere 226 = .ok (.goto 4, 3) := by decide +kernel
theorem dX8_orderHere_229 : decode cX8_orderHere 229 = .ok (.iconst 0, 1) := by decide +kernel
theorem dX8_orderHere_230 : decode cX8_orderHere 230 = .ok (.ireturn, 1) := by decide +kernel
theorem dX8_orderHere_231 : decode cX8_orderHere 231 = .ok (.aload_n 0, 1) := by decide +kernel
theorem dX8_orderHere_232 : decode cX8_orderHere 232 = .ok (.bipush 99, 2) := by decide +kernel
theorem dX8_orderHere_234 : decode cX8_orderHere 234 = .ok (.invokevirtual 197, 3) := by decide +kernel
theorem dX8_orderHere_237 : decode cX8_orderHere 237 = .ok (.ifCond .ne 5, 3) := by decide +kernel
theorem dX8_orderHere_240 : decode cX8_orderHere 240 = .ok (.iconst 0, 1) := by decide +kernel
theorem dX8_orderHere_241 : decode cX8_orderHere 241 = .ok (.ireturn, 1) := by decide +kernel
theorem dX8_orderHere_242 : decode cX8_orderHere 242 = .ok (.aload_n 0, 1) := by decide +kernel
theorem dX8_orderHere_243 : decode cX8_orderHere 243 = .ok (.bipush 108, 2) := by decide +kernel
theorem dX8_orderHere_245 : decode cX8_orderHere 245 = .ok (.invokevirtual 197, 3) := by decide +kernel
theorem dX8_orderHere_248 : decode cX8_orderHere 248 = .ok (.ifCond .eq 27, 3) := by decide +kernel
theorem dX8_orderHere_251 : decode cX8_orderHere 251 = .ok (.aload_n 0, 1) := by decide +kernel
theorem dX8_orderHere_252 : decode cX8_orderHere 252 = .ok (.bipush 6, 2) := by decide +kernel
theorem dX8_orderHere_254 : decode cX8_orderHere 254 = .ok (.invokevirtual 206, 3) := by decide +kernel
theorem dX8_orderHere_257 : decode cX8_orderHere 257 = .ok (.ifCond .eq 16, 3) := by decide +kernel
theorem dX8_orderHere_260 : decode cX8_orderHere 260 = .ok (.aload_n 0, 1) := by decide +kernel
theorem dX8_orderHere_261 : decode cX8_orderHere 261 = .ok (.ldc 226, 2) := by decide +kernel
theorem dX8_orderHere_263 : decode cX8_orderHere 263 = .ok (.invokevirtual 211, 3) := by decide +kernel
theorem dX8_orderHere_266 : decode cX8_orderHere 266 = .ok (.ifCond .eq 7, 3) := by decide +kernel
theorem dX8_orderHere_269 : decode cX8_orderHere 269 = .ok (.iconst 1, 1) := by decide +kernel
theorem dX8_orderHere_270 : decode cX8_orderHere 270 = .ok (.goto 4, 3) := by decide +kernel
theorem dX8_orderHere_273 : decode cX8_orderHere 273 = .ok (.iconst 0, 1) := by decide +kernel
theorem dX8_orderHere_274 : decode cX8_orderHere 274 = .ok (.ireturn, 1) := by decide +kernel
theorem dX8_orderHere_275 : decode cX8_orderHere 275 = .ok (.aload_n 0, 1) := by decide +kernel
theorem dX8_orderHere_276 : decode cX8_orderHere 276 = .ok (.bipush 97, 2) := by decide +kernel
theorem dX8_orderHere_278 : decode cX8_orderHere 278 = .ok (.invokevirtual 197, 3) := by decide +kernel
theorem dX8_orderHere_281 : decode cX8_orderHere 281 = .ok (.ifCond .ne 5, 3) := by decide +kernel
theorem dX8_orderHere_284 : decode cX8_orderHere 284 = .ok (.iconst 0, 1) := by decide +kernel
theorem dX8_orderHere_285 : decode cX8_orderHere 285 = .ok (.ireturn, 1) := by decide +kernel
theorem dX8_orderHere_286 : decode cX8_orderHere 286 = .ok (.aload_n 0, 1) := by decide +kernel
theorem dX8_orderHere_287 : decode cX8_orderHere 287 = .ok (.bipush 108, 2) := by decide +kernel
theorem dX8_orderHere_289 : decode cX8_orderHere 289 = .ok (.invokevirtual 197, 3) := by decide +kernel
theorem dX8_orderHere_292 : decode cX8_orderHere 292 = .ok (.ifCond .eq 37, 3) := by decide +kernel
theorem dX8_orderHere_295 : decode cX8_orderHere 295 = .ok (.aload_n 0, 1) := by decide +kernel
theorem dX8_orderHere_296 : decode cX8_orderHere 296 = .ok (.iconst 2, 1) := by decide +kernel
theorem dX8_orderHere_297 : decode cX8_orderHere 297 = .ok (.invokevirtual 206, 3) := by decide +kernel
theorem dX8_orderHere_300 : decode cX8_orderHere 300 = .ok (.ifCond .eq 27, 3) := by decide +kernel
theorem dX8_orderHere_303 : decode cX8_orderHere 303 = .ok (.aload_n 0, 1) := by decide +kernel
theorem dX8_orderHere_304 : decode cX8_orderHere 304 = .ok (.ldc 228, 2) := by decide +kernel
theorem dX8_orderHere_306 : decode cX8_orderHere 306 = .ok (.invokevirtual 211, 3) := by decide +kernel
theorem dX8_orderHere_309 : decode cX8_orderHere 309 = .ok (.ifCond .eq 18, 3) := by decide +kernel
theorem dX8_orderHere_312 : decode cX8_orderHere 312 = .ok (.aload_n 0, 1) := by decide +kernel
theorem dX8_orderHere_313 : decode cX8_orderHere 313 = .ok (.iload_n 1, 1) := by decide +kernel
theorem dX8_orderHere_314 : decode cX8_orderHere 314 = .ok (.iconst 1, 1) := by decide +kernel
theorem dX8_orderHere_315 : decode cX8_orderHere 315 = .ok (.iadd, 1) := by decide +kernel
theorem dX8_orderHere_316 : decode cX8_orderHere 316 = .ok (.iconst 1, 1) := by decide +kernel
theorem dX8_orderHere_317 : decode cX8_orderHere 317 = .ok (.invokevirtual 200, 3) := by decide +kernel
theorem dX8_orderHere_320 : decode cX8_orderHere 320 = .ok (.ifCond .eq 7, 3) := by decide +kernel
theorem dX8_orderHere_323 : decode cX8_orderHere 323 = .ok (.iconst 1, 1) := by decide +kernel
theorem dX8_orderHere_324 : decode cX8_orderHere 324 = .ok (.goto 4, 3) := by decide +kernel
theorem dX8_orderHere_327 : decode cX8_orderHere 327 = .ok (.iconst 0, 1) := by decide +kernel
theorem dX8_orderHere_328 : decode cX8_orderHere 328 = .ok (.ireturn, 1) := by decide +kernel
theorem dX8_orderHere_329 : decode cX8_orderHere 329 = .ok (.aload_n 0, 1) := by decide +kernel
theorem dX8_orderHere_330 : decode cX8_orderHere 330 = .ok (.iconst 1, 1) := by decide +kernel
theorem dX8_orderHere_331 : decode cX8_orderHere 331 = .ok (.invokevirtual 206, 3) := by decide +kernel
theorem dX8_orderHere_334 : decode cX8_orderHere 334 = .ok (.ifCond .eq 47, 3) := by decide +kernel
theorem dX8_orderHere_337 : decode cX8_orderHere 337 = .ok (.aload_n 0, 1) := by decide +kernel
theorem dX8_orderHere_338 : decode cX8_orderHere 338 = .ok (.ldc 230, 2) := by decide +kernel
theorem dX8_orderHere_340 : decode cX8_orderHere 340 = .ok (.invokevirtual 211, 3) := by decide +kernel
theorem dX8_orderHere_343 : decode cX8_orderHere 343 = .ok (.ifCond .eq 38, 3) := by decide +kernel
theorem dX8_orderHere_346 : decode cX8_orderHere 346 = .ok (.aload_n 0, 1) := by decide +kernel
theorem dX8_orderHere_347 : decode cX8_orderHere 347 = .ok (.iload_n 1, 1) := by decide +kernel
theorem dX8_orderHere_348 : decode cX8_orderHere 348 = .ok (.iconst 1, 1) := by decide +kernel
theorem dX8_orderHere_349 : decode cX8_orderHere 349 = .ok (.iadd, 1) := by decide +kernel
theorem dX8_orderHere_350 : decode cX8_orderHere 350 = .ok (.iconst 3, 1) := by decide +kernel
theorem dX8_orderHere_351 : decode cX8_orderHere 351 = .ok (.invokevirtual 200, 3) := by decide +kernel
theorem dX8_orderHere_354 : decode cX8_orderHere 354 = .ok (.ifCond .eq 27, 3) := by decide +kernel
theorem dX8_orderHere_357 : decode cX8_orderHere 357 = .ok (.aload_n 0, 1) := by decide +kernel
theorem dX8_orderHere_358 : decode cX8_orderHere 358 = .ok (.bipush 32, 2) := by decide +kernel
theorem dX8_orderHere_360 : decode cX8_orderHere 360 = .ok (.invokevirtual 197, 3) := by decide +kernel
theorem dX8_orderHere_363 : decode cX8_orderHere 363 = .ok (.ifCond .eq 18, 3) := by decide +kernel
theorem dX8_orderHere_366 : decode cX8_orderHere 366 = .ok (.aload_n 0, 1) := by decide +kernel
theorem dX8_orderHere_367 : decode cX8_orderHere 367 = .ok (.iload_n 1, 1) := by decide +kernel
theorem dX8_orderHere_368 : decode cX8_orderHere 368 = .ok (.iconst 2, 1) := by decide +kernel
theorem dX8_orderHere_369 : decode cX8_orderHere 369 = .ok (.iadd, 1) := by decide +kernel
theorem dX8_orderHere_370 : decode cX8_orderHere 370 = .ok (.iconst 2, 1) := by decide +kernel
theorem dX8_orderHere_371 : decode cX8_orderHere 371 = .ok (.invokevirtual 200, 3) := by decide +kernel
theorem dX8_orderHere_374 : decode cX8_orderHere 374 = .ok (.ifCond .eq 7, 3) := by decide +kernel
theorem dX8_orderHere_377 : decode cX8_orderHere 377 = .ok (.iconst 1, 1) := by decide +kernel
theorem dX8_orderHere_378 : decode cX8_orderHere 378 = .ok (.goto 4, 3) := by decide +kernel
theorem dX8_orderHere_381 : decode cX8_orderHere 381 = .ok (.iconst 0, 1) := by decide +kernel
theorem dX8_orderHere_382 : decode cX8_orderHere 382 = .ok (.ireturn, 1) := by decide +kernel
theorem dX8_isText_0 : decode cX8_isText 0 = .ok (.aload_n 0, 1) := by decide +kernel
theorem dX8_isText_1 : decode cX8_isText 1 = .ok (.iconst 0, 1) := by decide +kernel
theorem dX8_isText_2 : decode cX8_isText 2 = .ok (.putfield 183, 3) := by decide +kernel
theorem dX8_isText_5 : decode cX8_isText 5 = .ok (.aload_n 0, 1) := by decide +kernel
theorem dX8_isText_6 : decode cX8_isText 6 = .ok (.iconst 0, 1) := by decide +kernel
theorem dX8_isText_7 : decode cX8_isText 7 = .ok (.putfield 203, 3) := by decide +kernel
theorem dX8_isText_10 : decode cX8_isText 10 = .ok (.aload_n 0, 1) := by decide +kernel
theorem dX8_isText_11 : decode cX8_isText 11 = .ok (.invokevirtual 232, 3) := by decide +kernel
theorem dX8_isText_14 : decode cX8_isText 14 = .ok (.ifCond .ne 5, 3) := by decide +kernel
theorem dX8_isText_17 : decode cX8_isText 17 = .ok (.iconst 0, 1) := by decide +kernel
theorem dX8_isText_18 : decode cX8_isText 18 = .ok (.ireturn, 1) := by decide +kernel
theorem dX8_isText_19 : decode cX8_isText 19 = .ok (.aload_n 0, 1) := by decide +kernel
theorem dX8_isText_20 : decode cX8_isText 20 = .ok (.dup, 1) := by decide +kernel
theorem dX8_isText_21 : decode cX8_isText 21 = .ok (.getfield 203, 3) := by decide +kernel
theorem dX8_isText_24 : decode cX8_isText 24 = .ok (.iconst 1, 1) := by decide +kernel
theorem dX8_isText_25 : decode cX8_isText 25 = .ok (.iadd, 1) := by decide +kernel
theorem dX8_isText_26 : decode cX8_isText 26 = .ok (.putfield 203, 3) := by decide +kernel
theorem dX8_isText_29 : decode cX8_isText 29 = .ok (.aload_n 0, 1) := by decide +kernel
theorem dX8_isText_30 : decode cX8_isText 30 = .ok (.bipush 59, 2) := by decide +kernel
theorem dX8_isText_32 : decode cX8_isText 32 = .ok (.invokevirtual 197, 3) := by decide +kernel
theorem dX8_isText_35 : decode cX8_isText 35 = .ok (.ifCond .ne (-25), 3) := by decide +kernel
theorem dX8_isText_38 : decode cX8_isText 38 = .ok (.aload_n 0, 1) := by decide +kernel
theorem dX8_isText_39 : decode cX8_isText 39 = .ok (.getfield 183, 3) := by decide +kernel
theorem dX8_isText_42 : decode cX8_isText 42 = .ok (.aload_n 0, 1) := by decide +kernel
theorem dX8_isText_43 : decode cX8_isText 43 = .ok (.getfield 180, 3) := by decide +kernel
theorem dX8_isText_46 : decode cX8_isText 46 = .ok (.if_icmp .ne 7, 3) := by decide +kernel
theorem dX8_isText_49 : decode cX8_isText 49 = .ok (.iconst 1, 1) := by decide +kernel
theorem dX8_isText_50 : decode cX8_isText 50 = .ok (.goto 4, 3) := by decide +kernel
theorem dX8_isText_53 : decode cX8_isText 53 = .ok (.iconst 0, 1) := by decide +kernel
theorem dX8_isText_54 : decode cX8_isText 54 = .ok (.ireturn, 1) := by decide +kernel
theorem dX8_carries_0 : decode cX8_carries 0 = .ok (.aload_n 0, 1) := by decide +kernel
theorem dX8_carries_1 : decode cX8_carries 1 = .ok (.getfield 39, 3) := by decide +kernel
theorem dX8_carries_4 : decode cX8_carries 4 = .ok (.iload_n 1, 1) := by decide +kernel
theorem dX8_carries_5 : decode cX8_carries 5 = .ok (.iconst 1, 1) := by decide +kernel
theorem dX8_carries_6 : decode cX8_carries 6 = .ok (.iadd, 1) := by decide +kernel
theorem dX8_carries_7 : decode cX8_carries 7 = .ok (.iaload, 1) := by decide +kernel
theorem dX8_carries_8 : decode cX8_carries 8 = .ok (.istore_n 2, 1) := by decide +kernel
theorem dX8_carries_9 : decode cX8_carries 9 = .ok (.aload_n 0, 1) := by decide +kernel
theorem dX8_carries_10 : decode cX8_carries 10 = .ok (.getfield 39, 3) := by decide +kernel
theorem dX8_carries_13 : decode cX8_carries 13 = .ok (.iload_n 1, 1) := by decide +kernel
theorem dX8_carries_14 : decode cX8_carries 14 = .ok (.iaload, 1) := by decide +kernel
theorem dX8_carries_15 : decode cX8_carries 15 = .ok (.tableswitch 98 0 6 #[41, 55, 69, 75, 81, 87, 93], 41) := by decide +kernel
theorem dX8_carries_56 : decode cX8_carries 56 = .ok (.aload_n 0, 1) := by decide +kernel
theorem dX8_carries_57 : decode cX8_carries 57 = .ok (.iload_n 2, 1) := by decide +kernel
theorem dX8_carries_58 : decode cX8_carries 58 = .ok (.aload_n 0, 1) := by decide +kernel
theorem dX8_carries_59 : decode cX8_carries 59 = .ok (.getfield 39, 3) := by decide +kernel
theorem dX8_carries_62 : decode cX8_carries 62 = .ok (.iload_n 1, 1) := by decide +kernel
theorem dX8_carries_63 : decode cX8_carries 63 = .ok (.iconst 2, 1) := by decide +kernel
theorem dX8_carries_64 : decode cX8_carries 64 = .ok (.iadd, 1) := by decide +kernel
theorem dX8_carries_65 : decode cX8_carries 65 = .ok (.iaload, 1) := by decide +kernel
theorem dX8_carries_66 : decode cX8_carries 66 = .ok (.invokevirtual 236, 3) := by decide +kernel
theorem dX8_carries_69 : decode cX8_carries 69 = .ok (.ireturn, 1) := by decide +kernel
theorem dX8_carries_70 : decode cX8_carries 70 = .ok (.aload_n 0, 1) := by decide +kernel
theorem dX8_carries_71 : decode cX8_carries 71 = .ok (.iload_n 2, 1) := by decide +kernel
theorem dX8_carries_72 : decode cX8_carries 72 = .ok (.aload_n 0, 1) := by decide +kernel
theorem dX8_carries_73 : decode cX8_carries 73 = .ok (.getfield 39, 3) := by decide +kernel
theorem dX8_carries_76 : decode cX8_carries 76 = .ok (.iload_n 1, 1) := by decide +kernel
theorem dX8_carries_77 : decode cX8_carries 77 = .ok (.iconst 2, 1) := by decide +kernel
theorem dX8_carries_78 : decode cX8_carries 78 = .ok (.iadd, 1) := by decide +kernel
theorem dX8_carries_79 : decode cX8_carries 79 = .ok (.iaload, 1) := by decide +kernel
theorem dX8_carries_80 : decode cX8_carries 80 = .ok (.invokevirtual 239, 3) := by decide +kernel
theorem dX8_carries_83 : decode cX8_carries 83 = .ok (.ireturn, 1) := by decide +kernel
theorem dX8_carries_84 : decode cX8_carries 84 = .ok (.aload_n 0, 1) := by decide +kernel
theorem dX8_carries_85 : decode cX8_carries 85 = .ok (.iload_n 2, 1) := by decide +kernel
theorem dX8_carries_86 : decode cX8_carries 86 = .ok (.invokevirtual 242, 3) := by decide +kernel
theorem dX8_carries_89 : decode cX8_carries 89 = .ok (.ireturn, 1) := by decide +kernel
theorem dX8_carries_90 : decode cX8_carries 90 = .ok (.aload_n 0, 1) := by decide +kernel
theorem dX8_carries_91 : decode cX8_carries 91 = .ok (.iload_n 2, 1) := by decide +kernel
theorem dX8_carries_92 : decode cX8_carries 92 = .ok (.invokevirtual 245, 3) := by decide +kernel
theorem dX8_carries_95 : decode cX8_carries 95 = .ok (.ireturn, 1) := by decide +kernel
theorem dX8_carries_96 : decode cX8_carries 96 = .ok (.aload_n 0, 1) := by decide +kernel
theorem dX8_carries_97 : decode cX8_carries 97 = .ok (.iload_n 2, 1) := by decide +kernel
theorem dX8_carries_98 : decode cX8_carries 98 = .ok (.invokevirtual 248, 3) := by decide +kernel
theorem dX8_carries_101 : decode cX8_carries 101 = .ok (.ireturn, 1) := by decide +kernel
theorem dX8_carries_102 : decode cX8_carries 102 = .ok (.aload_n 0, 1) := by decide +kernel
theorem dX8_carries_103 : decode cX8_carries 103 = .ok (.iload_n 2, 1) := by decide +kernel
theorem dX8_carries_104 : decode cX8_carries 104 = .ok (.invokevirtual 251, 3) := by decide +kernel
theorem dX8_carries_107 : decode cX8_carries 107 = .ok (.ireturn, 1) := by decide +kernel
theorem dX8_carries_108 : decode cX8_carries 108 = .ok (.aload_n 0, 1) := by decide +kernel
theorem dX8_carries_109 : decode cX8_carries 109 = .ok (.invokevirtual 254, 3) := by decide +kernel
theorem dX8_carries_112 : decode cX8_carries 112 = .ok (.ireturn, 1) := by decide +kernel
theorem dX8_carries_113 : decode cX8_carries 113 = .ok (.aload_n 0, 1) := by decide +kernel
theorem dX8_carries_114 : decode cX8_carries 114 = .ok (.invokevirtual 257, 3) := by decide +kernel
theorem dX8_carries_117 : decode cX8_carries 117 = .ok (.ireturn, 1) := by decide +kernel
theorem dX8_run_0 : decode cX8_run 0 = .ok (.aload_n 0, 1) := by decide +kernel
theorem dX8_run_1 : decode cX8_run 1 = .ok (.invokevirtual 260, 3) := by decide +kernel
theorem dX8_run_4 : decode cX8_run 4 = .ok (.istore_n 1, 1) := by decide +kernel
theorem dX8_run_5 : decode cX8_run 5 = .ok (.aload_n 0, 1) := by decide +kernel
theorem dX8_run_6 : decode cX8_run 6 = .ok (.iload_n 1, 1) := by decide +kernel
theorem dX8_run_7 : decode cX8_run 7 = .ok (.ifCond .eq 7, 3) := by decide +kernel
theorem dX8_run_10 : decode cX8_run 10 = .ok (.iconst (-1), 1) := by decide +kernel
theorem dX8_run_11 : decode cX8_run 11 = .ok (.goto 7, 3) := by decide +kernel
theorem dX8_run_14 : decode cX8_run 14 = .ok (.aload_n 0, 1) := by decide +kernel
theorem dX8_run_15 : decode cX8_run 15 = .ok (.getfield 183, 3) := by decide +kernel
theorem dX8_run_18 : decode cX8_run 18 = .ok (.putfield 25, 3) := by decide +kernel
theorem dX8_run_21 : decode cX8_run 21 = .ok (.aload_n 0, 1) := by decide +kernel
theorem dX8_run_22 : decode cX8_run 22 = .ok (.iconst 0, 1) := by decide +kernel
theorem dX8_run_23 : decode cX8_run 23 = .ok (.putfield 180, 3) := by decide +kernel
theorem dX8_run_26 : decode cX8_run 26 = .ok (.aload_n 0, 1) := by decide +kernel
theorem dX8_run_27 : decode cX8_run 27 = .ok (.iload_n 1, 1) := by decide +kernel
theorem dX8_run_28 : decode cX8_run 28 = .ok (.ifCond .eq 7, 3) := by decide +kernel
theorem dX8_run_31 : decode cX8_run 31 = .ok (.iconst 0, 1) := by decide +kernel
theorem dX8_run_32 : decode cX8_run 32 = .ok (.goto 4, 3) := by decide +kernel
theorem dX8_run_35 : decode cX8_run 35 = .ok (.iconst 1, 1) := by decide +kernel
theorem dX8_run_36 : decode cX8_run 36 = .ok (.invokevirtual 73, 3) := by decide +kernel
theorem dX8_run_39 : decode cX8_run 39 = .ok (.ifCond .eq 5, 3) := by decide +kernel
theorem dX8_run_42 : decode cX8_run 42 = .ok (.iconst 0, 1) := by decide +kernel
theorem dX8_run_43 : decode cX8_run 43 = .ok (.ireturn, 1) := by decide +kernel
theorem dX8_run_44 : decode cX8_run 44 = .ok (.aload_n 0, 1) := by decide +kernel
theorem dX8_run_45 : decode cX8_run 45 = .ok (.getfield 7, 3) := by decide +kernel
theorem dX8_run_48 : decode cX8_run 48 = .ok (.iconst 0, 1) := by decide +kernel
theorem dX8_run_49 : decode cX8_run 49 = .ok (.aload_n 0, 1) := by decide +kernel
theorem dX8_run_50 : decode cX8_run 50 = .ok (.getfield 19, 3) := by decide +kernel
theorem dX8_run_53 : decode cX8_run 53 = .ok (.iconst 0, 1) := by decide +kernel
theorem dX8_run_54 : decode cX8_run 54 = .ok (.invokestatic 61, 3) := by decide +kernel
theorem dX8_run_57 : decode cX8_run 57 = .ok (.aload_n 0, 1) := by decide +kernel
theorem dX8_run_58 : decode cX8_run 58 = .ok (.iconst 1, 1) := by decide +kernel
theorem dX8_run_59 : decode cX8_run 59 = .ok (.putfield 55, 3) := by decide +kernel
theorem dX8_run_62 : decode cX8_run 62 = .ok (.iconst 0, 1) := by decide +kernel
theorem dX8_run_63 : decode cX8_run 63 = .ok (.istore_n 2, 1) := by decide +kernel
theorem dX8_run_64 : decode cX8_run 64 = .ok (.iconst 0, 1) := by decide +kernel
theorem dX8_run_65 : decode cX8_run 65 = .ok (.istore_n 3, 1) := by decide +kernel
theorem dX8_run_66 : decode cX8_run 66 = .ok (.iload_n 2, 1) := by decide +kernel
theorem dX8_run_67 : decode cX8_run 67 = .ok (.aload_n 0, 1) := by decide +kernel
theorem dX8_run_68 : decode cX8_run 68 = .ok (.getfield 203, 3) := by decide +kernel
theorem dX8_run_71 : decode cX8_run 71 = .ok (.if_icmp .ge 31, 3) := by decide +kernel
theorem dX8_run_74 : decode cX8_run 74 = .ok (.aload_n 0, 1) := by decide +kernel
theorem dX8_run_75 : decode cX8_run 75 = .ok (.getfield 42, 3) := by decide +kernel
theorem dX8_run_78 : decode cX8_run 78 = .ok (.ifCond .ne 24, 3) := by decide +kernel
theorem dX8_run_81 : decode cX8_run 81 = .ok (.aload_n 0, 1) := by decide +kernel
theorem dX8_run_82 : decode cX8_run 82 = .ok (.iconst 3, 1) := by decide +kernel
theorem dX8_run_83 : decode cX8_run 83 = .ok (.iload_n 2, 1) := by decide +kernel
theorem dX8_run_84 : decode cX8_run 84 = .ok (.imul, 1) := by decide +kernel
theorem dX8_run_85 : decode cX8_run 85 = .ok (.invokevirtual 263, 3) := by decide +kernel
theorem dX8_run_88 : decode cX8_run 88 = .ok (.istore_n 3, 1) := by decide +kernel
theorem dX8_run_89 : decode cX8_run 89 = .ok (.aload_n 0, 1) := by decide +kernel
theorem dX8_run_90 : decode cX8_run 90 = .ok (.getfield 42, 3) := by decide +kernel
theorem dX8_run_93 : decode cX8_run 93 = .ok (.ifCond .ne (-27), 3) := by decide +kernel
theorem dX8_run_96 : decode cX8_run 96 = .ok (.iinc 2 1, 3) := by decide +kernel
theorem dX8_run_99 : decode cX8_run 99 = .ok (.goto (-33), 3) := by decide +kernel
theorem dX8_run_102 : decode cX8_run 102 = .ok (.aload_n 0, 1) := by decide +kernel
theorem dX8_run_103 : decode cX8_run 103 = .ok (.iconst 0, 1) := by decide +kernel
theorem dX8_run_104 : decode cX8_run 104 = .ok (.putfield 55, 3) := by decide +kernel
theorem dX8_run_107 : decode cX8_run 107 = .ok (.aload_n 0, 1) := by decide +kernel
theorem dX8_run_108 : decode cX8_run 108 = .ok (.getfield 42, 3) := by decide +kernel
theorem dX8_run_111 : decode cX8_run 111 = .ok (.ifCond .le 42, 3) := by decide +kernel
theorem dX8_run_114 : decode cX8_run 114 = .ok (.aload_n 0, 1) := by decide +kernel
theorem dX8_run_115 : decode cX8_run 115 = .ok (.getfield 19, 3) := by decide +kernel
theorem dX8_run_118 : decode cX8_run 118 = .ok (.iconst 0, 1) := by decide +kernel
theorem dX8_run_119 : decode cX8_run 119 = .ok (.aload_n 0, 1) := by decide +kernel
theorem dX8_run_120 : decode cX8_run 120 = .ok (.getfield 7, 3) := by decide +kernel
theorem dX8_run_123 : decode cX8_run 123 = .ok (.iconst 0, 1) := by decide +kernel
theorem dX8_run_124 : decode cX8_run 124 = .ok (.invokestatic 61, 3) := by decide +kernel
theorem dX8_run_127 : decode cX8_run 127 = .ok (.aload_n 0, 1) := by decide +kernel
theorem dX8_run_128 : decode cX8_run 128 = .ok (.aload_n 0, 1) := by decide +kernel
theorem dX8_run_129 : decode cX8_run 129 = .ok (.getfield 45, 3) := by decide +kernel
theorem dX8_run_132 : decode cX8_run 132 = .ok (.ifCond .eq 7, 3) := by decide +kernel
theorem dX8_run_135 : decode cX8_run 135 = .ok (.iconst 2, 1) := by decide +kernel
theorem dX8_run_136 : decode cX8_run 136 = .ok (.goto 4, 3) := by decide +kernel
theorem dX8_run_139 : decode cX8_run 139 = .ok (.iconst 1, 1) := by decide +kernel
theorem dX8_run_140 : decode cX8_run 140 = .ok (.putfield 42, 3) := by decide +kernel
theorem dX8_run_143 : decode cX8_run 143 = .ok (.iload_n 3, 1) := by decide +kernel
theorem dX8_run_144 : decode cX8_run 144 = .ok (.ifCond .le 7, 3) := by decide +kernel
theorem dX8_run_147 : decode cX8_run 147 = .ok (.iconst 0, 1) := by decide +kernel
theorem dX8_run_148 : decode cX8_run 148 = .ok (.goto 4, 3) := by decide +kernel
theorem dX8_run_151 : decode cX8_run 151 = .ok (.iload_n 3, 1) := by decide +kernel
theorem dX8_run_152 : decode cX8_run 152 = .ok (.ireturn, 1) := by decide +kernel
theorem dX8_run_153 : decode cX8_run 153 = .ok (.aload_n 0, 1) := by decide +kernel
theorem dX8_run_154 : decode cX8_run 154 = .ok (.aload_n 0, 1) := by decide +kernel
theorem dX8_run_155 : decode cX8_run 155 = .ok (.getfield 19, 3) := by decide +kernel
theorem dX8_run_158 : decode cX8_run 158 = .ok (.invokevirtual 81, 3) := by decide +kernel
theorem dX8_run_161 : decode cX8_run 161 = .ok (.aload_n 0, 1) := by decide +kernel
theorem dX8_run_162 : decode cX8_run 162 = .ok (.getfield 203, 3) := by decide +kernel
theorem dX8_run_165 : decode cX8_run 165 = .ok (.ireturn, 1) := by decide +kernel
theorem dX8_errorPosition_0 : decode cX8_errorPosition 0 = .ok (.aload_n 0, 1) := by decide +kernel
theorem dX8_errorPosition_1 : decode cX8_errorPosition 1 = .ok (.iconst 0, 1) := by decide +kernel
theorem dX8_errorPosition_2 : decode cX8_errorPosition 2 = .ok (.putfield 42, 3) := by decide +kernel
theorem dX8_errorPosition_5 : decode cX8_errorPosition 5 = .ok (.aload_n 0, 1) := by decide +kernel
theorem dX8_errorPosition_6 : decode cX8_errorPosition 6 = .ok (.getfield 25, 3) := by decide +kernel
theorem dX8_errorPosition_9 : decode cX8_errorPosition 9 = .ok (.ireturn, 1) := by decide +kernel
theorem dX8_refusal_0 : decode cX8_refusal 0 = .ok (.aload_n 0, 1) := by decide +kernel
theorem dX8_refusal_1 : decode cX8_refusal 1 = .ok (.aload_n 0, 1) := by decide +kernel
theorem dX8_refusal_2 : decode cX8_refusal 2 = .ok (.getfield 49, 3) := by decide +kernel
theorem dX8_refusal_5 : decode cX8_refusal 5 = .ok (.ifCond .ne 7, 3) := by decide +kernel
theorem dX8_refusal_8 : decode cX8_refusal 8 = .ok (.iconst 1, 1) := by decide +kernel
theorem dX8_refusal_9 : decode cX8_refusal 9 = .ok (.goto 4, 3) := by decide +kernel
theorem dX8_refusal_12 : decode cX8_refusal 12 = .ok (.iconst 0, 1) := by decide +kernel
theorem dX8_refusal_13 : decode cX8_refusal 13 = .ok (.invokevirtual 73, 3) := by decide +kernel
theorem dX8_refusal_16 : decode cX8_refusal 16 = .ok (.ifCond .eq 7, 3) := by decide +kernel
theorem dX8_refusal_19 : decode cX8_refusal 19 = .ok (.iconst 0, 1) := by decide +kernel
theorem dX8_refusal_20 : decode cX8_refusal 20 = .ok (.goto 18, 3) := by decide +kernel
theorem dX8_refusal_23 : decode cX8_refusal 23 = .ok (.iload_n 1, 1) := by decide +kernel
theorem dX8_refusal_24 : decode cX8_refusal 24 = .ok (.ifCond .eq 10, 3) := by decide +kernel
theorem dX8_refusal_27 : decode cX8_refusal 27 = .ok (.aload_n 0, 1) := by decide +kernel
theorem dX8_refusal_28 : decode cX8_refusal 28 = .ok (.getfield 52, 3) := by decide +kernel
theorem dX8_refusal_31 : decode cX8_refusal 31 = .ok (.goto 7, 3) := by decide +kernel
theorem dX8_refusal_34 : decode cX8_refusal 34 = .ok (.aload_n 0, 1) := by decide +kernel
theorem dX8_refusal_35 : decode cX8_refusal 35 = .ok (.getfield 49, 3) := by decide +kernel
theorem dX8_refusal_38 : decode cX8_refusal 38 = .ok (.ireturn, 1) := by decide +kernel
theorem dX8_cases_0 : decode cX8_cases 0 = .ok (.iconst 0, 1) := by decide +kernel
theorem dX8_cases_1 : decode cX8_cases 1 = .ok (.istore_n 2, 1) := by decide +kernel
theorem dX8_cases_2 : decode cX8_cases 2 = .ok (.iconst 0, 1) := by decide +kernel
theorem dX8_cases_3 : decode cX8_cases 3 = .ok (.istore_n 3, 1) := by decide +kernel
theorem dX8_cases_4 : decode cX8_cases 4 = .ok (.iload_n 3, 1) := by decide +kernel
theorem dX8_cases_5 : decode cX8_cases 5 = .ok (.aload_n 0, 1) := by decide +kernel
theorem dX8_cases_6 : decode cX8_cases 6 = .ok (.getfield 7, 3) := by decide +kernel
theorem dX8_cases_9 : decode cX8_cases 9 = .ok (.iconst 1, 1) := by decide +kernel
theorem dX8_cases_10 : decode cX8_cases 10 = .ok (.iaload, 1) := by decide +kernel
theorem dX8_cases_11 : decode cX8_cases 11 = .ok (.if_icmp .ge 41, 3) := by decide +kernel
theorem dX8_cases_14 : decode cX8_cases 14 = .ok (.iload_n 2, 1) := by decide +kernel
theorem dX8_cases_15 : decode cX8_cases 15 = .ok (.iload_n 1, 1) := by decide +kernel
theorem dX8_cases_16 : decode cX8_cases 16 = .ok (.ifCond .eq 14, 3) := by decide +kernel
theorem dX8_cases_19 : decode cX8_cases 19 = .ok (.aload_n 0, 1) := by decide +kernel
theorem dX8_cases_20 : decode cX8_cases 20 = .ok (.iload_n 3, 1) := by decide +kernel
theorem dX8_cases_21 : decode cX8_cases 21 = .ok (.invokevirtual 89, 3) := by decide +kernel
theorem dX8_cases_24 : decode cX8_cases 24 = .ok (.ifCond .eq 19, 3) := by decide +kernel
theorem dX8_cases_27 : decode cX8_cases 27 = .ok (.goto 12, 3) := by decide +kernel
theorem dX8_cases_30 : decode cX8_cases 30 = .ok (.aload_n 0, 1) := by decide +kernel
theorem dX8_cases_31 : decode cX8_cases 31 = .ok (.iload_n 3, 1) := by decide +kernel
theorem dX8_cases_32 : decode cX8_cases 32 = .ok (.iconst 2, 1) := by decide +kernel
theorem dX8_cases_33 : decode cX8_cases 33 = .ok (.invokevirtual 69, 3) := by decide +kernel
theorem dX8_cases_36 : decode cX8_cases 36 = .ok (.ifCond .ne 7, 3) := by decide +kernel
theorem dX8_cases_39 : decode cX8_cases 39 = .ok (.iconst 1, 1) := by decide +kernel
theorem dX8_cases_40 : decode cX8_cases 40 = .ok (.goto 4, 3) := by decide +kernel
theorem dX8_cases_43 : decode cX8_cases 43 = .ok (.iconst 0, 1) := by decide +kernel
theorem dX8_cases_44 : decode cX8_cases 44 = .ok (.iadd, 1) := by decide +kernel
theorem dX8_cases_45 : decode cX8_cases 45 = .ok (.istore_n 2, 1) := by decide +kernel
theorem dX8_cases_46 : decode cX8_cases 46 = .ok (.iinc 3 1, 3) := by decide +kernel
theorem dX8_cases_49 : decode cX8_cases 49 = .ok (.goto (-45), 3) := by decide +kernel
theorem dX8_cases_52 : decode cX8_cases 52 = .ok (.iload_n 2, 1) := by decide +kernel
theorem dX8_cases_53 : decode cX8_cases 53 = .ok (.ireturn, 1) := by decide +kernel
theorem dX8_summed_0 : decode cX8_summed 0 = .ok (.iconst 0, 1) := by decide +kernel
theorem dX8_summed_1 : decode cX8_summed 1 = .ok (.istore_n 2, 1) := by decide +kernel
theorem dX8_summed_2 : decode cX8_summed 2 = .ok (.iconst 0, 1) := by decide +kernel
theorem dX8_summed_3 : decode cX8_summed 3 = .ok (.istore_n 3, 1) := by decide +kernel
theorem dX8_summed_4 : decode cX8_summed 4 = .ok (.iload_n 3, 1) := by decide +kernel
theorem dX8_summed_5 : decode cX8_summed 5 = .ok (.aload_n 0, 1) := by decide +kernel
theorem dX8_summed_6 : decode cX8_summed 6 = .ok (.getfield 7, 3) := by decide +kernel
theorem dX8_summed_9 : decode cX8_summed 9 = .ok (.iconst 0, 1) := by decide +kernel
theorem dX8_summed_10 : decode cX8_summed 10 = .ok (.iaload, 1) := by decide +kernel
theorem dX8_summed_11 : decode cX8_summed 11 = .ok (.if_icmp .ge 18, 3) := by decide +kernel
theorem dX8_summed_14 : decode cX8_summed 14 = .ok (.iload_n 2, 1) := by decide +kernel
theorem dX8_summed_15 : decode cX8_summed 15 = .ok (.aload_n 0, 1) := by decide +kernel
theorem dX8_summed_16 : decode cX8_summed 16 = .ok (.iload_n 3, 1) := by decide +kernel
theorem dX8_summed_17 : decode cX8_summed 17 = .ok (.iload_n 1, 1) := by decide +kernel
theorem dX8_summed_18 : decode cX8_summed 18 = .ok (.invokevirtual 100, 3) := by decide +kernel
theorem dX8_summed_21 : decode cX8_summed 21 = .ok (.iadd, 1) := by decide +kernel
theorem dX8_summed_22 : decode cX8_summed 22 = .ok (.istore_n 2, 1) := by decide +kernel
theorem dX8_summed_23 : decode cX8_summed 23 = .ok (.iinc 3 1, 3) := by decide +kernel
theorem dX8_summed_26 : decode cX8_summed 26 = .ok (.goto (-22), 3) := by decide +kernel
theorem dX8_summed_29 : decode cX8_summed 29 = .ok (.iload_n 2, 1) := by decide +kernel
theorem dX8_summed_30 : decode cX8_summed 30 = .ok (.ireturn, 1) := by decide +kernel
theorem dX8_account_0 : decode cX8_account 0 = .ok (.aload_n 0, 1) := by decide +kernel
theorem dX8_account_1 : decode cX8_account 1 = .ok (.iload_n 1, 1) := by decide +kernel
theorem dX8_account_2 : decode cX8_account 2 = .ok (.iconst 0, 1) := by decide +kernel
theorem dX8_account_3 : decode cX8_account 3 = .ok (.bipush 11, 2) := by decide +kernel
theorem dX8_account_5 : decode cX8_account 5 = .ok (.invokestatic 65, 3) := by decide +kernel
theorem dX8_account_8 : decode cX8_account 8 = .ok (.ifCond .eq 7, 3) := by decide +kernel
theorem dX8_account_11 : decode cX8_account 11 = .ok (.iconst 0, 1) := by decide +kernel
theorem dX8_account_12 : decode cX8_account 12 = .ok (.goto 4, 3) := by decide +kernel
theorem dX8_account_15 : decode cX8_account 15 = .ok (.iconst 1, 1) := by decide +kernel
theorem dX8_account_16 : decode cX8_account 16 = .ok (.invokevirtual 73, 3) := by decide +kernel
theorem dX8_account_19 : decode cX8_account 19 = .ok (.ifCond .eq 5, 3) := by decide +kernel
theorem dX8_account_22 : decode cX8_account 22 = .ok (.iconst 0, 1) := by decide +kernel
theorem dX8_account_23 : decode cX8_account 23 = .ok (.ireturn, 1) := by decide +kernel
theorem dX8_account_24 : decode cX8_account 24 = .ok (.iload_n 1, 1) := by decide +kernel
theorem dX8_account_25 : decode cX8_account 25 = .ok (.tableswitch 97 4 11 #[47, 53, 59, 66, 73, 81, 87, 92], 47) := by decide +kernel
theorem dX8_account_72 : decode cX8_account 72 = .ok (.aload_n 0, 1) := by decide +kernel
theorem dX8_account_73 : decode cX8_account 73 = .ok (.iconst 0, 1) := by decide +kernel
theorem dX8_account_74 : decode cX8_account 74 = .ok (.invokevirtual 266, 3) := by decide +kernel
theorem dX8_account_77 : decode cX8_account 77 = .ok (.ireturn, 1) := by decide +kernel
theorem dX8_account_78 : decode cX8_account 78 = .ok (.aload_n 0, 1) := by decide +kernel
theorem dX8_account_79 : decode cX8_account 79 = .ok (.iconst 1, 1) := by decide +kernel
theorem dX8_account_80 : decode cX8_account 80 = .ok (.invokevirtual 266, 3) := by decide +kernel
theorem dX8_account_83 : decode cX8_account 83 = .ok (.ireturn, 1) := by decide +kernel
theorem dX8_account_84 : decode cX8_account 84 = .ok (.aload_n 0, 1) := by decide +kernel
theorem dX8_account_85 : decode cX8_account 85 = .ok (.getfield 7, 3) := by decide +kernel
theorem dX8_account_88 : decode cX8_account 88 = .ok (.iconst 4, 1) := by decide +kernel
theorem dX8_account_89 : decode cX8_account 89 = .ok (.iaload, 1) := by decide +kernel
theorem dX8_account_90 : decode cX8_account 90 = .ok (.ireturn, 1) := by decide +kernel
theorem dX8_account_91 : decode cX8_account 91 = .ok (.aload_n 0, 1) := by decide +kernel
theorem dX8_account_92 : decode cX8_account 92 = .ok (.getfield 7, 3) := by decide +kernel
theorem dX8_account_95 : decode cX8_account 95 = .ok (.iconst 5, 1) := by decide +kernel
theorem dX8_account_96 : decode cX8_account 96 = .ok (.iaload, 1) := by decide +kernel
theorem dX8_account_97 : decode cX8_account 97 = .ok (.ireturn, 1) := by decide +kernel
theorem dX8_account_98 : decode cX8_account 98 = .ok (.aload_n 0, 1) := by decide +kernel
theorem dX8_account_99 : decode cX8_account 99 = .ok (.getfield 7, 3) := by decide +kernel
theorem dX8_account_102 : decode cX8_account 102 = .ok (.bipush 6, 2) := by decide +kernel
theorem dX8_account_104 : decode cX8_account 104 = .ok (.iaload, 1) := by decide +kernel
theorem dX8_account_105 : decode cX8_account 105 = .ok (.ireturn, 1) := by decide +kernel
theorem dX8_account_106 : decode cX8_account 106 = .ok (.aload_n 0, 1) := by decide +kernel
theorem dX8_account_107 : decode cX8_account 107 = .ok (.iconst 1, 1) := by decide +kernel
theorem dX8_account_108 : decode cX8_account 108 = .ok (.invokevirtual 270, 3) := by decide +kernel
theorem dX8_account_111 : decode cX8_account 111 = .ok (.ireturn, 1) := by decide +kernel
theorem dX8_account_112 : decode cX8_account 112 = .ok (.aload_n 0, 1) := by decide +kernel
theorem dX8_account_113 : decode cX8_account 113 = .ok (.getfield 180, 3) := by decide +kernel
theorem dX8_account_116 : decode cX8_account 116 = .ok (.ireturn, 1) := by decide +kernel
theorem dX8_account_117 : decode cX8_account 117 = .ok (.aload_n 0, 1) := by decide +kernel
theorem dX8_account_118 : decode cX8_account 118 = .ok (.getfield 58, 3) := by decide +kernel
theorem dX8_account_121 : decode cX8_account 121 = .ok (.ireturn, 1) := by decide +kernel
theorem dX8_account_122 : decode cX8_account 122 = .ok (.aload_n 0, 1) := by decide +kernel
theorem dX8_account_123 : decode cX8_account 123 = .ok (.getfield 7, 3) := by decide +kernel
theorem dX8_account_126 : decode cX8_account 126 = .ok (.iload_n 1, 1) := by decide +kernel
theorem dX8_account_127 : decode cX8_account 127 = .ok (.iaload, 1) := by decide +kernel
theorem dX8_account_128 : decode cX8_account 128 = .ok (.ireturn, 1) := by decide +kernel
theorem dX8_isWell_0 : decode cX8_isWell 0 = .ok (.aload_n 0, 1) := by decide +kernel
theorem dX8_isWell_1 : decode cX8_isWell 1 = .ok (.iconst 0, 1) := by decide +kernel
theorem dX8_isWell_2 : decode cX8_isWell 2 = .ok (.putfield 42, 3) := by decide +kernel
theorem dX8_isWell_5 : decode cX8_isWell 5 = .ok (.iconst 0, 1) := by decide +kernel
theorem dX8_isWell_6 : decode cX8_isWell 6 = .ok (.istore_n 1, 1) := by decide +kernel
theorem dX8_isWell_7 : decode cX8_isWell 7 = .ok (.iload_n 1, 1) := by decide +kernel
theorem dX8_isWell_8 : decode cX8_isWell 8 = .ok (.aload_n 0, 1) := by decide +kernel
theorem dX8_isWell_9 : decode cX8_isWell 9 = .ok (.getfield 7, 3) := by decide +kernel
theorem dX8_isWell_12 : decode cX8_isWell 12 = .ok (.iconst 0, 1) := by decide +kernel
theorem dX8_isWell_13 : decode cX8_isWell 13 = .ok (.iaload, 1) := by decide +kernel
theorem dX8_isWell_14 : decode cX8_isWell 14 = .ok (.if_icmp .ge 20, 3) := by decide +kernel
theorem dX8_isWell_17 : decode cX8_isWell 17 = .ok (.aload_n 0, 1) := by decide +kernel
theorem dX8_isWell_18 : decode cX8_isWell 18 = .ok (.iload_n 1, 1) := by decide +kernel
theorem dX8_isWell_19 : decode cX8_isWell 19 = .ok (.invokevirtual 96, 3) := by decide +kernel
theorem dX8_isWell_22 : decode cX8_isWell 22 = .ok (.iconst 3, 1) := by decide +kernel
theorem dX8_isWell_23 : decode cX8_isWell 23 = .ok (.if_icmp .le 5, 3) := by decide +kernel
theorem dX8_isWell_26 : decode cX8_isWell 26 = .ok (.iconst 0, 1) := by decide +kernel
theorem dX8_isWell_27 : decode cX8_isWell 27 = .ok (.ireturn, 1) := by decide +kernel
theorem dX8_isWell_28 : decode cX8_isWell 28 = .ok (.iinc 1 1, 3) := by decide +kernel
theorem dX8_isWell_31 : decode cX8_isWell 31 = .ok (.goto (-24), 3) := by decide +kernel
theorem dX8_isWell_34 : decode cX8_isWell 34 = .ok (.iconst 1, 1) := by decide +kernel
theorem dX8_isWell_35 : decode cX8_isWell 35 = .ok (.ireturn, 1) := by decide +kernel
theorem dX8_meanLeaning_0 : decode cX8_meanLeaning 0 = .ok (.aload_n 0, 1) := by decide +kernel
theorem dX8_meanLeaning_1 : decode cX8_meanLeaning 1 = .ok (.aload_n 0, 1) := by decide +kernel
theorem dX8_meanLeaning_2 : decode cX8_meanLeaning 2 = .ok (.getfield 7, 3) := by decide +kernel
theorem dX8_meanLeaning_5 : decode cX8_meanLeaning 5 = .ok (.iconst 0, 1) := by decide +kernel
theorem dX8_meanLeaning_6 : decode cX8_meanLeaning 6 = .ok (.iaload, 1) := by decide +kernel
theorem dX8_meanLeaning_7 : decode cX8_meanLeaning 7 = .ok (.ifCond .ne 7, 3) := by decide +kernel
theorem dX8_meanLeaning_10 : decode cX8_meanLeaning 10 = .ok (.iconst 1, 1) := by decide +kernel
theorem dX8_meanLeaning_11 : decode cX8_meanLeaning 11 = .ok (.goto 4, 3) := by decide +kernel
theorem dX8_meanLeaning_14 : decode cX8_meanLeaning 14 = .ok (.iconst 0, 1) := by decide +kernel
theorem dX8_meanLeaning_15 : decode cX8_meanLeaning 15 = .ok (.invokevirtual 73, 3) := by decide +kernel
theorem dX8_meanLeaning_18 : decode cX8_meanLeaning 18 = .ok (.ifCond .eq 7, 3) := by decide +kernel
theorem dX8_meanLeaning_21 : decode cX8_meanLeaning 21 = .ok (.dconst 0, 1) := by decide +kernel
theorem dX8_meanLeaning_22 : decode cX8_meanLeaning 22 = .ok (.goto 17, 3) := by decide +kernel
theorem dX8_meanLeaning_25 : decode cX8_meanLeaning 25 = .ok (.aload_n 0, 1) := by decide +kernel
theorem dX8_meanLeaning_26 : decode cX8_meanLeaning 26 = .ok (.iconst 0, 1) := by decide +kernel
theorem dX8_meanLeaning_27 : decode cX8_meanLeaning 27 = .ok (.invokevirtual 270, 3) := by decide +kernel
theorem dX8_meanLeaning_30 : decode cX8_meanLeaning 30 = .ok (.i2d, 1) := by decide +kernel
theorem dX8_meanLeaning_31 : decode cX8_meanLeaning 31 = .ok (.aload_n 0, 1) := by decide +kernel
theorem dX8_meanLeaning_32 : decode cX8_meanLeaning 32 = .ok (.getfield 7, 3) := by decide +kernel
theorem dX8_meanLeaning_35 : decode cX8_meanLeaning 35 = .ok (.iconst 0, 1) := by decide +kernel
theorem dX8_meanLeaning_36 : decode cX8_meanLeaning 36 = .ok (.iaload, 1) := by decide +kernel
theorem dX8_meanLeaning_37 : decode cX8_meanLeaning 37 = .ok (.i2d, 1) := by decide +kernel
theorem dX8_meanLeaning_38 : decode cX8_meanLeaning 38 = .ok (.ddiv, 1) := by decide +kernel
theorem dX8_meanLeaning_39 : decode cX8_meanLeaning 39 = .ok (.dreturn, 1) := by decide +kernel
theorem dX8_unsaidShare_0 : decode cX8_unsaidShare 0 = .ok (.aload_n 0, 1) := by decide +kernel
theorem dX8_unsaidShare_1 : decode cX8_unsaidShare 1 = .ok (.aload_n 0, 1) := by decide +kernel
theorem dX8_unsaidShare_2 : decode cX8_unsaidShare 2 = .ok (.getfield 7, 3) := by decide +kernel
theorem dX8_unsaidShare_5 : decode cX8_unsaidShare 5 = .ok (.iconst 4, 1) := by decide +kernel
theorem dX8_unsaidShare_6 : decode cX8_unsaidShare 6 = .ok (.iaload, 1) := by decide +kernel
theorem dX8_unsaidShare_7 : decode cX8_unsaidShare 7 = .ok (.ifCond .ne 7, 3) := by decide +kernel
theorem dX8_unsaidShare_10 : decode cX8_unsaidShare 10 = .ok (.iconst 1, 1) := by decide +kernel
theorem dX8_unsaidShare_11 : decode cX8_unsaidShare 11 = .ok (.goto 4, 3) := by decide +kernel
theorem dX8_unsaidShare_14 : decode cX8_unsaidShare 14 = .ok (.iconst 0, 1) := by decide +kernel
theorem dX8_unsaidShare_15 : decode cX8_unsaidShare 15 = .ok (.invokevirtual 73, 3) := by decide +kernel
theorem dX8_unsaidShare_18 : decode cX8_unsaidShare 18 = .ok (.ifCond .eq 7, 3) := by decide +kernel
theorem dX8_unsaidShare_21 : decode cX8_unsaidShare 21 = .ok (.fconst 0, 1) := by decide +kernel
theorem dX8_unsaidShare_22 : decode cX8_unsaidShare 22 = .ok (.goto 18, 3) := by decide +kernel
theorem dX8_unsaidShare_25 : decode cX8_unsaidShare 25 = .ok (.aload_n 0, 1) := by decide +kernel
theorem dX8_unsaidShare_26 : decode cX8_unsaidShare 26 = .ok (.getfield 7, 3) := by decide +kernel
theorem dX8_unsaidShare_29 : decode cX8_unsaidShare 29 = .ok (.iconst 5, 1) := by decide +kernel
theorem dX8_unsaidShare_30 : decode cX8_unsaidShare 30 = .ok (.iaload, 1) := by decide +kernel
theorem dX8_unsaidShare_31 : decode cX8_unsaidShare 31 = .ok (.i2f, 1) := by decide +kernel
theorem dX8_unsaidShare_32 : decode cX8_unsaidShare 32 = .ok (.aload_n 0, 1) := by decide +kernel
theorem dX8_unsaidShare_33 : decode cX8_unsaidShare 33 = .ok (.getfield 7, 3) := by decide +kernel
theorem dX8_unsaidShare_36 : decode cX8_unsaidShare 36 = .ok (.iconst 4, 1) := by decide +kernel
theorem dX8_unsaidShare_37 : decode cX8_unsaidShare 37 = .ok (.iaload, 1) := by decide +kernel
theorem dX8_unsaidShare_38 : decode cX8_unsaidShare 38 = .ok (.i2f, 1) := by decide +kernel
theorem dX8_unsaidShare_39 : decode cX8_unsaidShare 39 = .ok (.fdiv, 1) := by decide +kernel
theorem dX8_unsaidShare_40 : decode cX8_unsaidShare 40 = .ok (.freturn, 1) := by decide +kernel
theorem dX8_undo_0 : decode cX8_undo 0 = .ok (.aload_n 0, 1) := by decide +kernel
theorem dX8_undo_1 : decode cX8_undo 1 = .ok (.aload_n 0, 1) := by decide +kernel
theorem dX8_undo_2 : decode cX8_undo 2 = .ok (.getfield 58, 3) := by decide +kernel
theorem dX8_undo_5 : decode cX8_undo 5 = .ok (.ifCond .ne 7, 3) := by decide +kernel
theorem dX8_undo_8 : decode cX8_undo 8 = .ok (.iconst 1, 1) := by decide +kernel
theorem dX8_undo_9 : decode cX8_undo 9 = .ok (.goto 4, 3) := by decide +kernel
theorem dX8_undo_12 : decode cX8_undo 12 = .ok (.iconst 0, 1) := by decide +kernel
theorem dX8_undo_13 : decode cX8_undo 13 = .ok (.invokevirtual 73, 3) := by decide +kernel
theorem dX8_undo_16 : decode cX8_undo 16 = .ok (.ifCond .eq 5, 3) := by decide +kernel
theorem dX8_undo_19 : decode cX8_undo 19 = .ok (.iconst 0, 1) := by decide +kernel
theorem dX8_undo_20 : decode cX8_undo 20 = .ok (.ireturn, 1) := by decide +kernel
theorem dX8_undo_21 : decode cX8_undo 21 = .ok (.aload_n 0, 1) := by decide +kernel
theorem dX8_undo_22 : decode cX8_undo 22 = .ok (.dup, 1) := by decide +kernel
theorem dX8_undo_23 : decode cX8_undo 23 = .ok (.getfield 58, 3) := by decide +kernel
theorem dX8_undo_26 : decode cX8_undo 26 = .ok (.iconst 1, 1) := by decide +kernel
theorem dX8_undo_27 : decode cX8_undo 27 = .ok (.isub, 1) := by decide +kernel
theorem dX8_undo_28 : decode cX8_undo 28 = .ok (.putfield 58, 3) := by decide +kernel
theorem dX8_undo_31 : decode cX8_undo 31 = .ok (.aload_n 0, 1) := by decide +kernel
theorem dX8_undo_32 : decode cX8_undo 32 = .ok (.getfield 13, 3) := by decide +kernel
theorem dX8_undo_35 : decode cX8_undo 35 = .ok (.bipush 124, 2) := by decide +kernel
theorem dX8_undo_37 : decode cX8_undo 37 = .ok (.aload_n 0, 1) := by decide +kernel
theorem dX8_undo_38 : decode cX8_undo 38 = .ok (.getfield 58, 3) := by decide +kernel
theorem dX8_undo_41 : decode cX8_undo 41 = .ok (.imul, 1) := by decide +kernel
theorem dX8_undo_42 : decode cX8_undo 42 = .ok (.aload_n 0, 1) := by decide +kernel
theorem dX8_undo_43 : decode cX8_undo 43 = .ok (.getfield 7, 3) := by decide +kernel
theorem dX8_undo_46 : decode cX8_undo 46 = .ok (.iconst 0, 1) := by decide +kernel
theorem dX8_undo_47 : decode cX8_undo 47 = .ok (.invokestatic 61, 3) := by decide +kernel
theorem dX8_undo_50 : decode cX8_undo 50 = .ok (.aload_n 0, 1) := by decide +kernel
theorem dX8_undo_51 : decode cX8_undo 51 = .ok (.getfield 58, 3) := by decide +kernel
theorem dX8_undo_54 : decode cX8_undo 54 = .ok (.ireturn, 1) := by decide +kernel
theorem dX8_save_0 : decode cX8_save 0 = .ok (.aload_n 0, 1) := by decide +kernel
theorem dX8_save_1 : decode cX8_save 1 = .ok (.iconst 0, 1) := by decide +kernel
theorem dX8_save_2 : decode cX8_save 2 = .ok (.putfield 42, 3) := by decide +kernel
theorem dX8_save_5 : decode cX8_save 5 = .ok (.aload_n 0, 1) := by decide +kernel
theorem dX8_save_6 : decode cX8_save 6 = .ok (.iconst 1, 1) := by decide +kernel
theorem dX8_save_7 : decode cX8_save 7 = .ok (.putfield 273, 3) := by decide +kernel
theorem dX8_save_10 : decode cX8_save 10 = .ok (.aload_n 0, 1) := by decide +kernel
theorem dX8_save_11 : decode cX8_save 11 = .ok (.getfield 7, 3) := by decide +kernel
theorem dX8_save_14 : decode cX8_save 14 = .ok (.iconst 0, 1) := by decide +kernel
theorem dX8_save_15 : decode cX8_save 15 = .ok (.aload_n 0, 1) := by decide +kernel
theorem dX8_save_16 : decode cX8_save 16 = .ok (.getfield 16, 3) := by decide +kernel
theorem dX8_save_19 : decode cX8_save 19 = .ok (.iconst 0, 1) := by decide +kernel
theorem dX8_save_20 : decode cX8_save 20 = .ok (.invokestatic 61, 3) := by decide +kernel
theorem dX8_save_23 : decode cX8_save 23 = .ok (.aload_n 0, 1) := by decide +kernel
theorem dX8_save_24 : decode cX8_save 24 = .ok (.getfield 7, 3) := by decide +kernel
theorem dX8_save_27 : decode cX8_save 27 = .ok (.iconst 1, 1) := by decide +kernel
theorem dX8_save_28 : decode cX8_save 28 = .ok (.iaload, 1) := by decide +kernel
theorem dX8_save_29 : decode cX8_save 29 = .ok (.ireturn, 1) := by decide +kernel
theorem dX8_restore_0 : decode cX8_restore 0 = .ok (.aload_n 0, 1) := by decide +kernel
theorem dX8_restore_1 : decode cX8_restore 1 = .ok (.aload_n 0, 1) := by decide +kernel
theorem dX8_restore_2 : decode cX8_restore 2 = .ok (.getfield 273, 3) := by decide +kernel
theorem dX8_restore_5 : decode cX8_restore 5 = .ok (.ifCond .eq 7, 3) := by decide +kernel
theorem dX8_restore_8 : decode cX8_restore 8 = .ok (.iconst 0, 1) := by decide +kernel
theorem dX8_restore_9 : decode cX8_restore 9 = .ok (.goto 4, 3) := by decide +kernel
theorem dX8_restore_12 : decode cX8_restore 12 = .ok (.iconst 1, 1) := by decide +kernel
theorem dX8_restore_13 : decode cX8_restore 13 = .ok (.invokevirtual 73, 3) := by decide +kernel
theorem dX8_restore_16 : decode cX8_restore 16 = .ok (.ifCond .eq 5, 3) := by decide +kernel
theorem dX8_restore_19 : decode cX8_restore 19 = .ok (.iconst 0, 1) := by decide +kernel
theorem dX8_restore_20 : decode cX8_restore 20 = .ok (.ireturn, 1) := by decide +kernel
theorem dX8_restore_21 : decode cX8_restore 21 = .ok (.aload_n 0, 1) := by decide +kernel
theorem dX8_restore_22 : decode cX8_restore 22 = .ok (.getfield 16, 3) := by decide +kernel
theorem dX8_restore_25 : decode cX8_restore 25 = .ok (.iconst 0, 1) := by decide +kernel
theorem dX8_restore_26 : decode cX8_restore 26 = .ok (.aload_n 0, 1) := by decide +kernel
theorem dX8_restore_27 : decode cX8_restore 27 = .ok (.getfield 7, 3) := by decide +kernel
theorem dX8_restore_30 : decode cX8_restore 30 = .ok (.iconst 0, 1) := by decide +kernel
theorem dX8_restore_31 : decode cX8_restore 31 = .ok (.invokestatic 61, 3) := by decide +kernel
theorem dX8_restore_34 : decode cX8_restore 34 = .ok (.aload_n 0, 1) := by decide +kernel
theorem dX8_restore_35 : decode cX8_restore 35 = .ok (.iconst 0, 1) := by decide +kernel
theorem dX8_restore_36 : decode cX8_restore 36 = .ok (.putfield 58, 3) := by decide +kernel
theorem dX8_restore_39 : decode cX8_restore 39 = .ok (.aload_n 0, 1) := by decide +kernel
theorem dX8_restore_40 : decode cX8_restore 40 = .ok (.getfield 7, 3) := by decide +kernel
theorem dX8_restore_43 : decode cX8_restore 43 = .ok (.iconst 1, 1) := by decide +kernel
theorem dX8_restore_44 : decode cX8_restore 44 = .ok (.iaload, 1) := by decide +kernel
theorem dX8_restore_45 : decode cX8_restore 45 = .ok (.ireturn, 1) := by decide +kernel
theorem dJx00060_init_a7421_0 : decode cJx00060_init_a7421 0 = .ok (.aload_n 0, 1) := by decide +kernel
theorem dJx00060_init_a7421_1 : decode cJx00060_init_a7421 1 = .ok (.aload_n 1, 1) := by decide +kernel
theorem dJx00060_init_a7421_2 : decode cJx00060_init_a7421 2 = .ok (.invokespecial 7, 3) := by decide +kernel
theorem dJx00060_init_a7421_5 : decode cJx00060_init_a7421 5 = .ok (.return_, 1) := by decide +kernel
theorem dJ9_max_7cf53_0 : decode cJ9_max_7cf53 0 = .ok (.iload_n 0, 1) := by decide +kernel
theorem dJ9_max_7cf53_1 : decode cJ9_max_7cf53 1 = .ok (.iload_n 1, 1) := by decide +kernel
theorem dJ9_max_7cf53_2 : decode cJ9_max_7cf53 2 = .ok (.if_icmp .lt 7, 3) := by decide +kernel
theorem dJ9_max_7cf53_5 : decode cJ9_max_7cf53 5 = .ok (.iload_n 0, 1) := by decide +kernel
theorem dJ9_max_7cf53_6 : decode cJ9_max_7cf53 6 = .ok (.goto 4, 3) := by decide +kernel
theorem dJ9_max_7cf53_9 : decode cJ9_max_7cf53 9 = .ok (.iload_n 1, 1) := by decide +kernel
theorem dJ9_max_7cf53_10 : decode cJ9_max_7cf53 10 = .ok (.ireturn, 1) := by decide +kernel
theorem dJ9_min_7cf53_0 : decode cJ9_min_7cf53 0 = .ok (.iload_n 0, 1) := by decide +kernel
theorem dJ9_min_7cf53_1 : decode cJ9_min_7cf53 1 = .ok (.iload_n 1, 1) := by decide +kernel
theorem dJ9_min_7cf53_2 : decode cJ9_min_7cf53 2 = .ok (.if_icmp .gt 7, 3) := by decide +kernel
theorem dJ9_min_7cf53_5 : decode cJ9_min_7cf53 5 = .ok (.iload_n 0, 1) := by decide +kernel
theorem dJ9_min_7cf53_6 : decode cJ9_min_7cf53 6 = .ok (.goto 4, 3) := by decide +kernel
theorem dJ9_min_7cf53_9 : decode cJ9_min_7cf53 9 = .ok (.iload_n 1, 1) := by decide +kernel
theorem dJ9_min_7cf53_10 : decode cJ9_min_7cf53 10 = .ok (.ireturn, 1) := by decide +kernel
theorem dJ0_length_8abf5_0 : decode cJ0_length_8abf5 0 = .ok (.aload_n 0, 1) := by decide +kernel
theorem dJ0_length_8abf5_1 : decode cJ0_length_8abf5 1 = .ok (.getfield 9, 3) := by decide +kernel
theorem dJ0_length_8abf5_4 : decode cJ0_length_8abf5 4 = .ok (.arraylength, 1) := by decide +kernel
theorem dJ0_length_8abf5_5 : decode cJ0_length_8abf5 5 = .ok (.aload_n 0, 1) := by decide +kernel
theorem dJ0_length_8abf5_6 : decode cJ0_length_8abf5 6 = .ok (.invokevirtual 335, 3) := by decide +kernel
theorem dJ0_length_8abf5_9 : decode cJ0_length_8abf5 9 = .ok (.ishr, 1) := by decide +kernel
theorem dJ0_length_8abf5_10 : decode cJ0_length_8abf5 10 = .ok (.ireturn, 1) := by decide +kernel
theorem dJ0_charAt_5068e_0 : decode cJ0_charAt_5068e 0 = .ok (.aload_n 0, 1) := by decide +kernel
theorem dJ0_charAt_5068e_1 : decode cJ0_charAt_5068e 1 = .ok (.invokevirtual 492, 3) := by decide +kernel
theorem dJ0_charAt_5068e_4 : decode cJ0_charAt_5068e 4 = .ok (.ifCond .eq 12, 3) := by decide +kernel
theorem dJ0_charAt_5068e_7 : decode cJ0_charAt_5068e 7 = .ok (.aload_n 0, 1) := by decide +kernel
theorem dJ0_charAt_5068e_8 : decode cJ0_charAt_5068e 8 = .ok (.getfield 9, 3) := by decide +kernel
theorem dJ0_charAt_5068e_11 : decode cJ0_charAt_5068e 11 = .ok (.iload_n 1, 1) := by decide +kernel
theorem dJ0_charAt_5068e_12 : decode cJ0_charAt_5068e 12 = .ok (.invokestatic 495, 3) := by decide +kernel
theorem dJ0_charAt_5068e_15 : decode cJ0_charAt_5068e 15 = .ok (.ireturn, 1) := by decide +kernel
theorem dJ0_charAt_5068e_16 : decode cJ0_charAt_5068e 16 = .ok (.aload_n 0, 1) := by decide +kernel
theorem dJ0_charAt_5068e_17 : decode cJ0_charAt_5068e 17 = .ok (.getfield 9, 3) := by decide +kernel
theorem dJ0_charAt_5068e_20 : decode cJ0_charAt_5068e 20 = .ok (.iload_n 1, 1) := by decide +kernel
theorem dJ0_charAt_5068e_21 : decode cJ0_charAt_5068e 21 = .ok (.invokestatic 498, 3) := by decide +kernel
theorem dJ0_charAt_5068e_24 : decode cJ0_charAt_5068e 24 = .ok (.ireturn, 1) := by decide +kernel
theorem dJ0_coder_7d493_0 : decode cJ0_coder_7d493 0 = .ok (.getstatic 38, 3) := by decide +kernel
theorem dJ0_coder_7d493_3 : decode cJ0_coder_7d493 3 = .ok (.ifCond .eq 10, 3) := by decide +kernel
theorem dJ0_coder_7d493_6 : decode cJ0_coder_7d493 6 = .ok (.aload_n 0, 1) := by decide +kernel
theorem dJ0_coder_7d493_7 : decode cJ0_coder_7d493 7 = .ok (.getfield 15, 3) := by decide +kernel
theorem dJ0_coder_7d493_10 : decode cJ0_coder_7d493 10 = .ok (.goto 4, 3) := by decide +kernel
theorem dJ0_coder_7d493_13 : decode cJ0_coder_7d493 13 = .ok (.iconst 1, 1) := by decide +kernel
theorem dJ0_coder_7d493_14 : decode cJ0_coder_7d493 14 = .ok (.ireturn, 1) := by decide +kernel
theorem dJ0_isLatin1_aae02_0 : decode cJ0_isLatin1_aae02 0 = .ok (.getstatic 38, 3) := by decide +kernel
theorem dJ0_isLatin1_aae02_3 : decode cJ0_isLatin1_aae02 3 = .ok (.ifCond .eq 14, 3) := by decide +kernel
theorem dJ0_isLatin1_aae02_6 : decode cJ0_isLatin1_aae02 6 = .ok (.aload_n 0, 1) := by decide +kernel
theorem dJ0_isLatin1_aae02_7 : decode cJ0_isLatin1_aae02 7 = .ok (.getfield 15, 3) := by decide +kernel
theorem dJ0_isLatin1_aae02_10 : decode cJ0_isLatin1_aae02 10 = .ok (.ifCond .ne 7, 3) := by decide +kernel
theorem dJ0_isLatin1_aae02_13 : decode cJ0_isLatin1_aae02 13 = .ok (.iconst 1, 1) := by decide +kernel
theorem dJ0_isLatin1_aae02_14 : decode cJ0_isLatin1_aae02 14 = .ok (.goto 4, 3) := by decide +kernel
theorem dJ0_isLatin1_aae02_17 : decode cJ0_isLatin1_aae02 17 = .ok (.iconst 0, 1) := by decide +kernel
theorem dJ0_isLatin1_aae02_18 : decode cJ0_isLatin1_aae02 18 = .ok (.ireturn, 1) := by decide +kernel
theorem dJ0_checkIndex_df160_0 : decode cJ0_checkIndex_df160 0 = .ok (.iload_n 0, 1) := by decide +kernel
theorem dJ0_checkIndex_df160_1 : decode cJ0_checkIndex_df160 1 = .ok (.iload_n 1, 1) := by decide +kernel
theorem dJ0_checkIndex_df160_2 : decode cJ0_checkIndex_df160 2 = .ok (.getstatic 1053, 3) := by decide +kernel
theorem dJ0_checkIndex_df160_5 : decode cJ0_checkIndex_df160 5 = .ok (.invokestatic 1059, 3) := by decide +kernel
theorem dJ0_checkIndex_df160_8 : decode cJ0_checkIndex_df160 8 = .ok (.pop, 1) := by decide +kernel
theorem dJ0_checkIndex_df160_9 : decode cJ0_checkIndex_df160 9 = .ok (.return_, 1) := by decide +kernel
theorem dJ1_charAt_3b067_0 : decode cJ1_charAt_3b067 0 = .ok (.iload_n 1, 1) := by decide +kernel
theorem dJ1_charAt_3b067_1 : decode cJ1_charAt_3b067 1 = .ok (.aload_n 0, 1) := by decide +kernel
theorem dJ1_charAt_3b067_2 : decode cJ1_charAt_3b067 2 = .ok (.arraylength, 1) := by decide +kernel
theorem dJ1_charAt_3b067_3 : decode cJ1_charAt_3b067 3 = .ok (.invokestatic 9, 3) := by decide +kernel
theorem dJ1_charAt_3b067_6 : decode cJ1_charAt_3b067 6 = .ok (.aload_n 0, 1) := by decide +kernel
theorem dJ1_charAt_3b067_7 : decode cJ1_charAt_3b067 7 = .ok (.iload_n 1, 1) := by decide +kernel
theorem dJ1_charAt_3b067_8 : decode cJ1_charAt_3b067 8 = .ok (.baload, 1) := by decide +kernel
theorem dJ1_charAt_3b067_9 : decode cJ1_charAt_3b067 9 = .ok (.sipush 255, 3) := by decide +kernel
theorem dJ1_charAt_3b067_12 : decode cJ1_charAt_3b067 12 = .ok (.iand, 1) := by decide +kernel
theorem dJ1_charAt_3b067_13 : decode cJ1_charAt_3b067 13 = .ok (.i2c, 1) := by decide +kernel
theorem dJ1_charAt_3b067_14 : decode cJ1_charAt_3b067 14 = .ok (.ireturn, 1) := by decide +kernel
theorem dJ2_getChar_3b067_0 : decode cJ2_getChar_3b067 0 = .ok (.getstatic 44, 3) := by decide +kernel
theorem dJ2_getChar_3b067_3 : decode cJ2_getChar_3b067 3 = .ok (.ifCond .ne 25, 3) := by decide +kernel
theorem dJ2_getChar_3b067_6 : decode cJ2_getChar_3b067 6 = .ok (.iload_n 1, 1) := by decide +kernel
theorem dJ2_getChar_3b067_7 : decode cJ2_getChar_3b067 7 = .ok (.ifCond .lt 11, 3) := by decide +kernel
theorem dJ2_getChar_3b067_10 : decode cJ2_getChar_3b067 10 = .ok (.iload_n 1, 1) := by decide +kernel
theorem dJ2_getChar_3b067_11 : decode cJ2_getChar_3b067 11 = .ok (.aload_n 0, 1) := by decide +kernel
theorem dJ2_getChar_3b067_12 : decode cJ2_getChar_3b067 12 = .ok (.invokestatic 48, 3) := by decide +kernel
theorem dJ2_getChar_3b067_15 : decode cJ2_getChar_3b067 15 = .ok (.if_icmp .lt 13, 3) := by decide +kernel
theorem dJ2_getChar_3b067_18 : decode cJ2_getChar_3b067 18 = .ok (.new 52, 3) := by decide +kernel
theorem dJ2_getChar_3b067_21 : decode cJ2_getChar_3b067 21 = .ok (.dup, 1) := by decide +kernel
theorem dJ2_getChar_3b067_22 : decode cJ2_getChar_3b067 22 = .ok (.ldc 54, 2) := by decide +kernel
theorem dJ2_getChar_3b067_24 : decode cJ2_getChar_3b067 24 = .ok (.invokespecial 56, 3) := by decide +kernel
theorem dJ2_getChar_3b067_27 : decode cJ2_getChar_3b067 27 = .ok (.athrow, 1) := by decide +kernel
theorem dJ2_getChar_3b067_28 : decode cJ2_getChar_3b067 28 = .ok (.iload_n 1, 1) := by decide +kernel
theorem dJ2_getChar_3b067_29 : decode cJ2_getChar_3b067 29 = .ok (.iconst 1, 1) := by decide +kernel
theorem dJ2_getChar_3b067_30 : decode cJ2_getChar_3b067 30 = .ok (.ishl, 1) := by decide +kernel
theorem dJ2_getChar_3b067_31 : decode cJ2_getChar_3b067 31 = .ok (.istore_n 1, 1) := by decide +kernel
theorem dJ2_getChar_3b067_32 : decode cJ2_getChar_3b067 32 = .ok (.aload_n 0, 1) := by decide +kernel
theorem dJ2_getChar_3b067_33 : decode cJ2_getChar_3b067 33 = .ok (.iload_n 1, 1) := by decide +kernel
theorem dJ2_getChar_3b067_34 : decode cJ2_getChar_3b067 34 = .ok (.iinc 1 1, 3) := by decide +kernel
theorem dJ2_getChar_3b067_37 : decode cJ2_getChar_3b067 37 = .ok (.baload, 1) := by decide +kernel
theorem dJ2_getChar_3b067_38 : decode cJ2_getChar_3b067 38 = .ok (.sipush 255, 3) := by decide +kernel
theorem dJ2_getChar_3b067_41 : decode cJ2_getChar_3b067 41 = .ok (.iand, 1) := by decide +kernel
theorem dJ2_getChar_3b067_42 : decode cJ2_getChar_3b067 42 = .ok (.getstatic 59, 3) := by decide +kernel
theorem dJ2_getChar_3b067_45 : decode cJ2_getChar_3b067 45 = .ok (.ishl, 1) := by decide +kernel
theorem dJ2_getChar_3b067_46 : decode cJ2_getChar_3b067 46 = .ok (.aload_n 0, 1) := by decide +kernel
theorem dJ2_getChar_3b067_47 : decode cJ2_getChar_3b067 47 = .ok (.iload_n 1, 1) := by decide +kernel
theorem dJ2_getChar_3b067_48 : decode cJ2_getChar_3b067 48 = .ok (.baload, 1) := by decide +kernel
theorem dJ2_getChar_3b067_49 : decode cJ2_getChar_3b067 49 = .ok (.sipush 255, 3) := by decide +kernel
theorem dJ2_getChar_3b067_52 : decode cJ2_getChar_3b067 52 = .ok (.iand, 1) := by decide +kernel
theorem dJ2_getChar_3b067_53 : decode cJ2_getChar_3b067 53 = .ok (.getstatic 63, 3) := by decide +kernel
theorem dJ2_getChar_3b067_56 : decode cJ2_getChar_3b067 56 = .ok (.ishl, 1) := by decide +kernel
theorem dJ2_getChar_3b067_57 : decode cJ2_getChar_3b067 57 = .ok (.ior, 1) := by decide +kernel
theorem dJ2_getChar_3b067_58 : decode cJ2_getChar_3b067 58 = .ok (.i2c, 1) := by decide +kernel
theorem dJ2_getChar_3b067_59 : decode cJ2_getChar_3b067 59 = .ok (.ireturn, 1) := by decide +kernel
theorem dJ2_length_9d52b_0 : decode cJ2_length_9d52b 0 = .ok (.aload_n 0, 1) := by decide +kernel
theorem dJ2_length_9d52b_1 : decode cJ2_length_9d52b 1 = .ok (.arraylength, 1) := by decide +kernel
theorem dJ2_length_9d52b_2 : decode cJ2_length_9d52b 2 = .ok (.iconst 1, 1) := by decide +kernel
theorem dJ2_length_9d52b_3 : decode cJ2_length_9d52b 3 = .ok (.ishr, 1) := by decide +kernel
theorem dJ2_length_9d52b_4 : decode cJ2_length_9d52b 4 = .ok (.ireturn, 1) := by decide +kernel
theorem dJ2_charAt_3b067_0 : decode cJ2_charAt_3b067 0 = .ok (.iload_n 1, 1) := by decide +kernel
theorem dJ2_charAt_3b067_1 : decode cJ2_charAt_3b067 1 = .ok (.aload_n 0, 1) := by decide +kernel
theorem dJ2_charAt_3b067_2 : decode cJ2_charAt_3b067 2 = .ok (.invokestatic 67, 3) := by decide +kernel
theorem dJ2_charAt_3b067_5 : decode cJ2_charAt_3b067 5 = .ok (.aload_n 0, 1) := by decide +kernel
theorem dJ2_charAt_3b067_6 : decode cJ2_charAt_3b067 6 = .ok (.iload_n 1, 1) := by decide +kernel
theorem dJ2_charAt_3b067_7 : decode cJ2_charAt_3b067 7 = .ok (.invokestatic 71, 3) := by decide +kernel
theorem dJ2_charAt_3b067_10 : decode cJ2_charAt_3b067 10 = .ok (.ireturn, 1) := by decide +kernel
theorem dJ2_checkIndex_2214a_0 : decode cJ2_checkIndex_2214a 0 = .ok (.iload_n 0, 1) := by decide +kernel
theorem dJ2_checkIndex_2214a_1 : decode cJ2_checkIndex_2214a 1 = .ok (.aload_n 1, 1) := by decide +kernel
theorem dJ2_checkIndex_2214a_2 : decode cJ2_checkIndex_2214a 2 = .ok (.invokestatic 48, 3) := by decide +kernel
theorem dJ2_checkIndex_2214a_5 : decode cJ2_checkIndex_2214a 5 = .ok (.invokestatic 414, 3) := by decide +kernel
theorem dJ2_checkIndex_2214a_8 : decode cJ2_checkIndex_2214a 8 = .ok (.return_, 1) := by decide +kernel
theorem dJ3_checkIndex_8e157_0 : decode cJ3_checkIndex_8e157 0 = .ok (.iload_n 0, 1) := by decide +kernel
theorem dJ3_checkIndex_8e157_1 : decode cJ3_checkIndex_8e157 1 = .ok (.ifCond .lt 8, 3) := by decide +kernel
theorem dJ3_checkIndex_8e157_4 : decode cJ3_checkIndex_8e157 4 = .ok (.iload_n 0, 1) := by decide +kernel
theorem dJ3_checkIndex_8e157_5 : decode cJ3_checkIndex_8e157 5 = .ok (.iload_n 1, 1) := by decide +kernel
theorem dJ3_checkIndex_8e157_6 : decode cJ3_checkIndex_8e157 6 = .ok (.if_icmp .lt 10, 3) := by decide +kernel
theorem dJ3_checkIndex_8e157_9 : decode cJ3_checkIndex_8e157 9 = .ok (.aload_n 2, 1) := by decide +kernel
theorem dJ3_checkIndex_8e157_10 : decode cJ3_checkIndex_8e157 10 = .ok (.iload_n 0, 1) := by decide +kernel
theorem dJ3_checkIndex_8e157_11 : decode cJ3_checkIndex_8e157 11 = .ok (.iload_n 1, 1) := by decide +kernel
theorem dJ3_checkIndex_8e157_12 : decode cJ3_checkIndex_8e157 12 = .ok (.invokestatic 95, 3) := by decide +kernel
theorem dJ3_checkIndex_8e157_15 : decode cJ3_checkIndex_8e157 15 = .ok (.athrow, 1) := by decide +kernel
theorem dJ3_checkIndex_8e157_16 : decode cJ3_checkIndex_8e157 16 = .ok (.iload_n 0, 1) := by decide +kernel
theorem dJ3_checkIndex_8e157_17 : decode cJ3_checkIndex_8e157 17 = .ok (.ireturn, 1) := by decide +kernel
theorem dL_juror_0 : decode cL_juror 0 = .ok (.aload_n 3, 1) := by decide +kernel
theorem dL_juror_1 : decode cL_juror 1 = .ok (.iconst 0, 1) := by decide +kernel
theorem dL_juror_2 : decode cL_juror 2 = .ok (.aload_n 0, 1) := by decide +kernel
theorem dL_juror_3 : decode cL_juror 3 = .ok (.iload_n 1, 1) := by decide +kernel
theorem dL_juror_4 : decode cL_juror 4 = .ok (.iload_n 2, 1) := by decide +kernel
theorem dL_juror_5 : decode cL_juror 5 = .ok (.invokevirtual 7, 3) := by decide +kernel
theorem dL_juror_8 : decode cL_juror 8 = .ok (.i2l, 1) := by decide +kernel
theorem dL_juror_9 : decode cL_juror 9 = .ok (.lastore, 1) := by decide +kernel
theorem dL_juror_10 : decode cL_juror 10 = .ok (.goto 11, 3) := by decide +kernel
theorem dL_juror_13 : decode cL_juror 13 = .ok (.astore 4, 2) := by decide +kernel
theorem dL_juror_15 : decode cL_juror 15 = .ok (.iconst 1, 1) := by decide +kernel
theorem dL_juror_16 : decode cL_juror 16 = .ok (.ireturn, 1) := by decide +kernel
theorem dL_juror_17 : decode cL_juror 17 = .ok (.astore 4, 2) := by decide +kernel
theorem dL_juror_19 : decode cL_juror 19 = .ok (.iconst 2, 1) := by decide +kernel
theorem dL_juror_20 : decode cL_juror 20 = .ok (.ireturn, 1) := by decide +kernel
theorem dL_juror_21 : decode cL_juror 21 = .ok (.iconst 0, 1) := by decide +kernel
theorem dL_juror_22 : decode cL_juror 22 = .ok (.ireturn, 1) := by decide +kernel
theorem dL_bring_0 : decode cL_bring 0 = .ok (.aload_n 3, 1) := by decide +kernel
theorem dL_bring_1 : decode cL_bring 1 = .ok (.iconst 0, 1) := by decide +kernel
theorem dL_bring_2 : decode cL_bring 2 = .ok (.aload_n 0, 1) := by decide +kernel
theorem dL_bring_3 : decode cL_bring 3 = .ok (.iload_n 1, 1) := by decide +kernel
theorem dL_bring_4 : decode cL_bring 4 = .ok (.iload_n 2, 1) := by decide +kernel
theorem dL_bring_5 : decode cL_bring 5 = .ok (.invokevirtual 17, 3) := by decide +kernel
theorem dL_bring_8 : decode cL_bring 8 = .ok (.i2l, 1) := by decide +kernel
theorem dL_bring_9 : decode cL_bring 9 = .ok (.lastore, 1) := by decide +kernel
theorem dL_bring_10 : decode cL_bring 10 = .ok (.goto 11, 3) := by decide +kernel
theorem dL_bring_13 : decode cL_bring 13 = .ok (.astore 4, 2) := by decide +kernel
theorem dL_bring_15 : decode cL_bring 15 = .ok (.iconst 1, 1) := by decide +kernel
theorem dL_bring_16 : decode cL_bring 16 = .ok (.ireturn, 1) := by decide +kernel
theorem dL_bring_17 : decode cL_bring 17 = .ok (.astore 4, 2) := by decide +kernel
theorem dL_bring_19 : decode cL_bring 19 = .ok (.iconst 2, 1) := by decide +kernel
theorem dL_bring_20 : decode cL_bring 20 = .ok (.ireturn, 1) := by decide +kernel
theorem dL_bring_21 : decode cL_bring 21 = .ok (.iconst 0, 1) := by decide +kernel
theorem dL_bring_22 : decode cL_bring 22 = .ok (.ireturn, 1) := by decide +kernel
theorem dL_call_0 : decode cL_call 0 = .ok (.aload_n 2, 1) := by decide +kernel
theorem dL_call_1 : decode cL_call 1 = .ok (.iconst 0, 1) := by decide +kernel
theorem dL_call_2 : decode cL_call 2 = .ok (.aload_n 0, 1) := by decide +kernel
theorem dL_call_3 : decode cL_call 3 = .ok (.iload_n 1, 1) := by decide +kernel
theorem dL_call_4 : decode cL_call 4 = .ok (.invokevirtual 20, 3) := by decide +kernel
theorem dL_call_7 : decode cL_call 7 = .ok (.i2l, 1) := by decide +kernel
theorem dL_call_8 : decode cL_call 8 = .ok (.lastore, 1) := by decide +kernel
theorem dL_call_9 : decode cL_call 9 = .ok (.goto 9, 3) := by decide +kernel
theorem dL_call_12 : decode cL_call 12 = .ok (.astore_n 3, 1) := by decide +kernel
theorem dL_call_13 : decode cL_call 13 = .ok (.iconst 1, 1) := by decide +kernel
theorem dL_call_14 : decode cL_call 14 = .ok (.ireturn, 1) := by decide +kernel
theorem dL_call_15 : decode cL_call 15 = .ok (.astore_n 3, 1) := by decide +kernel
theorem dL_call_16 : decode cL_call 16 = .ok (.iconst 2, 1) := by decide +kernel
theorem dL_call_17 : decode cL_call 17 = .ok (.ireturn, 1) := by decide +kernel
theorem dL_call_18 : decode cL_call 18 = .ok (.iconst 0, 1) := by decide +kernel
theorem dL_call_19 : decode cL_call 19 = .ok (.ireturn, 1) := by decide +kernel
theorem dL_vote_0 : decode cL_vote 0 = .ok (.aload_n 2, 1) := by decide +kernel
theorem dL_vote_1 : decode cL_vote 1 = .ok (.iconst 0, 1) := by decide +kernel
theorem dL_vote_2 : decode cL_vote 2 = .ok (.aload_n 0, 1) := by decide +kernel
theorem dL_vote_3 : decode cL_vote 3 = .ok (.iload_n 1, 1) := by decide +kernel
theorem dL_vote_4 : decode cL_vote 4 = .ok (.invokevirtual 26, 3) := by decide +kernel
theorem dL_vote_7 : decode cL_vote 7 = .ok (.i2l, 1) := by decide +kernel
theorem dL_vote_8 : decode cL_vote 8 = .ok (.lastore, 1) := by decide +kernel
theorem dL_vote_9 : decode cL_vote 9 = .ok (.goto 9, 3) := by decide +kernel
theorem dL_vote_12 : decode cL_vote 12 = .ok (.astore_n 3, 1) := by decide +kernel
theorem dL_vote_13 : decode cL_vote 13 = .ok (.iconst 1, 1) := by decide +kernel
theorem dL_vote_14 : decode cL_vote 14 = .ok (.ireturn, 1) := by decide +kernel
theorem dL_vote_15 : decode cL_vote 15 = .ok (.astore_n 3, 1) := by decide +kernel
theorem dL_vote_16 : decode cL_vote 16 = .ok (.iconst 2, 1) := by decide +kernel
theorem dL_vote_17 : decode cL_vote 17 = .ok (.ireturn, 1) := by decide +kernel
theorem dL_vote_18 : decode cL_vote 18 = .ok (.iconst 0, 1) := by decide +kernel
theorem dL_vote_19 : decode cL_vote 19 = .ok (.ireturn, 1) := by decide +kernel
theorem dL_unsay_0 : decode cL_unsay 0 = .ok (.aload_n 2, 1) := by decide +kernel
theorem dL_unsay_1 : decode cL_unsay 1 = .ok (.iconst 0, 1) := by decide +kernel
theorem dL_unsay_2 : decode cL_unsay 2 = .ok (.aload_n 0, 1) := by decide +kernel
theorem dL_unsay_3 : decode cL_unsay 3 = .ok (.iload_n 1, 1) := by decide +kernel
theorem dL_unsay_4 : decode cL_unsay 4 = .ok (.invokevirtual 29, 3) := by decide +kernel
theorem dL_unsay_7 : decode cL_unsay 7 = .ok (.i2l, 1) := by decide +kernel
theorem dL_unsay_8 : decode cL_unsay 8 = .ok (.lastore, 1) := by decide +kernel
theorem dL_unsay_9 : decode cL_unsay 9 = .ok (.goto 9, 3) := by decide +kernel
theorem dL_unsay_12 : decode cL_unsay 12 = .ok (.astore_n 3, 1) := by decide +kernel
theorem dL_unsay_13 : decode cL_unsay 13 = .ok (.iconst 1, 1) := by decide +kernel
theorem dL_unsay_14 : decode cL_unsay 14 = .ok (.ireturn, 1) := by decide +kernel
theorem dL_unsay_15 : decode cL_unsay 15 = .ok (.astore_n 3, 1) := by decide +kernel
theorem dL_unsay_16 : decode cL_unsay 16 = .ok (.iconst 2, 1) := by decide +kernel
theorem dL_unsay_17 : decode cL_unsay 17 = .ok (.ireturn, 1) := by decide +kernel
theorem dL_unsay_18 : decode cL_unsay 18 = .ok (.iconst 0, 1) := by decide +kernel
theorem dL_unsay_19 : decode cL_unsay 19 = .ok (.ireturn, 1) := by decide +kernel
theorem dL_appeal_0 : decode cL_appeal 0 = .ok (.aload_n 2, 1) := by decide +kernel
theorem dL_appeal_1 : decode cL_appeal 1 = .ok (.iconst 0, 1) := by decide +kernel
theorem dL_appeal_2 : decode cL_appeal 2 = .ok (.aload_n 0, 1) := by decide +kernel
theorem dL_appeal_3 : decode cL_appeal 3 = .ok (.iload_n 1, 1) := by decide +kernel
theorem dL_appeal_4 : decode cL_appeal 4 = .ok (.invokevirtual 32, 3) := by decide +kernel
theorem dL_appeal_7 : decode cL_appeal 7 = .ok (.i2l, 1) := by decide +kernel
theorem dL_appeal_8 : decode cL_appeal 8 = .ok (.lastore, 1) := by decide +kernel
theorem dL_appeal_9 : decode cL_appeal 9 = .ok (.goto 9, 3) := by decide +kernel
theorem dL_appeal_12 : decode cL_appeal 12 = .ok (.astore_n 3, 1) := by decide +kernel
theorem dL_appeal_13 : decode cL_appeal 13 = .ok (.iconst 1, 1) := by decide +kernel
theorem dL_appeal_14 : decode cL_appeal 14 = .ok (.ireturn, 1) := by decide +kernel
theorem dL_appeal_15 : decode cL_appeal 15 = .ok (.astore_n 3, 1) := by decide +kernel
theorem dL_appeal_16 : decode cL_appeal 16 = .ok (.iconst 2, 1) := by decide +kernel
theorem dL_appeal_17 : decode cL_appeal 17 = .ok (.ireturn, 1) := by decide +kernel
theorem dL_appeal_18 : decode cL_appeal 18 = .ok (.iconst 0, 1) := by decide +kernel
theorem dL_appeal_19 : decode cL_appeal 19 = .ok (.ireturn, 1) := by decide +kernel
theorem dL_clerk_0 : decode cL_clerk 0 = .ok (.aload_n 1, 1) := by decide +kernel
theorem dL_clerk_1 : decode cL_clerk 1 = .ok (.iconst 0, 1) := by decide +kernel
theorem dL_clerk_2 : decode cL_clerk 2 = .ok (.aload_n 0, 1) := by decide +kernel
theorem dL_clerk_3 : decode cL_clerk 3 = .ok (.invokevirtual 35, 3) := by decide +kernel
theorem dL_clerk_6 : decode cL_clerk 6 = .ok (.i2l, 1) := by decide +kernel
theorem dL_clerk_7 : decode cL_clerk 7 = .ok (.lastore, 1) := by decide +kernel
theorem dL_clerk_8 : decode cL_clerk 8 = .ok (.goto 6, 3) := by decide +kernel
theorem dL_clerk_11 : decode cL_clerk 11 = .ok (.astore_n 2, 1) := by decide +kernel
theorem dL_clerk_12 : decode cL_clerk 12 = .ok (.iconst 1, 1) := by decide +kernel
theorem dL_clerk_13 : decode cL_clerk 13 = .ok (.ireturn, 1) := by decide +kernel
theorem dL_clerk_14 : decode cL_clerk 14 = .ok (.iconst 0, 1) := by decide +kernel
theorem dL_clerk_15 : decode cL_clerk 15 = .ok (.ireturn, 1) := by decide +kernel
theorem dL_night_0 : decode cL_night 0 = .ok (.aload_n 1, 1) := by decide +kernel
theorem dL_night_1 : decode cL_night 1 = .ok (.iconst 0, 1) := by decide +kernel
theorem dL_night_2 : decode cL_night 2 = .ok (.aload_n 0, 1) := by decide +kernel
theorem dL_night_3 : decode cL_night 3 = .ok (.invokevirtual 39, 3) := by decide +kernel
theorem dL_night_6 : decode cL_night 6 = .ok (.i2l, 1) := by decide +kernel
theorem dL_night_7 : decode cL_night 7 = .ok (.lastore, 1) := by decide +kernel
theorem dL_night_8 : decode cL_night 8 = .ok (.goto 6, 3) := by decide +kernel
theorem dL_night_11 : decode cL_night 11 = .ok (.astore_n 2, 1) := by decide +kernel
theorem dL_night_12 : decode cL_night 12 = .ok (.iconst 1, 1) := by decide +kernel
theorem dL_night_13 : decode cL_night 13 = .ok (.ireturn, 1) := by decide +kernel
theorem dL_night_14 : decode cL_night 14 = .ok (.iconst 0, 1) := by decide +kernel
theorem dL_night_15 : decode cL_night 15 = .ok (.ireturn, 1) := by decide +kernel
theorem dL_jurorOf_0 : decode cL_jurorOf 0 = .ok (.aload_n 3, 1) := by decide +kernel
theorem dL_jurorOf_1 : decode cL_jurorOf 1 = .ok (.iconst 0, 1) := by decide +kernel
theorem dL_jurorOf_2 : decode cL_jurorOf 2 = .ok (.aload_n 0, 1) := by decide +kernel
theorem dL_jurorOf_3 : decode cL_jurorOf 3 = .ok (.iload_n 1, 1) := by decide +kernel
theorem dL_jurorOf_4 : decode cL_jurorOf 4 = .ok (.iload_n 2, 1) := by decide +kernel
theorem dL_jurorOf_5 : decode cL_jurorOf 5 = .ok (.invokevirtual 42, 3) := by decide +kernel
theorem dL_jurorOf_8 : decode cL_jurorOf 8 = .ok (.i2l, 1) := by decide +kernel
theorem dL_jurorOf_9 : decode cL_jurorOf 9 = .ok (.lastore, 1) := by decide +kernel
theorem dL_jurorOf_10 : decode cL_jurorOf 10 = .ok (.goto 11, 3) := by decide +kernel
theorem dL_jurorOf_13 : decode cL_jurorOf 13 = .ok (.astore 4, 2) := by decide +kernel
theorem dL_jurorOf_15 : decode cL_jurorOf 15 = .ok (.iconst 1, 1) := by decide +kernel
theorem dL_jurorOf_16 : decode cL_jurorOf 16 = .ok (.ireturn, 1) := by decide +kernel
theorem dL_jurorOf_17 : decode cL_jurorOf 17 = .ok (.astore 4, 2) := by decide +kernel
theorem dL_jurorOf_19 : decode cL_jurorOf 19 = .ok (.iconst 2, 1) := by decide +kernel
theorem dL_jurorOf_20 : decode cL_jurorOf 20 = .ok (.ireturn, 1) := by decide +kernel
theorem dL_jurorOf_21 : decode cL_jurorOf 21 = .ok (.iconst 0, 1) := by decide +kernel
theorem dL_jurorOf_22 : decode cL_jurorOf 22 = .ok (.ireturn, 1) := by decide +kernel
theorem dL_caseOf_0 : decode cL_caseOf 0 = .ok (.aload_n 3, 1) := by decide +kernel
theorem dL_caseOf_1 : decode cL_caseOf 1 = .ok (.iconst 0, 1) := by decide +kernel
theorem dL_caseOf_2 : decode cL_caseOf 2 = .ok (.aload_n 0, 1) := by decide +kernel
theorem dL_caseOf_3 : decode cL_caseOf 3 = .ok (.iload_n 1, 1) := by decide +kernel
theorem dL_caseOf_4 : decode cL_caseOf 4 = .ok (.iload_n 2, 1) := by decide +kernel
theorem dL_caseOf_5 : decode cL_caseOf 5 = .ok (.invokevirtual 45, 3) := by decide +kernel
theorem dL_caseOf_8 : decode cL_caseOf 8 = .ok (.i2l, 1) := by decide +kernel
theorem dL_caseOf_9 : decode cL_caseOf 9 = .ok (.lastore, 1) := by decide +kernel
theorem dL_caseOf_10 : decode cL_caseOf 10 = .ok (.goto 11, 3) := by decide +kernel
theorem dL_caseOf_13 : decode cL_caseOf 13 = .ok (.astore 4, 2) := by decide +kernel
theorem dL_caseOf_15 : decode cL_caseOf 15 = .ok (.iconst 1, 1) := by decide +kernel
theorem dL_caseOf_16 : decode cL_caseOf 16 = .ok (.ireturn, 1) := by decide +kernel
theorem dL_caseOf_17 : decode cL_caseOf 17 = .ok (.astore 4, 2) := by decide +kernel
theorem dL_caseOf_19 : decode cL_caseOf 19 = .ok (.iconst 2, 1) := by decide +kernel
theorem dL_caseOf_20 : decode cL_caseOf 20 = .ok (.ireturn, 1) := by decide +kernel
theorem dL_caseOf_21 : decode cL_caseOf 21 = .ok (.iconst 0, 1) := by decide +kernel
theorem dL_caseOf_22 : decode cL_caseOf 22 = .ok (.ireturn, 1) := by decide +kernel
theorem dL_voteOf_0 : decode cL_voteOf 0 = .ok (.aload_n 3, 1) := by decide +kernel
theorem dL_voteOf_1 : decode cL_voteOf 1 = .ok (.iconst 0, 1) := by decide +kernel
theorem dL_voteOf_2 : decode cL_voteOf 2 = .ok (.aload_n 0, 1) := by decide +kernel
theorem dL_voteOf_3 : decode cL_voteOf 3 = .ok (.iload_n 1, 1) := by decide +kernel
theorem dL_voteOf_4 : decode cL_voteOf 4 = .ok (.iload_n 2, 1) := by decide +kernel
theorem dL_voteOf_5 : decode cL_voteOf 5 = .ok (.invokevirtual 48, 3) := by decide +kernel
theorem dL_voteOf_8 : decode cL_voteOf 8 = .ok (.i2l, 1) := by decide +kernel
theorem dL_voteOf_9 : decode cL_voteOf 9 = .ok (.lastore, 1) := by decide +kernel
theorem dL_voteOf_10 : decode cL_voteOf 10 = .ok (.goto 7, 3) := by decide +kernel
theorem dL_voteOf_13 : decode cL_voteOf 13 = .ok (.astore 4, 2) := by decide +kernel
theorem dL_voteOf_15 : decode cL_voteOf 15 = .ok (.iconst 1, 1) := by decide +kernel
theorem dL_voteOf_16 : decode cL_voteOf 16 = .ok (.ireturn, 1) := by decide +kernel
theorem dL_voteOf_17 : decode cL_voteOf 17 = .ok (.iconst 0, 1) := by decide +kernel
theorem dL_voteOf_18 : decode cL_voteOf 18 = .ok (.ireturn, 1) := by decide +kernel
theorem dL_wouldBe_0 : decode cL_wouldBe 0 = .ok (.aload_n 3, 1) := by decide +kernel
theorem dL_wouldBe_1 : decode cL_wouldBe 1 = .ok (.iconst 0, 1) := by decide +kernel
theorem dL_wouldBe_2 : decode cL_wouldBe 2 = .ok (.aload_n 0, 1) := by decide +kernel
theorem dL_wouldBe_3 : decode cL_wouldBe 3 = .ok (.iload_n 1, 1) := by decide +kernel
theorem dL_wouldBe_4 : decode cL_wouldBe 4 = .ok (.iload_n 2, 1) := by decide +kernel
theorem dL_wouldBe_5 : decode cL_wouldBe 5 = .ok (.invokevirtual 51, 3) := by decide +kernel
theorem dL_wouldBe_8 : decode cL_wouldBe 8 = .ok (.i2l, 1) := by decide +kernel
theorem dL_wouldBe_9 : decode cL_wouldBe 9 = .ok (.lastore, 1) := by decide +kernel
theorem dL_wouldBe_10 : decode cL_wouldBe 10 = .ok (.goto 11, 3) := by decide +kernel
theorem dL_wouldBe_13 : decode cL_wouldBe 13 = .ok (.astore 4, 2) := by decide +kernel
theorem dL_wouldBe_15 : decode cL_wouldBe 15 = .ok (.iconst 1, 1) := by decide +kernel
theorem dL_wouldBe_16 : decode cL_wouldBe 16 = .ok (.ireturn, 1) := by decide +kernel
theorem dL_wouldBe_17 : decode cL_wouldBe 17 = .ok (.astore 4, 2) := by decide +kernel
theorem dL_wouldBe_19 : decode cL_wouldBe 19 = .ok (.iconst 2, 1) := by decide +kernel
theorem dL_wouldBe_20 : decode cL_wouldBe 20 = .ok (.ireturn, 1) := by decide +kernel
theorem dL_wouldBe_21 : decode cL_wouldBe 21 = .ok (.iconst 0, 1) := by decide +kernel
theorem dL_wouldBe_22 : decode cL_wouldBe 22 = .ok (.ireturn, 1) := by decide +kernel
theorem dL_load_0 : decode cL_load 0 = .ok (.aload_n 3, 1) := by decide +kernel
theorem dL_load_1 : decode cL_load 1 = .ok (.iconst 0, 1) := by decide +kernel
theorem dL_load_2 : decode cL_load 2 = .ok (.aload_n 0, 1) := by decide +kernel
theorem dL_load_3 : decode cL_load 3 = .ok (.iload_n 1, 1) := by decide +kernel
theorem dL_load_4 : decode cL_load 4 = .ok (.iload_n 2, 1) := by decide +kernel
theorem dL_load_5 : decode cL_load 5 = .ok (.invokevirtual 57, 3) := by decide +kernel
theorem dL_load_8 : decode cL_load 8 = .ok (.i2l, 1) := by decide +kernel
theorem dL_load_9 : decode cL_load 9 = .ok (.lastore, 1) := by decide +kernel
theorem dL_load_10 : decode cL_load 10 = .ok (.goto 7, 3) := by decide +kernel
theorem dL_load_13 : decode cL_load 13 = .ok (.astore 4, 2) := by decide +kernel
theorem dL_load_15 : decode cL_load 15 = .ok (.iconst 1, 1) := by decide +kernel
theorem dL_load_16 : decode cL_load 16 = .ok (.ireturn, 1) := by decide +kernel
theorem dL_load_17 : decode cL_load 17 = .ok (.iconst 0, 1) := by decide +kernel
theorem dL_load_18 : decode cL_load 18 = .ok (.ireturn, 1) := by decide +kernel
theorem dL_callable_0 : decode cL_callable 0 = .ok (.aload_n 2, 1) := by decide +kernel
theorem dL_callable_1 : decode cL_callable 1 = .ok (.iconst 0, 1) := by decide +kernel
theorem dL_callable_2 : decode cL_callable 2 = .ok (.aload_n 0, 1) := by decide +kernel
theorem dL_callable_3 : decode cL_callable 3 = .ok (.iload_n 1, 1) := by decide +kernel
theorem dL_callable_4 : decode cL_callable 4 = .ok (.invokevirtual 60, 3) := by decide +kernel
theorem dL_callable_7 : decode cL_callable 7 = .ok (.i2l, 1) := by decide +kernel
theorem dL_callable_8 : decode cL_callable 8 = .ok (.lastore, 1) := by decide +kernel
theorem dL_callable_9 : decode cL_callable 9 = .ok (.goto 6, 3) := by decide +kernel
theorem dL_callable_12 : decode cL_callable 12 = .ok (.astore_n 3, 1) := by decide +kernel
theorem dL_callable_13 : decode cL_callable 13 = .ok (.iconst 1, 1) := by decide +kernel
theorem dL_callable_14 : decode cL_callable 14 = .ok (.ireturn, 1) := by decide +kernel
theorem dL_callable_15 : decode cL_callable 15 = .ok (.iconst 0, 1) := by decide +kernel
theorem dL_callable_16 : decode cL_callable 16 = .ok (.ireturn, 1) := by decide +kernel
theorem dL_thoughts_0 : decode cL_thoughts 0 = .ok (.aload_n 2, 1) := by decide +kernel
theorem dL_thoughts_1 : decode cL_thoughts 1 = .ok (.iconst 0, 1) := by decide +kernel
theorem dL_thoughts_2 : decode cL_thoughts 2 = .ok (.aload_n 0, 1) := by decide +kernel
theorem dL_thoughts_3 : decode cL_thoughts 3 = .ok (.iload_n 1, 1) := by decide +kernel
theorem dL_thoughts_4 : decode cL_thoughts 4 = .ok (.invokevirtual 63, 3) := by decide +kernel
theorem dL_thoughts_7 : decode cL_thoughts 7 = .ok (.i2l, 1) := by decide +kernel
theorem dL_thoughts_8 : decode cL_thoughts 8 = .ok (.lastore, 1) := by decide +kernel
theorem dL_thoughts_9 : decode cL_thoughts 9 = .ok (.goto 9, 3) := by decide +kernel
theorem dL_thoughts_12 : decode cL_thoughts 12 = .ok (.astore_n 3, 1) := by decide +kernel
theorem dL_thoughts_13 : decode cL_thoughts 13 = .ok (.iconst 1, 1) := by decide +kernel
theorem dL_thoughts_14 : decode cL_thoughts 14 = .ok (.ireturn, 1) := by decide +kernel
theorem dL_thoughts_15 : decode cL_thoughts 15 = .ok (.astore_n 3, 1) := by decide +kernel
theorem dL_thoughts_16 : decode cL_thoughts 16 = .ok (.iconst 2, 1) := by decide +kernel
theorem dL_thoughts_17 : decode cL_thoughts 17 = .ok (.ireturn, 1) := by decide +kernel
theorem dL_thoughts_18 : decode cL_thoughts 18 = .ok (.iconst 0, 1) := by decide +kernel
theorem dL_thoughts_19 : decode cL_thoughts 19 = .ok (.ireturn, 1) := by decide +kernel
theorem dL_isOn_0 : decode cL_isOn 0 = .ok (.aload_n 3, 1) := by decide +kernel
theorem dL_isOn_1 : decode cL_isOn 1 = .ok (.iconst 0, 1) := by decide +kernel
theorem dL_isOn_2 : decode cL_isOn 2 = .ok (.aload_n 0, 1) := by decide +kernel
theorem dL_isOn_3 : decode cL_isOn 3 = .ok (.iload_n 1, 1) := by decide +kernel
theorem dL_isOn_4 : decode cL_isOn 4 = .ok (.iload_n 2, 1) := by decide +kernel
theorem dL_isOn_5 : decode cL_isOn 5 = .ok (.invokevirtual 66, 3) := by decide +kernel
theorem dL_isOn_8 : decode cL_isOn 8 = .ok (.ifCond .eq 7, 3) := by decide +kernel
theorem dL_isOn_11 : decode cL_isOn 11 = .ok (.lconst 1, 1) := by decide +kernel
theorem dL_isOn_12 : decode cL_isOn 12 = .ok (.goto 4, 3) := by decide +kernel
theorem dL_isOn_15 : decode cL_isOn 15 = .ok (.lconst 0, 1) := by decide +kernel
theorem dL_isOn_16 : decode cL_isOn 16 = .ok (.lastore, 1) := by decide +kernel
theorem dL_isOn_17 : decode cL_isOn 17 = .ok (.goto 7, 3) := by decide +kernel
theorem dL_isOn_20 : decode cL_isOn 20 = .ok (.astore 4, 2) := by decide +kernel
theorem dL_isOn_22 : decode cL_isOn 22 = .ok (.iconst 1, 1) := by decide +kernel
theorem dL_isOn_23 : decode cL_isOn 23 = .ok (.ireturn, 1) := by decide +kernel
theorem dL_isOn_24 : decode cL_isOn 24 = .ok (.iconst 0, 1) := by decide +kernel
theorem dL_isOn_25 : decode cL_isOn 25 = .ok (.ireturn, 1) := by decide +kernel
theorem dL_roll_0 : decode cL_roll 0 = .ok (.aload_n 3, 1) := by decide +kernel
theorem dL_roll_1 : decode cL_roll 1 = .ok (.iconst 0, 1) := by decide +kernel
theorem dL_roll_2 : decode cL_roll 2 = .ok (.aload_n 0, 1) := by decide +kernel
theorem dL_roll_3 : decode cL_roll 3 = .ok (.iload_n 1, 1) := by decide +kernel
theorem dL_roll_4 : decode cL_roll 4 = .ok (.iload_n 2, 1) := by decide +kernel
theorem dL_roll_5 : decode cL_roll 5 = .ok (.invokevirtual 70, 3) := by decide +kernel
theorem dL_roll_8 : decode cL_roll 8 = .ok (.i2l, 1) := by decide +kernel
theorem dL_roll_9 : decode cL_roll 9 = .ok (.lastore, 1) := by decide +kernel
theorem dL_roll_10 : decode cL_roll 10 = .ok (.goto 7, 3) := by decide +kernel
theorem dL_roll_13 : decode cL_roll 13 = .ok (.astore 4, 2) := by decide +kernel
theorem dL_roll_15 : decode cL_roll 15 = .ok (.iconst 1, 1) := by decide +kernel
theorem dL_roll_16 : decode cL_roll 16 = .ok (.ireturn, 1) := by decide +kernel
theorem dL_roll_17 : decode cL_roll 17 = .ok (.iconst 0, 1) := by decide +kernel
theorem dL_roll_18 : decode cL_roll 18 = .ok (.ireturn, 1) := by decide +kernel
theorem dL_wouldTake_0 : decode cL_wouldTake 0 = .ok (.aload_n 2, 1) := by decide +kernel
theorem dL_wouldTake_1 : decode cL_wouldTake 1 = .ok (.iconst 0, 1) := by decide +kernel
theorem dL_wouldTake_2 : decode cL_wouldTake 2 = .ok (.aload_n 0, 1) := by decide +kernel
theorem dL_wouldTake_3 : decode cL_wouldTake 3 = .ok (.iload_n 1, 1) := by decide +kernel
theorem dL_wouldTake_4 : decode cL_wouldTake 4 = .ok (.invokevirtual 73, 3) := by decide +kernel
theorem dL_wouldTake_7 : decode cL_wouldTake 7 = .ok (.i2l, 1) := by decide +kernel
theorem dL_wouldTake_8 : decode cL_wouldTake 8 = .ok (.lastore, 1) := by decide +kernel
theorem dL_wouldTake_9 : decode cL_wouldTake 9 = .ok (.goto 9, 3) := by decide +kernel
theorem dL_wouldTake_12 : decode cL_wouldTake 12 = .ok (.astore_n 3, 1) := by decide +kernel
theorem dL_wouldTake_13 : decode cL_wouldTake 13 = .ok (.iconst 1, 1) := by decide +kernel
theorem dL_wouldTake_14 : decode cL_wouldTake 14 = .ok (.ireturn, 1) := by decide +kernel
theorem dL_wouldTake_15 : decode cL_wouldTake 15 = .ok (.astore_n 3, 1) := by decide +kernel
theorem dL_wouldTake_16 : decode cL_wouldTake 16 = .ok (.iconst 2, 1) := by decide +kernel
theorem dL_wouldTake_17 : decode cL_wouldTake 17 = .ok (.ireturn, 1) := by decide +kernel
theorem dL_wouldTake_18 : decode cL_wouldTake 18 = .ok (.iconst 0, 1) := by decide +kernel
theorem dL_wouldTake_19 : decode cL_wouldTake 19 = .ok (.ireturn, 1) := by decide +kernel
theorem dL_termFrom_0 : decode cL_termFrom 0 = .ok (.aload_n 2, 1) := by decide +kernel
theorem dL_termFrom_1 : decode cL_termFrom 1 = .ok (.iconst 0, 1) := by decide +kernel
theorem dL_termFrom_2 : decode cL_termFrom 2 = .ok (.aload_n 0, 1) := by decide +kernel
theorem dL_termFrom_3 : decode cL_termFrom 3 = .ok (.iload_n 1, 1) := by decide +kernel
theorem dL_termFrom_4 : decode cL_termFrom 4 = .ok (.invokevirtual 76, 3) := by decide +kernel
theorem dL_termFrom_7 : decode cL_termFrom 7 = .ok (.i2l, 1) := by decide +kernel
theorem dL_termFrom_8 : decode cL_termFrom 8 = .ok (.lastore, 1) := by decide +kernel
theorem dL_termFrom_9 : decode cL_termFrom 9 = .ok (.goto 9, 3) := by decide +kernel
theorem dL_termFrom_12 : decode cL_termFrom 12 = .ok (.astore_n 3, 1) := by decide +kernel
theorem dL_termFrom_13 : decode cL_termFrom 13 = .ok (.iconst 1, 1) := by decide +kernel
theorem dL_termFrom_14 : decode cL_termFrom 14 = .ok (.ireturn, 1) := by decide +kernel
theorem dL_termFrom_15 : decode cL_termFrom 15 = .ok (.astore_n 3, 1) := by decide +kernel
theorem dL_termFrom_16 : decode cL_termFrom 16 = .ok (.iconst 2, 1) := by decide +kernel
theorem dL_termFrom_17 : decode cL_termFrom 17 = .ok (.ireturn, 1) := by decide +kernel
theorem dL_termFrom_18 : decode cL_termFrom 18 = .ok (.iconst 0, 1) := by decide +kernel
theorem dL_termFrom_19 : decode cL_termFrom 19 = .ok (.ireturn, 1) := by decide +kernel
theorem dL_finalIn_0 : decode cL_finalIn 0 = .ok (.aload_n 2, 1) := by decide +kernel
theorem dL_finalIn_1 : decode cL_finalIn 1 = .ok (.iconst 0, 1) := by decide +kernel
theorem dL_finalIn_2 : decode cL_finalIn 2 = .ok (.aload_n 0, 1) := by decide +kernel
theorem dL_finalIn_3 : decode cL_finalIn 3 = .ok (.iload_n 1, 1) := by decide +kernel
theorem dL_finalIn_4 : decode cL_finalIn 4 = .ok (.invokevirtual 79, 3) := by decide +kernel
theorem dL_finalIn_7 : decode cL_finalIn 7 = .ok (.i2l, 1) := by decide +kernel
theorem dL_finalIn_8 : decode cL_finalIn 8 = .ok (.lastore, 1) := by decide +kernel
theorem dL_finalIn_9 : decode cL_finalIn 9 = .ok (.goto 9, 3) := by decide +kernel
theorem dL_finalIn_12 : decode cL_finalIn 12 = .ok (.astore_n 3, 1) := by decide +kernel
theorem dL_finalIn_13 : decode cL_finalIn 13 = .ok (.iconst 1, 1) := by decide +kernel
theorem dL_finalIn_14 : decode cL_finalIn 14 = .ok (.ireturn, 1) := by decide +kernel
theorem dL_finalIn_15 : decode cL_finalIn 15 = .ok (.astore_n 3, 1) := by decide +kernel
theorem dL_finalIn_16 : decode cL_finalIn 16 = .ok (.iconst 2, 1) := by decide +kernel
theorem dL_finalIn_17 : decode cL_finalIn 17 = .ok (.ireturn, 1) := by decide +kernel
theorem dL_finalIn_18 : decode cL_finalIn 18 = .ok (.iconst 0, 1) := by decide +kernel
theorem dL_finalIn_19 : decode cL_finalIn 19 = .ok (.ireturn, 1) := by decide +kernel
theorem dL_doubtful_0 : decode cL_doubtful 0 = .ok (.aload_n 2, 1) := by decide +kernel
theorem dL_doubtful_1 : decode cL_doubtful 1 = .ok (.iconst 0, 1) := by decide +kernel
theorem dL_doubtful_2 : decode cL_doubtful 2 = .ok (.aload_n 0, 1) := by decide +kernel
theorem dL_doubtful_3 : decode cL_doubtful 3 = .ok (.iload_n 1, 1) := by decide +kernel
theorem dL_doubtful_4 : decode cL_doubtful 4 = .ok (.invokevirtual 82, 3) := by decide +kernel
theorem dL_doubtful_7 : decode cL_doubtful 7 = .ok (.i2l, 1) := by decide +kernel
theorem dL_doubtful_8 : decode cL_doubtful 8 = .ok (.lastore, 1) := by decide +kernel
theorem dL_doubtful_9 : decode cL_doubtful 9 = .ok (.goto 6, 3) := by decide +kernel
theorem dL_doubtful_12 : decode cL_doubtful 12 = .ok (.astore_n 3, 1) := by decide +kernel
theorem dL_doubtful_13 : decode cL_doubtful 13 = .ok (.iconst 1, 1) := by decide +kernel
theorem dL_doubtful_14 : decode cL_doubtful 14 = .ok (.ireturn, 1) := by decide +kernel
theorem dL_doubtful_15 : decode cL_doubtful 15 = .ok (.iconst 0, 1) := by decide +kernel
theorem dL_doubtful_16 : decode cL_doubtful 16 = .ok (.ireturn, 1) := by decide +kernel
theorem dL_line_0 : decode cL_line 0 = .ok (.aload_n 2, 1) := by decide +kernel
theorem dL_line_1 : decode cL_line 1 = .ok (.iconst 0, 1) := by decide +kernel
theorem dL_line_2 : decode cL_line 2 = .ok (.aload_n 0, 1) := by decide +kernel
theorem dL_line_3 : decode cL_line 3 = .ok (.iload_n 1, 1) := by decide +kernel
theorem dL_line_4 : decode cL_line 4 = .ok (.invokevirtual 85, 3) := by decide +kernel
theorem dL_line_7 : decode cL_line 7 = .ok (.i2l, 1) := by decide +kernel
theorem dL_line_8 : decode cL_line 8 = .ok (.lastore, 1) := by decide +kernel
theorem dL_line_9 : decode cL_line 9 = .ok (.goto 6, 3) := by decide +kernel
theorem dL_line_12 : decode cL_line 12 = .ok (.astore_n 3, 1) := by decide +kernel
theorem dL_line_13 : decode cL_line 13 = .ok (.iconst 1, 1) := by decide +kernel
theorem dL_line_14 : decode cL_line 14 = .ok (.ireturn, 1) := by decide +kernel
theorem dL_line_15 : decode cL_line 15 = .ok (.iconst 0, 1) := by decide +kernel
theorem dL_line_16 : decode cL_line 16 = .ok (.ireturn, 1) := by decide +kernel
theorem dL_character_0 : decode cL_character 0 = .ok (.aload_n 2, 1) := by decide +kernel
theorem dL_character_1 : decode cL_character 1 = .ok (.iconst 0, 1) := by decide +kernel
theorem dL_character_2 : decode cL_character 2 = .ok (.aload_n 0, 1) := by decide +kernel
theorem dL_character_3 : decode cL_character 3 = .ok (.iload_n 1, 1) := by decide +kernel
theorem dL_character_4 : decode cL_character 4 = .ok (.invokevirtual 88, 3) := by decide +kernel
theorem dL_character_7 : decode cL_character 7 = .ok (.i2l, 1) := by decide +kernel
theorem dL_character_8 : decode cL_character 8 = .ok (.lastore, 1) := by decide +kernel
theorem dL_character_9 : decode cL_character 9 = .ok (.goto 6, 3) := by decide +kernel
theorem dL_character_12 : decode cL_character 12 = .ok (.astore_n 3, 1) := by decide +kernel
theorem dL_character_13 : decode cL_character 13 = .ok (.iconst 1, 1) := by decide +kernel
theorem dL_character_14 : decode cL_character 14 = .ok (.ireturn, 1) := by decide +kernel
theorem dL_character_15 : decode cL_character 15 = .ok (.iconst 0, 1) := by decide +kernel
theorem dL_character_16 : decode cL_character 16 = .ok (.ireturn, 1) := by decide +kernel
theorem dL_append_0 : decode cL_append 0 = .ok (.aload_n 2, 1) := by decide +kernel
theorem dL_append_1 : decode cL_append 1 = .ok (.iconst 0, 1) := by decide +kernel
theorem dL_append_2 : decode cL_append 2 = .ok (.aload_n 0, 1) := by decide +kernel
theorem dL_append_3 : decode cL_append 3 = .ok (.iload_n 1, 1) := by decide +kernel
theorem dL_append_4 : decode cL_append 4 = .ok (.invokevirtual 92, 3) := by decide +kernel
theorem dL_append_7 : decode cL_append 7 = .ok (.i2l, 1) := by decide +kernel
theorem dL_append_8 : decode cL_append 8 = .ok (.lastore, 1) := by decide +kernel
theorem dL_append_9 : decode cL_append 9 = .ok (.goto 6, 3) := by decide +kernel
theorem dL_append_12 : decode cL_append 12 = .ok (.astore_n 3, 1) := by decide +kernel
theorem dL_append_13 : decode cL_append 13 = .ok (.iconst 1, 1) := by decide +kernel
theorem dL_append_14 : decode cL_append 14 = .ok (.ireturn, 1) := by decide +kernel
theorem dL_append_15 : decode cL_append 15 = .ok (.iconst 0, 1) := by decide +kernel
theorem dL_append_16 : decode cL_append 16 = .ok (.ireturn, 1) := by decide +kernel
theorem dL_run_0 : decode cL_run 0 = .ok (.aload_n 1, 1) := by decide +kernel
theorem dL_run_1 : decode cL_run 1 = .ok (.iconst 0, 1) := by decide +kernel
theorem dL_run_2 : decode cL_run 2 = .ok (.aload_n 0, 1) := by decide +kernel
theorem dL_run_3 : decode cL_run 3 = .ok (.invokevirtual 98, 3) := by decide +kernel
theorem dL_run_6 : decode cL_run 6 = .ok (.i2l, 1) := by decide +kernel
theorem dL_run_7 : decode cL_run 7 = .ok (.lastore, 1) := by decide +kernel
theorem dL_run_8 : decode cL_run 8 = .ok (.goto 9, 3) := by decide +kernel
theorem dL_run_11 : decode cL_run 11 = .ok (.astore_n 2, 1) := by decide +kernel
theorem dL_run_12 : decode cL_run 12 = .ok (.iconst 1, 1) := by decide +kernel
theorem dL_run_13 : decode cL_run 13 = .ok (.ireturn, 1) := by decide +kernel
theorem dL_run_14 : decode cL_run 14 = .ok (.astore_n 2, 1) := by decide +kernel
theorem dL_run_15 : decode cL_run 15 = .ok (.iconst 2, 1) := by decide +kernel
theorem dL_run_16 : decode cL_run 16 = .ok (.ireturn, 1) := by decide +kernel
theorem dL_run_17 : decode cL_run 17 = .ok (.iconst 0, 1) := by decide +kernel
theorem dL_run_18 : decode cL_run 18 = .ok (.ireturn, 1) := by decide +kernel
theorem dL_refusal_0 : decode cL_refusal 0 = .ok (.aload_n 2, 1) := by decide +kernel
theorem dL_refusal_1 : decode cL_refusal 1 = .ok (.iconst 0, 1) := by decide +kernel
theorem dL_refusal_2 : decode cL_refusal 2 = .ok (.aload_n 0, 1) := by decide +kernel
theorem dL_refusal_3 : decode cL_refusal 3 = .ok (.iload_n 1, 1) := by decide +kernel
theorem dL_refusal_4 : decode cL_refusal 4 = .ok (.invokevirtual 101, 3) := by decide +kernel
theorem dL_refusal_7 : decode cL_refusal 7 = .ok (.i2l, 1) := by decide +kernel
theorem dL_refusal_8 : decode cL_refusal 8 = .ok (.lastore, 1) := by decide +kernel
theorem dL_refusal_9 : decode cL_refusal 9 = .ok (.goto 6, 3) := by decide +kernel
theorem dL_refusal_12 : decode cL_refusal 12 = .ok (.astore_n 3, 1) := by decide +kernel
theorem dL_refusal_13 : decode cL_refusal 13 = .ok (.iconst 1, 1) := by decide +kernel
theorem dL_refusal_14 : decode cL_refusal 14 = .ok (.ireturn, 1) := by decide +kernel
theorem dL_refusal_15 : decode cL_refusal 15 = .ok (.iconst 0, 1) := by decide +kernel
theorem dL_refusal_16 : decode cL_refusal 16 = .ok (.ireturn, 1) := by decide +kernel
theorem dL_account_0 : decode cL_account 0 = .ok (.aload_n 2, 1) := by decide +kernel
theorem dL_account_1 : decode cL_account 1 = .ok (.iconst 0, 1) := by decide +kernel
theorem dL_account_2 : decode cL_account 2 = .ok (.aload_n 0, 1) := by decide +kernel
theorem dL_account_3 : decode cL_account 3 = .ok (.iload_n 1, 1) := by decide +kernel
theorem dL_account_4 : decode cL_account 4 = .ok (.invokevirtual 105, 3) := by decide +kernel
theorem dL_account_7 : decode cL_account 7 = .ok (.i2l, 1) := by decide +kernel
theorem dL_account_8 : decode cL_account 8 = .ok (.lastore, 1) := by decide +kernel
theorem dL_account_9 : decode cL_account 9 = .ok (.goto 6, 3) := by decide +kernel
theorem dL_account_12 : decode cL_account 12 = .ok (.astore_n 3, 1) := by decide +kernel
theorem dL_account_13 : decode cL_account 13 = .ok (.iconst 1, 1) := by decide +kernel
theorem dL_account_14 : decode cL_account 14 = .ok (.ireturn, 1) := by decide +kernel
theorem dL_account_15 : decode cL_account 15 = .ok (.iconst 0, 1) := by decide +kernel
theorem dL_account_16 : decode cL_account 16 = .ok (.ireturn, 1) := by decide +kernel
theorem dL_meanLeaning_0 : decode cL_meanLeaning 0 = .ok (.aload_n 1, 1) := by decide +kernel
theorem dL_meanLeaning_1 : decode cL_meanLeaning 1 = .ok (.iconst 0, 1) := by decide +kernel
theorem dL_meanLeaning_2 : decode cL_meanLeaning 2 = .ok (.aload_n 0, 1) := by decide +kernel
theorem dL_meanLeaning_3 : decode cL_meanLeaning 3 = .ok (.invokevirtual 108, 3) := by decide +kernel
theorem dL_meanLeaning_6 : decode cL_meanLeaning 6 = .ok (.dastore, 1) := by decide +kernel
theorem dL_meanLeaning_7 : decode cL_meanLeaning 7 = .ok (.goto 6, 3) := by decide +kernel
theorem dL_meanLeaning_10 : decode cL_meanLeaning 10 = .ok (.astore_n 2, 1) := by decide +kernel
theorem dL_meanLeaning_11 : decode cL_meanLeaning 11 = .ok (.iconst 1, 1) := by decide +kernel
theorem dL_meanLeaning_12 : decode cL_meanLeaning 12 = .ok (.ireturn, 1) := by decide +kernel
theorem dL_meanLeaning_13 : decode cL_meanLeaning 13 = .ok (.iconst 0, 1) := by decide +kernel
theorem dL_meanLeaning_14 : decode cL_meanLeaning 14 = .ok (.ireturn, 1) := by decide +kernel
theorem dL_unsaidShare_0 : decode cL_unsaidShare 0 = .ok (.aload_n 1, 1) := by decide +kernel
theorem dL_unsaidShare_1 : decode cL_unsaidShare 1 = .ok (.iconst 0, 1) := by decide +kernel
theorem dL_unsaidShare_2 : decode cL_unsaidShare 2 = .ok (.aload_n 0, 1) := by decide +kernel
theorem dL_unsaidShare_3 : decode cL_unsaidShare 3 = .ok (.invokevirtual 114, 3) := by decide +kernel
theorem dL_unsaidShare_6 : decode cL_unsaidShare 6 = .ok (.f2d, 1) := by decide +kernel
theorem dL_unsaidShare_7 : decode cL_unsaidShare 7 = .ok (.dastore, 1) := by decide +kernel
theorem dL_unsaidShare_8 : decode cL_unsaidShare 8 = .ok (.goto 6, 3) := by decide +kernel
theorem dL_unsaidShare_11 : decode cL_unsaidShare 11 = .ok (.astore_n 2, 1) := by decide +kernel
theorem dL_unsaidShare_12 : decode cL_unsaidShare 12 = .ok (.iconst 1, 1) := by decide +kernel
theorem dL_unsaidShare_13 : decode cL_unsaidShare 13 = .ok (.ireturn, 1) := by decide +kernel
theorem dL_unsaidShare_14 : decode cL_unsaidShare 14 = .ok (.iconst 0, 1) := by decide +kernel
theorem dL_unsaidShare_15 : decode cL_unsaidShare 15 = .ok (.ireturn, 1) := by decide +kernel
theorem dL_undo_0 : decode cL_undo 0 = .ok (.aload_n 1, 1) := by decide +kernel
theorem dL_undo_1 : decode cL_undo 1 = .ok (.iconst 0, 1) := by decide +kernel
theorem dL_undo_2 : decode cL_undo 2 = .ok (.aload_n 0, 1) := by decide +kernel
theorem dL_undo_3 : decode cL_undo 3 = .ok (.invokevirtual 118, 3) := by decide +kernel
theorem dL_undo_6 : decode cL_undo 6 = .ok (.i2l, 1) := by decide +kernel
theorem dL_undo_7 : decode cL_undo 7 = .ok (.lastore, 1) := by decide +kernel
theorem dL_undo_8 : decode cL_undo 8 = .ok (.goto 6, 3) := by decide +kernel
theorem dL_undo_11 : decode cL_undo 11 = .ok (.astore_n 2, 1) := by decide +kernel
theorem dL_undo_12 : decode cL_undo 12 = .ok (.iconst 1, 1) := by decide +kernel
theorem dL_undo_13 : decode cL_undo 13 = .ok (.ireturn, 1) := by decide +kernel
theorem dL_undo_14 : decode cL_undo 14 = .ok (.iconst 0, 1) := by decide +kernel
theorem dL_undo_15 : decode cL_undo 15 = .ok (.ireturn, 1) := by decide +kernel
theorem dL_restore_0 : decode cL_restore 0 = .ok (.aload_n 1, 1) := by decide +kernel
theorem dL_restore_1 : decode cL_restore 1 = .ok (.iconst 0, 1) := by decide +kernel
theorem dL_restore_2 : decode cL_restore 2 = .ok (.aload_n 0, 1) := by decide +kernel
theorem dL_restore_3 : decode cL_restore 3 = .ok (.invokevirtual 121, 3) := by decide +kernel
theorem dL_restore_6 : decode cL_restore 6 = .ok (.i2l, 1) := by decide +kernel
theorem dL_restore_7 : decode cL_restore 7 = .ok (.lastore, 1) := by decide +kernel
theorem dL_restore_8 : decode cL_restore 8 = .ok (.goto 6, 3) := by decide +kernel
theorem dL_restore_11 : decode cL_restore 11 = .ok (.astore_n 2, 1) := by decide +kernel
theorem dL_restore_12 : decode cL_restore 12 = .ok (.iconst 1, 1) := by decide +kernel
theorem dL_restore_13 : decode cL_restore 13 = .ok (.ireturn, 1) := by decide +kernel
theorem dL_restore_14 : decode cL_restore 14 = .ok (.iconst 0, 1) := by decide +kernel
theorem dL_restore_15 : decode cL_restore 15 = .ok (.ireturn, 1) := by decide +kernel
theorem dL_law_0 : decode cL_law 0 = .ok (.new 8, 3) := by decide +kernel
theorem dL_law_3 : decode cL_law 3 = .ok (.dup, 1) := by decide +kernel
theorem dL_law_4 : decode cL_law 4 = .ok (.invokespecial 124, 3) := by decide +kernel
theorem dL_law_7 : decode cL_law 7 = .ok (.astore_n 1, 1) := by decide +kernel
theorem dL_law_8 : decode cL_law 8 = .ok (.new 125, 3) := by decide +kernel
theorem dL_law_11 : decode cL_law 11 = .ok (.dup, 1) := by decide +kernel
theorem dL_law_12 : decode cL_law 12 = .ok (.invokespecial 127, 3) := by decide +kernel
theorem dL_law_15 : decode cL_law 15 = .ok (.astore_n 2, 1) := by decide +kernel
theorem dL_law_16 : decode cL_law 16 = .ok (.iconst 1, 1) := by decide +kernel
theorem dL_law_17 : decode cL_law 17 = .ok (.newarray .long, 2) := by decide +kernel
theorem dL_law_19 : decode cL_law 19 = .ok (.astore_n 3, 1) := by decide +kernel
theorem dL_law_20 : decode cL_law 20 = .ok (.iconst 1, 1) := by decide +kernel
theorem dL_law_21 : decode cL_law 21 = .ok (.newarray .double, 2) := by decide +kernel
theorem dL_law_23 : decode cL_law 23 = .ok (.astore 4, 2) := by decide +kernel
theorem dL_law_25 : decode cL_law 25 = .ok (.iconst 0, 1) := by decide +kernel
theorem dL_law_26 : decode cL_law 26 = .ok (.istore 5, 2) := by decide +kernel
theorem dL_law_28 : decode cL_law 28 = .ok (.iload 5, 2) := by decide +kernel
theorem dL_law_30 : decode cL_law 30 = .ok (.aload_n 0, 1) := by decide +kernel
theorem dL_law_31 : decode cL_law 31 = .ok (.arraylength, 1) := by decide +kernel
theorem dL_law_32 : decode cL_law 32 = .ok (.iconst 3, 1) := by decide +kernel
theorem dL_law_33 : decode cL_law 33 = .ok (.isub, 1) := by decide +kernel
theorem dL_law_34 : decode cL_law 34 = .ok (.if_icmp .gt 2134, 3) := by decide +kernel
theorem dL_law_37 : decode cL_law 37 = .ok (.aload_n 0, 1) := by decide +kernel
theorem dL_law_38 : decode cL_law 38 = .ok (.iload 5, 2) := by decide +kernel
theorem dL_law_40 : decode cL_law 40 = .ok (.iaload, 1) := by decide +kernel
theorem dL_law_41 : decode cL_law 41 = .ok (.bipush 63, 2) := by decide +kernel
theorem dL_law_43 : decode cL_law 43 = .ok (.iand, 1) := by decide +kernel
theorem dL_law_44 : decode cL_law 44 = .ok (.tableswitch 2118 0 36 #[164, 232, 300, 356, 412, 468, 524, 568, 612, 680, 748, 816, 900, 984, 1040, 1096, 1171, 1255, 1268, 1324, 1337, 1393, 1449, 1505, 1561, 1574, 1630, 1688, 1732, 1745, 1817, 1873, 1886, 1951, 2017, 2061, 2074], 164) := by decide +kernel
theorem dL_law_208 : decode cL_law 208 = .ok (.aload_n 1, 1) := by decide +kernel
theorem dL_law_209 : decode cL_law 209 = .ok (.aload_n 0, 1) := by decide +kernel
theorem dL_law_210 : decode cL_law 210 = .ok (.iload 5, 2) := by decide +kernel
theorem dL_law_212 : decode cL_law 212 = .ok (.iconst 1, 1) := by decide +kernel
theorem dL_law_213 : decode cL_law 213 = .ok (.iadd, 1) := by decide +kernel
theorem dL_law_214 : decode cL_law 214 = .ok (.iaload, 1) := by decide +kernel
theorem dL_law_215 : decode cL_law 215 = .ok (.aload_n 0, 1) := by decide +kernel
theorem dL_law_216 : decode cL_law 216 = .ok (.iload 5, 2) := by decide +kernel
theorem dL_law_218 : decode cL_law 218 = .ok (.iconst 2, 1) := by decide +kernel
theorem dL_law_219 : decode cL_law 219 = .ok (.iadd, 1) := by decide +kernel
theorem dL_law_220 : decode cL_law 220 = .ok (.iaload, 1) := by decide +kernel
theorem dL_law_221 : decode cL_law 221 = .ok (.aload_n 3, 1) := by decide +kernel
theorem dL_law_222 : decode cL_law 222 = .ok (.invokestatic 128, 3) := by decide +kernel
theorem dL_law_225 : decode cL_law 225 = .ok (.istore 6, 2) := by decide +kernel
theorem dL_law_227 : decode cL_law 227 = .ok (.aload_n 2, 1) := by decide +kernel
theorem dL_law_228 : decode cL_law 228 = .ok (.aload_n 0, 1) := by decide +kernel
theorem dL_law_229 : decode cL_law 229 = .ok (.iload 5, 2) := by decide +kernel
theorem dL_law_231 : decode cL_law 231 = .ok (.iconst 1, 1) := by decide +kernel
theorem dL_law_232 : decode cL_law 232 = .ok (.iadd, 1) := by decide +kernel
theorem dL_law_233 : decode cL_law 233 = .ok (.iaload, 1) := by decide +kernel
theorem dL_law_234 : decode cL_law 234 = .ok (.aload_n 0, 1) := by decide +kernel
theorem dL_law_235 : decode cL_law 235 = .ok (.iload 5, 2) := by decide +kernel
theorem dL_law_237 : decode cL_law 237 = .ok (.iconst 2, 1) := by decide +kernel
theorem dL_law_238 : decode cL_law 238 = .ok (.iadd, 1) := by decide +kernel
theorem dL_law_239 : decode cL_law 239 = .ok (.iaload, 1) := by decide +kernel
theorem dL_law_240 : decode cL_law 240 = .ok (.invokevirtual 133, 3) := by decide +kernel
theorem dL_law_243 : decode cL_law 243 = .ok (.istore 7, 2) := by decide +kernel
theorem dL_law_245 : decode cL_law 245 = .ok (.aload_n 2, 1) := by decide +kernel
theorem dL_law_246 : decode cL_law 246 = .ok (.invokevirtual 134, 3) := by decide +kernel
theorem dL_law_249 : decode cL_law 249 = .ok (.iload 6, 2) := by decide +kernel
theorem dL_law_251 : decode cL_law 251 = .ok (.if_icmp .eq 5, 3) := by decide +kernel
theorem dL_law_254 : decode cL_law 254 = .ok (.iconst 0, 1) := by decide +kernel
theorem dL_law_255 : decode cL_law 255 = .ok (.ireturn, 1) := by decide +kernel
theorem dL_law_256 : decode cL_law 256 = .ok (.iload 6, 2) := by decide +kernel
theorem dL_law_258 : decode cL_law 258 = .ok (.ifCond .ne 15, 3) := by decide +kernel
theorem dL_law_261 : decode cL_law 261 = .ok (.aload_n 3, 1) := by decide +kernel
theorem dL_law_262 : decode cL_law 262 = .ok (.iconst 0, 1) := by decide +kernel
theorem dL_law_263 : decode cL_law 263 = .ok (.laload, 1) := by decide +kernel
theorem dL_law_264 : decode cL_law 264 = .ok (.iload 7, 2) := by decide +kernel
theorem dL_law_266 : decode cL_law 266 = .ok (.i2l, 1) := by decide +kernel
theorem dL_law_267 : decode cL_law 267 = .ok (.lcmp, 1) := by decide +kernel
theorem dL_law_268 : decode cL_law 268 = .ok (.ifCond .eq 5, 3) := by decide +kernel
theorem dL_law_271 : decode cL_law 271 = .ok (.iconst 0, 1) := by decide +kernel
theorem dL_law_272 : decode cL_law 272 = .ok (.ireturn, 1) := by decide +kernel
theorem dL_law_273 : decode cL_law 273 = .ok (.goto 1889, 3) := by decide +kernel
theorem dL_law_276 : decode cL_law 276 = .ok (.aload_n 1, 1) := by decide +kernel
theorem dL_law_277 : decode cL_law 277 = .ok (.aload_n 0, 1) := by decide +kernel
theorem dL_law_278 : decode cL_law 278 = .ok (.iload 5, 2) := by decide +kernel
theorem dL_law_280 : decode cL_law 280 = .ok (.iconst 1, 1) := by decide +kernel
theorem dL_law_281 : decode cL_law 281 = .ok (.iadd, 1) := by decide +kernel
theorem dL_law_282 : decode cL_law 282 = .ok (.iaload, 1) := by decide +kernel
theorem dL_law_283 : decode cL_law 283 = .ok (.aload_n 0, 1) := by decide +kernel
theorem dL_law_284 : decode cL_law 284 = .ok (.iload 5, 2) := by decide +kernel
theorem dL_law_286 : decode cL_law 286 = .ok (.iconst 2, 1) := by decide +kernel
theorem dL_law_287 : decode cL_law 287 = .ok (.iadd, 1) := by decide +kernel
theorem dL_law_288 : decode cL_law 288 = .ok (.iaload, 1) := by decide +kernel
theorem dL_law_289 : decode cL_law 289 = .ok (.aload_n 3, 1) := by decide +kernel
theorem dL_law_290 : decode cL_law 290 = .ok (.invokestatic 137, 3) := by decide +kernel
theorem dL_law_293 : decode cL_law 293 = .ok (.istore 6, 2) := by decide +kernel
theorem dL_law_295 : decode cL_law 295 = .ok (.aload_n 2, 1) := by decide +kernel
theorem dL_law_296 : decode cL_law 296 = .ok (.aload_n 0, 1) := by decide +kernel
theorem dL_law_297 : decode cL_law 297 = .ok (.iload 5, 2) := by decide +kernel
theorem dL_law_299 : decode cL_law 299 = .ok (.iconst 1, 1) := by decide +kernel
theorem dL_law_300 : decode cL_law 300 = .ok (.iadd, 1) := by decide +kernel
theorem dL_law_301 : decode cL_law 301 = .ok (.iaload, 1) := by decide +kernel
theorem dL_law_302 : decode cL_law 302 = .ok (.aload_n 0, 1) := by decide +kernel
theorem dL_law_303 : decode cL_law 303 = .ok (.iload 5, 2) := by decide +kernel
theorem dL_law_305 : decode cL_law 305 = .ok (.iconst 2, 1) := by decide +kernel
theorem dL_law_306 : decode cL_law 306 = .ok (.iadd, 1) := by decide +kernel
theorem dL_law_307 : decode cL_law 307 = .ok (.iaload, 1) := by decide +kernel
theorem dL_law_308 : decode cL_law 308 = .ok (.invokevirtual 139, 3) := by decide +kernel
theorem dL_law_311 : decode cL_law 311 = .ok (.istore 7, 2) := by decide +kernel
theorem dL_law_313 : decode cL_law 313 = .ok (.aload_n 2, 1) := by decide +kernel
theorem dL_law_314 : decode cL_law 314 = .ok (.invokevirtual 134, 3) := by decide +kernel
theorem dL_law_317 : decode cL_law 317 = .ok (.iload 6, 2) := by decide +kernel
theorem dL_law_319 : decode cL_law 319 = .ok (.if_icmp .eq 5, 3) := by decide +kernel
theorem dL_law_322 : decode cL_law 322 = .ok (.iconst 0, 1) := by decide +kernel
theorem dL_law_323 : decode cL_law 323 = .ok (.ireturn, 1) := by decide +kernel
theorem dL_law_324 : decode cL_law 324 = .ok (.iload 6, 2) := by decide +kernel
theorem dL_law_326 : decode cL_law 326 = .ok (.ifCond .ne 15, 3) := by decide +kernel
theorem dL_law_329 : decode cL_law 329 = .ok (.aload_n 3, 1) := by decide +kernel
theorem dL_law_330 : decode cL_law 330 = .ok (.iconst 0, 1) := by decide +kernel
theorem dL_law_331 : decode cL_law 331 = .ok (.laload, 1) := by decide +kernel
theorem dL_law_332 : decode cL_law 332 = .ok (.iload 7, 2) := by decide +kernel
theorem dL_law_334 : decode cL_law 334 = .ok (.i2l, 1) := by decide +kernel
theorem dL_law_335 : decode cL_law 335 = .ok (.lcmp, 1) := by decide +kernel
theorem dL_law_336 : decode cL_law 336 = .ok (.ifCond .eq 5, 3) := by decide +kernel
theorem dL_law_339 : decode cL_law 339 = .ok (.iconst 0, 1) := by decide +kernel
theorem dL_law_340 : decode cL_law 340 = .ok (.ireturn, 1) := by decide +kernel
theorem dL_law_341 : decode cL_law 341 = .ok (.goto 1821, 3) := by decide +kernel
theorem dL_law_344 : decode cL_law 344 = .ok (.aload_n 1, 1) := by decide +kernel
theorem dL_law_345 : decode cL_law 345 = .ok (.aload_n 0, 1) := by decide +kernel
theorem dL_law_346 : decode cL_law 346 = .ok (.iload 5, 2) := by decide +kernel
theorem dL_law_348 : decode cL_law 348 = .ok (.iconst 1, 1) := by decide +kernel
theorem dL_law_349 : decode cL_law 349 = .ok (.iadd, 1) := by decide +kernel
theorem dL_law_350 : decode cL_law 350 = .ok (.iaload, 1) := by decide +kernel
theorem dL_law_351 : decode cL_law 351 = .ok (.aload_n 3, 1) := by decide +kernel
theorem dL_law_352 : decode cL_law 352 = .ok (.invokestatic 140, 3) := by decide +kernel
theorem dL_law_355 : decode cL_law 355 = .ok (.istore 6, 2) := by decide +kernel
theorem dL_law_357 : decode cL_law 357 = .ok (.aload_n 2, 1) := by decide +kernel
theorem dL_law_358 : decode cL_law 358 = .ok (.aload_n 0, 1) := by decide +kernel
theorem dL_law_359 : decode cL_law 359 = .ok (.iload 5, 2) := by decide +kernel
theorem dL_law_361 : decode cL_law 361 = .ok (.iconst 1, 1) := by decide +kernel
theorem dL_law_362 : decode cL_law 362 = .ok (.iadd, 1) := by decide +kernel
theorem dL_law_363 : decode cL_law 363 = .ok (.iaload, 1) := by decide +kernel
theorem dL_law_364 : decode cL_law 364 = .ok (.invokevirtual 143, 3) := by decide +kernel
theorem dL_law_367 : decode cL_law 367 = .ok (.istore 7, 2) := by decide +kernel
theorem dL_law_369 : decode cL_law 369 = .ok (.aload_n 2, 1) := by decide +kernel
theorem dL_law_370 : decode cL_law 370 = .ok (.invokevirtual 134, 3) := by decide +kernel
theorem dL_law_373 : decode cL_law 373 = .ok (.iload 6, 2) := by decide +kernel
theorem dL_law_375 : decode cL_law 375 = .ok (.if_icmp .eq 5, 3) := by decide +kernel
theorem dL_law_378 : decode cL_law 378 = .ok (.iconst 0, 1) := by decide +kernel
theorem dL_law_379 : decode cL_law 379 = .ok (.ireturn, 1) := by decide +kernel
theorem dL_law_380 : decode cL_law 380 = .ok (.iload 6, 2) := by decide +kernel
theorem dL_law_382 : decode cL_law 382 = .ok (.ifCond .ne 15, 3) := by decide +kernel
theorem dL_law_385 : decode cL_law 385 = .ok (.aload_n 3, 1) := by decide +kernel
theorem dL_law_386 : decode cL_law 386 = .ok (.iconst 0, 1) := by decide +kernel
theorem dL_law_387 : decode cL_law 387 = .ok (.laload, 1) := by decide +kernel
theorem dL_law_388 : decode cL_law 388 = .ok (.iload 7, 2) := by decide +kernel
theorem dL_law_390 : decode cL_law 390 = .ok (.i2l, 1) := by decide +kernel
theorem dL_law_391 : decode cL_law 391 = .ok (.lcmp, 1) := by decide +kernel
theorem dL_law_392 : decode cL_law 392 = .ok (.ifCond .eq 5, 3) := by decide +kernel
theorem dL_law_395 : decode cL_law 395 = .ok (.iconst 0, 1) := by decide +kernel
theorem dL_law_396 : decode cL_law 396 = .ok (.ireturn, 1) := by decide +kernel
theorem dL_law_397 : decode cL_law 397 = .ok (.goto 1765, 3) := by decide +kernel
theorem dL_law_400 : decode cL_law 400 = .ok (.aload_n 1, 1) := by decide +kernel
theorem dL_law_401 : decode cL_law 401 = .ok (.aload_n 0, 1) := by decide +kernel
theorem dL_law_402 : decode cL_law 402 = .ok (.iload 5, 2) := by decide +kernel
theorem dL_law_404 : decode cL_law 404 = .ok (.iconst 1, 1) := by decide +kernel
theorem dL_law_405 : decode cL_law 405 = .ok (.iadd, 1) := by decide +kernel
theorem dL_law_406 : decode cL_law 406 = .ok (.iaload, 1) := by decide +kernel
theorem dL_law_407 : decode cL_law 407 = .ok (.aload_n 3, 1) := by decide +kernel
theorem dL_law_408 : decode cL_law 408 = .ok (.invokestatic 144, 3) := by decide +kernel
theorem dL_law_411 : decode cL_law 411 = .ok (.istore 6, 2) := by decide +kernel
theorem dL_law_413 : decode cL_law 413 = .ok (.aload_n 2, 1) := by decide +kernel
theorem dL_law_414 : decode cL_law 414 = .ok (.aload_n 0, 1) := by decide +kernel
theorem dL_law_415 : decode cL_law 415 = .ok (.iload 5, 2) := by decide +kernel
theorem dL_law_417 : decode cL_law 417 = .ok (.iconst 1, 1) := by decide +kernel
theorem dL_law_418 : decode cL_law 418 = .ok (.iadd, 1) := by decide +kernel
theorem dL_law_419 : decode cL_law 419 = .ok (.iaload, 1) := by decide +kernel
theorem dL_law_420 : decode cL_law 420 = .ok (.invokevirtual 146, 3) := by decide +kernel
theorem dL_law_423 : decode cL_law 423 = .ok (.istore 7, 2) := by decide +kernel
theorem dL_law_425 : decode cL_law 425 = .ok (.aload_n 2, 1) := by decide +kernel
theorem dL_law_426 : decode cL_law 426 = .ok (.invokevirtual 134, 3) := by decide +kernel
theorem dL_law_429 : decode cL_law 429 = .ok (.iload 6, 2) := by decide +kernel
theorem dL_law_431 : decode cL_law 431 = .ok (.if_icmp .eq 5, 3) := by decide +kernel
theorem dL_law_434 : decode cL_law 434 = .ok (.iconst 0, 1) := by decide +kernel
theorem dL_law_435 : decode cL_law 435 = .ok (.ireturn, 1) := by decide +kernel
theorem dL_law_436 : decode cL_law 436 = .ok (.iload 6, 2) := by decide +kernel
theorem dL_law_438 : decode cL_law 438 = .ok (.ifCond .ne 15, 3) := by decide +kernel
theorem dL_law_441 : decode cL_law 441 = .ok (.aload_n 3, 1) := by decide +kernel
theorem dL_law_442 : decode cL_law 442 = .ok (.iconst 0, 1) := by decide +kernel
theorem dL_law_443 : decode cL_law 443 = .ok (.laload, 1) := by decide +kernel
theorem dL_law_444 : decode cL_law 444 = .ok (.iload 7, 2) := by decide +kernel
theorem dL_law_446 : decode cL_law 446 = .ok (.i2l, 1) := by decide +kernel
theorem dL_law_447 : decode cL_law 447 = .ok (.lcmp, 1) := by decide +kernel
theorem dL_law_448 : decode cL_law 448 = .ok (.ifCond .eq 5, 3) := by decide +kernel
theorem dL_law_451 : decode cL_law 451 = .ok (.iconst 0, 1) := by decide +kernel
theorem dL_law_452 : decode cL_law 452 = .ok (.ireturn, 1) := by decide +kernel
theorem dL_law_453 : decode cL_law 453 = .ok (.goto 1709, 3) := by decide +kernel
theorem dL_law_456 : decode cL_law 456 = .ok (.aload_n 1, 1) := by decide +kernel
theorem dL_law_457 : decode cL_law 457 = .ok (.aload_n 0, 1) := by decide +kernel
theorem dL_law_458 : decode cL_law 458 = .ok (.iload 5, 2) := by decide +kernel
theorem dL_law_460 : decode cL_law 460 = .ok (.iconst 1, 1) := by decide +kernel
theorem dL_law_461 : decode cL_law 461 = .ok (.iadd, 1) := by decide +kernel
theorem dL_law_462 : decode cL_law 462 = .ok (.iaload, 1) := by decide +kernel
theorem dL_law_463 : decode cL_law 463 = .ok (.aload_n 3, 1) := by decide +kernel
theorem dL_law_464 : decode cL_law 464 = .ok (.invokestatic 147, 3) := by decide +kernel
theorem dL_law_467 : decode cL_law 467 = .ok (.istore 6, 2) := by decide +kernel
theorem dL_law_469 : decode cL_law 469 = .ok (.aload_n 2, 1) := by decide +kernel
theorem dL_law_470 : decode cL_law 470 = .ok (.aload_n 0, 1) := by decide +kernel
theorem dL_law_471 : decode cL_law 471 = .ok (.iload 5, 2) := by decide +kernel
theorem dL_law_473 : decode cL_law 473 = .ok (.iconst 1, 1) := by decide +kernel
theorem dL_law_474 : decode cL_law 474 = .ok (.iadd, 1) := by decide +kernel
theorem dL_law_475 : decode cL_law 475 = .ok (.iaload, 1) := by decide +kernel
theorem dL_law_476 : decode cL_law 476 = .ok (.invokevirtual 149, 3) := by decide +kernel
theorem dL_law_479 : decode cL_law 479 = .ok (.istore 7, 2) := by decide +kernel
theorem dL_law_481 : decode cL_law 481 = .ok (.aload_n 2, 1) := by decide +kernel
theorem dL_law_482 : decode cL_law 482 = .ok (.invokevirtual 134, 3) := by decide +kernel
theorem dL_law_485 : decode cL_law 485 = .ok (.iload 6, 2) := by decide +kernel
theorem dL_law_487 : decode cL_law 487 = .ok (.if_icmp .eq 5, 3) := by decide +kernel
theorem dL_law_490 : decode cL_law 490 = .ok (.iconst 0, 1) := by decide +kernel
theorem dL_law_491 : decode cL_law 491 = .ok (.ireturn, 1) := by decide +kernel
theorem dL_law_492 : decode cL_law 492 = .ok (.iload 6, 2) := by decide +kernel
theorem dL_law_494 : decode cL_law 494 = .ok (.ifCond .ne 15, 3) := by decide +kernel
theorem dL_law_497 : decode cL_law 497 = .ok (.aload_n 3, 1) := by decide +kernel
theorem dL_law_498 : decode cL_law 498 = .ok (.iconst 0, 1) := by decide +kernel
theorem dL_law_499 : decode cL_law 499 = .ok (.laload, 1) := by decide +kernel
theorem dL_law_500 : decode cL_law 500 = .ok (.iload 7, 2) := by decide +kernel
theorem dL_law_502 : decode cL_law 502 = .ok (.i2l, 1) := by decide +kernel
theorem dL_law_503 : decode cL_law 503 = .ok (.lcmp, 1) := by decide +kernel
theorem dL_law_504 : decode cL_law 504 = .ok (.ifCond .eq 5, 3) := by decide +kernel
theorem dL_law_507 : decode cL_law 507 = .ok (.iconst 0, 1) := by decide +kernel
theorem dL_law_508 : decode cL_law 508 = .ok (.ireturn, 1) := by decide +kernel
theorem dL_law_509 : decode cL_law 509 = .ok (.goto 1653, 3) := by decide +kernel
theorem dL_law_512 : decode cL_law 512 = .ok (.aload_n 1, 1) := by decide +kernel
theorem dL_law_513 : decode cL_law 513 = .ok (.aload_n 0, 1) := by decide +kernel
theorem dL_law_514 : decode cL_law 514 = .ok (.iload 5, 2) := by decide +kernel
theorem dL_law_516 : decode cL_law 516 = .ok (.iconst 1, 1) := by decide +kernel
theorem dL_law_517 : decode cL_law 517 = .ok (.iadd, 1) := by decide +kernel
theorem dL_law_518 : decode cL_law 518 = .ok (.iaload, 1) := by decide +kernel
theorem dL_law_519 : decode cL_law 519 = .ok (.aload_n 3, 1) := by decide +kernel
theorem dL_law_520 : decode cL_law 520 = .ok (.invokestatic 150, 3) := by decide +kernel
theorem dL_law_523 : decode cL_law 523 = .ok (.istore 6, 2) := by decide +kernel
theorem dL_law_525 : decode cL_law 525 = .ok (.aload_n 2, 1) := by decide +kernel
theorem dL_law_526 : decode cL_law 526 = .ok (.aload_n 0, 1) := by decide +kernel
theorem dL_law_527 : decode cL_law 527 = .ok (.iload 5, 2) := by decide +kernel
theorem dL_law_529 : decode cL_law 529 = .ok (.iconst 1, 1) := by decide +kernel
theorem dL_law_530 : decode cL_law 530 = .ok (.iadd, 1) := by decide +kernel
theorem dL_law_531 : decode cL_law 531 = .ok (.iaload, 1) := by decide +kernel
theorem dL_law_532 : decode cL_law 532 = .ok (.invokevirtual 152, 3) := by decide +kernel
theorem dL_law_535 : decode cL_law 535 = .ok (.istore 7, 2) := by decide +kernel
theorem dL_law_537 : decode cL_law 537 = .ok (.aload_n 2, 1) := by decide +kernel
theorem dL_law_538 : decode cL_law 538 = .ok (.invokevirtual 134, 3) := by decide +kernel
theorem dL_law_541 : decode cL_law 541 = .ok (.iload 6, 2) := by decide +kernel
theorem dL_law_543 : decode cL_law 543 = .ok (.if_icmp .eq 5, 3) := by decide +kernel
theorem dL_law_546 : decode cL_law 546 = .ok (.iconst 0, 1) := by decide +kernel
theorem dL_law_547 : decode cL_law 547 = .ok (.ireturn, 1) := by decide +kernel
theorem dL_law_548 : decode cL_law 548 = .ok (.iload 6, 2) := by decide +kernel
theorem dL_law_550 : decode cL_law 550 = .ok (.ifCond .ne 15, 3) := by decide +kernel
theorem dL_law_553 : decode cL_law 553 = .ok (.aload_n 3, 1) := by decide +kernel
theorem dL_law_554 : decode cL_law 554 = .ok (.iconst 0, 1) := by decide +kernel
theorem dL_law_555 : decode cL_law 555 = .ok (.laload, 1) := by decide +kernel
theorem dL_law_556 : decode cL_law 556 = .ok (.iload 7, 2) := by decide +kernel
theorem dL_law_558 : decode cL_law 558 = .ok (.i2l, 1) := by decide +kernel
theorem dL_law_559 : decode cL_law 559 = .ok (.lcmp, 1) := by decide +kernel
theorem dL_law_560 : decode cL_law 560 = .ok (.ifCond .eq 5, 3) := by decide +kernel
theorem dL_law_563 : decode cL_law 563 = .ok (.iconst 0, 1) := by decide +kernel
theorem dL_law_564 : decode cL_law 564 = .ok (.ireturn, 1) := by decide +kernel
theorem dL_law_565 : decode cL_law 565 = .ok (.goto 1597, 3) := by decide +kernel
theorem dL_law_568 : decode cL_law 568 = .ok (.aload_n 1, 1) := by decide +kernel
theorem dL_law_569 : decode cL_law 569 = .ok (.aload_n 3, 1) := by decide +kernel
theorem dL_law_570 : decode cL_law 570 = .ok (.invokestatic 153, 3) := by decide +kernel
theorem dL_law_573 : decode cL_law 573 = .ok (.istore 6, 2) := by decide +kernel
theorem dL_law_575 : decode cL_law 575 = .ok (.aload_n 2, 1) := by decide +kernel
theorem dL_law_576 : decode cL_law 576 = .ok (.invokevirtual 156, 3) := by decide +kernel
theorem dL_law_579 : decode cL_law 579 = .ok (.istore 7, 2) := by decide +kernel
theorem dL_law_581 : decode cL_law 581 = .ok (.aload_n 2, 1) := by decide +kernel
theorem dL_law_582 : decode cL_law 582 = .ok (.invokevirtual 134, 3) := by decide +kernel
theorem dL_law_585 : decode cL_law 585 = .ok (.iload 6, 2) := by decide +kernel
theorem dL_law_587 : decode cL_law 587 = .ok (.if_icmp .eq 5, 3) := by decide +kernel
theorem dL_law_590 : decode cL_law 590 = .ok (.iconst 0, 1) := by decide +kernel
theorem dL_law_591 : decode cL_law 591 = .ok (.ireturn, 1) := by decide +kernel
theorem dL_law_592 : decode cL_law 592 = .ok (.iload 6, 2) := by decide +kernel
theorem dL_law_594 : decode cL_law 594 = .ok (.ifCond .ne 15, 3) := by decide +kernel
theorem dL_law_597 : decode cL_law 597 = .ok (.aload_n 3, 1) := by decide +kernel
theorem dL_law_598 : decode cL_law 598 = .ok (.iconst 0, 1) := by decide +kernel
theorem dL_law_599 : decode cL_law 599 = .ok (.laload, 1) := by decide +kernel
theorem dL_law_600 : decode cL_law 600 = .ok (.iload 7, 2) := by decide +kernel
theorem dL_law_602 : decode cL_law 602 = .ok (.i2l, 1) := by decide +kernel
theorem dL_law_603 : decode cL_law 603 = .ok (.lcmp, 1) := by decide +kernel
theorem dL_law_604 : decode cL_law 604 = .ok (.ifCond .eq 5, 3) := by decide +kernel
theorem dL_law_607 : decode cL_law 607 = .ok (.iconst 0, 1) := by decide +kernel
theorem dL_law_608 : decode cL_law 608 = .ok (.ireturn, 1) := by decide +kernel
theorem dL_law_609 : decode cL_law 609 = .ok (.goto 1553, 3) := by decide +kernel
theorem dL_law_612 : decode cL_law 612 = .ok (.aload_n 1, 1) := by decide +kernel
theorem dL_law_613 : decode cL_law 613 = .ok (.aload_n 3, 1) := by decide +kernel
theorem dL_law_614 : decode cL_law 614 = .ok (.invokestatic 157, 3) := by decide +kernel
theorem dL_law_617 : decode cL_law 617 = .ok (.istore 6, 2) := by decide +kernel
theorem dL_law_619 : decode cL_law 619 = .ok (.aload_n 2, 1) := by decide +kernel
theorem dL_law_620 : decode cL_law 620 = .ok (.invokevirtual 159, 3) := by decide +kernel
theorem dL_law_623 : decode cL_law 623 = .ok (.istore 7, 2) := by decide +kernel
theorem dL_law_625 : decode cL_law 625 = .ok (.aload_n 2, 1) := by decide +kernel
theorem dL_law_626 : decode cL_law 626 = .ok (.invokevirtual 134, 3) := by decide +kernel
theorem dL_law_629 : decode cL_law 629 = .ok (.iload 6, 2) := by decide +kernel
theorem dL_law_631 : decode cL_law 631 = .ok (.if_icmp .eq 5, 3) := by decide +kernel
theorem dL_law_634 : decode cL_law 634 = .ok (.iconst 0, 1) := by decide +kernel
theorem dL_law_635 : decode cL_law 635 = .ok (.ireturn, 1) := by decide +kernel
theorem dL_law_636 : decode cL_law 636 = .ok (.iload 6, 2) := by decide +kernel
theorem dL_law_638 : decode cL_law 638 = .ok (.ifCond .ne 15, 3) := by decide +kernel
theorem dL_law_641 : decode cL_law 641 = .ok (.aload_n 3, 1) := by decide +kernel
theorem dL_law_642 : decode cL_law 642 = .ok (.iconst 0, 1) := by decide +kernel
theorem dL_law_643 : decode cL_law 643 = .ok (.laload, 1) := by decide +kernel
theorem dL_law_644 : decode cL_law 644 = .ok (.iload 7, 2) := by decide +kernel
theorem dL_law_646 : decode cL_law 646 = .ok (.i2l, 1) := by decide +kernel
theorem dL_law_647 : decode cL_law 647 = .ok (.lcmp, 1) := by decide +kernel
theorem dL_law_648 : decode cL_law 648 = .ok (.ifCond .eq 5, 3) := by decide +kernel
theorem dL_law_651 : decode cL_law 651 = .ok (.iconst 0, 1) := by decide +kernel
theorem dL_law_652 : decode cL_law 652 = .ok (.ireturn, 1) := by decide +kernel
theorem dL_law_653 : decode cL_law 653 = .ok (.goto 1509, 3) := by decide +kernel
theorem dL_law_656 : decode cL_law 656 = .ok (.aload_n 1, 1) := by decide +kernel
theorem dL_law_657 : decode cL_law 657 = .ok (.aload_n 0, 1) := by decide +kernel
theorem dL_law_658 : decode cL_law 658 = .ok (.iload 5, 2) := by decide +kernel
theorem dL_law_660 : decode cL_law 660 = .ok (.iconst 1, 1) := by decide +kernel
theorem dL_law_661 : decode cL_law 661 = .ok (.iadd, 1) := by decide +kernel
theorem dL_law_662 : decode cL_law 662 = .ok (.iaload, 1) := by decide +kernel
theorem dL_law_663 : decode cL_law 663 = .ok (.aload_n 0, 1) := by decide +kernel
theorem dL_law_664 : decode cL_law 664 = .ok (.iload 5, 2) := by decide +kernel
theorem dL_law_666 : decode cL_law 666 = .ok (.iconst 2, 1) := by decide +kernel
theorem dL_law_667 : decode cL_law 667 = .ok (.iadd, 1) := by decide +kernel
theorem dL_law_668 : decode cL_law 668 = .ok (.iaload, 1) := by decide +kernel
theorem dL_law_669 : decode cL_law 669 = .ok (.aload_n 3, 1) := by decide +kernel
theorem dL_law_670 : decode cL_law 670 = .ok (.invokestatic 160, 3) := by decide +kernel
theorem dL_law_673 : decode cL_law 673 = .ok (.istore 6, 2) := by decide +kernel
theorem dL_law_675 : decode cL_law 675 = .ok (.aload_n 2, 1) := by decide +kernel
theorem dL_law_676 : decode cL_law 676 = .ok (.aload_n 0, 1) := by decide +kernel
theorem dL_law_677 : decode cL_law 677 = .ok (.iload 5, 2) := by decide +kernel
theorem dL_law_679 : decode cL_law 679 = .ok (.iconst 1, 1) := by decide +kernel
theorem dL_law_680 : decode cL_law 680 = .ok (.iadd, 1) := by decide +kernel
theorem dL_law_681 : decode cL_law 681 = .ok (.iaload, 1) := by decide +kernel
theorem dL_law_682 : decode cL_law 682 = .ok (.aload_n 0, 1) := by decide +kernel
theorem dL_law_683 : decode cL_law 683 = .ok (.iload 5, 2) := by decide +kernel
theorem dL_law_685 : decode cL_law 685 = .ok (.iconst 2, 1) := by decide +kernel
theorem dL_law_686 : decode cL_law 686 = .ok (.iadd, 1) := by decide +kernel
theorem dL_law_687 : decode cL_law 687 = .ok (.iaload, 1) := by decide +kernel
theorem dL_law_688 : decode cL_law 688 = .ok (.invokevirtual 162, 3) := by decide +kernel
theorem dL_law_691 : decode cL_law 691 = .ok (.istore 7, 2) := by decide +kernel
theorem dL_law_693 : decode cL_law 693 = .ok (.aload_n 2, 1) := by decide +kernel
theorem dL_law_694 : decode cL_law 694 = .ok (.invokevirtual 134, 3) := by decide +kernel
theorem dL_law_697 : decode cL_law 697 = .ok (.iload 6, 2) := by decide +kernel
theorem dL_law_699 : decode cL_law 699 = .ok (.if_icmp .eq 5, 3) := by decide +kernel
theorem dL_law_702 : decode cL_law 702 = .ok (.iconst 0, 1) := by decide +kernel
theorem dL_law_703 : decode cL_law 703 = .ok (.ireturn, 1) := by decide +kernel
theorem dL_law_704 : decode cL_law 704 = .ok (.iload 6, 2) := by decide +kernel
theorem dL_law_706 : decode cL_law 706 = .ok (.ifCond .ne 15, 3) := by decide +kernel
theorem dL_law_709 : decode cL_law 709 = .ok (.aload_n 3, 1) := by decide +kernel
theorem dL_law_710 : decode cL_law 710 = .ok (.iconst 0, 1) := by decide +kernel
theorem dL_law_711 : decode cL_law 711 = .ok (.laload, 1) := by decide +kernel
theorem dL_law_712 : decode cL_law 712 = .ok (.iload 7, 2) := by decide +kernel
theorem dL_law_714 : decode cL_law 714 = .ok (.i2l, 1) := by decide +kernel
theorem dL_law_715 : decode cL_law 715 = .ok (.lcmp, 1) := by decide +kernel
theorem dL_law_716 : decode cL_law 716 = .ok (.ifCond .eq 5, 3) := by decide +kernel
theorem dL_law_719 : decode cL_law 719 = .ok (.iconst 0, 1) := by decide +kernel
theorem dL_law_720 : decode cL_law 720 = .ok (.ireturn, 1) := by decide +kernel
theorem dL_law_721 : decode cL_law 721 = .ok (.goto 1441, 3) := by decide +kernel
theorem dL_law_724 : decode cL_law 724 = .ok (.aload_n 1, 1) := by decide +kernel
theorem dL_law_725 : decode cL_law 725 = .ok (.aload_n 0, 1) := by decide +kernel
theorem dL_law_726 : decode cL_law 726 = .ok (.iload 5, 2) := by decide +kernel
theorem dL_law_728 : decode cL_law 728 = .ok (.iconst 1, 1) := by decide +kernel
theorem dL_law_729 : decode cL_law 729 = .ok (.iadd, 1) := by decide +kernel
theorem dL_law_730 : decode cL_law 730 = .ok (.iaload, 1) := by decide +kernel
theorem dL_law_731 : decode cL_law 731 = .ok (.aload_n 0, 1) := by decide +kernel
theorem dL_law_732 : decode cL_law 732 = .ok (.iload 5, 2) := by decide +kernel
theorem dL_law_734 : decode cL_law 734 = .ok (.iconst 2, 1) := by decide +kernel
theorem dL_law_735 : decode cL_law 735 = .ok (.iadd, 1) := by decide +kernel
theorem dL_law_736 : decode cL_law 736 = .ok (.iaload, 1) := by decide +kernel
theorem dL_law_737 : decode cL_law 737 = .ok (.aload_n 3, 1) := by decide +kernel
theorem dL_law_738 : decode cL_law 738 = .ok (.invokestatic 163, 3) := by decide +kernel
theorem dL_law_741 : decode cL_law 741 = .ok (.istore 6, 2) := by decide +kernel
theorem dL_law_743 : decode cL_law 743 = .ok (.aload_n 2, 1) := by decide +kernel
theorem dL_law_744 : decode cL_law 744 = .ok (.aload_n 0, 1) := by decide +kernel
theorem dL_law_745 : decode cL_law 745 = .ok (.iload 5, 2) := by decide +kernel
theorem dL_law_747 : decode cL_law 747 = .ok (.iconst 1, 1) := by decide +kernel
theorem dL_law_748 : decode cL_law 748 = .ok (.iadd, 1) := by decide +kernel
theorem dL_law_749 : decode cL_law 749 = .ok (.iaload, 1) := by decide +kernel
theorem dL_law_750 : decode cL_law 750 = .ok (.aload_n 0, 1) := by decide +kernel
theorem dL_law_751 : decode cL_law 751 = .ok (.iload 5, 2) := by decide +kernel
theorem dL_law_753 : decode cL_law 753 = .ok (.iconst 2, 1) := by decide +kernel
theorem dL_law_754 : decode cL_law 754 = .ok (.iadd, 1) := by decide +kernel
theorem dL_law_755 : decode cL_law 755 = .ok (.iaload, 1) := by decide +kernel
theorem dL_law_756 : decode cL_law 756 = .ok (.invokevirtual 165, 3) := by decide +kernel
theorem dL_law_759 : decode cL_law 759 = .ok (.istore 7, 2) := by decide +kernel
theorem dL_law_761 : decode cL_law 761 = .ok (.aload_n 2, 1) := by decide +kernel
theorem dL_law_762 : decode cL_law 762 = .ok (.invokevirtual 134, 3) := by decide +kernel
theorem dL_law_765 : decode cL_law 765 = .ok (.iload 6, 2) := by decide +kernel
theorem dL_law_767 : decode cL_law 767 = .ok (.if_icmp .eq 5, 3) := by decide +kernel
theorem dL_law_770 : decode cL_law 770 = .ok (.iconst 0, 1) := by decide +kernel
theorem dL_law_771 : decode cL_law 771 = .ok (.ireturn, 1) := by decide +kernel
theorem dL_law_772 : decode cL_law 772 = .ok (.iload 6, 2) := by decide +kernel
theorem dL_law_774 : decode cL_law 774 = .ok (.ifCond .ne 15, 3) := by decide +kernel
theorem dL_law_777 : decode cL_law 777 = .ok (.aload_n 3, 1) := by decide +kernel
theorem dL_law_778 : decode cL_law 778 = .ok (.iconst 0, 1) := by decide +kernel
theorem dL_law_779 : decode cL_law 779 = .ok (.laload, 1) := by decide +kernel
theorem dL_law_780 : decode cL_law 780 = .ok (.iload 7, 2) := by decide +kernel
theorem dL_law_782 : decode cL_law 782 = .ok (.i2l, 1) := by decide +kernel
theorem dL_law_783 : decode cL_law 783 = .ok (.lcmp, 1) := by decide +kernel
theorem dL_law_784 : decode cL_law 784 = .ok (.ifCond .eq 5, 3) := by decide +kernel
theorem dL_law_787 : decode cL_law 787 = .ok (.iconst 0, 1) := by decide +kernel
theorem dL_law_788 : decode cL_law 788 = .ok (.ireturn, 1) := by decide +kernel
theorem dL_law_789 : decode cL_law 789 = .ok (.goto 1373, 3) := by decide +kernel
theorem dL_law_792 : decode cL_law 792 = .ok (.aload_n 1, 1) := by decide +kernel
theorem dL_law_793 : decode cL_law 793 = .ok (.aload_n 0, 1) := by decide +kernel
theorem dL_law_794 : decode cL_law 794 = .ok (.iload 5, 2) := by decide +kernel
theorem dL_law_796 : decode cL_law 796 = .ok (.iconst 1, 1) := by decide +kernel
theorem dL_law_797 : decode cL_law 797 = .ok (.iadd, 1) := by decide +kernel
theorem dL_law_798 : decode cL_law 798 = .ok (.iaload, 1) := by decide +kernel
theorem dL_law_799 : decode cL_law 799 = .ok (.aload_n 0, 1) := by decide +kernel
theorem dL_law_800 : decode cL_law 800 = .ok (.iload 5, 2) := by decide +kernel
theorem dL_law_802 : decode cL_law 802 = .ok (.iconst 2, 1) := by decide +kernel
theorem dL_law_803 : decode cL_law 803 = .ok (.iadd, 1) := by decide +kernel
theorem dL_law_804 : decode cL_law 804 = .ok (.iaload, 1) := by decide +kernel
theorem dL_law_805 : decode cL_law 805 = .ok (.aload_n 3, 1) := by decide +kernel
theorem dL_law_806 : decode cL_law 806 = .ok (.invokestatic 166, 3) := by decide +kernel
theorem dL_law_809 : decode cL_law 809 = .ok (.istore 6, 2) := by decide +kernel
theorem dL_law_811 : decode cL_law 811 = .ok (.aload_n 2, 1) := by decide +kernel
theorem dL_law_812 : decode cL_law 812 = .ok (.aload_n 0, 1) := by decide +kernel
theorem dL_law_813 : decode cL_law 813 = .ok (.iload 5, 2) := by decide +kernel
theorem dL_law_815 : decode cL_law 815 = .ok (.iconst 1, 1) := by decide +kernel
theorem dL_law_816 : decode cL_law 816 = .ok (.iadd, 1) := by decide +kernel
theorem dL_law_817 : decode cL_law 817 = .ok (.iaload, 1) := by decide +kernel
theorem dL_law_818 : decode cL_law 818 = .ok (.aload_n 0, 1) := by decide +kernel
theorem dL_law_819 : decode cL_law 819 = .ok (.iload 5, 2) := by decide +kernel
theorem dL_law_821 : decode cL_law 821 = .ok (.iconst 2, 1) := by decide +kernel
theorem dL_law_822 : decode cL_law 822 = .ok (.iadd, 1) := by decide +kernel
theorem dL_law_823 : decode cL_law 823 = .ok (.iaload, 1) := by decide +kernel
theorem dL_law_824 : decode cL_law 824 = .ok (.invokevirtual 168, 3) := by decide +kernel
theorem dL_law_827 : decode cL_law 827 = .ok (.istore 7, 2) := by decide +kernel
theorem dL_law_829 : decode cL_law 829 = .ok (.aload_n 2, 1) := by decide +kernel
theorem dL_law_830 : decode cL_law 830 = .ok (.invokevirtual 134, 3) := by decide +kernel
theorem dL_law_833 : decode cL_law 833 = .ok (.iload 6, 2) := by decide +kernel
theorem dL_law_835 : decode cL_law 835 = .ok (.if_icmp .eq 5, 3) := by decide +kernel
theorem dL_law_838 : decode cL_law 838 = .ok (.iconst 0, 1) := by decide +kernel
theorem dL_law_839 : decode cL_law 839 = .ok (.ireturn, 1) := by decide +kernel
theorem dL_law_840 : decode cL_law 840 = .ok (.iload 6, 2) := by decide +kernel
theorem dL_law_842 : decode cL_law 842 = .ok (.ifCond .ne 15, 3) := by decide +kernel
theorem dL_law_845 : decode cL_law 845 = .ok (.aload_n 3, 1) := by decide +kernel
theorem dL_law_846 : decode cL_law 846 = .ok (.iconst 0, 1) := by decide +kernel
theorem dL_law_847 : decode cL_law 847 = .ok (.laload, 1) := by decide +kernel
theorem dL_law_848 : decode cL_law 848 = .ok (.iload 7, 2) := by decide +kernel
theorem dL_law_850 : decode cL_law 850 = .ok (.i2l, 1) := by decide +kernel
theorem dL_law_851 : decode cL_law 851 = .ok (.lcmp, 1) := by decide +kernel
theorem dL_law_852 : decode cL_law 852 = .ok (.ifCond .eq 5, 3) := by decide +kernel
theorem dL_law_855 : decode cL_law 855 = .ok (.iconst 0, 1) := by decide +kernel
theorem dL_law_856 : decode cL_law 856 = .ok (.ireturn, 1) := by decide +kernel
theorem dL_law_857 : decode cL_law 857 = .ok (.goto 1305, 3) := by decide +kernel
theorem dL_law_860 : decode cL_law 860 = .ok (.aload_n 1, 1) := by decide +kernel
theorem dL_law_861 : decode cL_law 861 = .ok (.aload_n 0, 1) := by decide +kernel
theorem dL_law_862 : decode cL_law 862 = .ok (.iload 5, 2) := by decide +kernel
theorem dL_law_864 : decode cL_law 864 = .ok (.iconst 1, 1) := by decide +kernel
theorem dL_law_865 : decode cL_law 865 = .ok (.iadd, 1) := by decide +kernel
theorem dL_law_866 : decode cL_law 866 = .ok (.iaload, 1) := by decide +kernel
theorem dL_law_867 : decode cL_law 867 = .ok (.aload_n 0, 1) := by decide +kernel
theorem dL_law_868 : decode cL_law 868 = .ok (.iload 5, 2) := by decide +kernel
theorem dL_law_870 : decode cL_law 870 = .ok (.iconst 2, 1) := by decide +kernel
theorem dL_law_871 : decode cL_law 871 = .ok (.iadd, 1) := by decide +kernel
theorem dL_law_872 : decode cL_law 872 = .ok (.iaload, 1) := by decide +kernel
theorem dL_law_873 : decode cL_law 873 = .ok (.ifCond .eq 7, 3) := by decide +kernel
theorem dL_law_876 : decode cL_law 876 = .ok (.iconst 1, 1) := by decide +kernel
theorem dL_law_877 : decode cL_law 877 = .ok (.goto 4, 3) := by decide +kernel
theorem dL_law_880 : decode cL_law 880 = .ok (.iconst 0, 1) := by decide +kernel
theorem dL_law_881 : decode cL_law 881 = .ok (.aload_n 3, 1) := by decide +kernel
theorem dL_law_882 : decode cL_law 882 = .ok (.invokestatic 169, 3) := by decide +kernel
theorem dL_law_885 : decode cL_law 885 = .ok (.istore 6, 2) := by decide +kernel
theorem dL_law_887 : decode cL_law 887 = .ok (.aload_n 2, 1) := by decide +kernel
theorem dL_law_888 : decode cL_law 888 = .ok (.aload_n 0, 1) := by decide +kernel
theorem dL_law_889 : decode cL_law 889 = .ok (.iload 5, 2) := by decide +kernel
theorem dL_law_891 : decode cL_law 891 = .ok (.iconst 1, 1) := by decide +kernel
theorem dL_law_892 : decode cL_law 892 = .ok (.iadd, 1) := by decide +kernel
theorem dL_law_893 : decode cL_law 893 = .ok (.iaload, 1) := by decide +kernel
theorem dL_law_894 : decode cL_law 894 = .ok (.aload_n 0, 1) := by decide +kernel
theorem dL_law_895 : decode cL_law 895 = .ok (.iload 5, 2) := by decide +kernel
theorem dL_law_897 : decode cL_law 897 = .ok (.iconst 2, 1) := by decide +kernel
theorem dL_law_898 : decode cL_law 898 = .ok (.iadd, 1) := by decide +kernel
theorem dL_law_899 : decode cL_law 899 = .ok (.iaload, 1) := by decide +kernel
theorem dL_law_900 : decode cL_law 900 = .ok (.ifCond .eq 7, 3) := by decide +kernel
theorem dL_law_903 : decode cL_law 903 = .ok (.iconst 1, 1) := by decide +kernel
theorem dL_law_904 : decode cL_law 904 = .ok (.goto 4, 3) := by decide +kernel
theorem dL_law_907 : decode cL_law 907 = .ok (.iconst 0, 1) := by decide +kernel
theorem dL_law_908 : decode cL_law 908 = .ok (.invokevirtual 172, 3) := by decide +kernel
theorem dL_law_911 : decode cL_law 911 = .ok (.istore 7, 2) := by decide +kernel
theorem dL_law_913 : decode cL_law 913 = .ok (.aload_n 2, 1) := by decide +kernel
theorem dL_law_914 : decode cL_law 914 = .ok (.invokevirtual 134, 3) := by decide +kernel
theorem dL_law_917 : decode cL_law 917 = .ok (.iload 6, 2) := by decide +kernel
theorem dL_law_919 : decode cL_law 919 = .ok (.if_icmp .eq 5, 3) := by decide +kernel
theorem dL_law_922 : decode cL_law 922 = .ok (.iconst 0, 1) := by decide +kernel
theorem dL_law_923 : decode cL_law 923 = .ok (.ireturn, 1) := by decide +kernel
theorem dL_law_924 : decode cL_law 924 = .ok (.iload 6, 2) := by decide +kernel
theorem dL_law_926 : decode cL_law 926 = .ok (.ifCond .ne 15, 3) := by decide +kernel
theorem dL_law_929 : decode cL_law 929 = .ok (.aload_n 3, 1) := by decide +kernel
theorem dL_law_930 : decode cL_law 930 = .ok (.iconst 0, 1) := by decide +kernel
theorem dL_law_931 : decode cL_law 931 = .ok (.laload, 1) := by decide +kernel
theorem dL_law_932 : decode cL_law 932 = .ok (.iload 7, 2) := by decide +kernel
theorem dL_law_934 : decode cL_law 934 = .ok (.i2l, 1) := by decide +kernel
theorem dL_law_935 : decode cL_law 935 = .ok (.lcmp, 1) := by decide +kernel
theorem dL_law_936 : decode cL_law 936 = .ok (.ifCond .eq 5, 3) := by decide +kernel
theorem dL_law_939 : decode cL_law 939 = .ok (.iconst 0, 1) := by decide +kernel
theorem dL_law_940 : decode cL_law 940 = .ok (.ireturn, 1) := by decide +kernel
theorem dL_law_941 : decode cL_law 941 = .ok (.goto 1221, 3) := by decide +kernel
theorem dL_law_944 : decode cL_law 944 = .ok (.aload_n 1, 1) := by decide +kernel
theorem dL_law_945 : decode cL_law 945 = .ok (.aload_n 0, 1) := by decide +kernel
theorem dL_law_946 : decode cL_law 946 = .ok (.iload 5, 2) := by decide +kernel
theorem dL_law_948 : decode cL_law 948 = .ok (.iconst 1, 1) := by decide +kernel
theorem dL_law_949 : decode cL_law 949 = .ok (.iadd, 1) := by decide +kernel
theorem dL_law_950 : decode cL_law 950 = .ok (.iaload, 1) := by decide +kernel
theorem dL_law_951 : decode cL_law 951 = .ok (.aload_n 0, 1) := by decide +kernel
theorem dL_law_952 : decode cL_law 952 = .ok (.iload 5, 2) := by decide +kernel
theorem dL_law_954 : decode cL_law 954 = .ok (.iconst 2, 1) := by decide +kernel
theorem dL_law_955 : decode cL_law 955 = .ok (.iadd, 1) := by decide +kernel
theorem dL_law_956 : decode cL_law 956 = .ok (.iaload, 1) := by decide +kernel
theorem dL_law_957 : decode cL_law 957 = .ok (.ifCond .eq 7, 3) := by decide +kernel
theorem dL_law_960 : decode cL_law 960 = .ok (.iconst 1, 1) := by decide +kernel
theorem dL_law_961 : decode cL_law 961 = .ok (.goto 4, 3) := by decide +kernel
theorem dL_law_964 : decode cL_law 964 = .ok (.iconst 0, 1) := by decide +kernel
theorem dL_law_965 : decode cL_law 965 = .ok (.aload_n 3, 1) := by decide +kernel
theorem dL_law_966 : decode cL_law 966 = .ok (.invokestatic 173, 3) := by decide +kernel
theorem dL_law_969 : decode cL_law 969 = .ok (.istore 6, 2) := by decide +kernel
theorem dL_law_971 : decode cL_law 971 = .ok (.aload_n 2, 1) := by decide +kernel
theorem dL_law_972 : decode cL_law 972 = .ok (.aload_n 0, 1) := by decide +kernel
theorem dL_law_973 : decode cL_law 973 = .ok (.iload 5, 2) := by decide +kernel
theorem dL_law_975 : decode cL_law 975 = .ok (.iconst 1, 1) := by decide +kernel
theorem dL_law_976 : decode cL_law 976 = .ok (.iadd, 1) := by decide +kernel
theorem dL_law_977 : decode cL_law 977 = .ok (.iaload, 1) := by decide +kernel
theorem dL_law_978 : decode cL_law 978 = .ok (.aload_n 0, 1) := by decide +kernel
theorem dL_law_979 : decode cL_law 979 = .ok (.iload 5, 2) := by decide +kernel
theorem dL_law_981 : decode cL_law 981 = .ok (.iconst 2, 1) := by decide +kernel
theorem dL_law_982 : decode cL_law 982 = .ok (.iadd, 1) := by decide +kernel
theorem dL_law_983 : decode cL_law 983 = .ok (.iaload, 1) := by decide +kernel
theorem dL_law_984 : decode cL_law 984 = .ok (.ifCond .eq 7, 3) := by decide +kernel
theorem dL_law_987 : decode cL_law 987 = .ok (.iconst 1, 1) := by decide +kernel
theorem dL_law_988 : decode cL_law 988 = .ok (.goto 4, 3) := by decide +kernel
theorem dL_law_991 : decode cL_law 991 = .ok (.iconst 0, 1) := by decide +kernel
theorem dL_law_992 : decode cL_law 992 = .ok (.invokevirtual 175, 3) := by decide +kernel
theorem dL_law_995 : decode cL_law 995 = .ok (.istore 7, 2) := by decide +kernel
theorem dL_law_997 : decode cL_law 997 = .ok (.aload_n 2, 1) := by decide +kernel
theorem dL_law_998 : decode cL_law 998 = .ok (.invokevirtual 134, 3) := by decide +kernel
theorem dL_law_1001 : decode cL_law 1001 = .ok (.iload 6, 2) := by decide +kernel
theorem dL_law_1003 : decode cL_law 1003 = .ok (.if_icmp .eq 5, 3) := by decide +kernel
theorem dL_law_1006 : decode cL_law 1006 = .ok (.iconst 0, 1) := by decide +kernel
theorem dL_law_1007 : decode cL_law 1007 = .ok (.ireturn, 1) := by decide +kernel
theorem dL_law_1008 : decode cL_law 1008 = .ok (.iload 6, 2) := by decide +kernel
theorem dL_law_1010 : decode cL_law 1010 = .ok (.ifCond .ne 15, 3) := by decide +kernel
theorem dL_law_1013 : decode cL_law 1013 = .ok (.aload_n 3, 1) := by decide +kernel
theorem dL_law_1014 : decode cL_law 1014 = .ok (.iconst 0, 1) := by decide +kernel
theorem dL_law_1015 : decode cL_law 1015 = .ok (.laload, 1) := by decide +kernel
theorem dL_law_1016 : decode cL_law 1016 = .ok (.iload 7, 2) := by decide +kernel
theorem dL_law_1018 : decode cL_law 1018 = .ok (.i2l, 1) := by decide +kernel
theorem dL_law_1019 : decode cL_law 1019 = .ok (.lcmp, 1) := by decide +kernel
theorem dL_law_1020 : decode cL_law 1020 = .ok (.ifCond .eq 5, 3) := by decide +kernel
theorem dL_law_1023 : decode cL_law 1023 = .ok (.iconst 0, 1) := by decide +kernel
theorem dL_law_1024 : decode cL_law 1024 = .ok (.ireturn, 1) := by decide +kernel
theorem dL_law_1025 : decode cL_law 1025 = .ok (.goto 1137, 3) := by decide +kernel
theorem dL_law_1028 : decode cL_law 1028 = .ok (.aload_n 1, 1) := by decide +kernel
theorem dL_law_1029 : decode cL_law 1029 = .ok (.aload_n 0, 1) := by decide +kernel
theorem dL_law_1030 : decode cL_law 1030 = .ok (.iload 5, 2) := by decide +kernel
theorem dL_law_1032 : decode cL_law 1032 = .ok (.iconst 1, 1) := by decide +kernel
theorem dL_law_1033 : decode cL_law 1033 = .ok (.iadd, 1) := by decide +kernel
theorem dL_law_1034 : decode cL_law 1034 = .ok (.iaload, 1) := by decide +kernel
theorem dL_law_1035 : decode cL_law 1035 = .ok (.aload_n 3, 1) := by decide +kernel
theorem dL_law_1036 : decode cL_law 1036 = .ok (.invokestatic 176, 3) := by decide +kernel
theorem dL_law_1039 : decode cL_law 1039 = .ok (.istore 6, 2) := by decide +kernel
theorem dL_law_1041 : decode cL_law 1041 = .ok (.aload_n 2, 1) := by decide +kernel
theorem dL_law_1042 : decode cL_law 1042 = .ok (.aload_n 0, 1) := by decide +kernel
theorem dL_law_1043 : decode cL_law 1043 = .ok (.iload 5, 2) := by decide +kernel
theorem dL_law_1045 : decode cL_law 1045 = .ok (.iconst 1, 1) := by decide +kernel
theorem dL_law_1046 : decode cL_law 1046 = .ok (.iadd, 1) := by decide +kernel
theorem dL_law_1047 : decode cL_law 1047 = .ok (.iaload, 1) := by decide +kernel
theorem dL_law_1048 : decode cL_law 1048 = .ok (.invokevirtual 178, 3) := by decide +kernel
theorem dL_law_1051 : decode cL_law 1051 = .ok (.istore 7, 2) := by decide +kernel
theorem dL_law_1053 : decode cL_law 1053 = .ok (.aload_n 2, 1) := by decide +kernel
theorem dL_law_1054 : decode cL_law 1054 = .ok (.invokevirtual 134, 3) := by decide +kernel
theorem dL_law_1057 : decode cL_law 1057 = .ok (.iload 6, 2) := by decide +kernel
theorem dL_law_1059 : decode cL_law 1059 = .ok (.if_icmp .eq 5, 3) := by decide +kernel
theorem dL_law_1062 : decode cL_law 1062 = .ok (.iconst 0, 1) := by decide +kernel
theorem dL_law_1063 : decode cL_law 1063 = .ok (.ireturn, 1) := by decide +kernel
theorem dL_law_1064 : decode cL_law 1064 = .ok (.iload 6, 2) := by decide +kernel
theorem dL_law_1066 : decode cL_law 1066 = .ok (.ifCond .ne 15, 3) := by decide +kernel
theorem dL_law_1069 : decode cL_law 1069 = .ok (.aload_n 3, 1) := by decide +kernel
theorem dL_law_1070 : decode cL_law 1070 = .ok (.iconst 0, 1) := by decide +kernel
theorem dL_law_1071 : decode cL_law 1071 = .ok (.laload, 1) := by decide +kernel
theorem dL_law_1072 : decode cL_law 1072 = .ok (.iload 7, 2) := by decide +kernel
theorem dL_law_1074 : decode cL_law 1074 = .ok (.i2l, 1) := by decide +kernel
theorem dL_law_1075 : decode cL_law 1075 = .ok (.lcmp, 1) := by decide +kernel
theorem dL_law_1076 : decode cL_law 1076 = .ok (.ifCond .eq 5, 3) := by decide +kernel
theorem dL_law_1079 : decode cL_law 1079 = .ok (.iconst 0, 1) := by decide +kernel
theorem dL_law_1080 : decode cL_law 1080 = .ok (.ireturn, 1) := by decide +kernel
theorem dL_law_1081 : decode cL_law 1081 = .ok (.goto 1081, 3) := by decide +kernel
theorem dL_law_1084 : decode cL_law 1084 = .ok (.aload_n 1, 1) := by decide +kernel
theorem dL_law_1085 : decode cL_law 1085 = .ok (.aload_n 0, 1) := by decide +kernel
theorem dL_law_1086 : decode cL_law 1086 = .ok (.iload 5, 2) := by decide +kernel
theorem dL_law_1088 : decode cL_law 1088 = .ok (.iconst 1, 1) := by decide +kernel
theorem dL_law_1089 : decode cL_law 1089 = .ok (.iadd, 1) := by decide +kernel
theorem dL_law_1090 : decode cL_law 1090 = .ok (.iaload, 1) := by decide +kernel
theorem dL_law_1091 : decode cL_law 1091 = .ok (.aload_n 3, 1) := by decide +kernel
theorem dL_law_1092 : decode cL_law 1092 = .ok (.invokestatic 179, 3) := by decide +kernel
theorem dL_law_1095 : decode cL_law 1095 = .ok (.istore 6, 2) := by decide +kernel
theorem dL_law_1097 : decode cL_law 1097 = .ok (.aload_n 2, 1) := by decide +kernel
theorem dL_law_1098 : decode cL_law 1098 = .ok (.aload_n 0, 1) := by decide +kernel
theorem dL_law_1099 : decode cL_law 1099 = .ok (.iload 5, 2) := by decide +kernel
theorem dL_law_1101 : decode cL_law 1101 = .ok (.iconst 1, 1) := by decide +kernel
theorem dL_law_1102 : decode cL_law 1102 = .ok (.iadd, 1) := by decide +kernel
theorem dL_law_1103 : decode cL_law 1103 = .ok (.iaload, 1) := by decide +kernel
theorem dL_law_1104 : decode cL_law 1104 = .ok (.invokevirtual 181, 3) := by decide +kernel
theorem dL_law_1107 : decode cL_law 1107 = .ok (.istore 7, 2) := by decide +kernel
theorem dL_law_1109 : decode cL_law 1109 = .ok (.aload_n 2, 1) := by decide +kernel
theorem dL_law_1110 : decode cL_law 1110 = .ok (.invokevirtual 134, 3) := by decide +kernel
theorem dL_law_1113 : decode cL_law 1113 = .ok (.iload 6, 2) := by decide +kernel
theorem dL_law_1115 : decode cL_law 1115 = .ok (.if_icmp .eq 5, 3) := by decide +kernel
theorem dL_law_1118 : decode cL_law 1118 = .ok (.iconst 0, 1) := by decide +kernel
theorem dL_law_1119 : decode cL_law 1119 = .ok (.ireturn, 1) := by decide +kernel
theorem dL_law_1120 : decode cL_law 1120 = .ok (.iload 6, 2) := by decide +kernel
theorem dL_law_1122 : decode cL_law 1122 = .ok (.ifCond .ne 15, 3) := by decide +kernel
theorem dL_law_1125 : decode cL_law 1125 = .ok (.aload_n 3, 1) := by decide +kernel
theorem dL_law_1126 : decode cL_law 1126 = .ok (.iconst 0, 1) := by decide +kernel
theorem dL_law_1127 : decode cL_law 1127 = .ok (.laload, 1) := by decide +kernel
theorem dL_law_1128 : decode cL_law 1128 = .ok (.iload 7, 2) := by decide +kernel
theorem dL_law_1130 : decode cL_law 1130 = .ok (.i2l, 1) := by decide +kernel
theorem dL_law_1131 : decode cL_law 1131 = .ok (.lcmp, 1) := by decide +kernel
theorem dL_law_1132 : decode cL_law 1132 = .ok (.ifCond .eq 5, 3) := by decide +kernel
theorem dL_law_1135 : decode cL_law 1135 = .ok (.iconst 0, 1) := by decide +kernel
theorem dL_law_1136 : decode cL_law 1136 = .ok (.ireturn, 1) := by decide +kernel
theorem dL_law_1137 : decode cL_law 1137 = .ok (.goto 1025, 3) := by decide +kernel
theorem dL_law_1140 : decode cL_law 1140 = .ok (.aload_n 1, 1) := by decide +kernel
theorem dL_law_1141 : decode cL_law 1141 = .ok (.aload_n 0, 1) := by decide +kernel
theorem dL_law_1142 : decode cL_law 1142 = .ok (.iload 5, 2) := by decide +kernel
theorem dL_law_1144 : decode cL_law 1144 = .ok (.iconst 1, 1) := by decide +kernel
theorem dL_law_1145 : decode cL_law 1145 = .ok (.iadd, 1) := by decide +kernel
theorem dL_law_1146 : decode cL_law 1146 = .ok (.iaload, 1) := by decide +kernel
theorem dL_law_1147 : decode cL_law 1147 = .ok (.aload_n 0, 1) := by decide +kernel
theorem dL_law_1148 : decode cL_law 1148 = .ok (.iload 5, 2) := by decide +kernel
theorem dL_law_1150 : decode cL_law 1150 = .ok (.iconst 2, 1) := by decide +kernel
theorem dL_law_1151 : decode cL_law 1151 = .ok (.iadd, 1) := by decide +kernel
theorem dL_law_1152 : decode cL_law 1152 = .ok (.iaload, 1) := by decide +kernel
theorem dL_law_1153 : decode cL_law 1153 = .ok (.aload_n 3, 1) := by decide +kernel
theorem dL_law_1154 : decode cL_law 1154 = .ok (.invokestatic 182, 3) := by decide +kernel
theorem dL_law_1157 : decode cL_law 1157 = .ok (.istore 6, 2) := by decide +kernel
theorem dL_law_1159 : decode cL_law 1159 = .ok (.aload_n 2, 1) := by decide +kernel
theorem dL_law_1160 : decode cL_law 1160 = .ok (.aload_n 0, 1) := by decide +kernel
theorem dL_law_1161 : decode cL_law 1161 = .ok (.iload 5, 2) := by decide +kernel
theorem dL_law_1163 : decode cL_law 1163 = .ok (.iconst 1, 1) := by decide +kernel
theorem dL_law_1164 : decode cL_law 1164 = .ok (.iadd, 1) := by decide +kernel
theorem dL_law_1165 : decode cL_law 1165 = .ok (.iaload, 1) := by decide +kernel
theorem dL_law_1166 : decode cL_law 1166 = .ok (.aload_n 0, 1) := by decide +kernel
theorem dL_law_1167 : decode cL_law 1167 = .ok (.iload 5, 2) := by decide +kernel
theorem dL_law_1169 : decode cL_law 1169 = .ok (.iconst 2, 1) := by decide +kernel
theorem dL_law_1170 : decode cL_law 1170 = .ok (.iadd, 1) := by decide +kernel
theorem dL_law_1171 : decode cL_law 1171 = .ok (.iaload, 1) := by decide +kernel
theorem dL_law_1172 : decode cL_law 1172 = .ok (.invokevirtual 184, 3) := by decide +kernel
theorem dL_law_1175 : decode cL_law 1175 = .ok (.istore 7, 2) := by decide +kernel
theorem dL_law_1177 : decode cL_law 1177 = .ok (.aload_n 2, 1) := by decide +kernel
theorem dL_law_1178 : decode cL_law 1178 = .ok (.invokevirtual 134, 3) := by decide +kernel
theorem dL_law_1181 : decode cL_law 1181 = .ok (.iload 6, 2) := by decide +kernel
theorem dL_law_1183 : decode cL_law 1183 = .ok (.if_icmp .eq 5, 3) := by decide +kernel
theorem dL_law_1186 : decode cL_law 1186 = .ok (.iconst 0, 1) := by decide +kernel
theorem dL_law_1187 : decode cL_law 1187 = .ok (.ireturn, 1) := by decide +kernel
theorem dL_law_1188 : decode cL_law 1188 = .ok (.iload 6, 2) := by decide +kernel
theorem dL_law_1190 : decode cL_law 1190 = .ok (.ifCond .ne 22, 3) := by decide +kernel
theorem dL_law_1193 : decode cL_law 1193 = .ok (.aload_n 3, 1) := by decide +kernel
theorem dL_law_1194 : decode cL_law 1194 = .ok (.iconst 0, 1) := by decide +kernel
theorem dL_law_1195 : decode cL_law 1195 = .ok (.laload, 1) := by decide +kernel
theorem dL_law_1196 : decode cL_law 1196 = .ok (.iload 7, 2) := by decide +kernel
theorem dL_law_1198 : decode cL_law 1198 = .ok (.ifCond .eq 7, 3) := by decide +kernel
theorem dL_law_1201 : decode cL_law 1201 = .ok (.lconst 1, 1) := by decide +kernel
theorem dL_law_1202 : decode cL_law 1202 = .ok (.goto 4, 3) := by decide +kernel
theorem dL_law_1205 : decode cL_law 1205 = .ok (.lconst 0, 1) := by decide +kernel
theorem dL_law_1206 : decode cL_law 1206 = .ok (.lcmp, 1) := by decide +kernel
theorem dL_law_1207 : decode cL_law 1207 = .ok (.ifCond .eq 5, 3) := by decide +kernel
theorem dL_law_1210 : decode cL_law 1210 = .ok (.iconst 0, 1) := by decide +kernel
theorem dL_law_1211 : decode cL_law 1211 = .ok (.ireturn, 1) := by decide +kernel
theorem dL_law_1212 : decode cL_law 1212 = .ok (.goto 950, 3) := by decide +kernel
theorem dL_law_1215 : decode cL_law 1215 = .ok (.aload_n 1, 1) := by decide +kernel
theorem dL_law_1216 : decode cL_law 1216 = .ok (.aload_n 0, 1) := by decide +kernel
theorem dL_law_1217 : decode cL_law 1217 = .ok (.iload 5, 2) := by decide +kernel
theorem dL_law_1219 : decode cL_law 1219 = .ok (.iconst 1, 1) := by decide +kernel
theorem dL_law_1220 : decode cL_law 1220 = .ok (.iadd, 1) := by decide +kernel
theorem dL_law_1221 : decode cL_law 1221 = .ok (.iaload, 1) := by decide +kernel
theorem dL_law_1222 : decode cL_law 1222 = .ok (.aload_n 0, 1) := by decide +kernel
theorem dL_law_1223 : decode cL_law 1223 = .ok (.iload 5, 2) := by decide +kernel
theorem dL_law_1225 : decode cL_law 1225 = .ok (.iconst 2, 1) := by decide +kernel
theorem dL_law_1226 : decode cL_law 1226 = .ok (.iadd, 1) := by decide +kernel
theorem dL_law_1227 : decode cL_law 1227 = .ok (.iaload, 1) := by decide +kernel
theorem dL_law_1228 : decode cL_law 1228 = .ok (.ifCond .eq 7, 3) := by decide +kernel
theorem dL_law_1231 : decode cL_law 1231 = .ok (.iconst 1, 1) := by decide +kernel
theorem dL_law_1232 : decode cL_law 1232 = .ok (.goto 4, 3) := by decide +kernel
theorem dL_law_1235 : decode cL_law 1235 = .ok (.iconst 0, 1) := by decide +kernel
theorem dL_law_1236 : decode cL_law 1236 = .ok (.aload_n 3, 1) := by decide +kernel
theorem dL_law_1237 : decode cL_law 1237 = .ok (.invokestatic 185, 3) := by decide +kernel
theorem dL_law_1240 : decode cL_law 1240 = .ok (.istore 6, 2) := by decide +kernel
theorem dL_law_1242 : decode cL_law 1242 = .ok (.aload_n 2, 1) := by decide +kernel
theorem dL_law_1243 : decode cL_law 1243 = .ok (.aload_n 0, 1) := by decide +kernel
theorem dL_law_1244 : decode cL_law 1244 = .ok (.iload 5, 2) := by decide +kernel
theorem dL_law_1246 : decode cL_law 1246 = .ok (.iconst 1, 1) := by decide +kernel
theorem dL_law_1247 : decode cL_law 1247 = .ok (.iadd, 1) := by decide +kernel
theorem dL_law_1248 : decode cL_law 1248 = .ok (.iaload, 1) := by decide +kernel
theorem dL_law_1249 : decode cL_law 1249 = .ok (.aload_n 0, 1) := by decide +kernel
theorem dL_law_1250 : decode cL_law 1250 = .ok (.iload 5, 2) := by decide +kernel
theorem dL_law_1252 : decode cL_law 1252 = .ok (.iconst 2, 1) := by decide +kernel
theorem dL_law_1253 : decode cL_law 1253 = .ok (.iadd, 1) := by decide +kernel
theorem dL_law_1254 : decode cL_law 1254 = .ok (.iaload, 1) := by decide +kernel
theorem dL_law_1255 : decode cL_law 1255 = .ok (.ifCond .eq 7, 3) := by decide +kernel
theorem dL_law_1258 : decode cL_law 1258 = .ok (.iconst 1, 1) := by decide +kernel
theorem dL_law_1259 : decode cL_law 1259 = .ok (.goto 4, 3) := by decide +kernel
theorem dL_law_1262 : decode cL_law 1262 = .ok (.iconst 0, 1) := by decide +kernel
theorem dL_law_1263 : decode cL_law 1263 = .ok (.invokevirtual 187, 3) := by decide +kernel
theorem dL_law_1266 : decode cL_law 1266 = .ok (.istore 7, 2) := by decide +kernel
theorem dL_law_1268 : decode cL_law 1268 = .ok (.aload_n 2, 1) := by decide +kernel
theorem dL_law_1269 : decode cL_law 1269 = .ok (.invokevirtual 134, 3) := by decide +kernel
theorem dL_law_1272 : decode cL_law 1272 = .ok (.iload 6, 2) := by decide +kernel
theorem dL_law_1274 : decode cL_law 1274 = .ok (.if_icmp .eq 5, 3) := by decide +kernel
theorem dL_law_1277 : decode cL_law 1277 = .ok (.iconst 0, 1) := by decide +kernel
theorem dL_law_1278 : decode cL_law 1278 = .ok (.ireturn, 1) := by decide +kernel
theorem dL_law_1279 : decode cL_law 1279 = .ok (.iload 6, 2) := by decide +kernel
theorem dL_law_1281 : decode cL_law 1281 = .ok (.ifCond .ne 15, 3) := by decide +kernel
theorem dL_law_1284 : decode cL_law 1284 = .ok (.aload_n 3, 1) := by decide +kernel
theorem dL_law_1285 : decode cL_law 1285 = .ok (.iconst 0, 1) := by decide +kernel
theorem dL_law_1286 : decode cL_law 1286 = .ok (.laload, 1) := by decide +kernel
theorem dL_law_1287 : decode cL_law 1287 = .ok (.iload 7, 2) := by decide +kernel
theorem dL_law_1289 : decode cL_law 1289 = .ok (.i2l, 1) := by decide +kernel
theorem dL_law_1290 : decode cL_law 1290 = .ok (.lcmp, 1) := by decide +kernel
theorem dL_law_1291 : decode cL_law 1291 = .ok (.ifCond .eq 5, 3) := by decide +kernel
theorem dL_law_1294 : decode cL_law 1294 = .ok (.iconst 0, 1) := by decide +kernel
theorem dL_law_1295 : decode cL_law 1295 = .ok (.ireturn, 1) := by decide +kernel
theorem dL_law_1296 : decode cL_law 1296 = .ok (.goto 866, 3) := by decide +kernel
theorem dL_law_1299 : decode cL_law 1299 = .ok (.aload_n 1, 1) := by decide +kernel
theorem dL_law_1300 : decode cL_law 1300 = .ok (.invokevirtual 188, 3) := by decide +kernel
theorem dL_law_1303 : decode cL_law 1303 = .ok (.aload_n 2, 1) := by decide +kernel
theorem dL_law_1304 : decode cL_law 1304 = .ok (.invokevirtual 191, 3) := by decide +kernel
theorem dL_law_1307 : decode cL_law 1307 = .ok (.if_icmp .eq 855, 3) := by decide +kernel
theorem dL_law_1310 : decode cL_law 1310 = .ok (.iconst 0, 1) := by decide +kernel
theorem dL_law_1311 : decode cL_law 1311 = .ok (.ireturn, 1) := by decide +kernel
theorem dL_law_1312 : decode cL_law 1312 = .ok (.aload_n 1, 1) := by decide +kernel
theorem dL_law_1313 : decode cL_law 1313 = .ok (.aload_n 0, 1) := by decide +kernel
theorem dL_law_1314 : decode cL_law 1314 = .ok (.iload 5, 2) := by decide +kernel
theorem dL_law_1316 : decode cL_law 1316 = .ok (.iconst 1, 1) := by decide +kernel
theorem dL_law_1317 : decode cL_law 1317 = .ok (.iadd, 1) := by decide +kernel
theorem dL_law_1318 : decode cL_law 1318 = .ok (.iaload, 1) := by decide +kernel
theorem dL_law_1319 : decode cL_law 1319 = .ok (.aload_n 3, 1) := by decide +kernel
theorem dL_law_1320 : decode cL_law 1320 = .ok (.invokestatic 192, 3) := by decide +kernel
theorem dL_law_1323 : decode cL_law 1323 = .ok (.istore 6, 2) := by decide +kernel
theorem dL_law_1325 : decode cL_law 1325 = .ok (.aload_n 2, 1) := by decide +kernel
theorem dL_law_1326 : decode cL_law 1326 = .ok (.aload_n 0, 1) := by decide +kernel
theorem dL_law_1327 : decode cL_law 1327 = .ok (.iload 5, 2) := by decide +kernel
theorem dL_law_1329 : decode cL_law 1329 = .ok (.iconst 1, 1) := by decide +kernel
theorem dL_law_1330 : decode cL_law 1330 = .ok (.iadd, 1) := by decide +kernel
theorem dL_law_1331 : decode cL_law 1331 = .ok (.iaload, 1) := by decide +kernel
theorem dL_law_1332 : decode cL_law 1332 = .ok (.invokevirtual 194, 3) := by decide +kernel
theorem dL_law_1335 : decode cL_law 1335 = .ok (.istore 7, 2) := by decide +kernel
theorem dL_law_1337 : decode cL_law 1337 = .ok (.aload_n 2, 1) := by decide +kernel
theorem dL_law_1338 : decode cL_law 1338 = .ok (.invokevirtual 134, 3) := by decide +kernel
theorem dL_law_1341 : decode cL_law 1341 = .ok (.iload 6, 2) := by decide +kernel
theorem dL_law_1343 : decode cL_law 1343 = .ok (.if_icmp .eq 5, 3) := by decide +kernel
theorem dL_law_1346 : decode cL_law 1346 = .ok (.iconst 0, 1) := by decide +kernel
theorem dL_law_1347 : decode cL_law 1347 = .ok (.ireturn, 1) := by decide +kernel
theorem dL_law_1348 : decode cL_law 1348 = .ok (.iload 6, 2) := by decide +kernel
theorem dL_law_1350 : decode cL_law 1350 = .ok (.ifCond .ne 15, 3) := by decide +kernel
theorem dL_law_1353 : decode cL_law 1353 = .ok (.aload_n 3, 1) := by decide +kernel
theorem dL_law_1354 : decode cL_law 1354 = .ok (.iconst 0, 1) := by decide +kernel
theorem dL_law_1355 : decode cL_law 1355 = .ok (.laload, 1) := by decide +kernel
theorem dL_law_1356 : decode cL_law 1356 = .ok (.iload 7, 2) := by decide +kernel
theorem dL_law_1358 : decode cL_law 1358 = .ok (.i2l, 1) := by decide +kernel
theorem dL_law_1359 : decode cL_law 1359 = .ok (.lcmp, 1) := by decide +kernel
theorem dL_law_1360 : decode cL_law 1360 = .ok (.ifCond .eq 5, 3) := by decide +kernel
theorem dL_law_1363 : decode cL_law 1363 = .ok (.iconst 0, 1) := by decide +kernel
theorem dL_law_1364 : decode cL_law 1364 = .ok (.ireturn, 1) := by decide +kernel
theorem dL_law_1365 : decode cL_law 1365 = .ok (.goto 797, 3) := by decide +kernel
theorem dL_law_1368 : decode cL_law 1368 = .ok (.aload_n 1, 1) := by decide +kernel
theorem dL_law_1369 : decode cL_law 1369 = .ok (.invokevirtual 195, 3) := by decide +kernel
theorem dL_law_1372 : decode cL_law 1372 = .ok (.aload_n 2, 1) := by decide +kernel
theorem dL_law_1373 : decode cL_law 1373 = .ok (.invokevirtual 198, 3) := by decide +kernel
theorem dL_law_1376 : decode cL_law 1376 = .ok (.if_icmp .eq 786, 3) := by decide +kernel
theorem dL_law_1379 : decode cL_law 1379 = .ok (.iconst 0, 1) := by decide +kernel
theorem dL_law_1380 : decode cL_law 1380 = .ok (.ireturn, 1) := by decide +kernel
theorem dL_law_1381 : decode cL_law 1381 = .ok (.aload_n 1, 1) := by decide +kernel
theorem dL_law_1382 : decode cL_law 1382 = .ok (.aload_n 0, 1) := by decide +kernel
theorem dL_law_1383 : decode cL_law 1383 = .ok (.iload 5, 2) := by decide +kernel
theorem dL_law_1385 : decode cL_law 1385 = .ok (.iconst 1, 1) := by decide +kernel
theorem dL_law_1386 : decode cL_law 1386 = .ok (.iadd, 1) := by decide +kernel
theorem dL_law_1387 : decode cL_law 1387 = .ok (.iaload, 1) := by decide +kernel
theorem dL_law_1388 : decode cL_law 1388 = .ok (.aload_n 3, 1) := by decide +kernel
theorem dL_law_1389 : decode cL_law 1389 = .ok (.invokestatic 199, 3) := by decide +kernel
theorem dL_law_1392 : decode cL_law 1392 = .ok (.istore 6, 2) := by decide +kernel
theorem dL_law_1394 : decode cL_law 1394 = .ok (.aload_n 2, 1) := by decide +kernel
theorem dL_law_1395 : decode cL_law 1395 = .ok (.aload_n 0, 1) := by decide +kernel
theorem dL_law_1396 : decode cL_law 1396 = .ok (.iload 5, 2) := by decide +kernel
theorem dL_law_1398 : decode cL_law 1398 = .ok (.iconst 1, 1) := by decide +kernel
theorem dL_law_1399 : decode cL_law 1399 = .ok (.iadd, 1) := by decide +kernel
theorem dL_law_1400 : decode cL_law 1400 = .ok (.iaload, 1) := by decide +kernel
theorem dL_law_1401 : decode cL_law 1401 = .ok (.invokevirtual 201, 3) := by decide +kernel
theorem dL_law_1404 : decode cL_law 1404 = .ok (.istore 7, 2) := by decide +kernel
theorem dL_law_1406 : decode cL_law 1406 = .ok (.aload_n 2, 1) := by decide +kernel
theorem dL_law_1407 : decode cL_law 1407 = .ok (.invokevirtual 134, 3) := by decide +kernel
theorem dL_law_1410 : decode cL_law 1410 = .ok (.iload 6, 2) := by decide +kernel
theorem dL_law_1412 : decode cL_law 1412 = .ok (.if_icmp .eq 5, 3) := by decide +kernel
theorem dL_law_1415 : decode cL_law 1415 = .ok (.iconst 0, 1) := by decide +kernel
theorem dL_law_1416 : decode cL_law 1416 = .ok (.ireturn, 1) := by decide +kernel
theorem dL_law_1417 : decode cL_law 1417 = .ok (.iload 6, 2) := by decide +kernel
theorem dL_law_1419 : decode cL_law 1419 = .ok (.ifCond .ne 15, 3) := by decide +kernel
theorem dL_law_1422 : decode cL_law 1422 = .ok (.aload_n 3, 1) := by decide +kernel
theorem dL_law_1423 : decode cL_law 1423 = .ok (.iconst 0, 1) := by decide +kernel
theorem dL_law_1424 : decode cL_law 1424 = .ok (.laload, 1) := by decide +kernel
theorem dL_law_1425 : decode cL_law 1425 = .ok (.iload 7, 2) := by decide +kernel
theorem dL_law_1427 : decode cL_law 1427 = .ok (.i2l, 1) := by decide +kernel
theorem dL_law_1428 : decode cL_law 1428 = .ok (.lcmp, 1) := by decide +kernel
theorem dL_law_1429 : decode cL_law 1429 = .ok (.ifCond .eq 5, 3) := by decide +kernel
theorem dL_law_1432 : decode cL_law 1432 = .ok (.iconst 0, 1) := by decide +kernel
theorem dL_law_1433 : decode cL_law 1433 = .ok (.ireturn, 1) := by decide +kernel
theorem dL_law_1434 : decode cL_law 1434 = .ok (.goto 728, 3) := by decide +kernel
theorem dL_law_1437 : decode cL_law 1437 = .ok (.aload_n 1, 1) := by decide +kernel
theorem dL_law_1438 : decode cL_law 1438 = .ok (.aload_n 0, 1) := by decide +kernel
theorem dL_law_1439 : decode cL_law 1439 = .ok (.iload 5, 2) := by decide +kernel
theorem dL_law_1441 : decode cL_law 1441 = .ok (.iconst 1, 1) := by decide +kernel
theorem dL_law_1442 : decode cL_law 1442 = .ok (.iadd, 1) := by decide +kernel
theorem dL_law_1443 : decode cL_law 1443 = .ok (.iaload, 1) := by decide +kernel
theorem dL_law_1444 : decode cL_law 1444 = .ok (.aload_n 3, 1) := by decide +kernel
theorem dL_law_1445 : decode cL_law 1445 = .ok (.invokestatic 202, 3) := by decide +kernel
theorem dL_law_1448 : decode cL_law 1448 = .ok (.istore 6, 2) := by decide +kernel
theorem dL_law_1450 : decode cL_law 1450 = .ok (.aload_n 2, 1) := by decide +kernel
theorem dL_law_1451 : decode cL_law 1451 = .ok (.aload_n 0, 1) := by decide +kernel
theorem dL_law_1452 : decode cL_law 1452 = .ok (.iload 5, 2) := by decide +kernel
theorem dL_law_1454 : decode cL_law 1454 = .ok (.iconst 1, 1) := by decide +kernel
theorem dL_law_1455 : decode cL_law 1455 = .ok (.iadd, 1) := by decide +kernel
theorem dL_law_1456 : decode cL_law 1456 = .ok (.iaload, 1) := by decide +kernel
theorem dL_law_1457 : decode cL_law 1457 = .ok (.invokevirtual 204, 3) := by decide +kernel
theorem dL_law_1460 : decode cL_law 1460 = .ok (.istore 7, 2) := by decide +kernel
theorem dL_law_1462 : decode cL_law 1462 = .ok (.aload_n 2, 1) := by decide +kernel
theorem dL_law_1463 : decode cL_law 1463 = .ok (.invokevirtual 134, 3) := by decide +kernel
theorem dL_law_1466 : decode cL_law 1466 = .ok (.iload 6, 2) := by decide +kernel
theorem dL_law_1468 : decode cL_law 1468 = .ok (.if_icmp .eq 5, 3) := by decide +kernel
theorem dL_law_1471 : decode cL_law 1471 = .ok (.iconst 0, 1) := by decide +kernel
theorem dL_law_1472 : decode cL_law 1472 = .ok (.ireturn, 1) := by decide +kernel
theorem dL_law_1473 : decode cL_law 1473 = .ok (.iload 6, 2) := by decide +kernel
theorem dL_law_1475 : decode cL_law 1475 = .ok (.ifCond .ne 15, 3) := by decide +kernel
theorem dL_law_1478 : decode cL_law 1478 = .ok (.aload_n 3, 1) := by decide +kernel
theorem dL_law_1479 : decode cL_law 1479 = .ok (.iconst 0, 1) := by decide +kernel
theorem dL_law_1480 : decode cL_law 1480 = .ok (.laload, 1) := by decide +kernel
theorem dL_law_1481 : decode cL_law 1481 = .ok (.iload 7, 2) := by decide +kernel
theorem dL_law_1483 : decode cL_law 1483 = .ok (.i2l, 1) := by decide +kernel
theorem dL_law_1484 : decode cL_law 1484 = .ok (.lcmp, 1) := by decide +kernel
theorem dL_law_1485 : decode cL_law 1485 = .ok (.ifCond .eq 5, 3) := by decide +kernel
theorem dL_law_1488 : decode cL_law 1488 = .ok (.iconst 0, 1) := by decide +kernel
theorem dL_law_1489 : decode cL_law 1489 = .ok (.ireturn, 1) := by decide +kernel
theorem dL_law_1490 : decode cL_law 1490 = .ok (.goto 672, 3) := by decide +kernel
theorem dL_law_1493 : decode cL_law 1493 = .ok (.aload_n 1, 1) := by decide +kernel
theorem dL_law_1494 : decode cL_law 1494 = .ok (.aload_n 0, 1) := by decide +kernel
theorem dL_law_1495 : decode cL_law 1495 = .ok (.iload 5, 2) := by decide +kernel
theorem dL_law_1497 : decode cL_law 1497 = .ok (.iconst 1, 1) := by decide +kernel
theorem dL_law_1498 : decode cL_law 1498 = .ok (.iadd, 1) := by decide +kernel
theorem dL_law_1499 : decode cL_law 1499 = .ok (.iaload, 1) := by decide +kernel
theorem dL_law_1500 : decode cL_law 1500 = .ok (.aload_n 3, 1) := by decide +kernel
theorem dL_law_1501 : decode cL_law 1501 = .ok (.invokestatic 205, 3) := by decide +kernel
theorem dL_law_1504 : decode cL_law 1504 = .ok (.istore 6, 2) := by decide +kernel
theorem dL_law_1506 : decode cL_law 1506 = .ok (.aload_n 2, 1) := by decide +kernel
theorem dL_law_1507 : decode cL_law 1507 = .ok (.aload_n 0, 1) := by decide +kernel
theorem dL_law_1508 : decode cL_law 1508 = .ok (.iload 5, 2) := by decide +kernel
theorem dL_law_1510 : decode cL_law 1510 = .ok (.iconst 1, 1) := by decide +kernel
theorem dL_law_1511 : decode cL_law 1511 = .ok (.iadd, 1) := by decide +kernel
theorem dL_law_1512 : decode cL_law 1512 = .ok (.iaload, 1) := by decide +kernel
theorem dL_law_1513 : decode cL_law 1513 = .ok (.invokevirtual 207, 3) := by decide +kernel
theorem dL_law_1516 : decode cL_law 1516 = .ok (.istore 7, 2) := by decide +kernel
theorem dL_law_1518 : decode cL_law 1518 = .ok (.aload_n 2, 1) := by decide +kernel
theorem dL_law_1519 : decode cL_law 1519 = .ok (.invokevirtual 134, 3) := by decide +kernel
theorem dL_law_1522 : decode cL_law 1522 = .ok (.iload 6, 2) := by decide +kernel
theorem dL_law_1524 : decode cL_law 1524 = .ok (.if_icmp .eq 5, 3) := by decide +kernel
theorem dL_law_1527 : decode cL_law 1527 = .ok (.iconst 0, 1) := by decide +kernel
theorem dL_law_1528 : decode cL_law 1528 = .ok (.ireturn, 1) := by decide +kernel
theorem dL_law_1529 : decode cL_law 1529 = .ok (.iload 6, 2) := by decide +kernel
theorem dL_law_1531 : decode cL_law 1531 = .ok (.ifCond .ne 15, 3) := by decide +kernel
theorem dL_law_1534 : decode cL_law 1534 = .ok (.aload_n 3, 1) := by decide +kernel
theorem dL_law_1535 : decode cL_law 1535 = .ok (.iconst 0, 1) := by decide +kernel
theorem dL_law_1536 : decode cL_law 1536 = .ok (.laload, 1) := by decide +kernel
theorem dL_law_1537 : decode cL_law 1537 = .ok (.iload 7, 2) := by decide +kernel
theorem dL_law_1539 : decode cL_law 1539 = .ok (.i2l, 1) := by decide +kernel
theorem dL_law_1540 : decode cL_law 1540 = .ok (.lcmp, 1) := by decide +kernel
theorem dL_law_1541 : decode cL_law 1541 = .ok (.ifCond .eq 5, 3) := by decide +kernel
theorem dL_law_1544 : decode cL_law 1544 = .ok (.iconst 0, 1) := by decide +kernel
theorem dL_law_1545 : decode cL_law 1545 = .ok (.ireturn, 1) := by decide +kernel
theorem dL_law_1546 : decode cL_law 1546 = .ok (.goto 616, 3) := by decide +kernel
theorem dL_law_1549 : decode cL_law 1549 = .ok (.aload_n 1, 1) := by decide +kernel
theorem dL_law_1550 : decode cL_law 1550 = .ok (.aload_n 0, 1) := by decide +kernel
theorem dL_law_1551 : decode cL_law 1551 = .ok (.iload 5, 2) := by decide +kernel
theorem dL_law_1553 : decode cL_law 1553 = .ok (.iconst 1, 1) := by decide +kernel
theorem dL_law_1554 : decode cL_law 1554 = .ok (.iadd, 1) := by decide +kernel
theorem dL_law_1555 : decode cL_law 1555 = .ok (.iaload, 1) := by decide +kernel
theorem dL_law_1556 : decode cL_law 1556 = .ok (.aload_n 3, 1) := by decide +kernel
theorem dL_law_1557 : decode cL_law 1557 = .ok (.invokestatic 208, 3) := by decide +kernel
theorem dL_law_1560 : decode cL_law 1560 = .ok (.istore 6, 2) := by decide +kernel
theorem dL_law_1562 : decode cL_law 1562 = .ok (.aload_n 2, 1) := by decide +kernel
theorem dL_law_1563 : decode cL_law 1563 = .ok (.aload_n 0, 1) := by decide +kernel
theorem dL_law_1564 : decode cL_law 1564 = .ok (.iload 5, 2) := by decide +kernel
theorem dL_law_1566 : decode cL_law 1566 = .ok (.iconst 1, 1) := by decide +kernel
theorem dL_law_1567 : decode cL_law 1567 = .ok (.iadd, 1) := by decide +kernel
theorem dL_law_1568 : decode cL_law 1568 = .ok (.iaload, 1) := by decide +kernel
theorem dL_law_1569 : decode cL_law 1569 = .ok (.invokevirtual 210, 3) := by decide +kernel
theorem dL_law_1572 : decode cL_law 1572 = .ok (.istore 7, 2) := by decide +kernel
theorem dL_law_1574 : decode cL_law 1574 = .ok (.aload_n 2, 1) := by decide +kernel
theorem dL_law_1575 : decode cL_law 1575 = .ok (.invokevirtual 134, 3) := by decide +kernel
theorem dL_law_1578 : decode cL_law 1578 = .ok (.iload 6, 2) := by decide +kernel
theorem dL_law_1580 : decode cL_law 1580 = .ok (.if_icmp .eq 5, 3) := by decide +kernel
theorem dL_law_1583 : decode cL_law 1583 = .ok (.iconst 0, 1) := by decide +kernel
theorem dL_law_1584 : decode cL_law 1584 = .ok (.ireturn, 1) := by decide +kernel
theorem dL_law_1585 : decode cL_law 1585 = .ok (.iload 6, 2) := by decide +kernel
theorem dL_law_1587 : decode cL_law 1587 = .ok (.ifCond .ne 15, 3) := by decide +kernel
theorem dL_law_1590 : decode cL_law 1590 = .ok (.aload_n 3, 1) := by decide +kernel
theorem dL_law_1591 : decode cL_law 1591 = .ok (.iconst 0, 1) := by decide +kernel
theorem dL_law_1592 : decode cL_law 1592 = .ok (.laload, 1) := by decide +kernel
theorem dL_law_1593 : decode cL_law 1593 = .ok (.iload 7, 2) := by decide +kernel
theorem dL_law_1595 : decode cL_law 1595 = .ok (.i2l, 1) := by decide +kernel
theorem dL_law_1596 : decode cL_law 1596 = .ok (.lcmp, 1) := by decide +kernel
theorem dL_law_1597 : decode cL_law 1597 = .ok (.ifCond .eq 5, 3) := by decide +kernel
theorem dL_law_1600 : decode cL_law 1600 = .ok (.iconst 0, 1) := by decide +kernel
theorem dL_law_1601 : decode cL_law 1601 = .ok (.ireturn, 1) := by decide +kernel
theorem dL_law_1602 : decode cL_law 1602 = .ok (.goto 560, 3) := by decide +kernel
theorem dL_law_1605 : decode cL_law 1605 = .ok (.aload_n 1, 1) := by decide +kernel
theorem dL_law_1606 : decode cL_law 1606 = .ok (.invokevirtual 211, 3) := by decide +kernel
theorem dL_law_1609 : decode cL_law 1609 = .ok (.aload_n 2, 1) := by decide +kernel
theorem dL_law_1610 : decode cL_law 1610 = .ok (.invokevirtual 214, 3) := by decide +kernel
theorem dL_law_1613 : decode cL_law 1613 = .ok (.if_icmp .eq 549, 3) := by decide +kernel
theorem dL_law_1616 : decode cL_law 1616 = .ok (.iconst 0, 1) := by decide +kernel
theorem dL_law_1617 : decode cL_law 1617 = .ok (.ireturn, 1) := by decide +kernel
theorem dL_law_1618 : decode cL_law 1618 = .ok (.aload_n 1, 1) := by decide +kernel
theorem dL_law_1619 : decode cL_law 1619 = .ok (.aload_n 0, 1) := by decide +kernel
theorem dL_law_1620 : decode cL_law 1620 = .ok (.iload 5, 2) := by decide +kernel
theorem dL_law_1622 : decode cL_law 1622 = .ok (.iconst 1, 1) := by decide +kernel
theorem dL_law_1623 : decode cL_law 1623 = .ok (.iadd, 1) := by decide +kernel
theorem dL_law_1624 : decode cL_law 1624 = .ok (.iaload, 1) := by decide +kernel
theorem dL_law_1625 : decode cL_law 1625 = .ok (.aload_n 3, 1) := by decide +kernel
theorem dL_law_1626 : decode cL_law 1626 = .ok (.invokestatic 215, 3) := by decide +kernel
theorem dL_law_1629 : decode cL_law 1629 = .ok (.istore 6, 2) := by decide +kernel
theorem dL_law_1631 : decode cL_law 1631 = .ok (.aload_n 2, 1) := by decide +kernel
theorem dL_law_1632 : decode cL_law 1632 = .ok (.aload_n 0, 1) := by decide +kernel
theorem dL_law_1633 : decode cL_law 1633 = .ok (.iload 5, 2) := by decide +kernel
theorem dL_law_1635 : decode cL_law 1635 = .ok (.iconst 1, 1) := by decide +kernel
theorem dL_law_1636 : decode cL_law 1636 = .ok (.iadd, 1) := by decide +kernel
theorem dL_law_1637 : decode cL_law 1637 = .ok (.iaload, 1) := by decide +kernel
theorem dL_law_1638 : decode cL_law 1638 = .ok (.invokevirtual 217, 3) := by decide +kernel
theorem dL_law_1641 : decode cL_law 1641 = .ok (.istore 7, 2) := by decide +kernel
theorem dL_law_1643 : decode cL_law 1643 = .ok (.aload_n 2, 1) := by decide +kernel
theorem dL_law_1644 : decode cL_law 1644 = .ok (.invokevirtual 134, 3) := by decide +kernel
theorem dL_law_1647 : decode cL_law 1647 = .ok (.iload 6, 2) := by decide +kernel
theorem dL_law_1649 : decode cL_law 1649 = .ok (.if_icmp .eq 5, 3) := by decide +kernel
theorem dL_law_1652 : decode cL_law 1652 = .ok (.iconst 0, 1) := by decide +kernel
theorem dL_law_1653 : decode cL_law 1653 = .ok (.ireturn, 1) := by decide +kernel
theorem dL_law_1654 : decode cL_law 1654 = .ok (.iload 6, 2) := by decide +kernel
theorem dL_law_1656 : decode cL_law 1656 = .ok (.ifCond .ne 15, 3) := by decide +kernel
theorem dL_law_1659 : decode cL_law 1659 = .ok (.aload_n 3, 1) := by decide +kernel
theorem dL_law_1660 : decode cL_law 1660 = .ok (.iconst 0, 1) := by decide +kernel
theorem dL_law_1661 : decode cL_law 1661 = .ok (.laload, 1) := by decide +kernel
theorem dL_law_1662 : decode cL_law 1662 = .ok (.iload 7, 2) := by decide +kernel
theorem dL_law_1664 : decode cL_law 1664 = .ok (.i2l, 1) := by decide +kernel
theorem dL_law_1665 : decode cL_law 1665 = .ok (.lcmp, 1) := by decide +kernel
theorem dL_law_1666 : decode cL_law 1666 = .ok (.ifCond .eq 5, 3) := by decide +kernel
theorem dL_law_1669 : decode cL_law 1669 = .ok (.iconst 0, 1) := by decide +kernel
theorem dL_law_1670 : decode cL_law 1670 = .ok (.ireturn, 1) := by decide +kernel
theorem dL_law_1671 : decode cL_law 1671 = .ok (.goto 491, 3) := by decide +kernel
theorem dL_law_1674 : decode cL_law 1674 = .ok (.aload_n 1, 1) := by decide +kernel
theorem dL_law_1675 : decode cL_law 1675 = .ok (.aload_n 0, 1) := by decide +kernel
theorem dL_law_1676 : decode cL_law 1676 = .ok (.iload 5, 2) := by decide +kernel
theorem dL_law_1678 : decode cL_law 1678 = .ok (.iconst 1, 1) := by decide +kernel
theorem dL_law_1679 : decode cL_law 1679 = .ok (.iadd, 1) := by decide +kernel
theorem dL_law_1680 : decode cL_law 1680 = .ok (.iaload, 1) := by decide +kernel
theorem dL_law_1681 : decode cL_law 1681 = .ok (.i2c, 1) := by decide +kernel
theorem dL_law_1682 : decode cL_law 1682 = .ok (.aload_n 3, 1) := by decide +kernel
theorem dL_law_1683 : decode cL_law 1683 = .ok (.invokestatic 218, 3) := by decide +kernel
theorem dL_law_1686 : decode cL_law 1686 = .ok (.istore 6, 2) := by decide +kernel
theorem dL_law_1688 : decode cL_law 1688 = .ok (.aload_n 2, 1) := by decide +kernel
theorem dL_law_1689 : decode cL_law 1689 = .ok (.aload_n 0, 1) := by decide +kernel
theorem dL_law_1690 : decode cL_law 1690 = .ok (.iload 5, 2) := by decide +kernel
theorem dL_law_1692 : decode cL_law 1692 = .ok (.iconst 1, 1) := by decide +kernel
theorem dL_law_1693 : decode cL_law 1693 = .ok (.iadd, 1) := by decide +kernel
theorem dL_law_1694 : decode cL_law 1694 = .ok (.iaload, 1) := by decide +kernel
theorem dL_law_1695 : decode cL_law 1695 = .ok (.i2c, 1) := by decide +kernel
theorem dL_law_1696 : decode cL_law 1696 = .ok (.invokevirtual 221, 3) := by decide +kernel
theorem dL_law_1699 : decode cL_law 1699 = .ok (.istore 7, 2) := by decide +kernel
theorem dL_law_1701 : decode cL_law 1701 = .ok (.aload_n 2, 1) := by decide +kernel
theorem dL_law_1702 : decode cL_law 1702 = .ok (.invokevirtual 134, 3) := by decide +kernel
theorem dL_law_1705 : decode cL_law 1705 = .ok (.iload 6, 2) := by decide +kernel
theorem dL_law_1707 : decode cL_law 1707 = .ok (.if_icmp .eq 5, 3) := by decide +kernel
theorem dL_law_1710 : decode cL_law 1710 = .ok (.iconst 0, 1) := by decide +kernel
theorem dL_law_1711 : decode cL_law 1711 = .ok (.ireturn, 1) := by decide +kernel
theorem dL_law_1712 : decode cL_law 1712 = .ok (.iload 6, 2) := by decide +kernel
theorem dL_law_1714 : decode cL_law 1714 = .ok (.ifCond .ne 15, 3) := by decide +kernel
theorem dL_law_1717 : decode cL_law 1717 = .ok (.aload_n 3, 1) := by decide +kernel
theorem dL_law_1718 : decode cL_law 1718 = .ok (.iconst 0, 1) := by decide +kernel
theorem dL_law_1719 : decode cL_law 1719 = .ok (.laload, 1) := by decide +kernel
theorem dL_law_1720 : decode cL_law 1720 = .ok (.iload 7, 2) := by decide +kernel
theorem dL_law_1722 : decode cL_law 1722 = .ok (.i2l, 1) := by decide +kernel
theorem dL_law_1723 : decode cL_law 1723 = .ok (.lcmp, 1) := by decide +kernel
theorem dL_law_1724 : decode cL_law 1724 = .ok (.ifCond .eq 5, 3) := by decide +kernel
theorem dL_law_1727 : decode cL_law 1727 = .ok (.iconst 0, 1) := by decide +kernel
theorem dL_law_1728 : decode cL_law 1728 = .ok (.ireturn, 1) := by decide +kernel
theorem dL_law_1729 : decode cL_law 1729 = .ok (.goto 433, 3) := by decide +kernel
theorem dL_law_1732 : decode cL_law 1732 = .ok (.aload_n 1, 1) := by decide +kernel
theorem dL_law_1733 : decode cL_law 1733 = .ok (.aload_n 3, 1) := by decide +kernel
theorem dL_law_1734 : decode cL_law 1734 = .ok (.invokestatic 222, 3) := by decide +kernel
theorem dL_law_1737 : decode cL_law 1737 = .ok (.istore 6, 2) := by decide +kernel
theorem dL_law_1739 : decode cL_law 1739 = .ok (.aload_n 2, 1) := by decide +kernel
theorem dL_law_1740 : decode cL_law 1740 = .ok (.invokevirtual 224, 3) := by decide +kernel
theorem dL_law_1743 : decode cL_law 1743 = .ok (.istore 7, 2) := by decide +kernel
theorem dL_law_1745 : decode cL_law 1745 = .ok (.aload_n 2, 1) := by decide +kernel
theorem dL_law_1746 : decode cL_law 1746 = .ok (.invokevirtual 134, 3) := by decide +kernel
theorem dL_law_1749 : decode cL_law 1749 = .ok (.iload 6, 2) := by decide +kernel
theorem dL_law_1751 : decode cL_law 1751 = .ok (.if_icmp .eq 5, 3) := by decide +kernel
theorem dL_law_1754 : decode cL_law 1754 = .ok (.iconst 0, 1) := by decide +kernel
theorem dL_law_1755 : decode cL_law 1755 = .ok (.ireturn, 1) := by decide +kernel
theorem dL_law_1756 : decode cL_law 1756 = .ok (.iload 6, 2) := by decide +kernel
theorem dL_law_1758 : decode cL_law 1758 = .ok (.ifCond .ne 15, 3) := by decide +kernel
theorem dL_law_1761 : decode cL_law 1761 = .ok (.aload_n 3, 1) := by decide +kernel
theorem dL_law_1762 : decode cL_law 1762 = .ok (.iconst 0, 1) := by decide +kernel
theorem dL_law_1763 : decode cL_law 1763 = .ok (.laload, 1) := by decide +kernel
theorem dL_law_1764 : decode cL_law 1764 = .ok (.iload 7, 2) := by decide +kernel
theorem dL_law_1766 : decode cL_law 1766 = .ok (.i2l, 1) := by decide +kernel
theorem dL_law_1767 : decode cL_law 1767 = .ok (.lcmp, 1) := by decide +kernel
theorem dL_law_1768 : decode cL_law 1768 = .ok (.ifCond .eq 5, 3) := by decide +kernel
theorem dL_law_1771 : decode cL_law 1771 = .ok (.iconst 0, 1) := by decide +kernel
theorem dL_law_1772 : decode cL_law 1772 = .ok (.ireturn, 1) := by decide +kernel
theorem dL_law_1773 : decode cL_law 1773 = .ok (.goto 389, 3) := by decide +kernel
theorem dL_law_1776 : decode cL_law 1776 = .ok (.aload_n 1, 1) := by decide +kernel
theorem dL_law_1777 : decode cL_law 1777 = .ok (.invokevirtual 225, 3) := by decide +kernel
theorem dL_law_1780 : decode cL_law 1780 = .ok (.aload_n 2, 1) := by decide +kernel
theorem dL_law_1781 : decode cL_law 1781 = .ok (.invokevirtual 228, 3) := by decide +kernel
theorem dL_law_1784 : decode cL_law 1784 = .ok (.if_icmp .eq 378, 3) := by decide +kernel
theorem dL_law_1787 : decode cL_law 1787 = .ok (.iconst 0, 1) := by decide +kernel
theorem dL_law_1788 : decode cL_law 1788 = .ok (.ireturn, 1) := by decide +kernel
theorem dL_law_1789 : decode cL_law 1789 = .ok (.aload_n 1, 1) := by decide +kernel
theorem dL_law_1790 : decode cL_law 1790 = .ok (.aload_n 0, 1) := by decide +kernel
theorem dL_law_1791 : decode cL_law 1791 = .ok (.iload 5, 2) := by decide +kernel
theorem dL_law_1793 : decode cL_law 1793 = .ok (.iconst 1, 1) := by decide +kernel
theorem dL_law_1794 : decode cL_law 1794 = .ok (.iadd, 1) := by decide +kernel
theorem dL_law_1795 : decode cL_law 1795 = .ok (.iaload, 1) := by decide +kernel
theorem dL_law_1796 : decode cL_law 1796 = .ok (.ifCond .eq 7, 3) := by decide +kernel
theorem dL_law_1799 : decode cL_law 1799 = .ok (.iconst 1, 1) := by decide +kernel
theorem dL_law_1800 : decode cL_law 1800 = .ok (.goto 4, 3) := by decide +kernel
theorem dL_law_1803 : decode cL_law 1803 = .ok (.iconst 0, 1) := by decide +kernel
theorem dL_law_1804 : decode cL_law 1804 = .ok (.aload_n 3, 1) := by decide +kernel
theorem dL_law_1805 : decode cL_law 1805 = .ok (.invokestatic 229, 3) := by decide +kernel
theorem dL_law_1808 : decode cL_law 1808 = .ok (.istore 6, 2) := by decide +kernel
theorem dL_law_1810 : decode cL_law 1810 = .ok (.aload_n 2, 1) := by decide +kernel
theorem dL_law_1811 : decode cL_law 1811 = .ok (.aload_n 0, 1) := by decide +kernel
theorem dL_law_1812 : decode cL_law 1812 = .ok (.iload 5, 2) := by decide +kernel
theorem dL_law_1814 : decode cL_law 1814 = .ok (.iconst 1, 1) := by decide +kernel
theorem dL_law_1815 : decode cL_law 1815 = .ok (.iadd, 1) := by decide +kernel
theorem dL_law_1816 : decode cL_law 1816 = .ok (.iaload, 1) := by decide +kernel
theorem dL_law_1817 : decode cL_law 1817 = .ok (.ifCond .eq 7, 3) := by decide +kernel
theorem dL_law_1820 : decode cL_law 1820 = .ok (.iconst 1, 1) := by decide +kernel
theorem dL_law_1821 : decode cL_law 1821 = .ok (.goto 4, 3) := by decide +kernel
theorem dL_law_1824 : decode cL_law 1824 = .ok (.iconst 0, 1) := by decide +kernel
theorem dL_law_1825 : decode cL_law 1825 = .ok (.invokevirtual 232, 3) := by decide +kernel
theorem dL_law_1828 : decode cL_law 1828 = .ok (.istore 7, 2) := by decide +kernel
theorem dL_law_1830 : decode cL_law 1830 = .ok (.aload_n 2, 1) := by decide +kernel
theorem dL_law_1831 : decode cL_law 1831 = .ok (.invokevirtual 134, 3) := by decide +kernel
theorem dL_law_1834 : decode cL_law 1834 = .ok (.iload 6, 2) := by decide +kernel
theorem dL_law_1836 : decode cL_law 1836 = .ok (.if_icmp .eq 5, 3) := by decide +kernel
theorem dL_law_1839 : decode cL_law 1839 = .ok (.iconst 0, 1) := by decide +kernel
theorem dL_law_1840 : decode cL_law 1840 = .ok (.ireturn, 1) := by decide +kernel
theorem dL_law_1841 : decode cL_law 1841 = .ok (.iload 6, 2) := by decide +kernel
theorem dL_law_1843 : decode cL_law 1843 = .ok (.ifCond .ne 15, 3) := by decide +kernel
theorem dL_law_1846 : decode cL_law 1846 = .ok (.aload_n 3, 1) := by decide +kernel
theorem dL_law_1847 : decode cL_law 1847 = .ok (.iconst 0, 1) := by decide +kernel
theorem dL_law_1848 : decode cL_law 1848 = .ok (.laload, 1) := by decide +kernel
theorem dL_law_1849 : decode cL_law 1849 = .ok (.iload 7, 2) := by decide +kernel
theorem dL_law_1851 : decode cL_law 1851 = .ok (.i2l, 1) := by decide +kernel
theorem dL_law_1852 : decode cL_law 1852 = .ok (.lcmp, 1) := by decide +kernel
theorem dL_law_1853 : decode cL_law 1853 = .ok (.ifCond .eq 5, 3) := by decide +kernel
theorem dL_law_1856 : decode cL_law 1856 = .ok (.iconst 0, 1) := by decide +kernel
theorem dL_law_1857 : decode cL_law 1857 = .ok (.ireturn, 1) := by decide +kernel
theorem dL_law_1858 : decode cL_law 1858 = .ok (.goto 304, 3) := by decide +kernel
theorem dL_law_1861 : decode cL_law 1861 = .ok (.aload_n 1, 1) := by decide +kernel
theorem dL_law_1862 : decode cL_law 1862 = .ok (.aload_n 0, 1) := by decide +kernel
theorem dL_law_1863 : decode cL_law 1863 = .ok (.iload 5, 2) := by decide +kernel
theorem dL_law_1865 : decode cL_law 1865 = .ok (.iconst 1, 1) := by decide +kernel
theorem dL_law_1866 : decode cL_law 1866 = .ok (.iadd, 1) := by decide +kernel
theorem dL_law_1867 : decode cL_law 1867 = .ok (.iaload, 1) := by decide +kernel
theorem dL_law_1868 : decode cL_law 1868 = .ok (.aload_n 3, 1) := by decide +kernel
theorem dL_law_1869 : decode cL_law 1869 = .ok (.invokestatic 233, 3) := by decide +kernel
theorem dL_law_1872 : decode cL_law 1872 = .ok (.istore 6, 2) := by decide +kernel
theorem dL_law_1874 : decode cL_law 1874 = .ok (.aload_n 2, 1) := by decide +kernel
theorem dL_law_1875 : decode cL_law 1875 = .ok (.aload_n 0, 1) := by decide +kernel
theorem dL_law_1876 : decode cL_law 1876 = .ok (.iload 5, 2) := by decide +kernel
theorem dL_law_1878 : decode cL_law 1878 = .ok (.iconst 1, 1) := by decide +kernel
theorem dL_law_1879 : decode cL_law 1879 = .ok (.iadd, 1) := by decide +kernel
theorem dL_law_1880 : decode cL_law 1880 = .ok (.iaload, 1) := by decide +kernel
theorem dL_law_1881 : decode cL_law 1881 = .ok (.invokevirtual 235, 3) := by decide +kernel
theorem dL_law_1884 : decode cL_law 1884 = .ok (.istore 7, 2) := by decide +kernel
theorem dL_law_1886 : decode cL_law 1886 = .ok (.aload_n 2, 1) := by decide +kernel
theorem dL_law_1887 : decode cL_law 1887 = .ok (.invokevirtual 134, 3) := by decide +kernel
theorem dL_law_1890 : decode cL_law 1890 = .ok (.iload 6, 2) := by decide +kernel
theorem dL_law_1892 : decode cL_law 1892 = .ok (.if_icmp .eq 5, 3) := by decide +kernel
theorem dL_law_1895 : decode cL_law 1895 = .ok (.iconst 0, 1) := by decide +kernel
theorem dL_law_1896 : decode cL_law 1896 = .ok (.ireturn, 1) := by decide +kernel
theorem dL_law_1897 : decode cL_law 1897 = .ok (.iload 6, 2) := by decide +kernel
theorem dL_law_1899 : decode cL_law 1899 = .ok (.ifCond .ne 15, 3) := by decide +kernel
theorem dL_law_1902 : decode cL_law 1902 = .ok (.aload_n 3, 1) := by decide +kernel
theorem dL_law_1903 : decode cL_law 1903 = .ok (.iconst 0, 1) := by decide +kernel
theorem dL_law_1904 : decode cL_law 1904 = .ok (.laload, 1) := by decide +kernel
theorem dL_law_1905 : decode cL_law 1905 = .ok (.iload 7, 2) := by decide +kernel
theorem dL_law_1907 : decode cL_law 1907 = .ok (.i2l, 1) := by decide +kernel
theorem dL_law_1908 : decode cL_law 1908 = .ok (.lcmp, 1) := by decide +kernel
theorem dL_law_1909 : decode cL_law 1909 = .ok (.ifCond .eq 5, 3) := by decide +kernel
theorem dL_law_1912 : decode cL_law 1912 = .ok (.iconst 0, 1) := by decide +kernel
theorem dL_law_1913 : decode cL_law 1913 = .ok (.ireturn, 1) := by decide +kernel
theorem dL_law_1914 : decode cL_law 1914 = .ok (.goto 248, 3) := by decide +kernel
theorem dL_law_1917 : decode cL_law 1917 = .ok (.aload_n 1, 1) := by decide +kernel
theorem dL_law_1918 : decode cL_law 1918 = .ok (.invokevirtual 236, 3) := by decide +kernel
theorem dL_law_1921 : decode cL_law 1921 = .ok (.aload_n 2, 1) := by decide +kernel
theorem dL_law_1922 : decode cL_law 1922 = .ok (.invokevirtual 240, 3) := by decide +kernel
theorem dL_law_1925 : decode cL_law 1925 = .ok (.if_icmp .eq 237, 3) := by decide +kernel
theorem dL_law_1928 : decode cL_law 1928 = .ok (.iconst 0, 1) := by decide +kernel
theorem dL_law_1929 : decode cL_law 1929 = .ok (.ireturn, 1) := by decide +kernel
theorem dL_law_1930 : decode cL_law 1930 = .ok (.aload_n 1, 1) := by decide +kernel
theorem dL_law_1931 : decode cL_law 1931 = .ok (.aload 4, 2) := by decide +kernel
theorem dL_law_1933 : decode cL_law 1933 = .ok (.invokestatic 241, 3) := by decide +kernel
theorem dL_law_1936 : decode cL_law 1936 = .ok (.istore 6, 2) := by decide +kernel
theorem dL_law_1938 : decode cL_law 1938 = .ok (.aload_n 2, 1) := by decide +kernel
theorem dL_law_1939 : decode cL_law 1939 = .ok (.invokevirtual 244, 3) := by decide +kernel
theorem dL_law_1942 : decode cL_law 1942 = .ok (.dstore 7, 2) := by decide +kernel
theorem dL_law_1944 : decode cL_law 1944 = .ok (.aload_n 2, 1) := by decide +kernel
theorem dL_law_1945 : decode cL_law 1945 = .ok (.invokevirtual 134, 3) := by decide +kernel
theorem dL_law_1948 : decode cL_law 1948 = .ok (.iload 6, 2) := by decide +kernel
theorem dL_law_1950 : decode cL_law 1950 = .ok (.if_icmp .eq 5, 3) := by decide +kernel
theorem dL_law_1953 : decode cL_law 1953 = .ok (.iconst 0, 1) := by decide +kernel
theorem dL_law_1954 : decode cL_law 1954 = .ok (.ireturn, 1) := by decide +kernel
theorem dL_law_1955 : decode cL_law 1955 = .ok (.iload 6, 2) := by decide +kernel
theorem dL_law_1957 : decode cL_law 1957 = .ok (.ifCond .ne 35, 3) := by decide +kernel
theorem dL_law_1960 : decode cL_law 1960 = .ok (.aload 4, 2) := by decide +kernel
theorem dL_law_1962 : decode cL_law 1962 = .ok (.iconst 0, 1) := by decide +kernel
theorem dL_law_1963 : decode cL_law 1963 = .ok (.daload, 1) := by decide +kernel
theorem dL_law_1964 : decode cL_law 1964 = .ok (.dload 7, 2) := by decide +kernel
theorem dL_law_1966 : decode cL_law 1966 = .ok (.dcmp .l, 1) := by decide +kernel
theorem dL_law_1967 : decode cL_law 1967 = .ok (.ifCond .eq 25, 3) := by decide +kernel
theorem dL_law_1970 : decode cL_law 1970 = .ok (.aload 4, 2) := by decide +kernel
theorem dL_law_1972 : decode cL_law 1972 = .ok (.iconst 0, 1) := by decide +kernel
theorem dL_law_1973 : decode cL_law 1973 = .ok (.daload, 1) := by decide +kernel
theorem dL_law_1974 : decode cL_law 1974 = .ok (.aload 4, 2) := by decide +kernel
theorem dL_law_1976 : decode cL_law 1976 = .ok (.iconst 0, 1) := by decide +kernel
theorem dL_law_1977 : decode cL_law 1977 = .ok (.daload, 1) := by decide +kernel
theorem dL_law_1978 : decode cL_law 1978 = .ok (.dcmp .l, 1) := by decide +kernel
theorem dL_law_1979 : decode cL_law 1979 = .ok (.ifCond .eq 11, 3) := by decide +kernel
theorem dL_law_1982 : decode cL_law 1982 = .ok (.dload 7, 2) := by decide +kernel
theorem dL_law_1984 : decode cL_law 1984 = .ok (.dload 7, 2) := by decide +kernel
theorem dL_law_1986 : decode cL_law 1986 = .ok (.dcmp .l, 1) := by decide +kernel
theorem dL_law_1987 : decode cL_law 1987 = .ok (.ifCond .ne 5, 3) := by decide +kernel
theorem dL_law_1990 : decode cL_law 1990 = .ok (.iconst 0, 1) := by decide +kernel
theorem dL_law_1991 : decode cL_law 1991 = .ok (.ireturn, 1) := by decide +kernel
theorem dL_law_1992 : decode cL_law 1992 = .ok (.goto 170, 3) := by decide +kernel
theorem dL_law_1995 : decode cL_law 1995 = .ok (.aload_n 1, 1) := by decide +kernel
theorem dL_law_1996 : decode cL_law 1996 = .ok (.aload 4, 2) := by decide +kernel
theorem dL_law_1998 : decode cL_law 1998 = .ok (.invokestatic 245, 3) := by decide +kernel
theorem dL_law_2001 : decode cL_law 2001 = .ok (.istore 6, 2) := by decide +kernel
theorem dL_law_2003 : decode cL_law 2003 = .ok (.aload_n 2, 1) := by decide +kernel
theorem dL_law_2004 : decode cL_law 2004 = .ok (.invokevirtual 247, 3) := by decide +kernel
theorem dL_law_2007 : decode cL_law 2007 = .ok (.fstore 7, 2) := by decide +kernel
theorem dL_law_2009 : decode cL_law 2009 = .ok (.aload_n 2, 1) := by decide +kernel
theorem dL_law_2010 : decode cL_law 2010 = .ok (.invokevirtual 134, 3) := by decide +kernel
theorem dL_law_2013 : decode cL_law 2013 = .ok (.iload 6, 2) := by decide +kernel
theorem dL_law_2015 : decode cL_law 2015 = .ok (.if_icmp .eq 5, 3) := by decide +kernel
theorem dL_law_2018 : decode cL_law 2018 = .ok (.iconst 0, 1) := by decide +kernel
theorem dL_law_2019 : decode cL_law 2019 = .ok (.ireturn, 1) := by decide +kernel
theorem dL_law_2020 : decode cL_law 2020 = .ok (.iload 6, 2) := by decide +kernel
theorem dL_law_2022 : decode cL_law 2022 = .ok (.ifCond .ne 36, 3) := by decide +kernel
theorem dL_law_2025 : decode cL_law 2025 = .ok (.aload 4, 2) := by decide +kernel
theorem dL_law_2027 : decode cL_law 2027 = .ok (.iconst 0, 1) := by decide +kernel
theorem dL_law_2028 : decode cL_law 2028 = .ok (.daload, 1) := by decide +kernel
theorem dL_law_2029 : decode cL_law 2029 = .ok (.fload 7, 2) := by decide +kernel
theorem dL_law_2031 : decode cL_law 2031 = .ok (.f2d, 1) := by decide +kernel
theorem dL_law_2032 : decode cL_law 2032 = .ok (.dcmp .l, 1) := by decide +kernel
theorem dL_law_2033 : decode cL_law 2033 = .ok (.ifCond .eq 25, 3) := by decide +kernel
theorem dL_law_2036 : decode cL_law 2036 = .ok (.aload 4, 2) := by decide +kernel
theorem dL_law_2038 : decode cL_law 2038 = .ok (.iconst 0, 1) := by decide +kernel
theorem dL_law_2039 : decode cL_law 2039 = .ok (.daload, 1) := by decide +kernel
theorem dL_law_2040 : decode cL_law 2040 = .ok (.aload 4, 2) := by decide +kernel
theorem dL_law_2042 : decode cL_law 2042 = .ok (.iconst 0, 1) := by decide +kernel
theorem dL_law_2043 : decode cL_law 2043 = .ok (.daload, 1) := by decide +kernel
theorem dL_law_2044 : decode cL_law 2044 = .ok (.dcmp .l, 1) := by decide +kernel
theorem dL_law_2045 : decode cL_law 2045 = .ok (.ifCond .eq 11, 3) := by decide +kernel
theorem dL_law_2048 : decode cL_law 2048 = .ok (.fload 7, 2) := by decide +kernel
theorem dL_law_2050 : decode cL_law 2050 = .ok (.fload 7, 2) := by decide +kernel
theorem dL_law_2052 : decode cL_law 2052 = .ok (.fcmp .l, 1) := by decide +kernel
theorem dL_law_2053 : decode cL_law 2053 = .ok (.ifCond .ne 5, 3) := by decide +kernel
theorem dL_law_2056 : decode cL_law 2056 = .ok (.iconst 0, 1) := by decide +kernel
theorem dL_law_2057 : decode cL_law 2057 = .ok (.ireturn, 1) := by decide +kernel
theorem dL_law_2058 : decode cL_law 2058 = .ok (.goto 104, 3) := by decide +kernel
theorem dL_law_2061 : decode cL_law 2061 = .ok (.aload_n 1, 1) := by decide +kernel
theorem dL_law_2062 : decode cL_law 2062 = .ok (.aload_n 3, 1) := by decide +kernel
theorem dL_law_2063 : decode cL_law 2063 = .ok (.invokestatic 248, 3) := by decide +kernel
theorem dL_law_2066 : decode cL_law 2066 = .ok (.istore 6, 2) := by decide +kernel
theorem dL_law_2068 : decode cL_law 2068 = .ok (.aload_n 2, 1) := by decide +kernel
theorem dL_law_2069 : decode cL_law 2069 = .ok (.invokevirtual 250, 3) := by decide +kernel
theorem dL_law_2072 : decode cL_law 2072 = .ok (.istore 7, 2) := by decide +kernel
theorem dL_law_2074 : decode cL_law 2074 = .ok (.aload_n 2, 1) := by decide +kernel
theorem dL_law_2075 : decode cL_law 2075 = .ok (.invokevirtual 134, 3) := by decide +kernel
theorem dL_law_2078 : decode cL_law 2078 = .ok (.iload 6, 2) := by decide +kernel
theorem dL_law_2080 : decode cL_law 2080 = .ok (.if_icmp .eq 5, 3) := by decide +kernel
theorem dL_law_2083 : decode cL_law 2083 = .ok (.iconst 0, 1) := by decide +kernel
theorem dL_law_2084 : decode cL_law 2084 = .ok (.ireturn, 1) := by decide +kernel
theorem dL_law_2085 : decode cL_law 2085 = .ok (.iload 6, 2) := by decide +kernel
theorem dL_law_2087 : decode cL_law 2087 = .ok (.ifCond .ne 15, 3) := by decide +kernel
theorem dL_law_2090 : decode cL_law 2090 = .ok (.aload_n 3, 1) := by decide +kernel
theorem dL_law_2091 : decode cL_law 2091 = .ok (.iconst 0, 1) := by decide +kernel
theorem dL_law_2092 : decode cL_law 2092 = .ok (.laload, 1) := by decide +kernel
theorem dL_law_2093 : decode cL_law 2093 = .ok (.iload 7, 2) := by decide +kernel
theorem dL_law_2095 : decode cL_law 2095 = .ok (.i2l, 1) := by decide +kernel
theorem dL_law_2096 : decode cL_law 2096 = .ok (.lcmp, 1) := by decide +kernel
theorem dL_law_2097 : decode cL_law 2097 = .ok (.ifCond .eq 5, 3) := by decide +kernel
theorem dL_law_2100 : decode cL_law 2100 = .ok (.iconst 0, 1) := by decide +kernel
theorem dL_law_2101 : decode cL_law 2101 = .ok (.ireturn, 1) := by decide +kernel
theorem dL_law_2102 : decode cL_law 2102 = .ok (.goto 60, 3) := by decide +kernel
theorem dL_law_2105 : decode cL_law 2105 = .ok (.aload_n 1, 1) := by decide +kernel
theorem dL_law_2106 : decode cL_law 2106 = .ok (.invokevirtual 251, 3) := by decide +kernel
theorem dL_law_2109 : decode cL_law 2109 = .ok (.aload_n 2, 1) := by decide +kernel
theorem dL_law_2110 : decode cL_law 2110 = .ok (.invokevirtual 254, 3) := by decide +kernel
theorem dL_law_2113 : decode cL_law 2113 = .ok (.if_icmp .eq 49, 3) := by decide +kernel
theorem dL_law_2116 : decode cL_law 2116 = .ok (.iconst 0, 1) := by decide +kernel
theorem dL_law_2117 : decode cL_law 2117 = .ok (.ireturn, 1) := by decide +kernel
theorem dL_law_2118 : decode cL_law 2118 = .ok (.aload_n 1, 1) := by decide +kernel
theorem dL_law_2119 : decode cL_law 2119 = .ok (.aload_n 3, 1) := by decide +kernel
theorem dL_law_2120 : decode cL_law 2120 = .ok (.invokestatic 255, 3) := by decide +kernel
theorem dL_law_2123 : decode cL_law 2123 = .ok (.istore 6, 2) := by decide +kernel
theorem dL_law_2125 : decode cL_law 2125 = .ok (.aload_n 2, 1) := by decide +kernel
theorem dL_law_2126 : decode cL_law 2126 = .ok (.invokevirtual 257, 3) := by decide +kernel
theorem dL_law_2129 : decode cL_law 2129 = .ok (.istore 7, 2) := by decide +kernel
theorem dL_law_2131 : decode cL_law 2131 = .ok (.aload_n 2, 1) := by decide +kernel
theorem dL_law_2132 : decode cL_law 2132 = .ok (.invokevirtual 134, 3) := by decide +kernel
theorem dL_law_2135 : decode cL_law 2135 = .ok (.iload 6, 2) := by decide +kernel
theorem dL_law_2137 : decode cL_law 2137 = .ok (.if_icmp .eq 5, 3) := by decide +kernel
theorem dL_law_2140 : decode cL_law 2140 = .ok (.iconst 0, 1) := by decide +kernel
theorem dL_law_2141 : decode cL_law 2141 = .ok (.ireturn, 1) := by decide +kernel
theorem dL_law_2142 : decode cL_law 2142 = .ok (.iload 6, 2) := by decide +kernel
theorem dL_law_2144 : decode cL_law 2144 = .ok (.ifCond .ne 15, 3) := by decide +kernel
theorem dL_law_2147 : decode cL_law 2147 = .ok (.aload_n 3, 1) := by decide +kernel
theorem dL_law_2148 : decode cL_law 2148 = .ok (.iconst 0, 1) := by decide +kernel
theorem dL_law_2149 : decode cL_law 2149 = .ok (.laload, 1) := by decide +kernel
theorem dL_law_2150 : decode cL_law 2150 = .ok (.iload 7, 2) := by decide +kernel
theorem dL_law_2152 : decode cL_law 2152 = .ok (.i2l, 1) := by decide +kernel
theorem dL_law_2153 : decode cL_law 2153 = .ok (.lcmp, 1) := by decide +kernel
theorem dL_law_2154 : decode cL_law 2154 = .ok (.ifCond .eq 5, 3) := by decide +kernel
theorem dL_law_2157 : decode cL_law 2157 = .ok (.iconst 0, 1) := by decide +kernel
theorem dL_law_2158 : decode cL_law 2158 = .ok (.ireturn, 1) := by decide +kernel
theorem dL_law_2159 : decode cL_law 2159 = .ok (.goto 3, 3) := by decide +kernel
theorem dL_law_2162 : decode cL_law 2162 = .ok (.iinc 5 3, 3) := by decide +kernel
theorem dL_law_2165 : decode cL_law 2165 = .ok (.goto (-2137), 3) := by decide +kernel
theorem dL_law_2168 : decode cL_law 2168 = .ok (.iconst 1, 1) := by decide +kernel
theorem dL_law_2169 : decode cL_law 2169 = .ok (.ireturn, 1) := by decide +kernel
