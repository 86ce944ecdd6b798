theorem dX0_init_0 : decode cX0_init 0 = .ok (.aload_n 0, 1) := by decide +kernel
theorem dX0_init_1 : decode cX0_init 1 = .ok (.invokespecial 3, 3) := by decide +kernel
theorem dX0_init_4 : decode cX0_init 4 = .ok (.aload_n 0, 1) := by decide +kernel
theorem dX0_init_5 : decode cX0_init 5 = .ok (.bipush (-9), 2) := by decide +kernel
theorem dX0_init_7 : decode cX0_init 7 = .ok (.putfield 9, 3) := by decide +kernel
theorem dX0_init_10 : decode cX0_init 10 = .ok (.aload_n 0, 1) := by decide +kernel
theorem dX0_init_11 : decode cX0_init 11 = .ok (.bipush 6, 2) := by decide +kernel
theorem dX0_init_13 : decode cX0_init 13 = .ok (.newarray .int, 2) := by decide +kernel
theorem dX0_init_15 : decode cX0_init 15 = .ok (.putfield 15, 3) := by decide +kernel
theorem dX0_init_18 : decode cX0_init 18 = .ok (.aload_n 0, 1) := by decide +kernel
theorem dX0_init_19 : decode cX0_init 19 = .ok (.iconst 4, 1) := by decide +kernel
theorem dX0_init_20 : decode cX0_init 20 = .ok (.newarray .int, 2) := by decide +kernel
theorem dX0_init_22 : decode cX0_init 22 = .ok (.putfield 19, 3) := by decide +kernel
theorem dX0_init_25 : decode cX0_init 25 = .ok (.aload_n 0, 1) := by decide +kernel
theorem dX0_init_26 : decode cX0_init 26 = .ok (.iconst 4, 1) := by decide +kernel
theorem dX0_init_27 : decode cX0_init 27 = .ok (.newarray .int, 2) := by decide +kernel
theorem dX0_init_29 : decode cX0_init 29 = .ok (.putfield 22, 3) := by decide +kernel
theorem dX0_init_32 : decode cX0_init 32 = .ok (.aload_n 0, 1) := by decide +kernel
theorem dX0_init_33 : decode cX0_init 33 = .ok (.bipush 6, 2) := by decide +kernel
theorem dX0_init_35 : decode cX0_init 35 = .ok (.newarray .int, 2) := by decide +kernel
theorem dX0_init_37 : decode cX0_init 37 = .ok (.putfield 25, 3) := by decide +kernel
theorem dX0_init_40 : decode cX0_init 40 = .ok (.aload_n 0, 1) := by decide +kernel
theorem dX0_init_41 : decode cX0_init 41 = .ok (.bipush 6, 2) := by decide +kernel
theorem dX0_init_43 : decode cX0_init 43 = .ok (.newarray .int, 2) := by decide +kernel
theorem dX0_init_45 : decode cX0_init 45 = .ok (.putfield 28, 3) := by decide +kernel
theorem dX0_init_48 : decode cX0_init 48 = .ok (.aload_n 0, 1) := by decide +kernel
theorem dX0_init_49 : decode cX0_init 49 = .ok (.bipush 6, 2) := by decide +kernel
theorem dX0_init_51 : decode cX0_init 51 = .ok (.newarray .int, 2) := by decide +kernel
theorem dX0_init_53 : decode cX0_init 53 = .ok (.putfield 31, 3) := by decide +kernel
theorem dX0_init_56 : decode cX0_init 56 = .ok (.return_, 1) := by decide +kernel
theorem dX0_clear_0 : decode cX0_clear 0 = .ok (.aload_n 0, 1) := by decide +kernel
theorem dX0_clear_1 : decode cX0_clear 1 = .ok (.iconst 0, 1) := by decide +kernel
theorem dX0_clear_2 : decode cX0_clear 2 = .ok (.putfield 34, 3) := by decide +kernel
theorem dX0_clear_5 : decode cX0_clear 5 = .ok (.aload_n 0, 1) := by decide +kernel
theorem dX0_clear_6 : decode cX0_clear 6 = .ok (.iconst 0, 1) := by decide +kernel
theorem dX0_clear_7 : decode cX0_clear 7 = .ok (.putfield 37, 3) := by decide +kernel
theorem dX0_clear_10 : decode cX0_clear 10 = .ok (.aload_n 0, 1) := by decide +kernel
theorem dX0_clear_11 : decode cX0_clear 11 = .ok (.iconst 0, 1) := by decide +kernel
theorem dX0_clear_12 : decode cX0_clear 12 = .ok (.putfield 40, 3) := by decide +kernel
theorem dX0_clear_15 : decode cX0_clear 15 = .ok (.aload_n 0, 1) := by decide +kernel
theorem dX0_clear_16 : decode cX0_clear 16 = .ok (.bipush (-9), 2) := by decide +kernel
theorem dX0_clear_18 : decode cX0_clear 18 = .ok (.iconst 0, 1) := by decide +kernel
theorem dX0_clear_19 : decode cX0_clear 19 = .ok (.invokevirtual 43, 3) := by decide +kernel
theorem dX0_clear_22 : decode cX0_clear 22 = .ok (.return_, 1) := by decide +kernel
theorem dX0_become_0 : decode cX0_become 0 = .ok (.aload_n 0, 1) := by decide +kernel
theorem dX0_become_1 : decode cX0_become 1 = .ok (.aload_n 1, 1) := by decide +kernel
theorem dX0_become_2 : decode cX0_become 2 = .ok (.getfield 34, 3) := by decide +kernel
theorem dX0_become_5 : decode cX0_become 5 = .ok (.putfield 34, 3) := by decide +kernel
theorem dX0_become_8 : decode cX0_become 8 = .ok (.aload_n 0, 1) := by decide +kernel
theorem dX0_become_9 : decode cX0_become 9 = .ok (.aload_n 1, 1) := by decide +kernel
theorem dX0_become_10 : decode cX0_become 10 = .ok (.getfield 37, 3) := by decide +kernel
theorem dX0_become_13 : decode cX0_become 13 = .ok (.putfield 37, 3) := by decide +kernel
theorem dX0_become_16 : decode cX0_become 16 = .ok (.aload_n 0, 1) := by decide +kernel
theorem dX0_become_17 : decode cX0_become 17 = .ok (.aload_n 1, 1) := by decide +kernel
theorem dX0_become_18 : decode cX0_become 18 = .ok (.getfield 40, 3) := by decide +kernel
theorem dX0_become_21 : decode cX0_become 21 = .ok (.putfield 40, 3) := by decide +kernel
theorem dX0_become_24 : decode cX0_become 24 = .ok (.aload_n 0, 1) := by decide +kernel
theorem dX0_become_25 : decode cX0_become 25 = .ok (.aload_n 1, 1) := by decide +kernel
theorem dX0_become_26 : decode cX0_become 26 = .ok (.getfield 9, 3) := by decide +kernel
theorem dX0_become_29 : decode cX0_become 29 = .ok (.aload_n 1, 1) := by decide +kernel
theorem dX0_become_30 : decode cX0_become 30 = .ok (.getfield 47, 3) := by decide +kernel
theorem dX0_become_33 : decode cX0_become 33 = .ok (.invokevirtual 43, 3) := by decide +kernel
theorem dX0_become_36 : decode cX0_become 36 = .ok (.aload_n 1, 1) := by decide +kernel
theorem dX0_become_37 : decode cX0_become 37 = .ok (.getfield 15, 3) := by decide +kernel
theorem dX0_become_40 : decode cX0_become 40 = .ok (.iconst 0, 1) := by decide +kernel
theorem dX0_become_41 : decode cX0_become 41 = .ok (.aload_n 0, 1) := by decide +kernel
theorem dX0_become_42 : decode cX0_become 42 = .ok (.getfield 15, 3) := by decide +kernel
theorem dX0_become_45 : decode cX0_become 45 = .ok (.iconst 0, 1) := by decide +kernel
theorem dX0_become_46 : decode cX0_become 46 = .ok (.bipush 6, 2) := by decide +kernel
theorem dX0_become_48 : decode cX0_become 48 = .ok (.invokestatic 50, 3) := by decide +kernel
theorem dX0_become_51 : decode cX0_become 51 = .ok (.aload_n 1, 1) := by decide +kernel
theorem dX0_become_52 : decode cX0_become 52 = .ok (.getfield 19, 3) := by decide +kernel
theorem dX0_become_55 : decode cX0_become 55 = .ok (.iconst 0, 1) := by decide +kernel
theorem dX0_become_56 : decode cX0_become 56 = .ok (.aload_n 0, 1) := by decide +kernel
theorem dX0_become_57 : decode cX0_become 57 = .ok (.getfield 19, 3) := by decide +kernel
theorem dX0_become_60 : decode cX0_become 60 = .ok (.iconst 0, 1) := by decide +kernel
theorem dX0_become_61 : decode cX0_become 61 = .ok (.iconst 4, 1) := by decide +kernel
theorem dX0_become_62 : decode cX0_become 62 = .ok (.invokestatic 50, 3) := by decide +kernel
theorem dX0_become_65 : decode cX0_become 65 = .ok (.aload_n 1, 1) := by decide +kernel
theorem dX0_become_66 : decode cX0_become 66 = .ok (.getfield 22, 3) := by decide +kernel
theorem dX0_become_69 : decode cX0_become 69 = .ok (.iconst 0, 1) := by decide +kernel
theorem dX0_become_70 : decode cX0_become 70 = .ok (.aload_n 0, 1) := by decide +kernel
theorem dX0_become_71 : decode cX0_become 71 = .ok (.getfield 22, 3) := by decide +kernel
theorem dX0_become_74 : decode cX0_become 74 = .ok (.iconst 0, 1) := by decide +kernel
theorem dX0_become_75 : decode cX0_become 75 = .ok (.iconst 4, 1) := by decide +kernel
theorem dX0_become_76 : decode cX0_become 76 = .ok (.invokestatic 50, 3) := by decide +kernel
theorem dX0_become_79 : decode cX0_become 79 = .ok (.aload_n 1, 1) := by decide +kernel
theorem dX0_become_80 : decode cX0_become 80 = .ok (.getfield 25, 3) := by decide +kernel
theorem dX0_become_83 : decode cX0_become 83 = .ok (.iconst 0, 1) := by decide +kernel
theorem dX0_become_84 : decode cX0_become 84 = .ok (.aload_n 0, 1) := by decide +kernel
theorem dX0_become_85 : decode cX0_become 85 = .ok (.getfield 25, 3) := by decide +kernel
theorem dX0_become_88 : decode cX0_become 88 = .ok (.iconst 0, 1) := by decide +kernel
theorem dX0_become_89 : decode cX0_become 89 = .ok (.bipush 6, 2) := by decide +kernel
theorem dX0_become_91 : decode cX0_become 91 = .ok (.invokestatic 50, 3) := by decide +kernel
theorem dX0_become_94 : decode cX0_become 94 = .ok (.aload_n 1, 1) := by decide +kernel
theorem dX0_become_95 : decode cX0_become 95 = .ok (.getfield 28, 3) := by decide +kernel
theorem dX0_become_98 : decode cX0_become 98 = .ok (.iconst 0, 1) := by decide +kernel
theorem dX0_become_99 : decode cX0_become 99 = .ok (.aload_n 0, 1) := by decide +kernel
theorem dX0_become_100 : decode cX0_become 100 = .ok (.getfield 28, 3) := by decide +kernel
theorem dX0_become_103 : decode cX0_become 103 = .ok (.iconst 0, 1) := by decide +kernel
theorem dX0_become_104 : decode cX0_become 104 = .ok (.bipush 6, 2) := by decide +kernel
theorem dX0_become_106 : decode cX0_become 106 = .ok (.invokestatic 50, 3) := by decide +kernel
theorem dX0_become_109 : decode cX0_become 109 = .ok (.aload_n 1, 1) := by decide +kernel
theorem dX0_become_110 : decode cX0_become 110 = .ok (.getfield 31, 3) := by decide +kernel
theorem dX0_become_113 : decode cX0_become 113 = .ok (.iconst 0, 1) := by decide +kernel
theorem dX0_become_114 : decode cX0_become 114 = .ok (.aload_n 0, 1) := by decide +kernel
theorem dX0_become_115 : decode cX0_become 115 = .ok (.getfield 31, 3) := by decide +kernel
theorem dX0_become_118 : decode cX0_become 118 = .ok (.iconst 0, 1) := by decide +kernel
theorem dX0_become_119 : decode cX0_become 119 = .ok (.bipush 6, 2) := by decide +kernel
theorem dX0_become_121 : decode cX0_become 121 = .ok (.invokestatic 50, 3) := by decide +kernel
theorem dX0_become_124 : decode cX0_become 124 = .ok (.return_, 1) := by decide +kernel
theorem dX0_hasHour_0 : decode cX0_hasHour 0 = .ok (.iload_n 1, 1) := by decide +kernel
theorem dX0_hasHour_1 : decode cX0_hasHour 1 = .ok (.ifCond .lt 15, 3) := by decide +kernel
theorem dX0_hasHour_4 : decode cX0_hasHour 4 = .ok (.iload_n 1, 1) := by decide +kernel
theorem dX0_hasHour_5 : decode cX0_hasHour 5 = .ok (.aload_n 0, 1) := by decide +kernel
theorem dX0_hasHour_6 : decode cX0_hasHour 6 = .ok (.getfield 34, 3) := by decide +kernel
theorem dX0_hasHour_9 : decode cX0_hasHour 9 = .ok (.if_icmp .ge 7, 3) := by decide +kernel
theorem dX0_hasHour_12 : decode cX0_hasHour 12 = .ok (.iconst 1, 1) := by decide +kernel
theorem dX0_hasHour_13 : decode cX0_hasHour 13 = .ok (.goto 4, 3) := by decide +kernel
theorem dX0_hasHour_16 : decode cX0_hasHour 16 = .ok (.iconst 0, 1) := by decide +kernel
theorem dX0_hasHour_17 : decode cX0_hasHour 17 = .ok (.ireturn, 1) := by decide +kernel
theorem dX0_hasSwearer_0 : decode cX0_hasSwearer 0 = .ok (.iload_n 1, 1) := by decide +kernel
theorem dX0_hasSwearer_1 : decode cX0_hasSwearer 1 = .ok (.ifCond .lt 15, 3) := by decide +kernel
theorem dX0_hasSwearer_4 : decode cX0_hasSwearer 4 = .ok (.iload_n 1, 1) := by decide +kernel
theorem dX0_hasSwearer_5 : decode cX0_hasSwearer 5 = .ok (.aload_n 0, 1) := by decide +kernel
theorem dX0_hasSwearer_6 : decode cX0_hasSwearer 6 = .ok (.getfield 37, 3) := by decide +kernel
theorem dX0_hasSwearer_9 : decode cX0_hasSwearer 9 = .ok (.if_icmp .ge 7, 3) := by decide +kernel
theorem dX0_hasSwearer_12 : decode cX0_hasSwearer 12 = .ok (.iconst 1, 1) := by decide +kernel
theorem dX0_hasSwearer_13 : decode cX0_hasSwearer 13 = .ok (.goto 4, 3) := by decide +kernel
theorem dX0_hasSwearer_16 : decode cX0_hasSwearer 16 = .ok (.iconst 0, 1) := by decide +kernel
theorem dX0_hasSwearer_17 : decode cX0_hasSwearer 17 = .ok (.ireturn, 1) := by decide +kernel
theorem dX0_hasOath_0 : decode cX0_hasOath 0 = .ok (.iload_n 1, 1) := by decide +kernel
theorem dX0_hasOath_1 : decode cX0_hasOath 1 = .ok (.ifCond .lt 15, 3) := by decide +kernel
theorem dX0_hasOath_4 : decode cX0_hasOath 4 = .ok (.iload_n 1, 1) := by decide +kernel
theorem dX0_hasOath_5 : decode cX0_hasOath 5 = .ok (.aload_n 0, 1) := by decide +kernel
theorem dX0_hasOath_6 : decode cX0_hasOath 6 = .ok (.getfield 40, 3) := by decide +kernel
theorem dX0_hasOath_9 : decode cX0_hasOath 9 = .ok (.if_icmp .ge 7, 3) := by decide +kernel
theorem dX0_hasOath_12 : decode cX0_hasOath 12 = .ok (.iconst 1, 1) := by decide +kernel
theorem dX0_hasOath_13 : decode cX0_hasOath 13 = .ok (.goto 4, 3) := by decide +kernel
theorem dX0_hasOath_16 : decode cX0_hasOath 16 = .ok (.iconst 0, 1) := by decide +kernel
theorem dX0_hasOath_17 : decode cX0_hasOath 17 = .ok (.ireturn, 1) := by decide +kernel
theorem dX0_addHour_0 : decode cX0_addHour 0 = .ok (.aload_n 0, 1) := by decide +kernel
theorem dX0_addHour_1 : decode cX0_addHour 1 = .ok (.getfield 34, 3) := by decide +kernel
theorem dX0_addHour_4 : decode cX0_addHour 4 = .ok (.bipush 6, 2) := by decide +kernel
theorem dX0_addHour_6 : decode cX0_addHour 6 = .ok (.if_icmp .ge 23, 3) := by decide +kernel
theorem dX0_addHour_9 : decode cX0_addHour 9 = .ok (.aload_n 0, 1) := by decide +kernel
theorem dX0_addHour_10 : decode cX0_addHour 10 = .ok (.getfield 15, 3) := by decide +kernel
theorem dX0_addHour_13 : decode cX0_addHour 13 = .ok (.aload_n 0, 1) := by decide +kernel
theorem dX0_addHour_14 : decode cX0_addHour 14 = .ok (.getfield 34, 3) := by decide +kernel
theorem dX0_addHour_17 : decode cX0_addHour 17 = .ok (.iload_n 1, 1) := by decide +kernel
theorem dX0_addHour_18 : decode cX0_addHour 18 = .ok (.iastore, 1) := by decide +kernel
theorem dX0_addHour_19 : decode cX0_addHour 19 = .ok (.aload_n 0, 1) := by decide +kernel
theorem dX0_addHour_20 : decode cX0_addHour 20 = .ok (.dup, 1) := by decide +kernel
theorem dX0_addHour_21 : decode cX0_addHour 21 = .ok (.getfield 34, 3) := by decide +kernel
theorem dX0_addHour_24 : decode cX0_addHour 24 = .ok (.iconst 1, 1) := by decide +kernel
theorem dX0_addHour_25 : decode cX0_addHour 25 = .ok (.iadd, 1) := by decide +kernel
theorem dX0_addHour_26 : decode cX0_addHour 26 = .ok (.putfield 34, 3) := by decide +kernel
theorem dX0_addHour_29 : decode cX0_addHour 29 = .ok (.return_, 1) := by decide +kernel
theorem dX0_addSwearer_0 : decode cX0_addSwearer 0 = .ok (.aload_n 0, 1) := by decide +kernel
theorem dX0_addSwearer_1 : decode cX0_addSwearer 1 = .ok (.getfield 37, 3) := by decide +kernel
theorem dX0_addSwearer_4 : decode cX0_addSwearer 4 = .ok (.iconst 4, 1) := by decide +kernel
theorem dX0_addSwearer_5 : decode cX0_addSwearer 5 = .ok (.if_icmp .ge 33, 3) := by decide +kernel
theorem dX0_addSwearer_8 : decode cX0_addSwearer 8 = .ok (.aload_n 0, 1) := by decide +kernel
theorem dX0_addSwearer_9 : decode cX0_addSwearer 9 = .ok (.getfield 19, 3) := by decide +kernel
theorem dX0_addSwearer_12 : decode cX0_addSwearer 12 = .ok (.aload_n 0, 1) := by decide +kernel
theorem dX0_addSwearer_13 : decode cX0_addSwearer 13 = .ok (.getfield 37, 3) := by decide +kernel
theorem dX0_addSwearer_16 : decode cX0_addSwearer 16 = .ok (.iload_n 1, 1) := by decide +kernel
theorem dX0_addSwearer_17 : decode cX0_addSwearer 17 = .ok (.iastore, 1) := by decide +kernel
theorem dX0_addSwearer_18 : decode cX0_addSwearer 18 = .ok (.aload_n 0, 1) := by decide +kernel
theorem dX0_addSwearer_19 : decode cX0_addSwearer 19 = .ok (.getfield 22, 3) := by decide +kernel
theorem dX0_addSwearer_22 : decode cX0_addSwearer 22 = .ok (.aload_n 0, 1) := by decide +kernel
theorem dX0_addSwearer_23 : decode cX0_addSwearer 23 = .ok (.getfield 37, 3) := by decide +kernel
theorem dX0_addSwearer_26 : decode cX0_addSwearer 26 = .ok (.iload_n 2, 1) := by decide +kernel
theorem dX0_addSwearer_27 : decode cX0_addSwearer 27 = .ok (.iastore, 1) := by decide +kernel
theorem dX0_addSwearer_28 : decode cX0_addSwearer 28 = .ok (.aload_n 0, 1) := by decide +kernel
theorem dX0_addSwearer_29 : decode cX0_addSwearer 29 = .ok (.dup, 1) := by decide +kernel
theorem dX0_addSwearer_30 : decode cX0_addSwearer 30 = .ok (.getfield 37, 3) := by decide +kernel
theorem dX0_addSwearer_33 : decode cX0_addSwearer 33 = .ok (.iconst 1, 1) := by decide +kernel
theorem dX0_addSwearer_34 : decode cX0_addSwearer 34 = .ok (.iadd, 1) := by decide +kernel
theorem dX0_addSwearer_35 : decode cX0_addSwearer 35 = .ok (.putfield 37, 3) := by decide +kernel
theorem dX0_addSwearer_38 : decode cX0_addSwearer 38 = .ok (.return_, 1) := by decide +kernel
theorem dX0_addOath_0 : decode cX0_addOath 0 = .ok (.aload_n 0, 1) := by decide +kernel
theorem dX0_addOath_1 : decode cX0_addOath 1 = .ok (.getfield 40, 3) := by decide +kernel
theorem dX0_addOath_4 : decode cX0_addOath 4 = .ok (.bipush 6, 2) := by decide +kernel
theorem dX0_addOath_6 : decode cX0_addOath 6 = .ok (.if_icmp .ge 43, 3) := by decide +kernel
theorem dX0_addOath_9 : decode cX0_addOath 9 = .ok (.aload_n 0, 1) := by decide +kernel
theorem dX0_addOath_10 : decode cX0_addOath 10 = .ok (.getfield 25, 3) := by decide +kernel
theorem dX0_addOath_13 : decode cX0_addOath 13 = .ok (.aload_n 0, 1) := by decide +kernel
theorem dX0_addOath_14 : decode cX0_addOath 14 = .ok (.getfield 40, 3) := by decide +kernel
theorem dX0_addOath_17 : decode cX0_addOath 17 = .ok (.iload_n 1, 1) := by decide +kernel
theorem dX0_addOath_18 : decode cX0_addOath 18 = .ok (.iastore, 1) := by decide +kernel
theorem dX0_addOath_19 : decode cX0_addOath 19 = .ok (.aload_n 0, 1) := by decide +kernel
theorem dX0_addOath_20 : decode cX0_addOath 20 = .ok (.getfield 28, 3) := by decide +kernel
theorem dX0_addOath_23 : decode cX0_addOath 23 = .ok (.aload_n 0, 1) := by decide +kernel
theorem dX0_addOath_24 : decode cX0_addOath 24 = .ok (.getfield 40, 3) := by decide +kernel
theorem dX0_addOath_27 : decode cX0_addOath 27 = .ok (.iload_n 2, 1) := by decide +kernel
theorem dX0_addOath_28 : decode cX0_addOath 28 = .ok (.iastore, 1) := by decide +kernel
theorem dX0_addOath_29 : decode cX0_addOath 29 = .ok (.aload_n 0, 1) := by decide +kernel
theorem dX0_addOath_30 : decode cX0_addOath 30 = .ok (.getfield 31, 3) := by decide +kernel
theorem dX0_addOath_33 : decode cX0_addOath 33 = .ok (.aload_n 0, 1) := by decide +kernel
theorem dX0_addOath_34 : decode cX0_addOath 34 = .ok (.getfield 40, 3) := by decide +kernel
theorem dX0_addOath_37 : decode cX0_addOath 37 = .ok (.iload_n 3, 1) := by decide +kernel
theorem dX0_addOath_38 : decode cX0_addOath 38 = .ok (.iastore, 1) := by decide +kernel
theorem dX0_addOath_39 : decode cX0_addOath 39 = .ok (.aload_n 0, 1) := by decide +kernel
theorem dX0_addOath_40 : decode cX0_addOath 40 = .ok (.dup, 1) := by decide +kernel
theorem dX0_addOath_41 : decode cX0_addOath 41 = .ok (.getfield 40, 3) := by decide +kernel
theorem dX0_addOath_44 : decode cX0_addOath 44 = .ok (.iconst 1, 1) := by decide +kernel
theorem dX0_addOath_45 : decode cX0_addOath 45 = .ok (.iadd, 1) := by decide +kernel
theorem dX0_addOath_46 : decode cX0_addOath 46 = .ok (.putfield 40, 3) := by decide +kernel
theorem dX0_addOath_49 : decode cX0_addOath 49 = .ok (.return_, 1) := by decide +kernel
theorem dX0_dropOath_0 : decode cX0_dropOath 0 = .ok (.aload_n 0, 1) := by decide +kernel
theorem dX0_dropOath_1 : decode cX0_dropOath 1 = .ok (.iload_n 1, 1) := by decide +kernel
theorem dX0_dropOath_2 : decode cX0_dropOath 2 = .ok (.invokevirtual 56, 3) := by decide +kernel
theorem dX0_dropOath_5 : decode cX0_dropOath 5 = .ok (.ifCond .ne 4, 3) := by decide +kernel
theorem dX0_dropOath_8 : decode cX0_dropOath 8 = .ok (.return_, 1) := by decide +kernel
theorem dX0_dropOath_9 : decode cX0_dropOath 9 = .ok (.iload_n 1, 1) := by decide +kernel
theorem dX0_dropOath_10 : decode cX0_dropOath 10 = .ok (.iconst 1, 1) := by decide +kernel
theorem dX0_dropOath_11 : decode cX0_dropOath 11 = .ok (.iadd, 1) := by decide +kernel
theorem dX0_dropOath_12 : decode cX0_dropOath 12 = .ok (.istore_n 2, 1) := by decide +kernel
theorem dX0_dropOath_13 : decode cX0_dropOath 13 = .ok (.iload_n 2, 1) := by decide +kernel
theorem dX0_dropOath_14 : decode cX0_dropOath 14 = .ok (.aload_n 0, 1) := by decide +kernel
theorem dX0_dropOath_15 : decode cX0_dropOath 15 = .ok (.getfield 40, 3) := by decide +kernel
theorem dX0_dropOath_18 : decode cX0_dropOath 18 = .ok (.if_icmp .ge 51, 3) := by decide +kernel
theorem dX0_dropOath_21 : decode cX0_dropOath 21 = .ok (.aload_n 0, 1) := by decide +kernel
theorem dX0_dropOath_22 : decode cX0_dropOath 22 = .ok (.getfield 25, 3) := by decide +kernel
theorem dX0_dropOath_25 : decode cX0_dropOath 25 = .ok (.iload_n 2, 1) := by decide +kernel
theorem dX0_dropOath_26 : decode cX0_dropOath 26 = .ok (.iconst 1, 1) := by decide +kernel
theorem dX0_dropOath_27 : decode cX0_dropOath 27 = .ok (.isub, 1) := by decide +kernel
theorem dX0_dropOath_28 : decode cX0_dropOath 28 = .ok (.aload_n 0, 1) := by decide +kernel
theorem dX0_dropOath_29 : decode cX0_dropOath 29 = .ok (.getfield 25, 3) := by decide +kernel
theorem dX0_dropOath_32 : decode cX0_dropOath 32 = .ok (.iload_n 2, 1) := by decide +kernel
theorem dX0_dropOath_33 : decode cX0_dropOath 33 = .ok (.iaload, 1) := by decide +kernel
theorem dX0_dropOath_34 : decode cX0_dropOath 34 = .ok (.iastore, 1) := by decide +kernel
theorem dX0_dropOath_35 : decode cX0_dropOath 35 = .ok (.aload_n 0, 1) := by decide +kernel
theorem dX0_dropOath_36 : decode cX0_dropOath 36 = .ok (.getfield 28, 3) := by decide +kernel
theorem dX0_dropOath_39 : decode cX0_dropOath 39 = .ok (.iload_n 2, 1) := by decide +kernel
theorem dX0_dropOath_40 : decode cX0_dropOath 40 = .ok (.iconst 1, 1) := by decide +kernel
theorem dX0_dropOath_41 : decode cX0_dropOath 41 = .ok (.isub, 1) := by decide +kernel
theorem dX0_dropOath_42 : decode cX0_dropOath 42 = .ok (.aload_n 0, 1) := by decide +kernel
theorem dX0_dropOath_43 : decode cX0_dropOath 43 = .ok (.getfield 28, 3) := by decide +kernel
theorem dX0_dropOath_46 : decode cX0_dropOath 46 = .ok (.iload_n 2, 1) := by decide +kernel
theorem dX0_dropOath_47 : decode cX0_dropOath 47 = .ok (.iaload, 1) := by decide +kernel
theorem dX0_dropOath_48 : decode cX0_dropOath 48 = .ok (.iastore, 1) := by decide +kernel
theorem dX0_dropOath_49 : decode cX0_dropOath 49 = .ok (.aload_n 0, 1) := by decide +kernel
theorem dX0_dropOath_50 : decode cX0_dropOath 50 = .ok (.getfield 31, 3) := by decide +kernel
theorem dX0_dropOath_53 : decode cX0_dropOath 53 = .ok (.iload_n 2, 1) := by decide +kernel
theorem dX0_dropOath_54 : decode cX0_dropOath 54 = .ok (.iconst 1, 1) := by decide +kernel
theorem dX0_dropOath_55 : decode cX0_dropOath 55 = .ok (.isub, 1) := by decide +kernel
theorem dX0_dropOath_56 : decode cX0_dropOath 56 = .ok (.aload_n 0, 1) := by decide +kernel
theorem dX0_dropOath_57 : decode cX0_dropOath 57 = .ok (.getfield 31, 3) := by decide +kernel
theorem dX0_dropOath_60 : decode cX0_dropOath 60 = .ok (.iload_n 2, 1) := by decide +kernel
theorem dX0_dropOath_61 : decode cX0_dropOath 61 = .ok (.iaload, 1) := by decide +kernel
theorem dX0_dropOath_62 : decode cX0_dropOath 62 = .ok (.iastore, 1) := by decide +kernel
theorem dX0_dropOath_63 : decode cX0_dropOath 63 = .ok (.iinc 2 1, 3) := by decide +kernel
theorem dX0_dropOath_66 : decode cX0_dropOath 66 = .ok (.goto (-53), 3) := by decide +kernel
theorem dX0_dropOath_69 : decode cX0_dropOath 69 = .ok (.aload_n 0, 1) := by decide +kernel
theorem dX0_dropOath_70 : decode cX0_dropOath 70 = .ok (.dup, 1) := by decide +kernel
theorem dX0_dropOath_71 : decode cX0_dropOath 71 = .ok (.getfield 40, 3) := by decide +kernel
theorem dX0_dropOath_74 : decode cX0_dropOath 74 = .ok (.iconst 1, 1) := by decide +kernel
theorem dX0_dropOath_75 : decode cX0_dropOath 75 = .ok (.isub, 1) := by decide +kernel
theorem dX0_dropOath_76 : decode cX0_dropOath 76 = .ok (.putfield 40, 3) := by decide +kernel
theorem dX0_dropOath_79 : decode cX0_dropOath 79 = .ok (.return_, 1) := by decide +kernel
theorem dX0_putStove_0 : decode cX0_putStove 0 = .ok (.aload_n 0, 1) := by decide +kernel
theorem dX0_putStove_1 : decode cX0_putStove 1 = .ok (.iload_n 1, 1) := by decide +kernel
theorem dX0_putStove_2 : decode cX0_putStove 2 = .ok (.putfield 9, 3) := by decide +kernel
theorem dX0_putStove_5 : decode cX0_putStove 5 = .ok (.aload_n 0, 1) := by decide +kernel
theorem dX0_putStove_6 : decode cX0_putStove 6 = .ok (.iload_n 2, 1) := by decide +kernel
theorem dX0_putStove_7 : decode cX0_putStove 7 = .ok (.putfield 47, 3) := by decide +kernel
theorem dX0_putStove_10 : decode cX0_putStove 10 = .ok (.return_, 1) := by decide +kernel
theorem dX0_takesAct_0 : decode cX0_takesAct 0 = .ok (.iload_n 2, 1) := by decide +kernel
theorem dX0_takesAct_1 : decode cX0_takesAct 1 = .ok (.bipush 17, 2) := by decide +kernel
theorem dX0_takesAct_3 : decode cX0_takesAct 3 = .ok (.if_icmp .ne 12, 3) := by decide +kernel
theorem dX0_takesAct_6 : decode cX0_takesAct 6 = .ok (.aload_n 0, 1) := by decide +kernel
theorem dX0_takesAct_7 : decode cX0_takesAct 7 = .ok (.bipush (-9), 2) := by decide +kernel
theorem dX0_takesAct_9 : decode cX0_takesAct 9 = .ok (.iconst 0, 1) := by decide +kernel
theorem dX0_takesAct_10 : decode cX0_takesAct 10 = .ok (.invokevirtual 43, 3) := by decide +kernel
theorem dX0_takesAct_13 : decode cX0_takesAct 13 = .ok (.iconst 1, 1) := by decide +kernel
theorem dX0_takesAct_14 : decode cX0_takesAct 14 = .ok (.ireturn, 1) := by decide +kernel
theorem dX0_takesAct_15 : decode cX0_takesAct 15 = .ok (.iload_n 2, 1) := by decide +kernel
theorem dX0_takesAct_16 : decode cX0_takesAct 16 = .ok (.bipush 11, 2) := by decide +kernel
theorem dX0_takesAct_18 : decode cX0_takesAct 18 = .ok (.if_icmp .lt 13, 3) := by decide +kernel
theorem dX0_takesAct_21 : decode cX0_takesAct 21 = .ok (.aload_n 0, 1) := by decide +kernel
theorem dX0_takesAct_22 : decode cX0_takesAct 22 = .ok (.iload_n 2, 1) := by decide +kernel
theorem dX0_takesAct_23 : decode cX0_takesAct 23 = .ok (.bipush 11, 2) := by decide +kernel
theorem dX0_takesAct_25 : decode cX0_takesAct 25 = .ok (.isub, 1) := by decide +kernel
theorem dX0_takesAct_26 : decode cX0_takesAct 26 = .ok (.iload_n 1, 1) := by decide +kernel
theorem dX0_takesAct_27 : decode cX0_takesAct 27 = .ok (.invokevirtual 60, 3) := by decide +kernel
theorem dX0_takesAct_30 : decode cX0_takesAct 30 = .ok (.ireturn, 1) := by decide +kernel
theorem dX0_takesAct_31 : decode cX0_takesAct 31 = .ok (.iload_n 2, 1) := by decide +kernel
theorem dX0_takesAct_32 : decode cX0_takesAct 32 = .ok (.bipush 10, 2) := by decide +kernel
theorem dX0_takesAct_34 : decode cX0_takesAct 34 = .ok (.if_icmp .ne 16, 3) := by decide +kernel
theorem dX0_takesAct_37 : decode cX0_takesAct 37 = .ok (.aload_n 0, 1) := by decide +kernel
theorem dX0_takesAct_38 : decode cX0_takesAct 38 = .ok (.iload_n 1, 1) := by decide +kernel
theorem dX0_takesAct_39 : decode cX0_takesAct 39 = .ok (.invokevirtual 56, 3) := by decide +kernel
theorem dX0_takesAct_42 : decode cX0_takesAct 42 = .ok (.istore_n 3, 1) := by decide +kernel
theorem dX0_takesAct_43 : decode cX0_takesAct 43 = .ok (.aload_n 0, 1) := by decide +kernel
theorem dX0_takesAct_44 : decode cX0_takesAct 44 = .ok (.iload_n 1, 1) := by decide +kernel
theorem dX0_takesAct_45 : decode cX0_takesAct 45 = .ok (.invokevirtual 64, 3) := by decide +kernel
theorem dX0_takesAct_48 : decode cX0_takesAct 48 = .ok (.iload_n 3, 1) := by decide +kernel
theorem dX0_takesAct_49 : decode cX0_takesAct 49 = .ok (.ireturn, 1) := by decide +kernel
theorem dX0_takesAct_50 : decode cX0_takesAct 50 = .ok (.iload_n 2, 1) := by decide +kernel
theorem dX0_takesAct_51 : decode cX0_takesAct 51 = .ok (.iconst 4, 1) := by decide +kernel
theorem dX0_takesAct_52 : decode cX0_takesAct 52 = .ok (.if_icmp .lt 12, 3) := by decide +kernel
theorem dX0_takesAct_55 : decode cX0_takesAct 55 = .ok (.aload_n 0, 1) := by decide +kernel
theorem dX0_takesAct_56 : decode cX0_takesAct 56 = .ok (.iload_n 2, 1) := by decide +kernel
theorem dX0_takesAct_57 : decode cX0_takesAct 57 = .ok (.iconst 4, 1) := by decide +kernel
theorem dX0_takesAct_58 : decode cX0_takesAct 58 = .ok (.isub, 1) := by decide +kernel
theorem dX0_takesAct_59 : decode cX0_takesAct 59 = .ok (.iload_n 1, 1) := by decide +kernel
theorem dX0_takesAct_60 : decode cX0_takesAct 60 = .ok (.invokevirtual 68, 3) := by decide +kernel
theorem dX0_takesAct_63 : decode cX0_takesAct 63 = .ok (.ireturn, 1) := by decide +kernel
theorem dX0_takesAct_64 : decode cX0_takesAct 64 = .ok (.aload_n 0, 1) := by decide +kernel
theorem dX0_takesAct_65 : decode cX0_takesAct 65 = .ok (.iload_n 2, 1) := by decide +kernel
theorem dX0_takesAct_66 : decode cX0_takesAct 66 = .ok (.iload_n 1, 1) := by decide +kernel
theorem dX0_takesAct_67 : decode cX0_takesAct 67 = .ok (.invokevirtual 71, 3) := by decide +kernel
theorem dX0_takesAct_70 : decode cX0_takesAct 70 = .ok (.ireturn, 1) := by decide +kernel
theorem dX0_takesStove_0 : decode cX0_takesStove 0 = .ok (.aload_n 0, 1) := by decide +kernel
theorem dX0_takesStove_1 : decode cX0_takesStove 1 = .ok (.iload_n 1, 1) := by decide +kernel
theorem dX0_takesStove_2 : decode cX0_takesStove 2 = .ok (.invokevirtual 74, 3) := by decide +kernel
theorem dX0_takesStove_5 : decode cX0_takesStove 5 = .ok (.ifCond .ne 5, 3) := by decide +kernel
theorem dX0_takesStove_8 : decode cX0_takesStove 8 = .ok (.iconst 0, 1) := by decide +kernel
theorem dX0_takesStove_9 : decode cX0_takesStove 9 = .ok (.ireturn, 1) := by decide +kernel
theorem dX0_takesStove_10 : decode cX0_takesStove 10 = .ok (.aload_n 0, 1) := by decide +kernel
theorem dX0_takesStove_11 : decode cX0_takesStove 11 = .ok (.iload_n 1, 1) := by decide +kernel
theorem dX0_takesStove_12 : decode cX0_takesStove 12 = .ok (.iload_n 2, 1) := by decide +kernel
theorem dX0_takesStove_13 : decode cX0_takesStove 13 = .ok (.invokevirtual 43, 3) := by decide +kernel
theorem dX0_takesStove_16 : decode cX0_takesStove 16 = .ok (.iconst 1, 1) := by decide +kernel
theorem dX0_takesStove_17 : decode cX0_takesStove 17 = .ok (.ireturn, 1) := by decide +kernel
theorem dX0_takesFrost_0 : decode cX0_takesFrost 0 = .ok (.aload_n 0, 1) := by decide +kernel
theorem dX0_takesFrost_1 : decode cX0_takesFrost 1 = .ok (.iload_n 1, 1) := by decide +kernel
theorem dX0_takesFrost_2 : decode cX0_takesFrost 2 = .ok (.invokevirtual 74, 3) := by decide +kernel
theorem dX0_takesFrost_5 : decode cX0_takesFrost 5 = .ok (.ifCond .ne 5, 3) := by decide +kernel
theorem dX0_takesFrost_8 : decode cX0_takesFrost 8 = .ok (.iconst 0, 1) := by decide +kernel
theorem dX0_takesFrost_9 : decode cX0_takesFrost 9 = .ok (.ireturn, 1) := by decide +kernel
theorem dX0_takesFrost_10 : decode cX0_takesFrost 10 = .ok (.aload_n 0, 1) := by decide +kernel
theorem dX0_takesFrost_11 : decode cX0_takesFrost 11 = .ok (.getfield 15, 3) := by decide +kernel
theorem dX0_takesFrost_14 : decode cX0_takesFrost 14 = .ok (.iload_n 1, 1) := by decide +kernel
theorem dX0_takesFrost_15 : decode cX0_takesFrost 15 = .ok (.iload_n 2, 1) := by decide +kernel
theorem dX0_takesFrost_16 : decode cX0_takesFrost 16 = .ok (.iastore, 1) := by decide +kernel
theorem dX0_takesFrost_17 : decode cX0_takesFrost 17 = .ok (.iconst 1, 1) := by decide +kernel
theorem dX0_takesFrost_18 : decode cX0_takesFrost 18 = .ok (.ireturn, 1) := by decide +kernel
theorem dX0_takesCoat_0 : decode cX0_takesCoat 0 = .ok (.aload_n 0, 1) := by decide +kernel
theorem dX0_takesCoat_1 : decode cX0_takesCoat 1 = .ok (.iload_n 1, 1) := by decide +kernel
theorem dX0_takesCoat_2 : decode cX0_takesCoat 2 = .ok (.invokevirtual 77, 3) := by decide +kernel
theorem dX0_takesCoat_5 : decode cX0_takesCoat 5 = .ok (.ifCond .ne 5, 3) := by decide +kernel
theorem dX0_takesCoat_8 : decode cX0_takesCoat 8 = .ok (.iconst 0, 1) := by decide +kernel
theorem dX0_takesCoat_9 : decode cX0_takesCoat 9 = .ok (.ireturn, 1) := by decide +kernel
theorem dX0_takesCoat_10 : decode cX0_takesCoat 10 = .ok (.aload_n 0, 1) := by decide +kernel
theorem dX0_takesCoat_11 : decode cX0_takesCoat 11 = .ok (.getfield 22, 3) := by decide +kernel
theorem dX0_takesCoat_14 : decode cX0_takesCoat 14 = .ok (.iload_n 1, 1) := by decide +kernel
theorem dX0_takesCoat_15 : decode cX0_takesCoat 15 = .ok (.iload_n 2, 1) := by decide +kernel
theorem dX0_takesCoat_16 : decode cX0_takesCoat 16 = .ok (.iastore, 1) := by decide +kernel
theorem dX0_takesCoat_17 : decode cX0_takesCoat 17 = .ok (.iconst 1, 1) := by decide +kernel
theorem dX0_takesCoat_18 : decode cX0_takesCoat 18 = .ok (.ireturn, 1) := by decide +kernel
theorem dX0_warmth_0 : decode cX0_warmth 0 = .ok (.aload_n 0, 1) := by decide +kernel
theorem dX0_warmth_1 : decode cX0_warmth 1 = .ok (.getfield 19, 3) := by decide +kernel
theorem dX0_warmth_4 : decode cX0_warmth 4 = .ok (.iload_n 1, 1) := by decide +kernel
theorem dX0_warmth_5 : decode cX0_warmth 5 = .ok (.iaload, 1) := by decide +kernel
theorem dX0_warmth_6 : decode cX0_warmth 6 = .ok (.lookupswitch 44 #[(1, 35), (2, 26)], 26) := by decide +kernel
theorem dX0_warmth_32 : decode cX0_warmth 32 = .ok (.iconst 2, 1) := by decide +kernel
theorem dX0_warmth_33 : decode cX0_warmth 33 = .ok (.aload_n 0, 1) := by decide +kernel
theorem dX0_warmth_34 : decode cX0_warmth 34 = .ok (.getfield 22, 3) := by decide +kernel
theorem dX0_warmth_37 : decode cX0_warmth 37 = .ok (.iload_n 1, 1) := by decide +kernel
theorem dX0_warmth_38 : decode cX0_warmth 38 = .ok (.iaload, 1) := by decide +kernel
theorem dX0_warmth_39 : decode cX0_warmth 39 = .ok (.imul, 1) := by decide +kernel
theorem dX0_warmth_40 : decode cX0_warmth 40 = .ok (.ireturn, 1) := by decide +kernel
theorem dX0_warmth_41 : decode cX0_warmth 41 = .ok (.aload_n 0, 1) := by decide +kernel
theorem dX0_warmth_42 : decode cX0_warmth 42 = .ok (.getfield 22, 3) := by decide +kernel
theorem dX0_warmth_45 : decode cX0_warmth 45 = .ok (.iload_n 1, 1) := by decide +kernel
theorem dX0_warmth_46 : decode cX0_warmth 46 = .ok (.iaload, 1) := by decide +kernel
theorem dX0_warmth_47 : decode cX0_warmth 47 = .ok (.iconst 1, 1) := by decide +kernel
theorem dX0_warmth_48 : decode cX0_warmth 48 = .ok (.iadd, 1) := by decide +kernel
theorem dX0_warmth_49 : decode cX0_warmth 49 = .ok (.ireturn, 1) := by decide +kernel
theorem dX0_warmth_50 : decode cX0_warmth 50 = .ok (.aload_n 0, 1) := by decide +kernel
theorem dX0_warmth_51 : decode cX0_warmth 51 = .ok (.getfield 22, 3) := by decide +kernel
theorem dX0_warmth_54 : decode cX0_warmth 54 = .ok (.iload_n 1, 1) := by decide +kernel
theorem dX0_warmth_55 : decode cX0_warmth 55 = .ok (.iaload, 1) := by decide +kernel
theorem dX0_warmth_56 : decode cX0_warmth 56 = .ok (.ireturn, 1) := by decide +kernel
theorem dX0_chillOf_0 : decode cX0_chillOf 0 = .ok (.aload_n 0, 1) := by decide +kernel
theorem dX0_chillOf_1 : decode cX0_chillOf 1 = .ok (.getfield 9, 3) := by decide +kernel
theorem dX0_chillOf_4 : decode cX0_chillOf 4 = .ok (.iload_n 2, 1) := by decide +kernel
theorem dX0_chillOf_5 : decode cX0_chillOf 5 = .ok (.if_icmp .ne 10, 3) := by decide +kernel
theorem dX0_chillOf_8 : decode cX0_chillOf 8 = .ok (.aload_n 0, 1) := by decide +kernel
theorem dX0_chillOf_9 : decode cX0_chillOf 9 = .ok (.getfield 47, 3) := by decide +kernel
theorem dX0_chillOf_12 : decode cX0_chillOf 12 = .ok (.goto 4, 3) := by decide +kernel
theorem dX0_chillOf_15 : decode cX0_chillOf 15 = .ok (.iconst 0, 1) := by decide +kernel
theorem dX0_chillOf_16 : decode cX0_chillOf 16 = .ok (.istore_n 3, 1) := by decide +kernel
theorem dX0_chillOf_17 : decode cX0_chillOf 17 = .ok (.aload_n 0, 1) := by decide +kernel
theorem dX0_chillOf_18 : decode cX0_chillOf 18 = .ok (.getfield 15, 3) := by decide +kernel
theorem dX0_chillOf_21 : decode cX0_chillOf 21 = .ok (.iload_n 2, 1) := by decide +kernel
theorem dX0_chillOf_22 : decode cX0_chillOf 22 = .ok (.iaload, 1) := by decide +kernel
theorem dX0_chillOf_23 : decode cX0_chillOf 23 = .ok (.iload_n 3, 1) := by decide +kernel
theorem dX0_chillOf_24 : decode cX0_chillOf 24 = .ok (.isub, 1) := by decide +kernel
theorem dX0_chillOf_25 : decode cX0_chillOf 25 = .ok (.aload_n 0, 1) := by decide +kernel
theorem dX0_chillOf_26 : decode cX0_chillOf 26 = .ok (.iload_n 1, 1) := by decide +kernel
theorem dX0_chillOf_27 : decode cX0_chillOf 27 = .ok (.invokevirtual 80, 3) := by decide +kernel
theorem dX0_chillOf_30 : decode cX0_chillOf 30 = .ok (.isub, 1) := by decide +kernel
theorem dX0_chillOf_31 : decode cX0_chillOf 31 = .ok (.ireturn, 1) := by decide +kernel
theorem dX0_isCold_0 : decode cX0_isCold 0 = .ok (.aload_n 0, 1) := by decide +kernel
theorem dX0_isCold_1 : decode cX0_isCold 1 = .ok (.iload_n 1, 1) := by decide +kernel
theorem dX0_isCold_2 : decode cX0_isCold 2 = .ok (.iload_n 2, 1) := by decide +kernel
theorem dX0_isCold_3 : decode cX0_isCold 3 = .ok (.invokevirtual 84, 3) := by decide +kernel
theorem dX0_isCold_6 : decode cX0_isCold 6 = .ok (.ifCond .le 7, 3) := by decide +kernel
theorem dX0_isCold_9 : decode cX0_isCold 9 = .ok (.iconst 1, 1) := by decide +kernel
theorem dX0_isCold_10 : decode cX0_isCold 10 = .ok (.goto 4, 3) := by decide +kernel
theorem dX0_isCold_13 : decode cX0_isCold 13 = .ok (.iconst 0, 1) := by decide +kernel
theorem dX0_isCold_14 : decode cX0_isCold 14 = .ok (.ireturn, 1) := by decide +kernel
theorem dX0_binds_0 : decode cX0_binds 0 = .ok (.aload_n 0, 1) := by decide +kernel
theorem dX0_binds_1 : decode cX0_binds 1 = .ok (.aload_n 0, 1) := by decide +kernel
theorem dX0_binds_2 : decode cX0_binds 2 = .ok (.getfield 25, 3) := by decide +kernel
theorem dX0_binds_5 : decode cX0_binds 5 = .ok (.iload_n 1, 1) := by decide +kernel
theorem dX0_binds_6 : decode cX0_binds 6 = .ok (.iaload, 1) := by decide +kernel
theorem dX0_binds_7 : decode cX0_binds 7 = .ok (.aload_n 0, 1) := by decide +kernel
theorem dX0_binds_8 : decode cX0_binds 8 = .ok (.getfield 31, 3) := by decide +kernel
theorem dX0_binds_11 : decode cX0_binds 11 = .ok (.iload_n 1, 1) := by decide +kernel
theorem dX0_binds_12 : decode cX0_binds 12 = .ok (.iaload, 1) := by decide +kernel
theorem dX0_binds_13 : decode cX0_binds 13 = .ok (.invokevirtual 84, 3) := by decide +kernel
theorem dX0_binds_16 : decode cX0_binds 16 = .ok (.ifCond .le 7, 3) := by decide +kernel
theorem dX0_binds_19 : decode cX0_binds 19 = .ok (.iconst 1, 1) := by decide +kernel
theorem dX0_binds_20 : decode cX0_binds 20 = .ok (.goto 4, 3) := by decide +kernel
theorem dX0_binds_23 : decode cX0_binds 23 = .ok (.iconst 0, 1) := by decide +kernel
theorem dX0_binds_24 : decode cX0_binds 24 = .ok (.ireturn, 1) := by decide +kernel
theorem dX0_coldHours_0 : decode cX0_coldHours 0 = .ok (.iconst 0, 1) := by decide +kernel
theorem dX0_coldHours_1 : decode cX0_coldHours 1 = .ok (.istore_n 2, 1) := by decide +kernel
theorem dX0_coldHours_2 : decode cX0_coldHours 2 = .ok (.iconst 0, 1) := by decide +kernel
theorem dX0_coldHours_3 : decode cX0_coldHours 3 = .ok (.istore_n 3, 1) := by decide +kernel
theorem dX0_coldHours_4 : decode cX0_coldHours 4 = .ok (.iload_n 3, 1) := by decide +kernel
theorem dX0_coldHours_5 : decode cX0_coldHours 5 = .ok (.aload_n 0, 1) := by decide +kernel
theorem dX0_coldHours_6 : decode cX0_coldHours 6 = .ok (.getfield 34, 3) := by decide +kernel
theorem dX0_coldHours_9 : decode cX0_coldHours 9 = .ok (.if_icmp .ge 28, 3) := by decide +kernel
theorem dX0_coldHours_12 : decode cX0_coldHours 12 = .ok (.iload_n 2, 1) := by decide +kernel
theorem dX0_coldHours_13 : decode cX0_coldHours 13 = .ok (.aload_n 0, 1) := by decide +kernel
theorem dX0_coldHours_14 : decode cX0_coldHours 14 = .ok (.iload_n 1, 1) := by decide +kernel
theorem dX0_coldHours_15 : decode cX0_coldHours 15 = .ok (.iload_n 3, 1) := by decide +kernel
theorem dX0_coldHours_16 : decode cX0_coldHours 16 = .ok (.invokevirtual 88, 3) := by decide +kernel
theorem dX0_coldHours_19 : decode cX0_coldHours 19 = .ok (.ifCond .eq 9, 3) := by decide +kernel
theorem dX0_coldHours_22 : decode cX0_coldHours 22 = .ok (.iconst 1, 1) := by decide +kernel
theorem dX0_coldHours_23 : decode cX0_coldHours 23 = .ok (.iload_n 3, 1) := by decide +kernel
theorem dX0_coldHours_24 : decode cX0_coldHours 24 = .ok (.ishl, 1) := by decide +kernel
theorem dX0_coldHours_25 : decode cX0_coldHours 25 = .ok (.goto 4, 3) := by decide +kernel
theorem dX0_coldHours_28 : decode cX0_coldHours 28 = .ok (.iconst 0, 1) := by decide +kernel
theorem dX0_coldHours_29 : decode cX0_coldHours 29 = .ok (.ior, 1) := by decide +kernel
theorem dX0_coldHours_30 : decode cX0_coldHours 30 = .ok (.istore_n 2, 1) := by decide +kernel
theorem dX0_coldHours_31 : decode cX0_coldHours 31 = .ok (.iinc 3 1, 3) := by decide +kernel
theorem dX0_coldHours_34 : decode cX0_coldHours 34 = .ok (.goto (-30), 3) := by decide +kernel
theorem dX0_coldHours_37 : decode cX0_coldHours 37 = .ok (.iload_n 2, 1) := by decide +kernel
theorem dX0_coldHours_38 : decode cX0_coldHours 38 = .ok (.ireturn, 1) := by decide +kernel
theorem dX0_coldSwearers_0 : decode cX0_coldSwearers 0 = .ok (.iconst 0, 1) := by decide +kernel
theorem dX0_coldSwearers_1 : decode cX0_coldSwearers 1 = .ok (.istore_n 2, 1) := by decide +kernel
theorem dX0_coldSwearers_2 : decode cX0_coldSwearers 2 = .ok (.iconst 0, 1) := by decide +kernel
theorem dX0_coldSwearers_3 : decode cX0_coldSwearers 3 = .ok (.istore_n 3, 1) := by decide +kernel
theorem dX0_coldSwearers_4 : decode cX0_coldSwearers 4 = .ok (.iload_n 3, 1) := by decide +kernel
theorem dX0_coldSwearers_5 : decode cX0_coldSwearers 5 = .ok (.aload_n 0, 1) := by decide +kernel
theorem dX0_coldSwearers_6 : decode cX0_coldSwearers 6 = .ok (.getfield 37, 3) := by decide +kernel
theorem dX0_coldSwearers_9 : decode cX0_coldSwearers 9 = .ok (.if_icmp .ge 28, 3) := by decide +kernel
theorem dX0_coldSwearers_12 : decode cX0_coldSwearers 12 = .ok (.iload_n 2, 1) := by decide +kernel
theorem dX0_coldSwearers_13 : decode cX0_coldSwearers 13 = .ok (.aload_n 0, 1) := by decide +kernel
theorem dX0_coldSwearers_14 : decode cX0_coldSwearers 14 = .ok (.iload_n 3, 1) := by decide +kernel
theorem dX0_coldSwearers_15 : decode cX0_coldSwearers 15 = .ok (.iload_n 1, 1) := by decide +kernel
theorem dX0_coldSwearers_16 : decode cX0_coldSwearers 16 = .ok (.invokevirtual 88, 3) := by decide +kernel
theorem dX0_coldSwearers_19 : decode cX0_coldSwearers 19 = .ok (.ifCond .eq 9, 3) := by decide +kernel
theorem dX0_coldSwearers_22 : decode cX0_coldSwearers 22 = .ok (.iconst 1, 1) := by decide +kernel
theorem dX0_coldSwearers_23 : decode cX0_coldSwearers 23 = .ok (.iload_n 3, 1) := by decide +kernel
theorem dX0_coldSwearers_24 : decode cX0_coldSwearers 24 = .ok (.ishl, 1) := by decide +kernel
theorem dX0_coldSwearers_25 : decode cX0_coldSwearers 25 = .ok (.goto 4, 3) := by decide +kernel
theorem dX0_coldSwearers_28 : decode cX0_coldSwearers 28 = .ok (.iconst 0, 1) := by decide +kernel
theorem dX0_coldSwearers_29 : decode cX0_coldSwearers 29 = .ok (.ior, 1) := by decide +kernel
theorem dX0_coldSwearers_30 : decode cX0_coldSwearers 30 = .ok (.istore_n 2, 1) := by decide +kernel
theorem dX0_coldSwearers_31 : decode cX0_coldSwearers 31 = .ok (.iinc 3 1, 3) := by decide +kernel
theorem dX0_coldSwearers_34 : decode cX0_coldSwearers 34 = .ok (.goto (-30), 3) := by decide +kernel
theorem dX0_coldSwearers_37 : decode cX0_coldSwearers 37 = .ok (.iload_n 2, 1) := by decide +kernel
theorem dX0_coldSwearers_38 : decode cX0_coldSwearers 38 = .ok (.ireturn, 1) := by decide +kernel
theorem dX0_timesCold_0 : decode cX0_timesCold 0 = .ok (.iconst 0, 1) := by decide +kernel
theorem dX0_timesCold_1 : decode cX0_timesCold 1 = .ok (.istore_n 1, 1) := by decide +kernel
theorem dX0_timesCold_2 : decode cX0_timesCold 2 = .ok (.iconst 0, 1) := by decide +kernel
theorem dX0_timesCold_3 : decode cX0_timesCold 3 = .ok (.istore_n 2, 1) := by decide +kernel
theorem dX0_timesCold_4 : decode cX0_timesCold 4 = .ok (.iload_n 2, 1) := by decide +kernel
theorem dX0_timesCold_5 : decode cX0_timesCold 5 = .ok (.aload_n 0, 1) := by decide +kernel
theorem dX0_timesCold_6 : decode cX0_timesCold 6 = .ok (.getfield 37, 3) := by decide +kernel
theorem dX0_timesCold_9 : decode cX0_timesCold 9 = .ok (.if_icmp .ge 20, 3) := by decide +kernel
theorem dX0_timesCold_12 : decode cX0_timesCold 12 = .ok (.iload_n 1, 1) := by decide +kernel
theorem dX0_timesCold_13 : decode cX0_timesCold 13 = .ok (.aload_n 0, 1) := by decide +kernel
theorem dX0_timesCold_14 : decode cX0_timesCold 14 = .ok (.iload_n 2, 1) := by decide +kernel
theorem dX0_timesCold_15 : decode cX0_timesCold 15 = .ok (.invokevirtual 91, 3) := by decide +kernel
theorem dX0_timesCold_18 : decode cX0_timesCold 18 = .ok (.invokestatic 94, 3) := by decide +kernel
theorem dX0_timesCold_21 : decode cX0_timesCold 21 = .ok (.iadd, 1) := by decide +kernel
theorem dX0_timesCold_22 : decode cX0_timesCold 22 = .ok (.istore_n 1, 1) := by decide +kernel
theorem dX0_timesCold_23 : decode cX0_timesCold 23 = .ok (.iinc 2 1, 3) := by decide +kernel
theorem dX0_timesCold_26 : decode cX0_timesCold 26 = .ok (.goto (-22), 3) := by decide +kernel
theorem dX0_timesCold_29 : decode cX0_timesCold 29 = .ok (.iload_n 1, 1) := by decide +kernel
theorem dX0_timesCold_30 : decode cX0_timesCold 30 = .ok (.ireturn, 1) := by decide +kernel
theorem dX0_allOaths_0 : decode cX0_allOaths 0 = .ok (.iconst 1, 1) := by decide +kernel
theorem dX0_allOaths_1 : decode cX0_allOaths 1 = .ok (.aload_n 0, 1) := by decide +kernel
theorem dX0_allOaths_2 : decode cX0_allOaths 2 = .ok (.getfield 40, 3) := by decide +kernel
theorem dX0_allOaths_5 : decode cX0_allOaths 5 = .ok (.ishl, 1) := by decide +kernel
theorem dX0_allOaths_6 : decode cX0_allOaths 6 = .ok (.iconst 1, 1) := by decide +kernel
theorem dX0_allOaths_7 : decode cX0_allOaths 7 = .ok (.isub, 1) := by decide +kernel
theorem dX0_allOaths_8 : decode cX0_allOaths 8 = .ok (.ireturn, 1) := by decide +kernel
theorem dX0_oathsBy_0 : decode cX0_oathsBy 0 = .ok (.iconst 0, 1) := by decide +kernel
theorem dX0_oathsBy_1 : decode cX0_oathsBy 1 = .ok (.istore_n 2, 1) := by decide +kernel
theorem dX0_oathsBy_2 : decode cX0_oathsBy 2 = .ok (.iconst 0, 1) := by decide +kernel
theorem dX0_oathsBy_3 : decode cX0_oathsBy 3 = .ok (.istore_n 3, 1) := by decide +kernel
theorem dX0_oathsBy_4 : decode cX0_oathsBy 4 = .ok (.iload_n 3, 1) := by decide +kernel
theorem dX0_oathsBy_5 : decode cX0_oathsBy 5 = .ok (.aload_n 0, 1) := by decide +kernel
theorem dX0_oathsBy_6 : decode cX0_oathsBy 6 = .ok (.getfield 40, 3) := by decide +kernel
theorem dX0_oathsBy_9 : decode cX0_oathsBy 9 = .ok (.if_icmp .ge 29, 3) := by decide +kernel
theorem dX0_oathsBy_12 : decode cX0_oathsBy 12 = .ok (.iload_n 2, 1) := by decide +kernel
theorem dX0_oathsBy_13 : decode cX0_oathsBy 13 = .ok (.aload_n 0, 1) := by decide +kernel
theorem dX0_oathsBy_14 : decode cX0_oathsBy 14 = .ok (.getfield 25, 3) := by decide +kernel
theorem dX0_oathsBy_17 : decode cX0_oathsBy 17 = .ok (.iload_n 3, 1) := by decide +kernel
theorem dX0_oathsBy_18 : decode cX0_oathsBy 18 = .ok (.iaload, 1) := by decide +kernel
theorem dX0_oathsBy_19 : decode cX0_oathsBy 19 = .ok (.iload_n 1, 1) := by decide +kernel
theorem dX0_oathsBy_20 : decode cX0_oathsBy 20 = .ok (.if_icmp .ne 9, 3) := by decide +kernel
theorem dX0_oathsBy_23 : decode cX0_oathsBy 23 = .ok (.iconst 1, 1) := by decide +kernel
theorem dX0_oathsBy_24 : decode cX0_oathsBy 24 = .ok (.iload_n 3, 1) := by decide +kernel
theorem dX0_oathsBy_25 : decode cX0_oathsBy 25 = .ok (.ishl, 1) := by decide +kernel
theorem dX0_oathsBy_26 : decode cX0_oathsBy 26 = .ok (.goto 4, 3) := by decide +kernel
theorem dX0_oathsBy_29 : decode cX0_oathsBy 29 = .ok (.iconst 0, 1) := by decide +kernel
theorem dX0_oathsBy_30 : decode cX0_oathsBy 30 = .ok (.ior, 1) := by decide +kernel
theorem dX0_oathsBy_31 : decode cX0_oathsBy 31 = .ok (.istore_n 2, 1) := by decide +kernel
theorem dX0_oathsBy_32 : decode cX0_oathsBy 32 = .ok (.iinc 3 1, 3) := by decide +kernel
theorem dX0_oathsBy_35 : decode cX0_oathsBy 35 = .ok (.goto (-31), 3) := by decide +kernel
theorem dX0_oathsBy_38 : decode cX0_oathsBy 38 = .ok (.iload_n 2, 1) := by decide +kernel
theorem dX0_oathsBy_39 : decode cX0_oathsBy 39 = .ok (.ireturn, 1) := by decide +kernel
theorem dX0_bindingOaths_0 : decode cX0_bindingOaths 0 = .ok (.iconst 0, 1) := by decide +kernel
theorem dX0_bindingOaths_1 : decode cX0_bindingOaths 1 = .ok (.istore_n 1, 1) := by decide +kernel
theorem dX0_bindingOaths_2 : decode cX0_bindingOaths 2 = .ok (.iconst 0, 1) := by decide +kernel
theorem dX0_bindingOaths_3 : decode cX0_bindingOaths 3 = .ok (.istore_n 2, 1) := by decide +kernel
theorem dX0_bindingOaths_4 : decode cX0_bindingOaths 4 = .ok (.iload_n 2, 1) := by decide +kernel
theorem dX0_bindingOaths_5 : decode cX0_bindingOaths 5 = .ok (.aload_n 0, 1) := by decide +kernel
theorem dX0_bindingOaths_6 : decode cX0_bindingOaths 6 = .ok (.getfield 40, 3) := by decide +kernel
theorem dX0_bindingOaths_9 : decode cX0_bindingOaths 9 = .ok (.if_icmp .ge 27, 3) := by decide +kernel
theorem dX0_bindingOaths_12 : decode cX0_bindingOaths 12 = .ok (.iload_n 1, 1) := by decide +kernel
theorem dX0_bindingOaths_13 : decode cX0_bindingOaths 13 = .ok (.aload_n 0, 1) := by decide +kernel
theorem dX0_bindingOaths_14 : decode cX0_bindingOaths 14 = .ok (.iload_n 2, 1) := by decide +kernel
theorem dX0_bindingOaths_15 : decode cX0_bindingOaths 15 = .ok (.invokevirtual 99, 3) := by decide +kernel
theorem dX0_bindingOaths_18 : decode cX0_bindingOaths 18 = .ok (.ifCond .eq 9, 3) := by decide +kernel
theorem dX0_bindingOaths_21 : decode cX0_bindingOaths 21 = .ok (.iconst 1, 1) := by decide +kernel
theorem dX0_bindingOaths_22 : decode cX0_bindingOaths 22 = .ok (.iload_n 2, 1) := by decide +kernel
theorem dX0_bindingOaths_23 : decode cX0_bindingOaths 23 = .ok (.ishl, 1) := by decide +kernel
theorem dX0_bindingOaths_24 : decode cX0_bindingOaths 24 = .ok (.goto 4, 3) := by decide +kernel
theorem dX0_bindingOaths_27 : decode cX0_bindingOaths 27 = .ok (.iconst 0, 1) := by decide +kernel
theorem dX0_bindingOaths_28 : decode cX0_bindingOaths 28 = .ok (.ior, 1) := by decide +kernel
theorem dX0_bindingOaths_29 : decode cX0_bindingOaths 29 = .ok (.istore_n 1, 1) := by decide +kernel
theorem dX0_bindingOaths_30 : decode cX0_bindingOaths 30 = .ok (.iinc 2 1, 3) := by decide +kernel
theorem dX0_bindingOaths_33 : decode cX0_bindingOaths 33 = .ok (.goto (-29), 3) := by decide +kernel
theorem dX0_bindingOaths_36 : decode cX0_bindingOaths 36 = .ok (.iload_n 1, 1) := by decide +kernel
theorem dX0_bindingOaths_37 : decode cX0_bindingOaths 37 = .ok (.ireturn, 1) := by decide +kernel
theorem dX0_leastRow_0 : decode cX0_leastRow 0 = .ok (.aload_n 0, 1) := by decide +kernel
theorem dX0_leastRow_1 : decode cX0_leastRow 1 = .ok (.invokevirtual 102, 3) := by decide +kernel
theorem dX0_leastRow_4 : decode cX0_leastRow 4 = .ok (.istore_n 3, 1) := by decide +kernel
theorem dX0_leastRow_5 : decode cX0_leastRow 5 = .ok (.iconst 1, 1) := by decide +kernel
theorem dX0_leastRow_6 : decode cX0_leastRow 6 = .ok (.iload_n 1, 1) := by decide +kernel
theorem dX0_leastRow_7 : decode cX0_leastRow 7 = .ok (.ishl, 1) := by decide +kernel
theorem dX0_leastRow_8 : decode cX0_leastRow 8 = .ok (.istore 4, 2) := by decide +kernel
theorem dX0_leastRow_10 : decode cX0_leastRow 10 = .ok (.iconst 1, 1) := by decide +kernel
theorem dX0_leastRow_11 : decode cX0_leastRow 11 = .ok (.istore 5, 2) := by decide +kernel
theorem dX0_leastRow_13 : decode cX0_leastRow 13 = .ok (.iload 5, 2) := by decide +kernel
theorem dX0_leastRow_15 : decode cX0_leastRow 15 = .ok (.aload_n 0, 1) := by decide +kernel
theorem dX0_leastRow_16 : decode cX0_leastRow 16 = .ok (.getfield 37, 3) := by decide +kernel
theorem dX0_leastRow_19 : decode cX0_leastRow 19 = .ok (.if_icmp .gt 30, 3) := by decide +kernel
theorem dX0_leastRow_22 : decode cX0_leastRow 22 = .ok (.aload_n 0, 1) := by decide +kernel
theorem dX0_leastRow_23 : decode cX0_leastRow 23 = .ok (.iload 4, 2) := by decide +kernel
theorem dX0_leastRow_25 : decode cX0_leastRow 25 = .ok (.iload_n 3, 1) := by decide +kernel
theorem dX0_leastRow_26 : decode cX0_leastRow 26 = .ok (.invokevirtual 106, 3) := by decide +kernel
theorem dX0_leastRow_29 : decode cX0_leastRow 29 = .ok (.istore 4, 2) := by decide +kernel
theorem dX0_leastRow_31 : decode cX0_leastRow 31 = .ok (.iload 4, 2) := by decide +kernel
theorem dX0_leastRow_33 : decode cX0_leastRow 33 = .ok (.iload_n 2, 1) := by decide +kernel
theorem dX0_leastRow_34 : decode cX0_leastRow 34 = .ok (.invokestatic 109, 3) := by decide +kernel
theorem dX0_leastRow_37 : decode cX0_leastRow 37 = .ok (.ifCond .eq 6, 3) := by decide +kernel
theorem dX0_leastRow_40 : decode cX0_leastRow 40 = .ok (.iload 5, 2) := by decide +kernel
theorem dX0_leastRow_42 : decode cX0_leastRow 42 = .ok (.ireturn, 1) := by decide +kernel
theorem dX0_leastRow_43 : decode cX0_leastRow 43 = .ok (.iinc 5 1, 3) := by decide +kernel
theorem dX0_leastRow_46 : decode cX0_leastRow 46 = .ok (.goto (-33), 3) := by decide +kernel
theorem dX0_leastRow_49 : decode cX0_leastRow 49 = .ok (.bipush (-9), 2) := by decide +kernel
theorem dX0_leastRow_51 : decode cX0_leastRow 51 = .ok (.ireturn, 1) := by decide +kernel
theorem dX0_swornToBy_0 : decode cX0_swornToBy 0 = .ok (.iconst 0, 1) := by decide +kernel
theorem dX0_swornToBy_1 : decode cX0_swornToBy 1 = .ok (.istore_n 3, 1) := by decide +kernel
theorem dX0_swornToBy_2 : decode cX0_swornToBy 2 = .ok (.iconst 0, 1) := by decide +kernel
theorem dX0_swornToBy_3 : decode cX0_swornToBy 3 = .ok (.istore 4, 2) := by decide +kernel
theorem dX0_swornToBy_5 : decode cX0_swornToBy 5 = .ok (.iload 4, 2) := by decide +kernel
theorem dX0_swornToBy_7 : decode cX0_swornToBy 7 = .ok (.aload_n 0, 1) := by decide +kernel
theorem dX0_swornToBy_8 : decode cX0_swornToBy 8 = .ok (.getfield 40, 3) := by decide +kernel
theorem dX0_swornToBy_11 : decode cX0_swornToBy 11 = .ok (.if_icmp .ge 44, 3) := by decide +kernel
theorem dX0_swornToBy_14 : decode cX0_swornToBy 14 = .ok (.iload_n 2, 1) := by decide +kernel
theorem dX0_swornToBy_15 : decode cX0_swornToBy 15 = .ok (.iload 4, 2) := by decide +kernel
theorem dX0_swornToBy_17 : decode cX0_swornToBy 17 = .ok (.invokestatic 109, 3) := by decide +kernel
theorem dX0_swornToBy_20 : decode cX0_swornToBy 20 = .ok (.ifCond .eq 29, 3) := by decide +kernel
theorem dX0_swornToBy_23 : decode cX0_swornToBy 23 = .ok (.iload_n 1, 1) := by decide +kernel
theorem dX0_swornToBy_24 : decode cX0_swornToBy 24 = .ok (.aload_n 0, 1) := by decide +kernel
theorem dX0_swornToBy_25 : decode cX0_swornToBy 25 = .ok (.getfield 25, 3) := by decide +kernel
theorem dX0_swornToBy_28 : decode cX0_swornToBy 28 = .ok (.iload 4, 2) := by decide +kernel
theorem dX0_swornToBy_30 : decode cX0_swornToBy 30 = .ok (.iaload, 1) := by decide +kernel
theorem dX0_swornToBy_31 : decode cX0_swornToBy 31 = .ok (.invokestatic 109, 3) := by decide +kernel
theorem dX0_swornToBy_34 : decode cX0_swornToBy 34 = .ok (.ifCond .eq 15, 3) := by decide +kernel
theorem dX0_swornToBy_37 : decode cX0_swornToBy 37 = .ok (.iload_n 3, 1) := by decide +kernel
theorem dX0_swornToBy_38 : decode cX0_swornToBy 38 = .ok (.iconst 1, 1) := by decide +kernel
theorem dX0_swornToBy_39 : decode cX0_swornToBy 39 = .ok (.aload_n 0, 1) := by decide +kernel
theorem dX0_swornToBy_40 : decode cX0_swornToBy 40 = .ok (.getfield 28, 3) := by decide +kernel
theorem dX0_swornToBy_43 : decode cX0_swornToBy 43 = .ok (.iload 4, 2) := by decide +kernel
theorem dX0_swornToBy_45 : decode cX0_swornToBy 45 = .ok (.iaload, 1) := by decide +kernel
theorem dX0_swornToBy_46 : decode cX0_swornToBy 46 = .ok (.ishl, 1) := by decide +kernel
theorem dX0_swornToBy_47 : decode cX0_swornToBy 47 = .ok (.ior, 1) := by decide +kernel
theorem dX0_swornToBy_48 : decode cX0_swornToBy 48 = .ok (.istore_n 3, 1) := by decide +kernel
theorem dX0_swornToBy_49 : decode cX0_swornToBy 49 = .ok (.iinc 4 1, 3) := by decide +kernel
theorem dX0_swornToBy_52 : decode cX0_swornToBy 52 = .ok (.goto (-47), 3) := by decide +kernel
theorem dX0_swornToBy_55 : decode cX0_swornToBy 55 = .ok (.iload_n 3, 1) := by decide +kernel
theorem dX0_swornToBy_56 : decode cX0_swornToBy 56 = .ok (.ireturn, 1) := by decide +kernel
theorem dX0_leastToLetGo_0 : decode cX0_leastToLetGo 0 = .ok (.aload_n 0, 1) := by decide +kernel
theorem dX0_leastToLetGo_1 : decode cX0_leastToLetGo 1 = .ok (.invokevirtual 102, 3) := by decide +kernel
theorem dX0_leastToLetGo_4 : decode cX0_leastToLetGo 4 = .ok (.istore_n 1, 1) := by decide +kernel
theorem dX0_leastToLetGo_5 : decode cX0_leastToLetGo 5 = .ok (.iload_n 1, 1) := by decide +kernel
theorem dX0_leastToLetGo_6 : decode cX0_leastToLetGo 6 = .ok (.istore_n 2, 1) := by decide +kernel
theorem dX0_leastToLetGo_7 : decode cX0_leastToLetGo 7 = .ok (.iconst 0, 1) := by decide +kernel
theorem dX0_leastToLetGo_8 : decode cX0_leastToLetGo 8 = .ok (.istore_n 3, 1) := by decide +kernel
theorem dX0_leastToLetGo_9 : decode cX0_leastToLetGo 9 = .ok (.iload_n 3, 1) := by decide +kernel
theorem dX0_leastToLetGo_10 : decode cX0_leastToLetGo 10 = .ok (.iconst 1, 1) := by decide +kernel
theorem dX0_leastToLetGo_11 : decode cX0_leastToLetGo 11 = .ok (.aload_n 0, 1) := by decide +kernel
theorem dX0_leastToLetGo_12 : decode cX0_leastToLetGo 12 = .ok (.getfield 40, 3) := by decide +kernel
theorem dX0_leastToLetGo_15 : decode cX0_leastToLetGo 15 = .ok (.ishl, 1) := by decide +kernel
theorem dX0_leastToLetGo_16 : decode cX0_leastToLetGo 16 = .ok (.if_icmp .ge 54, 3) := by decide +kernel
theorem dX0_leastToLetGo_19 : decode cX0_leastToLetGo 19 = .ok (.iload_n 3, 1) := by decide +kernel
theorem dX0_leastToLetGo_20 : decode cX0_leastToLetGo 20 = .ok (.invokestatic 94, 3) := by decide +kernel
theorem dX0_leastToLetGo_23 : decode cX0_leastToLetGo 23 = .ok (.iload_n 2, 1) := by decide +kernel
theorem dX0_leastToLetGo_24 : decode cX0_leastToLetGo 24 = .ok (.invokestatic 94, 3) := by decide +kernel
theorem dX0_leastToLetGo_27 : decode cX0_leastToLetGo 27 = .ok (.if_icmp .ge 7, 3) := by decide +kernel
theorem dX0_leastToLetGo_30 : decode cX0_leastToLetGo 30 = .ok (.iconst 1, 1) := by decide +kernel
theorem dX0_leastToLetGo_31 : decode cX0_leastToLetGo 31 = .ok (.goto 4, 3) := by decide +kernel
theorem dX0_leastToLetGo_34 : decode cX0_leastToLetGo 34 = .ok (.iconst 0, 1) := by decide +kernel
theorem dX0_leastToLetGo_35 : decode cX0_leastToLetGo 35 = .ok (.istore 4, 2) := by decide +kernel
theorem dX0_leastToLetGo_37 : decode cX0_leastToLetGo 37 = .ok (.iload 4, 2) := by decide +kernel
theorem dX0_leastToLetGo_39 : decode cX0_leastToLetGo 39 = .ok (.ifCond .eq 25, 3) := by decide +kernel
theorem dX0_leastToLetGo_42 : decode cX0_leastToLetGo 42 = .ok (.iload_n 3, 1) := by decide +kernel
theorem dX0_leastToLetGo_43 : decode cX0_leastToLetGo 43 = .ok (.iload_n 1, 1) := by decide +kernel
theorem dX0_leastToLetGo_44 : decode cX0_leastToLetGo 44 = .ok (.iconst (-1), 1) := by decide +kernel
theorem dX0_leastToLetGo_45 : decode cX0_leastToLetGo 45 = .ok (.ixor, 1) := by decide +kernel
theorem dX0_leastToLetGo_46 : decode cX0_leastToLetGo 46 = .ok (.iand, 1) := by decide +kernel
theorem dX0_leastToLetGo_47 : decode cX0_leastToLetGo 47 = .ok (.ifCond .ne 17, 3) := by decide +kernel
theorem dX0_leastToLetGo_50 : decode cX0_leastToLetGo 50 = .ok (.aload_n 0, 1) := by decide +kernel
theorem dX0_leastToLetGo_51 : decode cX0_leastToLetGo 51 = .ok (.iload_n 1, 1) := by decide +kernel
theorem dX0_leastToLetGo_52 : decode cX0_leastToLetGo 52 = .ok (.iload_n 3, 1) := by decide +kernel
theorem dX0_leastToLetGo_53 : decode cX0_leastToLetGo 53 = .ok (.iconst (-1), 1) := by decide +kernel
theorem dX0_leastToLetGo_54 : decode cX0_leastToLetGo 54 = .ok (.ixor, 1) := by decide +kernel
theorem dX0_leastToLetGo_55 : decode cX0_leastToLetGo 55 = .ok (.iand, 1) := by decide +kernel
theorem dX0_leastToLetGo_56 : decode cX0_leastToLetGo 56 = .ok (.invokevirtual 112, 3) := by decide +kernel
theorem dX0_leastToLetGo_59 : decode cX0_leastToLetGo 59 = .ok (.ifCond .ne 5, 3) := by decide +kernel
theorem dX0_leastToLetGo_62 : decode cX0_leastToLetGo 62 = .ok (.iload_n 3, 1) := by decide +kernel
theorem dX0_leastToLetGo_63 : decode cX0_leastToLetGo 63 = .ok (.istore_n 2, 1) := by decide +kernel
theorem dX0_leastToLetGo_64 : decode cX0_leastToLetGo 64 = .ok (.iinc 3 1, 3) := by decide +kernel
theorem dX0_leastToLetGo_67 : decode cX0_leastToLetGo 67 = .ok (.goto (-58), 3) := by decide +kernel
theorem dX0_leastToLetGo_70 : decode cX0_leastToLetGo 70 = .ok (.iload_n 2, 1) := by decide +kernel
theorem dX0_leastToLetGo_71 : decode cX0_leastToLetGo 71 = .ok (.ireturn, 1) := by decide +kernel
theorem dX0_hasRing_0 : decode cX0_hasRing 0 = .ok (.iconst 1, 1) := by decide +kernel
theorem dX0_hasRing_1 : decode cX0_hasRing 1 = .ok (.aload_n 0, 1) := by decide +kernel
theorem dX0_hasRing_2 : decode cX0_hasRing 2 = .ok (.getfield 37, 3) := by decide +kernel
theorem dX0_hasRing_5 : decode cX0_hasRing 5 = .ok (.ishl, 1) := by decide +kernel
theorem dX0_hasRing_6 : decode cX0_hasRing 6 = .ok (.iconst 1, 1) := by decide +kernel
theorem dX0_hasRing_7 : decode cX0_hasRing 7 = .ok (.isub, 1) := by decide +kernel
theorem dX0_hasRing_8 : decode cX0_hasRing 8 = .ok (.istore_n 2, 1) := by decide +kernel
theorem dX0_hasRing_9 : decode cX0_hasRing 9 = .ok (.iconst 0, 1) := by decide +kernel
theorem dX0_hasRing_10 : decode cX0_hasRing 10 = .ok (.istore_n 3, 1) := by decide +kernel
theorem dX0_hasRing_11 : decode cX0_hasRing 11 = .ok (.iload_n 3, 1) := by decide +kernel
theorem dX0_hasRing_12 : decode cX0_hasRing 12 = .ok (.aload_n 0, 1) := by decide +kernel
theorem dX0_hasRing_13 : decode cX0_hasRing 13 = .ok (.getfield 37, 3) := by decide +kernel
theorem dX0_hasRing_16 : decode cX0_hasRing 16 = .ok (.if_icmp .ge 16, 3) := by decide +kernel
theorem dX0_hasRing_19 : decode cX0_hasRing 19 = .ok (.aload_n 0, 1) := by decide +kernel
theorem dX0_hasRing_20 : decode cX0_hasRing 20 = .ok (.iload_n 2, 1) := by decide +kernel
theorem dX0_hasRing_21 : decode cX0_hasRing 21 = .ok (.iload_n 1, 1) := by decide +kernel
theorem dX0_hasRing_22 : decode cX0_hasRing 22 = .ok (.invokevirtual 115, 3) := by decide +kernel
theorem dX0_hasRing_25 : decode cX0_hasRing 25 = .ok (.istore_n 2, 1) := by decide +kernel
theorem dX0_hasRing_26 : decode cX0_hasRing 26 = .ok (.iinc 3 1, 3) := by decide +kernel
theorem dX0_hasRing_29 : decode cX0_hasRing 29 = .ok (.goto (-18), 3) := by decide +kernel
theorem dX0_hasRing_32 : decode cX0_hasRing 32 = .ok (.iload_n 2, 1) := by decide +kernel
theorem dX0_hasRing_33 : decode cX0_hasRing 33 = .ok (.ifCond .eq 7, 3) := by decide +kernel
theorem dX0_hasRing_36 : decode cX0_hasRing 36 = .ok (.iconst 1, 1) := by decide +kernel
theorem dX0_hasRing_37 : decode cX0_hasRing 37 = .ok (.goto 4, 3) := by decide +kernel
theorem dX0_hasRing_40 : decode cX0_hasRing 40 = .ok (.iconst 0, 1) := by decide +kernel
theorem dX0_hasRing_41 : decode cX0_hasRing 41 = .ok (.ireturn, 1) := by decide +kernel
theorem dX0_swearingWithin_0 : decode cX0_swearingWithin 0 = .ok (.iconst 0, 1) := by decide +kernel
theorem dX0_swearingWithin_1 : decode cX0_swearingWithin 1 = .ok (.istore_n 3, 1) := by decide +kernel
theorem dX0_swearingWithin_2 : decode cX0_swearingWithin 2 = .ok (.iconst 0, 1) := by decide +kernel
theorem dX0_swearingWithin_3 : decode cX0_swearingWithin 3 = .ok (.istore 4, 2) := by decide +kernel
theorem dX0_swearingWithin_5 : decode cX0_swearingWithin 5 = .ok (.iload 4, 2) := by decide +kernel
theorem dX0_swearingWithin_7 : decode cX0_swearingWithin 7 = .ok (.aload_n 0, 1) := by decide +kernel
theorem dX0_swearingWithin_8 : decode cX0_swearingWithin 8 = .ok (.getfield 40, 3) := by decide +kernel
theorem dX0_swearingWithin_11 : decode cX0_swearingWithin 11 = .ok (.if_icmp .ge 58, 3) := by decide +kernel
theorem dX0_swearingWithin_14 : decode cX0_swearingWithin 14 = .ok (.iload_n 2, 1) := by decide +kernel
theorem dX0_swearingWithin_15 : decode cX0_swearingWithin 15 = .ok (.iload 4, 2) := by decide +kernel
theorem dX0_swearingWithin_17 : decode cX0_swearingWithin 17 = .ok (.invokestatic 109, 3) := by decide +kernel
theorem dX0_swearingWithin_20 : decode cX0_swearingWithin 20 = .ok (.ifCond .eq 43, 3) := by decide +kernel
theorem dX0_swearingWithin_23 : decode cX0_swearingWithin 23 = .ok (.iload_n 1, 1) := by decide +kernel
theorem dX0_swearingWithin_24 : decode cX0_swearingWithin 24 = .ok (.aload_n 0, 1) := by decide +kernel
theorem dX0_swearingWithin_25 : decode cX0_swearingWithin 25 = .ok (.getfield 25, 3) := by decide +kernel
theorem dX0_swearingWithin_28 : decode cX0_swearingWithin 28 = .ok (.iload 4, 2) := by decide +kernel
theorem dX0_swearingWithin_30 : decode cX0_swearingWithin 30 = .ok (.iaload, 1) := by decide +kernel
theorem dX0_swearingWithin_31 : decode cX0_swearingWithin 31 = .ok (.invokestatic 109, 3) := by decide +kernel
theorem dX0_swearingWithin_34 : decode cX0_swearingWithin 34 = .ok (.ifCond .eq 29, 3) := by decide +kernel
theorem dX0_swearingWithin_37 : decode cX0_swearingWithin 37 = .ok (.iload_n 1, 1) := by decide +kernel
theorem dX0_swearingWithin_38 : decode cX0_swearingWithin 38 = .ok (.aload_n 0, 1) := by decide +kernel
theorem dX0_swearingWithin_39 : decode cX0_swearingWithin 39 = .ok (.getfield 28, 3) := by decide +kernel
theorem dX0_swearingWithin_42 : decode cX0_swearingWithin 42 = .ok (.iload 4, 2) := by decide +kernel
theorem dX0_swearingWithin_44 : decode cX0_swearingWithin 44 = .ok (.iaload, 1) := by decide +kernel
theorem dX0_swearingWithin_45 : decode cX0_swearingWithin 45 = .ok (.invokestatic 109, 3) := by decide +kernel
theorem dX0_swearingWithin_48 : decode cX0_swearingWithin 48 = .ok (.ifCond .eq 15, 3) := by decide +kernel
theorem dX0_swearingWithin_51 : decode cX0_swearingWithin 51 = .ok (.iload_n 3, 1) := by decide +kernel
theorem dX0_swearingWithin_52 : decode cX0_swearingWithin 52 = .ok (.iconst 1, 1) := by decide +kernel
theorem dX0_swearingWithin_53 : decode cX0_swearingWithin 53 = .ok (.aload_n 0, 1) := by decide +kernel
theorem dX0_swearingWithin_54 : decode cX0_swearingWithin 54 = .ok (.getfield 25, 3) := by decide +kernel
theorem dX0_swearingWithin_57 : decode cX0_swearingWithin 57 = .ok (.iload 4, 2) := by decide +kernel
theorem dX0_swearingWithin_59 : decode cX0_swearingWithin 59 = .ok (.iaload, 1) := by decide +kernel
theorem dX0_swearingWithin_60 : decode cX0_swearingWithin 60 = .ok (.ishl, 1) := by decide +kernel
theorem dX0_swearingWithin_61 : decode cX0_swearingWithin 61 = .ok (.ior, 1) := by decide +kernel
theorem dX0_swearingWithin_62 : decode cX0_swearingWithin 62 = .ok (.istore_n 3, 1) := by decide +kernel
theorem dX0_swearingWithin_63 : decode cX0_swearingWithin 63 = .ok (.iinc 4 1, 3) := by decide +kernel
theorem dX0_swearingWithin_66 : decode cX0_swearingWithin 66 = .ok (.goto (-61), 3) := by decide +kernel
theorem dX0_swearingWithin_69 : decode cX0_swearingWithin 69 = .ok (.iload_n 3, 1) := by decide +kernel
theorem dX0_swearingWithin_70 : decode cX0_swearingWithin 70 = .ok (.ireturn, 1) := by decide +kernel
theorem dX1_init_0 : decode cX1_init 0 = .ok (.aload_n 0, 1) := by decide +kernel
theorem dX1_init_1 : decode cX1_init 1 = .ok (.invokespecial 3, 3) := by decide +kernel
theorem dX1_init_4 : decode cX1_init 4 = .ok (.return_, 1) := by decide +kernel
theorem dX1_open_0 : decode cX1_open 0 = .ok (.aload_n 0, 1) := by decide +kernel
theorem dX1_open_1 : decode cX1_open 1 = .ok (.aload_n 1, 1) := by decide +kernel
theorem dX1_open_2 : decode cX1_open 2 = .ok (.putfield 9, 3) := by decide +kernel
theorem dX1_open_5 : decode cX1_open 5 = .ok (.aload_n 0, 1) := by decide +kernel
theorem dX1_open_6 : decode cX1_open 6 = .ok (.iload_n 2, 1) := by decide +kernel
theorem dX1_open_7 : decode cX1_open 7 = .ok (.putfield 15, 3) := by decide +kernel
theorem dX1_open_10 : decode cX1_open 10 = .ok (.aload_n 0, 1) := by decide +kernel
theorem dX1_open_11 : decode cX1_open 11 = .ok (.iload_n 3, 1) := by decide +kernel
theorem dX1_open_12 : decode cX1_open 12 = .ok (.putfield 19, 3) := by decide +kernel
theorem dX1_open_15 : decode cX1_open 15 = .ok (.aload_n 0, 1) := by decide +kernel
theorem dX1_open_16 : decode cX1_open 16 = .ok (.iconst 0, 1) := by decide +kernel
theorem dX1_open_17 : decode cX1_open 17 = .ok (.putfield 22, 3) := by decide +kernel
theorem dX1_open_20 : decode cX1_open 20 = .ok (.return_, 1) := by decide +kernel
theorem dX1_reads_0 : decode cX1_reads 0 = .ok (.aload_n 1, 1) := by decide +kernel
theorem dX1_reads_1 : decode cX1_reads 1 = .ok (.invokevirtual 25, 3) := by decide +kernel
theorem dX1_reads_4 : decode cX1_reads 4 = .ok (.aload_n 0, 1) := by decide +kernel
theorem dX1_reads_5 : decode cX1_reads 5 = .ok (.bipush 111, 2) := by decide +kernel
theorem dX1_reads_7 : decode cX1_reads 7 = .ok (.invokevirtual 30, 3) := by decide +kernel
theorem dX1_reads_10 : decode cX1_reads 10 = .ok (.ifCond .eq 42, 3) := by decide +kernel
theorem dX1_reads_13 : decode cX1_reads 13 = .ok (.aload_n 0, 1) := by decide +kernel
theorem dX1_reads_14 : decode cX1_reads 14 = .ok (.aload_n 1, 1) := by decide +kernel
theorem dX1_reads_15 : decode cX1_reads 15 = .ok (.invokevirtual 34, 3) := by decide +kernel
theorem dX1_reads_18 : decode cX1_reads 18 = .ok (.ifCond .eq 34, 3) := by decide +kernel
theorem dX1_reads_21 : decode cX1_reads 21 = .ok (.aload_n 0, 1) := by decide +kernel
theorem dX1_reads_22 : decode cX1_reads 22 = .ok (.aload_n 1, 1) := by decide +kernel
theorem dX1_reads_23 : decode cX1_reads 23 = .ok (.invokevirtual 38, 3) := by decide +kernel
theorem dX1_reads_26 : decode cX1_reads 26 = .ok (.ifCond .eq 26, 3) := by decide +kernel
theorem dX1_reads_29 : decode cX1_reads 29 = .ok (.aload_n 0, 1) := by decide +kernel
theorem dX1_reads_30 : decode cX1_reads 30 = .ok (.aload_n 1, 1) := by decide +kernel
theorem dX1_reads_31 : decode cX1_reads 31 = .ok (.invokevirtual 41, 3) := by decide +kernel
theorem dX1_reads_34 : decode cX1_reads 34 = .ok (.ifCond .eq 18, 3) := by decide +kernel
theorem dX1_reads_37 : decode cX1_reads 37 = .ok (.aload_n 0, 1) := by decide +kernel
theorem dX1_reads_38 : decode cX1_reads 38 = .ok (.getfield 22, 3) := by decide +kernel
theorem dX1_reads_41 : decode cX1_reads 41 = .ok (.aload_n 0, 1) := by decide +kernel
theorem dX1_reads_42 : decode cX1_reads 42 = .ok (.getfield 19, 3) := by decide +kernel
theorem dX1_reads_45 : decode cX1_reads 45 = .ok (.if_icmp .ne 7, 3) := by decide +kernel
theorem dX1_reads_48 : decode cX1_reads 48 = .ok (.iconst 1, 1) := by decide +kernel
theorem dX1_reads_49 : decode cX1_reads 49 = .ok (.goto 4, 3) := by decide +kernel
theorem dX1_reads_52 : decode cX1_reads 52 = .ok (.iconst 0, 1) := by decide +kernel
theorem dX1_reads_53 : decode cX1_reads 53 = .ok (.ireturn, 1) := by decide +kernel
theorem dX1_readsHours_0 : decode cX1_readsHours 0 = .ok (.iconst 0, 1) := by decide +kernel
theorem dX1_readsHours_1 : decode cX1_readsHours 1 = .ok (.istore_n 2, 1) := by decide +kernel
theorem dX1_readsHours_2 : decode cX1_readsHours 2 = .ok (.iload_n 2, 1) := by decide +kernel
theorem dX1_readsHours_3 : decode cX1_readsHours 3 = .ok (.bipush 6, 2) := by decide +kernel
theorem dX1_readsHours_5 : decode cX1_readsHours 5 = .ok (.if_icmp .ge 30, 3) := by decide +kernel
theorem dX1_readsHours_8 : decode cX1_readsHours 8 = .ok (.aload_n 0, 1) := by decide +kernel
theorem dX1_readsHours_9 : decode cX1_readsHours 9 = .ok (.bipush 10, 2) := by decide +kernel
theorem dX1_readsHours_11 : decode cX1_readsHours 11 = .ok (.bipush (-9), 2) := by decide +kernel
theorem dX1_readsHours_13 : decode cX1_readsHours 13 = .ok (.invokevirtual 44, 3) := by decide +kernel
theorem dX1_readsHours_16 : decode cX1_readsHours 16 = .ok (.istore_n 3, 1) := by decide +kernel
theorem dX1_readsHours_17 : decode cX1_readsHours 17 = .ok (.iload_n 3, 1) := by decide +kernel
theorem dX1_readsHours_18 : decode cX1_readsHours 18 = .ok (.ifCond .ge 6, 3) := by decide +kernel
theorem dX1_readsHours_21 : decode cX1_readsHours 21 = .ok (.goto 14, 3) := by decide +kernel
theorem dX1_readsHours_24 : decode cX1_readsHours 24 = .ok (.aload_n 1, 1) := by decide +kernel
theorem dX1_readsHours_25 : decode cX1_readsHours 25 = .ok (.iload_n 3, 1) := by decide +kernel
theorem dX1_readsHours_26 : decode cX1_readsHours 26 = .ok (.invokevirtual 48, 3) := by decide +kernel
theorem dX1_readsHours_29 : decode cX1_readsHours 29 = .ok (.iinc 2 1, 3) := by decide +kernel
theorem dX1_readsHours_32 : decode cX1_readsHours 32 = .ok (.goto (-30), 3) := by decide +kernel
theorem dX1_readsHours_35 : decode cX1_readsHours 35 = .ok (.aload_n 1, 1) := by decide +kernel
theorem dX1_readsHours_36 : decode cX1_readsHours 36 = .ok (.getfield 52, 3) := by decide +kernel
theorem dX1_readsHours_39 : decode cX1_readsHours 39 = .ok (.ifCond .le 7, 3) := by decide +kernel
theorem dX1_readsHours_42 : decode cX1_readsHours 42 = .ok (.iconst 1, 1) := by decide +kernel
theorem dX1_readsHours_43 : decode cX1_readsHours 43 = .ok (.goto 4, 3) := by decide +kernel
theorem dX1_readsHours_46 : decode cX1_readsHours 46 = .ok (.iconst 0, 1) := by decide +kernel
theorem dX1_readsHours_47 : decode cX1_readsHours 47 = .ok (.ireturn, 1) := by decide +kernel
theorem dX1_readsSwearers_0 : decode cX1_readsSwearers 0 = .ok (.iconst 0, 1) := by decide +kernel
theorem dX1_readsSwearers_1 : decode cX1_readsSwearers 1 = .ok (.istore_n 2, 1) := by decide +kernel
theorem dX1_readsSwearers_2 : decode cX1_readsSwearers 2 = .ok (.iload_n 2, 1) := by decide +kernel
theorem dX1_readsSwearers_3 : decode cX1_readsSwearers 3 = .ok (.iconst 4, 1) := by decide +kernel
theorem dX1_readsSwearers_4 : decode cX1_readsSwearers 4 = .ok (.if_icmp .ge 53, 3) := by decide +kernel
theorem dX1_readsSwearers_7 : decode cX1_readsSwearers 7 = .ok (.aload_n 0, 1) := by decide +kernel
theorem dX1_readsSwearers_8 : decode cX1_readsSwearers 8 = .ok (.bipush 59, 2) := by decide +kernel
theorem dX1_readsSwearers_10 : decode cX1_readsSwearers 10 = .ok (.invokevirtual 30, 3) := by decide +kernel
theorem dX1_readsSwearers_13 : decode cX1_readsSwearers 13 = .ok (.ifCond .eq 44, 3) := by decide +kernel
theorem dX1_readsSwearers_16 : decode cX1_readsSwearers 16 = .ok (.aload_n 0, 1) := by decide +kernel
theorem dX1_readsSwearers_17 : decode cX1_readsSwearers 17 = .ok (.invokevirtual 55, 3) := by decide +kernel
theorem dX1_readsSwearers_20 : decode cX1_readsSwearers 20 = .ok (.istore_n 3, 1) := by decide +kernel
theorem dX1_readsSwearers_21 : decode cX1_readsSwearers 21 = .ok (.iload_n 3, 1) := by decide +kernel
theorem dX1_readsSwearers_22 : decode cX1_readsSwearers 22 = .ok (.ifCond .ge 5, 3) := by decide +kernel
theorem dX1_readsSwearers_25 : decode cX1_readsSwearers 25 = .ok (.iconst 0, 1) := by decide +kernel
theorem dX1_readsSwearers_26 : decode cX1_readsSwearers 26 = .ok (.ireturn, 1) := by decide +kernel
theorem dX1_readsSwearers_27 : decode cX1_readsSwearers 27 = .ok (.aload_n 0, 1) := by decide +kernel
theorem dX1_readsSwearers_28 : decode cX1_readsSwearers 28 = .ok (.bipush 10, 2) := by decide +kernel
theorem dX1_readsSwearers_30 : decode cX1_readsSwearers 30 = .ok (.bipush (-9), 2) := by decide +kernel
theorem dX1_readsSwearers_32 : decode cX1_readsSwearers 32 = .ok (.invokevirtual 44, 3) := by decide +kernel
theorem dX1_readsSwearers_35 : decode cX1_readsSwearers 35 = .ok (.istore 4, 2) := by decide +kernel
theorem dX1_readsSwearers_37 : decode cX1_readsSwearers 37 = .ok (.iload 4, 2) := by decide +kernel
theorem dX1_readsSwearers_39 : decode cX1_readsSwearers 39 = .ok (.ifCond .ge 5, 3) := by decide +kernel
theorem dX1_readsSwearers_42 : decode cX1_readsSwearers 42 = .ok (.iconst 0, 1) := by decide +kernel
theorem dX1_readsSwearers_43 : decode cX1_readsSwearers 43 = .ok (.ireturn, 1) := by decide +kernel
theorem dX1_readsSwearers_44 : decode cX1_readsSwearers 44 = .ok (.aload_n 1, 1) := by decide +kernel
theorem dX1_readsSwearers_45 : decode cX1_readsSwearers 45 = .ok (.iload_n 3, 1) := by decide +kernel
theorem dX1_readsSwearers_46 : decode cX1_readsSwearers 46 = .ok (.iload 4, 2) := by decide +kernel
theorem dX1_readsSwearers_48 : decode cX1_readsSwearers 48 = .ok (.invokevirtual 59, 3) := by decide +kernel
theorem dX1_readsSwearers_51 : decode cX1_readsSwearers 51 = .ok (.iinc 2 1, 3) := by decide +kernel
theorem dX1_readsSwearers_54 : decode cX1_readsSwearers 54 = .ok (.goto (-52), 3) := by decide +kernel
theorem dX1_readsSwearers_57 : decode cX1_readsSwearers 57 = .ok (.aload_n 1, 1) := by decide +kernel
theorem dX1_readsSwearers_58 : decode cX1_readsSwearers 58 = .ok (.getfield 63, 3) := by decide +kernel
theorem dX1_readsSwearers_61 : decode cX1_readsSwearers 61 = .ok (.ifCond .le 7, 3) := by decide +kernel
theorem dX1_readsSwearers_64 : decode cX1_readsSwearers 64 = .ok (.iconst 1, 1) := by decide +kernel
theorem dX1_readsSwearers_65 : decode cX1_readsSwearers 65 = .ok (.goto 4, 3) := by decide +kernel
theorem dX1_readsSwearers_68 : decode cX1_readsSwearers 68 = .ok (.iconst 0, 1) := by decide +kernel
theorem dX1_readsSwearers_69 : decode cX1_readsSwearers 69 = .ok (.ireturn, 1) := by decide +kernel
theorem dX1_readsOaths_0 : decode cX1_readsOaths 0 = .ok (.iconst 0, 1) := by decide +kernel
theorem dX1_readsOaths_1 : decode cX1_readsOaths 1 = .ok (.istore_n 2, 1) := by decide +kernel
theorem dX1_readsOaths_2 : decode cX1_readsOaths 2 = .ok (.iload_n 2, 1) := by decide +kernel
theorem dX1_readsOaths_3 : decode cX1_readsOaths 3 = .ok (.bipush 6, 2) := by decide +kernel
theorem dX1_readsOaths_5 : decode cX1_readsOaths 5 = .ok (.if_icmp .ge 81, 3) := by decide +kernel
theorem dX1_readsOaths_8 : decode cX1_readsOaths 8 = .ok (.aload_n 0, 1) := by decide +kernel
theorem dX1_readsOaths_9 : decode cX1_readsOaths 9 = .ok (.bipush 44, 2) := by decide +kernel
theorem dX1_readsOaths_11 : decode cX1_readsOaths 11 = .ok (.invokevirtual 30, 3) := by decide +kernel
theorem dX1_readsOaths_14 : decode cX1_readsOaths 14 = .ok (.ifCond .eq 72, 3) := by decide +kernel
theorem dX1_readsOaths_17 : decode cX1_readsOaths 17 = .ok (.aload_n 0, 1) := by decide +kernel
theorem dX1_readsOaths_18 : decode cX1_readsOaths 18 = .ok (.aload_n 1, 1) := by decide +kernel
theorem dX1_readsOaths_19 : decode cX1_readsOaths 19 = .ok (.getfield 63, 3) := by decide +kernel
theorem dX1_readsOaths_22 : decode cX1_readsOaths 22 = .ok (.bipush (-9), 2) := by decide +kernel
theorem dX1_readsOaths_24 : decode cX1_readsOaths 24 = .ok (.invokevirtual 44, 3) := by decide +kernel
theorem dX1_readsOaths_27 : decode cX1_readsOaths 27 = .ok (.istore_n 3, 1) := by decide +kernel
theorem dX1_readsOaths_28 : decode cX1_readsOaths 28 = .ok (.iload_n 3, 1) := by decide +kernel
theorem dX1_readsOaths_29 : decode cX1_readsOaths 29 = .ok (.ifCond .ge 5, 3) := by decide +kernel
theorem dX1_readsOaths_32 : decode cX1_readsOaths 32 = .ok (.iconst 0, 1) := by decide +kernel
theorem dX1_readsOaths_33 : decode cX1_readsOaths 33 = .ok (.ireturn, 1) := by decide +kernel
theorem dX1_readsOaths_34 : decode cX1_readsOaths 34 = .ok (.aload_n 0, 1) := by decide +kernel
theorem dX1_readsOaths_35 : decode cX1_readsOaths 35 = .ok (.aload_n 1, 1) := by decide +kernel
theorem dX1_readsOaths_36 : decode cX1_readsOaths 36 = .ok (.getfield 63, 3) := by decide +kernel
theorem dX1_readsOaths_39 : decode cX1_readsOaths 39 = .ok (.iload_n 3, 1) := by decide +kernel
theorem dX1_readsOaths_40 : decode cX1_readsOaths 40 = .ok (.invokevirtual 44, 3) := by decide +kernel
theorem dX1_readsOaths_43 : decode cX1_readsOaths 43 = .ok (.istore 4, 2) := by decide +kernel
theorem dX1_readsOaths_45 : decode cX1_readsOaths 45 = .ok (.iload 4, 2) := by decide +kernel
theorem dX1_readsOaths_47 : decode cX1_readsOaths 47 = .ok (.ifCond .ge 5, 3) := by decide +kernel
theorem dX1_readsOaths_50 : decode cX1_readsOaths 50 = .ok (.iconst 0, 1) := by decide +kernel
theorem dX1_readsOaths_51 : decode cX1_readsOaths 51 = .ok (.ireturn, 1) := by decide +kernel
theorem dX1_readsOaths_52 : decode cX1_readsOaths 52 = .ok (.aload_n 0, 1) := by decide +kernel
theorem dX1_readsOaths_53 : decode cX1_readsOaths 53 = .ok (.aload_n 1, 1) := by decide +kernel
theorem dX1_readsOaths_54 : decode cX1_readsOaths 54 = .ok (.getfield 52, 3) := by decide +kernel
theorem dX1_readsOaths_57 : decode cX1_readsOaths 57 = .ok (.bipush (-9), 2) := by decide +kernel
theorem dX1_readsOaths_59 : decode cX1_readsOaths 59 = .ok (.invokevirtual 44, 3) := by decide +kernel
theorem dX1_readsOaths_62 : decode cX1_readsOaths 62 = .ok (.istore 5, 2) := by decide +kernel
theorem dX1_readsOaths_64 : decode cX1_readsOaths 64 = .ok (.iload 5, 2) := by decide +kernel
theorem dX1_readsOaths_66 : decode cX1_readsOaths 66 = .ok (.ifCond .ge 5, 3) := by decide +kernel
theorem dX1_readsOaths_69 : decode cX1_readsOaths 69 = .ok (.iconst 0, 1) := by decide +kernel
theorem dX1_readsOaths_70 : decode cX1_readsOaths 70 = .ok (.ireturn, 1) := by decide +kernel
theorem dX1_readsOaths_71 : decode cX1_readsOaths 71 = .ok (.aload_n 1, 1) := by decide +kernel
theorem dX1_readsOaths_72 : decode cX1_readsOaths 72 = .ok (.iload_n 3, 1) := by decide +kernel
theorem dX1_readsOaths_73 : decode cX1_readsOaths 73 = .ok (.iload 4, 2) := by decide +kernel
theorem dX1_readsOaths_75 : decode cX1_readsOaths 75 = .ok (.iload 5, 2) := by decide +kernel
theorem dX1_readsOaths_77 : decode cX1_readsOaths 77 = .ok (.invokevirtual 66, 3) := by decide +kernel
theorem dX1_readsOaths_80 : decode cX1_readsOaths 80 = .ok (.iinc 2 1, 3) := by decide +kernel
theorem dX1_readsOaths_83 : decode cX1_readsOaths 83 = .ok (.goto (-81), 3) := by decide +kernel
theorem dX1_readsOaths_86 : decode cX1_readsOaths 86 = .ok (.iconst 1, 1) := by decide +kernel
theorem dX1_readsOaths_87 : decode cX1_readsOaths 87 = .ok (.ireturn, 1) := by decide +kernel
theorem dX1_kindLetter_0 : decode cX1_kindLetter 0 = .ok (.aload_n 0, 1) := by decide +kernel
theorem dX1_kindLetter_1 : decode cX1_kindLetter 1 = .ok (.bipush 112, 2) := by decide +kernel
theorem dX1_kindLetter_3 : decode cX1_kindLetter 3 = .ok (.invokevirtual 30, 3) := by decide +kernel
theorem dX1_kindLetter_6 : decode cX1_kindLetter 6 = .ok (.ifCond .eq 5, 3) := by decide +kernel
theorem dX1_kindLetter_9 : decode cX1_kindLetter 9 = .ok (.iconst 0, 1) := by decide +kernel
theorem dX1_kindLetter_10 : decode cX1_kindLetter 10 = .ok (.ireturn, 1) := by decide +kernel
theorem dX1_kindLetter_11 : decode cX1_kindLetter 11 = .ok (.aload_n 0, 1) := by decide +kernel
theorem dX1_kindLetter_12 : decode cX1_kindLetter 12 = .ok (.bipush 98, 2) := by decide +kernel
theorem dX1_kindLetter_14 : decode cX1_kindLetter 14 = .ok (.invokevirtual 30, 3) := by decide +kernel
theorem dX1_kindLetter_17 : decode cX1_kindLetter 17 = .ok (.ifCond .eq 5, 3) := by decide +kernel
theorem dX1_kindLetter_20 : decode cX1_kindLetter 20 = .ok (.iconst 1, 1) := by decide +kernel
theorem dX1_kindLetter_21 : decode cX1_kindLetter 21 = .ok (.ireturn, 1) := by decide +kernel
theorem dX1_kindLetter_22 : decode cX1_kindLetter 22 = .ok (.aload_n 0, 1) := by decide +kernel
theorem dX1_kindLetter_23 : decode cX1_kindLetter 23 = .ok (.bipush 100, 2) := by decide +kernel
theorem dX1_kindLetter_25 : decode cX1_kindLetter 25 = .ok (.invokevirtual 30, 3) := by decide +kernel
theorem dX1_kindLetter_28 : decode cX1_kindLetter 28 = .ok (.ifCond .eq 7, 3) := by decide +kernel
theorem dX1_kindLetter_31 : decode cX1_kindLetter 31 = .ok (.iconst 2, 1) := by decide +kernel
theorem dX1_kindLetter_32 : decode cX1_kindLetter 32 = .ok (.goto 5, 3) := by decide +kernel
theorem dX1_kindLetter_35 : decode cX1_kindLetter 35 = .ok (.bipush (-9), 2) := by decide +kernel
theorem dX1_kindLetter_37 : decode cX1_kindLetter 37 = .ok (.ireturn, 1) := by decide +kernel
theorem dX1_passes_0 : decode cX1_passes 0 = .ok (.aload_n 0, 1) := by decide +kernel
theorem dX1_passes_1 : decode cX1_passes 1 = .ok (.invokevirtual 70, 3) := by decide +kernel
theorem dX1_passes_4 : decode cX1_passes 4 = .ok (.ifCond .ne 23, 3) := by decide +kernel
theorem dX1_passes_7 : decode cX1_passes 7 = .ok (.aload_n 0, 1) := by decide +kernel
theorem dX1_passes_8 : decode cX1_passes 8 = .ok (.getfield 9, 3) := by decide +kernel
theorem dX1_passes_11 : decode cX1_passes 11 = .ok (.aload_n 0, 1) := by decide +kernel
theorem dX1_passes_12 : decode cX1_passes 12 = .ok (.getfield 15, 3) := by decide +kernel
theorem dX1_passes_15 : decode cX1_passes 15 = .ok (.aload_n 0, 1) := by decide +kernel
theorem dX1_passes_16 : decode cX1_passes 16 = .ok (.getfield 22, 3) := by decide +kernel
theorem dX1_passes_19 : decode cX1_passes 19 = .ok (.iadd, 1) := by decide +kernel
theorem dX1_passes_20 : decode cX1_passes 20 = .ok (.invokevirtual 74, 3) := by decide +kernel
theorem dX1_passes_23 : decode cX1_passes 23 = .ok (.iload_n 1, 1) := by decide +kernel
theorem dX1_passes_24 : decode cX1_passes 24 = .ok (.if_icmp .eq 5, 3) := by decide +kernel
theorem dX1_passes_27 : decode cX1_passes 27 = .ok (.iconst 0, 1) := by decide +kernel
theorem dX1_passes_28 : decode cX1_passes 28 = .ok (.ireturn, 1) := by decide +kernel
theorem dX1_passes_29 : decode cX1_passes 29 = .ok (.aload_n 0, 1) := by decide +kernel
theorem dX1_passes_30 : decode cX1_passes 30 = .ok (.dup, 1) := by decide +kernel
theorem dX1_passes_31 : decode cX1_passes 31 = .ok (.getfield 22, 3) := by decide +kernel
theorem dX1_passes_34 : decode cX1_passes 34 = .ok (.iconst 1, 1) := by decide +kernel
theorem dX1_passes_35 : decode cX1_passes 35 = .ok (.iadd, 1) := by decide +kernel
theorem dX1_passes_36 : decode cX1_passes 36 = .ok (.putfield 22, 3) := by decide +kernel
theorem dX1_passes_39 : decode cX1_passes 39 = .ok (.iconst 1, 1) := by decide +kernel
theorem dX1_passes_40 : decode cX1_passes 40 = .ok (.ireturn, 1) := by decide +kernel
theorem dX1_digitBelow_0 : decode cX1_digitBelow 0 = .ok (.aload_n 0, 1) := by decide +kernel
theorem dX1_digitBelow_1 : decode cX1_digitBelow 1 = .ok (.invokevirtual 70, 3) := by decide +kernel
theorem dX1_digitBelow_4 : decode cX1_digitBelow 4 = .ok (.ifCond .eq 6, 3) := by decide +kernel
theorem dX1_digitBelow_7 : decode cX1_digitBelow 7 = .ok (.bipush (-9), 2) := by decide +kernel
theorem dX1_digitBelow_9 : decode cX1_digitBelow 9 = .ok (.ireturn, 1) := by decide +kernel
theorem dX1_digitBelow_10 : decode cX1_digitBelow 10 = .ok (.aload_n 0, 1) := by decide +kernel
theorem dX1_digitBelow_11 : decode cX1_digitBelow 11 = .ok (.getfield 9, 3) := by decide +kernel
theorem dX1_digitBelow_14 : decode cX1_digitBelow 14 = .ok (.aload_n 0, 1) := by decide +kernel
theorem dX1_digitBelow_15 : decode cX1_digitBelow 15 = .ok (.getfield 15, 3) := by decide +kernel
theorem dX1_digitBelow_18 : decode cX1_digitBelow 18 = .ok (.aload_n 0, 1) := by decide +kernel
theorem dX1_digitBelow_19 : decode cX1_digitBelow 19 = .ok (.getfield 22, 3) := by decide +kernel
theorem dX1_digitBelow_22 : decode cX1_digitBelow 22 = .ok (.iadd, 1) := by decide +kernel
theorem dX1_digitBelow_23 : decode cX1_digitBelow 23 = .ok (.invokevirtual 74, 3) := by decide +kernel
theorem dX1_digitBelow_26 : decode cX1_digitBelow 26 = .ok (.istore_n 3, 1) := by decide +kernel
theorem dX1_digitBelow_27 : decode cX1_digitBelow 27 = .ok (.iload_n 3, 1) := by decide +kernel
theorem dX1_digitBelow_28 : decode cX1_digitBelow 28 = .ok (.bipush 48, 2) := by decide +kernel
theorem dX1_digitBelow_30 : decode cX1_digitBelow 30 = .ok (.if_icmp .lt 19, 3) := by decide +kernel
theorem dX1_digitBelow_33 : decode cX1_digitBelow 33 = .ok (.iload_n 3, 1) := by decide +kernel
theorem dX1_digitBelow_34 : decode cX1_digitBelow 34 = .ok (.bipush 48, 2) := by decide +kernel
theorem dX1_digitBelow_36 : decode cX1_digitBelow 36 = .ok (.iload_n 1, 1) := by decide +kernel
theorem dX1_digitBelow_37 : decode cX1_digitBelow 37 = .ok (.iadd, 1) := by decide +kernel
theorem dX1_digitBelow_38 : decode cX1_digitBelow 38 = .ok (.if_icmp .ge 11, 3) := by decide +kernel
theorem dX1_digitBelow_41 : decode cX1_digitBelow 41 = .ok (.iload_n 3, 1) := by decide +kernel
theorem dX1_digitBelow_42 : decode cX1_digitBelow 42 = .ok (.bipush 48, 2) := by decide +kernel
theorem dX1_digitBelow_44 : decode cX1_digitBelow 44 = .ok (.iload_n 2, 1) := by decide +kernel
theorem dX1_digitBelow_45 : decode cX1_digitBelow 45 = .ok (.iadd, 1) := by decide +kernel
theorem dX1_digitBelow_46 : decode cX1_digitBelow 46 = .ok (.if_icmp .ne 6, 3) := by decide +kernel
theorem dX1_digitBelow_49 : decode cX1_digitBelow 49 = .ok (.bipush (-9), 2) := by decide +kernel
theorem dX1_digitBelow_51 : decode cX1_digitBelow 51 = .ok (.ireturn, 1) := by decide +kernel
theorem dX1_digitBelow_52 : decode cX1_digitBelow 52 = .ok (.aload_n 0, 1) := by decide +kernel
theorem dX1_digitBelow_53 : decode cX1_digitBelow 53 = .ok (.dup, 1) := by decide +kernel
theorem dX1_digitBelow_54 : decode cX1_digitBelow 54 = .ok (.getfield 22, 3) := by decide +kernel
theorem dX1_digitBelow_57 : decode cX1_digitBelow 57 = .ok (.iconst 1, 1) := by decide +kernel
theorem dX1_digitBelow_58 : decode cX1_digitBelow 58 = .ok (.iadd, 1) := by decide +kernel
theorem dX1_digitBelow_59 : decode cX1_digitBelow 59 = .ok (.putfield 22, 3) := by decide +kernel
theorem dX1_digitBelow_62 : decode cX1_digitBelow 62 = .ok (.iload_n 3, 1) := by decide +kernel
theorem dX1_digitBelow_63 : decode cX1_digitBelow 63 = .ok (.bipush 48, 2) := by decide +kernel
theorem dX1_digitBelow_65 : decode cX1_digitBelow 65 = .ok (.isub, 1) := by decide +kernel
theorem dX1_digitBelow_66 : decode cX1_digitBelow 66 = .ok (.ireturn, 1) := by decide +kernel
theorem dX1_isAtEnd_0 : decode cX1_isAtEnd 0 = .ok (.aload_n 0, 1) := by decide +kernel
theorem dX1_isAtEnd_1 : decode cX1_isAtEnd 1 = .ok (.getfield 9, 3) := by decide +kernel
theorem dX1_isAtEnd_4 : decode cX1_isAtEnd 4 = .ok (.ifnull 14, 3) := by decide +kernel
theorem dX1_isAtEnd_7 : decode cX1_isAtEnd 7 = .ok (.aload_n 0, 1) := by decide +kernel
theorem dX1_isAtEnd_8 : decode cX1_isAtEnd 8 = .ok (.getfield 22, 3) := by decide +kernel
theorem dX1_isAtEnd_11 : decode cX1_isAtEnd 11 = .ok (.aload_n 0, 1) := by decide +kernel
theorem dX1_isAtEnd_12 : decode cX1_isAtEnd 12 = .ok (.getfield 19, 3) := by decide +kernel
theorem dX1_isAtEnd_15 : decode cX1_isAtEnd 15 = .ok (.if_icmp .lt 7, 3) := by decide +kernel
theorem dX1_isAtEnd_18 : decode cX1_isAtEnd 18 = .ok (.iconst 1, 1) := by decide +kernel
theorem dX1_isAtEnd_19 : decode cX1_isAtEnd 19 = .ok (.goto 4, 3) := by decide +kernel
theorem dX1_isAtEnd_22 : decode cX1_isAtEnd 22 = .ok (.iconst 0, 1) := by decide +kernel
theorem dX1_isAtEnd_23 : decode cX1_isAtEnd 23 = .ok (.ireturn, 1) := by decide +kernel
theorem dX2_init_0 : decode cX2_init 0 = .ok (.aload_n 0, 1) := by decide +kernel
theorem dX2_init_1 : decode cX2_init 1 = .ok (.invokespecial 3, 3) := by decide +kernel
theorem dX2_init_4 : decode cX2_init 4 = .ok (.aload_n 0, 1) := by decide +kernel
theorem dX2_init_5 : decode cX2_init 5 = .ok (.bipush 8, 2) := by decide +kernel
theorem dX2_init_7 : decode cX2_init 7 = .ok (.newarray .int, 2) := by decide +kernel
theorem dX2_init_9 : decode cX2_init 9 = .ok (.putfield 9, 3) := by decide +kernel
theorem dX2_init_12 : decode cX2_init 12 = .ok (.aload_n 0, 1) := by decide +kernel
theorem dX2_init_13 : decode cX2_init 13 = .ok (.bipush 8, 2) := by decide +kernel
theorem dX2_init_15 : decode cX2_init 15 = .ok (.newarray .int, 2) := by decide +kernel
theorem dX2_init_17 : decode cX2_init 17 = .ok (.putfield 15, 3) := by decide +kernel
theorem dX2_init_20 : decode cX2_init 20 = .ok (.aload_n 0, 1) := by decide +kernel
theorem dX2_init_21 : decode cX2_init 21 = .ok (.bipush 8, 2) := by decide +kernel
theorem dX2_init_23 : decode cX2_init 23 = .ok (.newarray .boolean, 2) := by decide +kernel
theorem dX2_init_25 : decode cX2_init 25 = .ok (.putfield 18, 3) := by decide +kernel
theorem dX2_init_28 : decode cX2_init 28 = .ok (.return_, 1) := by decide +kernel
theorem dX2_add_0 : decode cX2_add 0 = .ok (.aload_n 0, 1) := by decide +kernel
theorem dX2_add_1 : decode cX2_add 1 = .ok (.getfield 22, 3) := by decide +kernel
theorem dX2_add_4 : decode cX2_add 4 = .ok (.bipush 8, 2) := by decide +kernel
theorem dX2_add_6 : decode cX2_add 6 = .ok (.if_icmp .ge 43, 3) := by decide +kernel
theorem dX2_add_9 : decode cX2_add 9 = .ok (.aload_n 0, 1) := by decide +kernel
theorem dX2_add_10 : decode cX2_add 10 = .ok (.getfield 9, 3) := by decide +kernel
theorem dX2_add_13 : decode cX2_add 13 = .ok (.aload_n 0, 1) := by decide +kernel
theorem dX2_add_14 : decode cX2_add 14 = .ok (.getfield 22, 3) := by decide +kernel
theorem dX2_add_17 : decode cX2_add 17 = .ok (.iload_n 1, 1) := by decide +kernel
theorem dX2_add_18 : decode cX2_add 18 = .ok (.iastore, 1) := by decide +kernel
theorem dX2_add_19 : decode cX2_add 19 = .ok (.aload_n 0, 1) := by decide +kernel
theorem dX2_add_20 : decode cX2_add 20 = .ok (.getfield 15, 3) := by decide +kernel
theorem dX2_add_23 : decode cX2_add 23 = .ok (.aload_n 0, 1) := by decide +kernel
theorem dX2_add_24 : decode cX2_add 24 = .ok (.getfield 22, 3) := by decide +kernel
theorem dX2_add_27 : decode cX2_add 27 = .ok (.iload_n 2, 1) := by decide +kernel
theorem dX2_add_28 : decode cX2_add 28 = .ok (.iastore, 1) := by decide +kernel
theorem dX2_add_29 : decode cX2_add 29 = .ok (.aload_n 0, 1) := by decide +kernel
theorem dX2_add_30 : decode cX2_add 30 = .ok (.getfield 18, 3) := by decide +kernel
theorem dX2_add_33 : decode cX2_add 33 = .ok (.aload_n 0, 1) := by decide +kernel
theorem dX2_add_34 : decode cX2_add 34 = .ok (.getfield 22, 3) := by decide +kernel
theorem dX2_add_37 : decode cX2_add 37 = .ok (.iload_n 3, 1) := by decide +kernel
theorem dX2_add_38 : decode cX2_add 38 = .ok (.bastore, 1) := by decide +kernel
theorem dX2_add_39 : decode cX2_add 39 = .ok (.aload_n 0, 1) := by decide +kernel
theorem dX2_add_40 : decode cX2_add 40 = .ok (.dup, 1) := by decide +kernel
theorem dX2_add_41 : decode cX2_add 41 = .ok (.getfield 22, 3) := by decide +kernel
theorem dX2_add_44 : decode cX2_add 44 = .ok (.iconst 1, 1) := by decide +kernel
theorem dX2_add_45 : decode cX2_add 45 = .ok (.iadd, 1) := by decide +kernel
theorem dX2_add_46 : decode cX2_add 46 = .ok (.putfield 22, 3) := by decide +kernel
theorem dX2_add_49 : decode cX2_add 49 = .ok (.return_, 1) := by decide +kernel
theorem dX2_holdIn_0 : decode cX2_holdIn 0 = .ok (.iconst 0, 1) := by decide +kernel
theorem dX2_holdIn_1 : decode cX2_holdIn 1 = .ok (.istore_n 2, 1) := by decide +kernel
theorem dX2_holdIn_2 : decode cX2_holdIn 2 = .ok (.iload_n 2, 1) := by decide +kernel
theorem dX2_holdIn_3 : decode cX2_holdIn 3 = .ok (.aload_n 0, 1) := by decide +kernel
theorem dX2_holdIn_4 : decode cX2_holdIn 4 = .ok (.getfield 22, 3) := by decide +kernel
theorem dX2_holdIn_7 : decode cX2_holdIn 7 = .ok (.if_icmp .ge 36, 3) := by decide +kernel
theorem dX2_holdIn_10 : decode cX2_holdIn 10 = .ok (.aload_n 1, 1) := by decide +kernel
theorem dX2_holdIn_11 : decode cX2_holdIn 11 = .ok (.aload_n 0, 1) := by decide +kernel
theorem dX2_holdIn_12 : decode cX2_holdIn 12 = .ok (.getfield 9, 3) := by decide +kernel
theorem dX2_holdIn_15 : decode cX2_holdIn 15 = .ok (.iload_n 2, 1) := by decide +kernel
theorem dX2_holdIn_16 : decode cX2_holdIn 16 = .ok (.iaload, 1) := by decide +kernel
theorem dX2_holdIn_17 : decode cX2_holdIn 17 = .ok (.aload_n 0, 1) := by decide +kernel
theorem dX2_holdIn_18 : decode cX2_holdIn 18 = .ok (.getfield 15, 3) := by decide +kernel
theorem dX2_holdIn_21 : decode cX2_holdIn 21 = .ok (.iload_n 2, 1) := by decide +kernel
theorem dX2_holdIn_22 : decode cX2_holdIn 22 = .ok (.iaload, 1) := by decide +kernel
theorem dX2_holdIn_23 : decode cX2_holdIn 23 = .ok (.invokevirtual 26, 3) := by decide +kernel
theorem dX2_holdIn_26 : decode cX2_holdIn 26 = .ok (.aload_n 0, 1) := by decide +kernel
theorem dX2_holdIn_27 : decode cX2_holdIn 27 = .ok (.getfield 18, 3) := by decide +kernel
theorem dX2_holdIn_30 : decode cX2_holdIn 30 = .ok (.iload_n 2, 1) := by decide +kernel
theorem dX2_holdIn_31 : decode cX2_holdIn 31 = .ok (.baload, 1) := by decide +kernel
theorem dX2_holdIn_32 : decode cX2_holdIn 32 = .ok (.if_icmp .eq 5, 3) := by decide +kernel
theorem dX2_holdIn_35 : decode cX2_holdIn 35 = .ok (.iconst 0, 1) := by decide +kernel
theorem dX2_holdIn_36 : decode cX2_holdIn 36 = .ok (.ireturn, 1) := by decide +kernel
theorem dX2_holdIn_37 : decode cX2_holdIn 37 = .ok (.iinc 2 1, 3) := by decide +kernel
theorem dX2_holdIn_40 : decode cX2_holdIn 40 = .ok (.goto (-38), 3) := by decide +kernel
theorem dX2_holdIn_43 : decode cX2_holdIn 43 = .ok (.iconst 1, 1) := by decide +kernel
theorem dX2_holdIn_44 : decode cX2_holdIn 44 = .ok (.ireturn, 1) := by decide +kernel
theorem dX3_init_0 : decode cX3_init 0 = .ok (.aload_n 0, 1) := by decide +kernel
theorem dX3_init_1 : decode cX3_init 1 = .ok (.invokespecial 3, 3) := by decide +kernel
theorem dX3_init_4 : decode cX3_init 4 = .ok (.aload_n 0, 1) := by decide +kernel
theorem dX3_init_5 : decode cX3_init 5 = .ok (.bipush 60, 2) := by decide +kernel
theorem dX3_init_7 : decode cX3_init 7 = .ok (.newarray .int, 2) := by decide +kernel
theorem dX3_init_9 : decode cX3_init 9 = .ok (.putfield 9, 3) := by decide +kernel
theorem dX3_init_12 : decode cX3_init 12 = .ok (.return_, 1) := by decide +kernel
theorem dX3_renew_0 : decode cX3_renew 0 = .ok (.aload_n 0, 1) := by decide +kernel
theorem dX3_renew_1 : decode cX3_renew 1 = .ok (.iconst 1, 1) := by decide +kernel
theorem dX3_renew_2 : decode cX3_renew 2 = .ok (.putfield 15, 3) := by decide +kernel
theorem dX3_renew_5 : decode cX3_renew 5 = .ok (.aload_n 0, 1) := by decide +kernel
theorem dX3_renew_6 : decode cX3_renew 6 = .ok (.iload_n 1, 1) := by decide +kernel
theorem dX3_renew_7 : decode cX3_renew 7 = .ok (.putfield 19, 3) := by decide +kernel
theorem dX3_renew_10 : decode cX3_renew 10 = .ok (.aload_n 0, 1) := by decide +kernel
theorem dX3_renew_11 : decode cX3_renew 11 = .ok (.iload_n 2, 1) := by decide +kernel
theorem dX3_renew_12 : decode cX3_renew 12 = .ok (.putfield 23, 3) := by decide +kernel
theorem dX3_renew_15 : decode cX3_renew 15 = .ok (.aload_n 0, 1) := by decide +kernel
theorem dX3_renew_16 : decode cX3_renew 16 = .ok (.getfield 9, 3) := by decide +kernel
theorem dX3_renew_19 : decode cX3_renew 19 = .ok (.iconst 0, 1) := by decide +kernel
theorem dX3_renew_20 : decode cX3_renew 20 = .ok (.invokestatic 26, 3) := by decide +kernel
theorem dX3_renew_23 : decode cX3_renew 23 = .ok (.return_, 1) := by decide +kernel
theorem dX3_faultAs_0 : decode cX3_faultAs 0 = .ok (.aload_n 0, 1) := by decide +kernel
theorem dX3_faultAs_1 : decode cX3_faultAs 1 = .ok (.getfield 15, 3) := by decide +kernel
theorem dX3_faultAs_4 : decode cX3_faultAs 4 = .ok (.ifCond .ne 5, 3) := by decide +kernel
theorem dX3_faultAs_7 : decode cX3_faultAs 7 = .ok (.iconst 1, 1) := by decide +kernel
theorem dX3_faultAs_8 : decode cX3_faultAs 8 = .ok (.ireturn, 1) := by decide +kernel
theorem dX3_faultAs_9 : decode cX3_faultAs 9 = .ok (.aload_n 0, 1) := by decide +kernel
theorem dX3_faultAs_10 : decode cX3_faultAs 10 = .ok (.getfield 19, 3) := by decide +kernel
theorem dX3_faultAs_13 : decode cX3_faultAs 13 = .ok (.iload_n 1, 1) := by decide +kernel
theorem dX3_faultAs_14 : decode cX3_faultAs 14 = .ok (.if_icmp .ne 7, 3) := by decide +kernel
theorem dX3_faultAs_17 : decode cX3_faultAs 17 = .ok (.iconst 0, 1) := by decide +kernel
theorem dX3_faultAs_18 : decode cX3_faultAs 18 = .ok (.goto 4, 3) := by decide +kernel
theorem dX3_faultAs_21 : decode cX3_faultAs 21 = .ok (.iconst 2, 1) := by decide +kernel
theorem dX3_faultAs_22 : decode cX3_faultAs 22 = .ok (.ireturn, 1) := by decide +kernel
theorem dX3_hasCell_0 : decode cX3_hasCell 0 = .ok (.iload_n 1, 1) := by decide +kernel
theorem dX3_hasCell_1 : decode cX3_hasCell 1 = .ok (.ifCond .lt 15, 3) := by decide +kernel
theorem dX3_hasCell_4 : decode cX3_hasCell 4 = .ok (.iload_n 1, 1) := by decide +kernel
theorem dX3_hasCell_5 : decode cX3_hasCell 5 = .ok (.aload_n 0, 1) := by decide +kernel
theorem dX3_hasCell_6 : decode cX3_hasCell 6 = .ok (.getfield 23, 3) := by decide +kernel
theorem dX3_hasCell_9 : decode cX3_hasCell 9 = .ok (.if_icmp .ge 7, 3) := by decide +kernel
theorem dX3_hasCell_12 : decode cX3_hasCell 12 = .ok (.iconst 1, 1) := by decide +kernel
theorem dX3_hasCell_13 : decode cX3_hasCell 13 = .ok (.goto 4, 3) := by decide +kernel
theorem dX3_hasCell_16 : decode cX3_hasCell 16 = .ok (.iconst 0, 1) := by decide +kernel
theorem dX3_hasCell_17 : decode cX3_hasCell 17 = .ok (.ireturn, 1) := by decide +kernel
theorem dX3_hasCells_0 : decode cX3_hasCells 0 = .ok (.iload_n 1, 1) := by decide +kernel
theorem dX3_hasCells_1 : decode cX3_hasCells 1 = .ok (.ifCond .lt 29, 3) := by decide +kernel
theorem dX3_hasCells_4 : decode cX3_hasCells 4 = .ok (.iload_n 1, 1) := by decide +kernel
theorem dX3_hasCells_5 : decode cX3_hasCells 5 = .ok (.aload_n 0, 1) := by decide +kernel
theorem dX3_hasCells_6 : decode cX3_hasCells 6 = .ok (.getfield 23, 3) := by decide +kernel
theorem dX3_hasCells_9 : decode cX3_hasCells 9 = .ok (.if_icmp .gt 21, 3) := by decide +kernel
theorem dX3_hasCells_12 : decode cX3_hasCells 12 = .ok (.iload_n 2, 1) := by decide +kernel
theorem dX3_hasCells_13 : decode cX3_hasCells 13 = .ok (.ifCond .lt 17, 3) := by decide +kernel
theorem dX3_hasCells_16 : decode cX3_hasCells 16 = .ok (.iload_n 2, 1) := by decide +kernel
theorem dX3_hasCells_17 : decode cX3_hasCells 17 = .ok (.aload_n 0, 1) := by decide +kernel
theorem dX3_hasCells_18 : decode cX3_hasCells 18 = .ok (.getfield 23, 3) := by decide +kernel
theorem dX3_hasCells_21 : decode cX3_hasCells 21 = .ok (.iload_n 1, 1) := by decide +kernel
theorem dX3_hasCells_22 : decode cX3_hasCells 22 = .ok (.isub, 1) := by decide +kernel
theorem dX3_hasCells_23 : decode cX3_hasCells 23 = .ok (.if_icmp .gt 7, 3) := by decide +kernel
theorem dX3_hasCells_26 : decode cX3_hasCells 26 = .ok (.iconst 1, 1) := by decide +kernel
theorem dX3_hasCells_27 : decode cX3_hasCells 27 = .ok (.goto 4, 3) := by decide +kernel
theorem dX3_hasCells_30 : decode cX3_hasCells 30 = .ok (.iconst 0, 1) := by decide +kernel
theorem dX3_hasCells_31 : decode cX3_hasCells 31 = .ok (.ireturn, 1) := by decide +kernel
theorem dX3_at_0 : decode cX3_at 0 = .ok (.aload_n 0, 1) := by decide +kernel
theorem dX3_at_1 : decode cX3_at 1 = .ok (.iload_n 1, 1) := by decide +kernel
theorem dX3_at_2 : decode cX3_at 2 = .ok (.invokevirtual 32, 3) := by decide +kernel
theorem dX3_at_5 : decode cX3_at 5 = .ok (.ifCond .eq 12, 3) := by decide +kernel
theorem dX3_at_8 : decode cX3_at 8 = .ok (.aload_n 0, 1) := by decide +kernel
theorem dX3_at_9 : decode cX3_at 9 = .ok (.getfield 9, 3) := by decide +kernel
theorem dX3_at_12 : decode cX3_at 12 = .ok (.iload_n 1, 1) := by decide +kernel
theorem dX3_at_13 : decode cX3_at 13 = .ok (.iaload, 1) := by decide +kernel
theorem dX3_at_14 : decode cX3_at 14 = .ok (.goto 4, 3) := by decide +kernel
theorem dX3_at_17 : decode cX3_at 17 = .ok (.iconst 0, 1) := by decide +kernel
theorem dX3_at_18 : decode cX3_at 18 = .ok (.ireturn, 1) := by decide +kernel
theorem dX3_store_0 : decode cX3_store 0 = .ok (.aload_n 0, 1) := by decide +kernel
theorem dX3_store_1 : decode cX3_store 1 = .ok (.iload_n 1, 1) := by decide +kernel
theorem dX3_store_2 : decode cX3_store 2 = .ok (.invokevirtual 32, 3) := by decide +kernel
theorem dX3_store_5 : decode cX3_store 5 = .ok (.ifCond .eq 14, 3) := by decide +kernel
theorem dX3_store_8 : decode cX3_store 8 = .ok (.aload_n 0, 1) := by decide +kernel
theorem dX3_store_9 : decode cX3_store 9 = .ok (.getfield 9, 3) := by decide +kernel
theorem dX3_store_12 : decode cX3_store 12 = .ok (.iload_n 1, 1) := by decide +kernel
theorem dX3_store_13 : decode cX3_store 13 = .ok (.aload_n 0, 1) := by decide +kernel
theorem dX3_store_14 : decode cX3_store 14 = .ok (.iload_n 2, 1) := by decide +kernel
theorem dX3_store_15 : decode cX3_store 15 = .ok (.invokevirtual 36, 3) := by decide +kernel
theorem dX3_store_18 : decode cX3_store 18 = .ok (.iastore, 1) := by decide +kernel
theorem dX3_store_19 : decode cX3_store 19 = .ok (.return_, 1) := by decide +kernel
theorem dX3_cutToLane_0 : decode cX3_cutToLane 0 = .ok (.aload_n 0, 1) := by decide +kernel
theorem dX3_cutToLane_1 : decode cX3_cutToLane 1 = .ok (.getfield 19, 3) := by decide +kernel
theorem dX3_cutToLane_4 : decode cX3_cutToLane 4 = .ok (.lookupswitch 34 #[(0, 28), (1, 31)], 28) := by decide +kernel
theorem dX3_cutToLane_32 : decode cX3_cutToLane 32 = .ok (.iload_n 1, 1) := by decide +kernel
theorem dX3_cutToLane_33 : decode cX3_cutToLane 33 = .ok (.i2b, 1) := by decide +kernel
theorem dX3_cutToLane_34 : decode cX3_cutToLane 34 = .ok (.ireturn, 1) := by decide +kernel
theorem dX3_cutToLane_35 : decode cX3_cutToLane 35 = .ok (.iload_n 1, 1) := by decide +kernel
theorem dX3_cutToLane_36 : decode cX3_cutToLane 36 = .ok (.i2s, 1) := by decide +kernel
theorem dX3_cutToLane_37 : decode cX3_cutToLane 37 = .ok (.ireturn, 1) := by decide +kernel
theorem dX3_cutToLane_38 : decode cX3_cutToLane 38 = .ok (.iload_n 1, 1) := by decide +kernel
theorem dX3_cutToLane_39 : decode cX3_cutToLane 39 = .ok (.ireturn, 1) := by decide +kernel
theorem dX4_init_0 : decode cX4_init 0 = .ok (.aload_n 0, 1) := by decide +kernel
theorem dX4_init_1 : decode cX4_init 1 = .ok (.invokespecial 3, 3) := by decide +kernel
theorem dX4_init_4 : decode cX4_init 4 = .ok (.aload_n 0, 1) := by decide +kernel
theorem dX4_init_5 : decode cX4_init 5 = .ok (.iconst 4, 1) := by decide +kernel
theorem dX4_init_6 : decode cX4_init 6 = .ok (.anewarray 11, 3) := by decide +kernel
theorem dX4_init_9 : decode cX4_init 9 = .ok (.putfield 13, 3) := by decide +kernel
theorem dX4_init_12 : decode cX4_init 12 = .ok (.iconst 0, 1) := by decide +kernel
theorem dX4_init_13 : decode cX4_init 13 = .ok (.istore_n 1, 1) := by decide +kernel
theorem dX4_init_14 : decode cX4_init 14 = .ok (.iload_n 1, 1) := by decide +kernel
theorem dX4_init_15 : decode cX4_init 15 = .ok (.iconst 4, 1) := by decide +kernel
theorem dX4_init_16 : decode cX4_init 16 = .ok (.if_icmp .ge 22, 3) := by decide +kernel
theorem dX4_init_19 : decode cX4_init 19 = .ok (.aload_n 0, 1) := by decide +kernel
theorem dX4_init_20 : decode cX4_init 20 = .ok (.getfield 13, 3) := by decide +kernel
theorem dX4_init_23 : decode cX4_init 23 = .ok (.iload_n 1, 1) := by decide +kernel
theorem dX4_init_24 : decode cX4_init 24 = .ok (.new 11, 3) := by decide +kernel
theorem dX4_init_27 : decode cX4_init 27 = .ok (.dup, 1) := by decide +kernel
theorem dX4_init_28 : decode cX4_init 28 = .ok (.invokespecial 17, 3) := by decide +kernel
theorem dX4_init_31 : decode cX4_init 31 = .ok (.aastore, 1) := by decide +kernel
theorem dX4_init_32 : decode cX4_init 32 = .ok (.iinc 1 1, 3) := by decide +kernel
theorem dX4_init_35 : decode cX4_init 35 = .ok (.goto (-21), 3) := by decide +kernel
theorem dX4_init_38 : decode cX4_init 38 = .ok (.aload_n 0, 1) := by decide +kernel
theorem dX4_init_39 : decode cX4_init 39 = .ok (.new 18, 3) := by decide +kernel
theorem dX4_init_42 : decode cX4_init 42 = .ok (.dup, 1) := by decide +kernel
theorem dX4_init_43 : decode cX4_init 43 = .ok (.invokespecial 20, 3) := by decide +kernel
theorem dX4_init_46 : decode cX4_init 46 = .ok (.putfield 21, 3) := by decide +kernel
theorem dX4_init_49 : decode cX4_init 49 = .ok (.aload_n 0, 1) := by decide +kernel
theorem dX4_init_50 : decode cX4_init 50 = .ok (.new 18, 3) := by decide +kernel
theorem dX4_init_53 : decode cX4_init 53 = .ok (.dup, 1) := by decide +kernel
theorem dX4_init_54 : decode cX4_init 54 = .ok (.invokespecial 20, 3) := by decide +kernel
theorem dX4_init_57 : decode cX4_init 57 = .ok (.putfield 25, 3) := by decide +kernel
theorem dX4_init_60 : decode cX4_init 60 = .ok (.aload_n 0, 1) := by decide +kernel
theorem dX4_init_61 : decode cX4_init 61 = .ok (.new 28, 3) := by decide +kernel
theorem dX4_init_64 : decode cX4_init 64 = .ok (.dup, 1) := by decide +kernel
theorem dX4_init_65 : decode cX4_init 65 = .ok (.invokespecial 30, 3) := by decide +kernel
theorem dX4_init_68 : decode cX4_init 68 = .ok (.putfield 31, 3) := by decide +kernel
theorem dX4_init_71 : decode cX4_init 71 = .ok (.aload_n 0, 1) := by decide +kernel
theorem dX4_init_72 : decode cX4_init 72 = .ok (.new 35, 3) := by decide +kernel
theorem dX4_init_75 : decode cX4_init 75 = .ok (.dup, 1) := by decide +kernel
theorem dX4_init_76 : decode cX4_init 76 = .ok (.invokespecial 37, 3) := by decide +kernel
theorem dX4_init_79 : decode cX4_init 79 = .ok (.putfield 38, 3) := by decide +kernel
theorem dX4_init_82 : decode cX4_init 82 = .ok (.return_, 1) := by decide +kernel
theorem dX4_day_0 : decode cX4_day 0 = .ok (.aload_n 0, 1) := by decide +kernel
theorem dX4_day_1 : decode cX4_day 1 = .ok (.iconst 0, 1) := by decide +kernel
theorem dX4_day_2 : decode cX4_day 2 = .ok (.putfield 42, 3) := by decide +kernel
theorem dX4_day_5 : decode cX4_day 5 = .ok (.iload_n 1, 1) := by decide +kernel
theorem dX4_day_6 : decode cX4_day 6 = .ok (.invokestatic 46, 3) := by decide +kernel
theorem dX4_day_9 : decode cX4_day 9 = .ok (.ifCond .ne 5, 3) := by decide +kernel
theorem dX4_day_12 : decode cX4_day 12 = .ok (.iconst (-1), 1) := by decide +kernel
theorem dX4_day_13 : decode cX4_day 13 = .ok (.ireturn, 1) := by decide +kernel
theorem dX4_day_14 : decode cX4_day 14 = .ok (.iload_n 2, 1) := by decide +kernel
theorem dX4_day_15 : decode cX4_day 15 = .ok (.invokestatic 50, 3) := by decide +kernel
theorem dX4_day_18 : decode cX4_day 18 = .ok (.ifCond .ne 6, 3) := by decide +kernel
theorem dX4_day_21 : decode cX4_day 21 = .ok (.bipush (-2), 2) := by decide +kernel
theorem dX4_day_23 : decode cX4_day 23 = .ok (.ireturn, 1) := by decide +kernel
theorem dX4_day_24 : decode cX4_day 24 = .ok (.aload_n 0, 1) := by decide +kernel
theorem dX4_day_25 : decode cX4_day 25 = .ok (.getfield 13, 3) := by decide +kernel
theorem dX4_day_28 : decode cX4_day 28 = .ok (.iload_n 1, 1) := by decide +kernel
theorem dX4_day_29 : decode cX4_day 29 = .ok (.aaload, 1) := by decide +kernel
theorem dX4_day_30 : decode cX4_day 30 = .ok (.astore 5, 2) := by decide +kernel
theorem dX4_day_32 : decode cX4_day 32 = .ok (.aload 5, 2) := by decide +kernel
theorem dX4_day_34 : decode cX4_day 34 = .ok (.iload_n 2, 1) := by decide +kernel
theorem dX4_day_35 : decode cX4_day 35 = .ok (.invokevirtual 53, 3) := by decide +kernel
theorem dX4_day_38 : decode cX4_day 38 = .ok (.istore 6, 2) := by decide +kernel
theorem dX4_day_40 : decode cX4_day 40 = .ok (.iload 6, 2) := by decide +kernel
theorem dX4_day_42 : decode cX4_day 42 = .ok (.ifCond .ne 11, 3) := by decide +kernel
theorem dX4_day_45 : decode cX4_day 45 = .ok (.iload 4, 2) := by decide +kernel
theorem dX4_day_47 : decode cX4_day 47 = .ok (.ifCond .ge 6, 3) := by decide +kernel
theorem dX4_day_50 : decode cX4_day 50 = .ok (.iconst 4, 1) := by decide +kernel
theorem dX4_day_51 : decode cX4_day 51 = .ok (.istore 6, 2) := by decide +kernel
theorem dX4_day_53 : decode cX4_day 53 = .ok (.iload 6, 2) := by decide +kernel
theorem dX4_day_55 : decode cX4_day 55 = .ok (.ifCond .ne 17, 3) := by decide +kernel
theorem dX4_day_58 : decode cX4_day 58 = .ok (.aload 5, 2) := by decide +kernel
theorem dX4_day_60 : decode cX4_day 60 = .ok (.iload_n 3, 1) := by decide +kernel
theorem dX4_day_61 : decode cX4_day 61 = .ok (.iload 4, 2) := by decide +kernel
theorem dX4_day_63 : decode cX4_day 63 = .ok (.invokevirtual 57, 3) := by decide +kernel
theorem dX4_day_66 : decode cX4_day 66 = .ok (.ifCond .ne 6, 3) := by decide +kernel
theorem dX4_day_69 : decode cX4_day 69 = .ok (.iconst 3, 1) := by decide +kernel
theorem dX4_day_70 : decode cX4_day 70 = .ok (.istore 6, 2) := by decide +kernel
theorem dX4_day_72 : decode cX4_day 72 = .ok (.iload 6, 2) := by decide +kernel
theorem dX4_day_74 : decode cX4_day 74 = .ok (.ifCond .eq 10, 3) := by decide +kernel
theorem dX4_day_77 : decode cX4_day 77 = .ok (.aload_n 0, 1) := by decide +kernel
theorem dX4_day_78 : decode cX4_day 78 = .ok (.iload 6, 2) := by decide +kernel
theorem dX4_day_80 : decode cX4_day 80 = .ok (.invokevirtual 61, 3) := by decide +kernel
theorem dX4_day_83 : decode cX4_day 83 = .ok (.ireturn, 1) := by decide +kernel
theorem dX4_day_84 : decode cX4_day 84 = .ok (.aload_n 0, 1) := by decide +kernel
theorem dX4_day_85 : decode cX4_day 85 = .ok (.getfield 31, 3) := by decide +kernel
theorem dX4_day_88 : decode cX4_day 88 = .ok (.aload 5, 2) := by decide +kernel
theorem dX4_day_90 : decode cX4_day 90 = .ok (.iload_n 3, 1) := by decide +kernel
theorem dX4_day_91 : decode cX4_day 91 = .ok (.iload 4, 2) := by decide +kernel
theorem dX4_day_93 : decode cX4_day 93 = .ok (.invokevirtual 64, 3) := by decide +kernel
theorem dX4_day_96 : decode cX4_day 96 = .ok (.aload_n 0, 1) := by decide +kernel
theorem dX4_day_97 : decode cX4_day 97 = .ok (.getfield 31, 3) := by decide +kernel
theorem dX4_day_100 : decode cX4_day 100 = .ok (.aload_n 0, 1) := by decide +kernel
theorem dX4_day_101 : decode cX4_day 101 = .ok (.getfield 25, 3) := by decide +kernel
theorem dX4_day_104 : decode cX4_day 104 = .ok (.invokevirtual 68, 3) := by decide +kernel
theorem dX4_day_107 : decode cX4_day 107 = .ok (.ifCond .ne 14, 3) := by decide +kernel
theorem dX4_day_110 : decode cX4_day 110 = .ok (.bipush (-100), 2) := by decide +kernel
theorem dX4_day_112 : decode cX4_day 112 = .ok (.aload_n 0, 1) := by decide +kernel
theorem dX4_day_113 : decode cX4_day 113 = .ok (.getfield 31, 3) := by decide +kernel
theorem dX4_day_116 : decode cX4_day 116 = .ok (.getfield 72, 3) := by decide +kernel
theorem dX4_day_119 : decode cX4_day 119 = .ok (.isub, 1) := by decide +kernel
theorem dX4_day_120 : decode cX4_day 120 = .ok (.ireturn, 1) := by decide +kernel
theorem dX4_day_121 : decode cX4_day 121 = .ok (.aload_n 0, 1) := by decide +kernel
theorem dX4_day_122 : decode cX4_day 122 = .ok (.getfield 21, 3) := by decide +kernel
theorem dX4_day_125 : decode cX4_day 125 = .ok (.aload_n 0, 1) := by decide +kernel
theorem dX4_day_126 : decode cX4_day 126 = .ok (.getfield 25, 3) := by decide +kernel
theorem dX4_day_129 : decode cX4_day 129 = .ok (.invokevirtual 75, 3) := by decide +kernel
theorem dX4_day_132 : decode cX4_day 132 = .ok (.aload_n 0, 1) := by decide +kernel
theorem dX4_day_133 : decode cX4_day 133 = .ok (.getfield 38, 3) := by decide +kernel
theorem dX4_day_136 : decode cX4_day 136 = .ok (.iconst 0, 1) := by decide +kernel
theorem dX4_day_137 : decode cX4_day 137 = .ok (.putfield 79, 3) := by decide +kernel
theorem dX4_day_140 : decode cX4_day 140 = .ok (.aload_n 0, 1) := by decide +kernel
theorem dX4_day_141 : decode cX4_day 141 = .ok (.getfield 21, 3) := by decide +kernel
theorem dX4_day_144 : decode cX4_day 144 = .ok (.getfield 82, 3) := by decide +kernel
theorem dX4_day_147 : decode cX4_day 147 = .ok (.ireturn, 1) := by decide +kernel
theorem dX4_ofSwearer_0 : decode cX4_ofSwearer 0 = .ok (.aload_n 0, 1) := by decide +kernel
theorem dX4_ofSwearer_1 : decode cX4_ofSwearer 1 = .ok (.getfield 21, 3) := by decide +kernel
theorem dX4_ofSwearer_4 : decode cX4_ofSwearer 4 = .ok (.iload_n 1, 1) := by decide +kernel
theorem dX4_ofSwearer_5 : decode cX4_ofSwearer 5 = .ok (.invokevirtual 85, 3) := by decide +kernel
theorem dX4_ofSwearer_8 : decode cX4_ofSwearer 8 = .ok (.ifCond .ne 5, 3) := by decide +kernel
theorem dX4_ofSwearer_11 : decode cX4_ofSwearer 11 = .ok (.iconst (-1), 1) := by decide +kernel
theorem dX4_ofSwearer_12 : decode cX4_ofSwearer 12 = .ok (.ireturn, 1) := by decide +kernel
theorem dX4_ofSwearer_13 : decode cX4_ofSwearer 13 = .ok (.iload_n 2, 1) := by decide +kernel
theorem dX4_ofSwearer_14 : decode cX4_ofSwearer 14 = .ok (.tableswitch 102 0 5 #[38, 48, 58, 67, 76, 85], 38) := by decide +kernel
theorem dX4_ofSwearer_52 : decode cX4_ofSwearer 52 = .ok (.aload_n 0, 1) := by decide +kernel
theorem dX4_ofSwearer_53 : decode cX4_ofSwearer 53 = .ok (.getfield 21, 3) := by decide +kernel
theorem dX4_ofSwearer_56 : decode cX4_ofSwearer 56 = .ok (.getfield 88, 3) := by decide +kernel
theorem dX4_ofSwearer_59 : decode cX4_ofSwearer 59 = .ok (.iload_n 1, 1) := by decide +kernel
theorem dX4_ofSwearer_60 : decode cX4_ofSwearer 60 = .ok (.iaload, 1) := by decide +kernel
theorem dX4_ofSwearer_61 : decode cX4_ofSwearer 61 = .ok (.ireturn, 1) := by decide +kernel
theorem dX4_ofSwearer_62 : decode cX4_ofSwearer 62 = .ok (.aload_n 0, 1) := by decide +kernel
theorem dX4_ofSwearer_63 : decode cX4_ofSwearer 63 = .ok (.getfield 21, 3) := by decide +kernel
theorem dX4_ofSwearer_66 : decode cX4_ofSwearer 66 = .ok (.getfield 92, 3) := by decide +kernel
theorem dX4_ofSwearer_69 : decode cX4_ofSwearer 69 = .ok (.iload_n 1, 1) := by decide +kernel
theorem dX4_ofSwearer_70 : decode cX4_ofSwearer 70 = .ok (.iaload, 1) := by decide +kernel
theorem dX4_ofSwearer_71 : decode cX4_ofSwearer 71 = .ok (.ireturn, 1) := by decide +kernel
theorem dX4_ofSwearer_72 : decode cX4_ofSwearer 72 = .ok (.aload_n 0, 1) := by decide +kernel
theorem dX4_ofSwearer_73 : decode cX4_ofSwearer 73 = .ok (.getfield 21, 3) := by decide +kernel
theorem dX4_ofSwearer_76 : decode cX4_ofSwearer 76 = .ok (.iload_n 1, 1) := by decide +kernel
theorem dX4_ofSwearer_77 : decode cX4_ofSwearer 77 = .ok (.invokevirtual 95, 3) := by decide +kernel
theorem dX4_ofSwearer_80 : decode cX4_ofSwearer 80 = .ok (.ireturn, 1) := by decide +kernel
theorem dX4_ofSwearer_81 : decode cX4_ofSwearer 81 = .ok (.aload_n 0, 1) := by decide +kernel
theorem dX4_ofSwearer_82 : decode cX4_ofSwearer 82 = .ok (.getfield 21, 3) := by decide +kernel
theorem dX4_ofSwearer_85 : decode cX4_ofSwearer 85 = .ok (.iload_n 1, 1) := by decide +kernel
theorem dX4_ofSwearer_86 : decode cX4_ofSwearer 86 = .ok (.invokevirtual 98, 3) := by decide +kernel
theorem dX4_ofSwearer_89 : decode cX4_ofSwearer 89 = .ok (.ireturn, 1) := by decide +kernel
theorem dX4_ofSwearer_90 : decode cX4_ofSwearer 90 = .ok (.aload_n 0, 1) := by decide +kernel
theorem dX4_ofSwearer_91 : decode cX4_ofSwearer 91 = .ok (.getfield 21, 3) := by decide +kernel
theorem dX4_ofSwearer_94 : decode cX4_ofSwearer 94 = .ok (.iload_n 1, 1) := by decide +kernel
theorem dX4_ofSwearer_95 : decode cX4_ofSwearer 95 = .ok (.invokevirtual 101, 3) := by decide +kernel
theorem dX4_ofSwearer_98 : decode cX4_ofSwearer 98 = .ok (.ireturn, 1) := by decide +kernel
theorem dX4_ofSwearer_99 : decode cX4_ofSwearer 99 = .ok (.aload_n 0, 1) := by decide +kernel
theorem dX4_ofSwearer_100 : decode cX4_ofSwearer 100 = .ok (.getfield 21, 3) := by decide +kernel
theorem dX4_ofSwearer_103 : decode cX4_ofSwearer 103 = .ok (.iload_n 1, 1) := by decide +kernel
theorem dX4_ofSwearer_104 : decode cX4_ofSwearer 104 = .ok (.invokevirtual 101, 3) := by decide +kernel
theorem dX4_ofSwearer_107 : decode cX4_ofSwearer 107 = .ok (.aload_n 0, 1) := by decide +kernel
theorem dX4_ofSwearer_108 : decode cX4_ofSwearer 108 = .ok (.getfield 21, 3) := by decide +kernel
theorem dX4_ofSwearer_111 : decode cX4_ofSwearer 111 = .ok (.invokevirtual 104, 3) := by decide +kernel
theorem dX4_ofSwearer_114 : decode cX4_ofSwearer 114 = .ok (.iand, 1) := by decide +kernel
theorem dX4_ofSwearer_115 : decode cX4_ofSwearer 115 = .ok (.ireturn, 1) := by decide +kernel
theorem dX4_ofSwearer_116 : decode cX4_ofSwearer 116 = .ok (.bipush (-2), 2) := by decide +kernel
theorem dX4_ofSwearer_118 : decode cX4_ofSwearer 118 = .ok (.ireturn, 1) := by decide +kernel
theorem dX4_ofOath_0 : decode cX4_ofOath 0 = .ok (.aload_n 0, 1) := by decide +kernel
theorem dX4_ofOath_1 : decode cX4_ofOath 1 = .ok (.getfield 21, 3) := by decide +kernel
theorem dX4_ofOath_4 : decode cX4_ofOath 4 = .ok (.iload_n 1, 1) := by decide +kernel
theorem dX4_ofOath_5 : decode cX4_ofOath 5 = .ok (.invokevirtual 108, 3) := by decide +kernel
theorem dX4_ofOath_8 : decode cX4_ofOath 8 = .ok (.ifCond .ne 5, 3) := by decide +kernel
theorem dX4_ofOath_11 : decode cX4_ofOath 11 = .ok (.iconst (-1), 1) := by decide +kernel
theorem dX4_ofOath_12 : decode cX4_ofOath 12 = .ok (.ireturn, 1) := by decide +kernel
theorem dX4_ofOath_13 : decode cX4_ofOath 13 = .ok (.iload_n 2, 1) := by decide +kernel
theorem dX4_ofOath_14 : decode cX4_ofOath 14 = .ok (.tableswitch 110 0 4 #[34, 44, 54, 64, 93], 34) := by decide +kernel
theorem dX4_ofOath_48 : decode cX4_ofOath 48 = .ok (.aload_n 0, 1) := by decide +kernel
theorem dX4_ofOath_49 : decode cX4_ofOath 49 = .ok (.getfield 21, 3) := by decide +kernel
theorem dX4_ofOath_52 : decode cX4_ofOath 52 = .ok (.getfield 111, 3) := by decide +kernel
theorem dX4_ofOath_55 : decode cX4_ofOath 55 = .ok (.iload_n 1, 1) := by decide +kernel
theorem dX4_ofOath_56 : decode cX4_ofOath 56 = .ok (.iaload, 1) := by decide +kernel
theorem dX4_ofOath_57 : decode cX4_ofOath 57 = .ok (.ireturn, 1) := by decide +kernel
theorem dX4_ofOath_58 : decode cX4_ofOath 58 = .ok (.aload_n 0, 1) := by decide +kernel
theorem dX4_ofOath_59 : decode cX4_ofOath 59 = .ok (.getfield 21, 3) := by decide +kernel
theorem dX4_ofOath_62 : decode cX4_ofOath 62 = .ok (.getfield 114, 3) := by decide +kernel
theorem dX4_ofOath_65 : decode cX4_ofOath 65 = .ok (.iload_n 1, 1) := by decide +kernel
theorem dX4_ofOath_66 : decode cX4_ofOath 66 = .ok (.iaload, 1) := by decide +kernel
theorem dX4_ofOath_67 : decode cX4_ofOath 67 = .ok (.ireturn, 1) := by decide +kernel
theorem dX4_ofOath_68 : decode cX4_ofOath 68 = .ok (.aload_n 0, 1) := by decide +kernel
theorem dX4_ofOath_69 : decode cX4_ofOath 69 = .ok (.getfield 21, 3) := by decide +kernel
theorem dX4_ofOath_72 : decode cX4_ofOath 72 = .ok (.getfield 117, 3) := by decide +kernel
theorem dX4_ofOath_75 : decode cX4_ofOath 75 = .ok (.iload_n 1, 1) := by decide +kernel
theorem dX4_ofOath_76 : decode cX4_ofOath 76 = .ok (.iaload, 1) := by decide +kernel
theorem dX4_ofOath_77 : decode cX4_ofOath 77 = .ok (.ireturn, 1) := by decide +kernel
theorem dX4_ofOath_78 : decode cX4_ofOath 78 = .ok (.aload_n 0, 1) := by decide +kernel
theorem dX4_ofOath_79 : decode cX4_ofOath 79 = .ok (.getfield 21, 3) := by decide +kernel
theorem dX4_ofOath_82 : decode cX4_ofOath 82 = .ok (.aload_n 0, 1) := by decide +kernel
theorem dX4_ofOath_83 : decode cX4_ofOath 83 = .ok (.getfield 21, 3) := by decide +kernel
theorem dX4_ofOath_86 : decode cX4_ofOath 86 = .ok (.getfield 111, 3) := by decide +kernel
theorem dX4_ofOath_89 : decode cX4_ofOath 89 = .ok (.iload_n 1, 1) := by decide +kernel
theorem dX4_ofOath_90 : decode cX4_ofOath 90 = .ok (.iaload, 1) := by decide +kernel
theorem dX4_ofOath_91 : decode cX4_ofOath 91 = .ok (.aload_n 0, 1) := by decide +kernel
theorem dX4_ofOath_92 : decode cX4_ofOath 92 = .ok (.getfield 21, 3) := by decide +kernel
theorem dX4_ofOath_95 : decode cX4_ofOath 95 = .ok (.getfield 117, 3) := by decide +kernel
theorem dX4_ofOath_98 : decode cX4_ofOath 98 = .ok (.iload_n 1, 1) := by decide +kernel
theorem dX4_ofOath_99 : decode cX4_ofOath 99 = .ok (.iaload, 1) := by decide +kernel
theorem dX4_ofOath_100 : decode cX4_ofOath 100 = .ok (.invokevirtual 120, 3) := by decide +kernel
theorem dX4_ofOath_103 : decode cX4_ofOath 103 = .ok (.bipush 100, 2) := by decide +kernel
theorem dX4_ofOath_105 : decode cX4_ofOath 105 = .ok (.iadd, 1) := by decide +kernel
theorem dX4_ofOath_106 : decode cX4_ofOath 106 = .ok (.ireturn, 1) := by decide +kernel
theorem dX4_ofOath_107 : decode cX4_ofOath 107 = .ok (.aload_n 0, 1) := by decide +kernel
theorem dX4_ofOath_108 : decode cX4_ofOath 108 = .ok (.getfield 21, 3) := by decide +kernel
theorem dX4_ofOath_111 : decode cX4_ofOath 111 = .ok (.iload_n 1, 1) := by decide +kernel
theorem dX4_ofOath_112 : decode cX4_ofOath 112 = .ok (.invokevirtual 124, 3) := by decide +kernel
theorem dX4_ofOath_115 : decode cX4_ofOath 115 = .ok (.ifCond .eq 7, 3) := by decide +kernel
theorem dX4_ofOath_118 : decode cX4_ofOath 118 = .ok (.iconst 1, 1) := by decide +kernel
theorem dX4_ofOath_119 : decode cX4_ofOath 119 = .ok (.goto 4, 3) := by decide +kernel
theorem dX4_ofOath_122 : decode cX4_ofOath 122 = .ok (.iconst 0, 1) := by decide +kernel
theorem dX4_ofOath_123 : decode cX4_ofOath 123 = .ok (.ireturn, 1) := by decide +kernel
theorem dX4_ofOath_124 : decode cX4_ofOath 124 = .ok (.bipush (-2), 2) := by decide +kernel
theorem dX4_ofOath_126 : decode cX4_ofOath 126 = .ok (.ireturn, 1) := by decide +kernel
theorem dX4_ofHour_0 : decode cX4_ofHour 0 = .ok (.aload_n 0, 1) := by decide +kernel
theorem dX4_ofHour_1 : decode cX4_ofHour 1 = .ok (.getfield 21, 3) := by decide +kernel
theorem dX4_ofHour_4 : decode cX4_ofHour 4 = .ok (.iload_n 1, 1) := by decide +kernel
theorem dX4_ofHour_5 : decode cX4_ofHour 5 = .ok (.invokevirtual 127, 3) := by decide +kernel
theorem dX4_ofHour_8 : decode cX4_ofHour 8 = .ok (.ifCond .ne 5, 3) := by decide +kernel
theorem dX4_ofHour_11 : decode cX4_ofHour 11 = .ok (.iconst (-1), 1) := by decide +kernel
theorem dX4_ofHour_12 : decode cX4_ofHour 12 = .ok (.ireturn, 1) := by decide +kernel
theorem dX4_ofHour_13 : decode cX4_ofHour 13 = .ok (.iload_n 2, 1) := by decide +kernel
theorem dX4_ofHour_14 : decode cX4_ofHour 14 = .ok (.tableswitch 69 0 2 #[26, 36, 60], 26) := by decide +kernel
theorem dX4_ofHour_40 : decode cX4_ofHour 40 = .ok (.aload_n 0, 1) := by decide +kernel
theorem dX4_ofHour_41 : decode cX4_ofHour 41 = .ok (.getfield 21, 3) := by decide +kernel
theorem dX4_ofHour_44 : decode cX4_ofHour 44 = .ok (.getfield 130, 3) := by decide +kernel
theorem dX4_ofHour_47 : decode cX4_ofHour 47 = .ok (.iload_n 1, 1) := by decide +kernel
theorem dX4_ofHour_48 : decode cX4_ofHour 48 = .ok (.iaload, 1) := by decide +kernel
theorem dX4_ofHour_49 : decode cX4_ofHour 49 = .ok (.ireturn, 1) := by decide +kernel
theorem dX4_ofHour_50 : decode cX4_ofHour 50 = .ok (.aload_n 0, 1) := by decide +kernel
theorem dX4_ofHour_51 : decode cX4_ofHour 51 = .ok (.getfield 21, 3) := by decide +kernel
theorem dX4_ofHour_54 : decode cX4_ofHour 54 = .ok (.getfield 133, 3) := by decide +kernel
theorem dX4_ofHour_57 : decode cX4_ofHour 57 = .ok (.iload_n 1, 1) := by decide +kernel
theorem dX4_ofHour_58 : decode cX4_ofHour 58 = .ok (.if_icmp .ne 13, 3) := by decide +kernel
theorem dX4_ofHour_61 : decode cX4_ofHour 61 = .ok (.aload_n 0, 1) := by decide +kernel
theorem dX4_ofHour_62 : decode cX4_ofHour 62 = .ok (.getfield 21, 3) := by decide +kernel
theorem dX4_ofHour_65 : decode cX4_ofHour 65 = .ok (.getfield 136, 3) := by decide +kernel
theorem dX4_ofHour_68 : decode cX4_ofHour 68 = .ok (.goto 5, 3) := by decide +kernel
theorem dX4_ofHour_71 : decode cX4_ofHour 71 = .ok (.bipush (-9), 2) := by decide +kernel
theorem dX4_ofHour_73 : decode cX4_ofHour 73 = .ok (.ireturn, 1) := by decide +kernel
theorem dX4_ofHour_74 : decode cX4_ofHour 74 = .ok (.aload_n 0, 1) := by decide +kernel
theorem dX4_ofHour_75 : decode cX4_ofHour 75 = .ok (.getfield 21, 3) := by decide +kernel
theorem dX4_ofHour_78 : decode cX4_ofHour 78 = .ok (.iload_n 1, 1) := by decide +kernel
theorem dX4_ofHour_79 : decode cX4_ofHour 79 = .ok (.invokevirtual 139, 3) := by decide +kernel
theorem dX4_ofHour_82 : decode cX4_ofHour 82 = .ok (.ireturn, 1) := by decide +kernel
theorem dX4_ofHour_83 : decode cX4_ofHour 83 = .ok (.bipush (-2), 2) := by decide +kernel
theorem dX4_ofHour_85 : decode cX4_ofHour 85 = .ok (.ireturn, 1) := by decide +kernel
theorem dX4_chill_0 : decode cX4_chill 0 = .ok (.aload_n 0, 1) := by decide +kernel
theorem dX4_chill_1 : decode cX4_chill 1 = .ok (.getfield 21, 3) := by decide +kernel
theorem dX4_chill_4 : decode cX4_chill 4 = .ok (.iload_n 1, 1) := by decide +kernel
theorem dX4_chill_5 : decode cX4_chill 5 = .ok (.invokevirtual 85, 3) := by decide +kernel
theorem dX4_chill_8 : decode cX4_chill 8 = .ok (.ifCond .eq 14, 3) := by decide +kernel
theorem dX4_chill_11 : decode cX4_chill 11 = .ok (.aload_n 0, 1) := by decide +kernel
theorem dX4_chill_12 : decode cX4_chill 12 = .ok (.getfield 21, 3) := by decide +kernel
theorem dX4_chill_15 : decode cX4_chill 15 = .ok (.iload_n 2, 1) := by decide +kernel
theorem dX4_chill_16 : decode cX4_chill 16 = .ok (.invokevirtual 127, 3) := by decide +kernel
theorem dX4_chill_19 : decode cX4_chill 19 = .ok (.ifCond .ne 5, 3) := by decide +kernel
theorem dX4_chill_22 : decode cX4_chill 22 = .ok (.iconst (-1), 1) := by decide +kernel
theorem dX4_chill_23 : decode cX4_chill 23 = .ok (.ireturn, 1) := by decide +kernel
theorem dX4_chill_24 : decode cX4_chill 24 = .ok (.aload_n 0, 1) := by decide +kernel
theorem dX4_chill_25 : decode cX4_chill 25 = .ok (.getfield 21, 3) := by decide +kernel
theorem dX4_chill_28 : decode cX4_chill 28 = .ok (.iload_n 1, 1) := by decide +kernel
theorem dX4_chill_29 : decode cX4_chill 29 = .ok (.iload_n 2, 1) := by decide +kernel
theorem dX4_chill_30 : decode cX4_chill 30 = .ok (.invokevirtual 120, 3) := by decide +kernel
theorem dX4_chill_33 : decode cX4_chill 33 = .ok (.bipush 100, 2) := by decide +kernel
theorem dX4_chill_35 : decode cX4_chill 35 = .ok (.iadd, 1) := by decide +kernel
theorem dX4_chill_36 : decode cX4_chill 36 = .ok (.ireturn, 1) := by decide +kernel
theorem dX4_coat_0 : decode cX4_coat 0 = .ok (.aload_n 0, 1) := by decide +kernel
theorem dX4_coat_1 : decode cX4_coat 1 = .ok (.getfield 21, 3) := by decide +kernel
theorem dX4_coat_4 : decode cX4_coat 4 = .ok (.iload_n 1, 1) := by decide +kernel
theorem dX4_coat_5 : decode cX4_coat 5 = .ok (.invokevirtual 85, 3) := by decide +kernel
theorem dX4_coat_8 : decode cX4_coat 8 = .ok (.ifCond .ne 5, 3) := by decide +kernel
theorem dX4_coat_11 : decode cX4_coat 11 = .ok (.iconst (-1), 1) := by decide +kernel
theorem dX4_coat_12 : decode cX4_coat 12 = .ok (.ireturn, 1) := by decide +kernel
theorem dX4_coat_13 : decode cX4_coat 13 = .ok (.iload_n 2, 1) := by decide +kernel
theorem dX4_coat_14 : decode cX4_coat 14 = .ok (.invokestatic 142, 3) := by decide +kernel
theorem dX4_coat_17 : decode cX4_coat 17 = .ok (.ifCond .ne 6, 3) := by decide +kernel
theorem dX4_coat_20 : decode cX4_coat 20 = .ok (.bipush (-2), 2) := by decide +kernel
theorem dX4_coat_22 : decode cX4_coat 22 = .ok (.ireturn, 1) := by decide +kernel
theorem dX4_coat_23 : decode cX4_coat 23 = .ok (.aload_n 0, 1) := by decide +kernel
theorem dX4_coat_24 : decode cX4_coat 24 = .ok (.getfield 21, 3) := by decide +kernel
theorem dX4_coat_27 : decode cX4_coat 27 = .ok (.getfield 92, 3) := by decide +kernel
theorem dX4_coat_30 : decode cX4_coat 30 = .ok (.iload_n 1, 1) := by decide +kernel
theorem dX4_coat_31 : decode cX4_coat 31 = .ok (.iaload, 1) := by decide +kernel
theorem dX4_coat_32 : decode cX4_coat 32 = .ok (.istore_n 3, 1) := by decide +kernel
theorem dX4_coat_33 : decode cX4_coat 33 = .ok (.aload_n 0, 1) := by decide +kernel
theorem dX4_coat_34 : decode cX4_coat 34 = .ok (.getfield 21, 3) := by decide +kernel
theorem dX4_coat_37 : decode cX4_coat 37 = .ok (.getfield 92, 3) := by decide +kernel
theorem dX4_coat_40 : decode cX4_coat 40 = .ok (.iload_n 1, 1) := by decide +kernel
theorem dX4_coat_41 : decode cX4_coat 41 = .ok (.iload_n 2, 1) := by decide +kernel
theorem dX4_coat_42 : decode cX4_coat 42 = .ok (.iastore, 1) := by decide +kernel
theorem dX4_coat_43 : decode cX4_coat 43 = .ok (.iload_n 3, 1) := by decide +kernel
theorem dX4_coat_44 : decode cX4_coat 44 = .ok (.ireturn, 1) := by decide +kernel
theorem dX4_frost_0 : decode cX4_frost 0 = .ok (.aload_n 0, 1) := by decide +kernel
theorem dX4_frost_1 : decode cX4_frost 1 = .ok (.getfield 21, 3) := by decide +kernel
theorem dX4_frost_4 : decode cX4_frost 4 = .ok (.iload_n 1, 1) := by decide +kernel
theorem dX4_frost_5 : decode cX4_frost 5 = .ok (.invokevirtual 127, 3) := by decide +kernel
theorem dX4_frost_8 : decode cX4_frost 8 = .ok (.ifCond .ne 5, 3) := by decide +kernel
theorem dX4_frost_11 : decode cX4_frost 11 = .ok (.iconst (-1), 1) := by decide +kernel
theorem dX4_frost_12 : decode cX4_frost 12 = .ok (.ireturn, 1) := by decide +kernel
theorem dX4_frost_13 : decode cX4_frost 13 = .ok (.iload_n 2, 1) := by decide +kernel
theorem dX4_frost_14 : decode cX4_frost 14 = .ok (.invokestatic 142, 3) := by decide +kernel
theorem dX4_frost_17 : decode cX4_frost 17 = .ok (.ifCond .ne 6, 3) := by decide +kernel
theorem dX4_frost_20 : decode cX4_frost 20 = .ok (.bipush (-2), 2) := by decide +kernel
theorem dX4_frost_22 : decode cX4_frost 22 = .ok (.ireturn, 1) := by decide +kernel
theorem dX4_frost_23 : decode cX4_frost 23 = .ok (.aload_n 0, 1) := by decide +kernel
theorem dX4_frost_24 : decode cX4_frost 24 = .ok (.getfield 21, 3) := by decide +kernel
theorem dX4_frost_27 : decode cX4_frost 27 = .ok (.getfield 130, 3) := by decide +kernel
theorem dX4_frost_30 : decode cX4_frost 30 = .ok (.iload_n 1, 1) := by decide +kernel
theorem dX4_frost_31 : decode cX4_frost 31 = .ok (.iaload, 1) := by decide +kernel
theorem dX4_frost_32 : decode cX4_frost 32 = .ok (.istore_n 3, 1) := by decide +kernel
theorem dX4_frost_33 : decode cX4_frost 33 = .ok (.aload_n 0, 1) := by decide +kernel
theorem dX4_frost_34 : decode cX4_frost 34 = .ok (.getfield 21, 3) := by decide +kernel
theorem dX4_frost_37 : decode cX4_frost 37 = .ok (.getfield 130, 3) := by decide +kernel
theorem dX4_frost_40 : decode cX4_frost 40 = .ok (.iload_n 1, 1) := by decide +kernel
theorem dX4_frost_41 : decode cX4_frost 41 = .ok (.iload_n 2, 1) := by decide +kernel
theorem dX4_frost_42 : decode cX4_frost 42 = .ok (.iastore, 1) := by decide +kernel
theorem dX4_frost_43 : decode cX4_frost 43 = .ok (.iload_n 3, 1) := by decide +kernel
theorem dX4_frost_44 : decode cX4_frost 44 = .ok (.ireturn, 1) := by decide +kernel
theorem dX4_swear_0 : decode cX4_swear 0 = .ok (.aload_n 0, 1) := by decide +kernel
theorem dX4_swear_1 : decode cX4_swear 1 = .ok (.getfield 21, 3) := by decide +kernel
theorem dX4_swear_4 : decode cX4_swear 4 = .ok (.iload_n 1, 1) := by decide +kernel
theorem dX4_swear_5 : decode cX4_swear 5 = .ok (.invokevirtual 85, 3) := by decide +kernel
theorem dX4_swear_8 : decode cX4_swear 8 = .ok (.ifCond .eq 30, 3) := by decide +kernel
theorem dX4_swear_11 : decode cX4_swear 11 = .ok (.aload_n 0, 1) := by decide +kernel
theorem dX4_swear_12 : decode cX4_swear 12 = .ok (.getfield 21, 3) := by decide +kernel
theorem dX4_swear_15 : decode cX4_swear 15 = .ok (.iload_n 2, 1) := by decide +kernel
theorem dX4_swear_16 : decode cX4_swear 16 = .ok (.invokevirtual 85, 3) := by decide +kernel
theorem dX4_swear_19 : decode cX4_swear 19 = .ok (.ifCond .eq 19, 3) := by decide +kernel
theorem dX4_swear_22 : decode cX4_swear 22 = .ok (.iload_n 1, 1) := by decide +kernel
theorem dX4_swear_23 : decode cX4_swear 23 = .ok (.iload_n 2, 1) := by decide +kernel
theorem dX4_swear_24 : decode cX4_swear 24 = .ok (.if_icmp .eq 14, 3) := by decide +kernel
theorem dX4_swear_27 : decode cX4_swear 27 = .ok (.aload_n 0, 1) := by decide +kernel
theorem dX4_swear_28 : decode cX4_swear 28 = .ok (.getfield 21, 3) := by decide +kernel
theorem dX4_swear_31 : decode cX4_swear 31 = .ok (.iload_n 3, 1) := by decide +kernel
theorem dX4_swear_32 : decode cX4_swear 32 = .ok (.invokevirtual 127, 3) := by decide +kernel
theorem dX4_swear_35 : decode cX4_swear 35 = .ok (.ifCond .ne 5, 3) := by decide +kernel
theorem dX4_swear_38 : decode cX4_swear 38 = .ok (.iconst (-1), 1) := by decide +kernel
theorem dX4_swear_39 : decode cX4_swear 39 = .ok (.ireturn, 1) := by decide +kernel
theorem dX4_swear_40 : decode cX4_swear 40 = .ok (.aload_n 0, 1) := by decide +kernel
theorem dX4_swear_41 : decode cX4_swear 41 = .ok (.getfield 21, 3) := by decide +kernel
theorem dX4_swear_44 : decode cX4_swear 44 = .ok (.getfield 145, 3) := by decide +kernel
theorem dX4_swear_47 : decode cX4_swear 47 = .ok (.bipush 6, 2) := by decide +kernel
theorem dX4_swear_49 : decode cX4_swear 49 = .ok (.if_icmp .lt 6, 3) := by decide +kernel
theorem dX4_swear_52 : decode cX4_swear 52 = .ok (.bipush (-4), 2) := by decide +kernel
theorem dX4_swear_54 : decode cX4_swear 54 = .ok (.ireturn, 1) := by decide +kernel
theorem dX4_swear_55 : decode cX4_swear 55 = .ok (.aload_n 0, 1) := by decide +kernel
theorem dX4_swear_56 : decode cX4_swear 56 = .ok (.getfield 21, 3) := by decide +kernel
theorem dX4_swear_59 : decode cX4_swear 59 = .ok (.iload_n 1, 1) := by decide +kernel
theorem dX4_swear_60 : decode cX4_swear 60 = .ok (.iload_n 2, 1) := by decide +kernel
theorem dX4_swear_61 : decode cX4_swear 61 = .ok (.iload_n 3, 1) := by decide +kernel
theorem dX4_swear_62 : decode cX4_swear 62 = .ok (.invokevirtual 148, 3) := by decide +kernel
theorem dX4_swear_65 : decode cX4_swear 65 = .ok (.aload_n 0, 1) := by decide +kernel
theorem dX4_swear_66 : decode cX4_swear 66 = .ok (.getfield 21, 3) := by decide +kernel
theorem dX4_swear_69 : decode cX4_swear 69 = .ok (.getfield 145, 3) := by decide +kernel
theorem dX4_swear_72 : decode cX4_swear 72 = .ok (.iconst 1, 1) := by decide +kernel
theorem dX4_swear_73 : decode cX4_swear 73 = .ok (.isub, 1) := by decide +kernel
theorem dX4_swear_74 : decode cX4_swear 74 = .ok (.ireturn, 1) := by decide +kernel
theorem dX4_release_0 : decode cX4_release 0 = .ok (.aload_n 0, 1) := by decide +kernel
theorem dX4_release_1 : decode cX4_release 1 = .ok (.getfield 21, 3) := by decide +kernel
theorem dX4_release_4 : decode cX4_release 4 = .ok (.iload_n 1, 1) := by decide +kernel
theorem dX4_release_5 : decode cX4_release 5 = .ok (.invokevirtual 108, 3) := by decide +kernel
theorem dX4_release_8 : decode cX4_release 8 = .ok (.ifCond .ne 5, 3) := by decide +kernel
theorem dX4_release_11 : decode cX4_release 11 = .ok (.iconst (-1), 1) := by decide +kernel
theorem dX4_release_12 : decode cX4_release 12 = .ok (.ireturn, 1) := by decide +kernel
theorem dX4_release_13 : decode cX4_release 13 = .ok (.aload_n 0, 1) := by decide +kernel
theorem dX4_release_14 : decode cX4_release 14 = .ok (.getfield 21, 3) := by decide +kernel
theorem dX4_release_17 : decode cX4_release 17 = .ok (.iload_n 1, 1) := by decide +kernel
theorem dX4_release_18 : decode cX4_release 18 = .ok (.invokevirtual 152, 3) := by decide +kernel
theorem dX4_release_21 : decode cX4_release 21 = .ok (.aload_n 0, 1) := by decide +kernel
theorem dX4_release_22 : decode cX4_release 22 = .ok (.getfield 21, 3) := by decide +kernel
theorem dX4_release_25 : decode cX4_release 25 = .ok (.getfield 145, 3) := by decide +kernel
theorem dX4_release_28 : decode cX4_release 28 = .ok (.ireturn, 1) := by decide +kernel
theorem dX4_stove_0 : decode cX4_stove 0 = .ok (.aload_n 0, 1) := by decide +kernel
theorem dX4_stove_1 : decode cX4_stove 1 = .ok (.invokevirtual 156, 3) := by decide +kernel
theorem dX4_stove_4 : decode cX4_stove 4 = .ok (.ifCond .ne 6, 3) := by decide +kernel
theorem dX4_stove_7 : decode cX4_stove 7 = .ok (.bipush (-3), 2) := by decide +kernel
theorem dX4_stove_9 : decode cX4_stove 9 = .ok (.ireturn, 1) := by decide +kernel
theorem dX4_stove_10 : decode cX4_stove 10 = .ok (.iload_n 1, 1) := by decide +kernel
theorem dX4_stove_11 : decode cX4_stove 11 = .ok (.bipush (-9), 2) := by decide +kernel
theorem dX4_stove_13 : decode cX4_stove 13 = .ok (.if_icmp .ne 24, 3) := by decide +kernel
theorem dX4_stove_16 : decode cX4_stove 16 = .ok (.aload_n 0, 1) := by decide +kernel
theorem dX4_stove_17 : decode cX4_stove 17 = .ok (.getfield 21, 3) := by decide +kernel
theorem dX4_stove_20 : decode cX4_stove 20 = .ok (.bipush (-9), 2) := by decide +kernel
theorem dX4_stove_22 : decode cX4_stove 22 = .ok (.iconst 0, 1) := by decide +kernel
theorem dX4_stove_23 : decode cX4_stove 23 = .ok (.invokevirtual 160, 3) := by decide +kernel
theorem dX4_stove_26 : decode cX4_stove 26 = .ok (.aload_n 0, 1) := by decide +kernel
theorem dX4_stove_27 : decode cX4_stove 27 = .ok (.getfield 21, 3) := by decide +kernel
theorem dX4_stove_30 : decode cX4_stove 30 = .ok (.invokevirtual 104, 3) := by decide +kernel
theorem dX4_stove_33 : decode cX4_stove 33 = .ok (.invokestatic 164, 3) := by decide +kernel
theorem dX4_stove_36 : decode cX4_stove 36 = .ok (.ireturn, 1) := by decide +kernel
theorem dX4_stove_37 : decode cX4_stove 37 = .ok (.aload_n 0, 1) := by decide +kernel
theorem dX4_stove_38 : decode cX4_stove 38 = .ok (.getfield 21, 3) := by decide +kernel
theorem dX4_stove_41 : decode cX4_stove 41 = .ok (.iload_n 1, 1) := by decide +kernel
theorem dX4_stove_42 : decode cX4_stove 42 = .ok (.invokevirtual 127, 3) := by decide +kernel
theorem dX4_stove_45 : decode cX4_stove 45 = .ok (.ifCond .ne 5, 3) := by decide +kernel
theorem dX4_stove_48 : decode cX4_stove 48 = .ok (.iconst (-1), 1) := by decide +kernel
theorem dX4_stove_49 : decode cX4_stove 49 = .ok (.ireturn, 1) := by decide +kernel
theorem dX4_stove_50 : decode cX4_stove 50 = .ok (.iload_n 2, 1) := by decide +kernel
theorem dX4_stove_51 : decode cX4_stove 51 = .ok (.invokestatic 142, 3) := by decide +kernel
theorem dX4_stove_54 : decode cX4_stove 54 = .ok (.ifCond .ne 6, 3) := by decide +kernel
theorem dX4_stove_57 : decode cX4_stove 57 = .ok (.bipush (-2), 2) := by decide +kernel
theorem dX4_stove_59 : decode cX4_stove 59 = .ok (.ireturn, 1) := by decide +kernel
theorem dX4_stove_60 : decode cX4_stove 60 = .ok (.aload_n 0, 1) := by decide +kernel
theorem dX4_stove_61 : decode cX4_stove 61 = .ok (.getfield 21, 3) := by decide +kernel
theorem dX4_stove_64 : decode cX4_stove 64 = .ok (.iload_n 1, 1) := by decide +kernel
theorem dX4_stove_65 : decode cX4_stove 65 = .ok (.iload_n 2, 1) := by decide +kernel
theorem dX4_stove_66 : decode cX4_stove 66 = .ok (.invokevirtual 160, 3) := by decide +kernel
theorem dX4_stove_69 : decode cX4_stove 69 = .ok (.aload_n 0, 1) := by decide +kernel
theorem dX4_stove_70 : decode cX4_stove 70 = .ok (.getfield 21, 3) := by decide +kernel
theorem dX4_stove_73 : decode cX4_stove 73 = .ok (.invokevirtual 104, 3) := by decide +kernel
theorem dX4_stove_76 : decode cX4_stove 76 = .ok (.invokestatic 164, 3) := by decide +kernel
theorem dX4_stove_79 : decode cX4_stove 79 = .ok (.ireturn, 1) := by decide +kernel
theorem dX4_trial_0 : decode cX4_trial 0 = .ok (.aload_n 0, 1) := by decide +kernel
theorem dX4_trial_1 : decode cX4_trial 1 = .ok (.iconst 0, 1) := by decide +kernel
theorem dX4_trial_2 : decode cX4_trial 2 = .ok (.putfield 42, 3) := by decide +kernel
theorem dX4_trial_5 : decode cX4_trial 5 = .ok (.iload_n 1, 1) := by decide +kernel
theorem dX4_trial_6 : decode cX4_trial 6 = .ok (.invokestatic 46, 3) := by decide +kernel
theorem dX4_trial_9 : decode cX4_trial 9 = .ok (.ifCond .ne 5, 3) := by decide +kernel
theorem dX4_trial_12 : decode cX4_trial 12 = .ok (.iconst (-1), 1) := by decide +kernel
theorem dX4_trial_13 : decode cX4_trial 13 = .ok (.ireturn, 1) := by decide +kernel
theorem dX4_trial_14 : decode cX4_trial 14 = .ok (.iload_n 2, 1) := by decide +kernel
theorem dX4_trial_15 : decode cX4_trial 15 = .ok (.invokestatic 50, 3) := by decide +kernel
theorem dX4_trial_18 : decode cX4_trial 18 = .ok (.ifCond .eq 23, 3) := by decide +kernel
theorem dX4_trial_21 : decode cX4_trial 21 = .ok (.iload 4, 2) := by decide +kernel
theorem dX4_trial_23 : decode cX4_trial 23 = .ok (.ifCond .lt 18, 3) := by decide +kernel
theorem dX4_trial_26 : decode cX4_trial 26 = .ok (.iload 4, 2) := by decide +kernel
theorem dX4_trial_28 : decode cX4_trial 28 = .ok (.bipush 20, 2) := by decide +kernel
theorem dX4_trial_30 : decode cX4_trial 30 = .ok (.if_icmp .gt 11, 3) := by decide +kernel
theorem dX4_trial_33 : decode cX4_trial 33 = .ok (.iload 5, 2) := by decide +kernel
theorem dX4_trial_35 : decode cX4_trial 35 = .ok (.invokestatic 169, 3) := by decide +kernel
theorem dX4_trial_38 : decode cX4_trial 38 = .ok (.ifCond .ne 6, 3) := by decide +kernel
theorem dX4_trial_41 : decode cX4_trial 41 = .ok (.bipush (-2), 2) := by decide +kernel
theorem dX4_trial_43 : decode cX4_trial 43 = .ok (.ireturn, 1) := by decide +kernel
theorem dX4_trial_44 : decode cX4_trial 44 = .ok (.aload_n 0, 1) := by decide +kernel
theorem dX4_trial_45 : decode cX4_trial 45 = .ok (.getfield 13, 3) := by decide +kernel
theorem dX4_trial_48 : decode cX4_trial 48 = .ok (.iload_n 1, 1) := by decide +kernel
theorem dX4_trial_49 : decode cX4_trial 49 = .ok (.aaload, 1) := by decide +kernel
theorem dX4_trial_50 : decode cX4_trial 50 = .ok (.astore 6, 2) := by decide +kernel
theorem dX4_trial_52 : decode cX4_trial 52 = .ok (.aload 6, 2) := by decide +kernel
theorem dX4_trial_54 : decode cX4_trial 54 = .ok (.iload_n 2, 1) := by decide +kernel
theorem dX4_trial_55 : decode cX4_trial 55 = .ok (.invokevirtual 53, 3) := by decide +kernel
theorem dX4_trial_58 : decode cX4_trial 58 = .ok (.istore 7, 2) := by decide +kernel
theorem dX4_trial_60 : decode cX4_trial 60 = .ok (.iload 7, 2) := by decide +kernel
theorem dX4_trial_62 : decode cX4_trial 62 = .ok (.ifCond .ne 19, 3) := by decide +kernel
theorem dX4_trial_65 : decode cX4_trial 65 = .ok (.aload 6, 2) := by decide +kernel
theorem dX4_trial_67 : decode cX4_trial 67 = .ok (.iload_n 3, 1) := by decide +kernel
theorem dX4_trial_68 : decode cX4_trial 68 = .ok (.iconst 2, 1) := by decide +kernel
theorem dX4_trial_69 : decode cX4_trial 69 = .ok (.iload 4, 2) := by decide +kernel
theorem dX4_trial_71 : decode cX4_trial 71 = .ok (.imul, 1) := by decide +kernel
theorem dX4_trial_72 : decode cX4_trial 72 = .ok (.invokevirtual 57, 3) := by decide +kernel
theorem dX4_trial_75 : decode cX4_trial 75 = .ok (.ifCond .ne 6, 3) := by decide +kernel
theorem dX4_trial_78 : decode cX4_trial 78 = .ok (.iconst 3, 1) := by decide +kernel
theorem dX4_trial_79 : decode cX4_trial 79 = .ok (.istore 7, 2) := by decide +kernel
theorem dX4_trial_81 : decode cX4_trial 81 = .ok (.iload 7, 2) := by decide +kernel
theorem dX4_trial_83 : decode cX4_trial 83 = .ok (.ifCond .eq 10, 3) := by decide +kernel
theorem dX4_trial_86 : decode cX4_trial 86 = .ok (.aload_n 0, 1) := by decide +kernel
theorem dX4_trial_87 : decode cX4_trial 87 = .ok (.iload 7, 2) := by decide +kernel
theorem dX4_trial_89 : decode cX4_trial 89 = .ok (.invokevirtual 61, 3) := by decide +kernel
theorem dX4_trial_92 : decode cX4_trial 92 = .ok (.ireturn, 1) := by decide +kernel
theorem dX4_trial_93 : decode cX4_trial 93 = .ok (.aload_n 0, 1) := by decide +kernel
theorem dX4_trial_94 : decode cX4_trial 94 = .ok (.invokevirtual 156, 3) := by decide +kernel
theorem dX4_trial_97 : decode cX4_trial 97 = .ok (.ifCond .ne 6, 3) := by decide +kernel
theorem dX4_trial_100 : decode cX4_trial 100 = .ok (.bipush (-3), 2) := by decide +kernel
theorem dX4_trial_102 : decode cX4_trial 102 = .ok (.ireturn, 1) := by decide +kernel
theorem dX4_trial_103 : decode cX4_trial 103 = .ok (.aload 6, 2) := by decide +kernel
theorem dX4_trial_105 : decode cX4_trial 105 = .ok (.iload_n 3, 1) := by decide +kernel
theorem dX4_trial_106 : decode cX4_trial 106 = .ok (.iload 4, 2) := by decide +kernel
theorem dX4_trial_108 : decode cX4_trial 108 = .ok (.invokestatic 172, 3) := by decide +kernel
theorem dX4_trial_111 : decode cX4_trial 111 = .ok (.ifCond .ne 6, 3) := by decide +kernel
theorem dX4_trial_114 : decode cX4_trial 114 = .ok (.bipush (-2), 2) := by decide +kernel
theorem dX4_trial_116 : decode cX4_trial 116 = .ok (.ireturn, 1) := by decide +kernel
theorem dX4_trial_117 : decode cX4_trial 117 = .ok (.aload_n 0, 1) := by decide +kernel
theorem dX4_trial_118 : decode cX4_trial 118 = .ok (.getfield 25, 3) := by decide +kernel
theorem dX4_trial_121 : decode cX4_trial 121 = .ok (.aload_n 0, 1) := by decide +kernel
theorem dX4_trial_122 : decode cX4_trial 122 = .ok (.getfield 21, 3) := by decide +kernel
theorem dX4_trial_125 : decode cX4_trial 125 = .ok (.invokevirtual 75, 3) := by decide +kernel
theorem dX4_trial_128 : decode cX4_trial 128 = .ok (.aload_n 0, 1) := by decide +kernel
theorem dX4_trial_129 : decode cX4_trial 129 = .ok (.aload 6, 2) := by decide +kernel
theorem dX4_trial_131 : decode cX4_trial 131 = .ok (.iload_n 3, 1) := by decide +kernel
theorem dX4_trial_132 : decode cX4_trial 132 = .ok (.iload 4, 2) := by decide +kernel
theorem dX4_trial_134 : decode cX4_trial 134 = .ok (.invokevirtual 176, 3) := by decide +kernel
theorem dX4_trial_137 : decode cX4_trial 137 = .ok (.istore 8, 2) := by decide +kernel
theorem dX4_trial_139 : decode cX4_trial 139 = .ok (.iload 5, 2) := by decide +kernel
theorem dX4_trial_141 : decode cX4_trial 141 = .ok (.iconst 1, 1) := by decide +kernel
theorem dX4_trial_142 : decode cX4_trial 142 = .ok (.if_icmp .ne 6, 3) := by decide +kernel
theorem dX4_trial_145 : decode cX4_trial 145 = .ok (.iload 8, 2) := by decide +kernel
theorem dX4_trial_147 : decode cX4_trial 147 = .ok (.ireturn, 1) := by decide +kernel
theorem dX4_trial_148 : decode cX4_trial 148 = .ok (.iload 8, 2) := by decide +kernel
theorem dX4_trial_150 : decode cX4_trial 150 = .ok (.bipush (-9), 2) := by decide +kernel
theorem dX4_trial_152 : decode cX4_trial 152 = .ok (.if_icmp .ne 12, 3) := by decide +kernel
theorem dX4_trial_155 : decode cX4_trial 155 = .ok (.aload_n 0, 1) := by decide +kernel
theorem dX4_trial_156 : decode cX4_trial 156 = .ok (.iload 5, 2) := by decide +kernel
theorem dX4_trial_158 : decode cX4_trial 158 = .ok (.invokevirtual 180, 3) := by decide +kernel
theorem dX4_trial_161 : decode cX4_trial 161 = .ok (.goto 8, 3) := by decide +kernel
theorem dX4_trial_164 : decode cX4_trial 164 = .ok (.bipush (-100), 2) := by decide +kernel
theorem dX4_trial_166 : decode cX4_trial 166 = .ok (.iload 8, 2) := by decide +kernel
theorem dX4_trial_168 : decode cX4_trial 168 = .ok (.isub, 1) := by decide +kernel
theorem dX4_trial_169 : decode cX4_trial 169 = .ok (.ireturn, 1) := by decide +kernel
theorem dX4_isOfTrial_0 : decode cX4_isOfTrial 0 = .ok (.iload_n 0, 1) := by decide +kernel
theorem dX4_isOfTrial_1 : decode cX4_isOfTrial 1 = .ok (.ifCond .lt 8, 3) := by decide +kernel
theorem dX4_isOfTrial_4 : decode cX4_isOfTrial 4 = .ok (.iload_n 0, 1) := by decide +kernel
theorem dX4_isOfTrial_5 : decode cX4_isOfTrial 5 = .ok (.iconst 4, 1) := by decide +kernel
theorem dX4_isOfTrial_6 : decode cX4_isOfTrial 6 = .ok (.if_icmp .le 15, 3) := by decide +kernel
theorem dX4_isOfTrial_9 : decode cX4_isOfTrial 9 = .ok (.iload_n 0, 1) := by decide +kernel
theorem dX4_isOfTrial_10 : decode cX4_isOfTrial 10 = .ok (.bipush 10, 2) := by decide +kernel
theorem dX4_isOfTrial_12 : decode cX4_isOfTrial 12 = .ok (.if_icmp .lt 13, 3) := by decide +kernel
theorem dX4_isOfTrial_15 : decode cX4_isOfTrial 15 = .ok (.iload_n 0, 1) := by decide +kernel
theorem dX4_isOfTrial_16 : decode cX4_isOfTrial 16 = .ok (.bipush 14, 2) := by decide +kernel
theorem dX4_isOfTrial_18 : decode cX4_isOfTrial 18 = .ok (.if_icmp .ge 7, 3) := by decide +kernel
theorem dX4_isOfTrial_21 : decode cX4_isOfTrial 21 = .ok (.iconst 1, 1) := by decide +kernel
theorem dX4_isOfTrial_22 : decode cX4_isOfTrial 22 = .ok (.goto 4, 3) := by decide +kernel
theorem dX4_isOfTrial_25 : decode cX4_isOfTrial 25 = .ok (.iconst 0, 1) := by decide +kernel
theorem dX4_isOfTrial_26 : decode cX4_isOfTrial 26 = .ok (.ireturn, 1) := by decide +kernel
theorem dX4_isCase_0 : decode cX4_isCase 0 = .ok (.iconst 0, 1) := by decide +kernel
theorem dX4_isCase_1 : decode cX4_isCase 1 = .ok (.istore_n 3, 1) := by decide +kernel
theorem dX4_isCase_2 : decode cX4_isCase 2 = .ok (.iload_n 3, 1) := by decide +kernel
theorem dX4_isCase_3 : decode cX4_isCase 3 = .ok (.iload_n 2, 1) := by decide +kernel
theorem dX4_isCase_4 : decode cX4_isCase 4 = .ok (.if_icmp .ge 37, 3) := by decide +kernel
theorem dX4_isCase_7 : decode cX4_isCase 7 = .ok (.aload_n 0, 1) := by decide +kernel
theorem dX4_isCase_8 : decode cX4_isCase 8 = .ok (.iload_n 1, 1) := by decide +kernel
theorem dX4_isCase_9 : decode cX4_isCase 9 = .ok (.iconst 2, 1) := by decide +kernel
theorem dX4_isCase_10 : decode cX4_isCase 10 = .ok (.iload_n 3, 1) := by decide +kernel
theorem dX4_isCase_11 : decode cX4_isCase 11 = .ok (.imul, 1) := by decide +kernel
theorem dX4_isCase_12 : decode cX4_isCase 12 = .ok (.iadd, 1) := by decide +kernel
theorem dX4_isCase_13 : decode cX4_isCase 13 = .ok (.invokevirtual 183, 3) := by decide +kernel
theorem dX4_isCase_16 : decode cX4_isCase 16 = .ok (.aload_n 0, 1) := by decide +kernel
theorem dX4_isCase_17 : decode cX4_isCase 17 = .ok (.iload_n 1, 1) := by decide +kernel
theorem dX4_isCase_18 : decode cX4_isCase 18 = .ok (.iconst 2, 1) := by decide +kernel
theorem dX4_isCase_19 : decode cX4_isCase 19 = .ok (.iload_n 3, 1) := by decide +kernel
theorem dX4_isCase_20 : decode cX4_isCase 20 = .ok (.imul, 1) := by decide +kernel
theorem dX4_isCase_21 : decode cX4_isCase 21 = .ok (.iadd, 1) := by decide +kernel
theorem dX4_isCase_22 : decode cX4_isCase 22 = .ok (.iconst 1, 1) := by decide +kernel
theorem dX4_isCase_23 : decode cX4_isCase 23 = .ok (.iadd, 1) := by decide +kernel
theorem dX4_isCase_24 : decode cX4_isCase 24 = .ok (.invokevirtual 183, 3) := by decide +kernel
theorem dX4_isCase_27 : decode cX4_isCase 27 = .ok (.invokestatic 186, 3) := by decide +kernel
theorem dX4_isCase_30 : decode cX4_isCase 30 = .ok (.ifCond .ne 5, 3) := by decide +kernel
theorem dX4_isCase_33 : decode cX4_isCase 33 = .ok (.iconst 0, 1) := by decide +kernel
theorem dX4_isCase_34 : decode cX4_isCase 34 = .ok (.ireturn, 1) := by decide +kernel
theorem dX4_isCase_35 : decode cX4_isCase 35 = .ok (.iinc 3 1, 3) := by decide +kernel
theorem dX4_isCase_38 : decode cX4_isCase 38 = .ok (.goto (-36), 3) := by decide +kernel
theorem dX4_isCase_41 : decode cX4_isCase 41 = .ok (.iconst 1, 1) := by decide +kernel
theorem dX4_isCase_42 : decode cX4_isCase 42 = .ok (.ireturn, 1) := by decide +kernel
theorem dX4_isAct_0 : decode cX4_isAct 0 = .ok (.iload_n 1, 1) := by decide +kernel
theorem dX4_isAct_1 : decode cX4_isAct 1 = .ok (.ifCond .lt 9, 3) := by decide +kernel
theorem dX4_isAct_4 : decode cX4_isAct 4 = .ok (.iload_n 1, 1) := by decide +kernel
theorem dX4_isAct_5 : decode cX4_isAct 5 = .ok (.bipush 17, 2) := by decide +kernel
theorem dX4_isAct_7 : decode cX4_isAct 7 = .ok (.if_icmp .le 5, 3) := by decide +kernel
theorem dX4_isAct_10 : decode cX4_isAct 10 = .ok (.iconst 0, 1) := by decide +kernel
theorem dX4_isAct_11 : decode cX4_isAct 11 = .ok (.ireturn, 1) := by decide +kernel
theorem dX4_isAct_12 : decode cX4_isAct 12 = .ok (.bipush 9, 2) := by decide +kernel
theorem dX4_isAct_14 : decode cX4_isAct 14 = .ok (.istore_n 2, 1) := by decide +kernel
theorem dX4_isAct_15 : decode cX4_isAct 15 = .ok (.iload_n 1, 1) := by decide +kernel
theorem dX4_isAct_16 : decode cX4_isAct 16 = .ok (.bipush 10, 2) := by decide +kernel
theorem dX4_isAct_18 : decode cX4_isAct 18 = .ok (.if_icmp .ne 8, 3) := by decide +kernel
theorem dX4_isAct_21 : decode cX4_isAct 21 = .ok (.iconst 5, 1) := by decide +kernel
theorem dX4_isAct_22 : decode cX4_isAct 22 = .ok (.istore_n 2, 1) := by decide +kernel
theorem dX4_isAct_23 : decode cX4_isAct 23 = .ok (.goto 11, 3) := by decide +kernel
theorem dX4_isAct_26 : decode cX4_isAct 26 = .ok (.iload_n 1, 1) := by decide +kernel
theorem dX4_isAct_27 : decode cX4_isAct 27 = .ok (.bipush 17, 2) := by decide +kernel
theorem dX4_isAct_29 : decode cX4_isAct 29 = .ok (.if_icmp .ne 5, 3) := by decide +kernel
theorem dX4_isAct_32 : decode cX4_isAct 32 = .ok (.iconst 0, 1) := by decide +kernel
theorem dX4_isAct_33 : decode cX4_isAct 33 = .ok (.istore_n 2, 1) := by decide +kernel
theorem dX4_isAct_34 : decode cX4_isAct 34 = .ok (.iload_n 0, 1) := by decide +kernel
theorem dX4_isAct_35 : decode cX4_isAct 35 = .ok (.ifCond .lt 12, 3) := by decide +kernel
theorem dX4_isAct_38 : decode cX4_isAct 38 = .ok (.iload_n 0, 1) := by decide +kernel
theorem dX4_isAct_39 : decode cX4_isAct 39 = .ok (.iload_n 2, 1) := by decide +kernel
theorem dX4_isAct_40 : decode cX4_isAct 40 = .ok (.if_icmp .gt 7, 3) := by decide +kernel
theorem dX4_isAct_43 : decode cX4_isAct 43 = .ok (.iconst 1, 1) := by decide +kernel
theorem dX4_isAct_44 : decode cX4_isAct 44 = .ok (.goto 4, 3) := by decide +kernel
theorem dX4_isAct_47 : decode cX4_isAct 47 = .ok (.iconst 0, 1) := by decide +kernel
theorem dX4_isAct_48 : decode cX4_isAct 48 = .ok (.ireturn, 1) := by decide +kernel
theorem dX4_playCase_0 : decode cX4_playCase 0 = .ok (.iconst 0, 1) := by decide +kernel
theorem dX4_playCase_1 : decode cX4_playCase 1 = .ok (.istore 4, 2) := by decide +kernel
theorem dX4_playCase_3 : decode cX4_playCase 3 = .ok (.iload 4, 2) := by decide +kernel
theorem dX4_playCase_5 : decode cX4_playCase 5 = .ok (.iload_n 3, 1) := by decide +kernel
theorem dX4_playCase_6 : decode cX4_playCase 6 = .ok (.if_icmp .ge 44, 3) := by decide +kernel
theorem dX4_playCase_9 : decode cX4_playCase 9 = .ok (.aload_n 0, 1) := by decide +kernel
theorem dX4_playCase_10 : decode cX4_playCase 10 = .ok (.getfield 25, 3) := by decide +kernel
theorem dX4_playCase_13 : decode cX4_playCase 13 = .ok (.aload_n 1, 1) := by decide +kernel
theorem dX4_playCase_14 : decode cX4_playCase 14 = .ok (.iload_n 2, 1) := by decide +kernel
theorem dX4_playCase_15 : decode cX4_playCase 15 = .ok (.iconst 2, 1) := by decide +kernel
theorem dX4_playCase_16 : decode cX4_playCase 16 = .ok (.iload 4, 2) := by decide +kernel
theorem dX4_playCase_18 : decode cX4_playCase 18 = .ok (.imul, 1) := by decide +kernel
theorem dX4_playCase_19 : decode cX4_playCase 19 = .ok (.iadd, 1) := by decide +kernel
theorem dX4_playCase_20 : decode cX4_playCase 20 = .ok (.invokevirtual 183, 3) := by decide +kernel
theorem dX4_playCase_23 : decode cX4_playCase 23 = .ok (.aload_n 1, 1) := by decide +kernel
theorem dX4_playCase_24 : decode cX4_playCase 24 = .ok (.iload_n 2, 1) := by decide +kernel
theorem dX4_playCase_25 : decode cX4_playCase 25 = .ok (.iconst 2, 1) := by decide +kernel
theorem dX4_playCase_26 : decode cX4_playCase 26 = .ok (.iload 4, 2) := by decide +kernel
theorem dX4_playCase_28 : decode cX4_playCase 28 = .ok (.imul, 1) := by decide +kernel
theorem dX4_playCase_29 : decode cX4_playCase 29 = .ok (.iadd, 1) := by decide +kernel
theorem dX4_playCase_30 : decode cX4_playCase 30 = .ok (.iconst 1, 1) := by decide +kernel
theorem dX4_playCase_31 : decode cX4_playCase 31 = .ok (.iadd, 1) := by decide +kernel
theorem dX4_playCase_32 : decode cX4_playCase 32 = .ok (.invokevirtual 183, 3) := by decide +kernel
theorem dX4_playCase_35 : decode cX4_playCase 35 = .ok (.invokevirtual 189, 3) := by decide +kernel
theorem dX4_playCase_38 : decode cX4_playCase 38 = .ok (.ifCond .ne 6, 3) := by decide +kernel
theorem dX4_playCase_41 : decode cX4_playCase 41 = .ok (.iload 4, 2) := by decide +kernel
theorem dX4_playCase_43 : decode cX4_playCase 43 = .ok (.ireturn, 1) := by decide +kernel
theorem dX4_playCase_44 : decode cX4_playCase 44 = .ok (.iinc 4 1, 3) := by decide +kernel
theorem dX4_playCase_47 : decode cX4_playCase 47 = .ok (.goto (-44), 3) := by decide +kernel
theorem dX4_playCase_50 : decode cX4_playCase 50 = .ok (.bipush (-9), 2) := by decide +kernel
theorem dX4_playCase_52 : decode cX4_playCase 52 = .ok (.ireturn, 1) := by decide +kernel
theorem dX4_ofCase_0 : decode cX4_ofCase 0 = .ok (.iload_n 1, 1) := by decide +kernel
theorem dX4_ofCase_1 : decode cX4_ofCase 1 = .ok (.tableswitch 70 0 4 #[35, 70, 43, 51, 59], 35) := by decide +kernel
theorem dX4_ofCase_36 : decode cX4_ofCase 36 = .ok (.aload_n 0, 1) := by decide +kernel
theorem dX4_ofCase_37 : decode cX4_ofCase 37 = .ok (.getfield 25, 3) := by decide +kernel
theorem dX4_ofCase_40 : decode cX4_ofCase 40 = .ok (.invokevirtual 104, 3) := by decide +kernel
theorem dX4_ofCase_43 : decode cX4_ofCase 43 = .ok (.ireturn, 1) := by decide +kernel
theorem dX4_ofCase_44 : decode cX4_ofCase 44 = .ok (.aload_n 0, 1) := by decide +kernel
theorem dX4_ofCase_45 : decode cX4_ofCase 45 = .ok (.getfield 25, 3) := by decide +kernel
theorem dX4_ofCase_48 : decode cX4_ofCase 48 = .ok (.getfield 145, 3) := by decide +kernel
theorem dX4_ofCase_51 : decode cX4_ofCase 51 = .ok (.ireturn, 1) := by decide +kernel
theorem dX4_ofCase_52 : decode cX4_ofCase 52 = .ok (.aload_n 0, 1) := by decide +kernel
theorem dX4_ofCase_53 : decode cX4_ofCase 53 = .ok (.getfield 25, 3) := by decide +kernel
theorem dX4_ofCase_56 : decode cX4_ofCase 56 = .ok (.invokevirtual 192, 3) := by decide +kernel
theorem dX4_ofCase_59 : decode cX4_ofCase 59 = .ok (.ireturn, 1) := by decide +kernel
theorem dX4_ofCase_60 : decode cX4_ofCase 60 = .ok (.aload_n 0, 1) := by decide +kernel
theorem dX4_ofCase_61 : decode cX4_ofCase 61 = .ok (.getfield 25, 3) := by decide +kernel
theorem dX4_ofCase_64 : decode cX4_ofCase 64 = .ok (.invokevirtual 195, 3) := by decide +kernel
theorem dX4_ofCase_67 : decode cX4_ofCase 67 = .ok (.invokestatic 164, 3) := by decide +kernel
theorem dX4_ofCase_70 : decode cX4_ofCase 70 = .ok (.ireturn, 1) := by decide +kernel
theorem dX4_ofCase_71 : decode cX4_ofCase 71 = .ok (.aload_n 0, 1) := by decide +kernel
theorem dX4_ofCase_72 : decode cX4_ofCase 72 = .ok (.getfield 25, 3) := by decide +kernel
theorem dX4_ofCase_75 : decode cX4_ofCase 75 = .ok (.iload_n 1, 1) := by decide +kernel
theorem dX4_ofCase_76 : decode cX4_ofCase 76 = .ok (.bipush 10, 2) := by decide +kernel
theorem dX4_ofCase_78 : decode cX4_ofCase 78 = .ok (.isub, 1) := by decide +kernel
theorem dX4_ofCase_79 : decode cX4_ofCase 79 = .ok (.invokevirtual 85, 3) := by decide +kernel
theorem dX4_ofCase_82 : decode cX4_ofCase 82 = .ok (.ifCond .eq 17, 3) := by decide +kernel
theorem dX4_ofCase_85 : decode cX4_ofCase 85 = .ok (.aload_n 0, 1) := by decide +kernel
theorem dX4_ofCase_86 : decode cX4_ofCase 86 = .ok (.getfield 25, 3) := by decide +kernel
theorem dX4_ofCase_89 : decode cX4_ofCase 89 = .ok (.iload_n 1, 1) := by decide +kernel
theorem dX4_ofCase_90 : decode cX4_ofCase 90 = .ok (.bipush 10, 2) := by decide +kernel
theorem dX4_ofCase_92 : decode cX4_ofCase 92 = .ok (.isub, 1) := by decide +kernel
theorem dX4_ofCase_93 : decode cX4_ofCase 93 = .ok (.invokevirtual 98, 3) := by decide +kernel
theorem dX4_ofCase_96 : decode cX4_ofCase 96 = .ok (.goto 5, 3) := by decide +kernel
theorem dX4_ofCase_99 : decode cX4_ofCase 99 = .ok (.bipush (-9), 2) := by decide +kernel
theorem dX4_ofCase_101 : decode cX4_ofCase 101 = .ok (.ireturn, 1) := by decide +kernel
theorem dX4_bound_0 : decode cX4_bound 0 = .ok (.aload_n 0, 1) := by decide +kernel
theorem dX4_bound_1 : decode cX4_bound 1 = .ok (.getfield 21, 3) := by decide +kernel
theorem dX4_bound_4 : decode cX4_bound 4 = .ok (.iload_n 1, 1) := by decide +kernel
theorem dX4_bound_5 : decode cX4_bound 5 = .ok (.invokevirtual 85, 3) := by decide +kernel
theorem dX4_bound_8 : decode cX4_bound 8 = .ok (.ifCond .eq 14, 3) := by decide +kernel
theorem dX4_bound_11 : decode cX4_bound 11 = .ok (.aload_n 0, 1) := by decide +kernel
theorem dX4_bound_12 : decode cX4_bound 12 = .ok (.getfield 21, 3) := by decide +kernel
theorem dX4_bound_15 : decode cX4_bound 15 = .ok (.iload_n 2, 1) := by decide +kernel
theorem dX4_bound_16 : decode cX4_bound 16 = .ok (.invokevirtual 85, 3) := by decide +kernel
theorem dX4_bound_19 : decode cX4_bound 19 = .ok (.ifCond .ne 5, 3) := by decide +kernel
theorem dX4_bound_22 : decode cX4_bound 22 = .ok (.iconst (-1), 1) := by decide +kernel
theorem dX4_bound_23 : decode cX4_bound 23 = .ok (.ireturn, 1) := by decide +kernel
theorem dX4_bound_24 : decode cX4_bound 24 = .ok (.aload_n 0, 1) := by decide +kernel
theorem dX4_bound_25 : decode cX4_bound 25 = .ok (.getfield 21, 3) := by decide +kernel
theorem dX4_bound_28 : decode cX4_bound 28 = .ok (.iload_n 1, 1) := by decide +kernel
theorem dX4_bound_29 : decode cX4_bound 29 = .ok (.iload_n 2, 1) := by decide +kernel
theorem dX4_bound_30 : decode cX4_bound 30 = .ok (.invokevirtual 198, 3) := by decide +kernel
theorem dX4_bound_33 : decode cX4_bound 33 = .ok (.ireturn, 1) := by decide +kernel
theorem dX4_together_0 : decode cX4_together 0 = .ok (.aload_n 0, 1) := by decide +kernel
theorem dX4_together_1 : decode cX4_together 1 = .ok (.iload_n 1, 1) := by decide +kernel
theorem dX4_together_2 : decode cX4_together 2 = .ok (.invokevirtual 201, 3) := by decide +kernel
theorem dX4_together_5 : decode cX4_together 5 = .ok (.istore_n 2, 1) := by decide +kernel
theorem dX4_together_6 : decode cX4_together 6 = .ok (.iload_n 2, 1) := by decide +kernel
theorem dX4_together_7 : decode cX4_together 7 = .ok (.ifCond .eq 5, 3) := by decide +kernel
theorem dX4_together_10 : decode cX4_together 10 = .ok (.iload_n 2, 1) := by decide +kernel
theorem dX4_together_11 : decode cX4_together 11 = .ok (.ireturn, 1) := by decide +kernel
theorem dX4_together_12 : decode cX4_together 12 = .ok (.iconst 0, 1) := by decide +kernel
theorem dX4_together_13 : decode cX4_together 13 = .ok (.istore_n 3, 1) := by decide +kernel
theorem dX4_together_14 : decode cX4_together 14 = .ok (.iload_n 3, 1) := by decide +kernel
theorem dX4_together_15 : decode cX4_together 15 = .ok (.aload_n 0, 1) := by decide +kernel
theorem dX4_together_16 : decode cX4_together 16 = .ok (.getfield 21, 3) := by decide +kernel
theorem dX4_together_19 : decode cX4_together 19 = .ok (.getfield 204, 3) := by decide +kernel
theorem dX4_together_22 : decode cX4_together 22 = .ok (.if_icmp .ge 26, 3) := by decide +kernel
theorem dX4_together_25 : decode cX4_together 25 = .ok (.iload_n 1, 1) := by decide +kernel
theorem dX4_together_26 : decode cX4_together 26 = .ok (.aload_n 0, 1) := by decide +kernel
theorem dX4_together_27 : decode cX4_together 27 = .ok (.getfield 21, 3) := by decide +kernel
theorem dX4_together_30 : decode cX4_together 30 = .ok (.iload_n 3, 1) := by decide +kernel
theorem dX4_together_31 : decode cX4_together 31 = .ok (.invokevirtual 139, 3) := by decide +kernel
theorem dX4_together_34 : decode cX4_together 34 = .ok (.iconst (-1), 1) := by decide +kernel
theorem dX4_together_35 : decode cX4_together 35 = .ok (.ixor, 1) := by decide +kernel
theorem dX4_together_36 : decode cX4_together 36 = .ok (.iand, 1) := by decide +kernel
theorem dX4_together_37 : decode cX4_together 37 = .ok (.ifCond .ne 5, 3) := by decide +kernel
theorem dX4_together_40 : decode cX4_together 40 = .ok (.iload_n 3, 1) := by decide +kernel
theorem dX4_together_41 : decode cX4_together 41 = .ok (.ireturn, 1) := by decide +kernel
theorem dX4_together_42 : decode cX4_together 42 = .ok (.iinc 3 1, 3) := by decide +kernel
theorem dX4_together_45 : decode cX4_together 45 = .ok (.goto (-31), 3) := by decide +kernel
theorem dX4_together_48 : decode cX4_together 48 = .ok (.bipush (-9), 2) := by decide +kernel
theorem dX4_together_50 : decode cX4_together 50 = .ok (.ireturn, 1) := by decide +kernel
theorem dX4_coated_0 : decode cX4_coated 0 = .ok (.aload_n 0, 1) := by decide +kernel
theorem dX4_coated_1 : decode cX4_coated 1 = .ok (.iload_n 1, 1) := by decide +kernel
theorem dX4_coated_2 : decode cX4_coated 2 = .ok (.invokevirtual 201, 3) := by decide +kernel
theorem dX4_coated_5 : decode cX4_coated 5 = .ok (.istore_n 2, 1) := by decide +kernel
theorem dX4_coated_6 : decode cX4_coated 6 = .ok (.iload_n 2, 1) := by decide +kernel
theorem dX4_coated_7 : decode cX4_coated 7 = .ok (.ifCond .eq 5, 3) := by decide +kernel
theorem dX4_coated_10 : decode cX4_coated 10 = .ok (.iload_n 2, 1) := by decide +kernel
theorem dX4_coated_11 : decode cX4_coated 11 = .ok (.ireturn, 1) := by decide +kernel
theorem dX4_coated_12 : decode cX4_coated 12 = .ok (.iconst 0, 1) := by decide +kernel
theorem dX4_coated_13 : decode cX4_coated 13 = .ok (.istore_n 3, 1) := by decide +kernel
theorem dX4_coated_14 : decode cX4_coated 14 = .ok (.iload_n 3, 1) := by decide +kernel
theorem dX4_coated_15 : decode cX4_coated 15 = .ok (.aload_n 0, 1) := by decide +kernel
theorem dX4_coated_16 : decode cX4_coated 16 = .ok (.getfield 21, 3) := by decide +kernel
theorem dX4_coated_19 : decode cX4_coated 19 = .ok (.getfield 82, 3) := by decide +kernel
theorem dX4_coated_22 : decode cX4_coated 22 = .ok (.if_icmp .ge 30, 3) := by decide +kernel
theorem dX4_coated_25 : decode cX4_coated 25 = .ok (.iload_n 1, 1) := by decide +kernel
theorem dX4_coated_26 : decode cX4_coated 26 = .ok (.iload_n 3, 1) := by decide +kernel
theorem dX4_coated_27 : decode cX4_coated 27 = .ok (.invokestatic 207, 3) := by decide +kernel
theorem dX4_coated_30 : decode cX4_coated 30 = .ok (.ifCond .eq 16, 3) := by decide +kernel
theorem dX4_coated_33 : decode cX4_coated 33 = .ok (.aload_n 0, 1) := by decide +kernel
theorem dX4_coated_34 : decode cX4_coated 34 = .ok (.getfield 21, 3) := by decide +kernel
theorem dX4_coated_37 : decode cX4_coated 37 = .ok (.iload_n 3, 1) := by decide +kernel
theorem dX4_coated_38 : decode cX4_coated 38 = .ok (.invokevirtual 98, 3) := by decide +kernel
theorem dX4_coated_41 : decode cX4_coated 41 = .ok (.ifCond .ne 5, 3) := by decide +kernel
theorem dX4_coated_44 : decode cX4_coated 44 = .ok (.iload_n 3, 1) := by decide +kernel
theorem dX4_coated_45 : decode cX4_coated 45 = .ok (.ireturn, 1) := by decide +kernel
theorem dX4_coated_46 : decode cX4_coated 46 = .ok (.iinc 3 1, 3) := by decide +kernel
theorem dX4_coated_49 : decode cX4_coated 49 = .ok (.goto (-35), 3) := by decide +kernel
theorem dX4_coated_52 : decode cX4_coated 52 = .ok (.bipush (-9), 2) := by decide +kernel
theorem dX4_coated_54 : decode cX4_coated 54 = .ok (.ireturn, 1) := by decide +kernel
theorem dX4_refusalOfSwearers_0 : decode cX4_refusalOfSwearers 0 = .ok (.iload_n 1, 1) := by decide +kernel
theorem dX4_refusalOfSwearers_1 : decode cX4_refusalOfSwearers 1 = .ok (.ifCond .lt 9, 3) := by decide +kernel
theorem dX4_refusalOfSwearers_4 : decode cX4_refusalOfSwearers 4 = .ok (.iload_n 1, 1) := by decide +kernel
theorem dX4_refusalOfSwearers_5 : decode cX4_refusalOfSwearers 5 = .ok (.bipush 16, 2) := by decide +kernel
theorem dX4_refusalOfSwearers_7 : decode cX4_refusalOfSwearers 7 = .ok (.if_icmp .lt 6, 3) := by decide +kernel
theorem dX4_refusalOfSwearers_10 : decode cX4_refusalOfSwearers 10 = .ok (.bipush (-2), 2) := by decide +kernel
theorem dX4_refusalOfSwearers_12 : decode cX4_refusalOfSwearers 12 = .ok (.ireturn, 1) := by decide +kernel
theorem dX4_refusalOfSwearers_13 : decode cX4_refusalOfSwearers 13 = .ok (.aload_n 0, 1) := by decide +kernel
theorem dX4_refusalOfSwearers_14 : decode cX4_refusalOfSwearers 14 = .ok (.invokevirtual 156, 3) := by decide +kernel
theorem dX4_refusalOfSwearers_17 : decode cX4_refusalOfSwearers 17 = .ok (.ifCond .ne 6, 3) := by decide +kernel
theorem dX4_refusalOfSwearers_20 : decode cX4_refusalOfSwearers 20 = .ok (.bipush (-3), 2) := by decide +kernel
theorem dX4_refusalOfSwearers_22 : decode cX4_refusalOfSwearers 22 = .ok (.ireturn, 1) := by decide +kernel
theorem dX4_refusalOfSwearers_23 : decode cX4_refusalOfSwearers 23 = .ok (.iload_n 1, 1) := by decide +kernel
theorem dX4_refusalOfSwearers_24 : decode cX4_refusalOfSwearers 24 = .ok (.iconst 1, 1) := by decide +kernel
theorem dX4_refusalOfSwearers_25 : decode cX4_refusalOfSwearers 25 = .ok (.aload_n 0, 1) := by decide +kernel
theorem dX4_refusalOfSwearers_26 : decode cX4_refusalOfSwearers 26 = .ok (.getfield 21, 3) := by decide +kernel
theorem dX4_refusalOfSwearers_29 : decode cX4_refusalOfSwearers 29 = .ok (.getfield 82, 3) := by decide +kernel
theorem dX4_refusalOfSwearers_32 : decode cX4_refusalOfSwearers 32 = .ok (.ishl, 1) := by decide +kernel
theorem dX4_refusalOfSwearers_33 : decode cX4_refusalOfSwearers 33 = .ok (.if_icmp .lt 7, 3) := by decide +kernel
theorem dX4_refusalOfSwearers_36 : decode cX4_refusalOfSwearers 36 = .ok (.iconst (-1), 1) := by decide +kernel
theorem dX4_refusalOfSwearers_37 : decode cX4_refusalOfSwearers 37 = .ok (.goto 4, 3) := by decide +kernel
theorem dX4_refusalOfSwearers_40 : decode cX4_refusalOfSwearers 40 = .ok (.iconst 0, 1) := by decide +kernel
theorem dX4_refusalOfSwearers_41 : decode cX4_refusalOfSwearers 41 = .ok (.ireturn, 1) := by decide +kernel
theorem dX4_letgo_0 : decode cX4_letgo 0 = .ok (.iload_n 1, 1) := by decide +kernel
theorem dX4_letgo_1 : decode cX4_letgo 1 = .ok (.ifCond .lt 8, 3) := by decide +kernel
theorem dX4_letgo_4 : decode cX4_letgo 4 = .ok (.iload_n 1, 1) := by decide +kernel
theorem dX4_letgo_5 : decode cX4_letgo 5 = .ok (.iconst 1, 1) := by decide +kernel
theorem dX4_letgo_6 : decode cX4_letgo 6 = .ok (.if_icmp .le 6, 3) := by decide +kernel
theorem dX4_letgo_9 : decode cX4_letgo 9 = .ok (.bipush (-2), 2) := by decide +kernel
theorem dX4_letgo_11 : decode cX4_letgo 11 = .ok (.ireturn, 1) := by decide +kernel
theorem dX4_letgo_12 : decode cX4_letgo 12 = .ok (.aload_n 0, 1) := by decide +kernel
theorem dX4_letgo_13 : decode cX4_letgo 13 = .ok (.invokevirtual 156, 3) := by decide +kernel
theorem dX4_letgo_16 : decode cX4_letgo 16 = .ok (.ifCond .ne 6, 3) := by decide +kernel
theorem dX4_letgo_19 : decode cX4_letgo 19 = .ok (.bipush (-3), 2) := by decide +kernel
theorem dX4_letgo_21 : decode cX4_letgo 21 = .ok (.ireturn, 1) := by decide +kernel
theorem dX4_letgo_22 : decode cX4_letgo 22 = .ok (.aload_n 0, 1) := by decide +kernel
theorem dX4_letgo_23 : decode cX4_letgo 23 = .ok (.getfield 21, 3) := by decide +kernel
theorem dX4_letgo_26 : decode cX4_letgo 26 = .ok (.invokevirtual 195, 3) := by decide +kernel
theorem dX4_letgo_29 : decode cX4_letgo 29 = .ok (.istore_n 2, 1) := by decide +kernel
theorem dX4_letgo_30 : decode cX4_letgo 30 = .ok (.iload_n 1, 1) := by decide +kernel
theorem dX4_letgo_31 : decode cX4_letgo 31 = .ok (.ifCond .ne 10, 3) := by decide +kernel
theorem dX4_letgo_34 : decode cX4_letgo 34 = .ok (.iload_n 2, 1) := by decide +kernel
theorem dX4_letgo_35 : decode cX4_letgo 35 = .ok (.invokestatic 164, 3) := by decide +kernel
theorem dX4_letgo_38 : decode cX4_letgo 38 = .ok (.goto 4, 3) := by decide +kernel
theorem dX4_letgo_41 : decode cX4_letgo 41 = .ok (.iload_n 2, 1) := by decide +kernel
theorem dX4_letgo_42 : decode cX4_letgo 42 = .ok (.ireturn, 1) := by decide +kernel
theorem dX4_stoves_0 : decode cX4_stoves 0 = .ok (.iload_n 1, 1) := by decide +kernel
theorem dX4_stoves_1 : decode cX4_stoves 1 = .ok (.ifCond .lt 18, 3) := by decide +kernel
theorem dX4_stoves_4 : decode cX4_stoves 4 = .ok (.iload_n 1, 1) := by decide +kernel
theorem dX4_stoves_5 : decode cX4_stoves 5 = .ok (.bipush 64, 2) := by decide +kernel
theorem dX4_stoves_7 : decode cX4_stoves 7 = .ok (.if_icmp .ge 12, 3) := by decide +kernel
theorem dX4_stoves_10 : decode cX4_stoves 10 = .ok (.iload_n 2, 1) := by decide +kernel
theorem dX4_stoves_11 : decode cX4_stoves 11 = .ok (.ifCond .lt 8, 3) := by decide +kernel
theorem dX4_stoves_14 : decode cX4_stoves 14 = .ok (.iload_n 2, 1) := by decide +kernel
theorem dX4_stoves_15 : decode cX4_stoves 15 = .ok (.iconst 2, 1) := by decide +kernel
theorem dX4_stoves_16 : decode cX4_stoves 16 = .ok (.if_icmp .le 6, 3) := by decide +kernel
theorem dX4_stoves_19 : decode cX4_stoves 19 = .ok (.bipush (-2), 2) := by decide +kernel
theorem dX4_stoves_21 : decode cX4_stoves 21 = .ok (.ireturn, 1) := by decide +kernel
theorem dX4_stoves_22 : decode cX4_stoves 22 = .ok (.aload_n 0, 1) := by decide +kernel
theorem dX4_stoves_23 : decode cX4_stoves 23 = .ok (.invokevirtual 156, 3) := by decide +kernel
theorem dX4_stoves_26 : decode cX4_stoves 26 = .ok (.ifCond .ne 6, 3) := by decide +kernel
theorem dX4_stoves_29 : decode cX4_stoves 29 = .ok (.bipush (-3), 2) := by decide +kernel
theorem dX4_stoves_31 : decode cX4_stoves 31 = .ok (.ireturn, 1) := by decide +kernel
theorem dX4_stoves_32 : decode cX4_stoves 32 = .ok (.iload_n 1, 1) := by decide +kernel
theorem dX4_stoves_33 : decode cX4_stoves 33 = .ok (.iconst 1, 1) := by decide +kernel
theorem dX4_stoves_34 : decode cX4_stoves 34 = .ok (.aload_n 0, 1) := by decide +kernel
theorem dX4_stoves_35 : decode cX4_stoves 35 = .ok (.getfield 21, 3) := by decide +kernel
theorem dX4_stoves_38 : decode cX4_stoves 38 = .ok (.getfield 145, 3) := by decide +kernel
theorem dX4_stoves_41 : decode cX4_stoves 41 = .ok (.ishl, 1) := by decide +kernel
theorem dX4_stoves_42 : decode cX4_stoves 42 = .ok (.if_icmp .lt 5, 3) := by decide +kernel
theorem dX4_stoves_45 : decode cX4_stoves 45 = .ok (.iconst (-1), 1) := by decide +kernel
theorem dX4_stoves_46 : decode cX4_stoves 46 = .ok (.ireturn, 1) := by decide +kernel
theorem dX4_stoves_47 : decode cX4_stoves 47 = .ok (.aload_n 0, 1) := by decide +kernel
theorem dX4_stoves_48 : decode cX4_stoves 48 = .ok (.aload_n 0, 1) := by decide +kernel
theorem dX4_stoves_49 : decode cX4_stoves 49 = .ok (.getfield 21, 3) := by decide +kernel
theorem dX4_stoves_52 : decode cX4_stoves 52 = .ok (.invokevirtual 210, 3) := by decide +kernel
theorem dX4_stoves_55 : decode cX4_stoves 55 = .ok (.iload_n 1, 1) := by decide +kernel
theorem dX4_stoves_56 : decode cX4_stoves 56 = .ok (.iconst (-1), 1) := by decide +kernel
theorem dX4_stoves_57 : decode cX4_stoves 57 = .ok (.ixor, 1) := by decide +kernel
theorem dX4_stoves_58 : decode cX4_stoves 58 = .ok (.iand, 1) := by decide +kernel
theorem dX4_stoves_59 : decode cX4_stoves 59 = .ok (.iload_n 2, 1) := by decide +kernel
theorem dX4_stoves_60 : decode cX4_stoves 60 = .ok (.invokevirtual 213, 3) := by decide +kernel
theorem dX4_stoves_63 : decode cX4_stoves 63 = .ok (.ireturn, 1) := by decide +kernel
theorem dX4_stovesThatSpare_0 : decode cX4_stovesThatSpare 0 = .ok (.iconst 0, 1) := by decide +kernel
theorem dX4_stovesThatSpare_1 : decode cX4_stovesThatSpare 1 = .ok (.istore_n 3, 1) := by decide +kernel
theorem dX4_stovesThatSpare_2 : decode cX4_stovesThatSpare 2 = .ok (.bipush (-9), 2) := by decide +kernel
theorem dX4_stovesThatSpare_4 : decode cX4_stovesThatSpare 4 = .ok (.istore 4, 2) := by decide +kernel
theorem dX4_stovesThatSpare_6 : decode cX4_stovesThatSpare 6 = .ok (.bipush (-9), 2) := by decide +kernel
theorem dX4_stovesThatSpare_8 : decode cX4_stovesThatSpare 8 = .ok (.istore 5, 2) := by decide +kernel
theorem dX4_stovesThatSpare_10 : decode cX4_stovesThatSpare 10 = .ok (.aload_n 0, 1) := by decide +kernel
theorem dX4_stovesThatSpare_11 : decode cX4_stovesThatSpare 11 = .ok (.getfield 25, 3) := by decide +kernel
theorem dX4_stovesThatSpare_14 : decode cX4_stovesThatSpare 14 = .ok (.aload_n 0, 1) := by decide +kernel
theorem dX4_stovesThatSpare_15 : decode cX4_stovesThatSpare 15 = .ok (.getfield 21, 3) := by decide +kernel
theorem dX4_stovesThatSpare_18 : decode cX4_stovesThatSpare 18 = .ok (.invokevirtual 75, 3) := by decide +kernel
theorem dX4_stovesThatSpare_21 : decode cX4_stovesThatSpare 21 = .ok (.iconst 0, 1) := by decide +kernel
theorem dX4_stovesThatSpare_22 : decode cX4_stovesThatSpare 22 = .ok (.istore 6, 2) := by decide +kernel
theorem dX4_stovesThatSpare_24 : decode cX4_stovesThatSpare 24 = .ok (.iload 6, 2) := by decide +kernel
theorem dX4_stovesThatSpare_26 : decode cX4_stovesThatSpare 26 = .ok (.aload_n 0, 1) := by decide +kernel
theorem dX4_stovesThatSpare_27 : decode cX4_stovesThatSpare 27 = .ok (.getfield 21, 3) := by decide +kernel
theorem dX4_stovesThatSpare_30 : decode cX4_stovesThatSpare 30 = .ok (.getfield 204, 3) := by decide +kernel
theorem dX4_stovesThatSpare_33 : decode cX4_stovesThatSpare 33 = .ok (.if_icmp .ge 65, 3) := by decide +kernel
theorem dX4_stovesThatSpare_36 : decode cX4_stovesThatSpare 36 = .ok (.iconst 0, 1) := by decide +kernel
theorem dX4_stovesThatSpare_37 : decode cX4_stovesThatSpare 37 = .ok (.istore 7, 2) := by decide +kernel
theorem dX4_stovesThatSpare_39 : decode cX4_stovesThatSpare 39 = .ok (.iload 7, 2) := by decide +kernel
theorem dX4_stovesThatSpare_41 : decode cX4_stovesThatSpare 41 = .ok (.bipush 9, 2) := by decide +kernel
theorem dX4_stovesThatSpare_43 : decode cX4_stovesThatSpare 43 = .ok (.if_icmp .gt 49, 3) := by decide +kernel
theorem dX4_stovesThatSpare_46 : decode cX4_stovesThatSpare 46 = .ok (.aload_n 0, 1) := by decide +kernel
theorem dX4_stovesThatSpare_47 : decode cX4_stovesThatSpare 47 = .ok (.getfield 25, 3) := by decide +kernel
theorem dX4_stovesThatSpare_50 : decode cX4_stovesThatSpare 50 = .ok (.iload 6, 2) := by decide +kernel
theorem dX4_stovesThatSpare_52 : decode cX4_stovesThatSpare 52 = .ok (.iload 7, 2) := by decide +kernel
theorem dX4_stovesThatSpare_54 : decode cX4_stovesThatSpare 54 = .ok (.invokevirtual 160, 3) := by decide +kernel
theorem dX4_stovesThatSpare_57 : decode cX4_stovesThatSpare 57 = .ok (.aload_n 0, 1) := by decide +kernel
theorem dX4_stovesThatSpare_58 : decode cX4_stovesThatSpare 58 = .ok (.getfield 25, 3) := by decide +kernel
theorem dX4_stovesThatSpare_61 : decode cX4_stovesThatSpare 61 = .ok (.invokevirtual 104, 3) := by decide +kernel
theorem dX4_stovesThatSpare_64 : decode cX4_stovesThatSpare 64 = .ok (.iload_n 1, 1) := by decide +kernel
theorem dX4_stovesThatSpare_65 : decode cX4_stovesThatSpare 65 = .ok (.if_icmp .eq 6, 3) := by decide +kernel
theorem dX4_stovesThatSpare_68 : decode cX4_stovesThatSpare 68 = .ok (.goto 18, 3) := by decide +kernel
theorem dX4_stovesThatSpare_71 : decode cX4_stovesThatSpare 71 = .ok (.iload_n 3, 1) := by decide +kernel
theorem dX4_stovesThatSpare_72 : decode cX4_stovesThatSpare 72 = .ok (.ifCond .ne 11, 3) := by decide +kernel
theorem dX4_stovesThatSpare_75 : decode cX4_stovesThatSpare 75 = .ok (.iload 6, 2) := by decide +kernel
theorem dX4_stovesThatSpare_77 : decode cX4_stovesThatSpare 77 = .ok (.istore 4, 2) := by decide +kernel
theorem dX4_stovesThatSpare_79 : decode cX4_stovesThatSpare 79 = .ok (.iload 7, 2) := by decide +kernel
theorem dX4_stovesThatSpare_81 : decode cX4_stovesThatSpare 81 = .ok (.istore 5, 2) := by decide +kernel
theorem dX4_stovesThatSpare_83 : decode cX4_stovesThatSpare 83 = .ok (.iinc 3 1, 3) := by decide +kernel
theorem dX4_stovesThatSpare_86 : decode cX4_stovesThatSpare 86 = .ok (.iinc 7 1, 3) := by decide +kernel
theorem dX4_stovesThatSpare_89 : decode cX4_stovesThatSpare 89 = .ok (.goto (-50), 3) := by decide +kernel
theorem dX4_stovesThatSpare_92 : decode cX4_stovesThatSpare 92 = .ok (.iinc 6 1, 3) := by decide +kernel
theorem dX4_stovesThatSpare_95 : decode cX4_stovesThatSpare 95 = .ok (.goto (-71), 3) := by decide +kernel
theorem dX4_stovesThatSpare_98 : decode cX4_stovesThatSpare 98 = .ok (.iload_n 2, 1) := by decide +kernel
theorem dX4_stovesThatSpare_99 : decode cX4_stovesThatSpare 99 = .ok (.ifCond .ne 5, 3) := by decide +kernel
theorem dX4_stovesThatSpare_102 : decode cX4_stovesThatSpare 102 = .ok (.iload_n 3, 1) := by decide +kernel
theorem dX4_stovesThatSpare_103 : decode cX4_stovesThatSpare 103 = .ok (.ireturn, 1) := by decide +kernel
theorem dX4_stovesThatSpare_104 : decode cX4_stovesThatSpare 104 = .ok (.iload_n 2, 1) := by decide +kernel
theorem dX4_stovesThatSpare_105 : decode cX4_stovesThatSpare 105 = .ok (.iconst 1, 1) := by decide +kernel
theorem dX4_stovesThatSpare_106 : decode cX4_stovesThatSpare 106 = .ok (.if_icmp .ne 8, 3) := by decide +kernel
theorem dX4_stovesThatSpare_109 : decode cX4_stovesThatSpare 109 = .ok (.iload 4, 2) := by decide +kernel
theorem dX4_stovesThatSpare_111 : decode cX4_stovesThatSpare 111 = .ok (.goto 5, 3) := by decide +kernel
theorem dX4_stovesThatSpare_114 : decode cX4_stovesThatSpare 114 = .ok (.iload 5, 2) := by decide +kernel
theorem dX4_stovesThatSpare_116 : decode cX4_stovesThatSpare 116 = .ok (.ireturn, 1) := by decide +kernel
theorem dX4_reading_0 : decode cX4_reading 0 = .ok (.aload_n 0, 1) := by decide +kernel
theorem dX4_reading_1 : decode cX4_reading 1 = .ok (.getfield 21, 3) := by decide +kernel
theorem dX4_reading_4 : decode cX4_reading 4 = .ok (.iload_n 1, 1) := by decide +kernel
theorem dX4_reading_5 : decode cX4_reading 5 = .ok (.invokevirtual 85, 3) := by decide +kernel
theorem dX4_reading_8 : decode cX4_reading 8 = .ok (.ifCond .eq 14, 3) := by decide +kernel
theorem dX4_reading_11 : decode cX4_reading 11 = .ok (.aload_n 0, 1) := by decide +kernel
theorem dX4_reading_12 : decode cX4_reading 12 = .ok (.getfield 21, 3) := by decide +kernel
theorem dX4_reading_15 : decode cX4_reading 15 = .ok (.iload_n 2, 1) := by decide +kernel
theorem dX4_reading_16 : decode cX4_reading 16 = .ok (.invokevirtual 127, 3) := by decide +kernel
theorem dX4_reading_19 : decode cX4_reading 19 = .ok (.ifCond .ne 5, 3) := by decide +kernel
theorem dX4_reading_22 : decode cX4_reading 22 = .ok (.iconst (-1), 1) := by decide +kernel
theorem dX4_reading_23 : decode cX4_reading 23 = .ok (.ireturn, 1) := by decide +kernel
theorem dX4_reading_24 : decode cX4_reading 24 = .ok (.iload_n 3, 1) := by decide +kernel
theorem dX4_reading_25 : decode cX4_reading 25 = .ok (.ifCond .lt 8, 3) := by decide +kernel
theorem dX4_reading_28 : decode cX4_reading 28 = .ok (.iload_n 3, 1) := by decide +kernel
theorem dX4_reading_29 : decode cX4_reading 29 = .ok (.iconst 1, 1) := by decide +kernel
theorem dX4_reading_30 : decode cX4_reading 30 = .ok (.if_icmp .le 6, 3) := by decide +kernel
theorem dX4_reading_33 : decode cX4_reading 33 = .ok (.bipush (-2), 2) := by decide +kernel
theorem dX4_reading_35 : decode cX4_reading 35 = .ok (.ireturn, 1) := by decide +kernel
theorem dX4_reading_36 : decode cX4_reading 36 = .ok (.aload_n 0, 1) := by decide +kernel
theorem dX4_reading_37 : decode cX4_reading 37 = .ok (.getfield 38, 3) := by decide +kernel
theorem dX4_reading_40 : decode cX4_reading 40 = .ok (.getfield 79, 3) := by decide +kernel
theorem dX4_reading_43 : decode cX4_reading 43 = .ok (.bipush 8, 2) := by decide +kernel
theorem dX4_reading_45 : decode cX4_reading 45 = .ok (.if_icmp .lt 6, 3) := by decide +kernel
theorem dX4_reading_48 : decode cX4_reading 48 = .ok (.bipush (-4), 2) := by decide +kernel
theorem dX4_reading_50 : decode cX4_reading 50 = .ok (.ireturn, 1) := by decide +kernel
theorem dX4_reading_51 : decode cX4_reading 51 = .ok (.aload_n 0, 1) := by decide +kernel
theorem dX4_reading_52 : decode cX4_reading 52 = .ok (.getfield 38, 3) := by decide +kernel
theorem dX4_reading_55 : decode cX4_reading 55 = .ok (.iload_n 1, 1) := by decide +kernel
theorem dX4_reading_56 : decode cX4_reading 56 = .ok (.iload_n 2, 1) := by decide +kernel
theorem dX4_reading_57 : decode cX4_reading 57 = .ok (.iload_n 3, 1) := by decide +kernel
theorem dX4_reading_58 : decode cX4_reading 58 = .ok (.iconst 1, 1) := by decide +kernel
theorem dX4_reading_59 : decode cX4_reading 59 = .ok (.if_icmp .ne 7, 3) := by decide +kernel
theorem dX4_reading_62 : decode cX4_reading 62 = .ok (.iconst 1, 1) := by decide +kernel
theorem dX4_reading_63 : decode cX4_reading 63 = .ok (.goto 4, 3) := by decide +kernel
theorem dX4_reading_66 : decode cX4_reading 66 = .ok (.iconst 0, 1) := by decide +kernel
theorem dX4_reading_67 : decode cX4_reading 67 = .ok (.invokevirtual 216, 3) := by decide +kernel
theorem dX4_reading_70 : decode cX4_reading 70 = .ok (.aload_n 0, 1) := by decide +kernel
theorem dX4_reading_71 : decode cX4_reading 71 = .ok (.getfield 38, 3) := by decide +kernel
theorem dX4_reading_74 : decode cX4_reading 74 = .ok (.getfield 79, 3) := by decide +kernel
theorem dX4_reading_77 : decode cX4_reading 77 = .ok (.iconst 1, 1) := by decide +kernel
theorem dX4_reading_78 : decode cX4_reading 78 = .ok (.isub, 1) := by decide +kernel
theorem dX4_reading_79 : decode cX4_reading 79 = .ok (.ireturn, 1) := by decide +kernel
theorem dX4_back_0 : decode cX4_back 0 = .ok (.iload_n 1, 1) := by decide +kernel
theorem dX4_back_1 : decode cX4_back 1 = .ok (.ifCond .lt 14, 3) := by decide +kernel
theorem dX4_back_4 : decode cX4_back 4 = .ok (.iload_n 1, 1) := by decide +kernel
theorem dX4_back_5 : decode cX4_back 5 = .ok (.aload_n 0, 1) := by decide +kernel
theorem dX4_back_6 : decode cX4_back 6 = .ok (.getfield 38, 3) := by decide +kernel
theorem dX4_back_9 : decode cX4_back 9 = .ok (.getfield 79, 3) := by decide +kernel
theorem dX4_back_12 : decode cX4_back 12 = .ok (.if_icmp .le 6, 3) := by decide +kernel
theorem dX4_back_15 : decode cX4_back 15 = .ok (.bipush (-2), 2) := by decide +kernel
theorem dX4_back_17 : decode cX4_back 17 = .ok (.ireturn, 1) := by decide +kernel
theorem dX4_back_18 : decode cX4_back 18 = .ok (.aload_n 0, 1) := by decide +kernel
theorem dX4_back_19 : decode cX4_back 19 = .ok (.getfield 38, 3) := by decide +kernel
theorem dX4_back_22 : decode cX4_back 22 = .ok (.dup, 1) := by decide +kernel
theorem dX4_back_23 : decode cX4_back 23 = .ok (.getfield 79, 3) := by decide +kernel
theorem dX4_back_26 : decode cX4_back 26 = .ok (.iload_n 1, 1) := by decide +kernel
theorem dX4_back_27 : decode cX4_back 27 = .ok (.isub, 1) := by decide +kernel
theorem dX4_back_28 : decode cX4_back 28 = .ok (.putfield 79, 3) := by decide +kernel
theorem dX4_back_31 : decode cX4_back 31 = .ok (.aload_n 0, 1) := by decide +kernel
theorem dX4_back_32 : decode cX4_back 32 = .ok (.getfield 38, 3) := by decide +kernel
theorem dX4_back_35 : decode cX4_back 35 = .ok (.getfield 79, 3) := by decide +kernel
theorem dX4_back_38 : decode cX4_back 38 = .ok (.ireturn, 1) := by decide +kernel
theorem dX4_coats_0 : decode cX4_coats 0 = .ok (.aload_n 0, 1) := by decide +kernel
theorem dX4_coats_1 : decode cX4_coats 1 = .ok (.getfield 21, 3) := by decide +kernel
theorem dX4_coats_4 : decode cX4_coats 4 = .ok (.iload_n 1, 1) := by decide +kernel
theorem dX4_coats_5 : decode cX4_coats 5 = .ok (.invokevirtual 85, 3) := by decide +kernel
theorem dX4_coats_8 : decode cX4_coats 8 = .ok (.ifCond .ne 5, 3) := by decide +kernel
theorem dX4_coats_11 : decode cX4_coats 11 = .ok (.iconst (-1), 1) := by decide +kernel
theorem dX4_coats_12 : decode cX4_coats 12 = .ok (.ireturn, 1) := by decide +kernel
theorem dX4_coats_13 : decode cX4_coats 13 = .ok (.aload_n 0, 1) := by decide +kernel
theorem dX4_coats_14 : decode cX4_coats 14 = .ok (.getfield 25, 3) := by decide +kernel
theorem dX4_coats_17 : decode cX4_coats 17 = .ok (.aload_n 0, 1) := by decide +kernel
theorem dX4_coats_18 : decode cX4_coats 18 = .ok (.getfield 21, 3) := by decide +kernel
theorem dX4_coats_21 : decode cX4_coats 21 = .ok (.invokevirtual 75, 3) := by decide +kernel
theorem dX4_coats_24 : decode cX4_coats 24 = .ok (.iconst 0, 1) := by decide +kernel
theorem dX4_coats_25 : decode cX4_coats 25 = .ok (.istore_n 2, 1) := by decide +kernel
theorem dX4_coats_26 : decode cX4_coats 26 = .ok (.iconst 0, 1) := by decide +kernel
theorem dX4_coats_27 : decode cX4_coats 27 = .ok (.istore_n 3, 1) := by decide +kernel
theorem dX4_coats_28 : decode cX4_coats 28 = .ok (.iload_n 3, 1) := by decide +kernel
theorem dX4_coats_29 : decode cX4_coats 29 = .ok (.bipush 9, 2) := by decide +kernel
theorem dX4_coats_31 : decode cX4_coats 31 = .ok (.if_icmp .gt 43, 3) := by decide +kernel
theorem dX4_coats_34 : decode cX4_coats 34 = .ok (.aload_n 0, 1) := by decide +kernel
theorem dX4_coats_35 : decode cX4_coats 35 = .ok (.getfield 25, 3) := by decide +kernel
theorem dX4_coats_38 : decode cX4_coats 38 = .ok (.getfield 92, 3) := by decide +kernel
theorem dX4_coats_41 : decode cX4_coats 41 = .ok (.iload_n 1, 1) := by decide +kernel
theorem dX4_coats_42 : decode cX4_coats 42 = .ok (.iload_n 3, 1) := by decide +kernel
theorem dX4_coats_43 : decode cX4_coats 43 = .ok (.iastore, 1) := by decide +kernel
theorem dX4_coats_44 : decode cX4_coats 44 = .ok (.iload_n 2, 1) := by decide +kernel
theorem dX4_coats_45 : decode cX4_coats 45 = .ok (.aload_n 0, 1) := by decide +kernel
theorem dX4_coats_46 : decode cX4_coats 46 = .ok (.getfield 38, 3) := by decide +kernel
theorem dX4_coats_49 : decode cX4_coats 49 = .ok (.aload_n 0, 1) := by decide +kernel
theorem dX4_coats_50 : decode cX4_coats 50 = .ok (.getfield 25, 3) := by decide +kernel
theorem dX4_coats_53 : decode cX4_coats 53 = .ok (.invokevirtual 220, 3) := by decide +kernel
theorem dX4_coats_56 : decode cX4_coats 56 = .ok (.ifCond .eq 9, 3) := by decide +kernel
theorem dX4_coats_59 : decode cX4_coats 59 = .ok (.iconst 1, 1) := by decide +kernel
theorem dX4_coats_60 : decode cX4_coats 60 = .ok (.iload_n 3, 1) := by decide +kernel
theorem dX4_coats_61 : decode cX4_coats 61 = .ok (.ishl, 1) := by decide +kernel
theorem dX4_coats_62 : decode cX4_coats 62 = .ok (.goto 4, 3) := by decide +kernel
theorem dX4_coats_65 : decode cX4_coats 65 = .ok (.iconst 0, 1) := by decide +kernel
theorem dX4_coats_66 : decode cX4_coats 66 = .ok (.ior, 1) := by decide +kernel
theorem dX4_coats_67 : decode cX4_coats 67 = .ok (.istore_n 2, 1) := by decide +kernel
theorem dX4_coats_68 : decode cX4_coats 68 = .ok (.iinc 3 1, 3) := by decide +kernel
theorem dX4_coats_71 : decode cX4_coats 71 = .ok (.goto (-43), 3) := by decide +kernel
theorem dX4_coats_74 : decode cX4_coats 74 = .ok (.iload_n 2, 1) := by decide +kernel
theorem dX4_coats_75 : decode cX4_coats 75 = .ok (.ireturn, 1) := by decide +kernel
theorem dX4_kinds_0 : decode cX4_kinds 0 = .ok (.aload_n 0, 1) := by decide +kernel
theorem dX4_kinds_1 : decode cX4_kinds 1 = .ok (.getfield 21, 3) := by decide +kernel
theorem dX4_kinds_4 : decode cX4_kinds 4 = .ok (.iload_n 1, 1) := by decide +kernel
theorem dX4_kinds_5 : decode cX4_kinds 5 = .ok (.invokevirtual 85, 3) := by decide +kernel
theorem dX4_kinds_8 : decode cX4_kinds 8 = .ok (.ifCond .ne 5, 3) := by decide +kernel
theorem dX4_kinds_11 : decode cX4_kinds 11 = .ok (.iconst (-1), 1) := by decide +kernel
theorem dX4_kinds_12 : decode cX4_kinds 12 = .ok (.ireturn, 1) := by decide +kernel
theorem dX4_kinds_13 : decode cX4_kinds 13 = .ok (.aload_n 0, 1) := by decide +kernel
theorem dX4_kinds_14 : decode cX4_kinds 14 = .ok (.getfield 25, 3) := by decide +kernel
theorem dX4_kinds_17 : decode cX4_kinds 17 = .ok (.aload_n 0, 1) := by decide +kernel
theorem dX4_kinds_18 : decode cX4_kinds 18 = .ok (.getfield 21, 3) := by decide +kernel
theorem dX4_kinds_21 : decode cX4_kinds 21 = .ok (.invokevirtual 75, 3) := by decide +kernel
theorem dX4_kinds_24 : decode cX4_kinds 24 = .ok (.iconst 0, 1) := by decide +kernel
theorem dX4_kinds_25 : decode cX4_kinds 25 = .ok (.istore_n 2, 1) := by decide +kernel
theorem dX4_kinds_26 : decode cX4_kinds 26 = .ok (.iconst 0, 1) := by decide +kernel
theorem dX4_kinds_27 : decode cX4_kinds 27 = .ok (.istore_n 3, 1) := by decide +kernel
theorem dX4_kinds_28 : decode cX4_kinds 28 = .ok (.iload_n 3, 1) := by decide +kernel
theorem dX4_kinds_29 : decode cX4_kinds 29 = .ok (.iconst 2, 1) := by decide +kernel
theorem dX4_kinds_30 : decode cX4_kinds 30 = .ok (.if_icmp .gt 43, 3) := by decide +kernel
theorem dX4_kinds_33 : decode cX4_kinds 33 = .ok (.aload_n 0, 1) := by decide +kernel
theorem dX4_kinds_34 : decode cX4_kinds 34 = .ok (.getfield 25, 3) := by decide +kernel
theorem dX4_kinds_37 : decode cX4_kinds 37 = .ok (.getfield 88, 3) := by decide +kernel
theorem dX4_kinds_40 : decode cX4_kinds 40 = .ok (.iload_n 1, 1) := by decide +kernel
theorem dX4_kinds_41 : decode cX4_kinds 41 = .ok (.iload_n 3, 1) := by decide +kernel
theorem dX4_kinds_42 : decode cX4_kinds 42 = .ok (.iastore, 1) := by decide +kernel
theorem dX4_kinds_43 : decode cX4_kinds 43 = .ok (.iload_n 2, 1) := by decide +kernel
theorem dX4_kinds_44 : decode cX4_kinds 44 = .ok (.aload_n 0, 1) := by decide +kernel
theorem dX4_kinds_45 : decode cX4_kinds 45 = .ok (.getfield 38, 3) := by decide +kernel
theorem dX4_kinds_48 : decode cX4_kinds 48 = .ok (.aload_n 0, 1) := by decide +kernel
theorem dX4_kinds_49 : decode cX4_kinds 49 = .ok (.getfield 25, 3) := by decide +kernel
theorem dX4_kinds_52 : decode cX4_kinds 52 = .ok (.invokevirtual 220, 3) := by decide +kernel
theorem dX4_kinds_55 : decode cX4_kinds 55 = .ok (.ifCond .eq 9, 3) := by decide +kernel
theorem dX4_kinds_58 : decode cX4_kinds 58 = .ok (.iconst 1, 1) := by decide +kernel
theorem dX4_kinds_59 : decode cX4_kinds 59 = .ok (.iload_n 3, 1) := by decide +kernel
theorem dX4_kinds_60 : decode cX4_kinds 60 = .ok (.ishl, 1) := by decide +kernel
theorem dX4_kinds_61 : decode cX4_kinds 61 = .ok (.goto 4, 3) := by decide +kernel
theorem dX4_kinds_64 : decode cX4_kinds 64 = .ok (.iconst 0, 1) := by decide +kernel
theorem dX4_kinds_65 : decode cX4_kinds 65 = .ok (.ior, 1) := by decide +kernel
theorem dX4_kinds_66 : decode cX4_kinds 66 = .ok (.istore_n 2, 1) := by decide +kernel
theorem dX4_kinds_67 : decode cX4_kinds 67 = .ok (.iinc 3 1, 3) := by decide +kernel
theorem dX4_kinds_70 : decode cX4_kinds 70 = .ok (.goto (-42), 3) := by decide +kernel
theorem dX4_kinds_73 : decode cX4_kinds 73 = .ok (.iload_n 2, 1) := by decide +kernel
theorem dX4_kinds_74 : decode cX4_kinds 74 = .ok (.ireturn, 1) := by decide +kernel
theorem dX4_frosts_0 : decode cX4_frosts 0 = .ok (.aload_n 0, 1) := by decide +kernel
theorem dX4_frosts_1 : decode cX4_frosts 1 = .ok (.getfield 21, 3) := by decide +kernel
theorem dX4_frosts_4 : decode cX4_frosts 4 = .ok (.iload_n 1, 1) := by decide +kernel
theorem dX4_frosts_5 : decode cX4_frosts 5 = .ok (.invokevirtual 127, 3) := by decide +kernel
theorem dX4_frosts_8 : decode cX4_frosts 8 = .ok (.ifCond .ne 5, 3) := by decide +kernel
theorem dX4_frosts_11 : decode cX4_frosts 11 = .ok (.iconst (-1), 1) := by decide +kernel
theorem dX4_frosts_12 : decode cX4_frosts 12 = .ok (.ireturn, 1) := by decide +kernel
theorem dX4_frosts_13 : decode cX4_frosts 13 = .ok (.aload_n 0, 1) := by decide +kernel
theorem dX4_frosts_14 : decode cX4_frosts 14 = .ok (.getfield 25, 3) := by decide +kernel
theorem dX4_frosts_17 : decode cX4_frosts 17 = .ok (.aload_n 0, 1) := by decide +kernel
theorem dX4_frosts_18 : decode cX4_frosts 18 = .ok (.getfield 21, 3) := by decide +kernel
theorem dX4_frosts_21 : decode cX4_frosts 21 = .ok (.invokevirtual 75, 3) := by decide +kernel
theorem dX4_frosts_24 : decode cX4_frosts 24 = .ok (.iconst 0, 1) := by decide +kernel
theorem dX4_frosts_25 : decode cX4_frosts 25 = .ok (.istore_n 2, 1) := by decide +kernel
theorem dX4_frosts_26 : decode cX4_frosts 26 = .ok (.iconst 0, 1) := by decide +kernel
theorem dX4_frosts_27 : decode cX4_frosts 27 = .ok (.istore_n 3, 1) := by decide +kernel
theorem dX4_frosts_28 : decode cX4_frosts 28 = .ok (.iload_n 3, 1) := by decide +kernel
theorem dX4_frosts_29 : decode cX4_frosts 29 = .ok (.bipush 9, 2) := by decide +kernel
theorem dX4_frosts_31 : decode cX4_frosts 31 = .ok (.if_icmp .gt 43, 3) := by decide +kernel
theorem dX4_frosts_34 : decode cX4_frosts 34 = .ok (.aload_n 0, 1) := by decide +kernel
theorem dX4_frosts_35 : decode cX4_frosts 35 = .ok (.getfield 25, 3) := by decide +kernel
theorem dX4_frosts_38 : decode cX4_frosts 38 = .ok (.getfield 130, 3) := by decide +kernel
theorem dX4_frosts_41 : decode cX4_frosts 41 = .ok (.iload_n 1, 1) := by decide +kernel
theorem dX4_frosts_42 : decode cX4_frosts 42 = .ok (.iload_n 3, 1) := by decide +kernel
theorem dX4_frosts_43 : decode cX4_frosts 43 = .ok (.iastore, 1) := by decide +kernel
theorem dX4_frosts_44 : decode cX4_frosts 44 = .ok (.iload_n 2, 1) := by decide +kernel
theorem dX4_frosts_45 : decode cX4_frosts 45 = .ok (.aload_n 0, 1) := by decide +kernel
theorem dX4_frosts_46 : decode cX4_frosts 46 = .ok (.getfield 38, 3) := by decide +kernel
theorem dX4_frosts_49 : decode cX4_frosts 49 = .ok (.aload_n 0, 1) := by decide +kernel
theorem dX4_frosts_50 : decode cX4_frosts 50 = .ok (.getfield 25, 3) := by decide +kernel
theorem dX4_frosts_53 : decode cX4_frosts 53 = .ok (.invokevirtual 220, 3) := by decide +kernel
theorem dX4_frosts_56 : decode cX4_frosts 56 = .ok (.ifCond .eq 9, 3) := by decide +kernel
theorem dX4_frosts_59 : decode cX4_frosts 59 = .ok (.iconst 1, 1) := by decide +kernel
theorem dX4_frosts_60 : decode cX4_frosts 60 = .ok (.iload_n 3, 1) := by decide +kernel
theorem dX4_frosts_61 : decode cX4_frosts 61 = .ok (.ishl, 1) := by decide +kernel
theorem dX4_frosts_62 : decode cX4_frosts 62 = .ok (.goto 4, 3) := by decide +kernel
theorem dX4_frosts_65 : decode cX4_frosts 65 = .ok (.iconst 0, 1) := by decide +kernel
theorem dX4_frosts_66 : decode cX4_frosts 66 = .ok (.ior, 1) := by decide +kernel
theorem dX4_frosts_67 : decode cX4_frosts 67 = .ok (.istore_n 2, 1) := by decide +kernel
theorem dX4_frosts_68 : decode cX4_frosts 68 = .ok (.iinc 3 1, 3) := by decide +kernel
theorem dX4_frosts_71 : decode cX4_frosts 71 = .ok (.goto (-43), 3) := by decide +kernel
theorem dX4_frosts_74 : decode cX4_frosts 74 = .ok (.iload_n 2, 1) := by decide +kernel
theorem dX4_frosts_75 : decode cX4_frosts 75 = .ok (.ireturn, 1) := by decide +kernel
theorem dX4_odds_0 : decode cX4_odds 0 = .ok (.aload_n 0, 1) := by decide +kernel
theorem dX4_odds_1 : decode cX4_odds 1 = .ok (.getfield 21, 3) := by decide +kernel
theorem dX4_odds_4 : decode cX4_odds 4 = .ok (.iload_n 1, 1) := by decide +kernel
theorem dX4_odds_5 : decode cX4_odds 5 = .ok (.invokevirtual 85, 3) := by decide +kernel
theorem dX4_odds_8 : decode cX4_odds 8 = .ok (.ifCond .eq 22, 3) := by decide +kernel
theorem dX4_odds_11 : decode cX4_odds 11 = .ok (.iload_n 2, 1) := by decide +kernel
theorem dX4_odds_12 : decode cX4_odds 12 = .ok (.ifCond .lt 18, 3) := by decide +kernel
theorem dX4_odds_15 : decode cX4_odds 15 = .ok (.iload_n 2, 1) := by decide +kernel
theorem dX4_odds_16 : decode cX4_odds 16 = .ok (.bipush 8, 2) := by decide +kernel
theorem dX4_odds_18 : decode cX4_odds 18 = .ok (.if_icmp .gt 12, 3) := by decide +kernel
theorem dX4_odds_21 : decode cX4_odds 21 = .ok (.iload_n 3, 1) := by decide +kernel
theorem dX4_odds_22 : decode cX4_odds 22 = .ok (.ifCond .lt 8, 3) := by decide +kernel
theorem dX4_odds_25 : decode cX4_odds 25 = .ok (.iload_n 3, 1) := by decide +kernel
theorem dX4_odds_26 : decode cX4_odds 26 = .ok (.iconst 1, 1) := by decide +kernel
theorem dX4_odds_27 : decode cX4_odds 27 = .ok (.if_icmp .le 7, 3) := by decide +kernel
theorem dX4_odds_30 : decode cX4_odds 30 = .ok (.ldc2_w 223, 3) := by decide +kernel
theorem dX4_odds_33 : decode cX4_odds 33 = .ok (.lreturn, 1) := by decide +kernel
theorem dX4_odds_34 : decode cX4_odds 34 = .ok (.aload_n 0, 1) := by decide +kernel
theorem dX4_odds_35 : decode cX4_odds 35 = .ok (.getfield 21, 3) := by decide +kernel
theorem dX4_odds_38 : decode cX4_odds 38 = .ok (.iload_n 1, 1) := by decide +kernel
