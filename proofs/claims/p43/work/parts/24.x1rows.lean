theorem dX1_init_0 : decode cX1_init 0 = .ok (.aload_n 0, 1) := by decide +kernel
theorem dX1_init_1 : decode cX1_init 1 = .ok (.invokespecial 1, 3) := by decide +kernel
theorem dX1_init_4 : decode cX1_init 4 = .ok (.aload_n 0, 1) := by decide +kernel
theorem dX1_init_5 : decode cX1_init 5 = .ok (.iconst 0, 1) := by decide +kernel
theorem dX1_init_6 : decode cX1_init 6 = .ok (.newarray .int, 2) := by decide +kernel
theorem dX1_init_8 : decode cX1_init 8 = .ok (.putfield 7, 3) := by decide +kernel
theorem dX1_init_11 : decode cX1_init 11 = .ok (.aload_n 0, 1) := by decide +kernel
theorem dX1_init_12 : decode cX1_init 12 = .ok (.iconst 0, 1) := by decide +kernel
theorem dX1_init_13 : decode cX1_init 13 = .ok (.newarray .int, 2) := by decide +kernel
theorem dX1_init_15 : decode cX1_init 15 = .ok (.putfield 13, 3) := by decide +kernel
theorem dX1_init_18 : decode cX1_init 18 = .ok (.aload_n 0, 1) := by decide +kernel
theorem dX1_init_19 : decode cX1_init 19 = .ok (.iconst 0, 1) := by decide +kernel
theorem dX1_init_20 : decode cX1_init 20 = .ok (.anewarray 16, 3) := by decide +kernel
theorem dX1_init_23 : decode cX1_init 23 = .ok (.putfield 18, 3) := by decide +kernel
theorem dX1_init_26 : decode cX1_init 26 = .ok (.aload_n 0, 1) := by decide +kernel
theorem dX1_init_27 : decode cX1_init 27 = .ok (.iconst 0, 1) := by decide +kernel
theorem dX1_init_28 : decode cX1_init 28 = .ok (.anewarray 22, 3) := by decide +kernel
theorem dX1_init_31 : decode cX1_init 31 = .ok (.putfield 23, 3) := by decide +kernel
theorem dX1_init_34 : decode cX1_init 34 = .ok (.return_, 1) := by decide +kernel
theorem dX1_more_0 : decode cX1_more 0 = .ok (.aload_n 0, 1) := by decide +kernel
theorem dX1_more_1 : decode cX1_more 1 = .ok (.arraylength, 1) := by decide +kernel
theorem dX1_more_2 : decode cX1_more 2 = .ok (.iconst 1, 1) := by decide +kernel
theorem dX1_more_3 : decode cX1_more 3 = .ok (.iadd, 1) := by decide +kernel
theorem dX1_more_4 : decode cX1_more 4 = .ok (.newarray .int, 2) := by decide +kernel
theorem dX1_more_6 : decode cX1_more 6 = .ok (.astore_n 2, 1) := by decide +kernel
theorem dX1_more_7 : decode cX1_more 7 = .ok (.iconst 0, 1) := by decide +kernel
theorem dX1_more_8 : decode cX1_more 8 = .ok (.istore_n 3, 1) := by decide +kernel
theorem dX1_more_9 : decode cX1_more 9 = .ok (.iload_n 3, 1) := by decide +kernel
theorem dX1_more_10 : decode cX1_more 10 = .ok (.aload_n 0, 1) := by decide +kernel
theorem dX1_more_11 : decode cX1_more 11 = .ok (.arraylength, 1) := by decide +kernel
theorem dX1_more_12 : decode cX1_more 12 = .ok (.if_icmp .ge 15, 3) := by decide +kernel
theorem dX1_more_15 : decode cX1_more 15 = .ok (.aload_n 2, 1) := by decide +kernel
theorem dX1_more_16 : decode cX1_more 16 = .ok (.iload_n 3, 1) := by decide +kernel
theorem dX1_more_17 : decode cX1_more 17 = .ok (.aload_n 0, 1) := by decide +kernel
theorem dX1_more_18 : decode cX1_more 18 = .ok (.iload_n 3, 1) := by decide +kernel
theorem dX1_more_19 : decode cX1_more 19 = .ok (.iaload, 1) := by decide +kernel
theorem dX1_more_20 : decode cX1_more 20 = .ok (.iastore, 1) := by decide +kernel
theorem dX1_more_21 : decode cX1_more 21 = .ok (.iinc 3 1, 3) := by decide +kernel
theorem dX1_more_24 : decode cX1_more 24 = .ok (.goto (-15), 3) := by decide +kernel
theorem dX1_more_27 : decode cX1_more 27 = .ok (.aload_n 2, 1) := by decide +kernel
theorem dX1_more_28 : decode cX1_more 28 = .ok (.aload_n 0, 1) := by decide +kernel
theorem dX1_more_29 : decode cX1_more 29 = .ok (.arraylength, 1) := by decide +kernel
theorem dX1_more_30 : decode cX1_more 30 = .ok (.iload_n 1, 1) := by decide +kernel
theorem dX1_more_31 : decode cX1_more 31 = .ok (.iastore, 1) := by decide +kernel
theorem dX1_more_32 : decode cX1_more 32 = .ok (.aload_n 2, 1) := by decide +kernel
theorem dX1_more_33 : decode cX1_more 33 = .ok (.areturn, 1) := by decide +kernel
set_option maxRecDepth 20000 in
theorem ggX1_addFerry_X1_more : GoodIn wsX1_addFerry wsX1_more := goodIn_r _ [9, 5] (by decide +kernel) (by decide +kernel)
set_option maxRecDepth 20000 in
theorem gX1_addFerry_X1_more : GoodIn wsX1_addFerry (va_wsS RX1 26 yX1_more wsX1_more) := goodIn_app (goodIn_of _ (by decide +kernel)) ggX1_addFerry_X1_more
theorem dX1_addFerry_0 : decode cX1_addFerry 0 = .ok (.aload_n 0, 1) := by decide +kernel
theorem dX1_addFerry_1 : decode cX1_addFerry 1 = .ok (.aload_n 0, 1) := by decide +kernel
theorem dX1_addFerry_2 : decode cX1_addFerry 2 = .ok (.getfield 7, 3) := by decide +kernel
theorem dX1_addFerry_5 : decode cX1_addFerry 5 = .ok (.iload_n 1, 1) := by decide +kernel
theorem dX1_addFerry_6 : decode cX1_addFerry 6 = .ok (.invokestatic 26, 3) := by decide +kernel
theorem dX1_addFerry_9 : decode cX1_addFerry 9 = .ok (.putfield 7, 3) := by decide +kernel
theorem dX1_addFerry_12 : decode cX1_addFerry 12 = .ok (.aload_n 0, 1) := by decide +kernel
theorem dX1_addFerry_13 : decode cX1_addFerry 13 = .ok (.aload_n 0, 1) := by decide +kernel
theorem dX1_addFerry_14 : decode cX1_addFerry 14 = .ok (.getfield 13, 3) := by decide +kernel
theorem dX1_addFerry_17 : decode cX1_addFerry 17 = .ok (.iconst 0, 1) := by decide +kernel
theorem dX1_addFerry_18 : decode cX1_addFerry 18 = .ok (.invokestatic 26, 3) := by decide +kernel
theorem dX1_addFerry_21 : decode cX1_addFerry 21 = .ok (.putfield 13, 3) := by decide +kernel
theorem dX1_addFerry_24 : decode cX1_addFerry 24 = .ok (.aload_n 0, 1) := by decide +kernel
theorem dX1_addFerry_25 : decode cX1_addFerry 25 = .ok (.getfield 18, 3) := by decide +kernel
theorem dX1_addFerry_28 : decode cX1_addFerry 28 = .ok (.arraylength, 1) := by decide +kernel
theorem dX1_addFerry_29 : decode cX1_addFerry 29 = .ok (.iconst 1, 1) := by decide +kernel
theorem dX1_addFerry_30 : decode cX1_addFerry 30 = .ok (.iadd, 1) := by decide +kernel
theorem dX1_addFerry_31 : decode cX1_addFerry 31 = .ok (.anewarray 16, 3) := by decide +kernel
theorem dX1_addFerry_34 : decode cX1_addFerry 34 = .ok (.astore_n 2, 1) := by decide +kernel
theorem dX1_addFerry_35 : decode cX1_addFerry 35 = .ok (.iconst 0, 1) := by decide +kernel
theorem dX1_addFerry_36 : decode cX1_addFerry 36 = .ok (.istore_n 3, 1) := by decide +kernel
theorem dX1_addFerry_37 : decode cX1_addFerry 37 = .ok (.iload_n 3, 1) := by decide +kernel
theorem dX1_addFerry_38 : decode cX1_addFerry 38 = .ok (.aload_n 0, 1) := by decide +kernel
theorem dX1_addFerry_39 : decode cX1_addFerry 39 = .ok (.getfield 18, 3) := by decide +kernel
theorem dX1_addFerry_42 : decode cX1_addFerry 42 = .ok (.arraylength, 1) := by decide +kernel
theorem dX1_addFerry_43 : decode cX1_addFerry 43 = .ok (.if_icmp .ge 18, 3) := by decide +kernel
theorem dX1_addFerry_46 : decode cX1_addFerry 46 = .ok (.aload_n 2, 1) := by decide +kernel
theorem dX1_addFerry_47 : decode cX1_addFerry 47 = .ok (.iload_n 3, 1) := by decide +kernel
theorem dX1_addFerry_48 : decode cX1_addFerry 48 = .ok (.aload_n 0, 1) := by decide +kernel
theorem dX1_addFerry_49 : decode cX1_addFerry 49 = .ok (.getfield 18, 3) := by decide +kernel
theorem dX1_addFerry_52 : decode cX1_addFerry 52 = .ok (.iload_n 3, 1) := by decide +kernel
theorem dX1_addFerry_53 : decode cX1_addFerry 53 = .ok (.aaload, 1) := by decide +kernel
theorem dX1_addFerry_54 : decode cX1_addFerry 54 = .ok (.aastore, 1) := by decide +kernel
theorem dX1_addFerry_55 : decode cX1_addFerry 55 = .ok (.iinc 3 1, 3) := by decide +kernel
theorem dX1_addFerry_58 : decode cX1_addFerry 58 = .ok (.goto (-21), 3) := by decide +kernel
theorem dX1_addFerry_61 : decode cX1_addFerry 61 = .ok (.aload_n 2, 1) := by decide +kernel
theorem dX1_addFerry_62 : decode cX1_addFerry 62 = .ok (.aload_n 0, 1) := by decide +kernel
theorem dX1_addFerry_63 : decode cX1_addFerry 63 = .ok (.getfield 18, 3) := by decide +kernel
theorem dX1_addFerry_66 : decode cX1_addFerry 66 = .ok (.arraylength, 1) := by decide +kernel
theorem dX1_addFerry_67 : decode cX1_addFerry 67 = .ok (.iconst 4, 1) := by decide +kernel
theorem dX1_addFerry_68 : decode cX1_addFerry 68 = .ok (.bipush 64, 2) := by decide +kernel
theorem dX1_addFerry_70 : decode cX1_addFerry 70 = .ok (.multianewarray 16 2, 4) := by decide +kernel
theorem dX1_addFerry_74 : decode cX1_addFerry 74 = .ok (.aastore, 1) := by decide +kernel
theorem dX1_addFerry_75 : decode cX1_addFerry 75 = .ok (.aload_n 2, 1) := by decide +kernel
theorem dX1_addFerry_76 : decode cX1_addFerry 76 = .ok (.aload_n 0, 1) := by decide +kernel
theorem dX1_addFerry_77 : decode cX1_addFerry 77 = .ok (.getfield 18, 3) := by decide +kernel
theorem dX1_addFerry_80 : decode cX1_addFerry 80 = .ok (.arraylength, 1) := by decide +kernel
theorem dX1_addFerry_81 : decode cX1_addFerry 81 = .ok (.aaload, 1) := by decide +kernel
theorem dX1_addFerry_82 : decode cX1_addFerry 82 = .ok (.astore_n 3, 1) := by decide +kernel
theorem dX1_addFerry_83 : decode cX1_addFerry 83 = .ok (.aload_n 3, 1) := by decide +kernel
theorem dX1_addFerry_84 : decode cX1_addFerry 84 = .ok (.arraylength, 1) := by decide +kernel
theorem dX1_addFerry_85 : decode cX1_addFerry 85 = .ok (.istore 4, 2) := by decide +kernel
theorem dX1_addFerry_87 : decode cX1_addFerry 87 = .ok (.iconst 0, 1) := by decide +kernel
theorem dX1_addFerry_88 : decode cX1_addFerry 88 = .ok (.istore 5, 2) := by decide +kernel
theorem dX1_addFerry_90 : decode cX1_addFerry 90 = .ok (.iload 5, 2) := by decide +kernel
theorem dX1_addFerry_92 : decode cX1_addFerry 92 = .ok (.iload 4, 2) := by decide +kernel
theorem dX1_addFerry_94 : decode cX1_addFerry 94 = .ok (.if_icmp .ge 37, 3) := by decide +kernel
theorem dX1_addFerry_97 : decode cX1_addFerry 97 = .ok (.aload_n 3, 1) := by decide +kernel
theorem dX1_addFerry_98 : decode cX1_addFerry 98 = .ok (.iload 5, 2) := by decide +kernel
theorem dX1_addFerry_100 : decode cX1_addFerry 100 = .ok (.aaload, 1) := by decide +kernel
theorem dX1_addFerry_101 : decode cX1_addFerry 101 = .ok (.astore 6, 2) := by decide +kernel
theorem dX1_addFerry_103 : decode cX1_addFerry 103 = .ok (.iconst 0, 1) := by decide +kernel
theorem dX1_addFerry_104 : decode cX1_addFerry 104 = .ok (.istore 7, 2) := by decide +kernel
theorem dX1_addFerry_106 : decode cX1_addFerry 106 = .ok (.iload 7, 2) := by decide +kernel
theorem dX1_addFerry_108 : decode cX1_addFerry 108 = .ok (.bipush 64, 2) := by decide +kernel
theorem dX1_addFerry_110 : decode cX1_addFerry 110 = .ok (.if_icmp .ge 15, 3) := by decide +kernel
theorem dX1_addFerry_113 : decode cX1_addFerry 113 = .ok (.aload 6, 2) := by decide +kernel
theorem dX1_addFerry_115 : decode cX1_addFerry 115 = .ok (.iload 7, 2) := by decide +kernel
theorem dX1_addFerry_117 : decode cX1_addFerry 117 = .ok (.iconst (-1), 1) := by decide +kernel
theorem dX1_addFerry_118 : decode cX1_addFerry 118 = .ok (.iastore, 1) := by decide +kernel
theorem dX1_addFerry_119 : decode cX1_addFerry 119 = .ok (.iinc 7 1, 3) := by decide +kernel
theorem dX1_addFerry_122 : decode cX1_addFerry 122 = .ok (.goto (-16), 3) := by decide +kernel
theorem dX1_addFerry_125 : decode cX1_addFerry 125 = .ok (.iinc 5 1, 3) := by decide +kernel
theorem dX1_addFerry_128 : decode cX1_addFerry 128 = .ok (.goto (-38), 3) := by decide +kernel
theorem dX1_addFerry_131 : decode cX1_addFerry 131 = .ok (.aload_n 0, 1) := by decide +kernel
theorem dX1_addFerry_132 : decode cX1_addFerry 132 = .ok (.aload_n 2, 1) := by decide +kernel
theorem dX1_addFerry_133 : decode cX1_addFerry 133 = .ok (.putfield 18, 3) := by decide +kernel
theorem dX1_addFerry_136 : decode cX1_addFerry 136 = .ok (.return_, 1) := by decide +kernel
theorem dX1_addPerson_0 : decode cX1_addPerson 0 = .ok (.aload_n 0, 1) := by decide +kernel
theorem dX1_addPerson_1 : decode cX1_addPerson 1 = .ok (.getfield 23, 3) := by decide +kernel
theorem dX1_addPerson_4 : decode cX1_addPerson 4 = .ok (.arraylength, 1) := by decide +kernel
theorem dX1_addPerson_5 : decode cX1_addPerson 5 = .ok (.iconst 1, 1) := by decide +kernel
theorem dX1_addPerson_6 : decode cX1_addPerson 6 = .ok (.iadd, 1) := by decide +kernel
theorem dX1_addPerson_7 : decode cX1_addPerson 7 = .ok (.anewarray 22, 3) := by decide +kernel
theorem dX1_addPerson_10 : decode cX1_addPerson 10 = .ok (.astore_n 2, 1) := by decide +kernel
theorem dX1_addPerson_11 : decode cX1_addPerson 11 = .ok (.iconst 0, 1) := by decide +kernel
theorem dX1_addPerson_12 : decode cX1_addPerson 12 = .ok (.istore_n 3, 1) := by decide +kernel
theorem dX1_addPerson_13 : decode cX1_addPerson 13 = .ok (.iload_n 3, 1) := by decide +kernel
theorem dX1_addPerson_14 : decode cX1_addPerson 14 = .ok (.aload_n 0, 1) := by decide +kernel
theorem dX1_addPerson_15 : decode cX1_addPerson 15 = .ok (.getfield 23, 3) := by decide +kernel
theorem dX1_addPerson_18 : decode cX1_addPerson 18 = .ok (.arraylength, 1) := by decide +kernel
theorem dX1_addPerson_19 : decode cX1_addPerson 19 = .ok (.if_icmp .ge 18, 3) := by decide +kernel
theorem dX1_addPerson_22 : decode cX1_addPerson 22 = .ok (.aload_n 2, 1) := by decide +kernel
theorem dX1_addPerson_23 : decode cX1_addPerson 23 = .ok (.iload_n 3, 1) := by decide +kernel
theorem dX1_addPerson_24 : decode cX1_addPerson 24 = .ok (.aload_n 0, 1) := by decide +kernel
theorem dX1_addPerson_25 : decode cX1_addPerson 25 = .ok (.getfield 23, 3) := by decide +kernel
theorem dX1_addPerson_28 : decode cX1_addPerson 28 = .ok (.iload_n 3, 1) := by decide +kernel
theorem dX1_addPerson_29 : decode cX1_addPerson 29 = .ok (.aaload, 1) := by decide +kernel
theorem dX1_addPerson_30 : decode cX1_addPerson 30 = .ok (.aastore, 1) := by decide +kernel
theorem dX1_addPerson_31 : decode cX1_addPerson 31 = .ok (.iinc 3 1, 3) := by decide +kernel
theorem dX1_addPerson_34 : decode cX1_addPerson 34 = .ok (.goto (-21), 3) := by decide +kernel
theorem dX1_addPerson_37 : decode cX1_addPerson 37 = .ok (.aload_n 2, 1) := by decide +kernel
theorem dX1_addPerson_38 : decode cX1_addPerson 38 = .ok (.aload_n 0, 1) := by decide +kernel
theorem dX1_addPerson_39 : decode cX1_addPerson 39 = .ok (.getfield 23, 3) := by decide +kernel
theorem dX1_addPerson_42 : decode cX1_addPerson 42 = .ok (.arraylength, 1) := by decide +kernel
theorem dX1_addPerson_43 : decode cX1_addPerson 43 = .ok (.iconst 4, 1) := by decide +kernel
theorem dX1_addPerson_44 : decode cX1_addPerson 44 = .ok (.newarray .int, 2) := by decide +kernel
theorem dX1_addPerson_46 : decode cX1_addPerson 46 = .ok (.dup, 1) := by decide +kernel
theorem dX1_addPerson_47 : decode cX1_addPerson 47 = .ok (.iconst 0, 1) := by decide +kernel
theorem dX1_addPerson_48 : decode cX1_addPerson 48 = .ok (.iconst 0, 1) := by decide +kernel
theorem dX1_addPerson_49 : decode cX1_addPerson 49 = .ok (.iastore, 1) := by decide +kernel
theorem dX1_addPerson_50 : decode cX1_addPerson 50 = .ok (.dup, 1) := by decide +kernel
theorem dX1_addPerson_51 : decode cX1_addPerson 51 = .ok (.iconst 1, 1) := by decide +kernel
theorem dX1_addPerson_52 : decode cX1_addPerson 52 = .ok (.iconst 0, 1) := by decide +kernel
theorem dX1_addPerson_53 : decode cX1_addPerson 53 = .ok (.iastore, 1) := by decide +kernel
theorem dX1_addPerson_54 : decode cX1_addPerson 54 = .ok (.dup, 1) := by decide +kernel
theorem dX1_addPerson_55 : decode cX1_addPerson 55 = .ok (.iconst 2, 1) := by decide +kernel
theorem dX1_addPerson_56 : decode cX1_addPerson 56 = .ok (.iload_n 1, 1) := by decide +kernel
theorem dX1_addPerson_57 : decode cX1_addPerson 57 = .ok (.iastore, 1) := by decide +kernel
theorem dX1_addPerson_58 : decode cX1_addPerson 58 = .ok (.dup, 1) := by decide +kernel
theorem dX1_addPerson_59 : decode cX1_addPerson 59 = .ok (.iconst 3, 1) := by decide +kernel
theorem dX1_addPerson_60 : decode cX1_addPerson 60 = .ok (.iconst 0, 1) := by decide +kernel
theorem dX1_addPerson_61 : decode cX1_addPerson 61 = .ok (.iastore, 1) := by decide +kernel
theorem dX1_addPerson_62 : decode cX1_addPerson 62 = .ok (.aastore, 1) := by decide +kernel
theorem dX1_addPerson_63 : decode cX1_addPerson 63 = .ok (.aload_n 0, 1) := by decide +kernel
theorem dX1_addPerson_64 : decode cX1_addPerson 64 = .ok (.aload_n 2, 1) := by decide +kernel
theorem dX1_addPerson_65 : decode cX1_addPerson 65 = .ok (.putfield 23, 3) := by decide +kernel
theorem dX1_addPerson_68 : decode cX1_addPerson 68 = .ok (.return_, 1) := by decide +kernel
theorem dX1_has_0 : decode cX1_has 0 = .ok (.iconst 0, 1) := by decide +kernel
theorem dX1_has_1 : decode cX1_has 1 = .ok (.istore 4, 2) := by decide +kernel
theorem dX1_has_3 : decode cX1_has 3 = .ok (.aload_n 0, 1) := by decide +kernel
theorem dX1_has_4 : decode cX1_has 4 = .ok (.getfield 18, 3) := by decide +kernel
theorem dX1_has_7 : decode cX1_has 7 = .ok (.iload_n 1, 1) := by decide +kernel
theorem dX1_has_8 : decode cX1_has 8 = .ok (.aaload, 1) := by decide +kernel
theorem dX1_has_9 : decode cX1_has 9 = .ok (.iload_n 2, 1) := by decide +kernel
theorem dX1_has_10 : decode cX1_has 10 = .ok (.aaload, 1) := by decide +kernel
theorem dX1_has_11 : decode cX1_has 11 = .ok (.astore 5, 2) := by decide +kernel
theorem dX1_has_13 : decode cX1_has 13 = .ok (.aload 5, 2) := by decide +kernel
theorem dX1_has_15 : decode cX1_has 15 = .ok (.arraylength, 1) := by decide +kernel
theorem dX1_has_16 : decode cX1_has 16 = .ok (.istore 6, 2) := by decide +kernel
theorem dX1_has_18 : decode cX1_has 18 = .ok (.iconst 0, 1) := by decide +kernel
theorem dX1_has_19 : decode cX1_has 19 = .ok (.istore 7, 2) := by decide +kernel
theorem dX1_has_21 : decode cX1_has 21 = .ok (.iload 7, 2) := by decide +kernel
theorem dX1_has_23 : decode cX1_has 23 = .ok (.iload 6, 2) := by decide +kernel
theorem dX1_has_25 : decode cX1_has 25 = .ok (.if_icmp .ge 32, 3) := by decide +kernel
theorem dX1_has_28 : decode cX1_has 28 = .ok (.aload 5, 2) := by decide +kernel
theorem dX1_has_30 : decode cX1_has 30 = .ok (.iload 7, 2) := by decide +kernel
theorem dX1_has_32 : decode cX1_has 32 = .ok (.iaload, 1) := by decide +kernel
theorem dX1_has_33 : decode cX1_has 33 = .ok (.istore 8, 2) := by decide +kernel
theorem dX1_has_35 : decode cX1_has 35 = .ok (.iload 4, 2) := by decide +kernel
theorem dX1_has_37 : decode cX1_has 37 = .ok (.iload 8, 2) := by decide +kernel
theorem dX1_has_39 : decode cX1_has 39 = .ok (.iload_n 3, 1) := by decide +kernel
theorem dX1_has_40 : decode cX1_has 40 = .ok (.if_icmp .ne 7, 3) := by decide +kernel
theorem dX1_has_43 : decode cX1_has 43 = .ok (.iconst 1, 1) := by decide +kernel
theorem dX1_has_44 : decode cX1_has 44 = .ok (.goto 4, 3) := by decide +kernel
theorem dX1_has_47 : decode cX1_has 47 = .ok (.iconst 0, 1) := by decide +kernel
theorem dX1_has_48 : decode cX1_has 48 = .ok (.iadd, 1) := by decide +kernel
theorem dX1_has_49 : decode cX1_has 49 = .ok (.istore 4, 2) := by decide +kernel
theorem dX1_has_51 : decode cX1_has 51 = .ok (.iinc 7 1, 3) := by decide +kernel
theorem dX1_has_54 : decode cX1_has 54 = .ok (.goto (-33), 3) := by decide +kernel
theorem dX1_has_57 : decode cX1_has 57 = .ok (.iload 4, 2) := by decide +kernel
theorem dX1_has_59 : decode cX1_has 59 = .ok (.ireturn, 1) := by decide +kernel
theorem dX1_hand_0 : decode cX1_hand 0 = .ok (.iload 5, 2) := by decide +kernel
theorem dX1_hand_2 : decode cX1_hand 2 = .ok (.istore 6, 2) := by decide +kernel
theorem dX1_hand_4 : decode cX1_hand 4 = .ok (.iconst 0, 1) := by decide +kernel
theorem dX1_hand_5 : decode cX1_hand 5 = .ok (.istore 7, 2) := by decide +kernel
theorem dX1_hand_7 : decode cX1_hand 7 = .ok (.iload 7, 2) := by decide +kernel
theorem dX1_hand_9 : decode cX1_hand 9 = .ok (.bipush 64, 2) := by decide +kernel
theorem dX1_hand_11 : decode cX1_hand 11 = .ok (.if_icmp .ge 48, 3) := by decide +kernel
theorem dX1_hand_14 : decode cX1_hand 14 = .ok (.iload 6, 2) := by decide +kernel
theorem dX1_hand_16 : decode cX1_hand 16 = .ok (.ifCond .le 43, 3) := by decide +kernel
theorem dX1_hand_19 : decode cX1_hand 19 = .ok (.aload_n 0, 1) := by decide +kernel
theorem dX1_hand_20 : decode cX1_hand 20 = .ok (.getfield 18, 3) := by decide +kernel
theorem dX1_hand_23 : decode cX1_hand 23 = .ok (.iload_n 1, 1) := by decide +kernel
theorem dX1_hand_24 : decode cX1_hand 24 = .ok (.aaload, 1) := by decide +kernel
theorem dX1_hand_25 : decode cX1_hand 25 = .ok (.iload_n 2, 1) := by decide +kernel
theorem dX1_hand_26 : decode cX1_hand 26 = .ok (.aaload, 1) := by decide +kernel
theorem dX1_hand_27 : decode cX1_hand 27 = .ok (.iload 7, 2) := by decide +kernel
theorem dX1_hand_29 : decode cX1_hand 29 = .ok (.iaload, 1) := by decide +kernel
theorem dX1_hand_30 : decode cX1_hand 30 = .ok (.iload_n 3, 1) := by decide +kernel
theorem dX1_hand_31 : decode cX1_hand 31 = .ok (.if_icmp .eq 6, 3) := by decide +kernel
theorem dX1_hand_34 : decode cX1_hand 34 = .ok (.goto 19, 3) := by decide +kernel
theorem dX1_hand_37 : decode cX1_hand 37 = .ok (.aload_n 0, 1) := by decide +kernel
theorem dX1_hand_38 : decode cX1_hand 38 = .ok (.getfield 18, 3) := by decide +kernel
theorem dX1_hand_41 : decode cX1_hand 41 = .ok (.iload_n 1, 1) := by decide +kernel
theorem dX1_hand_42 : decode cX1_hand 42 = .ok (.aaload, 1) := by decide +kernel
theorem dX1_hand_43 : decode cX1_hand 43 = .ok (.iload_n 2, 1) := by decide +kernel
theorem dX1_hand_44 : decode cX1_hand 44 = .ok (.aaload, 1) := by decide +kernel
theorem dX1_hand_45 : decode cX1_hand 45 = .ok (.iload 7, 2) := by decide +kernel
theorem dX1_hand_47 : decode cX1_hand 47 = .ok (.iload 4, 2) := by decide +kernel
theorem dX1_hand_49 : decode cX1_hand 49 = .ok (.iastore, 1) := by decide +kernel
theorem dX1_hand_50 : decode cX1_hand 50 = .ok (.iinc 6 (-1), 3) := by decide +kernel
theorem dX1_hand_53 : decode cX1_hand 53 = .ok (.iinc 7 1, 3) := by decide +kernel
theorem dX1_hand_56 : decode cX1_hand 56 = .ok (.goto (-49), 3) := by decide +kernel
theorem dX1_hand_59 : decode cX1_hand 59 = .ok (.return_, 1) := by decide +kernel
theorem dX1_value_0 : decode cX1_value 0 = .ok (.iconst 1, 1) := by decide +kernel
theorem dX1_value_1 : decode cX1_value 1 = .ok (.aload_n 0, 1) := by decide +kernel
theorem dX1_value_2 : decode cX1_value 2 = .ok (.getfield 7, 3) := by decide +kernel
theorem dX1_value_5 : decode cX1_value 5 = .ok (.iload_n 1, 1) := by decide +kernel
theorem dX1_value_6 : decode cX1_value 6 = .ok (.iaload, 1) := by decide +kernel
theorem dX1_value_7 : decode cX1_value 7 = .ok (.iload_n 2, 1) := by decide +kernel
theorem dX1_value_8 : decode cX1_value 8 = .ok (.ifCond .ne 7, 3) := by decide +kernel
theorem dX1_value_11 : decode cX1_value 11 = .ok (.iconst 2, 1) := by decide +kernel
theorem dX1_value_12 : decode cX1_value 12 = .ok (.goto 22, 3) := by decide +kernel
theorem dX1_value_15 : decode cX1_value 15 = .ok (.iload_n 2, 1) := by decide +kernel
theorem dX1_value_16 : decode cX1_value 16 = .ok (.iconst 1, 1) := by decide +kernel
theorem dX1_value_17 : decode cX1_value 17 = .ok (.if_icmp .ne 7, 3) := by decide +kernel
theorem dX1_value_20 : decode cX1_value 20 = .ok (.iconst 4, 1) := by decide +kernel
theorem dX1_value_21 : decode cX1_value 21 = .ok (.goto 13, 3) := by decide +kernel
theorem dX1_value_24 : decode cX1_value 24 = .ok (.iload_n 2, 1) := by decide +kernel
theorem dX1_value_25 : decode cX1_value 25 = .ok (.iconst 2, 1) := by decide +kernel
theorem dX1_value_26 : decode cX1_value 26 = .ok (.if_icmp .ne 7, 3) := by decide +kernel
theorem dX1_value_29 : decode cX1_value 29 = .ok (.iconst 3, 1) := by decide +kernel
theorem dX1_value_30 : decode cX1_value 30 = .ok (.goto 4, 3) := by decide +kernel
theorem dX1_value_33 : decode cX1_value 33 = .ok (.iconst 1, 1) := by decide +kernel
theorem dX1_value_34 : decode cX1_value 34 = .ok (.imul, 1) := by decide +kernel
theorem dX1_value_35 : decode cX1_value 35 = .ok (.iadd, 1) := by decide +kernel
theorem dX1_value_36 : decode cX1_value 36 = .ok (.ireturn, 1) := by decide +kernel
theorem dX1_get_0 : decode cX1_get 0 = .ok (.aload_n 0, 1) := by decide +kernel
theorem dX1_get_1 : decode cX1_get 1 = .ok (.getfield 23, 3) := by decide +kernel
theorem dX1_get_4 : decode cX1_get 4 = .ok (.iload_n 1, 1) := by decide +kernel
theorem dX1_get_5 : decode cX1_get 5 = .ok (.aaload, 1) := by decide +kernel
theorem dX1_get_6 : decode cX1_get 6 = .ok (.iconst 0, 1) := by decide +kernel
theorem dX1_get_7 : decode cX1_get 7 = .ok (.sipush 9999, 3) := by decide +kernel
theorem dX1_get_10 : decode cX1_get 10 = .ok (.aload_n 0, 1) := by decide +kernel
theorem dX1_get_11 : decode cX1_get 11 = .ok (.getfield 23, 3) := by decide +kernel
theorem dX1_get_14 : decode cX1_get 14 = .ok (.iload_n 1, 1) := by decide +kernel
theorem dX1_get_15 : decode cX1_get 15 = .ok (.aaload, 1) := by decide +kernel
theorem dX1_get_16 : decode cX1_get 16 = .ok (.iconst 0, 1) := by decide +kernel
theorem dX1_get_17 : decode cX1_get 17 = .ok (.iaload, 1) := by decide +kernel
theorem dX1_get_18 : decode cX1_get 18 = .ok (.iload_n 2, 1) := by decide +kernel
theorem dX1_get_19 : decode cX1_get 19 = .ok (.iadd, 1) := by decide +kernel
theorem dX1_get_20 : decode cX1_get 20 = .ok (.invokestatic 30, 3) := by decide +kernel
theorem dX1_get_23 : decode cX1_get 23 = .ok (.iastore, 1) := by decide +kernel
theorem dX1_get_24 : decode cX1_get 24 = .ok (.return_, 1) := by decide +kernel
set_option maxRecDepth 20000 in
theorem ggX1_canBuy_X1_has : GoodIn wsX1_canBuy wsX1_has := goodIn_r _ [7, 2, 13, 14, 15, 16, 17] (by decide +kernel) (by decide +kernel)
set_option maxRecDepth 20000 in
theorem gX1_canBuy_X1_has : GoodIn wsX1_canBuy (wsV RX1 36 RX1 yX1_has wsX1_has) := goodIn_app (goodIn_of _ (by decide +kernel)) ggX1_canBuy_X1_has
set_option maxRecDepth 20000 in
theorem ggX1_canBuy_X1_value : GoodIn wsX1_canBuy wsX1_value := goodIn_r _ [11, 12, 13, 14, 15, 16, 17] (by decide +kernel) (by decide +kernel)
set_option maxRecDepth 20000 in
theorem gX1_canBuy_X1_value : GoodIn wsX1_canBuy (wsV RX1 40 RX1 yX1_value wsX1_value) := goodIn_app (goodIn_of _ (by decide +kernel)) ggX1_canBuy_X1_value
theorem dX1_canBuy_0 : decode cX1_canBuy 0 = .ok (.aload_n 0, 1) := by decide +kernel
theorem dX1_canBuy_1 : decode cX1_canBuy 1 = .ok (.iload_n 3, 1) := by decide +kernel
theorem dX1_canBuy_2 : decode cX1_canBuy 2 = .ok (.iload 4, 2) := by decide +kernel
theorem dX1_canBuy_4 : decode cX1_canBuy 4 = .ok (.iload_n 2, 1) := by decide +kernel
theorem dX1_canBuy_5 : decode cX1_canBuy 5 = .ok (.invokevirtual 36, 3) := by decide +kernel
theorem dX1_canBuy_8 : decode cX1_canBuy 8 = .ok (.aload_n 0, 1) := by decide +kernel
theorem dX1_canBuy_9 : decode cX1_canBuy 9 = .ok (.iload_n 3, 1) := by decide +kernel
theorem dX1_canBuy_10 : decode cX1_canBuy 10 = .ok (.iload 4, 2) := by decide +kernel
theorem dX1_canBuy_12 : decode cX1_canBuy 12 = .ok (.invokevirtual 40, 3) := by decide +kernel
theorem dX1_canBuy_15 : decode cX1_canBuy 15 = .ok (.imul, 1) := by decide +kernel
theorem dX1_canBuy_16 : decode cX1_canBuy 16 = .ok (.istore 5, 2) := by decide +kernel
theorem dX1_canBuy_18 : decode cX1_canBuy 18 = .ok (.iload_n 1, 1) := by decide +kernel
theorem dX1_canBuy_19 : decode cX1_canBuy 19 = .ok (.iload_n 2, 1) := by decide +kernel
theorem dX1_canBuy_20 : decode cX1_canBuy 20 = .ok (.if_icmp .eq 34, 3) := by decide +kernel
theorem dX1_canBuy_23 : decode cX1_canBuy 23 = .ok (.iload 5, 2) := by decide +kernel
theorem dX1_canBuy_25 : decode cX1_canBuy 25 = .ok (.iconst 1, 1) := by decide +kernel
theorem dX1_canBuy_26 : decode cX1_canBuy 26 = .ok (.if_icmp .lt 28, 3) := by decide +kernel
theorem dX1_canBuy_29 : decode cX1_canBuy 29 = .ok (.aload_n 0, 1) := by decide +kernel
theorem dX1_canBuy_30 : decode cX1_canBuy 30 = .ok (.getfield 23, 3) := by decide +kernel
theorem dX1_canBuy_33 : decode cX1_canBuy 33 = .ok (.iload_n 1, 1) := by decide +kernel
theorem dX1_canBuy_34 : decode cX1_canBuy 34 = .ok (.aaload, 1) := by decide +kernel
theorem dX1_canBuy_35 : decode cX1_canBuy 35 = .ok (.iconst 3, 1) := by decide +kernel
theorem dX1_canBuy_36 : decode cX1_canBuy 36 = .ok (.iaload, 1) := by decide +kernel
theorem dX1_canBuy_37 : decode cX1_canBuy 37 = .ok (.iconst 1, 1) := by decide +kernel
theorem dX1_canBuy_38 : decode cX1_canBuy 38 = .ok (.if_icmp .eq 16, 3) := by decide +kernel
theorem dX1_canBuy_41 : decode cX1_canBuy 41 = .ok (.aload_n 0, 1) := by decide +kernel
theorem dX1_canBuy_42 : decode cX1_canBuy 42 = .ok (.getfield 23, 3) := by decide +kernel
theorem dX1_canBuy_45 : decode cX1_canBuy 45 = .ok (.iload_n 1, 1) := by decide +kernel
theorem dX1_canBuy_46 : decode cX1_canBuy 46 = .ok (.aaload, 1) := by decide +kernel
theorem dX1_canBuy_47 : decode cX1_canBuy 47 = .ok (.iconst 0, 1) := by decide +kernel
theorem dX1_canBuy_48 : decode cX1_canBuy 48 = .ok (.iaload, 1) := by decide +kernel
theorem dX1_canBuy_49 : decode cX1_canBuy 49 = .ok (.iload 5, 2) := by decide +kernel
theorem dX1_canBuy_51 : decode cX1_canBuy 51 = .ok (.if_icmp .ge 5, 3) := by decide +kernel
theorem dX1_canBuy_54 : decode cX1_canBuy 54 = .ok (.iconst 0, 1) := by decide +kernel
theorem dX1_canBuy_55 : decode cX1_canBuy 55 = .ok (.ireturn, 1) := by decide +kernel
theorem dX1_canBuy_56 : decode cX1_canBuy 56 = .ok (.aload_n 0, 1) := by decide +kernel
theorem dX1_canBuy_57 : decode cX1_canBuy 57 = .ok (.iload_n 3, 1) := by decide +kernel
theorem dX1_canBuy_58 : decode cX1_canBuy 58 = .ok (.iload 4, 2) := by decide +kernel
theorem dX1_canBuy_60 : decode cX1_canBuy 60 = .ok (.iload_n 1, 1) := by decide +kernel
theorem dX1_canBuy_61 : decode cX1_canBuy 61 = .ok (.invokevirtual 36, 3) := by decide +kernel
theorem dX1_canBuy_64 : decode cX1_canBuy 64 = .ok (.ifCond .le 5, 3) := by decide +kernel
theorem dX1_canBuy_67 : decode cX1_canBuy 67 = .ok (.iconst 1, 1) := by decide +kernel
theorem dX1_canBuy_68 : decode cX1_canBuy 68 = .ok (.ireturn, 1) := by decide +kernel
theorem dX1_canBuy_69 : decode cX1_canBuy 69 = .ok (.aload_n 0, 1) := by decide +kernel
theorem dX1_canBuy_70 : decode cX1_canBuy 70 = .ok (.getfield 18, 3) := by decide +kernel
theorem dX1_canBuy_73 : decode cX1_canBuy 73 = .ok (.iload_n 3, 1) := by decide +kernel
theorem dX1_canBuy_74 : decode cX1_canBuy 74 = .ok (.aaload, 1) := by decide +kernel
theorem dX1_canBuy_75 : decode cX1_canBuy 75 = .ok (.iload 4, 2) := by decide +kernel
theorem dX1_canBuy_77 : decode cX1_canBuy 77 = .ok (.aaload, 1) := by decide +kernel
theorem dX1_canBuy_78 : decode cX1_canBuy 78 = .ok (.astore 6, 2) := by decide +kernel
theorem dX1_canBuy_80 : decode cX1_canBuy 80 = .ok (.aload 6, 2) := by decide +kernel
theorem dX1_canBuy_82 : decode cX1_canBuy 82 = .ok (.arraylength, 1) := by decide +kernel
theorem dX1_canBuy_83 : decode cX1_canBuy 83 = .ok (.istore 7, 2) := by decide +kernel
theorem dX1_canBuy_85 : decode cX1_canBuy 85 = .ok (.iconst 0, 1) := by decide +kernel
theorem dX1_canBuy_86 : decode cX1_canBuy 86 = .ok (.istore 8, 2) := by decide +kernel
theorem dX1_canBuy_88 : decode cX1_canBuy 88 = .ok (.iload 8, 2) := by decide +kernel
theorem dX1_canBuy_90 : decode cX1_canBuy 90 = .ok (.iload 7, 2) := by decide +kernel
theorem dX1_canBuy_92 : decode cX1_canBuy 92 = .ok (.if_icmp .ge 43, 3) := by decide +kernel
theorem dX1_canBuy_95 : decode cX1_canBuy 95 = .ok (.aload 6, 2) := by decide +kernel
theorem dX1_canBuy_97 : decode cX1_canBuy 97 = .ok (.iload 8, 2) := by decide +kernel
theorem dX1_canBuy_99 : decode cX1_canBuy 99 = .ok (.iaload, 1) := by decide +kernel
theorem dX1_canBuy_100 : decode cX1_canBuy 100 = .ok (.istore 9, 2) := by decide +kernel
theorem dX1_canBuy_102 : decode cX1_canBuy 102 = .ok (.iload 9, 2) := by decide +kernel
theorem dX1_canBuy_104 : decode cX1_canBuy 104 = .ok (.ifCond .lt 25, 3) := by decide +kernel
theorem dX1_canBuy_107 : decode cX1_canBuy 107 = .ok (.iload 9, 2) := by decide +kernel
theorem dX1_canBuy_109 : decode cX1_canBuy 109 = .ok (.iload_n 2, 1) := by decide +kernel
theorem dX1_canBuy_110 : decode cX1_canBuy 110 = .ok (.if_icmp .eq 19, 3) := by decide +kernel
theorem dX1_canBuy_113 : decode cX1_canBuy 113 = .ok (.aload_n 0, 1) := by decide +kernel
theorem dX1_canBuy_114 : decode cX1_canBuy 114 = .ok (.getfield 23, 3) := by decide +kernel
theorem dX1_canBuy_117 : decode cX1_canBuy 117 = .ok (.iload 9, 2) := by decide +kernel
theorem dX1_canBuy_119 : decode cX1_canBuy 119 = .ok (.aaload, 1) := by decide +kernel
theorem dX1_canBuy_120 : decode cX1_canBuy 120 = .ok (.iconst 0, 1) := by decide +kernel
theorem dX1_canBuy_121 : decode cX1_canBuy 121 = .ok (.iaload, 1) := by decide +kernel
theorem dX1_canBuy_122 : decode cX1_canBuy 122 = .ok (.iload 5, 2) := by decide +kernel
theorem dX1_canBuy_124 : decode cX1_canBuy 124 = .ok (.if_icmp .lt 5, 3) := by decide +kernel
theorem dX1_canBuy_127 : decode cX1_canBuy 127 = .ok (.iconst 0, 1) := by decide +kernel
theorem dX1_canBuy_128 : decode cX1_canBuy 128 = .ok (.ireturn, 1) := by decide +kernel
theorem dX1_canBuy_129 : decode cX1_canBuy 129 = .ok (.iinc 8 1, 3) := by decide +kernel
theorem dX1_canBuy_132 : decode cX1_canBuy 132 = .ok (.goto (-44), 3) := by decide +kernel
theorem dX1_canBuy_135 : decode cX1_canBuy 135 = .ok (.iconst 1, 1) := by decide +kernel
theorem dX1_canBuy_136 : decode cX1_canBuy 136 = .ok (.ireturn, 1) := by decide +kernel
set_option maxRecDepth 20000 in
theorem ggX1_of_X1_has : GoodIn wsX1_of wsX1_has := goodIn_r _ [5, 6, 7, 8, 9, 10, 11] (by decide +kernel) (by decide +kernel)
set_option maxRecDepth 20000 in
theorem gX1_of_X1_has : GoodIn wsX1_of (wsV RX1 36 RX1 yX1_has wsX1_has) := goodIn_app (goodIn_of _ (by decide +kernel)) ggX1_of_X1_has
theorem dX1_of_0 : decode cX1_of 0 = .ok (.iconst 0, 1) := by decide +kernel
theorem dX1_of_1 : decode cX1_of 1 = .ok (.istore_n 3, 1) := by decide +kernel
theorem dX1_of_2 : decode cX1_of 2 = .ok (.iconst 0, 1) := by decide +kernel
theorem dX1_of_3 : decode cX1_of 3 = .ok (.istore 4, 2) := by decide +kernel
theorem dX1_of_5 : decode cX1_of 5 = .ok (.iload 4, 2) := by decide +kernel
theorem dX1_of_7 : decode cX1_of 7 = .ok (.iconst 4, 1) := by decide +kernel
theorem dX1_of_8 : decode cX1_of 8 = .ok (.if_icmp .ge 20, 3) := by decide +kernel
theorem dX1_of_11 : decode cX1_of 11 = .ok (.iload_n 3, 1) := by decide +kernel
theorem dX1_of_12 : decode cX1_of 12 = .ok (.aload_n 0, 1) := by decide +kernel
theorem dX1_of_13 : decode cX1_of 13 = .ok (.iload_n 1, 1) := by decide +kernel
theorem dX1_of_14 : decode cX1_of 14 = .ok (.iload 4, 2) := by decide +kernel
theorem dX1_of_16 : decode cX1_of 16 = .ok (.iload_n 2, 1) := by decide +kernel
theorem dX1_of_17 : decode cX1_of 17 = .ok (.invokevirtual 36, 3) := by decide +kernel
theorem dX1_of_20 : decode cX1_of 20 = .ok (.iadd, 1) := by decide +kernel
theorem dX1_of_21 : decode cX1_of 21 = .ok (.istore_n 3, 1) := by decide +kernel
theorem dX1_of_22 : decode cX1_of 22 = .ok (.iinc 4 1, 3) := by decide +kernel
theorem dX1_of_25 : decode cX1_of 25 = .ok (.goto (-20), 3) := by decide +kernel
theorem dX1_of_28 : decode cX1_of 28 = .ok (.iload_n 3, 1) := by decide +kernel
theorem dX1_of_29 : decode cX1_of 29 = .ok (.ireturn, 1) := by decide +kernel
set_option maxRecDepth 20000 in
theorem ggX1_master_X1_of : GoodIn wsX1_master wsX1_of := goodIn_r _ [6, 7, 8, 9, 5, 10, 11, 12, 13, 14, 15, 16] (by decide +kernel) (by decide +kernel)
set_option maxRecDepth 20000 in
theorem gX1_master_X1_of : GoodIn wsX1_master (wsV RX1 43 RX1 yX1_of wsX1_of) := goodIn_app (goodIn_of _ (by decide +kernel)) ggX1_master_X1_of
theorem dX1_master_0 : decode cX1_master 0 = .ok (.iconst (-1), 1) := by decide +kernel
theorem dX1_master_1 : decode cX1_master 1 = .ok (.istore_n 2, 1) := by decide +kernel
theorem dX1_master_2 : decode cX1_master 2 = .ok (.iconst 0, 1) := by decide +kernel
theorem dX1_master_3 : decode cX1_master 3 = .ok (.istore_n 3, 1) := by decide +kernel
theorem dX1_master_4 : decode cX1_master 4 = .ok (.iload_n 3, 1) := by decide +kernel
theorem dX1_master_5 : decode cX1_master 5 = .ok (.aload_n 0, 1) := by decide +kernel
theorem dX1_master_6 : decode cX1_master 6 = .ok (.getfield 23, 3) := by decide +kernel
theorem dX1_master_9 : decode cX1_master 9 = .ok (.arraylength, 1) := by decide +kernel
theorem dX1_master_10 : decode cX1_master 10 = .ok (.if_icmp .ge 23, 3) := by decide +kernel
theorem dX1_master_13 : decode cX1_master 13 = .ok (.aload_n 0, 1) := by decide +kernel
theorem dX1_master_14 : decode cX1_master 14 = .ok (.iload_n 1, 1) := by decide +kernel
theorem dX1_master_15 : decode cX1_master 15 = .ok (.iload_n 3, 1) := by decide +kernel
theorem dX1_master_16 : decode cX1_master 16 = .ok (.invokevirtual 43, 3) := by decide +kernel
theorem dX1_master_19 : decode cX1_master 19 = .ok (.sipush 129, 3) := by decide +kernel
theorem dX1_master_22 : decode cX1_master 22 = .ok (.if_icmp .lt 5, 3) := by decide +kernel
theorem dX1_master_25 : decode cX1_master 25 = .ok (.iload_n 3, 1) := by decide +kernel
theorem dX1_master_26 : decode cX1_master 26 = .ok (.istore_n 2, 1) := by decide +kernel
theorem dX1_master_27 : decode cX1_master 27 = .ok (.iinc 3 1, 3) := by decide +kernel
theorem dX1_master_30 : decode cX1_master 30 = .ok (.goto (-26), 3) := by decide +kernel
theorem dX1_master_33 : decode cX1_master 33 = .ok (.iload_n 2, 1) := by decide +kernel
theorem dX1_master_34 : decode cX1_master 34 = .ok (.ireturn, 1) := by decide +kernel
set_option maxRecDepth 20000 in
theorem ggX1_living_X1_more : GoodIn wsX1_living wsX1_more := goodIn_r _ [6, 1] (by decide +kernel) (by decide +kernel)
set_option maxRecDepth 20000 in
theorem gX1_living_X1_more : GoodIn wsX1_living (va_wsS RX1 26 yX1_more wsX1_more) := goodIn_app (goodIn_of _ (by decide +kernel)) ggX1_living_X1_more
theorem dX1_living_0 : decode cX1_living 0 = .ok (.iconst 0, 1) := by decide +kernel
theorem dX1_living_1 : decode cX1_living 1 = .ok (.newarray .int, 2) := by decide +kernel
theorem dX1_living_3 : decode cX1_living 3 = .ok (.astore_n 3, 1) := by decide +kernel
theorem dX1_living_4 : decode cX1_living 4 = .ok (.iconst 0, 1) := by decide +kernel
theorem dX1_living_5 : decode cX1_living 5 = .ok (.istore 4, 2) := by decide +kernel
theorem dX1_living_7 : decode cX1_living 7 = .ok (.iload 4, 2) := by decide +kernel
theorem dX1_living_9 : decode cX1_living 9 = .ok (.aload_n 0, 1) := by decide +kernel
theorem dX1_living_10 : decode cX1_living 10 = .ok (.getfield 23, 3) := by decide +kernel
theorem dX1_living_13 : decode cX1_living 13 = .ok (.arraylength, 1) := by decide +kernel
theorem dX1_living_14 : decode cX1_living 14 = .ok (.if_icmp .ge 47, 3) := by decide +kernel
theorem dX1_living_17 : decode cX1_living 17 = .ok (.iload 4, 2) := by decide +kernel
theorem dX1_living_19 : decode cX1_living 19 = .ok (.iload_n 2, 1) := by decide +kernel
theorem dX1_living_20 : decode cX1_living 20 = .ok (.if_icmp .eq 35, 3) := by decide +kernel
theorem dX1_living_23 : decode cX1_living 23 = .ok (.aload_n 0, 1) := by decide +kernel
theorem dX1_living_24 : decode cX1_living 24 = .ok (.getfield 23, 3) := by decide +kernel
theorem dX1_living_27 : decode cX1_living 27 = .ok (.iload 4, 2) := by decide +kernel
theorem dX1_living_29 : decode cX1_living 29 = .ok (.aaload, 1) := by decide +kernel
theorem dX1_living_30 : decode cX1_living 30 = .ok (.iconst 2, 1) := by decide +kernel
theorem dX1_living_31 : decode cX1_living 31 = .ok (.iaload, 1) := by decide +kernel
theorem dX1_living_32 : decode cX1_living 32 = .ok (.iload_n 1, 1) := by decide +kernel
theorem dX1_living_33 : decode cX1_living 33 = .ok (.if_icmp .ne 22, 3) := by decide +kernel
theorem dX1_living_36 : decode cX1_living 36 = .ok (.aload_n 0, 1) := by decide +kernel
theorem dX1_living_37 : decode cX1_living 37 = .ok (.getfield 23, 3) := by decide +kernel
theorem dX1_living_40 : decode cX1_living 40 = .ok (.iload 4, 2) := by decide +kernel
theorem dX1_living_42 : decode cX1_living 42 = .ok (.aaload, 1) := by decide +kernel
theorem dX1_living_43 : decode cX1_living 43 = .ok (.iconst 3, 1) := by decide +kernel
theorem dX1_living_44 : decode cX1_living 44 = .ok (.iaload, 1) := by decide +kernel
theorem dX1_living_45 : decode cX1_living 45 = .ok (.ifCond .ne 10, 3) := by decide +kernel
theorem dX1_living_48 : decode cX1_living 48 = .ok (.aload_n 3, 1) := by decide +kernel
theorem dX1_living_49 : decode cX1_living 49 = .ok (.iload 4, 2) := by decide +kernel
theorem dX1_living_51 : decode cX1_living 51 = .ok (.invokestatic 26, 3) := by decide +kernel
theorem dX1_living_54 : decode cX1_living 54 = .ok (.astore_n 3, 1) := by decide +kernel
theorem dX1_living_55 : decode cX1_living 55 = .ok (.iinc 4 1, 3) := by decide +kernel
theorem dX1_living_58 : decode cX1_living 58 = .ok (.goto (-51), 3) := by decide +kernel
theorem dX1_living_61 : decode cX1_living 61 = .ok (.aload_n 3, 1) := by decide +kernel
theorem dX1_living_62 : decode cX1_living 62 = .ok (.areturn, 1) := by decide +kernel
set_option maxRecDepth 20000 in
theorem ggX1_heirs_X1_living : GoodIn wsX1_heirs wsX1_living := goodIn_r _ [6, 7, 1, 8, 9, 5, 10, 11, 12, 13, 14, 15] (by decide +kernel) (by decide +kernel)
set_option maxRecDepth 20000 in
theorem gX1_heirs_X1_living : GoodIn wsX1_heirs (wsV RX1 46 RX1 yX1_living wsX1_living) := goodIn_app (goodIn_of _ (by decide +kernel)) ggX1_heirs_X1_living
theorem dX1_heirs_0 : decode cX1_heirs 0 = .ok (.aload_n 0, 1) := by decide +kernel
theorem dX1_heirs_1 : decode cX1_heirs 1 = .ok (.iload_n 1, 1) := by decide +kernel
theorem dX1_heirs_2 : decode cX1_heirs 2 = .ok (.iconst (-1), 1) := by decide +kernel
theorem dX1_heirs_3 : decode cX1_heirs 3 = .ok (.invokevirtual 46, 3) := by decide +kernel
theorem dX1_heirs_6 : decode cX1_heirs 6 = .ok (.astore_n 2, 1) := by decide +kernel
theorem dX1_heirs_7 : decode cX1_heirs 7 = .ok (.aload_n 2, 1) := by decide +kernel
theorem dX1_heirs_8 : decode cX1_heirs 8 = .ok (.arraylength, 1) := by decide +kernel
theorem dX1_heirs_9 : decode cX1_heirs 9 = .ok (.ifCond .gt 14, 3) := by decide +kernel
theorem dX1_heirs_12 : decode cX1_heirs 12 = .ok (.aload_n 0, 1) := by decide +kernel
theorem dX1_heirs_13 : decode cX1_heirs 13 = .ok (.getfield 23, 3) := by decide +kernel
theorem dX1_heirs_16 : decode cX1_heirs 16 = .ok (.iload_n 1, 1) := by decide +kernel
theorem dX1_heirs_17 : decode cX1_heirs 17 = .ok (.aaload, 1) := by decide +kernel
theorem dX1_heirs_18 : decode cX1_heirs 18 = .ok (.iconst 2, 1) := by decide +kernel
theorem dX1_heirs_19 : decode cX1_heirs 19 = .ok (.iaload, 1) := by decide +kernel
theorem dX1_heirs_20 : decode cX1_heirs 20 = .ok (.ifCond .ge 7, 3) := by decide +kernel
theorem dX1_heirs_23 : decode cX1_heirs 23 = .ok (.aload_n 2, 1) := by decide +kernel
theorem dX1_heirs_24 : decode cX1_heirs 24 = .ok (.goto 16, 3) := by decide +kernel
theorem dX1_heirs_27 : decode cX1_heirs 27 = .ok (.aload_n 0, 1) := by decide +kernel
theorem dX1_heirs_28 : decode cX1_heirs 28 = .ok (.aload_n 0, 1) := by decide +kernel
theorem dX1_heirs_29 : decode cX1_heirs 29 = .ok (.getfield 23, 3) := by decide +kernel
theorem dX1_heirs_32 : decode cX1_heirs 32 = .ok (.iload_n 1, 1) := by decide +kernel
theorem dX1_heirs_33 : decode cX1_heirs 33 = .ok (.aaload, 1) := by decide +kernel
theorem dX1_heirs_34 : decode cX1_heirs 34 = .ok (.iconst 2, 1) := by decide +kernel
theorem dX1_heirs_35 : decode cX1_heirs 35 = .ok (.iaload, 1) := by decide +kernel
theorem dX1_heirs_36 : decode cX1_heirs 36 = .ok (.iload_n 1, 1) := by decide +kernel
theorem dX1_heirs_37 : decode cX1_heirs 37 = .ok (.invokevirtual 46, 3) := by decide +kernel
theorem dX1_heirs_40 : decode cX1_heirs 40 = .ok (.areturn, 1) := by decide +kernel
theorem dX1_parts_0 : decode cX1_parts 0 = .ok (.iload_n 1, 1) := by decide +kernel
theorem dX1_parts_1 : decode cX1_parts 1 = .ok (.newarray .int, 2) := by decide +kernel
theorem dX1_parts_3 : decode cX1_parts 3 = .ok (.astore_n 2, 1) := by decide +kernel
theorem dX1_parts_4 : decode cX1_parts 4 = .ok (.iload_n 1, 1) := by decide +kernel
theorem dX1_parts_5 : decode cX1_parts 5 = .ok (.ifCond .ne 5, 3) := by decide +kernel
theorem dX1_parts_8 : decode cX1_parts 8 = .ok (.aload_n 2, 1) := by decide +kernel
theorem dX1_parts_9 : decode cX1_parts 9 = .ok (.areturn, 1) := by decide +kernel
theorem dX1_parts_10 : decode cX1_parts 10 = .ok (.aload_n 2, 1) := by decide +kernel
theorem dX1_parts_11 : decode cX1_parts 11 = .ok (.iconst 0, 1) := by decide +kernel
theorem dX1_parts_12 : decode cX1_parts 12 = .ok (.iload_n 1, 1) := by decide +kernel
theorem dX1_parts_13 : decode cX1_parts 13 = .ok (.iconst 1, 1) := by decide +kernel
theorem dX1_parts_14 : decode cX1_parts 14 = .ok (.if_icmp .ne 7, 3) := by decide +kernel
theorem dX1_parts_17 : decode cX1_parts 17 = .ok (.iload_n 0, 1) := by decide +kernel
theorem dX1_parts_18 : decode cX1_parts 18 = .ok (.goto 8, 3) := by decide +kernel
theorem dX1_parts_21 : decode cX1_parts 21 = .ok (.iload_n 0, 1) := by decide +kernel
theorem dX1_parts_22 : decode cX1_parts 22 = .ok (.iconst 1, 1) := by decide +kernel
theorem dX1_parts_23 : decode cX1_parts 23 = .ok (.iadd, 1) := by decide +kernel
theorem dX1_parts_24 : decode cX1_parts 24 = .ok (.iconst 2, 1) := by decide +kernel
theorem dX1_parts_25 : decode cX1_parts 25 = .ok (.idiv, 1) := by decide +kernel
theorem dX1_parts_26 : decode cX1_parts 26 = .ok (.iastore, 1) := by decide +kernel
theorem dX1_parts_27 : decode cX1_parts 27 = .ok (.iload_n 0, 1) := by decide +kernel
theorem dX1_parts_28 : decode cX1_parts 28 = .ok (.aload_n 2, 1) := by decide +kernel
theorem dX1_parts_29 : decode cX1_parts 29 = .ok (.iconst 0, 1) := by decide +kernel
theorem dX1_parts_30 : decode cX1_parts 30 = .ok (.iaload, 1) := by decide +kernel
theorem dX1_parts_31 : decode cX1_parts 31 = .ok (.isub, 1) := by decide +kernel
theorem dX1_parts_32 : decode cX1_parts 32 = .ok (.istore_n 3, 1) := by decide +kernel
theorem dX1_parts_33 : decode cX1_parts 33 = .ok (.iconst 1, 1) := by decide +kernel
theorem dX1_parts_34 : decode cX1_parts 34 = .ok (.istore 4, 2) := by decide +kernel
theorem dX1_parts_36 : decode cX1_parts 36 = .ok (.iload_n 3, 1) := by decide +kernel
theorem dX1_parts_37 : decode cX1_parts 37 = .ok (.ifCond .le 35, 3) := by decide +kernel
theorem dX1_parts_40 : decode cX1_parts 40 = .ok (.aload_n 2, 1) := by decide +kernel
theorem dX1_parts_41 : decode cX1_parts 41 = .ok (.iload 4, 2) := by decide +kernel
theorem dX1_parts_43 : decode cX1_parts 43 = .ok (.dup2, 1) := by decide +kernel
theorem dX1_parts_44 : decode cX1_parts 44 = .ok (.iaload, 1) := by decide +kernel
theorem dX1_parts_45 : decode cX1_parts 45 = .ok (.iconst 1, 1) := by decide +kernel
theorem dX1_parts_46 : decode cX1_parts 46 = .ok (.iadd, 1) := by decide +kernel
theorem dX1_parts_47 : decode cX1_parts 47 = .ok (.iastore, 1) := by decide +kernel
theorem dX1_parts_48 : decode cX1_parts 48 = .ok (.iload 4, 2) := by decide +kernel
theorem dX1_parts_50 : decode cX1_parts 50 = .ok (.iconst 1, 1) := by decide +kernel
theorem dX1_parts_51 : decode cX1_parts 51 = .ok (.iadd, 1) := by decide +kernel
theorem dX1_parts_52 : decode cX1_parts 52 = .ok (.iload_n 1, 1) := by decide +kernel
theorem dX1_parts_53 : decode cX1_parts 53 = .ok (.if_icmp .ne 7, 3) := by decide +kernel
theorem dX1_parts_56 : decode cX1_parts 56 = .ok (.iconst 1, 1) := by decide +kernel
theorem dX1_parts_57 : decode cX1_parts 57 = .ok (.goto 7, 3) := by decide +kernel
theorem dX1_parts_60 : decode cX1_parts 60 = .ok (.iload 4, 2) := by decide +kernel
theorem dX1_parts_62 : decode cX1_parts 62 = .ok (.iconst 1, 1) := by decide +kernel
theorem dX1_parts_63 : decode cX1_parts 63 = .ok (.iadd, 1) := by decide +kernel
theorem dX1_parts_64 : decode cX1_parts 64 = .ok (.istore 4, 2) := by decide +kernel
theorem dX1_parts_66 : decode cX1_parts 66 = .ok (.iinc 3 (-1), 3) := by decide +kernel
theorem dX1_parts_69 : decode cX1_parts 69 = .ok (.goto (-33), 3) := by decide +kernel
theorem dX1_parts_72 : decode cX1_parts 72 = .ok (.aload_n 2, 1) := by decide +kernel
theorem dX1_parts_73 : decode cX1_parts 73 = .ok (.areturn, 1) := by decide +kernel
set_option maxRecDepth 20000 in
theorem ggX1_die_X1_heirs : GoodIn wsX1_die wsX1_heirs := goodIn_r _ [8, 2, 9, 10, 11, 7, 12, 13, 14, 15, 16, 37, 38, 39, 40, 41] (by decide +kernel) (by decide +kernel)
set_option maxRecDepth 20000 in
theorem gX1_die_X1_heirs : GoodIn wsX1_die (wsV RX1 50 RX1 yX1_heirs wsX1_heirs) := goodIn_app (goodIn_of _ (by decide +kernel)) ggX1_die_X1_heirs
set_option maxRecDepth 20000 in
theorem ggX1_die_X1_has : GoodIn wsX1_die wsX1_has := goodIn_r _ [20, 21, 37, 38, 39, 40, 41] (by decide +kernel) (by decide +kernel)
set_option maxRecDepth 20000 in
theorem gX1_die_X1_has : GoodIn wsX1_die (wsV RX1 36 RX1 yX1_has wsX1_has) := goodIn_app (goodIn_of _ (by decide +kernel)) ggX1_die_X1_has
set_option maxRecDepth 20000 in
theorem ggX1_die_X1_parts : GoodIn wsX1_die wsX1_parts := goodIn_r _ [24, 13] (by decide +kernel) (by decide +kernel)
set_option maxRecDepth 20000 in
theorem gX1_die_X1_parts : GoodIn wsX1_die (va_wsS RX1 54 yX1_parts wsX1_parts) := goodIn_app (goodIn_of _ (by decide +kernel)) ggX1_die_X1_parts
set_option maxRecDepth 20000 in
theorem ggX1_die_X1_hand : GoodIn wsX1_die wsX1_hand := goodIn_r _ [28, 21, 37, 38, 39, 40, 41] (by decide +kernel) (by decide +kernel)
set_option maxRecDepth 20000 in
theorem gX1_die_X1_hand : GoodIn wsX1_die (wsV RX1 57 RX1 yX1_hand wsX1_hand) := goodIn_app (goodIn_of _ (by decide +kernel)) ggX1_die_X1_hand
set_option maxRecDepth 20000 in
theorem ggX1_die_X1_get : GoodIn wsX1_die wsX1_get := goodIn_r _ [32, 2, 33, 34, 35, 36, 37, 38, 39, 40, 41] (by decide +kernel) (by decide +kernel)
set_option maxRecDepth 20000 in
theorem gX1_die_X1_get : GoodIn wsX1_die (wsV RX1 61 RX1 yX1_get wsX1_get) := goodIn_app (goodIn_of _ (by decide +kernel)) ggX1_die_X1_get
theorem dX1_die_0 : decode cX1_die 0 = .ok (.aload_n 0, 1) := by decide +kernel
theorem dX1_die_1 : decode cX1_die 1 = .ok (.iload_n 1, 1) := by decide +kernel
theorem dX1_die_2 : decode cX1_die 2 = .ok (.invokevirtual 50, 3) := by decide +kernel
theorem dX1_die_5 : decode cX1_die 5 = .ok (.astore_n 2, 1) := by decide +kernel
theorem dX1_die_6 : decode cX1_die 6 = .ok (.iconst 0, 1) := by decide +kernel
theorem dX1_die_7 : decode cX1_die 7 = .ok (.istore_n 3, 1) := by decide +kernel
theorem dX1_die_8 : decode cX1_die 8 = .ok (.iload_n 3, 1) := by decide +kernel
theorem dX1_die_9 : decode cX1_die 9 = .ok (.aload_n 0, 1) := by decide +kernel
theorem dX1_die_10 : decode cX1_die 10 = .ok (.getfield 7, 3) := by decide +kernel
theorem dX1_die_13 : decode cX1_die 13 = .ok (.arraylength, 1) := by decide +kernel
theorem dX1_die_14 : decode cX1_die 14 = .ok (.if_icmp .ge 83, 3) := by decide +kernel
theorem dX1_die_17 : decode cX1_die 17 = .ok (.iconst 0, 1) := by decide +kernel
theorem dX1_die_18 : decode cX1_die 18 = .ok (.istore 4, 2) := by decide +kernel
theorem dX1_die_20 : decode cX1_die 20 = .ok (.iload 4, 2) := by decide +kernel
theorem dX1_die_22 : decode cX1_die 22 = .ok (.iconst 4, 1) := by decide +kernel
theorem dX1_die_23 : decode cX1_die 23 = .ok (.if_icmp .ge 68, 3) := by decide +kernel
theorem dX1_die_26 : decode cX1_die 26 = .ok (.aload_n 0, 1) := by decide +kernel
theorem dX1_die_27 : decode cX1_die 27 = .ok (.iload_n 3, 1) := by decide +kernel
theorem dX1_die_28 : decode cX1_die 28 = .ok (.iload 4, 2) := by decide +kernel
theorem dX1_die_30 : decode cX1_die 30 = .ok (.iload_n 1, 1) := by decide +kernel
theorem dX1_die_31 : decode cX1_die 31 = .ok (.invokevirtual 36, 3) := by decide +kernel
theorem dX1_die_34 : decode cX1_die 34 = .ok (.aload_n 2, 1) := by decide +kernel
theorem dX1_die_35 : decode cX1_die 35 = .ok (.arraylength, 1) := by decide +kernel
theorem dX1_die_36 : decode cX1_die 36 = .ok (.invokestatic 54, 3) := by decide +kernel
theorem dX1_die_39 : decode cX1_die 39 = .ok (.astore 5, 2) := by decide +kernel
theorem dX1_die_41 : decode cX1_die 41 = .ok (.iconst 0, 1) := by decide +kernel
theorem dX1_die_42 : decode cX1_die 42 = .ok (.istore 6, 2) := by decide +kernel
theorem dX1_die_44 : decode cX1_die 44 = .ok (.iload 6, 2) := by decide +kernel
theorem dX1_die_46 : decode cX1_die 46 = .ok (.aload_n 2, 1) := by decide +kernel
theorem dX1_die_47 : decode cX1_die 47 = .ok (.arraylength, 1) := by decide +kernel
theorem dX1_die_48 : decode cX1_die 48 = .ok (.if_icmp .ge 26, 3) := by decide +kernel
theorem dX1_die_51 : decode cX1_die 51 = .ok (.aload_n 0, 1) := by decide +kernel
theorem dX1_die_52 : decode cX1_die 52 = .ok (.iload_n 3, 1) := by decide +kernel
theorem dX1_die_53 : decode cX1_die 53 = .ok (.iload 4, 2) := by decide +kernel
theorem dX1_die_55 : decode cX1_die 55 = .ok (.iload_n 1, 1) := by decide +kernel
theorem dX1_die_56 : decode cX1_die 56 = .ok (.aload_n 2, 1) := by decide +kernel
theorem dX1_die_57 : decode cX1_die 57 = .ok (.iload 6, 2) := by decide +kernel
theorem dX1_die_59 : decode cX1_die 59 = .ok (.iaload, 1) := by decide +kernel
theorem dX1_die_60 : decode cX1_die 60 = .ok (.aload 5, 2) := by decide +kernel
theorem dX1_die_62 : decode cX1_die 62 = .ok (.iload 6, 2) := by decide +kernel
theorem dX1_die_64 : decode cX1_die 64 = .ok (.iaload, 1) := by decide +kernel
theorem dX1_die_65 : decode cX1_die 65 = .ok (.invokevirtual 57, 3) := by decide +kernel
theorem dX1_die_68 : decode cX1_die 68 = .ok (.iinc 6 1, 3) := by decide +kernel
theorem dX1_die_71 : decode cX1_die 71 = .ok (.goto (-27), 3) := by decide +kernel
theorem dX1_die_74 : decode cX1_die 74 = .ok (.aload_n 0, 1) := by decide +kernel
theorem dX1_die_75 : decode cX1_die 75 = .ok (.iload_n 3, 1) := by decide +kernel
theorem dX1_die_76 : decode cX1_die 76 = .ok (.iload 4, 2) := by decide +kernel
theorem dX1_die_78 : decode cX1_die 78 = .ok (.iload_n 1, 1) := by decide +kernel
theorem dX1_die_79 : decode cX1_die 79 = .ok (.iconst (-1), 1) := by decide +kernel
theorem dX1_die_80 : decode cX1_die 80 = .ok (.bipush 64, 2) := by decide +kernel
theorem dX1_die_82 : decode cX1_die 82 = .ok (.invokevirtual 57, 3) := by decide +kernel
theorem dX1_die_85 : decode cX1_die 85 = .ok (.iinc 4 1, 3) := by decide +kernel
theorem dX1_die_88 : decode cX1_die 88 = .ok (.goto (-68), 3) := by decide +kernel
theorem dX1_die_91 : decode cX1_die 91 = .ok (.iinc 3 1, 3) := by decide +kernel
theorem dX1_die_94 : decode cX1_die 94 = .ok (.goto (-86), 3) := by decide +kernel
theorem dX1_die_97 : decode cX1_die 97 = .ok (.aload_n 0, 1) := by decide +kernel
theorem dX1_die_98 : decode cX1_die 98 = .ok (.getfield 23, 3) := by decide +kernel
theorem dX1_die_101 : decode cX1_die 101 = .ok (.iload_n 1, 1) := by decide +kernel
theorem dX1_die_102 : decode cX1_die 102 = .ok (.aaload, 1) := by decide +kernel
theorem dX1_die_103 : decode cX1_die 103 = .ok (.iconst 0, 1) := by decide +kernel
theorem dX1_die_104 : decode cX1_die 104 = .ok (.iaload, 1) := by decide +kernel
theorem dX1_die_105 : decode cX1_die 105 = .ok (.aload_n 2, 1) := by decide +kernel
theorem dX1_die_106 : decode cX1_die 106 = .ok (.arraylength, 1) := by decide +kernel
theorem dX1_die_107 : decode cX1_die 107 = .ok (.invokestatic 54, 3) := by decide +kernel
theorem dX1_die_110 : decode cX1_die 110 = .ok (.astore_n 3, 1) := by decide +kernel
theorem dX1_die_111 : decode cX1_die 111 = .ok (.iconst 0, 1) := by decide +kernel
theorem dX1_die_112 : decode cX1_die 112 = .ok (.istore 4, 2) := by decide +kernel
theorem dX1_die_114 : decode cX1_die 114 = .ok (.iload 4, 2) := by decide +kernel
theorem dX1_die_116 : decode cX1_die 116 = .ok (.aload_n 2, 1) := by decide +kernel
theorem dX1_die_117 : decode cX1_die 117 = .ok (.arraylength, 1) := by decide +kernel
theorem dX1_die_118 : decode cX1_die 118 = .ok (.if_icmp .ge 21, 3) := by decide +kernel
theorem dX1_die_121 : decode cX1_die 121 = .ok (.aload_n 0, 1) := by decide +kernel
theorem dX1_die_122 : decode cX1_die 122 = .ok (.aload_n 2, 1) := by decide +kernel
theorem dX1_die_123 : decode cX1_die 123 = .ok (.iload 4, 2) := by decide +kernel
theorem dX1_die_125 : decode cX1_die 125 = .ok (.iaload, 1) := by decide +kernel
theorem dX1_die_126 : decode cX1_die 126 = .ok (.aload_n 3, 1) := by decide +kernel
theorem dX1_die_127 : decode cX1_die 127 = .ok (.iload 4, 2) := by decide +kernel
theorem dX1_die_129 : decode cX1_die 129 = .ok (.iaload, 1) := by decide +kernel
theorem dX1_die_130 : decode cX1_die 130 = .ok (.invokevirtual 61, 3) := by decide +kernel
theorem dX1_die_133 : decode cX1_die 133 = .ok (.iinc 4 1, 3) := by decide +kernel
theorem dX1_die_136 : decode cX1_die 136 = .ok (.goto (-22), 3) := by decide +kernel
theorem dX1_die_139 : decode cX1_die 139 = .ok (.aload_n 2, 1) := by decide +kernel
theorem dX1_die_140 : decode cX1_die 140 = .ok (.arraylength, 1) := by decide +kernel
theorem dX1_die_141 : decode cX1_die 141 = .ok (.ifCond .ne 20, 3) := by decide +kernel
theorem dX1_die_144 : decode cX1_die 144 = .ok (.aload_n 0, 1) := by decide +kernel
theorem dX1_die_145 : decode cX1_die 145 = .ok (.dup, 1) := by decide +kernel
theorem dX1_die_146 : decode cX1_die 146 = .ok (.getfield 65, 3) := by decide +kernel
theorem dX1_die_149 : decode cX1_die 149 = .ok (.aload_n 0, 1) := by decide +kernel
theorem dX1_die_150 : decode cX1_die 150 = .ok (.getfield 23, 3) := by decide +kernel
theorem dX1_die_153 : decode cX1_die 153 = .ok (.iload_n 1, 1) := by decide +kernel
theorem dX1_die_154 : decode cX1_die 154 = .ok (.aaload, 1) := by decide +kernel
theorem dX1_die_155 : decode cX1_die 155 = .ok (.iconst 0, 1) := by decide +kernel
theorem dX1_die_156 : decode cX1_die 156 = .ok (.iaload, 1) := by decide +kernel
theorem dX1_die_157 : decode cX1_die 157 = .ok (.iadd, 1) := by decide +kernel
theorem dX1_die_158 : decode cX1_die 158 = .ok (.putfield 65, 3) := by decide +kernel
theorem dX1_die_161 : decode cX1_die 161 = .ok (.aload_n 0, 1) := by decide +kernel
theorem dX1_die_162 : decode cX1_die 162 = .ok (.getfield 23, 3) := by decide +kernel
theorem dX1_die_165 : decode cX1_die 165 = .ok (.iload_n 1, 1) := by decide +kernel
theorem dX1_die_166 : decode cX1_die 166 = .ok (.aaload, 1) := by decide +kernel
theorem dX1_die_167 : decode cX1_die 167 = .ok (.iconst 0, 1) := by decide +kernel
theorem dX1_die_168 : decode cX1_die 168 = .ok (.iconst 0, 1) := by decide +kernel
theorem dX1_die_169 : decode cX1_die 169 = .ok (.iastore, 1) := by decide +kernel
theorem dX1_die_170 : decode cX1_die 170 = .ok (.aload_n 0, 1) := by decide +kernel
theorem dX1_die_171 : decode cX1_die 171 = .ok (.getfield 23, 3) := by decide +kernel
theorem dX1_die_174 : decode cX1_die 174 = .ok (.iload_n 1, 1) := by decide +kernel
theorem dX1_die_175 : decode cX1_die 175 = .ok (.aaload, 1) := by decide +kernel
theorem dX1_die_176 : decode cX1_die 176 = .ok (.iconst 3, 1) := by decide +kernel
theorem dX1_die_177 : decode cX1_die 177 = .ok (.iconst 1, 1) := by decide +kernel
theorem dX1_die_178 : decode cX1_die 178 = .ok (.iastore, 1) := by decide +kernel
theorem dX1_die_179 : decode cX1_die 179 = .ok (.return_, 1) := by decide +kernel
set_option maxRecDepth 20000 in
theorem ggX1_carry_X1_has : GoodIn wsX1_carry wsX1_has := goodIn_r _ [9, 10, 19, 20, 21, 22, 23] (by decide +kernel) (by decide +kernel)
set_option maxRecDepth 20000 in
theorem gX1_carry_X1_has : GoodIn wsX1_carry (wsV RX1 36 RX1 yX1_has wsX1_has) := goodIn_app (goodIn_of _ (by decide +kernel)) ggX1_carry_X1_has
set_option maxRecDepth 20000 in
theorem ggX1_carry_X1_get : GoodIn wsX1_carry wsX1_get := goodIn_r _ [14, 2, 15, 16, 17, 18, 19, 20, 21, 22, 23] (by decide +kernel) (by decide +kernel)
set_option maxRecDepth 20000 in
theorem gX1_carry_X1_get : GoodIn wsX1_carry (wsV RX1 61 RX1 yX1_get wsX1_get) := goodIn_app (goodIn_of _ (by decide +kernel)) ggX1_carry_X1_get
theorem dX1_carry_0 : decode cX1_carry 0 = .ok (.iload_n 3, 1) := by decide +kernel
theorem dX1_carry_1 : decode cX1_carry 1 = .ok (.aload_n 0, 1) := by decide +kernel
theorem dX1_carry_2 : decode cX1_carry 2 = .ok (.getfield 7, 3) := by decide +kernel
theorem dX1_carry_5 : decode cX1_carry 5 = .ok (.iload_n 1, 1) := by decide +kernel
theorem dX1_carry_6 : decode cX1_carry 6 = .ok (.iaload, 1) := by decide +kernel
theorem dX1_carry_7 : decode cX1_carry 7 = .ok (.imul, 1) := by decide +kernel
theorem dX1_carry_8 : decode cX1_carry 8 = .ok (.istore 4, 2) := by decide +kernel
theorem dX1_carry_10 : decode cX1_carry 10 = .ok (.iload 4, 2) := by decide +kernel
theorem dX1_carry_12 : decode cX1_carry 12 = .ok (.istore 5, 2) := by decide +kernel
theorem dX1_carry_14 : decode cX1_carry 14 = .ok (.iconst 0, 1) := by decide +kernel
theorem dX1_carry_15 : decode cX1_carry 15 = .ok (.istore 6, 2) := by decide +kernel
theorem dX1_carry_17 : decode cX1_carry 17 = .ok (.iload 6, 2) := by decide +kernel
theorem dX1_carry_19 : decode cX1_carry 19 = .ok (.aload_n 0, 1) := by decide +kernel
theorem dX1_carry_20 : decode cX1_carry 20 = .ok (.getfield 23, 3) := by decide +kernel
theorem dX1_carry_23 : decode cX1_carry 23 = .ok (.arraylength, 1) := by decide +kernel
theorem dX1_carry_24 : decode cX1_carry 24 = .ok (.if_icmp .ge 57, 3) := by decide +kernel
theorem dX1_carry_27 : decode cX1_carry 27 = .ok (.iload 5, 2) := by decide +kernel
theorem dX1_carry_29 : decode cX1_carry 29 = .ok (.aload_n 0, 1) := by decide +kernel
theorem dX1_carry_30 : decode cX1_carry 30 = .ok (.iload_n 1, 1) := by decide +kernel
theorem dX1_carry_31 : decode cX1_carry 31 = .ok (.iload_n 2, 1) := by decide +kernel
theorem dX1_carry_32 : decode cX1_carry 32 = .ok (.bipush 6, 2) := by decide +kernel
theorem dX1_carry_34 : decode cX1_carry 34 = .ok (.idiv, 1) := by decide +kernel
theorem dX1_carry_35 : decode cX1_carry 35 = .ok (.iload 6, 2) := by decide +kernel
theorem dX1_carry_37 : decode cX1_carry 37 = .ok (.invokevirtual 36, 3) := by decide +kernel
theorem dX1_carry_40 : decode cX1_carry 40 = .ok (.imul, 1) := by decide +kernel
theorem dX1_carry_41 : decode cX1_carry 41 = .ok (.bipush 64, 2) := by decide +kernel
theorem dX1_carry_43 : decode cX1_carry 43 = .ok (.idiv, 1) := by decide +kernel
theorem dX1_carry_44 : decode cX1_carry 44 = .ok (.istore 7, 2) := by decide +kernel
theorem dX1_carry_46 : decode cX1_carry 46 = .ok (.aload_n 0, 1) := by decide +kernel
theorem dX1_carry_47 : decode cX1_carry 47 = .ok (.getfield 23, 3) := by decide +kernel
theorem dX1_carry_50 : decode cX1_carry 50 = .ok (.iload 6, 2) := by decide +kernel
theorem dX1_carry_52 : decode cX1_carry 52 = .ok (.aaload, 1) := by decide +kernel
theorem dX1_carry_53 : decode cX1_carry 53 = .ok (.iconst 1, 1) := by decide +kernel
theorem dX1_carry_54 : decode cX1_carry 54 = .ok (.dup2, 1) := by decide +kernel
theorem dX1_carry_55 : decode cX1_carry 55 = .ok (.iaload, 1) := by decide +kernel
theorem dX1_carry_56 : decode cX1_carry 56 = .ok (.iload 7, 2) := by decide +kernel
theorem dX1_carry_58 : decode cX1_carry 58 = .ok (.iadd, 1) := by decide +kernel
theorem dX1_carry_59 : decode cX1_carry 59 = .ok (.iastore, 1) := by decide +kernel
theorem dX1_carry_60 : decode cX1_carry 60 = .ok (.aload_n 0, 1) := by decide +kernel
theorem dX1_carry_61 : decode cX1_carry 61 = .ok (.iload 6, 2) := by decide +kernel
theorem dX1_carry_63 : decode cX1_carry 63 = .ok (.iload 7, 2) := by decide +kernel
theorem dX1_carry_65 : decode cX1_carry 65 = .ok (.invokevirtual 61, 3) := by decide +kernel
theorem dX1_carry_68 : decode cX1_carry 68 = .ok (.iload 4, 2) := by decide +kernel
theorem dX1_carry_70 : decode cX1_carry 70 = .ok (.iload 7, 2) := by decide +kernel
theorem dX1_carry_72 : decode cX1_carry 72 = .ok (.isub, 1) := by decide +kernel
theorem dX1_carry_73 : decode cX1_carry 73 = .ok (.istore 4, 2) := by decide +kernel
theorem dX1_carry_75 : decode cX1_carry 75 = .ok (.iinc 6 1, 3) := by decide +kernel
theorem dX1_carry_78 : decode cX1_carry 78 = .ok (.goto (-61), 3) := by decide +kernel
theorem dX1_carry_81 : decode cX1_carry 81 = .ok (.aload_n 0, 1) := by decide +kernel
theorem dX1_carry_82 : decode cX1_carry 82 = .ok (.getfield 13, 3) := by decide +kernel
theorem dX1_carry_85 : decode cX1_carry 85 = .ok (.iload_n 1, 1) := by decide +kernel
theorem dX1_carry_86 : decode cX1_carry 86 = .ok (.dup2, 1) := by decide +kernel
theorem dX1_carry_87 : decode cX1_carry 87 = .ok (.iaload, 1) := by decide +kernel
theorem dX1_carry_88 : decode cX1_carry 88 = .ok (.iload_n 3, 1) := by decide +kernel
theorem dX1_carry_89 : decode cX1_carry 89 = .ok (.iadd, 1) := by decide +kernel
theorem dX1_carry_90 : decode cX1_carry 90 = .ok (.iastore, 1) := by decide +kernel
theorem dX1_carry_91 : decode cX1_carry 91 = .ok (.aload_n 0, 1) := by decide +kernel
theorem dX1_carry_92 : decode cX1_carry 92 = .ok (.dup, 1) := by decide +kernel
theorem dX1_carry_93 : decode cX1_carry 93 = .ok (.getfield 65, 3) := by decide +kernel
theorem dX1_carry_96 : decode cX1_carry 96 = .ok (.iload 4, 2) := by decide +kernel
theorem dX1_carry_98 : decode cX1_carry 98 = .ok (.iadd, 1) := by decide +kernel
theorem dX1_carry_99 : decode cX1_carry 99 = .ok (.putfield 65, 3) := by decide +kernel
theorem dX1_carry_102 : decode cX1_carry 102 = .ok (.iload 4, 2) := by decide +kernel
theorem dX1_carry_104 : decode cX1_carry 104 = .ok (.ireturn, 1) := by decide +kernel
set_option maxRecDepth 20000 in
theorem ggX1_isSame_X0_ferries : GoodIn wsX1_isSame wsX0_ferries := goodIn_r _ [10, 11, 222, 223, 224, 225, 226, 227, 228, 229, 230, 231] (by decide +kernel) (by decide +kernel)
set_option maxRecDepth 20000 in
theorem gX1_isSame_X0_ferries : GoodIn wsX1_isSame (wsV RX1 69 RX0 yX0_ferries wsX0_ferries) := goodIn_app (goodIn_of _ (by decide +kernel)) ggX1_isSame_X0_ferries
set_option maxRecDepth 20000 in
theorem ggX1_isSame_X0_people : GoodIn wsX1_isSame wsX0_people := goodIn_r _ [15, 16, 222, 223, 224, 225, 226, 227, 228, 229, 230, 231] (by decide +kernel) (by decide +kernel)
set_option maxRecDepth 20000 in
theorem gX1_isSame_X0_people : GoodIn wsX1_isSame (wsV RX1 75 RX0 yX0_people wsX0_people) := goodIn_app (goodIn_of _ (by decide +kernel)) ggX1_isSame_X0_people
set_option maxRecDepth 20000 in
theorem ggX1_isSame_X0_crownCoins : GoodIn wsX1_isSame wsX0_crownCoins := goodIn_r _ [20, 21, 222, 223, 224, 225, 226, 227, 228, 229, 230, 231] (by decide +kernel) (by decide +kernel)
set_option maxRecDepth 20000 in
theorem gX1_isSame_X0_crownCoins : GoodIn wsX1_isSame (wsV RX1 77 RX0 yX0_crownCoins wsX0_crownCoins) := goodIn_app (goodIn_of _ (by decide +kernel)) ggX1_isSame_X0_crownCoins
set_option maxRecDepth 20000 in
theorem ggX1_isSame_X1_master : GoodIn wsX1_isSame wsX1_master := goodIn_r _ [26, 1, 27, 28, 29, 25, 30, 31, 32, 33, 34, 35, 217, 218, 219, 220, 221] (by decide +kernel) (by decide +kernel)
set_option maxRecDepth 20000 in
theorem gX1_isSame_X1_master : GoodIn wsX1_isSame (wsV RX1 79 RX1 yX1_master wsX1_master) := goodIn_app (goodIn_of _ (by decide +kernel)) ggX1_isSame_X1_master
set_option maxRecDepth 20000 in
theorem ggX1_isSame_X0_toll : GoodIn wsX1_isSame wsX0_toll := goodIn_ca (goodIn_r _ [39, 40, 41, 42, 43, 9, 44, 45, 46, 11, 222, 223, 224, 225, 226, 227, 228, 229, 230, 231] (by decide +kernel) (by decide +kernel)) (goodIn_sub (fun _ h => List.mem_cons_of_mem _ (List.mem_append_left _ (List.mem_append_right _ h))) (by decide +kernel))
set_option maxRecDepth 20000 in
theorem gX1_isSame_X0_toll : GoodIn wsX1_isSame (wsV RX1 83 RX0 yX0_toll wsX0_toll) := goodIn_app (goodIn_of _ (by decide +kernel)) ggX1_isSame_X0_toll
set_option maxRecDepth 20000 in
theorem ggX1_isSame_X0_carried : GoodIn wsX1_isSame wsX0_carried := goodIn_ca (goodIn_r _ [50, 51, 41, 42, 43, 9, 44, 45, 46, 11, 222, 223, 224, 225, 226, 227, 228, 229, 230, 231] (by decide +kernel) (by decide +kernel)) (goodIn_sub (fun _ h => List.mem_cons_of_mem _ (List.mem_append_left _ (List.mem_append_right _ h))) (by decide +kernel))
set_option maxRecDepth 20000 in
theorem gX1_isSame_X0_carried : GoodIn wsX1_isSame (wsV RX1 86 RX0 yX0_carried wsX0_carried) := goodIn_app (goodIn_of _ (by decide +kernel)) ggX1_isSame_X0_carried
set_option maxRecDepth 20000 in
theorem ggX1_isSame_X0_hasMaster : GoodIn wsX1_isSame wsX0_hasMaster := goodIn_ca (goodIn_r _ [55, 41, 42, 43, 9, 44, 45, 46, 11, 56, 57, 58, 59, 16, 60, 61, 62, 63, 64, 65, 66, 67, 68, 69, 70, 71, 222, 223, 224, 225, 226, 227, 228, 229, 230, 231] (by decide +kernel) (by decide +kernel)) (goodIn_sub (fun _ h => List.mem_cons_of_mem _ (List.mem_append_left _ (List.mem_append_right _ h))) (by decide +kernel))
set_option maxRecDepth 20000 in
theorem gX1_isSame_X0_hasMaster : GoodIn wsX1_isSame (wsV RX1 88 RX0 yX0_hasMaster wsX0_hasMaster) := goodIn_app (goodIn_of _ (by decide +kernel)) ggX1_isSame_X0_hasMaster
set_option maxRecDepth 20000 in
theorem ggX1_isSame_X0_master : GoodIn wsX1_isSame wsX0_master := goodIn_ca (goodIn_ca (goodIn_r _ [75, 76, 77, 41, 42, 43, 9, 44, 45, 46, 11, 56, 57, 58, 59, 16, 60, 61, 62, 63, 64, 65, 66, 67, 68, 69, 70, 71, 222, 223, 224, 225, 226, 227, 228, 229, 230, 231] (by decide +kernel) (by decide +kernel)) (goodIn_sub (fun _ h => List.mem_cons_of_mem _ (List.mem_append_right _ h)) (by decide +kernel))) (goodIn_sub (fun _ h => List.mem_cons_of_mem _ (List.mem_append_left _ (List.mem_append_right _ h))) (by decide +kernel))
set_option maxRecDepth 20000 in
theorem gX1_isSame_X0_master : GoodIn wsX1_isSame (wsV RX1 92 RX0 yX0_master wsX0_master) := goodIn_app (goodIn_of _ (by decide +kernel)) ggX1_isSame_X0_master
set_option maxRecDepth 20000 in
theorem ggX1_isSame_X1_has : GoodIn wsX1_isSame wsX1_has := goodIn_r _ [34, 35, 217, 218, 219, 220, 221] (by decide +kernel) (by decide +kernel)
set_option maxRecDepth 20000 in
theorem gX1_isSame_X1_has : GoodIn wsX1_isSame (wsV RX1 36 RX1 yX1_has wsX1_has) := goodIn_app (goodIn_of _ (by decide +kernel)) ggX1_isSame_X1_has
set_option maxRecDepth 20000 in
theorem ggX1_isSame_X0_shares : GoodIn wsX1_isSame wsX0_shares := goodIn_ca (goodIn_r _ [81, 41, 42, 43, 9, 44, 45, 46, 11, 82, 83, 84, 85, 86, 87, 88, 16, 64, 65, 66, 67, 68, 69, 70, 71, 222, 223, 224, 225, 226, 227, 228, 229, 230, 231] (by decide +kernel) (by decide +kernel)) (goodIn_sub (fun _ h => List.mem_cons_of_mem _ (List.mem_append_left _ (List.mem_append_right _ h))) (by decide +kernel))
set_option maxRecDepth 20000 in
theorem gX1_isSame_X0_shares : GoodIn wsX1_isSame (wsV RX1 93 RX0 yX0_shares wsX0_shares) := goodIn_app (goodIn_of _ (by decide +kernel)) ggX1_isSame_X0_shares
set_option maxRecDepth 20000 in
theorem ggX1_isSame_X0_price : GoodIn wsX1_isSame wsX0_price := goodIn_ca (goodIn_r _ [92, 85, 86, 87, 9, 88, 45, 46, 16, 41, 42, 43, 44, 11, 82, 83, 84, 93, 94, 95, 96, 64, 65, 66, 67, 68, 69, 70, 71, 97, 98, 99, 100, 40, 101, 222, 223, 224, 225, 226, 227, 228, 229, 230, 231] (by decide +kernel) (by decide +kernel)) (goodIn_sub (fun _ h => List.mem_cons_of_mem _ (List.mem_append_left _ (List.mem_append_right _ h))) (by decide +kernel))
set_option maxRecDepth 20000 in
theorem gX1_isSame_X0_price : GoodIn wsX1_isSame (wsV RX1 95 RX0 yX0_price wsX0_price) := goodIn_app (goodIn_of _ (by decide +kernel)) ggX1_isSame_X0_price
set_option maxRecDepth 20000 in
theorem ggX1_isSame_X1_value : GoodIn wsX1_isSame wsX1_value := goodIn_r _ [105, 3, 217, 218, 219, 220, 221] (by decide +kernel) (by decide +kernel)
set_option maxRecDepth 20000 in
theorem gX1_isSame_X1_value : GoodIn wsX1_isSame (wsV RX1 40 RX1 yX1_value wsX1_value) := goodIn_app (goodIn_of _ (by decide +kernel)) ggX1_isSame_X1_value
set_option maxRecDepth 20000 in
theorem ggX1_isSame_X0_owners : GoodIn wsX1_isSame wsX0_owners := goodIn_ca (goodIn_r _ [109, 16, 41, 42, 43, 9, 44, 45, 46, 11, 82, 83, 84, 64, 65, 66, 67, 68, 69, 70, 71, 222, 223, 224, 225, 226, 227, 228, 229, 230, 231] (by decide +kernel) (by decide +kernel)) (goodIn_sub (fun _ h => List.mem_cons_of_mem _ (List.mem_append_left _ (List.mem_append_right _ h))) (by decide +kernel))
set_option maxRecDepth 20000 in
theorem gX1_isSame_X0_owners : GoodIn wsX1_isSame (wsV RX1 98 RX0 yX0_owners wsX0_owners) := goodIn_app (goodIn_of _ (by decide +kernel)) ggX1_isSame_X0_owners
set_option maxRecDepth 20000 in
theorem ggX1_isSame_X0_holder : GoodIn wsX1_isSame wsX0_holder := goodIn_ca (goodIn_ca (goodIn_r _ [113, 76, 77, 16, 41, 42, 43, 9, 44, 45, 46, 11, 82, 83, 84, 64, 65, 66, 67, 68, 69, 70, 71, 222, 223, 224, 225, 226, 227, 228, 229, 230, 231] (by decide +kernel) (by decide +kernel)) (goodIn_sub (fun _ h => List.mem_cons_of_mem _ (List.mem_append_right _ h)) (by decide +kernel))) (goodIn_sub (fun _ h => List.mem_cons_of_mem _ (List.mem_append_left _ (List.mem_append_right _ h))) (by decide +kernel))
set_option maxRecDepth 20000 in
theorem gX1_isSame_X0_holder : GoodIn wsX1_isSame (wsV RX1 101 RX0 yX0_holder wsX0_holder) := goodIn_app (goodIn_of _ (by decide +kernel)) ggX1_isSame_X0_holder
set_option maxRecDepth 20000 in
theorem ggX1_isSame_X0_crownShares : GoodIn wsX1_isSame wsX0_crownShares := goodIn_ca (goodIn_r _ [117, 41, 42, 43, 9, 44, 45, 46, 11, 82, 83, 84, 118, 119, 120, 121, 16, 64, 65, 66, 67, 68, 69, 70, 71, 222, 223, 224, 225, 226, 227, 228, 229, 230, 231] (by decide +kernel) (by decide +kernel)) (goodIn_sub (fun _ h => List.mem_cons_of_mem _ (List.mem_append_left _ (List.mem_append_right _ h))) (by decide +kernel))
set_option maxRecDepth 20000 in
theorem gX1_isSame_X0_crownShares : GoodIn wsX1_isSame (wsV RX1 104 RX0 yX0_crownShares wsX0_crownShares) := goodIn_app (goodIn_of _ (by decide +kernel)) ggX1_isSame_X0_crownShares
set_option maxRecDepth 20000 in
theorem ggX1_isSame_X0_shareValue : GoodIn wsX1_isSame wsX0_shareValue := goodIn_ca (goodIn_r _ [125, 41, 42, 43, 9, 44, 45, 46, 11, 82, 83, 84, 97, 98, 99, 100, 40, 101, 222, 223, 224, 225, 226, 227, 228, 229, 230, 231] (by decide +kernel) (by decide +kernel)) (goodIn_sub (fun _ h => List.mem_cons_of_mem _ (List.mem_append_left _ (List.mem_append_right _ h))) (by decide +kernel))
set_option maxRecDepth 20000 in
theorem gX1_isSame_X0_shareValue : GoodIn wsX1_isSame (wsV RX1 107 RX0 yX0_shareValue wsX0_shareValue) := goodIn_app (goodIn_of _ (by decide +kernel)) ggX1_isSame_X0_shareValue
set_option maxRecDepth 20000 in
theorem ggX1_isSame_X1_heirs : GoodIn wsX1_isSame wsX1_heirs := goodIn_r _ [129, 1, 130, 131, 132, 25, 133, 2, 134, 135, 136, 217, 218, 219, 220, 221] (by decide +kernel) (by decide +kernel)
set_option maxRecDepth 20000 in
theorem gX1_isSame_X1_heirs : GoodIn wsX1_isSame (wsV RX1 50 RX1 yX1_heirs wsX1_heirs) := goodIn_app (goodIn_of _ (by decide +kernel)) ggX1_isSame_X1_heirs
set_option maxRecDepth 20000 in
theorem ggX1_isSame_X0_isAlive : GoodIn wsX1_isSame wsX0_isAlive := goodIn_ca (goodIn_r _ [140, 141, 85, 86, 87, 9, 88, 45, 46, 16, 222, 223, 224, 225, 226, 227, 228, 229, 230, 231] (by decide +kernel) (by decide +kernel)) (goodIn_sub (fun _ h => List.mem_cons_of_mem _ (List.mem_append_left _ (List.mem_append_right _ h))) (by decide +kernel))
set_option maxRecDepth 20000 in
theorem gX1_isSame_X0_isAlive : GoodIn wsX1_isSame (wsV RX1 110 RX0 yX0_isAlive wsX0_isAlive) := goodIn_app (goodIn_of _ (by decide +kernel)) ggX1_isSame_X0_isAlive
set_option maxRecDepth 20000 in
theorem ggX1_isSame_X0_coins : GoodIn wsX1_isSame wsX0_coins := goodIn_ca (goodIn_r _ [145, 146, 85, 86, 87, 9, 88, 45, 46, 16, 222, 223, 224, 225, 226, 227, 228, 229, 230, 231] (by decide +kernel) (by decide +kernel)) (goodIn_sub (fun _ h => List.mem_cons_of_mem _ (List.mem_append_left _ (List.mem_append_right _ h))) (by decide +kernel))
set_option maxRecDepth 20000 in
theorem gX1_isSame_X0_coins : GoodIn wsX1_isSame (wsV RX1 113 RX0 yX0_coins wsX0_coins) := goodIn_app (goodIn_of _ (by decide +kernel)) ggX1_isSame_X0_coins
set_option maxRecDepth 20000 in
theorem ggX1_isSame_X0_earned : GoodIn wsX1_isSame wsX0_earned := goodIn_ca (goodIn_r _ [150, 151, 85, 86, 87, 9, 88, 45, 46, 16, 222, 223, 224, 225, 226, 227, 228, 229, 230, 231] (by decide +kernel) (by decide +kernel)) (goodIn_sub (fun _ h => List.mem_cons_of_mem _ (List.mem_append_left _ (List.mem_append_right _ h))) (by decide +kernel))
set_option maxRecDepth 20000 in
theorem gX1_isSame_X0_earned : GoodIn wsX1_isSame (wsV RX1 116 RX0 yX0_earned wsX0_earned) := goodIn_app (goodIn_of _ (by decide +kernel)) ggX1_isSame_X0_earned
set_option maxRecDepth 20000 in
theorem ggX1_isSame_X0_hasParent : GoodIn wsX1_isSame wsX0_hasParent := goodIn_ca (goodIn_r _ [155, 156, 85, 86, 87, 9, 88, 45, 46, 16, 222, 223, 224, 225, 226, 227, 228, 229, 230, 231] (by decide +kernel) (by decide +kernel)) (goodIn_sub (fun _ h => List.mem_cons_of_mem _ (List.mem_append_left _ (List.mem_append_right _ h))) (by decide +kernel))
set_option maxRecDepth 20000 in
theorem gX1_isSame_X0_hasParent : GoodIn wsX1_isSame (wsV RX1 119 RX0 yX0_hasParent wsX0_hasParent) := goodIn_app (goodIn_of _ (by decide +kernel)) ggX1_isSame_X0_hasParent
set_option maxRecDepth 20000 in
theorem ggX1_isSame_X0_parent : GoodIn wsX1_isSame wsX0_parent := goodIn_ca (goodIn_ca (goodIn_r _ [160, 76, 77, 156, 85, 86, 87, 9, 88, 45, 46, 16, 222, 223, 224, 225, 226, 227, 228, 229, 230, 231] (by decide +kernel) (by decide +kernel)) (goodIn_sub (fun _ h => List.mem_cons_of_mem _ (List.mem_append_right _ h)) (by decide +kernel))) (goodIn_sub (fun _ h => List.mem_cons_of_mem _ (List.mem_append_left _ (List.mem_append_right _ h))) (by decide +kernel))
set_option maxRecDepth 20000 in
theorem gX1_isSame_X0_parent : GoodIn wsX1_isSame (wsV RX1 122 RX0 yX0_parent wsX0_parent) := goodIn_app (goodIn_of _ (by decide +kernel)) ggX1_isSame_X0_parent
set_option maxRecDepth 20000 in
theorem ggX1_isSame_X0_children : GoodIn wsX1_isSame wsX0_children := goodIn_ca (goodIn_r _ [164, 85, 86, 87, 9, 88, 45, 46, 16, 165, 166, 167, 168, 156, 222, 223, 224, 225, 226, 227, 228, 229, 230, 231] (by decide +kernel) (by decide +kernel)) (goodIn_sub (fun _ h => List.mem_cons_of_mem _ (List.mem_append_left _ (List.mem_append_right _ h))) (by decide +kernel))
set_option maxRecDepth 20000 in
theorem gX1_isSame_X0_children : GoodIn wsX1_isSame (wsV RX1 125 RX0 yX0_children wsX0_children) := goodIn_app (goodIn_of _ (by decide +kernel)) ggX1_isSame_X0_children
set_option maxRecDepth 20000 in
theorem ggX1_isSame_X0_allShares : GoodIn wsX1_isSame wsX0_allShares := goodIn_ca (goodIn_r _ [172, 85, 86, 87, 9, 88, 45, 46, 16, 173, 174, 175, 176, 11, 60, 61, 62, 63, 64, 65, 66, 67, 68, 69, 70, 71, 222, 223, 224, 225, 226, 227, 228, 229, 230, 231] (by decide +kernel) (by decide +kernel)) (goodIn_sub (fun _ h => List.mem_cons_of_mem _ (List.mem_append_left _ (List.mem_append_right _ h))) (by decide +kernel))
set_option maxRecDepth 20000 in
theorem gX1_isSame_X0_allShares : GoodIn wsX1_isSame (wsV RX1 128 RX0 yX0_allShares wsX0_allShares) := goodIn_app (goodIn_of _ (by decide +kernel)) ggX1_isSame_X0_allShares
set_option maxRecDepth 20000 in
theorem ggX1_isSame_X0_heirs : GoodIn wsX1_isSame wsX0_heirs := goodIn_ca (goodIn_r _ [180, 85, 86, 87, 9, 88, 45, 46, 16, 181, 182, 183, 184, 185, 186, 187, 188, 189, 190, 191, 192, 141, 156, 193, 194, 195, 196, 222, 223, 224, 225, 226, 227, 228, 229, 230, 231] (by decide +kernel) (by decide +kernel)) (goodIn_sub (fun _ h => List.mem_cons_of_mem _ (List.mem_append_left _ (List.mem_append_right _ h))) (by decide +kernel))
set_option maxRecDepth 20000 in
theorem gX1_isSame_X0_heirs : GoodIn wsX1_isSame (wsV RX1 131 RX0 yX0_heirs wsX0_heirs) := goodIn_app (goodIn_of _ (by decide +kernel)) ggX1_isSame_X0_heirs
set_option maxRecDepth 20000 in
theorem ggX1_isSame_X0_heir : GoodIn wsX1_isSame wsX0_heir := goodIn_ca (goodIn_r _ [200, 45, 46, 85, 86, 87, 9, 88, 16, 201, 202, 203, 204, 189, 190, 191, 192, 141, 156, 193, 194, 195, 196, 222, 223, 224, 225, 226, 227, 228, 229, 230, 231] (by decide +kernel) (by decide +kernel)) (goodIn_sub (fun _ h => List.mem_cons_of_mem _ (List.mem_append_left _ (List.mem_append_right _ h))) (by decide +kernel))
set_option maxRecDepth 20000 in
theorem gX1_isSame_X0_heir : GoodIn wsX1_isSame (wsV RX1 133 RX0 yX0_heir wsX0_heir) := goodIn_app (goodIn_of _ (by decide +kernel)) ggX1_isSame_X0_heir
set_option maxRecDepth 20000 in
theorem ggX1_isSame_X0_living : GoodIn wsX1_isSame wsX0_living := goodIn_r _ [208, 16, 141, 222, 223, 224, 225, 226, 227, 228, 229, 230, 231] (by decide +kernel) (by decide +kernel)
set_option maxRecDepth 20000 in
theorem gX1_isSame_X0_living : GoodIn wsX1_isSame (wsV RX1 136 RX0 yX0_living wsX0_living) := goodIn_app (goodIn_of _ (by decide +kernel)) ggX1_isSame_X0_living
set_option maxRecDepth 20000 in
theorem ggX1_isSame_X0_richest : GoodIn wsX1_isSame wsX0_richest := goodIn_ca (goodIn_r _ [212, 76, 77, 16, 141, 146, 222, 223, 224, 225, 226, 227, 228, 229, 230, 231] (by decide +kernel) (by decide +kernel)) (goodIn_sub (fun _ h => List.mem_cons_of_mem _ (List.mem_append_right _ h)) (by decide +kernel))
set_option maxRecDepth 20000 in
theorem gX1_isSame_X0_richest : GoodIn wsX1_isSame (wsV RX1 138 RX0 yX0_richest wsX0_richest) := goodIn_app (goodIn_of _ (by decide +kernel)) ggX1_isSame_X0_richest
set_option maxRecDepth 20000 in
theorem ggX1_isSame_X0_meanCoins : GoodIn wsX1_isSame wsX0_meanCoins := goodIn_r _ [216, 16, 141, 146, 222, 223, 224, 225, 226, 227, 228, 229, 230, 231] (by decide +kernel) (by decide +kernel)
set_option maxRecDepth 20000 in
theorem gX1_isSame_X0_meanCoins : GoodIn wsX1_isSame (wsV RX1 141 RX0 yX0_meanCoins wsX0_meanCoins) := goodIn_app (goodIn_of _ (by decide +kernel)) ggX1_isSame_X0_meanCoins
theorem dX1_isSame_0 : decode cX1_isSame 0 = .ok (.iconst 0, 1) := by decide +kernel
theorem dX1_isSame_1 : decode cX1_isSame 1 = .ok (.istore_n 2, 1) := by decide +kernel
theorem dX1_isSame_2 : decode cX1_isSame 2 = .ok (.iconst 0, 1) := by decide +kernel
theorem dX1_isSame_3 : decode cX1_isSame 3 = .ok (.istore_n 3, 1) := by decide +kernel
theorem dX1_isSame_4 : decode cX1_isSame 4 = .ok (.iconst (-1), 1) := by decide +kernel
theorem dX1_isSame_5 : decode cX1_isSame 5 = .ok (.istore 4, 2) := by decide +kernel
theorem dX1_isSame_7 : decode cX1_isSame 7 = .ok (.aload_n 0, 1) := by decide +kernel
theorem dX1_isSame_8 : decode cX1_isSame 8 = .ok (.getfield 23, 3) := by decide +kernel
theorem dX1_isSame_11 : decode cX1_isSame 11 = .ok (.arraylength, 1) := by decide +kernel
theorem dX1_isSame_12 : decode cX1_isSame 12 = .ok (.newarray .int, 2) := by decide +kernel
theorem dX1_isSame_14 : decode cX1_isSame 14 = .ok (.astore 5, 2) := by decide +kernel
theorem dX1_isSame_16 : decode cX1_isSame 16 = .ok (.aload_n 1, 1) := by decide +kernel
theorem dX1_isSame_17 : decode cX1_isSame 17 = .ok (.invokevirtual 69, 3) := by decide +kernel
theorem dX1_isSame_20 : decode cX1_isSame 20 = .ok (.aload_n 0, 1) := by decide +kernel
theorem dX1_isSame_21 : decode cX1_isSame 21 = .ok (.getfield 7, 3) := by decide +kernel
theorem dX1_isSame_24 : decode cX1_isSame 24 = .ok (.arraylength, 1) := by decide +kernel
theorem dX1_isSame_25 : decode cX1_isSame 25 = .ok (.if_icmp .ne 26, 3) := by decide +kernel
theorem dX1_isSame_28 : decode cX1_isSame 28 = .ok (.aload_n 1, 1) := by decide +kernel
theorem dX1_isSame_29 : decode cX1_isSame 29 = .ok (.invokevirtual 75, 3) := by decide +kernel
theorem dX1_isSame_32 : decode cX1_isSame 32 = .ok (.aload_n 0, 1) := by decide +kernel
theorem dX1_isSame_33 : decode cX1_isSame 33 = .ok (.getfield 23, 3) := by decide +kernel
theorem dX1_isSame_36 : decode cX1_isSame 36 = .ok (.arraylength, 1) := by decide +kernel
theorem dX1_isSame_37 : decode cX1_isSame 37 = .ok (.if_icmp .ne 14, 3) := by decide +kernel
theorem dX1_isSame_40 : decode cX1_isSame 40 = .ok (.aload_n 1, 1) := by decide +kernel
theorem dX1_isSame_41 : decode cX1_isSame 41 = .ok (.invokevirtual 77, 3) := by decide +kernel
theorem dX1_isSame_44 : decode cX1_isSame 44 = .ok (.aload_n 0, 1) := by decide +kernel
theorem dX1_isSame_45 : decode cX1_isSame 45 = .ok (.getfield 65, 3) := by decide +kernel
theorem dX1_isSame_48 : decode cX1_isSame 48 = .ok (.if_icmp .eq 5, 3) := by decide +kernel
theorem dX1_isSame_51 : decode cX1_isSame 51 = .ok (.iconst 0, 1) := by decide +kernel
theorem dX1_isSame_52 : decode cX1_isSame 52 = .ok (.ireturn, 1) := by decide +kernel
theorem dX1_isSame_53 : decode cX1_isSame 53 = .ok (.iconst 0, 1) := by decide +kernel
theorem dX1_isSame_54 : decode cX1_isSame 54 = .ok (.istore 6, 2) := by decide +kernel
theorem dX1_isSame_56 : decode cX1_isSame 56 = .ok (.iload 6, 2) := by decide +kernel
theorem dX1_isSame_58 : decode cX1_isSame 58 = .ok (.aload_n 0, 1) := by decide +kernel
theorem dX1_isSame_59 : decode cX1_isSame 59 = .ok (.getfield 7, 3) := by decide +kernel
theorem dX1_isSame_62 : decode cX1_isSame 62 = .ok (.arraylength, 1) := by decide +kernel
theorem dX1_isSame_63 : decode cX1_isSame 63 = .ok (.if_icmp .ge 306, 3) := by decide +kernel
theorem dX1_isSame_66 : decode cX1_isSame 66 = .ok (.aload_n 0, 1) := by decide +kernel
theorem dX1_isSame_67 : decode cX1_isSame 67 = .ok (.iload 6, 2) := by decide +kernel
theorem dX1_isSame_69 : decode cX1_isSame 69 = .ok (.invokevirtual 79, 3) := by decide +kernel
theorem dX1_isSame_72 : decode cX1_isSame 72 = .ok (.istore 7, 2) := by decide +kernel
theorem dX1_isSame_74 : decode cX1_isSame 74 = .ok (.aload_n 1, 1) := by decide +kernel
theorem dX1_isSame_75 : decode cX1_isSame 75 = .ok (.iload 6, 2) := by decide +kernel
theorem dX1_isSame_77 : decode cX1_isSame 77 = .ok (.invokevirtual 83, 3) := by decide +kernel
theorem dX1_isSame_80 : decode cX1_isSame 80 = .ok (.aload_n 0, 1) := by decide +kernel
theorem dX1_isSame_81 : decode cX1_isSame 81 = .ok (.getfield 7, 3) := by decide +kernel
theorem dX1_isSame_84 : decode cX1_isSame 84 = .ok (.iload 6, 2) := by decide +kernel
theorem dX1_isSame_86 : decode cX1_isSame 86 = .ok (.iaload, 1) := by decide +kernel
theorem dX1_isSame_87 : decode cX1_isSame 87 = .ok (.if_icmp .ne 54, 3) := by decide +kernel
theorem dX1_isSame_90 : decode cX1_isSame 90 = .ok (.aload_n 1, 1) := by decide +kernel
theorem dX1_isSame_91 : decode cX1_isSame 91 = .ok (.iload 6, 2) := by decide +kernel
theorem dX1_isSame_93 : decode cX1_isSame 93 = .ok (.invokevirtual 86, 3) := by decide +kernel
theorem dX1_isSame_96 : decode cX1_isSame 96 = .ok (.aload_n 0, 1) := by decide +kernel
theorem dX1_isSame_97 : decode cX1_isSame 97 = .ok (.getfield 13, 3) := by decide +kernel
theorem dX1_isSame_100 : decode cX1_isSame 100 = .ok (.iload 6, 2) := by decide +kernel
theorem dX1_isSame_102 : decode cX1_isSame 102 = .ok (.iaload, 1) := by decide +kernel
theorem dX1_isSame_103 : decode cX1_isSame 103 = .ok (.if_icmp .ne 38, 3) := by decide +kernel
theorem dX1_isSame_106 : decode cX1_isSame 106 = .ok (.aload_n 1, 1) := by decide +kernel
theorem dX1_isSame_107 : decode cX1_isSame 107 = .ok (.iload 6, 2) := by decide +kernel
theorem dX1_isSame_109 : decode cX1_isSame 109 = .ok (.invokevirtual 88, 3) := by decide +kernel
theorem dX1_isSame_112 : decode cX1_isSame 112 = .ok (.iload 7, 2) := by decide +kernel
theorem dX1_isSame_114 : decode cX1_isSame 114 = .ok (.ifCond .lt 7, 3) := by decide +kernel
theorem dX1_isSame_117 : decode cX1_isSame 117 = .ok (.iconst 1, 1) := by decide +kernel
theorem dX1_isSame_118 : decode cX1_isSame 118 = .ok (.goto 4, 3) := by decide +kernel
theorem dX1_isSame_121 : decode cX1_isSame 121 = .ok (.iconst 0, 1) := by decide +kernel
theorem dX1_isSame_122 : decode cX1_isSame 122 = .ok (.if_icmp .ne 19, 3) := by decide +kernel
theorem dX1_isSame_125 : decode cX1_isSame 125 = .ok (.iload 7, 2) := by decide +kernel
theorem dX1_isSame_127 : decode cX1_isSame 127 = .ok (.ifCond .lt 16, 3) := by decide +kernel
theorem dX1_isSame_130 : decode cX1_isSame 130 = .ok (.aload_n 1, 1) := by decide +kernel
theorem dX1_isSame_131 : decode cX1_isSame 131 = .ok (.iload 6, 2) := by decide +kernel
theorem dX1_isSame_133 : decode cX1_isSame 133 = .ok (.invokevirtual 92, 3) := by decide +kernel
theorem dX1_isSame_136 : decode cX1_isSame 136 = .ok (.iload 7, 2) := by decide +kernel
theorem dX1_isSame_138 : decode cX1_isSame 138 = .ok (.if_icmp .eq 5, 3) := by decide +kernel
theorem dX1_isSame_141 : decode cX1_isSame 141 = .ok (.iconst 0, 1) := by decide +kernel
theorem dX1_isSame_142 : decode cX1_isSame 142 = .ok (.ireturn, 1) := by decide +kernel
theorem dX1_isSame_143 : decode cX1_isSame 143 = .ok (.iconst 0, 1) := by decide +kernel
theorem dX1_isSame_144 : decode cX1_isSame 144 = .ok (.istore 8, 2) := by decide +kernel
theorem dX1_isSame_146 : decode cX1_isSame 146 = .ok (.iload 8, 2) := by decide +kernel
theorem dX1_isSame_148 : decode cX1_isSame 148 = .ok (.iconst 4, 1) := by decide +kernel
theorem dX1_isSame_149 : decode cX1_isSame 149 = .ok (.if_icmp .ge 214, 3) := by decide +kernel
theorem dX1_isSame_152 : decode cX1_isSame 152 = .ok (.iconst 0, 1) := by decide +kernel
theorem dX1_isSame_153 : decode cX1_isSame 153 = .ok (.istore 9, 2) := by decide +kernel
theorem dX1_isSame_155 : decode cX1_isSame 155 = .ok (.iconst (-1), 1) := by decide +kernel
theorem dX1_isSame_156 : decode cX1_isSame 156 = .ok (.istore 10, 2) := by decide +kernel
theorem dX1_isSame_158 : decode cX1_isSame 158 = .ok (.aload_n 0, 1) := by decide +kernel
theorem dX1_isSame_159 : decode cX1_isSame 159 = .ok (.getfield 23, 3) := by decide +kernel
theorem dX1_isSame_162 : decode cX1_isSame 162 = .ok (.arraylength, 1) := by decide +kernel
theorem dX1_isSame_163 : decode cX1_isSame 163 = .ok (.iconst 1, 1) := by decide +kernel
theorem dX1_isSame_164 : decode cX1_isSame 164 = .ok (.isub, 1) := by decide +kernel
theorem dX1_isSame_165 : decode cX1_isSame 165 = .ok (.istore 11, 2) := by decide +kernel
theorem dX1_isSame_167 : decode cX1_isSame 167 = .ok (.iload 11, 2) := by decide +kernel
theorem dX1_isSame_169 : decode cX1_isSame 169 = .ok (.ifCond .lt 116, 3) := by decide +kernel
theorem dX1_isSame_172 : decode cX1_isSame 172 = .ok (.aload_n 0, 1) := by decide +kernel
theorem dX1_isSame_173 : decode cX1_isSame 173 = .ok (.iload 6, 2) := by decide +kernel
theorem dX1_isSame_175 : decode cX1_isSame 175 = .ok (.iload 8, 2) := by decide +kernel
theorem dX1_isSame_177 : decode cX1_isSame 177 = .ok (.iload 11, 2) := by decide +kernel
theorem dX1_isSame_179 : decode cX1_isSame 179 = .ok (.invokevirtual 36, 3) := by decide +kernel
theorem dX1_isSame_182 : decode cX1_isSame 182 = .ok (.istore 12, 2) := by decide +kernel
theorem dX1_isSame_184 : decode cX1_isSame 184 = .ok (.aload_n 1, 1) := by decide +kernel
theorem dX1_isSame_185 : decode cX1_isSame 185 = .ok (.iload 6, 2) := by decide +kernel
theorem dX1_isSame_187 : decode cX1_isSame 187 = .ok (.iload 8, 2) := by decide +kernel
theorem dX1_isSame_189 : decode cX1_isSame 189 = .ok (.iload 11, 2) := by decide +kernel
theorem dX1_isSame_191 : decode cX1_isSame 191 = .ok (.invokevirtual 93, 3) := by decide +kernel
theorem dX1_isSame_194 : decode cX1_isSame 194 = .ok (.iload 12, 2) := by decide +kernel
theorem dX1_isSame_196 : decode cX1_isSame 196 = .ok (.if_icmp .ne 27, 3) := by decide +kernel
theorem dX1_isSame_199 : decode cX1_isSame 199 = .ok (.aload_n 1, 1) := by decide +kernel
theorem dX1_isSame_200 : decode cX1_isSame 200 = .ok (.iload 11, 2) := by decide +kernel
theorem dX1_isSame_202 : decode cX1_isSame 202 = .ok (.iload 6, 2) := by decide +kernel
theorem dX1_isSame_204 : decode cX1_isSame 204 = .ok (.iload 8, 2) := by decide +kernel
theorem dX1_isSame_206 : decode cX1_isSame 206 = .ok (.invokevirtual 95, 3) := by decide +kernel
theorem dX1_isSame_209 : decode cX1_isSame 209 = .ok (.iload 12, 2) := by decide +kernel
theorem dX1_isSame_211 : decode cX1_isSame 211 = .ok (.aload_n 0, 1) := by decide +kernel
theorem dX1_isSame_212 : decode cX1_isSame 212 = .ok (.iload 6, 2) := by decide +kernel
theorem dX1_isSame_214 : decode cX1_isSame 214 = .ok (.iload 8, 2) := by decide +kernel
theorem dX1_isSame_216 : decode cX1_isSame 216 = .ok (.invokevirtual 40, 3) := by decide +kernel
theorem dX1_isSame_219 : decode cX1_isSame 219 = .ok (.imul, 1) := by decide +kernel
theorem dX1_isSame_220 : decode cX1_isSame 220 = .ok (.if_icmp .eq 5, 3) := by decide +kernel
theorem dX1_isSame_223 : decode cX1_isSame 223 = .ok (.iconst 0, 1) := by decide +kernel
theorem dX1_isSame_224 : decode cX1_isSame 224 = .ok (.ireturn, 1) := by decide +kernel
theorem dX1_isSame_225 : decode cX1_isSame 225 = .ok (.aload 5, 2) := by decide +kernel
theorem dX1_isSame_227 : decode cX1_isSame 227 = .ok (.iload 11, 2) := by decide +kernel
theorem dX1_isSame_229 : decode cX1_isSame 229 = .ok (.dup2, 1) := by decide +kernel
theorem dX1_isSame_230 : decode cX1_isSame 230 = .ok (.iaload, 1) := by decide +kernel
theorem dX1_isSame_231 : decode cX1_isSame 231 = .ok (.iload 12, 2) := by decide +kernel
theorem dX1_isSame_233 : decode cX1_isSame 233 = .ok (.iadd, 1) := by decide +kernel
theorem dX1_isSame_234 : decode cX1_isSame 234 = .ok (.iastore, 1) := by decide +kernel
theorem dX1_isSame_235 : decode cX1_isSame 235 = .ok (.iload 9, 2) := by decide +kernel
theorem dX1_isSame_237 : decode cX1_isSame 237 = .ok (.iload 12, 2) := by decide +kernel
theorem dX1_isSame_239 : decode cX1_isSame 239 = .ok (.ifCond .le 7, 3) := by decide +kernel
theorem dX1_isSame_242 : decode cX1_isSame 242 = .ok (.iconst 1, 1) := by decide +kernel
theorem dX1_isSame_243 : decode cX1_isSame 243 = .ok (.goto 4, 3) := by decide +kernel
theorem dX1_isSame_246 : decode cX1_isSame 246 = .ok (.iconst 0, 1) := by decide +kernel
theorem dX1_isSame_247 : decode cX1_isSame 247 = .ok (.iadd, 1) := by decide +kernel
theorem dX1_isSame_248 : decode cX1_isSame 248 = .ok (.istore 9, 2) := by decide +kernel
theorem dX1_isSame_250 : decode cX1_isSame 250 = .ok (.iload 12, 2) := by decide +kernel
theorem dX1_isSame_252 : decode cX1_isSame 252 = .ok (.ifCond .le 27, 3) := by decide +kernel
theorem dX1_isSame_255 : decode cX1_isSame 255 = .ok (.iload 10, 2) := by decide +kernel
theorem dX1_isSame_257 : decode cX1_isSame 257 = .ok (.ifCond .lt 18, 3) := by decide +kernel
theorem dX1_isSame_260 : decode cX1_isSame 260 = .ok (.iload 12, 2) := by decide +kernel
theorem dX1_isSame_262 : decode cX1_isSame 262 = .ok (.aload_n 0, 1) := by decide +kernel
theorem dX1_isSame_263 : decode cX1_isSame 263 = .ok (.iload 6, 2) := by decide +kernel
theorem dX1_isSame_265 : decode cX1_isSame 265 = .ok (.iload 8, 2) := by decide +kernel
theorem dX1_isSame_267 : decode cX1_isSame 267 = .ok (.iload 10, 2) := by decide +kernel
theorem dX1_isSame_269 : decode cX1_isSame 269 = .ok (.invokevirtual 36, 3) := by decide +kernel
theorem dX1_isSame_272 : decode cX1_isSame 272 = .ok (.if_icmp .lt 7, 3) := by decide +kernel
theorem dX1_isSame_275 : decode cX1_isSame 275 = .ok (.iload 11, 2) := by decide +kernel
theorem dX1_isSame_277 : decode cX1_isSame 277 = .ok (.istore 10, 2) := by decide +kernel
theorem dX1_isSame_279 : decode cX1_isSame 279 = .ok (.iinc 11 (-1), 3) := by decide +kernel
theorem dX1_isSame_282 : decode cX1_isSame 282 = .ok (.goto (-115), 3) := by decide +kernel
theorem dX1_isSame_285 : decode cX1_isSame 285 = .ok (.aload_n 1, 1) := by decide +kernel
theorem dX1_isSame_286 : decode cX1_isSame 286 = .ok (.iload 6, 2) := by decide +kernel
theorem dX1_isSame_288 : decode cX1_isSame 288 = .ok (.iload 8, 2) := by decide +kernel
theorem dX1_isSame_290 : decode cX1_isSame 290 = .ok (.invokevirtual 98, 3) := by decide +kernel
theorem dX1_isSame_293 : decode cX1_isSame 293 = .ok (.iload 9, 2) := by decide +kernel
theorem dX1_isSame_295 : decode cX1_isSame 295 = .ok (.if_icmp .ne 60, 3) := by decide +kernel
theorem dX1_isSame_298 : decode cX1_isSame 298 = .ok (.iload 9, 2) := by decide +kernel
theorem dX1_isSame_300 : decode cX1_isSame 300 = .ok (.ifCond .le 16, 3) := by decide +kernel
theorem dX1_isSame_303 : decode cX1_isSame 303 = .ok (.aload_n 1, 1) := by decide +kernel
theorem dX1_isSame_304 : decode cX1_isSame 304 = .ok (.iload 6, 2) := by decide +kernel
theorem dX1_isSame_306 : decode cX1_isSame 306 = .ok (.iload 8, 2) := by decide +kernel
theorem dX1_isSame_308 : decode cX1_isSame 308 = .ok (.invokevirtual 101, 3) := by decide +kernel
theorem dX1_isSame_311 : decode cX1_isSame 311 = .ok (.iload 10, 2) := by decide +kernel
theorem dX1_isSame_313 : decode cX1_isSame 313 = .ok (.if_icmp .ne 42, 3) := by decide +kernel
theorem dX1_isSame_316 : decode cX1_isSame 316 = .ok (.aload_n 1, 1) := by decide +kernel
theorem dX1_isSame_317 : decode cX1_isSame 317 = .ok (.iload 6, 2) := by decide +kernel
theorem dX1_isSame_319 : decode cX1_isSame 319 = .ok (.iload 8, 2) := by decide +kernel
theorem dX1_isSame_321 : decode cX1_isSame 321 = .ok (.invokevirtual 104, 3) := by decide +kernel
theorem dX1_isSame_324 : decode cX1_isSame 324 = .ok (.aload_n 0, 1) := by decide +kernel
theorem dX1_isSame_325 : decode cX1_isSame 325 = .ok (.iload 6, 2) := by decide +kernel
theorem dX1_isSame_327 : decode cX1_isSame 327 = .ok (.iload 8, 2) := by decide +kernel
theorem dX1_isSame_329 : decode cX1_isSame 329 = .ok (.iconst (-1), 1) := by decide +kernel
theorem dX1_isSame_330 : decode cX1_isSame 330 = .ok (.invokevirtual 36, 3) := by decide +kernel
theorem dX1_isSame_333 : decode cX1_isSame 333 = .ok (.if_icmp .ne 22, 3) := by decide +kernel
theorem dX1_isSame_336 : decode cX1_isSame 336 = .ok (.aload_n 1, 1) := by decide +kernel
theorem dX1_isSame_337 : decode cX1_isSame 337 = .ok (.iload 6, 2) := by decide +kernel
theorem dX1_isSame_339 : decode cX1_isSame 339 = .ok (.iload 8, 2) := by decide +kernel
theorem dX1_isSame_341 : decode cX1_isSame 341 = .ok (.invokevirtual 107, 3) := by decide +kernel
theorem dX1_isSame_344 : decode cX1_isSame 344 = .ok (.aload_n 0, 1) := by decide +kernel
theorem dX1_isSame_345 : decode cX1_isSame 345 = .ok (.iload 6, 2) := by decide +kernel
theorem dX1_isSame_347 : decode cX1_isSame 347 = .ok (.iload 8, 2) := by decide +kernel
theorem dX1_isSame_349 : decode cX1_isSame 349 = .ok (.invokevirtual 40, 3) := by decide +kernel
theorem dX1_isSame_352 : decode cX1_isSame 352 = .ok (.if_icmp .eq 5, 3) := by decide +kernel
theorem dX1_isSame_355 : decode cX1_isSame 355 = .ok (.iconst 0, 1) := by decide +kernel
theorem dX1_isSame_356 : decode cX1_isSame 356 = .ok (.ireturn, 1) := by decide +kernel
theorem dX1_isSame_357 : decode cX1_isSame 357 = .ok (.iinc 8 1, 3) := by decide +kernel
theorem dX1_isSame_360 : decode cX1_isSame 360 = .ok (.goto (-214), 3) := by decide +kernel
theorem dX1_isSame_363 : decode cX1_isSame 363 = .ok (.iinc 6 1, 3) := by decide +kernel
theorem dX1_isSame_366 : decode cX1_isSame 366 = .ok (.goto (-310), 3) := by decide +kernel
theorem dX1_isSame_369 : decode cX1_isSame 369 = .ok (.iconst 0, 1) := by decide +kernel
theorem dX1_isSame_370 : decode cX1_isSame 370 = .ok (.istore 6, 2) := by decide +kernel
theorem dX1_isSame_372 : decode cX1_isSame 372 = .ok (.iload 6, 2) := by decide +kernel
theorem dX1_isSame_374 : decode cX1_isSame 374 = .ok (.aload_n 0, 1) := by decide +kernel
theorem dX1_isSame_375 : decode cX1_isSame 375 = .ok (.getfield 23, 3) := by decide +kernel
theorem dX1_isSame_378 : decode cX1_isSame 378 = .ok (.arraylength, 1) := by decide +kernel
theorem dX1_isSame_379 : decode cX1_isSame 379 = .ok (.if_icmp .ge 290, 3) := by decide +kernel
theorem dX1_isSame_382 : decode cX1_isSame 382 = .ok (.aload_n 0, 1) := by decide +kernel
theorem dX1_isSame_383 : decode cX1_isSame 383 = .ok (.getfield 23, 3) := by decide +kernel
theorem dX1_isSame_386 : decode cX1_isSame 386 = .ok (.iload 6, 2) := by decide +kernel
theorem dX1_isSame_388 : decode cX1_isSame 388 = .ok (.aaload, 1) := by decide +kernel
theorem dX1_isSame_389 : decode cX1_isSame 389 = .ok (.astore 7, 2) := by decide +kernel
theorem dX1_isSame_391 : decode cX1_isSame 391 = .ok (.iconst 0, 1) := by decide +kernel
theorem dX1_isSame_392 : decode cX1_isSame 392 = .ok (.istore 8, 2) := by decide +kernel
theorem dX1_isSame_394 : decode cX1_isSame 394 = .ok (.aload_n 0, 1) := by decide +kernel
theorem dX1_isSame_395 : decode cX1_isSame 395 = .ok (.getfield 23, 3) := by decide +kernel
theorem dX1_isSame_398 : decode cX1_isSame 398 = .ok (.astore 9, 2) := by decide +kernel
theorem dX1_isSame_400 : decode cX1_isSame 400 = .ok (.aload 9, 2) := by decide +kernel
theorem dX1_isSame_402 : decode cX1_isSame 402 = .ok (.arraylength, 1) := by decide +kernel
theorem dX1_isSame_403 : decode cX1_isSame 403 = .ok (.istore 10, 2) := by decide +kernel
theorem dX1_isSame_405 : decode cX1_isSame 405 = .ok (.iconst 0, 1) := by decide +kernel
theorem dX1_isSame_406 : decode cX1_isSame 406 = .ok (.istore 11, 2) := by decide +kernel
theorem dX1_isSame_408 : decode cX1_isSame 408 = .ok (.iload 11, 2) := by decide +kernel
theorem dX1_isSame_410 : decode cX1_isSame 410 = .ok (.iload 10, 2) := by decide +kernel
theorem dX1_isSame_412 : decode cX1_isSame 412 = .ok (.if_icmp .ge 35, 3) := by decide +kernel
theorem dX1_isSame_415 : decode cX1_isSame 415 = .ok (.aload 9, 2) := by decide +kernel
theorem dX1_isSame_417 : decode cX1_isSame 417 = .ok (.iload 11, 2) := by decide +kernel
theorem dX1_isSame_419 : decode cX1_isSame 419 = .ok (.aaload, 1) := by decide +kernel
theorem dX1_isSame_420 : decode cX1_isSame 420 = .ok (.astore 12, 2) := by decide +kernel
theorem dX1_isSame_422 : decode cX1_isSame 422 = .ok (.iload 8, 2) := by decide +kernel
theorem dX1_isSame_424 : decode cX1_isSame 424 = .ok (.aload 12, 2) := by decide +kernel
theorem dX1_isSame_426 : decode cX1_isSame 426 = .ok (.iconst 2, 1) := by decide +kernel
theorem dX1_isSame_427 : decode cX1_isSame 427 = .ok (.iaload, 1) := by decide +kernel
theorem dX1_isSame_428 : decode cX1_isSame 428 = .ok (.iload 6, 2) := by decide +kernel
theorem dX1_isSame_430 : decode cX1_isSame 430 = .ok (.if_icmp .ne 7, 3) := by decide +kernel
theorem dX1_isSame_433 : decode cX1_isSame 433 = .ok (.iconst 1, 1) := by decide +kernel
theorem dX1_isSame_434 : decode cX1_isSame 434 = .ok (.goto 4, 3) := by decide +kernel
theorem dX1_isSame_437 : decode cX1_isSame 437 = .ok (.iconst 0, 1) := by decide +kernel
theorem dX1_isSame_438 : decode cX1_isSame 438 = .ok (.iadd, 1) := by decide +kernel
theorem dX1_isSame_439 : decode cX1_isSame 439 = .ok (.istore 8, 2) := by decide +kernel
theorem dX1_isSame_441 : decode cX1_isSame 441 = .ok (.iinc 11 1, 3) := by decide +kernel
theorem dX1_isSame_444 : decode cX1_isSame 444 = .ok (.goto (-36), 3) := by decide +kernel
theorem dX1_isSame_447 : decode cX1_isSame 447 = .ok (.aload_n 0, 1) := by decide +kernel
theorem dX1_isSame_448 : decode cX1_isSame 448 = .ok (.iload 6, 2) := by decide +kernel
theorem dX1_isSame_450 : decode cX1_isSame 450 = .ok (.invokevirtual 50, 3) := by decide +kernel
theorem dX1_isSame_453 : decode cX1_isSame 453 = .ok (.astore 9, 2) := by decide +kernel
theorem dX1_isSame_455 : decode cX1_isSame 455 = .ok (.aload_n 1, 1) := by decide +kernel
theorem dX1_isSame_456 : decode cX1_isSame 456 = .ok (.iload 6, 2) := by decide +kernel
theorem dX1_isSame_458 : decode cX1_isSame 458 = .ok (.invokevirtual 110, 3) := by decide +kernel
theorem dX1_isSame_461 : decode cX1_isSame 461 = .ok (.aload 7, 2) := by decide +kernel
theorem dX1_isSame_463 : decode cX1_isSame 463 = .ok (.iconst 3, 1) := by decide +kernel
theorem dX1_isSame_464 : decode cX1_isSame 464 = .ok (.iaload, 1) := by decide +kernel
theorem dX1_isSame_465 : decode cX1_isSame 465 = .ok (.ifCond .ne 7, 3) := by decide +kernel
theorem dX1_isSame_468 : decode cX1_isSame 468 = .ok (.iconst 1, 1) := by decide +kernel
theorem dX1_isSame_469 : decode cX1_isSame 469 = .ok (.goto 4, 3) := by decide +kernel
theorem dX1_isSame_472 : decode cX1_isSame 472 = .ok (.iconst 0, 1) := by decide +kernel
theorem dX1_isSame_473 : decode cX1_isSame 473 = .ok (.if_icmp .ne 107, 3) := by decide +kernel
theorem dX1_isSame_476 : decode cX1_isSame 476 = .ok (.aload_n 1, 1) := by decide +kernel
theorem dX1_isSame_477 : decode cX1_isSame 477 = .ok (.iload 6, 2) := by decide +kernel
theorem dX1_isSame_479 : decode cX1_isSame 479 = .ok (.invokevirtual 113, 3) := by decide +kernel
theorem dX1_isSame_482 : decode cX1_isSame 482 = .ok (.aload 7, 2) := by decide +kernel
theorem dX1_isSame_484 : decode cX1_isSame 484 = .ok (.iconst 0, 1) := by decide +kernel
theorem dX1_isSame_485 : decode cX1_isSame 485 = .ok (.iaload, 1) := by decide +kernel
theorem dX1_isSame_486 : decode cX1_isSame 486 = .ok (.if_icmp .ne 94, 3) := by decide +kernel
theorem dX1_isSame_489 : decode cX1_isSame 489 = .ok (.aload_n 1, 1) := by decide +kernel
theorem dX1_isSame_490 : decode cX1_isSame 490 = .ok (.iload 6, 2) := by decide +kernel
theorem dX1_isSame_492 : decode cX1_isSame 492 = .ok (.invokevirtual 116, 3) := by decide +kernel
theorem dX1_isSame_495 : decode cX1_isSame 495 = .ok (.aload 7, 2) := by decide +kernel
theorem dX1_isSame_497 : decode cX1_isSame 497 = .ok (.iconst 1, 1) := by decide +kernel
theorem dX1_isSame_498 : decode cX1_isSame 498 = .ok (.iaload, 1) := by decide +kernel
theorem dX1_isSame_499 : decode cX1_isSame 499 = .ok (.if_icmp .ne 81, 3) := by decide +kernel
theorem dX1_isSame_502 : decode cX1_isSame 502 = .ok (.aload_n 1, 1) := by decide +kernel
theorem dX1_isSame_503 : decode cX1_isSame 503 = .ok (.iload 6, 2) := by decide +kernel
theorem dX1_isSame_505 : decode cX1_isSame 505 = .ok (.invokevirtual 119, 3) := by decide +kernel
theorem dX1_isSame_508 : decode cX1_isSame 508 = .ok (.aload 7, 2) := by decide +kernel
theorem dX1_isSame_510 : decode cX1_isSame 510 = .ok (.iconst 2, 1) := by decide +kernel
theorem dX1_isSame_511 : decode cX1_isSame 511 = .ok (.iaload, 1) := by decide +kernel
theorem dX1_isSame_512 : decode cX1_isSame 512 = .ok (.ifCond .lt 7, 3) := by decide +kernel
theorem dX1_isSame_515 : decode cX1_isSame 515 = .ok (.iconst 1, 1) := by decide +kernel
theorem dX1_isSame_516 : decode cX1_isSame 516 = .ok (.goto 4, 3) := by decide +kernel
theorem dX1_isSame_519 : decode cX1_isSame 519 = .ok (.iconst 0, 1) := by decide +kernel
theorem dX1_isSame_520 : decode cX1_isSame 520 = .ok (.if_icmp .ne 60, 3) := by decide +kernel
theorem dX1_isSame_523 : decode cX1_isSame 523 = .ok (.aload 7, 2) := by decide +kernel
theorem dX1_isSame_525 : decode cX1_isSame 525 = .ok (.iconst 2, 1) := by decide +kernel
theorem dX1_isSame_526 : decode cX1_isSame 526 = .ok (.iaload, 1) := by decide +kernel
theorem dX1_isSame_527 : decode cX1_isSame 527 = .ok (.ifCond .lt 16, 3) := by decide +kernel
theorem dX1_isSame_530 : decode cX1_isSame 530 = .ok (.aload_n 1, 1) := by decide +kernel
theorem dX1_isSame_531 : decode cX1_isSame 531 = .ok (.iload 6, 2) := by decide +kernel
theorem dX1_isSame_533 : decode cX1_isSame 533 = .ok (.invokevirtual 122, 3) := by decide +kernel
theorem dX1_isSame_536 : decode cX1_isSame 536 = .ok (.aload 7, 2) := by decide +kernel
theorem dX1_isSame_538 : decode cX1_isSame 538 = .ok (.iconst 2, 1) := by decide +kernel
theorem dX1_isSame_539 : decode cX1_isSame 539 = .ok (.iaload, 1) := by decide +kernel
theorem dX1_isSame_540 : decode cX1_isSame 540 = .ok (.if_icmp .ne 40, 3) := by decide +kernel
theorem dX1_isSame_543 : decode cX1_isSame 543 = .ok (.aload_n 1, 1) := by decide +kernel
theorem dX1_isSame_544 : decode cX1_isSame 544 = .ok (.iload 6, 2) := by decide +kernel
theorem dX1_isSame_546 : decode cX1_isSame 546 = .ok (.invokevirtual 125, 3) := by decide +kernel
theorem dX1_isSame_549 : decode cX1_isSame 549 = .ok (.iload 8, 2) := by decide +kernel
theorem dX1_isSame_551 : decode cX1_isSame 551 = .ok (.if_icmp .ne 29, 3) := by decide +kernel
theorem dX1_isSame_554 : decode cX1_isSame 554 = .ok (.aload_n 1, 1) := by decide +kernel
theorem dX1_isSame_555 : decode cX1_isSame 555 = .ok (.iload 6, 2) := by decide +kernel
theorem dX1_isSame_557 : decode cX1_isSame 557 = .ok (.invokevirtual 128, 3) := by decide +kernel
theorem dX1_isSame_560 : decode cX1_isSame 560 = .ok (.aload 5, 2) := by decide +kernel
theorem dX1_isSame_562 : decode cX1_isSame 562 = .ok (.iload 6, 2) := by decide +kernel
theorem dX1_isSame_564 : decode cX1_isSame 564 = .ok (.iaload, 1) := by decide +kernel
theorem dX1_isSame_565 : decode cX1_isSame 565 = .ok (.if_icmp .ne 15, 3) := by decide +kernel
theorem dX1_isSame_568 : decode cX1_isSame 568 = .ok (.aload_n 1, 1) := by decide +kernel
theorem dX1_isSame_569 : decode cX1_isSame 569 = .ok (.iload 6, 2) := by decide +kernel
theorem dX1_isSame_571 : decode cX1_isSame 571 = .ok (.invokevirtual 131, 3) := by decide +kernel
theorem dX1_isSame_574 : decode cX1_isSame 574 = .ok (.aload 9, 2) := by decide +kernel
theorem dX1_isSame_576 : decode cX1_isSame 576 = .ok (.arraylength, 1) := by decide +kernel
theorem dX1_isSame_577 : decode cX1_isSame 577 = .ok (.if_icmp .eq 5, 3) := by decide +kernel
theorem dX1_isSame_580 : decode cX1_isSame 580 = .ok (.iconst 0, 1) := by decide +kernel
theorem dX1_isSame_581 : decode cX1_isSame 581 = .ok (.ireturn, 1) := by decide +kernel
theorem dX1_isSame_582 : decode cX1_isSame 582 = .ok (.iconst 0, 1) := by decide +kernel
theorem dX1_isSame_583 : decode cX1_isSame 583 = .ok (.istore 10, 2) := by decide +kernel
theorem dX1_isSame_585 : decode cX1_isSame 585 = .ok (.iload 10, 2) := by decide +kernel
theorem dX1_isSame_587 : decode cX1_isSame 587 = .ok (.aload 9, 2) := by decide +kernel
theorem dX1_isSame_589 : decode cX1_isSame 589 = .ok (.arraylength, 1) := by decide +kernel
theorem dX1_isSame_590 : decode cX1_isSame 590 = .ok (.if_icmp .ge 27, 3) := by decide +kernel
theorem dX1_isSame_593 : decode cX1_isSame 593 = .ok (.aload_n 1, 1) := by decide +kernel
theorem dX1_isSame_594 : decode cX1_isSame 594 = .ok (.iload 6, 2) := by decide +kernel
theorem dX1_isSame_596 : decode cX1_isSame 596 = .ok (.iload 10, 2) := by decide +kernel
theorem dX1_isSame_598 : decode cX1_isSame 598 = .ok (.invokevirtual 133, 3) := by decide +kernel
theorem dX1_isSame_601 : decode cX1_isSame 601 = .ok (.aload 9, 2) := by decide +kernel
theorem dX1_isSame_603 : decode cX1_isSame 603 = .ok (.iload 10, 2) := by decide +kernel
theorem dX1_isSame_605 : decode cX1_isSame 605 = .ok (.iaload, 1) := by decide +kernel
theorem dX1_isSame_606 : decode cX1_isSame 606 = .ok (.if_icmp .eq 5, 3) := by decide +kernel
theorem dX1_isSame_609 : decode cX1_isSame 609 = .ok (.iconst 0, 1) := by decide +kernel
theorem dX1_isSame_610 : decode cX1_isSame 610 = .ok (.ireturn, 1) := by decide +kernel
theorem dX1_isSame_611 : decode cX1_isSame 611 = .ok (.iinc 10 1, 3) := by decide +kernel
theorem dX1_isSame_614 : decode cX1_isSame 614 = .ok (.goto (-29), 3) := by decide +kernel
theorem dX1_isSame_617 : decode cX1_isSame 617 = .ok (.iload_n 3, 1) := by decide +kernel
theorem dX1_isSame_618 : decode cX1_isSame 618 = .ok (.aload 7, 2) := by decide +kernel
theorem dX1_isSame_620 : decode cX1_isSame 620 = .ok (.iconst 0, 1) := by decide +kernel
theorem dX1_isSame_621 : decode cX1_isSame 621 = .ok (.iaload, 1) := by decide +kernel
theorem dX1_isSame_622 : decode cX1_isSame 622 = .ok (.iadd, 1) := by decide +kernel
theorem dX1_isSame_623 : decode cX1_isSame 623 = .ok (.istore_n 3, 1) := by decide +kernel
theorem dX1_isSame_624 : decode cX1_isSame 624 = .ok (.aload 7, 2) := by decide +kernel
theorem dX1_isSame_626 : decode cX1_isSame 626 = .ok (.iconst 3, 1) := by decide +kernel
theorem dX1_isSame_627 : decode cX1_isSame 627 = .ok (.iaload, 1) := by decide +kernel
theorem dX1_isSame_628 : decode cX1_isSame 628 = .ok (.iconst 1, 1) := by decide +kernel
theorem dX1_isSame_629 : decode cX1_isSame 629 = .ok (.if_icmp .ne 6, 3) := by decide +kernel
theorem dX1_isSame_632 : decode cX1_isSame 632 = .ok (.goto 31, 3) := by decide +kernel
theorem dX1_isSame_635 : decode cX1_isSame 635 = .ok (.iinc 2 1, 3) := by decide +kernel
theorem dX1_isSame_638 : decode cX1_isSame 638 = .ok (.iload 4, 2) := by decide +kernel
theorem dX1_isSame_640 : decode cX1_isSame 640 = .ok (.ifCond .lt 19, 3) := by decide +kernel
theorem dX1_isSame_643 : decode cX1_isSame 643 = .ok (.aload 7, 2) := by decide +kernel
theorem dX1_isSame_645 : decode cX1_isSame 645 = .ok (.iconst 0, 1) := by decide +kernel
theorem dX1_isSame_646 : decode cX1_isSame 646 = .ok (.iaload, 1) := by decide +kernel
theorem dX1_isSame_647 : decode cX1_isSame 647 = .ok (.aload_n 0, 1) := by decide +kernel
theorem dX1_isSame_648 : decode cX1_isSame 648 = .ok (.getfield 23, 3) := by decide +kernel
theorem dX1_isSame_651 : decode cX1_isSame 651 = .ok (.iload 4, 2) := by decide +kernel
theorem dX1_isSame_653 : decode cX1_isSame 653 = .ok (.aaload, 1) := by decide +kernel
theorem dX1_isSame_654 : decode cX1_isSame 654 = .ok (.iconst 0, 1) := by decide +kernel
theorem dX1_isSame_655 : decode cX1_isSame 655 = .ok (.iaload, 1) := by decide +kernel
theorem dX1_isSame_656 : decode cX1_isSame 656 = .ok (.if_icmp .le 7, 3) := by decide +kernel
theorem dX1_isSame_659 : decode cX1_isSame 659 = .ok (.iload 6, 2) := by decide +kernel
theorem dX1_isSame_661 : decode cX1_isSame 661 = .ok (.istore 4, 2) := by decide +kernel
theorem dX1_isSame_663 : decode cX1_isSame 663 = .ok (.iinc 6 1, 3) := by decide +kernel
theorem dX1_isSame_666 : decode cX1_isSame 666 = .ok (.goto (-294), 3) := by decide +kernel
theorem dX1_isSame_669 : decode cX1_isSame 669 = .ok (.aload_n 1, 1) := by decide +kernel
theorem dX1_isSame_670 : decode cX1_isSame 670 = .ok (.invokevirtual 136, 3) := by decide +kernel
theorem dX1_isSame_673 : decode cX1_isSame 673 = .ok (.iload_n 2, 1) := by decide +kernel
theorem dX1_isSame_674 : decode cX1_isSame 674 = .ok (.if_icmp .ne 41, 3) := by decide +kernel
theorem dX1_isSame_677 : decode cX1_isSame 677 = .ok (.iload_n 2, 1) := by decide +kernel
theorem dX1_isSame_678 : decode cX1_isSame 678 = .ok (.ifCond .eq 12, 3) := by decide +kernel
theorem dX1_isSame_681 : decode cX1_isSame 681 = .ok (.aload_n 1, 1) := by decide +kernel
theorem dX1_isSame_682 : decode cX1_isSame 682 = .ok (.invokevirtual 138, 3) := by decide +kernel
theorem dX1_isSame_685 : decode cX1_isSame 685 = .ok (.iload 4, 2) := by decide +kernel
theorem dX1_isSame_687 : decode cX1_isSame 687 = .ok (.if_icmp .ne 28, 3) := by decide +kernel
theorem dX1_isSame_690 : decode cX1_isSame 690 = .ok (.aload_n 1, 1) := by decide +kernel
theorem dX1_isSame_691 : decode cX1_isSame 691 = .ok (.invokevirtual 141, 3) := by decide +kernel
theorem dX1_isSame_694 : decode cX1_isSame 694 = .ok (.iload_n 2, 1) := by decide +kernel
theorem dX1_isSame_695 : decode cX1_isSame 695 = .ok (.ifCond .ne 7, 3) := by decide +kernel
theorem dX1_isSame_698 : decode cX1_isSame 698 = .ok (.dconst 0, 1) := by decide +kernel
theorem dX1_isSame_699 : decode cX1_isSame 699 = .ok (.goto 8, 3) := by decide +kernel
theorem dX1_isSame_702 : decode cX1_isSame 702 = .ok (.iload_n 3, 1) := by decide +kernel
theorem dX1_isSame_703 : decode cX1_isSame 703 = .ok (.i2d, 1) := by decide +kernel
theorem dX1_isSame_704 : decode cX1_isSame 704 = .ok (.iload_n 2, 1) := by decide +kernel
theorem dX1_isSame_705 : decode cX1_isSame 705 = .ok (.i2d, 1) := by decide +kernel
theorem dX1_isSame_706 : decode cX1_isSame 706 = .ok (.ddiv, 1) := by decide +kernel
theorem dX1_isSame_707 : decode cX1_isSame 707 = .ok (.dcmp .l, 1) := by decide +kernel
theorem dX1_isSame_708 : decode cX1_isSame 708 = .ok (.ifCond .ne 7, 3) := by decide +kernel
theorem dX1_isSame_711 : decode cX1_isSame 711 = .ok (.iconst 1, 1) := by decide +kernel
theorem dX1_isSame_712 : decode cX1_isSame 712 = .ok (.goto 4, 3) := by decide +kernel
theorem dX1_isSame_715 : decode cX1_isSame 715 = .ok (.iconst 0, 1) := by decide +kernel
theorem dX1_isSame_716 : decode cX1_isSame 716 = .ok (.ireturn, 1) := by decide +kernel
theorem dJ9_max_7cf53_0 : decode cJ9_max_7cf53 0 = .ok (.iload_n 0, 1) := by decide +kernel
theorem dJ9_max_7cf53_1 : decode cJ9_max_7cf53 1 = .ok (.iload_n 1, 1) := by decide +kernel
theorem dJ9_max_7cf53_2 : decode cJ9_max_7cf53 2 = .ok (.if_icmp .lt 7, 3) := by decide +kernel
theorem dJ9_max_7cf53_5 : decode cJ9_max_7cf53 5 = .ok (.iload_n 0, 1) := by decide +kernel
theorem dJ9_max_7cf53_6 : decode cJ9_max_7cf53 6 = .ok (.goto 4, 3) := by decide +kernel
theorem dJ9_max_7cf53_9 : decode cJ9_max_7cf53 9 = .ok (.iload_n 1, 1) := by decide +kernel
theorem dJ9_max_7cf53_10 : decode cJ9_max_7cf53 10 = .ok (.ireturn, 1) := by decide +kernel
theorem dJ9_min_7cf53_0 : decode cJ9_min_7cf53 0 = .ok (.iload_n 0, 1) := by decide +kernel
theorem dJ9_min_7cf53_1 : decode cJ9_min_7cf53 1 = .ok (.iload_n 1, 1) := by decide +kernel
theorem dJ9_min_7cf53_2 : decode cJ9_min_7cf53 2 = .ok (.if_icmp .gt 7, 3) := by decide +kernel
theorem dJ9_min_7cf53_5 : decode cJ9_min_7cf53 5 = .ok (.iload_n 0, 1) := by decide +kernel
theorem dJ9_min_7cf53_6 : decode cJ9_min_7cf53 6 = .ok (.goto 4, 3) := by decide +kernel
theorem dJ9_min_7cf53_9 : decode cJ9_min_7cf53 9 = .ok (.iload_n 1, 1) := by decide +kernel
theorem dJ9_min_7cf53_10 : decode cJ9_min_7cf53 10 = .ok (.ireturn, 1) := by decide +kernel
