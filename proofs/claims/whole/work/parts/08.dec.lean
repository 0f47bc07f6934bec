theorem dX0_init_0 : decode cX0_init 0 = .ok (.aload_n 0, 1) := by decide +kernel
theorem dX0_init_1 : decode cX0_init 1 = .ok (.invokespecial 3, 3) := by decide +kernel
theorem dX0_init_4 : decode cX0_init 4 = .ok (.aload_n 0, 1) := by decide +kernel
theorem dX0_init_5 : decode cX0_init 5 = .ok (.bipush 40, 2) := by decide +kernel
theorem dX0_init_7 : decode cX0_init 7 = .ok (.newarray .long, 2) := by decide +kernel
theorem dX0_init_9 : decode cX0_init 9 = .ok (.putfield 9, 3) := by decide +kernel
theorem dX0_init_12 : decode cX0_init 12 = .ok (.aload_n 0, 1) := by decide +kernel
theorem dX0_init_13 : decode cX0_init 13 = .ok (.bipush 40, 2) := by decide +kernel
theorem dX0_init_15 : decode cX0_init 15 = .ok (.newarray .long, 2) := by decide +kernel
theorem dX0_init_17 : decode cX0_init 17 = .ok (.putfield 15, 3) := by decide +kernel
theorem dX0_init_20 : decode cX0_init 20 = .ok (.return_, 1) := by decide +kernel
theorem dX0_tie_0 : decode cX0_tie 0 = .ok (.aload_n 0, 1) := by decide +kernel
theorem dX0_tie_1 : decode cX0_tie 1 = .ok (.iload_n 1, 1) := by decide +kernel
theorem dX0_tie_2 : decode cX0_tie 2 = .ok (.iload_n 2, 1) := by decide +kernel
theorem dX0_tie_3 : decode cX0_tie 3 = .ok (.invokevirtual 18, 3) := by decide +kernel
theorem dX0_tie_6 : decode cX0_tie 6 = .ok (.ifCond .ne 14, 3) := by decide +kernel
theorem dX0_tie_9 : decode cX0_tie 9 = .ok (.aload_n 0, 1) := by decide +kernel
theorem dX0_tie_10 : decode cX0_tie 10 = .ok (.getfield 22, 3) := by decide +kernel
theorem dX0_tie_13 : decode cX0_tie 13 = .ok (.bipush 60, 2) := by decide +kernel
theorem dX0_tie_15 : decode cX0_tie 15 = .ok (.if_icmp .lt 5, 3) := by decide +kernel
theorem dX0_tie_18 : decode cX0_tie 18 = .ok (.iconst 0, 1) := by decide +kernel
theorem dX0_tie_19 : decode cX0_tie 19 = .ok (.ireturn, 1) := by decide +kernel
theorem dX0_tie_20 : decode cX0_tie 20 = .ok (.iload_n 3, 1) := by decide +kernel
theorem dX0_tie_21 : decode cX0_tie 21 = .ok (.ifCond .eq 10, 3) := by decide +kernel
theorem dX0_tie_24 : decode cX0_tie 24 = .ok (.aload_n 0, 1) := by decide +kernel
theorem dX0_tie_25 : decode cX0_tie 25 = .ok (.getfield 9, 3) := by decide +kernel
theorem dX0_tie_28 : decode cX0_tie 28 = .ok (.goto 7, 3) := by decide +kernel
theorem dX0_tie_31 : decode cX0_tie 31 = .ok (.aload_n 0, 1) := by decide +kernel
theorem dX0_tie_32 : decode cX0_tie 32 = .ok (.getfield 15, 3) := by decide +kernel
theorem dX0_tie_35 : decode cX0_tie 35 = .ok (.astore 4, 2) := by decide +kernel
theorem dX0_tie_37 : decode cX0_tie 37 = .ok (.aload 4, 2) := by decide +kernel
theorem dX0_tie_39 : decode cX0_tie 39 = .ok (.iload_n 1, 1) := by decide +kernel
theorem dX0_tie_40 : decode cX0_tie 40 = .ok (.dup2, 1) := by decide +kernel
theorem dX0_tie_41 : decode cX0_tie 41 = .ok (.laload, 1) := by decide +kernel
theorem dX0_tie_42 : decode cX0_tie 42 = .ok (.iload_n 2, 1) := by decide +kernel
theorem dX0_tie_43 : decode cX0_tie 43 = .ok (.invokestatic 26, 3) := by decide +kernel
theorem dX0_tie_46 : decode cX0_tie 46 = .ok (.lor, 1) := by decide +kernel
theorem dX0_tie_47 : decode cX0_tie 47 = .ok (.lastore, 1) := by decide +kernel
theorem dX0_tie_48 : decode cX0_tie 48 = .ok (.aload 4, 2) := by decide +kernel
theorem dX0_tie_50 : decode cX0_tie 50 = .ok (.iload_n 2, 1) := by decide +kernel
theorem dX0_tie_51 : decode cX0_tie 51 = .ok (.dup2, 1) := by decide +kernel
theorem dX0_tie_52 : decode cX0_tie 52 = .ok (.laload, 1) := by decide +kernel
theorem dX0_tie_53 : decode cX0_tie 53 = .ok (.iload_n 1, 1) := by decide +kernel
theorem dX0_tie_54 : decode cX0_tie 54 = .ok (.invokestatic 26, 3) := by decide +kernel
theorem dX0_tie_57 : decode cX0_tie 57 = .ok (.lor, 1) := by decide +kernel
theorem dX0_tie_58 : decode cX0_tie 58 = .ok (.lastore, 1) := by decide +kernel
theorem dX0_tie_59 : decode cX0_tie 59 = .ok (.aload_n 0, 1) := by decide +kernel
theorem dX0_tie_60 : decode cX0_tie 60 = .ok (.dup, 1) := by decide +kernel
theorem dX0_tie_61 : decode cX0_tie 61 = .ok (.getfield 22, 3) := by decide +kernel
theorem dX0_tie_64 : decode cX0_tie 64 = .ok (.iconst 1, 1) := by decide +kernel
theorem dX0_tie_65 : decode cX0_tie 65 = .ok (.iadd, 1) := by decide +kernel
theorem dX0_tie_66 : decode cX0_tie 66 = .ok (.putfield 22, 3) := by decide +kernel
theorem dX0_tie_69 : decode cX0_tie 69 = .ok (.iconst 1, 1) := by decide +kernel
theorem dX0_tie_70 : decode cX0_tie 70 = .ok (.ireturn, 1) := by decide +kernel
theorem dX0_untie_0 : decode cX0_untie 0 = .ok (.aload_n 0, 1) := by decide +kernel
theorem dX0_untie_1 : decode cX0_untie 1 = .ok (.getfield 9, 3) := by decide +kernel
theorem dX0_untie_4 : decode cX0_untie 4 = .ok (.iload_n 1, 1) := by decide +kernel
theorem dX0_untie_5 : decode cX0_untie 5 = .ok (.laload, 1) := by decide +kernel
theorem dX0_untie_6 : decode cX0_untie 6 = .ok (.aload_n 0, 1) := by decide +kernel
theorem dX0_untie_7 : decode cX0_untie 7 = .ok (.getfield 15, 3) := by decide +kernel
theorem dX0_untie_10 : decode cX0_untie 10 = .ok (.iload_n 1, 1) := by decide +kernel
theorem dX0_untie_11 : decode cX0_untie 11 = .ok (.laload, 1) := by decide +kernel
theorem dX0_untie_12 : decode cX0_untie 12 = .ok (.lor, 1) := by decide +kernel
theorem dX0_untie_13 : decode cX0_untie 13 = .ok (.iload_n 2, 1) := by decide +kernel
theorem dX0_untie_14 : decode cX0_untie 14 = .ok (.invokestatic 30, 3) := by decide +kernel
theorem dX0_untie_17 : decode cX0_untie 17 = .ok (.ifCond .ne 5, 3) := by decide +kernel
theorem dX0_untie_20 : decode cX0_untie 20 = .ok (.iconst 0, 1) := by decide +kernel
theorem dX0_untie_21 : decode cX0_untie 21 = .ok (.ireturn, 1) := by decide +kernel
theorem dX0_untie_22 : decode cX0_untie 22 = .ok (.aload_n 0, 1) := by decide +kernel
theorem dX0_untie_23 : decode cX0_untie 23 = .ok (.getfield 9, 3) := by decide +kernel
theorem dX0_untie_26 : decode cX0_untie 26 = .ok (.iload_n 1, 1) := by decide +kernel
theorem dX0_untie_27 : decode cX0_untie 27 = .ok (.dup2, 1) := by decide +kernel
theorem dX0_untie_28 : decode cX0_untie 28 = .ok (.laload, 1) := by decide +kernel
theorem dX0_untie_29 : decode cX0_untie 29 = .ok (.iload_n 2, 1) := by decide +kernel
theorem dX0_untie_30 : decode cX0_untie 30 = .ok (.invokestatic 26, 3) := by decide +kernel
theorem dX0_untie_33 : decode cX0_untie 33 = .ok (.ldc2_w 34, 3) := by decide +kernel
theorem dX0_untie_36 : decode cX0_untie 36 = .ok (.lxor, 1) := by decide +kernel
theorem dX0_untie_37 : decode cX0_untie 37 = .ok (.land, 1) := by decide +kernel
theorem dX0_untie_38 : decode cX0_untie 38 = .ok (.lastore, 1) := by decide +kernel
theorem dX0_untie_39 : decode cX0_untie 39 = .ok (.aload_n 0, 1) := by decide +kernel
theorem dX0_untie_40 : decode cX0_untie 40 = .ok (.getfield 9, 3) := by decide +kernel
theorem dX0_untie_43 : decode cX0_untie 43 = .ok (.iload_n 2, 1) := by decide +kernel
theorem dX0_untie_44 : decode cX0_untie 44 = .ok (.dup2, 1) := by decide +kernel
theorem dX0_untie_45 : decode cX0_untie 45 = .ok (.laload, 1) := by decide +kernel
theorem dX0_untie_46 : decode cX0_untie 46 = .ok (.iload_n 1, 1) := by decide +kernel
theorem dX0_untie_47 : decode cX0_untie 47 = .ok (.invokestatic 26, 3) := by decide +kernel
theorem dX0_untie_50 : decode cX0_untie 50 = .ok (.ldc2_w 34, 3) := by decide +kernel
theorem dX0_untie_53 : decode cX0_untie 53 = .ok (.lxor, 1) := by decide +kernel
theorem dX0_untie_54 : decode cX0_untie 54 = .ok (.land, 1) := by decide +kernel
theorem dX0_untie_55 : decode cX0_untie 55 = .ok (.lastore, 1) := by decide +kernel
theorem dX0_untie_56 : decode cX0_untie 56 = .ok (.aload_n 0, 1) := by decide +kernel
theorem dX0_untie_57 : decode cX0_untie 57 = .ok (.getfield 15, 3) := by decide +kernel
theorem dX0_untie_60 : decode cX0_untie 60 = .ok (.iload_n 1, 1) := by decide +kernel
theorem dX0_untie_61 : decode cX0_untie 61 = .ok (.dup2, 1) := by decide +kernel
theorem dX0_untie_62 : decode cX0_untie 62 = .ok (.laload, 1) := by decide +kernel
theorem dX0_untie_63 : decode cX0_untie 63 = .ok (.iload_n 2, 1) := by decide +kernel
theorem dX0_untie_64 : decode cX0_untie 64 = .ok (.invokestatic 26, 3) := by decide +kernel
theorem dX0_untie_67 : decode cX0_untie 67 = .ok (.ldc2_w 34, 3) := by decide +kernel
theorem dX0_untie_70 : decode cX0_untie 70 = .ok (.lxor, 1) := by decide +kernel
theorem dX0_untie_71 : decode cX0_untie 71 = .ok (.land, 1) := by decide +kernel
theorem dX0_untie_72 : decode cX0_untie 72 = .ok (.lastore, 1) := by decide +kernel
theorem dX0_untie_73 : decode cX0_untie 73 = .ok (.aload_n 0, 1) := by decide +kernel
theorem dX0_untie_74 : decode cX0_untie 74 = .ok (.getfield 15, 3) := by decide +kernel
theorem dX0_untie_77 : decode cX0_untie 77 = .ok (.iload_n 2, 1) := by decide +kernel
theorem dX0_untie_78 : decode cX0_untie 78 = .ok (.dup2, 1) := by decide +kernel
theorem dX0_untie_79 : decode cX0_untie 79 = .ok (.laload, 1) := by decide +kernel
theorem dX0_untie_80 : decode cX0_untie 80 = .ok (.iload_n 1, 1) := by decide +kernel
theorem dX0_untie_81 : decode cX0_untie 81 = .ok (.invokestatic 26, 3) := by decide +kernel
theorem dX0_untie_84 : decode cX0_untie 84 = .ok (.ldc2_w 34, 3) := by decide +kernel
theorem dX0_untie_87 : decode cX0_untie 87 = .ok (.lxor, 1) := by decide +kernel
theorem dX0_untie_88 : decode cX0_untie 88 = .ok (.land, 1) := by decide +kernel
theorem dX0_untie_89 : decode cX0_untie 89 = .ok (.lastore, 1) := by decide +kernel
theorem dX0_untie_90 : decode cX0_untie 90 = .ok (.aload_n 0, 1) := by decide +kernel
theorem dX0_untie_91 : decode cX0_untie 91 = .ok (.dup, 1) := by decide +kernel
theorem dX0_untie_92 : decode cX0_untie 92 = .ok (.getfield 22, 3) := by decide +kernel
theorem dX0_untie_95 : decode cX0_untie 95 = .ok (.iconst 1, 1) := by decide +kernel
theorem dX0_untie_96 : decode cX0_untie 96 = .ok (.isub, 1) := by decide +kernel
theorem dX0_untie_97 : decode cX0_untie 97 = .ok (.putfield 22, 3) := by decide +kernel
theorem dX0_untie_100 : decode cX0_untie 100 = .ok (.iconst 1, 1) := by decide +kernel
theorem dX0_untie_101 : decode cX0_untie 101 = .ok (.ireturn, 1) := by decide +kernel
theorem dX0_brokenBy_0 : decode cX0_brokenBy 0 = .ok (.aload_n 0, 1) := by decide +kernel
theorem dX0_brokenBy_1 : decode cX0_brokenBy 1 = .ok (.getfield 9, 3) := by decide +kernel
theorem dX0_brokenBy_4 : decode cX0_brokenBy 4 = .ok (.iload_n 1, 1) := by decide +kernel
theorem dX0_brokenBy_5 : decode cX0_brokenBy 5 = .ok (.laload, 1) := by decide +kernel
theorem dX0_brokenBy_6 : decode cX0_brokenBy 6 = .ok (.lload 4, 2) := by decide +kernel
theorem dX0_brokenBy_8 : decode cX0_brokenBy 8 = .ok (.land, 1) := by decide +kernel
theorem dX0_brokenBy_9 : decode cX0_brokenBy 9 = .ok (.lload_n 2, 1) := by decide +kernel
theorem dX0_brokenBy_10 : decode cX0_brokenBy 10 = .ok (.ldc2_w 34, 3) := by decide +kernel
theorem dX0_brokenBy_13 : decode cX0_brokenBy 13 = .ok (.lxor, 1) := by decide +kernel
theorem dX0_brokenBy_14 : decode cX0_brokenBy 14 = .ok (.land, 1) := by decide +kernel
theorem dX0_brokenBy_15 : decode cX0_brokenBy 15 = .ok (.invokestatic 36, 3) := by decide +kernel
theorem dX0_brokenBy_18 : decode cX0_brokenBy 18 = .ok (.aload_n 0, 1) := by decide +kernel
theorem dX0_brokenBy_19 : decode cX0_brokenBy 19 = .ok (.getfield 15, 3) := by decide +kernel
theorem dX0_brokenBy_22 : decode cX0_brokenBy 22 = .ok (.iload_n 1, 1) := by decide +kernel
theorem dX0_brokenBy_23 : decode cX0_brokenBy 23 = .ok (.laload, 1) := by decide +kernel
theorem dX0_brokenBy_24 : decode cX0_brokenBy 24 = .ok (.lload_n 2, 1) := by decide +kernel
theorem dX0_brokenBy_25 : decode cX0_brokenBy 25 = .ok (.land, 1) := by decide +kernel
theorem dX0_brokenBy_26 : decode cX0_brokenBy 26 = .ok (.invokestatic 36, 3) := by decide +kernel
theorem dX0_brokenBy_29 : decode cX0_brokenBy 29 = .ok (.iadd, 1) := by decide +kernel
theorem dX0_brokenBy_30 : decode cX0_brokenBy 30 = .ok (.ireturn, 1) := by decide +kernel
theorem dX0_brokenByMelt_0 : decode cX0_brokenByMelt 0 = .ok (.iconst 0, 1) := by decide +kernel
theorem dX0_brokenByMelt_1 : decode cX0_brokenByMelt 1 = .ok (.istore 5, 2) := by decide +kernel
theorem dX0_brokenByMelt_3 : decode cX0_brokenByMelt 3 = .ok (.iconst 0, 1) := by decide +kernel
theorem dX0_brokenByMelt_4 : decode cX0_brokenByMelt 4 = .ok (.istore 6, 2) := by decide +kernel
theorem dX0_brokenByMelt_6 : decode cX0_brokenByMelt 6 = .ok (.iload 6, 2) := by decide +kernel
theorem dX0_brokenByMelt_8 : decode cX0_brokenByMelt 8 = .ok (.bipush 40, 2) := by decide +kernel
theorem dX0_brokenByMelt_10 : decode cX0_brokenByMelt 10 = .ok (.if_icmp .ge 48, 3) := by decide +kernel
theorem dX0_brokenByMelt_13 : decode cX0_brokenByMelt 13 = .ok (.lload_n 1, 1) := by decide +kernel
theorem dX0_brokenByMelt_14 : decode cX0_brokenByMelt 14 = .ok (.iload 6, 2) := by decide +kernel
theorem dX0_brokenByMelt_16 : decode cX0_brokenByMelt 16 = .ok (.invokestatic 30, 3) := by decide +kernel
theorem dX0_brokenByMelt_19 : decode cX0_brokenByMelt 19 = .ok (.ifCond .eq 33, 3) := by decide +kernel
theorem dX0_brokenByMelt_22 : decode cX0_brokenByMelt 22 = .ok (.iload 5, 2) := by decide +kernel
theorem dX0_brokenByMelt_24 : decode cX0_brokenByMelt 24 = .ok (.aload_n 0, 1) := by decide +kernel
theorem dX0_brokenByMelt_25 : decode cX0_brokenByMelt 25 = .ok (.getfield 15, 3) := by decide +kernel
theorem dX0_brokenByMelt_28 : decode cX0_brokenByMelt 28 = .ok (.iload 6, 2) := by decide +kernel
theorem dX0_brokenByMelt_30 : decode cX0_brokenByMelt 30 = .ok (.laload, 1) := by decide +kernel
theorem dX0_brokenByMelt_31 : decode cX0_brokenByMelt 31 = .ok (.lload_n 3, 1) := by decide +kernel
theorem dX0_brokenByMelt_32 : decode cX0_brokenByMelt 32 = .ok (.land, 1) := by decide +kernel
theorem dX0_brokenByMelt_33 : decode cX0_brokenByMelt 33 = .ok (.invokestatic 36, 3) := by decide +kernel
theorem dX0_brokenByMelt_36 : decode cX0_brokenByMelt 36 = .ok (.aload_n 0, 1) := by decide +kernel
theorem dX0_brokenByMelt_37 : decode cX0_brokenByMelt 37 = .ok (.getfield 9, 3) := by decide +kernel
theorem dX0_brokenByMelt_40 : decode cX0_brokenByMelt 40 = .ok (.iload 6, 2) := by decide +kernel
theorem dX0_brokenByMelt_42 : decode cX0_brokenByMelt 42 = .ok (.laload, 1) := by decide +kernel
theorem dX0_brokenByMelt_43 : decode cX0_brokenByMelt 43 = .ok (.lload_n 3, 1) := by decide +kernel
theorem dX0_brokenByMelt_44 : decode cX0_brokenByMelt 44 = .ok (.land, 1) := by decide +kernel
theorem dX0_brokenByMelt_45 : decode cX0_brokenByMelt 45 = .ok (.invokestatic 36, 3) := by decide +kernel
theorem dX0_brokenByMelt_48 : decode cX0_brokenByMelt 48 = .ok (.isub, 1) := by decide +kernel
theorem dX0_brokenByMelt_49 : decode cX0_brokenByMelt 49 = .ok (.iadd, 1) := by decide +kernel
theorem dX0_brokenByMelt_50 : decode cX0_brokenByMelt 50 = .ok (.istore 5, 2) := by decide +kernel
theorem dX0_brokenByMelt_52 : decode cX0_brokenByMelt 52 = .ok (.iinc 6 1, 3) := by decide +kernel
theorem dX0_brokenByMelt_55 : decode cX0_brokenByMelt 55 = .ok (.goto (-49), 3) := by decide +kernel
theorem dX0_brokenByMelt_58 : decode cX0_brokenByMelt 58 = .ok (.iload 5, 2) := by decide +kernel
theorem dX0_brokenByMelt_60 : decode cX0_brokenByMelt 60 = .ok (.ireturn, 1) := by decide +kernel
theorem dX0_brokenIn_0 : decode cX0_brokenIn 0 = .ok (.aload_n 1, 1) := by decide +kernel
theorem dX0_brokenIn_1 : decode cX0_brokenIn 1 = .ok (.invokevirtual 42, 3) := by decide +kernel
theorem dX0_brokenIn_4 : decode cX0_brokenIn 4 = .ok (.lstore_n 2, 1) := by decide +kernel
theorem dX0_brokenIn_5 : decode cX0_brokenIn 5 = .ok (.iconst 0, 1) := by decide +kernel
theorem dX0_brokenIn_6 : decode cX0_brokenIn 6 = .ok (.istore 4, 2) := by decide +kernel
theorem dX0_brokenIn_8 : decode cX0_brokenIn 8 = .ok (.iconst 0, 1) := by decide +kernel
theorem dX0_brokenIn_9 : decode cX0_brokenIn 9 = .ok (.istore 5, 2) := by decide +kernel
theorem dX0_brokenIn_11 : decode cX0_brokenIn 11 = .ok (.iload 5, 2) := by decide +kernel
theorem dX0_brokenIn_13 : decode cX0_brokenIn 13 = .ok (.bipush 40, 2) := by decide +kernel
theorem dX0_brokenIn_15 : decode cX0_brokenIn 15 = .ok (.if_icmp .ge 36, 3) := by decide +kernel
theorem dX0_brokenIn_18 : decode cX0_brokenIn 18 = .ok (.lload_n 2, 1) := by decide +kernel
theorem dX0_brokenIn_19 : decode cX0_brokenIn 19 = .ok (.iload 5, 2) := by decide +kernel
theorem dX0_brokenIn_21 : decode cX0_brokenIn 21 = .ok (.invokestatic 30, 3) := by decide +kernel
theorem dX0_brokenIn_24 : decode cX0_brokenIn 24 = .ok (.ifCond .eq 21, 3) := by decide +kernel
theorem dX0_brokenIn_27 : decode cX0_brokenIn 27 = .ok (.iload 4, 2) := by decide +kernel
theorem dX0_brokenIn_29 : decode cX0_brokenIn 29 = .ok (.aload_n 0, 1) := by decide +kernel
theorem dX0_brokenIn_30 : decode cX0_brokenIn 30 = .ok (.iload 5, 2) := by decide +kernel
theorem dX0_brokenIn_32 : decode cX0_brokenIn 32 = .ok (.aload_n 1, 1) := by decide +kernel
theorem dX0_brokenIn_33 : decode cX0_brokenIn 33 = .ok (.iload 5, 2) := by decide +kernel
theorem dX0_brokenIn_35 : decode cX0_brokenIn 35 = .ok (.invokevirtual 48, 3) := by decide +kernel
theorem dX0_brokenIn_38 : decode cX0_brokenIn 38 = .ok (.lload_n 2, 1) := by decide +kernel
theorem dX0_brokenIn_39 : decode cX0_brokenIn 39 = .ok (.invokevirtual 51, 3) := by decide +kernel
theorem dX0_brokenIn_42 : decode cX0_brokenIn 42 = .ok (.iadd, 1) := by decide +kernel
theorem dX0_brokenIn_43 : decode cX0_brokenIn 43 = .ok (.istore 4, 2) := by decide +kernel
theorem dX0_brokenIn_45 : decode cX0_brokenIn 45 = .ok (.iinc 5 1, 3) := by decide +kernel
theorem dX0_brokenIn_48 : decode cX0_brokenIn 48 = .ok (.goto (-37), 3) := by decide +kernel
theorem dX0_brokenIn_51 : decode cX0_brokenIn 51 = .ok (.iload 4, 2) := by decide +kernel
theorem dX0_brokenIn_53 : decode cX0_brokenIn 53 = .ok (.iconst 2, 1) := by decide +kernel
theorem dX0_brokenIn_54 : decode cX0_brokenIn 54 = .ok (.idiv, 1) := by decide +kernel
theorem dX0_brokenIn_55 : decode cX0_brokenIn 55 = .ok (.ireturn, 1) := by decide +kernel
theorem dX1_init_0 : decode cX1_init 0 = .ok (.aload_n 0, 1) := by decide +kernel
theorem dX1_init_1 : decode cX1_init 1 = .ok (.invokespecial 3, 3) := by decide +kernel
theorem dX1_init_4 : decode cX1_init 4 = .ok (.aload_n 0, 1) := by decide +kernel
theorem dX1_init_5 : decode cX1_init 5 = .ok (.aload_n 1, 1) := by decide +kernel
theorem dX1_init_6 : decode cX1_init 6 = .ok (.putfield 9, 3) := by decide +kernel
theorem dX1_init_9 : decode cX1_init 9 = .ok (.aload_n 0, 1) := by decide +kernel
theorem dX1_init_10 : decode cX1_init 10 = .ok (.aload_n 2, 1) := by decide +kernel
theorem dX1_init_11 : decode cX1_init 11 = .ok (.putfield 15, 3) := by decide +kernel
theorem dX1_init_14 : decode cX1_init 14 = .ok (.aload_n 0, 1) := by decide +kernel
theorem dX1_init_15 : decode cX1_init 15 = .ok (.aload_n 3, 1) := by decide +kernel
theorem dX1_init_16 : decode cX1_init 16 = .ok (.putfield 19, 3) := by decide +kernel
theorem dX1_init_19 : decode cX1_init 19 = .ok (.aload_n 0, 1) := by decide +kernel
theorem dX1_init_20 : decode cX1_init 20 = .ok (.iconst 5, 1) := by decide +kernel
theorem dX1_init_21 : decode cX1_init 21 = .ok (.newarray .int, 2) := by decide +kernel
theorem dX1_init_23 : decode cX1_init 23 = .ok (.putfield 23, 3) := by decide +kernel
theorem dX1_init_26 : decode cX1_init 26 = .ok (.aload_n 0, 1) := by decide +kernel
theorem dX1_init_27 : decode cX1_init 27 = .ok (.iconst 5, 1) := by decide +kernel
theorem dX1_init_28 : decode cX1_init 28 = .ok (.newarray .int, 2) := by decide +kernel
theorem dX1_init_30 : decode cX1_init 30 = .ok (.putfield 27, 3) := by decide +kernel
theorem dX1_init_33 : decode cX1_init 33 = .ok (.aload_n 0, 1) := by decide +kernel
theorem dX1_init_34 : decode cX1_init 34 = .ok (.bipush 25, 2) := by decide +kernel
theorem dX1_init_36 : decode cX1_init 36 = .ok (.newarray .int, 2) := by decide +kernel
theorem dX1_init_38 : decode cX1_init 38 = .ok (.putfield 30, 3) := by decide +kernel
theorem dX1_init_41 : decode cX1_init 41 = .ok (.aload_n 0, 1) := by decide +kernel
theorem dX1_init_42 : decode cX1_init 42 = .ok (.iconst 5, 1) := by decide +kernel
theorem dX1_init_43 : decode cX1_init 43 = .ok (.newarray .int, 2) := by decide +kernel
theorem dX1_init_45 : decode cX1_init 45 = .ok (.putfield 33, 3) := by decide +kernel
theorem dX1_init_48 : decode cX1_init 48 = .ok (.aload_n 0, 1) := by decide +kernel
theorem dX1_init_49 : decode cX1_init 49 = .ok (.iconst 5, 1) := by decide +kernel
theorem dX1_init_50 : decode cX1_init 50 = .ok (.newarray .int, 2) := by decide +kernel
theorem dX1_init_52 : decode cX1_init 52 = .ok (.putfield 36, 3) := by decide +kernel
theorem dX1_init_55 : decode cX1_init 55 = .ok (.return_, 1) := by decide +kernel
theorem dX1_take_0 : decode cX1_take 0 = .ok (.aload_n 0, 1) := by decide +kernel
theorem dX1_take_1 : decode cX1_take 1 = .ok (.getfield 39, 3) := by decide +kernel
theorem dX1_take_4 : decode cX1_take 4 = .ok (.iconst 5, 1) := by decide +kernel
theorem dX1_take_5 : decode cX1_take 5 = .ok (.if_icmp .lt 5, 3) := by decide +kernel
theorem dX1_take_8 : decode cX1_take 8 = .ok (.iconst (-1), 1) := by decide +kernel
theorem dX1_take_9 : decode cX1_take 9 = .ok (.ireturn, 1) := by decide +kernel
theorem dX1_take_10 : decode cX1_take 10 = .ok (.aload_n 0, 1) := by decide +kernel
theorem dX1_take_11 : decode cX1_take 11 = .ok (.getfield 23, 3) := by decide +kernel
theorem dX1_take_14 : decode cX1_take 14 = .ok (.aload_n 0, 1) := by decide +kernel
theorem dX1_take_15 : decode cX1_take 15 = .ok (.getfield 39, 3) := by decide +kernel
theorem dX1_take_18 : decode cX1_take 18 = .ok (.iload_n 1, 1) := by decide +kernel
theorem dX1_take_19 : decode cX1_take 19 = .ok (.iastore, 1) := by decide +kernel
theorem dX1_take_20 : decode cX1_take 20 = .ok (.aload_n 0, 1) := by decide +kernel
theorem dX1_take_21 : decode cX1_take 21 = .ok (.dup, 1) := by decide +kernel
theorem dX1_take_22 : decode cX1_take 22 = .ok (.getfield 39, 3) := by decide +kernel
theorem dX1_take_25 : decode cX1_take 25 = .ok (.iconst 1, 1) := by decide +kernel
theorem dX1_take_26 : decode cX1_take 26 = .ok (.iadd, 1) := by decide +kernel
theorem dX1_take_27 : decode cX1_take 27 = .ok (.putfield 39, 3) := by decide +kernel
theorem dX1_take_30 : decode cX1_take 30 = .ok (.aload_n 0, 1) := by decide +kernel
theorem dX1_take_31 : decode cX1_take 31 = .ok (.getfield 39, 3) := by decide +kernel
theorem dX1_take_34 : decode cX1_take 34 = .ok (.iconst 1, 1) := by decide +kernel
theorem dX1_take_35 : decode cX1_take 35 = .ok (.isub, 1) := by decide +kernel
theorem dX1_take_36 : decode cX1_take 36 = .ok (.ireturn, 1) := by decide +kernel
theorem dX1_senseFor_0 : decode cX1_senseFor 0 = .ok (.aload_n 0, 1) := by decide +kernel
theorem dX1_senseFor_1 : decode cX1_senseFor 1 = .ok (.invokevirtual 43, 3) := by decide +kernel
theorem dX1_senseFor_4 : decode cX1_senseFor 4 = .ok (.iconst 0, 1) := by decide +kernel
theorem dX1_senseFor_5 : decode cX1_senseFor 5 = .ok (.istore_n 2, 1) := by decide +kernel
theorem dX1_senseFor_6 : decode cX1_senseFor 6 = .ok (.iload_n 2, 1) := by decide +kernel
theorem dX1_senseFor_7 : decode cX1_senseFor 7 = .ok (.aload_n 0, 1) := by decide +kernel
theorem dX1_senseFor_8 : decode cX1_senseFor 8 = .ok (.getfield 46, 3) := by decide +kernel
theorem dX1_senseFor_11 : decode cX1_senseFor 11 = .ok (.if_icmp .ge 26, 3) := by decide +kernel
theorem dX1_senseFor_14 : decode cX1_senseFor 14 = .ok (.aload_n 0, 1) := by decide +kernel
theorem dX1_senseFor_15 : decode cX1_senseFor 15 = .ok (.getfield 27, 3) := by decide +kernel
theorem dX1_senseFor_18 : decode cX1_senseFor 18 = .ok (.iload_n 2, 1) := by decide +kernel
theorem dX1_senseFor_19 : decode cX1_senseFor 19 = .ok (.iaload, 1) := by decide +kernel
theorem dX1_senseFor_20 : decode cX1_senseFor 20 = .ok (.iload_n 1, 1) := by decide +kernel
theorem dX1_senseFor_21 : decode cX1_senseFor 21 = .ok (.if_icmp .ne 10, 3) := by decide +kernel
theorem dX1_senseFor_24 : decode cX1_senseFor 24 = .ok (.aload_n 0, 1) := by decide +kernel
theorem dX1_senseFor_25 : decode cX1_senseFor 25 = .ok (.getfield 36, 3) := by decide +kernel
theorem dX1_senseFor_28 : decode cX1_senseFor 28 = .ok (.iload_n 2, 1) := by decide +kernel
theorem dX1_senseFor_29 : decode cX1_senseFor 29 = .ok (.iaload, 1) := by decide +kernel
theorem dX1_senseFor_30 : decode cX1_senseFor 30 = .ok (.ireturn, 1) := by decide +kernel
theorem dX1_senseFor_31 : decode cX1_senseFor 31 = .ok (.iinc 2 1, 3) := by decide +kernel
theorem dX1_senseFor_34 : decode cX1_senseFor 34 = .ok (.goto (-28), 3) := by decide +kernel
theorem dX1_senseFor_37 : decode cX1_senseFor 37 = .ok (.iconst (-1), 1) := by decide +kernel
theorem dX1_senseFor_38 : decode cX1_senseFor 38 = .ok (.ireturn, 1) := by decide +kernel
theorem dX1_leastSum_0 : decode cX1_leastSum 0 = .ok (.aload_n 0, 1) := by decide +kernel
theorem dX1_leastSum_1 : decode cX1_leastSum 1 = .ok (.invokevirtual 43, 3) := by decide +kernel
theorem dX1_leastSum_4 : decode cX1_leastSum 4 = .ok (.aload_n 0, 1) := by decide +kernel
theorem dX1_leastSum_5 : decode cX1_leastSum 5 = .ok (.getfield 49, 3) := by decide +kernel
theorem dX1_leastSum_8 : decode cX1_leastSum 8 = .ok (.ireturn, 1) := by decide +kernel
theorem dX1_match_0 : decode cX1_match 0 = .ok (.aload_n 0, 1) := by decide +kernel
theorem dX1_match_1 : decode cX1_match 1 = .ok (.invokevirtual 52, 3) := by decide +kernel
theorem dX1_match_4 : decode cX1_match 4 = .ok (.iconst 0, 1) := by decide +kernel
theorem dX1_match_5 : decode cX1_match 5 = .ok (.istore_n 1, 1) := by decide +kernel
theorem dX1_match_6 : decode cX1_match 6 = .ok (.iload_n 1, 1) := by decide +kernel
theorem dX1_match_7 : decode cX1_match 7 = .ok (.aload_n 0, 1) := by decide +kernel
theorem dX1_match_8 : decode cX1_match 8 = .ok (.getfield 46, 3) := by decide +kernel
theorem dX1_match_11 : decode cX1_match 11 = .ok (.if_icmp .ge 71, 3) := by decide +kernel
theorem dX1_match_14 : decode cX1_match 14 = .ok (.aload_n 0, 1) := by decide +kernel
theorem dX1_match_15 : decode cX1_match 15 = .ok (.getfield 19, 3) := by decide +kernel
theorem dX1_match_18 : decode cX1_match 18 = .ok (.aload_n 0, 1) := by decide +kernel
theorem dX1_match_19 : decode cX1_match 19 = .ok (.getfield 15, 3) := by decide +kernel
theorem dX1_match_22 : decode cX1_match 22 = .ok (.getfield 55, 3) := by decide +kernel
theorem dX1_match_25 : decode cX1_match 25 = .ok (.aload_n 0, 1) := by decide +kernel
theorem dX1_match_26 : decode cX1_match 26 = .ok (.getfield 27, 3) := by decide +kernel
theorem dX1_match_29 : decode cX1_match 29 = .ok (.iload_n 1, 1) := by decide +kernel
theorem dX1_match_30 : decode cX1_match 30 = .ok (.iaload, 1) := by decide +kernel
theorem dX1_match_31 : decode cX1_match 31 = .ok (.laload, 1) := by decide +kernel
theorem dX1_match_32 : decode cX1_match 32 = .ok (.invokevirtual 61, 3) := by decide +kernel
theorem dX1_match_35 : decode cX1_match 35 = .ok (.istore_n 2, 1) := by decide +kernel
theorem dX1_match_36 : decode cX1_match 36 = .ok (.iconst 0, 1) := by decide +kernel
theorem dX1_match_37 : decode cX1_match 37 = .ok (.istore_n 3, 1) := by decide +kernel
theorem dX1_match_38 : decode cX1_match 38 = .ok (.iload_n 3, 1) := by decide +kernel
theorem dX1_match_39 : decode cX1_match 39 = .ok (.aload_n 0, 1) := by decide +kernel
theorem dX1_match_40 : decode cX1_match 40 = .ok (.getfield 39, 3) := by decide +kernel
theorem dX1_match_43 : decode cX1_match 43 = .ok (.if_icmp .ge 33, 3) := by decide +kernel
theorem dX1_match_46 : decode cX1_match 46 = .ok (.aload_n 0, 1) := by decide +kernel
theorem dX1_match_47 : decode cX1_match 47 = .ok (.getfield 30, 3) := by decide +kernel
theorem dX1_match_50 : decode cX1_match 50 = .ok (.iload_n 1, 1) := by decide +kernel
theorem dX1_match_51 : decode cX1_match 51 = .ok (.iconst 5, 1) := by decide +kernel
theorem dX1_match_52 : decode cX1_match 52 = .ok (.imul, 1) := by decide +kernel
theorem dX1_match_53 : decode cX1_match 53 = .ok (.iload_n 3, 1) := by decide +kernel
theorem dX1_match_54 : decode cX1_match 54 = .ok (.iadd, 1) := by decide +kernel
theorem dX1_match_55 : decode cX1_match 55 = .ok (.aload_n 0, 1) := by decide +kernel
theorem dX1_match_56 : decode cX1_match 56 = .ok (.getfield 9, 3) := by decide +kernel
theorem dX1_match_59 : decode cX1_match 59 = .ok (.iload_n 2, 1) := by decide +kernel
theorem dX1_match_60 : decode cX1_match 60 = .ok (.aload_n 0, 1) := by decide +kernel
theorem dX1_match_61 : decode cX1_match 61 = .ok (.getfield 23, 3) := by decide +kernel
theorem dX1_match_64 : decode cX1_match 64 = .ok (.iload_n 3, 1) := by decide +kernel
theorem dX1_match_65 : decode cX1_match 65 = .ok (.iaload, 1) := by decide +kernel
theorem dX1_match_66 : decode cX1_match 66 = .ok (.invokevirtual 67, 3) := by decide +kernel
theorem dX1_match_69 : decode cX1_match 69 = .ok (.iastore, 1) := by decide +kernel
theorem dX1_match_70 : decode cX1_match 70 = .ok (.iinc 3 1, 3) := by decide +kernel
theorem dX1_match_73 : decode cX1_match 73 = .ok (.goto (-35), 3) := by decide +kernel
theorem dX1_match_76 : decode cX1_match 76 = .ok (.iinc 1 1, 3) := by decide +kernel
theorem dX1_match_79 : decode cX1_match 79 = .ok (.goto (-73), 3) := by decide +kernel
theorem dX1_match_82 : decode cX1_match 82 = .ok (.aload_n 0, 1) := by decide +kernel
theorem dX1_match_83 : decode cX1_match 83 = .ok (.ldc 73, 2) := by decide +kernel
theorem dX1_match_85 : decode cX1_match 85 = .ok (.putfield 49, 3) := by decide +kernel
theorem dX1_match_88 : decode cX1_match 88 = .ok (.aload_n 0, 1) := by decide +kernel
theorem dX1_match_89 : decode cX1_match 89 = .ok (.iconst 0, 1) := by decide +kernel
theorem dX1_match_90 : decode cX1_match 90 = .ok (.iconst 0, 1) := by decide +kernel
theorem dX1_match_91 : decode cX1_match 91 = .ok (.aload_n 0, 1) := by decide +kernel
theorem dX1_match_92 : decode cX1_match 92 = .ok (.getfield 46, 3) := by decide +kernel
theorem dX1_match_95 : decode cX1_match 95 = .ok (.aload_n 0, 1) := by decide +kernel
theorem dX1_match_96 : decode cX1_match 96 = .ok (.getfield 39, 3) := by decide +kernel
theorem dX1_match_99 : decode cX1_match 99 = .ok (.isub, 1) := by decide +kernel
theorem dX1_match_100 : decode cX1_match 100 = .ok (.invokestatic 74, 3) := by decide +kernel
theorem dX1_match_103 : decode cX1_match 103 = .ok (.iconst 0, 1) := by decide +kernel
theorem dX1_match_104 : decode cX1_match 104 = .ok (.iconst 0, 1) := by decide +kernel
theorem dX1_match_105 : decode cX1_match 105 = .ok (.invokevirtual 79, 3) := by decide +kernel
theorem dX1_match_108 : decode cX1_match 108 = .ok (.return_, 1) := by decide +kernel
theorem dX1_choose_0 : decode cX1_choose 0 = .ok (.lconst 0, 1) := by decide +kernel
theorem dX1_choose_1 : decode cX1_choose 1 = .ok (.lstore_n 1, 1) := by decide +kernel
theorem dX1_choose_2 : decode cX1_choose 2 = .ok (.iconst 0, 1) := by decide +kernel
theorem dX1_choose_3 : decode cX1_choose 3 = .ok (.istore_n 3, 1) := by decide +kernel
theorem dX1_choose_4 : decode cX1_choose 4 = .ok (.iload_n 3, 1) := by decide +kernel
theorem dX1_choose_5 : decode cX1_choose 5 = .ok (.iconst 5, 1) := by decide +kernel
theorem dX1_choose_6 : decode cX1_choose 6 = .ok (.if_icmp .ge 30, 3) := by decide +kernel
theorem dX1_choose_9 : decode cX1_choose 9 = .ok (.aload_n 0, 1) := by decide +kernel
theorem dX1_choose_10 : decode cX1_choose 10 = .ok (.lload_n 1, 1) := by decide +kernel
theorem dX1_choose_11 : decode cX1_choose 11 = .ok (.invokevirtual 83, 3) := by decide +kernel
theorem dX1_choose_14 : decode cX1_choose 14 = .ok (.istore 4, 2) := by decide +kernel
theorem dX1_choose_16 : decode cX1_choose 16 = .ok (.iload 4, 2) := by decide +kernel
theorem dX1_choose_18 : decode cX1_choose 18 = .ok (.iconst (-1), 1) := by decide +kernel
theorem dX1_choose_19 : decode cX1_choose 19 = .ok (.if_icmp .eq 11, 3) := by decide +kernel
theorem dX1_choose_22 : decode cX1_choose 22 = .ok (.lload_n 1, 1) := by decide +kernel
theorem dX1_choose_23 : decode cX1_choose 23 = .ok (.iload 4, 2) := by decide +kernel
theorem dX1_choose_25 : decode cX1_choose 25 = .ok (.invokestatic 86, 3) := by decide +kernel
theorem dX1_choose_28 : decode cX1_choose 28 = .ok (.lor, 1) := by decide +kernel
theorem dX1_choose_29 : decode cX1_choose 29 = .ok (.lstore_n 1, 1) := by decide +kernel
theorem dX1_choose_30 : decode cX1_choose 30 = .ok (.iinc 3 1, 3) := by decide +kernel
theorem dX1_choose_33 : decode cX1_choose 33 = .ok (.goto (-29), 3) := by decide +kernel
theorem dX1_choose_36 : decode cX1_choose 36 = .ok (.aload_n 0, 1) := by decide +kernel
theorem dX1_choose_37 : decode cX1_choose 37 = .ok (.iconst 0, 1) := by decide +kernel
theorem dX1_choose_38 : decode cX1_choose 38 = .ok (.putfield 46, 3) := by decide +kernel
theorem dX1_choose_41 : decode cX1_choose 41 = .ok (.iconst 0, 1) := by decide +kernel
theorem dX1_choose_42 : decode cX1_choose 42 = .ok (.istore_n 3, 1) := by decide +kernel
theorem dX1_choose_43 : decode cX1_choose 43 = .ok (.iload_n 3, 1) := by decide +kernel
theorem dX1_choose_44 : decode cX1_choose 44 = .ok (.aload_n 0, 1) := by decide +kernel
theorem dX1_choose_45 : decode cX1_choose 45 = .ok (.getfield 9, 3) := by decide +kernel
theorem dX1_choose_48 : decode cX1_choose 48 = .ok (.getfield 90, 3) := by decide +kernel
theorem dX1_choose_51 : decode cX1_choose 51 = .ok (.if_icmp .ge 45, 3) := by decide +kernel
theorem dX1_choose_54 : decode cX1_choose 54 = .ok (.lload_n 1, 1) := by decide +kernel
theorem dX1_choose_55 : decode cX1_choose 55 = .ok (.iload_n 3, 1) := by decide +kernel
theorem dX1_choose_56 : decode cX1_choose 56 = .ok (.invokestatic 91, 3) := by decide +kernel
theorem dX1_choose_59 : decode cX1_choose 59 = .ok (.ifCond .eq 31, 3) := by decide +kernel
theorem dX1_choose_62 : decode cX1_choose 62 = .ok (.aload_n 0, 1) := by decide +kernel
theorem dX1_choose_63 : decode cX1_choose 63 = .ok (.getfield 46, 3) := by decide +kernel
theorem dX1_choose_66 : decode cX1_choose 66 = .ok (.iconst 5, 1) := by decide +kernel
theorem dX1_choose_67 : decode cX1_choose 67 = .ok (.if_icmp .ge 23, 3) := by decide +kernel
theorem dX1_choose_70 : decode cX1_choose 70 = .ok (.aload_n 0, 1) := by decide +kernel
theorem dX1_choose_71 : decode cX1_choose 71 = .ok (.getfield 27, 3) := by decide +kernel
theorem dX1_choose_74 : decode cX1_choose 74 = .ok (.aload_n 0, 1) := by decide +kernel
theorem dX1_choose_75 : decode cX1_choose 75 = .ok (.getfield 46, 3) := by decide +kernel
theorem dX1_choose_78 : decode cX1_choose 78 = .ok (.iload_n 3, 1) := by decide +kernel
theorem dX1_choose_79 : decode cX1_choose 79 = .ok (.iastore, 1) := by decide +kernel
theorem dX1_choose_80 : decode cX1_choose 80 = .ok (.aload_n 0, 1) := by decide +kernel
theorem dX1_choose_81 : decode cX1_choose 81 = .ok (.dup, 1) := by decide +kernel
theorem dX1_choose_82 : decode cX1_choose 82 = .ok (.getfield 46, 3) := by decide +kernel
theorem dX1_choose_85 : decode cX1_choose 85 = .ok (.iconst 1, 1) := by decide +kernel
theorem dX1_choose_86 : decode cX1_choose 86 = .ok (.iadd, 1) := by decide +kernel
theorem dX1_choose_87 : decode cX1_choose 87 = .ok (.putfield 46, 3) := by decide +kernel
theorem dX1_choose_90 : decode cX1_choose 90 = .ok (.iinc 3 1, 3) := by decide +kernel
theorem dX1_choose_93 : decode cX1_choose 93 = .ok (.goto (-50), 3) := by decide +kernel
theorem dX1_choose_96 : decode cX1_choose 96 = .ok (.return_, 1) := by decide +kernel
theorem dX1_largestBut_0 : decode cX1_largestBut 0 = .ok (.iconst (-1), 1) := by decide +kernel
theorem dX1_largestBut_1 : decode cX1_largestBut 1 = .ok (.istore_n 3, 1) := by decide +kernel
theorem dX1_largestBut_2 : decode cX1_largestBut 2 = .ok (.iconst 0, 1) := by decide +kernel
theorem dX1_largestBut_3 : decode cX1_largestBut 3 = .ok (.istore 4, 2) := by decide +kernel
theorem dX1_largestBut_5 : decode cX1_largestBut 5 = .ok (.iconst 0, 1) := by decide +kernel
theorem dX1_largestBut_6 : decode cX1_largestBut 6 = .ok (.istore 5, 2) := by decide +kernel
theorem dX1_largestBut_8 : decode cX1_largestBut 8 = .ok (.iload 5, 2) := by decide +kernel
theorem dX1_largestBut_10 : decode cX1_largestBut 10 = .ok (.aload_n 0, 1) := by decide +kernel
theorem dX1_largestBut_11 : decode cX1_largestBut 11 = .ok (.getfield 9, 3) := by decide +kernel
theorem dX1_largestBut_14 : decode cX1_largestBut 14 = .ok (.getfield 90, 3) := by decide +kernel
theorem dX1_largestBut_17 : decode cX1_largestBut 17 = .ok (.if_icmp .ge 47, 3) := by decide +kernel
theorem dX1_largestBut_20 : decode cX1_largestBut 20 = .ok (.aload_n 0, 1) := by decide +kernel
theorem dX1_largestBut_21 : decode cX1_largestBut 21 = .ok (.getfield 15, 3) := by decide +kernel
theorem dX1_largestBut_24 : decode cX1_largestBut 24 = .ok (.getfield 55, 3) := by decide +kernel
theorem dX1_largestBut_27 : decode cX1_largestBut 27 = .ok (.iload 5, 2) := by decide +kernel
theorem dX1_largestBut_29 : decode cX1_largestBut 29 = .ok (.laload, 1) := by decide +kernel
theorem dX1_largestBut_30 : decode cX1_largestBut 30 = .ok (.invokestatic 95, 3) := by decide +kernel
theorem dX1_largestBut_33 : decode cX1_largestBut 33 = .ok (.istore 6, 2) := by decide +kernel
theorem dX1_largestBut_35 : decode cX1_largestBut 35 = .ok (.iload 6, 2) := by decide +kernel
theorem dX1_largestBut_37 : decode cX1_largestBut 37 = .ok (.iload 4, 2) := by decide +kernel
theorem dX1_largestBut_39 : decode cX1_largestBut 39 = .ok (.if_icmp .le 19, 3) := by decide +kernel
theorem dX1_largestBut_42 : decode cX1_largestBut 42 = .ok (.lload_n 1, 1) := by decide +kernel
theorem dX1_largestBut_43 : decode cX1_largestBut 43 = .ok (.iload 5, 2) := by decide +kernel
theorem dX1_largestBut_45 : decode cX1_largestBut 45 = .ok (.invokestatic 91, 3) := by decide +kernel
theorem dX1_largestBut_48 : decode cX1_largestBut 48 = .ok (.ifCond .ne 10, 3) := by decide +kernel
theorem dX1_largestBut_51 : decode cX1_largestBut 51 = .ok (.iload 5, 2) := by decide +kernel
theorem dX1_largestBut_53 : decode cX1_largestBut 53 = .ok (.istore_n 3, 1) := by decide +kernel
theorem dX1_largestBut_54 : decode cX1_largestBut 54 = .ok (.iload 6, 2) := by decide +kernel
theorem dX1_largestBut_56 : decode cX1_largestBut 56 = .ok (.istore 4, 2) := by decide +kernel
theorem dX1_largestBut_58 : decode cX1_largestBut 58 = .ok (.iinc 5 1, 3) := by decide +kernel
theorem dX1_largestBut_61 : decode cX1_largestBut 61 = .ok (.goto (-53), 3) := by decide +kernel
theorem dX1_largestBut_64 : decode cX1_largestBut 64 = .ok (.iload_n 3, 1) := by decide +kernel
theorem dX1_largestBut_65 : decode cX1_largestBut 65 = .ok (.ireturn, 1) := by decide +kernel
theorem dX1_matchRest_0 : decode cX1_matchRest 0 = .ok (.iload 4, 2) := by decide +kernel
theorem dX1_matchRest_2 : decode cX1_matchRest 2 = .ok (.aload_n 0, 1) := by decide +kernel
theorem dX1_matchRest_3 : decode cX1_matchRest 3 = .ok (.getfield 49, 3) := by decide +kernel
theorem dX1_matchRest_6 : decode cX1_matchRest 6 = .ok (.if_icmp .lt 4, 3) := by decide +kernel
theorem dX1_matchRest_9 : decode cX1_matchRest 9 = .ok (.return_, 1) := by decide +kernel
theorem dX1_matchRest_10 : decode cX1_matchRest 10 = .ok (.iload_n 1, 1) := by decide +kernel
theorem dX1_matchRest_11 : decode cX1_matchRest 11 = .ok (.aload_n 0, 1) := by decide +kernel
theorem dX1_matchRest_12 : decode cX1_matchRest 12 = .ok (.getfield 46, 3) := by decide +kernel
theorem dX1_matchRest_15 : decode cX1_matchRest 15 = .ok (.if_icmp .ge 8, 3) := by decide +kernel
theorem dX1_matchRest_18 : decode cX1_matchRest 18 = .ok (.iload_n 1, 1) := by decide +kernel
theorem dX1_matchRest_19 : decode cX1_matchRest 19 = .ok (.iconst 5, 1) := by decide +kernel
theorem dX1_matchRest_20 : decode cX1_matchRest 20 = .ok (.if_icmp .lt 24, 3) := by decide +kernel
theorem dX1_matchRest_23 : decode cX1_matchRest 23 = .ok (.aload_n 0, 1) := by decide +kernel
theorem dX1_matchRest_24 : decode cX1_matchRest 24 = .ok (.iload 4, 2) := by decide +kernel
theorem dX1_matchRest_26 : decode cX1_matchRest 26 = .ok (.putfield 49, 3) := by decide +kernel
theorem dX1_matchRest_29 : decode cX1_matchRest 29 = .ok (.aload_n 0, 1) := by decide +kernel
theorem dX1_matchRest_30 : decode cX1_matchRest 30 = .ok (.getfield 33, 3) := by decide +kernel
theorem dX1_matchRest_33 : decode cX1_matchRest 33 = .ok (.iconst 0, 1) := by decide +kernel
theorem dX1_matchRest_34 : decode cX1_matchRest 34 = .ok (.aload_n 0, 1) := by decide +kernel
theorem dX1_matchRest_35 : decode cX1_matchRest 35 = .ok (.getfield 36, 3) := by decide +kernel
theorem dX1_matchRest_38 : decode cX1_matchRest 38 = .ok (.iconst 0, 1) := by decide +kernel
theorem dX1_matchRest_39 : decode cX1_matchRest 39 = .ok (.iconst 5, 1) := by decide +kernel
theorem dX1_matchRest_40 : decode cX1_matchRest 40 = .ok (.invokestatic 100, 3) := by decide +kernel
theorem dX1_matchRest_43 : decode cX1_matchRest 43 = .ok (.return_, 1) := by decide +kernel
theorem dX1_matchRest_44 : decode cX1_matchRest 44 = .ok (.iconst 0, 1) := by decide +kernel
theorem dX1_matchRest_45 : decode cX1_matchRest 45 = .ok (.istore 5, 2) := by decide +kernel
theorem dX1_matchRest_47 : decode cX1_matchRest 47 = .ok (.iload 5, 2) := by decide +kernel
theorem dX1_matchRest_49 : decode cX1_matchRest 49 = .ok (.aload_n 0, 1) := by decide +kernel
theorem dX1_matchRest_50 : decode cX1_matchRest 50 = .ok (.getfield 39, 3) := by decide +kernel
theorem dX1_matchRest_53 : decode cX1_matchRest 53 = .ok (.if_icmp .ge 54, 3) := by decide +kernel
theorem dX1_matchRest_56 : decode cX1_matchRest 56 = .ok (.iload_n 3, 1) := by decide +kernel
theorem dX1_matchRest_57 : decode cX1_matchRest 57 = .ok (.iload 5, 2) := by decide +kernel
theorem dX1_matchRest_59 : decode cX1_matchRest 59 = .ok (.ishr, 1) := by decide +kernel
theorem dX1_matchRest_60 : decode cX1_matchRest 60 = .ok (.iconst 1, 1) := by decide +kernel
theorem dX1_matchRest_61 : decode cX1_matchRest 61 = .ok (.iand, 1) := by decide +kernel
theorem dX1_matchRest_62 : decode cX1_matchRest 62 = .ok (.ifCond .ne 39, 3) := by decide +kernel
theorem dX1_matchRest_65 : decode cX1_matchRest 65 = .ok (.aload_n 0, 1) := by decide +kernel
theorem dX1_matchRest_66 : decode cX1_matchRest 66 = .ok (.getfield 33, 3) := by decide +kernel
theorem dX1_matchRest_69 : decode cX1_matchRest 69 = .ok (.iload_n 1, 1) := by decide +kernel
theorem dX1_matchRest_70 : decode cX1_matchRest 70 = .ok (.iload 5, 2) := by decide +kernel
theorem dX1_matchRest_72 : decode cX1_matchRest 72 = .ok (.iastore, 1) := by decide +kernel
theorem dX1_matchRest_73 : decode cX1_matchRest 73 = .ok (.aload_n 0, 1) := by decide +kernel
theorem dX1_matchRest_74 : decode cX1_matchRest 74 = .ok (.iload_n 1, 1) := by decide +kernel
theorem dX1_matchRest_75 : decode cX1_matchRest 75 = .ok (.iconst 1, 1) := by decide +kernel
theorem dX1_matchRest_76 : decode cX1_matchRest 76 = .ok (.iadd, 1) := by decide +kernel
theorem dX1_matchRest_77 : decode cX1_matchRest 77 = .ok (.iload_n 2, 1) := by decide +kernel
theorem dX1_matchRest_78 : decode cX1_matchRest 78 = .ok (.iload_n 3, 1) := by decide +kernel
theorem dX1_matchRest_79 : decode cX1_matchRest 79 = .ok (.iconst 1, 1) := by decide +kernel
theorem dX1_matchRest_80 : decode cX1_matchRest 80 = .ok (.iload 5, 2) := by decide +kernel
theorem dX1_matchRest_82 : decode cX1_matchRest 82 = .ok (.ishl, 1) := by decide +kernel
theorem dX1_matchRest_83 : decode cX1_matchRest 83 = .ok (.ior, 1) := by decide +kernel
theorem dX1_matchRest_84 : decode cX1_matchRest 84 = .ok (.iload 4, 2) := by decide +kernel
theorem dX1_matchRest_86 : decode cX1_matchRest 86 = .ok (.aload_n 0, 1) := by decide +kernel
theorem dX1_matchRest_87 : decode cX1_matchRest 87 = .ok (.getfield 30, 3) := by decide +kernel
theorem dX1_matchRest_90 : decode cX1_matchRest 90 = .ok (.iload_n 1, 1) := by decide +kernel
theorem dX1_matchRest_91 : decode cX1_matchRest 91 = .ok (.iconst 5, 1) := by decide +kernel
theorem dX1_matchRest_92 : decode cX1_matchRest 92 = .ok (.imul, 1) := by decide +kernel
theorem dX1_matchRest_93 : decode cX1_matchRest 93 = .ok (.iload 5, 2) := by decide +kernel
theorem dX1_matchRest_95 : decode cX1_matchRest 95 = .ok (.iadd, 1) := by decide +kernel
theorem dX1_matchRest_96 : decode cX1_matchRest 96 = .ok (.iaload, 1) := by decide +kernel
theorem dX1_matchRest_97 : decode cX1_matchRest 97 = .ok (.iadd, 1) := by decide +kernel
theorem dX1_matchRest_98 : decode cX1_matchRest 98 = .ok (.invokevirtual 79, 3) := by decide +kernel
theorem dX1_matchRest_101 : decode cX1_matchRest 101 = .ok (.iinc 5 1, 3) := by decide +kernel
theorem dX1_matchRest_104 : decode cX1_matchRest 104 = .ok (.goto (-57), 3) := by decide +kernel
theorem dX1_matchRest_107 : decode cX1_matchRest 107 = .ok (.iload_n 2, 1) := by decide +kernel
theorem dX1_matchRest_108 : decode cX1_matchRest 108 = .ok (.ifCond .le 23, 3) := by decide +kernel
theorem dX1_matchRest_111 : decode cX1_matchRest 111 = .ok (.aload_n 0, 1) := by decide +kernel
theorem dX1_matchRest_112 : decode cX1_matchRest 112 = .ok (.getfield 33, 3) := by decide +kernel
theorem dX1_matchRest_115 : decode cX1_matchRest 115 = .ok (.iload_n 1, 1) := by decide +kernel
theorem dX1_matchRest_116 : decode cX1_matchRest 116 = .ok (.iconst (-1), 1) := by decide +kernel
theorem dX1_matchRest_117 : decode cX1_matchRest 117 = .ok (.iastore, 1) := by decide +kernel
theorem dX1_matchRest_118 : decode cX1_matchRest 118 = .ok (.aload_n 0, 1) := by decide +kernel
theorem dX1_matchRest_119 : decode cX1_matchRest 119 = .ok (.iload_n 1, 1) := by decide +kernel
theorem dX1_matchRest_120 : decode cX1_matchRest 120 = .ok (.iconst 1, 1) := by decide +kernel
theorem dX1_matchRest_121 : decode cX1_matchRest 121 = .ok (.iadd, 1) := by decide +kernel
theorem dX1_matchRest_122 : decode cX1_matchRest 122 = .ok (.iload_n 2, 1) := by decide +kernel
theorem dX1_matchRest_123 : decode cX1_matchRest 123 = .ok (.iconst 1, 1) := by decide +kernel
theorem dX1_matchRest_124 : decode cX1_matchRest 124 = .ok (.isub, 1) := by decide +kernel
theorem dX1_matchRest_125 : decode cX1_matchRest 125 = .ok (.iload_n 3, 1) := by decide +kernel
theorem dX1_matchRest_126 : decode cX1_matchRest 126 = .ok (.iload 4, 2) := by decide +kernel
theorem dX1_matchRest_128 : decode cX1_matchRest 128 = .ok (.invokevirtual 79, 3) := by decide +kernel
theorem dX1_matchRest_131 : decode cX1_matchRest 131 = .ok (.return_, 1) := by decide +kernel
theorem dX2_init_0 : decode cX2_init 0 = .ok (.aload_n 0, 1) := by decide +kernel
theorem dX2_init_1 : decode cX2_init 1 = .ok (.invokespecial 3, 3) := by decide +kernel
theorem dX2_init_4 : decode cX2_init 4 = .ok (.aload_n 0, 1) := by decide +kernel
theorem dX2_init_5 : decode cX2_init 5 = .ok (.aload_n 1, 1) := by decide +kernel
theorem dX2_init_6 : decode cX2_init 6 = .ok (.putfield 9, 3) := by decide +kernel
theorem dX2_init_9 : decode cX2_init 9 = .ok (.aload_n 0, 1) := by decide +kernel
theorem dX2_init_10 : decode cX2_init 10 = .ok (.bipush 40, 2) := by decide +kernel
theorem dX2_init_12 : decode cX2_init 12 = .ok (.newarray .int, 2) := by decide +kernel
theorem dX2_init_14 : decode cX2_init 14 = .ok (.putfield 15, 3) := by decide +kernel
theorem dX2_init_17 : decode cX2_init 17 = .ok (.aload_n 0, 1) := by decide +kernel
theorem dX2_init_18 : decode cX2_init 18 = .ok (.bipush 40, 2) := by decide +kernel
theorem dX2_init_20 : decode cX2_init 20 = .ok (.newarray .long, 2) := by decide +kernel
theorem dX2_init_22 : decode cX2_init 22 = .ok (.putfield 19, 3) := by decide +kernel
theorem dX2_init_25 : decode cX2_init 25 = .ok (.aload_n 0, 1) := by decide +kernel
theorem dX2_init_26 : decode cX2_init 26 = .ok (.bipush 40, 2) := by decide +kernel
theorem dX2_init_28 : decode cX2_init 28 = .ok (.newarray .int, 2) := by decide +kernel
theorem dX2_init_30 : decode cX2_init 30 = .ok (.putfield 23, 3) := by decide +kernel
theorem dX2_init_33 : decode cX2_init 33 = .ok (.aload_n 0, 1) := by decide +kernel
theorem dX2_init_34 : decode cX2_init 34 = .ok (.bipush 10, 2) := by decide +kernel
theorem dX2_init_36 : decode cX2_init 36 = .ok (.putfield 26, 3) := by decide +kernel
theorem dX2_init_39 : decode cX2_init 39 = .ok (.aload_n 0, 1) := by decide +kernel
theorem dX2_init_40 : decode cX2_init 40 = .ok (.iconst 1, 1) := by decide +kernel
theorem dX2_init_41 : decode cX2_init 41 = .ok (.putfield 30, 3) := by decide +kernel
theorem dX2_init_44 : decode cX2_init 44 = .ok (.aload_n 0, 1) := by decide +kernel
theorem dX2_init_45 : decode cX2_init 45 = .ok (.getfield 15, 3) := by decide +kernel
theorem dX2_init_48 : decode cX2_init 48 = .ok (.iconst (-1), 1) := by decide +kernel
theorem dX2_init_49 : decode cX2_init 49 = .ok (.invokestatic 33, 3) := by decide +kernel
theorem dX2_init_52 : decode cX2_init 52 = .ok (.return_, 1) := by decide +kernel
theorem dX2_isOpen_0 : decode cX2_isOpen 0 = .ok (.aload_n 0, 1) := by decide +kernel
theorem dX2_isOpen_1 : decode cX2_isOpen 1 = .ok (.getfield 15, 3) := by decide +kernel
theorem dX2_isOpen_4 : decode cX2_isOpen 4 = .ok (.iload_n 1, 1) := by decide +kernel
theorem dX2_isOpen_5 : decode cX2_isOpen 5 = .ok (.iaload, 1) := by decide +kernel
theorem dX2_isOpen_6 : decode cX2_isOpen 6 = .ok (.iconst (-1), 1) := by decide +kernel
theorem dX2_isOpen_7 : decode cX2_isOpen 7 = .ok (.if_icmp .ne 7, 3) := by decide +kernel
theorem dX2_isOpen_10 : decode cX2_isOpen 10 = .ok (.iconst 1, 1) := by decide +kernel
theorem dX2_isOpen_11 : decode cX2_isOpen 11 = .ok (.goto 4, 3) := by decide +kernel
theorem dX2_isOpen_14 : decode cX2_isOpen 14 = .ok (.iconst 0, 1) := by decide +kernel
theorem dX2_isOpen_15 : decode cX2_isOpen 15 = .ok (.ireturn, 1) := by decide +kernel
theorem dX2_isHeap_0 : decode cX2_isHeap 0 = .ok (.aload_n 0, 1) := by decide +kernel
theorem dX2_isHeap_1 : decode cX2_isHeap 1 = .ok (.getfield 19, 3) := by decide +kernel
theorem dX2_isHeap_4 : decode cX2_isHeap 4 = .ok (.iload_n 1, 1) := by decide +kernel
theorem dX2_isHeap_5 : decode cX2_isHeap 5 = .ok (.laload, 1) := by decide +kernel
theorem dX2_isHeap_6 : decode cX2_isHeap 6 = .ok (.lconst 0, 1) := by decide +kernel
theorem dX2_isHeap_7 : decode cX2_isHeap 7 = .ok (.lcmp, 1) := by decide +kernel
theorem dX2_isHeap_8 : decode cX2_isHeap 8 = .ok (.ifCond .eq 7, 3) := by decide +kernel
theorem dX2_isHeap_11 : decode cX2_isHeap 11 = .ok (.iconst 1, 1) := by decide +kernel
theorem dX2_isHeap_12 : decode cX2_isHeap 12 = .ok (.goto 4, 3) := by decide +kernel
theorem dX2_isHeap_15 : decode cX2_isHeap 15 = .ok (.iconst 0, 1) := by decide +kernel
theorem dX2_isHeap_16 : decode cX2_isHeap 16 = .ok (.ireturn, 1) := by decide +kernel
theorem dX2_around_0 : decode cX2_around 0 = .ok (.aload_n 0, 1) := by decide +kernel
theorem dX2_around_1 : decode cX2_around 1 = .ok (.getfield 15, 3) := by decide +kernel
theorem dX2_around_4 : decode cX2_around 4 = .ok (.iload_n 1, 1) := by decide +kernel
theorem dX2_around_5 : decode cX2_around 5 = .ok (.iaload, 1) := by decide +kernel
theorem dX2_around_6 : decode cX2_around 6 = .ok (.istore_n 2, 1) := by decide +kernel
theorem dX2_around_7 : decode cX2_around 7 = .ok (.iload_n 2, 1) := by decide +kernel
theorem dX2_around_8 : decode cX2_around 8 = .ok (.iconst (-1), 1) := by decide +kernel
theorem dX2_around_9 : decode cX2_around 9 = .ok (.if_icmp .ne 7, 3) := by decide +kernel
theorem dX2_around_12 : decode cX2_around 12 = .ok (.lconst 0, 1) := by decide +kernel
theorem dX2_around_13 : decode cX2_around 13 = .ok (.goto 9, 3) := by decide +kernel
theorem dX2_around_16 : decode cX2_around 16 = .ok (.aload_n 0, 1) := by decide +kernel
theorem dX2_around_17 : decode cX2_around 17 = .ok (.getfield 19, 3) := by decide +kernel
theorem dX2_around_20 : decode cX2_around 20 = .ok (.iload_n 2, 1) := by decide +kernel
theorem dX2_around_21 : decode cX2_around 21 = .ok (.laload, 1) := by decide +kernel
theorem dX2_around_22 : decode cX2_around 22 = .ok (.lreturn, 1) := by decide +kernel
theorem dX2_allLaid_0 : decode cX2_allLaid 0 = .ok (.lconst 0, 1) := by decide +kernel
theorem dX2_allLaid_1 : decode cX2_allLaid 1 = .ok (.lstore_n 1, 1) := by decide +kernel
theorem dX2_allLaid_2 : decode cX2_allLaid 2 = .ok (.iconst 0, 1) := by decide +kernel
theorem dX2_allLaid_3 : decode cX2_allLaid 3 = .ok (.istore_n 3, 1) := by decide +kernel
theorem dX2_allLaid_4 : decode cX2_allLaid 4 = .ok (.iload_n 3, 1) := by decide +kernel
theorem dX2_allLaid_5 : decode cX2_allLaid 5 = .ok (.aload_n 0, 1) := by decide +kernel
theorem dX2_allLaid_6 : decode cX2_allLaid 6 = .ok (.getfield 9, 3) := by decide +kernel
theorem dX2_allLaid_9 : decode cX2_allLaid 9 = .ok (.getfield 39, 3) := by decide +kernel
theorem dX2_allLaid_12 : decode cX2_allLaid 12 = .ok (.if_icmp .ge 18, 3) := by decide +kernel
theorem dX2_allLaid_15 : decode cX2_allLaid 15 = .ok (.lload_n 1, 1) := by decide +kernel
theorem dX2_allLaid_16 : decode cX2_allLaid 16 = .ok (.aload_n 0, 1) := by decide +kernel
theorem dX2_allLaid_17 : decode cX2_allLaid 17 = .ok (.getfield 19, 3) := by decide +kernel
theorem dX2_allLaid_20 : decode cX2_allLaid 20 = .ok (.iload_n 3, 1) := by decide +kernel
theorem dX2_allLaid_21 : decode cX2_allLaid 21 = .ok (.laload, 1) := by decide +kernel
theorem dX2_allLaid_22 : decode cX2_allLaid 22 = .ok (.lor, 1) := by decide +kernel
theorem dX2_allLaid_23 : decode cX2_allLaid 23 = .ok (.lstore_n 1, 1) := by decide +kernel
theorem dX2_allLaid_24 : decode cX2_allLaid 24 = .ok (.iinc 3 1, 3) := by decide +kernel
theorem dX2_allLaid_27 : decode cX2_allLaid 27 = .ok (.goto (-23), 3) := by decide +kernel
theorem dX2_allLaid_30 : decode cX2_allLaid 30 = .ok (.lload_n 1, 1) := by decide +kernel
theorem dX2_allLaid_31 : decode cX2_allLaid 31 = .ok (.lreturn, 1) := by decide +kernel
theorem dX2_allOpen_0 : decode cX2_allOpen 0 = .ok (.aload_n 0, 1) := by decide +kernel
theorem dX2_allOpen_1 : decode cX2_allOpen 1 = .ok (.getfield 9, 3) := by decide +kernel
theorem dX2_allOpen_4 : decode cX2_allOpen 4 = .ok (.invokevirtual 44, 3) := by decide +kernel
theorem dX2_allOpen_7 : decode cX2_allOpen 7 = .ok (.aload_n 0, 1) := by decide +kernel
theorem dX2_allOpen_8 : decode cX2_allOpen 8 = .ok (.invokevirtual 48, 3) := by decide +kernel
theorem dX2_allOpen_11 : decode cX2_allOpen 11 = .ok (.ldc2_w 51, 3) := by decide +kernel
theorem dX2_allOpen_14 : decode cX2_allOpen 14 = .ok (.lxor, 1) := by decide +kernel
theorem dX2_allOpen_15 : decode cX2_allOpen 15 = .ok (.land, 1) := by decide +kernel
theorem dX2_allOpen_16 : decode cX2_allOpen 16 = .ok (.lreturn, 1) := by decide +kernel
theorem dX2_howMany_0 : decode cX2_howMany 0 = .ok (.iconst 0, 1) := by decide +kernel
theorem dX2_howMany_1 : decode cX2_howMany 1 = .ok (.istore_n 1, 1) := by decide +kernel
theorem dX2_howMany_2 : decode cX2_howMany 2 = .ok (.iconst 0, 1) := by decide +kernel
theorem dX2_howMany_3 : decode cX2_howMany 3 = .ok (.istore_n 2, 1) := by decide +kernel
theorem dX2_howMany_4 : decode cX2_howMany 4 = .ok (.iload_n 2, 1) := by decide +kernel
theorem dX2_howMany_5 : decode cX2_howMany 5 = .ok (.aload_n 0, 1) := by decide +kernel
theorem dX2_howMany_6 : decode cX2_howMany 6 = .ok (.getfield 9, 3) := by decide +kernel
theorem dX2_howMany_9 : decode cX2_howMany 9 = .ok (.getfield 39, 3) := by decide +kernel
theorem dX2_howMany_12 : decode cX2_howMany 12 = .ok (.if_icmp .ge 20, 3) := by decide +kernel
theorem dX2_howMany_15 : decode cX2_howMany 15 = .ok (.aload_n 0, 1) := by decide +kernel
theorem dX2_howMany_16 : decode cX2_howMany 16 = .ok (.iload_n 2, 1) := by decide +kernel
theorem dX2_howMany_17 : decode cX2_howMany 17 = .ok (.invokevirtual 53, 3) := by decide +kernel
theorem dX2_howMany_20 : decode cX2_howMany 20 = .ok (.ifCond .eq 6, 3) := by decide +kernel
theorem dX2_howMany_23 : decode cX2_howMany 23 = .ok (.iinc 1 1, 3) := by decide +kernel
theorem dX2_howMany_26 : decode cX2_howMany 26 = .ok (.iinc 2 1, 3) := by decide +kernel
theorem dX2_howMany_29 : decode cX2_howMany 29 = .ok (.goto (-25), 3) := by decide +kernel
theorem dX2_howMany_32 : decode cX2_howMany 32 = .ok (.iload_n 1, 1) := by decide +kernel
theorem dX2_howMany_33 : decode cX2_howMany 33 = .ok (.ireturn, 1) := by decide +kernel
theorem dX2_costOfAll_0 : decode cX2_costOfAll 0 = .ok (.iconst 0, 1) := by decide +kernel
theorem dX2_costOfAll_1 : decode cX2_costOfAll 1 = .ok (.istore_n 1, 1) := by decide +kernel
theorem dX2_costOfAll_2 : decode cX2_costOfAll 2 = .ok (.iconst 0, 1) := by decide +kernel
theorem dX2_costOfAll_3 : decode cX2_costOfAll 3 = .ok (.istore_n 2, 1) := by decide +kernel
theorem dX2_costOfAll_4 : decode cX2_costOfAll 4 = .ok (.iload_n 2, 1) := by decide +kernel
theorem dX2_costOfAll_5 : decode cX2_costOfAll 5 = .ok (.aload_n 0, 1) := by decide +kernel
theorem dX2_costOfAll_6 : decode cX2_costOfAll 6 = .ok (.getfield 9, 3) := by decide +kernel
theorem dX2_costOfAll_9 : decode cX2_costOfAll 9 = .ok (.getfield 39, 3) := by decide +kernel
theorem dX2_costOfAll_12 : decode cX2_costOfAll 12 = .ok (.if_icmp .ge 25, 3) := by decide +kernel
theorem dX2_costOfAll_15 : decode cX2_costOfAll 15 = .ok (.iload_n 1, 1) := by decide +kernel
theorem dX2_costOfAll_16 : decode cX2_costOfAll 16 = .ok (.aload_n 0, 1) := by decide +kernel
theorem dX2_costOfAll_17 : decode cX2_costOfAll 17 = .ok (.getfield 9, 3) := by decide +kernel
theorem dX2_costOfAll_20 : decode cX2_costOfAll 20 = .ok (.iload_n 2, 1) := by decide +kernel
theorem dX2_costOfAll_21 : decode cX2_costOfAll 21 = .ok (.aload_n 0, 1) := by decide +kernel
theorem dX2_costOfAll_22 : decode cX2_costOfAll 22 = .ok (.iload_n 2, 1) := by decide +kernel
theorem dX2_costOfAll_23 : decode cX2_costOfAll 23 = .ok (.invokevirtual 57, 3) := by decide +kernel
theorem dX2_costOfAll_26 : decode cX2_costOfAll 26 = .ok (.invokevirtual 61, 3) := by decide +kernel
theorem dX2_costOfAll_29 : decode cX2_costOfAll 29 = .ok (.iadd, 1) := by decide +kernel
theorem dX2_costOfAll_30 : decode cX2_costOfAll 30 = .ok (.istore_n 1, 1) := by decide +kernel
theorem dX2_costOfAll_31 : decode cX2_costOfAll 31 = .ok (.iinc 2 1, 3) := by decide +kernel
theorem dX2_costOfAll_34 : decode cX2_costOfAll 34 = .ok (.goto (-30), 3) := by decide +kernel
theorem dX2_costOfAll_37 : decode cX2_costOfAll 37 = .ok (.aload_n 0, 1) := by decide +kernel
theorem dX2_costOfAll_38 : decode cX2_costOfAll 38 = .ok (.invokevirtual 65, 3) := by decide +kernel
theorem dX2_costOfAll_41 : decode cX2_costOfAll 41 = .ok (.aload_n 0, 1) := by decide +kernel
theorem dX2_costOfAll_42 : decode cX2_costOfAll 42 = .ok (.getfield 26, 3) := by decide +kernel
theorem dX2_costOfAll_45 : decode cX2_costOfAll 45 = .ok (.imul, 1) := by decide +kernel
theorem dX2_costOfAll_46 : decode cX2_costOfAll 46 = .ok (.iload_n 1, 1) := by decide +kernel
theorem dX2_costOfAll_47 : decode cX2_costOfAll 47 = .ok (.iconst 2, 1) := by decide +kernel
theorem dX2_costOfAll_48 : decode cX2_costOfAll 48 = .ok (.idiv, 1) := by decide +kernel
theorem dX2_costOfAll_49 : decode cX2_costOfAll 49 = .ok (.iadd, 1) := by decide +kernel
theorem dX2_costOfAll_50 : decode cX2_costOfAll 50 = .ok (.ireturn, 1) := by decide +kernel
theorem dX2_open_0 : decode cX2_open 0 = .ok (.aload_n 0, 1) := by decide +kernel
theorem dX2_open_1 : decode cX2_open 1 = .ok (.getfield 15, 3) := by decide +kernel
theorem dX2_open_4 : decode cX2_open 4 = .ok (.iload_n 1, 1) := by decide +kernel
theorem dX2_open_5 : decode cX2_open 5 = .ok (.iaload, 1) := by decide +kernel
theorem dX2_open_6 : decode cX2_open 6 = .ok (.istore_n 2, 1) := by decide +kernel
theorem dX2_open_7 : decode cX2_open 7 = .ok (.iload_n 2, 1) := by decide +kernel
theorem dX2_open_8 : decode cX2_open 8 = .ok (.iconst (-1), 1) := by decide +kernel
theorem dX2_open_9 : decode cX2_open 9 = .ok (.if_icmp .ne 4, 3) := by decide +kernel
theorem dX2_open_12 : decode cX2_open 12 = .ok (.return_, 1) := by decide +kernel
theorem dX2_open_13 : decode cX2_open 13 = .ok (.aload_n 0, 1) := by decide +kernel
theorem dX2_open_14 : decode cX2_open 14 = .ok (.getfield 19, 3) := by decide +kernel
theorem dX2_open_17 : decode cX2_open 17 = .ok (.iload_n 2, 1) := by decide +kernel
theorem dX2_open_18 : decode cX2_open 18 = .ok (.laload, 1) := by decide +kernel
theorem dX2_open_19 : decode cX2_open 19 = .ok (.iload_n 1, 1) := by decide +kernel
theorem dX2_open_20 : decode cX2_open 20 = .ok (.invokestatic 69, 3) := by decide +kernel
theorem dX2_open_23 : decode cX2_open 23 = .ok (.ldc2_w 51, 3) := by decide +kernel
theorem dX2_open_26 : decode cX2_open 26 = .ok (.lxor, 1) := by decide +kernel
theorem dX2_open_27 : decode cX2_open 27 = .ok (.land, 1) := by decide +kernel
theorem dX2_open_28 : decode cX2_open 28 = .ok (.lstore_n 3, 1) := by decide +kernel
theorem dX2_open_29 : decode cX2_open 29 = .ok (.aload_n 0, 1) := by decide +kernel
theorem dX2_open_30 : decode cX2_open 30 = .ok (.getfield 19, 3) := by decide +kernel
theorem dX2_open_33 : decode cX2_open 33 = .ok (.iload_n 2, 1) := by decide +kernel
theorem dX2_open_34 : decode cX2_open 34 = .ok (.lconst 0, 1) := by decide +kernel
theorem dX2_open_35 : decode cX2_open 35 = .ok (.lastore, 1) := by decide +kernel
theorem dX2_open_36 : decode cX2_open 36 = .ok (.aload_n 0, 1) := by decide +kernel
theorem dX2_open_37 : decode cX2_open 37 = .ok (.getfield 15, 3) := by decide +kernel
theorem dX2_open_40 : decode cX2_open 40 = .ok (.iload_n 1, 1) := by decide +kernel
theorem dX2_open_41 : decode cX2_open 41 = .ok (.iconst (-1), 1) := by decide +kernel
theorem dX2_open_42 : decode cX2_open 42 = .ok (.iastore, 1) := by decide +kernel
theorem dX2_open_43 : decode cX2_open 43 = .ok (.aload_n 0, 1) := by decide +kernel
theorem dX2_open_44 : decode cX2_open 44 = .ok (.lload_n 3, 1) := by decide +kernel
theorem dX2_open_45 : decode cX2_open 45 = .ok (.invokevirtual 72, 3) := by decide +kernel
theorem dX2_open_48 : decode cX2_open 48 = .ok (.return_, 1) := by decide +kernel
theorem dX2_putAlone_0 : decode cX2_putAlone 0 = .ok (.aload_n 0, 1) := by decide +kernel
theorem dX2_putAlone_1 : decode cX2_putAlone 1 = .ok (.iload_n 1, 1) := by decide +kernel
theorem dX2_putAlone_2 : decode cX2_putAlone 2 = .ok (.invokevirtual 76, 3) := by decide +kernel
theorem dX2_putAlone_5 : decode cX2_putAlone 5 = .ok (.aload_n 0, 1) := by decide +kernel
theorem dX2_putAlone_6 : decode cX2_putAlone 6 = .ok (.iload_n 1, 1) := by decide +kernel
theorem dX2_putAlone_7 : decode cX2_putAlone 7 = .ok (.invokestatic 69, 3) := by decide +kernel
theorem dX2_putAlone_10 : decode cX2_putAlone 10 = .ok (.invokevirtual 72, 3) := by decide +kernel
theorem dX2_putAlone_13 : decode cX2_putAlone 13 = .ok (.return_, 1) := by decide +kernel
theorem dX2_putInto_0 : decode cX2_putInto 0 = .ok (.aload_n 0, 1) := by decide +kernel
theorem dX2_putInto_1 : decode cX2_putInto 1 = .ok (.getfield 15, 3) := by decide +kernel
theorem dX2_putInto_4 : decode cX2_putInto 4 = .ok (.iload_n 1, 1) := by decide +kernel
theorem dX2_putInto_5 : decode cX2_putInto 5 = .ok (.iaload, 1) := by decide +kernel
theorem dX2_putInto_6 : decode cX2_putInto 6 = .ok (.iload_n 2, 1) := by decide +kernel
theorem dX2_putInto_7 : decode cX2_putInto 7 = .ok (.if_icmp .ne 4, 3) := by decide +kernel
theorem dX2_putInto_10 : decode cX2_putInto 10 = .ok (.return_, 1) := by decide +kernel
theorem dX2_putInto_11 : decode cX2_putInto 11 = .ok (.aload_n 0, 1) := by decide +kernel
theorem dX2_putInto_12 : decode cX2_putInto 12 = .ok (.iload_n 1, 1) := by decide +kernel
theorem dX2_putInto_13 : decode cX2_putInto 13 = .ok (.invokevirtual 76, 3) := by decide +kernel
theorem dX2_putInto_16 : decode cX2_putInto 16 = .ok (.aload_n 0, 1) := by decide +kernel
theorem dX2_putInto_17 : decode cX2_putInto 17 = .ok (.getfield 19, 3) := by decide +kernel
theorem dX2_putInto_20 : decode cX2_putInto 20 = .ok (.iload_n 2, 1) := by decide +kernel
theorem dX2_putInto_21 : decode cX2_putInto 21 = .ok (.laload, 1) := by decide +kernel
theorem dX2_putInto_22 : decode cX2_putInto 22 = .ok (.iload_n 1, 1) := by decide +kernel
theorem dX2_putInto_23 : decode cX2_putInto 23 = .ok (.invokestatic 69, 3) := by decide +kernel
theorem dX2_putInto_26 : decode cX2_putInto 26 = .ok (.lor, 1) := by decide +kernel
theorem dX2_putInto_27 : decode cX2_putInto 27 = .ok (.lstore_n 3, 1) := by decide +kernel
theorem dX2_putInto_28 : decode cX2_putInto 28 = .ok (.aload_n 0, 1) := by decide +kernel
theorem dX2_putInto_29 : decode cX2_putInto 29 = .ok (.getfield 19, 3) := by decide +kernel
theorem dX2_putInto_32 : decode cX2_putInto 32 = .ok (.iload_n 2, 1) := by decide +kernel
theorem dX2_putInto_33 : decode cX2_putInto 33 = .ok (.lconst 0, 1) := by decide +kernel
theorem dX2_putInto_34 : decode cX2_putInto 34 = .ok (.lastore, 1) := by decide +kernel
theorem dX2_putInto_35 : decode cX2_putInto 35 = .ok (.aload_n 0, 1) := by decide +kernel
theorem dX2_putInto_36 : decode cX2_putInto 36 = .ok (.lload_n 3, 1) := by decide +kernel
theorem dX2_putInto_37 : decode cX2_putInto 37 = .ok (.invokevirtual 72, 3) := by decide +kernel
theorem dX2_putInto_40 : decode cX2_putInto 40 = .ok (.return_, 1) := by decide +kernel
theorem dX2_melt_0 : decode cX2_melt 0 = .ok (.aload_n 0, 1) := by decide +kernel
theorem dX2_melt_1 : decode cX2_melt 1 = .ok (.getfield 19, 3) := by decide +kernel
theorem dX2_melt_4 : decode cX2_melt 4 = .ok (.iload_n 1, 1) := by decide +kernel
theorem dX2_melt_5 : decode cX2_melt 5 = .ok (.laload, 1) := by decide +kernel
theorem dX2_melt_6 : decode cX2_melt 6 = .ok (.aload_n 0, 1) := by decide +kernel
theorem dX2_melt_7 : decode cX2_melt 7 = .ok (.getfield 19, 3) := by decide +kernel
theorem dX2_melt_10 : decode cX2_melt 10 = .ok (.iload_n 2, 1) := by decide +kernel
theorem dX2_melt_11 : decode cX2_melt 11 = .ok (.laload, 1) := by decide +kernel
theorem dX2_melt_12 : decode cX2_melt 12 = .ok (.lor, 1) := by decide +kernel
theorem dX2_melt_13 : decode cX2_melt 13 = .ok (.lstore_n 3, 1) := by decide +kernel
theorem dX2_melt_14 : decode cX2_melt 14 = .ok (.aload_n 0, 1) := by decide +kernel
theorem dX2_melt_15 : decode cX2_melt 15 = .ok (.getfield 19, 3) := by decide +kernel
theorem dX2_melt_18 : decode cX2_melt 18 = .ok (.iload_n 1, 1) := by decide +kernel
theorem dX2_melt_19 : decode cX2_melt 19 = .ok (.lconst 0, 1) := by decide +kernel
theorem dX2_melt_20 : decode cX2_melt 20 = .ok (.lastore, 1) := by decide +kernel
theorem dX2_melt_21 : decode cX2_melt 21 = .ok (.aload_n 0, 1) := by decide +kernel
theorem dX2_melt_22 : decode cX2_melt 22 = .ok (.getfield 19, 3) := by decide +kernel
theorem dX2_melt_25 : decode cX2_melt 25 = .ok (.iload_n 2, 1) := by decide +kernel
theorem dX2_melt_26 : decode cX2_melt 26 = .ok (.lconst 0, 1) := by decide +kernel
theorem dX2_melt_27 : decode cX2_melt 27 = .ok (.lastore, 1) := by decide +kernel
theorem dX2_melt_28 : decode cX2_melt 28 = .ok (.aload_n 0, 1) := by decide +kernel
theorem dX2_melt_29 : decode cX2_melt 29 = .ok (.lload_n 3, 1) := by decide +kernel
theorem dX2_melt_30 : decode cX2_melt 30 = .ok (.invokevirtual 72, 3) := by decide +kernel
theorem dX2_melt_33 : decode cX2_melt 33 = .ok (.return_, 1) := by decide +kernel
theorem dX2_pile_0 : decode cX2_pile 0 = .ok (.iconst (-1), 1) := by decide +kernel
theorem dX2_pile_1 : decode cX2_pile 1 = .ok (.istore_n 3, 1) := by decide +kernel
theorem dX2_pile_2 : decode cX2_pile 2 = .ok (.iconst 0, 1) := by decide +kernel
theorem dX2_pile_3 : decode cX2_pile 3 = .ok (.istore 4, 2) := by decide +kernel
theorem dX2_pile_5 : decode cX2_pile 5 = .ok (.iload 4, 2) := by decide +kernel
theorem dX2_pile_7 : decode cX2_pile 7 = .ok (.aload_n 0, 1) := by decide +kernel
theorem dX2_pile_8 : decode cX2_pile 8 = .ok (.getfield 9, 3) := by decide +kernel
theorem dX2_pile_11 : decode cX2_pile 11 = .ok (.getfield 39, 3) := by decide +kernel
theorem dX2_pile_14 : decode cX2_pile 14 = .ok (.if_icmp .ge 38, 3) := by decide +kernel
theorem dX2_pile_17 : decode cX2_pile 17 = .ok (.lload_n 1, 1) := by decide +kernel
theorem dX2_pile_18 : decode cX2_pile 18 = .ok (.iload 4, 2) := by decide +kernel
theorem dX2_pile_20 : decode cX2_pile 20 = .ok (.invokestatic 80, 3) := by decide +kernel
theorem dX2_pile_23 : decode cX2_pile 23 = .ok (.ifCond .eq 23, 3) := by decide +kernel
theorem dX2_pile_26 : decode cX2_pile 26 = .ok (.iload_n 3, 1) := by decide +kernel
theorem dX2_pile_27 : decode cX2_pile 27 = .ok (.iconst (-1), 1) := by decide +kernel
theorem dX2_pile_28 : decode cX2_pile 28 = .ok (.if_icmp .ne 8, 3) := by decide +kernel
theorem dX2_pile_31 : decode cX2_pile 31 = .ok (.iload 4, 2) := by decide +kernel
theorem dX2_pile_33 : decode cX2_pile 33 = .ok (.goto 4, 3) := by decide +kernel
theorem dX2_pile_36 : decode cX2_pile 36 = .ok (.iload_n 3, 1) := by decide +kernel
theorem dX2_pile_37 : decode cX2_pile 37 = .ok (.istore_n 3, 1) := by decide +kernel
theorem dX2_pile_38 : decode cX2_pile 38 = .ok (.aload_n 0, 1) := by decide +kernel
theorem dX2_pile_39 : decode cX2_pile 39 = .ok (.getfield 15, 3) := by decide +kernel
theorem dX2_pile_42 : decode cX2_pile 42 = .ok (.iload 4, 2) := by decide +kernel
theorem dX2_pile_44 : decode cX2_pile 44 = .ok (.iload_n 3, 1) := by decide +kernel
theorem dX2_pile_45 : decode cX2_pile 45 = .ok (.iastore, 1) := by decide +kernel
theorem dX2_pile_46 : decode cX2_pile 46 = .ok (.iinc 4 1, 3) := by decide +kernel
theorem dX2_pile_49 : decode cX2_pile 49 = .ok (.goto (-44), 3) := by decide +kernel
theorem dX2_pile_52 : decode cX2_pile 52 = .ok (.iload_n 3, 1) := by decide +kernel
theorem dX2_pile_53 : decode cX2_pile 53 = .ok (.iconst (-1), 1) := by decide +kernel
theorem dX2_pile_54 : decode cX2_pile 54 = .ok (.if_icmp .eq 10, 3) := by decide +kernel
theorem dX2_pile_57 : decode cX2_pile 57 = .ok (.aload_n 0, 1) := by decide +kernel
theorem dX2_pile_58 : decode cX2_pile 58 = .ok (.getfield 19, 3) := by decide +kernel
theorem dX2_pile_61 : decode cX2_pile 61 = .ok (.iload_n 3, 1) := by decide +kernel
theorem dX2_pile_62 : decode cX2_pile 62 = .ok (.lload_n 1, 1) := by decide +kernel
theorem dX2_pile_63 : decode cX2_pile 63 = .ok (.lastore, 1) := by decide +kernel
theorem dX2_pile_64 : decode cX2_pile 64 = .ok (.return_, 1) := by decide +kernel
theorem dX2_measure_0 : decode cX2_measure 0 = .ok (.aload_n 0, 1) := by decide +kernel
theorem dX2_measure_1 : decode cX2_measure 1 = .ok (.getfield 23, 3) := by decide +kernel
theorem dX2_measure_4 : decode cX2_measure 4 = .ok (.iconst 0, 1) := by decide +kernel
theorem dX2_measure_5 : decode cX2_measure 5 = .ok (.invokestatic 33, 3) := by decide +kernel
theorem dX2_measure_8 : decode cX2_measure 8 = .ok (.iconst 0, 1) := by decide +kernel
theorem dX2_measure_9 : decode cX2_measure 9 = .ok (.istore_n 3, 1) := by decide +kernel
theorem dX2_measure_10 : decode cX2_measure 10 = .ok (.iload_n 3, 1) := by decide +kernel
theorem dX2_measure_11 : decode cX2_measure 11 = .ok (.aload_n 0, 1) := by decide +kernel
theorem dX2_measure_12 : decode cX2_measure 12 = .ok (.getfield 9, 3) := by decide +kernel
theorem dX2_measure_15 : decode cX2_measure 15 = .ok (.getfield 39, 3) := by decide +kernel
theorem dX2_measure_18 : decode cX2_measure 18 = .ok (.if_icmp .ge 22, 3) := by decide +kernel
theorem dX2_measure_21 : decode cX2_measure 21 = .ok (.lload_n 1, 1) := by decide +kernel
theorem dX2_measure_22 : decode cX2_measure 22 = .ok (.iload_n 3, 1) := by decide +kernel
theorem dX2_measure_23 : decode cX2_measure 23 = .ok (.invokestatic 80, 3) := by decide +kernel
theorem dX2_measure_26 : decode cX2_measure 26 = .ok (.ifCond .eq 8, 3) := by decide +kernel
theorem dX2_measure_29 : decode cX2_measure 29 = .ok (.aload_n 0, 1) := by decide +kernel
theorem dX2_measure_30 : decode cX2_measure 30 = .ok (.iload_n 3, 1) := by decide +kernel
theorem dX2_measure_31 : decode cX2_measure 31 = .ok (.invokevirtual 84, 3) := by decide +kernel
theorem dX2_measure_34 : decode cX2_measure 34 = .ok (.iinc 3 1, 3) := by decide +kernel
theorem dX2_measure_37 : decode cX2_measure 37 = .ok (.goto (-27), 3) := by decide +kernel
theorem dX2_measure_40 : decode cX2_measure 40 = .ok (.return_, 1) := by decide +kernel
theorem dX2_addFar_0 : decode cX2_addFar 0 = .ok (.iconst 0, 1) := by decide +kernel
theorem dX2_addFar_1 : decode cX2_addFar 1 = .ok (.istore_n 2, 1) := by decide +kernel
theorem dX2_addFar_2 : decode cX2_addFar 2 = .ok (.iload_n 2, 1) := by decide +kernel
theorem dX2_addFar_3 : decode cX2_addFar 3 = .ok (.aload_n 0, 1) := by decide +kernel
theorem dX2_addFar_4 : decode cX2_addFar 4 = .ok (.getfield 9, 3) := by decide +kernel
theorem dX2_addFar_7 : decode cX2_addFar 7 = .ok (.getfield 39, 3) := by decide +kernel
theorem dX2_addFar_10 : decode cX2_addFar 10 = .ok (.if_icmp .ge 39, 3) := by decide +kernel
theorem dX2_addFar_13 : decode cX2_addFar 13 = .ok (.aload_n 0, 1) := by decide +kernel
theorem dX2_addFar_14 : decode cX2_addFar 14 = .ok (.getfield 15, 3) := by decide +kernel
theorem dX2_addFar_17 : decode cX2_addFar 17 = .ok (.iload_n 2, 1) := by decide +kernel
theorem dX2_addFar_18 : decode cX2_addFar 18 = .ok (.iaload, 1) := by decide +kernel
theorem dX2_addFar_19 : decode cX2_addFar 19 = .ok (.istore_n 3, 1) := by decide +kernel
theorem dX2_addFar_20 : decode cX2_addFar 20 = .ok (.iload_n 3, 1) := by decide +kernel
theorem dX2_addFar_21 : decode cX2_addFar 21 = .ok (.iconst (-1), 1) := by decide +kernel
theorem dX2_addFar_22 : decode cX2_addFar 22 = .ok (.if_icmp .eq 21, 3) := by decide +kernel
theorem dX2_addFar_25 : decode cX2_addFar 25 = .ok (.aload_n 0, 1) := by decide +kernel
theorem dX2_addFar_26 : decode cX2_addFar 26 = .ok (.getfield 23, 3) := by decide +kernel
theorem dX2_addFar_29 : decode cX2_addFar 29 = .ok (.iload_n 3, 1) := by decide +kernel
theorem dX2_addFar_30 : decode cX2_addFar 30 = .ok (.dup2, 1) := by decide +kernel
theorem dX2_addFar_31 : decode cX2_addFar 31 = .ok (.iaload, 1) := by decide +kernel
theorem dX2_addFar_32 : decode cX2_addFar 32 = .ok (.aload_n 0, 1) := by decide +kernel
theorem dX2_addFar_33 : decode cX2_addFar 33 = .ok (.getfield 9, 3) := by decide +kernel
theorem dX2_addFar_36 : decode cX2_addFar 36 = .ok (.iload_n 1, 1) := by decide +kernel
theorem dX2_addFar_37 : decode cX2_addFar 37 = .ok (.iload_n 2, 1) := by decide +kernel
theorem dX2_addFar_38 : decode cX2_addFar 38 = .ok (.invokevirtual 87, 3) := by decide +kernel
theorem dX2_addFar_41 : decode cX2_addFar 41 = .ok (.iadd, 1) := by decide +kernel
theorem dX2_addFar_42 : decode cX2_addFar 42 = .ok (.iastore, 1) := by decide +kernel
theorem dX2_addFar_43 : decode cX2_addFar 43 = .ok (.iinc 2 1, 3) := by decide +kernel
theorem dX2_addFar_46 : decode cX2_addFar 46 = .ok (.goto (-44), 3) := by decide +kernel
theorem dX2_addFar_49 : decode cX2_addFar 49 = .ok (.return_, 1) := by decide +kernel
theorem dX2_layNew_0 : decode cX2_layNew 0 = .ok (.aload_n 0, 1) := by decide +kernel
theorem dX2_layNew_1 : decode cX2_layNew 1 = .ok (.iload_n 1, 1) := by decide +kernel
theorem dX2_layNew_2 : decode cX2_layNew 2 = .ok (.invokestatic 69, 3) := by decide +kernel
theorem dX2_layNew_5 : decode cX2_layNew 5 = .ok (.invokevirtual 91, 3) := by decide +kernel
theorem dX2_layNew_8 : decode cX2_layNew 8 = .ok (.iconst (-1), 1) := by decide +kernel
theorem dX2_layNew_9 : decode cX2_layNew 9 = .ok (.istore_n 2, 1) := by decide +kernel
theorem dX2_layNew_10 : decode cX2_layNew 10 = .ok (.ldc 94, 2) := by decide +kernel
theorem dX2_layNew_12 : decode cX2_layNew 12 = .ok (.istore_n 3, 1) := by decide +kernel
theorem dX2_layNew_13 : decode cX2_layNew 13 = .ok (.ldc 94, 2) := by decide +kernel
theorem dX2_layNew_15 : decode cX2_layNew 15 = .ok (.istore 4, 2) := by decide +kernel
theorem dX2_layNew_17 : decode cX2_layNew 17 = .ok (.iconst 0, 1) := by decide +kernel
theorem dX2_layNew_18 : decode cX2_layNew 18 = .ok (.istore 5, 2) := by decide +kernel
theorem dX2_layNew_20 : decode cX2_layNew 20 = .ok (.iload 5, 2) := by decide +kernel
theorem dX2_layNew_22 : decode cX2_layNew 22 = .ok (.iload_n 1, 1) := by decide +kernel
theorem dX2_layNew_23 : decode cX2_layNew 23 = .ok (.if_icmp .ge 69, 3) := by decide +kernel
theorem dX2_layNew_26 : decode cX2_layNew 26 = .ok (.aload_n 0, 1) := by decide +kernel
theorem dX2_layNew_27 : decode cX2_layNew 27 = .ok (.iload 5, 2) := by decide +kernel
theorem dX2_layNew_29 : decode cX2_layNew 29 = .ok (.invokevirtual 53, 3) := by decide +kernel
theorem dX2_layNew_32 : decode cX2_layNew 32 = .ok (.ifCond .eq 31, 3) := by decide +kernel
theorem dX2_layNew_35 : decode cX2_layNew 35 = .ok (.aload_n 0, 1) := by decide +kernel
theorem dX2_layNew_36 : decode cX2_layNew 36 = .ok (.getfield 23, 3) := by decide +kernel
theorem dX2_layNew_39 : decode cX2_layNew 39 = .ok (.iload 5, 2) := by decide +kernel
theorem dX2_layNew_41 : decode cX2_layNew 41 = .ok (.iaload, 1) := by decide +kernel
theorem dX2_layNew_42 : decode cX2_layNew 42 = .ok (.iload_n 3, 1) := by decide +kernel
theorem dX2_layNew_43 : decode cX2_layNew 43 = .ok (.if_icmp .ge 20, 3) := by decide +kernel
theorem dX2_layNew_46 : decode cX2_layNew 46 = .ok (.iload_n 3, 1) := by decide +kernel
theorem dX2_layNew_47 : decode cX2_layNew 47 = .ok (.istore 4, 2) := by decide +kernel
theorem dX2_layNew_49 : decode cX2_layNew 49 = .ok (.aload_n 0, 1) := by decide +kernel
theorem dX2_layNew_50 : decode cX2_layNew 50 = .ok (.getfield 23, 3) := by decide +kernel
theorem dX2_layNew_53 : decode cX2_layNew 53 = .ok (.iload 5, 2) := by decide +kernel
theorem dX2_layNew_55 : decode cX2_layNew 55 = .ok (.iaload, 1) := by decide +kernel
theorem dX2_layNew_56 : decode cX2_layNew 56 = .ok (.istore_n 3, 1) := by decide +kernel
theorem dX2_layNew_57 : decode cX2_layNew 57 = .ok (.iload 5, 2) := by decide +kernel
theorem dX2_layNew_59 : decode cX2_layNew 59 = .ok (.istore_n 2, 1) := by decide +kernel
theorem dX2_layNew_60 : decode cX2_layNew 60 = .ok (.goto 26, 3) := by decide +kernel
theorem dX2_layNew_63 : decode cX2_layNew 63 = .ok (.aload_n 0, 1) := by decide +kernel
theorem dX2_layNew_64 : decode cX2_layNew 64 = .ok (.iload 5, 2) := by decide +kernel
theorem dX2_layNew_66 : decode cX2_layNew 66 = .ok (.invokevirtual 53, 3) := by decide +kernel
theorem dX2_layNew_69 : decode cX2_layNew 69 = .ok (.ifCond .eq 17, 3) := by decide +kernel
theorem dX2_layNew_72 : decode cX2_layNew 72 = .ok (.iload 4, 2) := by decide +kernel
theorem dX2_layNew_74 : decode cX2_layNew 74 = .ok (.aload_n 0, 1) := by decide +kernel
theorem dX2_layNew_75 : decode cX2_layNew 75 = .ok (.getfield 23, 3) := by decide +kernel
theorem dX2_layNew_78 : decode cX2_layNew 78 = .ok (.iload 5, 2) := by decide +kernel
theorem dX2_layNew_80 : decode cX2_layNew 80 = .ok (.iaload, 1) := by decide +kernel
theorem dX2_layNew_81 : decode cX2_layNew 81 = .ok (.invokestatic 95, 3) := by decide +kernel
theorem dX2_layNew_84 : decode cX2_layNew 84 = .ok (.istore 4, 2) := by decide +kernel
theorem dX2_layNew_86 : decode cX2_layNew 86 = .ok (.iinc 5 1, 3) := by decide +kernel
theorem dX2_layNew_89 : decode cX2_layNew 89 = .ok (.goto (-69), 3) := by decide +kernel
theorem dX2_layNew_92 : decode cX2_layNew 92 = .ok (.iload_n 2, 1) := by decide +kernel
theorem dX2_layNew_93 : decode cX2_layNew 93 = .ok (.iconst (-1), 1) := by decide +kernel
theorem dX2_layNew_94 : decode cX2_layNew 94 = .ok (.if_icmp .eq 11, 3) := by decide +kernel
theorem dX2_layNew_97 : decode cX2_layNew 97 = .ok (.aload_n 0, 1) := by decide +kernel
theorem dX2_layNew_98 : decode cX2_layNew 98 = .ok (.getfield 26, 3) := by decide +kernel
theorem dX2_layNew_101 : decode cX2_layNew 101 = .ok (.iload_n 3, 1) := by decide +kernel
theorem dX2_layNew_102 : decode cX2_layNew 102 = .ok (.if_icmp .ge 7, 3) := by decide +kernel
theorem dX2_layNew_105 : decode cX2_layNew 105 = .ok (.iconst 1, 1) := by decide +kernel
theorem dX2_layNew_106 : decode cX2_layNew 106 = .ok (.goto 4, 3) := by decide +kernel
theorem dX2_layNew_109 : decode cX2_layNew 109 = .ok (.iconst 0, 1) := by decide +kernel
theorem dX2_layNew_110 : decode cX2_layNew 110 = .ok (.istore 5, 2) := by decide +kernel
theorem dX2_layNew_112 : decode cX2_layNew 112 = .ok (.iload 5, 2) := by decide +kernel
theorem dX2_layNew_114 : decode cX2_layNew 114 = .ok (.ifCond .eq 7, 3) := by decide +kernel
theorem dX2_layNew_117 : decode cX2_layNew 117 = .ok (.iload_n 3, 1) := by decide +kernel
theorem dX2_layNew_118 : decode cX2_layNew 118 = .ok (.goto 12, 3) := by decide +kernel
theorem dX2_layNew_121 : decode cX2_layNew 121 = .ok (.iload 4, 2) := by decide +kernel
theorem dX2_layNew_123 : decode cX2_layNew 123 = .ok (.aload_n 0, 1) := by decide +kernel
theorem dX2_layNew_124 : decode cX2_layNew 124 = .ok (.getfield 26, 3) := by decide +kernel
theorem dX2_layNew_127 : decode cX2_layNew 127 = .ok (.invokestatic 95, 3) := by decide +kernel
theorem dX2_layNew_130 : decode cX2_layNew 130 = .ok (.istore 4, 2) := by decide +kernel
theorem dX2_layNew_132 : decode cX2_layNew 132 = .ok (.iload 5, 2) := by decide +kernel
theorem dX2_layNew_134 : decode cX2_layNew 134 = .ok (.ifCond .eq 10, 3) := by decide +kernel
theorem dX2_layNew_137 : decode cX2_layNew 137 = .ok (.aload_n 0, 1) := by decide +kernel
theorem dX2_layNew_138 : decode cX2_layNew 138 = .ok (.getfield 26, 3) := by decide +kernel
theorem dX2_layNew_141 : decode cX2_layNew 141 = .ok (.goto 4, 3) := by decide +kernel
theorem dX2_layNew_144 : decode cX2_layNew 144 = .ok (.iload_n 3, 1) := by decide +kernel
theorem dX2_layNew_145 : decode cX2_layNew 145 = .ok (.istore_n 3, 1) := by decide +kernel
theorem dX2_layNew_146 : decode cX2_layNew 146 = .ok (.iload 4, 2) := by decide +kernel
theorem dX2_layNew_148 : decode cX2_layNew 148 = .ok (.iload_n 3, 1) := by decide +kernel
theorem dX2_layNew_149 : decode cX2_layNew 149 = .ok (.isub, 1) := by decide +kernel
theorem dX2_layNew_150 : decode cX2_layNew 150 = .ok (.aload_n 0, 1) := by decide +kernel
theorem dX2_layNew_151 : decode cX2_layNew 151 = .ok (.getfield 30, 3) := by decide +kernel
theorem dX2_layNew_154 : decode cX2_layNew 154 = .ok (.if_icmp .ge 4, 3) := by decide +kernel
theorem dX2_layNew_157 : decode cX2_layNew 157 = .ok (.return_, 1) := by decide +kernel
theorem dX2_layNew_158 : decode cX2_layNew 158 = .ok (.iload 5, 2) := by decide +kernel
theorem dX2_layNew_160 : decode cX2_layNew 160 = .ok (.ifCond .eq 11, 3) := by decide +kernel
theorem dX2_layNew_163 : decode cX2_layNew 163 = .ok (.aload_n 0, 1) := by decide +kernel
theorem dX2_layNew_164 : decode cX2_layNew 164 = .ok (.iload_n 1, 1) := by decide +kernel
theorem dX2_layNew_165 : decode cX2_layNew 165 = .ok (.invokevirtual 100, 3) := by decide +kernel
theorem dX2_layNew_168 : decode cX2_layNew 168 = .ok (.goto 9, 3) := by decide +kernel
theorem dX2_layNew_171 : decode cX2_layNew 171 = .ok (.aload_n 0, 1) := by decide +kernel
theorem dX2_layNew_172 : decode cX2_layNew 172 = .ok (.iload_n 1, 1) := by decide +kernel
theorem dX2_layNew_173 : decode cX2_layNew 173 = .ok (.iload_n 2, 1) := by decide +kernel
theorem dX2_layNew_174 : decode cX2_layNew 174 = .ok (.invokevirtual 103, 3) := by decide +kernel
theorem dX2_layNew_177 : decode cX2_layNew 177 = .ok (.return_, 1) := by decide +kernel
theorem dX3_init_0 : decode cX3_init 0 = .ok (.aload_n 0, 1) := by decide +kernel
theorem dX3_init_1 : decode cX3_init 1 = .ok (.invokespecial 3, 3) := by decide +kernel
theorem dX3_init_4 : decode cX3_init 4 = .ok (.aload_n 0, 1) := by decide +kernel
theorem dX3_init_5 : decode cX3_init 5 = .ok (.aload_n 1, 1) := by decide +kernel
theorem dX3_init_6 : decode cX3_init 6 = .ok (.putfield 9, 3) := by decide +kernel
theorem dX3_init_9 : decode cX3_init 9 = .ok (.aload_n 0, 1) := by decide +kernel
theorem dX3_init_10 : decode cX3_init 10 = .ok (.bipush 60, 2) := by decide +kernel
theorem dX3_init_12 : decode cX3_init 12 = .ok (.putfield 15, 3) := by decide +kernel
theorem dX3_init_15 : decode cX3_init 15 = .ok (.aload_n 0, 1) := by decide +kernel
theorem dX3_init_16 : decode cX3_init 16 = .ok (.iconst 1, 1) := by decide +kernel
theorem dX3_init_17 : decode cX3_init 17 = .ok (.putfield 19, 3) := by decide +kernel
theorem dX3_init_20 : decode cX3_init 20 = .ok (.return_, 1) := by decide +kernel
theorem dX3_coreOf_0 : decode cX3_coreOf 0 = .ok (.lload_n 1, 1) := by decide +kernel
theorem dX3_coreOf_1 : decode cX3_coreOf 1 = .ok (.invokestatic 22, 3) := by decide +kernel
theorem dX3_coreOf_4 : decode cX3_coreOf 4 = .ok (.istore_n 3, 1) := by decide +kernel
theorem dX3_coreOf_5 : decode cX3_coreOf 5 = .ok (.iconst 0, 1) := by decide +kernel
theorem dX3_coreOf_6 : decode cX3_coreOf 6 = .ok (.istore 4, 2) := by decide +kernel
theorem dX3_coreOf_8 : decode cX3_coreOf 8 = .ok (.iconst 0, 1) := by decide +kernel
theorem dX3_coreOf_9 : decode cX3_coreOf 9 = .ok (.istore 5, 2) := by decide +kernel
theorem dX3_coreOf_11 : decode cX3_coreOf 11 = .ok (.iload 5, 2) := by decide +kernel
theorem dX3_coreOf_13 : decode cX3_coreOf 13 = .ok (.bipush 20, 2) := by decide +kernel
theorem dX3_coreOf_15 : decode cX3_coreOf 15 = .ok (.if_icmp .ge 39, 3) := by decide +kernel
theorem dX3_coreOf_18 : decode cX3_coreOf 18 = .ok (.iconst 2, 1) := by decide +kernel
theorem dX3_coreOf_19 : decode cX3_coreOf 19 = .ok (.aload_n 0, 1) := by decide +kernel
theorem dX3_coreOf_20 : decode cX3_coreOf 20 = .ok (.getfield 9, 3) := by decide +kernel
theorem dX3_coreOf_23 : decode cX3_coreOf 23 = .ok (.getfield 28, 3) := by decide +kernel
theorem dX3_coreOf_26 : decode cX3_coreOf 26 = .ok (.iload 5, 2) := by decide +kernel
theorem dX3_coreOf_28 : decode cX3_coreOf 28 = .ok (.laload, 1) := by decide +kernel
theorem dX3_coreOf_29 : decode cX3_coreOf 29 = .ok (.lload_n 1, 1) := by decide +kernel
theorem dX3_coreOf_30 : decode cX3_coreOf 30 = .ok (.land, 1) := by decide +kernel
theorem dX3_coreOf_31 : decode cX3_coreOf 31 = .ok (.invokestatic 22, 3) := by decide +kernel
theorem dX3_coreOf_34 : decode cX3_coreOf 34 = .ok (.imul, 1) := by decide +kernel
theorem dX3_coreOf_35 : decode cX3_coreOf 35 = .ok (.iload_n 3, 1) := by decide +kernel
theorem dX3_coreOf_36 : decode cX3_coreOf 36 = .ok (.if_icmp .lt 12, 3) := by decide +kernel
theorem dX3_coreOf_39 : decode cX3_coreOf 39 = .ok (.iload 4, 2) := by decide +kernel
theorem dX3_coreOf_41 : decode cX3_coreOf 41 = .ok (.iconst 1, 1) := by decide +kernel
theorem dX3_coreOf_42 : decode cX3_coreOf 42 = .ok (.iload 5, 2) := by decide +kernel
theorem dX3_coreOf_44 : decode cX3_coreOf 44 = .ok (.ishl, 1) := by decide +kernel
theorem dX3_coreOf_45 : decode cX3_coreOf 45 = .ok (.ior, 1) := by decide +kernel
theorem dX3_coreOf_46 : decode cX3_coreOf 46 = .ok (.istore 4, 2) := by decide +kernel
theorem dX3_coreOf_48 : decode cX3_coreOf 48 = .ok (.iinc 5 1, 3) := by decide +kernel
theorem dX3_coreOf_51 : decode cX3_coreOf 51 = .ok (.goto (-40), 3) := by decide +kernel
theorem dX3_coreOf_54 : decode cX3_coreOf 54 = .ok (.iload 4, 2) := by decide +kernel
theorem dX3_coreOf_56 : decode cX3_coreOf 56 = .ok (.ireturn, 1) := by decide +kernel
theorem dX3_nameOf_0 : decode cX3_nameOf 0 = .ok (.aload_n 0, 1) := by decide +kernel
theorem dX3_nameOf_1 : decode cX3_nameOf 1 = .ok (.lload_n 1, 1) := by decide +kernel
theorem dX3_nameOf_2 : decode cX3_nameOf 2 = .ok (.invokevirtual 34, 3) := by decide +kernel
theorem dX3_nameOf_5 : decode cX3_nameOf 5 = .ok (.istore_n 3, 1) := by decide +kernel
theorem dX3_nameOf_6 : decode cX3_nameOf 6 = .ok (.iload_n 3, 1) := by decide +kernel
theorem dX3_nameOf_7 : decode cX3_nameOf 7 = .ok (.ifCond .ne 9, 3) := by decide +kernel
theorem dX3_nameOf_10 : decode cX3_nameOf 10 = .ok (.aload_n 0, 1) := by decide +kernel
theorem dX3_nameOf_11 : decode cX3_nameOf 11 = .ok (.lload_n 1, 1) := by decide +kernel
theorem dX3_nameOf_12 : decode cX3_nameOf 12 = .ok (.invokevirtual 37, 3) := by decide +kernel
theorem dX3_nameOf_15 : decode cX3_nameOf 15 = .ok (.istore_n 3, 1) := by decide +kernel
theorem dX3_nameOf_16 : decode cX3_nameOf 16 = .ok (.iload_n 3, 1) := by decide +kernel
theorem dX3_nameOf_17 : decode cX3_nameOf 17 = .ok (.ifCond .ne 9, 3) := by decide +kernel
theorem dX3_nameOf_20 : decode cX3_nameOf 20 = .ok (.aload_n 0, 1) := by decide +kernel
theorem dX3_nameOf_21 : decode cX3_nameOf 21 = .ok (.lload_n 1, 1) := by decide +kernel
theorem dX3_nameOf_22 : decode cX3_nameOf 22 = .ok (.invokevirtual 40, 3) := by decide +kernel
theorem dX3_nameOf_25 : decode cX3_nameOf 25 = .ok (.istore_n 3, 1) := by decide +kernel
theorem dX3_nameOf_26 : decode cX3_nameOf 26 = .ok (.iload_n 3, 1) := by decide +kernel
theorem dX3_nameOf_27 : decode cX3_nameOf 27 = .ok (.ireturn, 1) := by decide +kernel
theorem dX3_nameOfOne_0 : decode cX3_nameOfOne 0 = .ok (.iconst 0, 1) := by decide +kernel
theorem dX3_nameOfOne_1 : decode cX3_nameOfOne 1 = .ok (.istore_n 3, 1) := by decide +kernel
theorem dX3_nameOfOne_2 : decode cX3_nameOfOne 2 = .ok (.iload_n 3, 1) := by decide +kernel
theorem dX3_nameOfOne_3 : decode cX3_nameOfOne 3 = .ok (.bipush 20, 2) := by decide +kernel
theorem dX3_nameOfOne_5 : decode cX3_nameOfOne 5 = .ok (.if_icmp .ge 30, 3) := by decide +kernel
theorem dX3_nameOfOne_8 : decode cX3_nameOfOne 8 = .ok (.aload_n 0, 1) := by decide +kernel
theorem dX3_nameOfOne_9 : decode cX3_nameOfOne 9 = .ok (.aload_n 0, 1) := by decide +kernel
theorem dX3_nameOfOne_10 : decode cX3_nameOfOne 10 = .ok (.getfield 9, 3) := by decide +kernel
theorem dX3_nameOfOne_13 : decode cX3_nameOfOne 13 = .ok (.getfield 28, 3) := by decide +kernel
theorem dX3_nameOfOne_16 : decode cX3_nameOfOne 16 = .ok (.iload_n 3, 1) := by decide +kernel
theorem dX3_nameOfOne_17 : decode cX3_nameOfOne 17 = .ok (.laload, 1) := by decide +kernel
theorem dX3_nameOfOne_18 : decode cX3_nameOfOne 18 = .ok (.lload_n 1, 1) := by decide +kernel
theorem dX3_nameOfOne_19 : decode cX3_nameOfOne 19 = .ok (.invokevirtual 43, 3) := by decide +kernel
theorem dX3_nameOfOne_22 : decode cX3_nameOfOne 22 = .ok (.ifCond .eq 7, 3) := by decide +kernel
theorem dX3_nameOfOne_25 : decode cX3_nameOfOne 25 = .ok (.iconst 1, 1) := by decide +kernel
theorem dX3_nameOfOne_26 : decode cX3_nameOfOne 26 = .ok (.iload_n 3, 1) := by decide +kernel
theorem dX3_nameOfOne_27 : decode cX3_nameOfOne 27 = .ok (.ishl, 1) := by decide +kernel
theorem dX3_nameOfOne_28 : decode cX3_nameOfOne 28 = .ok (.ireturn, 1) := by decide +kernel
theorem dX3_nameOfOne_29 : decode cX3_nameOfOne 29 = .ok (.iinc 3 1, 3) := by decide +kernel
theorem dX3_nameOfOne_32 : decode cX3_nameOfOne 32 = .ok (.goto (-30), 3) := by decide +kernel
theorem dX3_nameOfOne_35 : decode cX3_nameOfOne 35 = .ok (.iconst 0, 1) := by decide +kernel
theorem dX3_nameOfOne_36 : decode cX3_nameOfOne 36 = .ok (.ireturn, 1) := by decide +kernel
theorem dX3_nameOfTwo_0 : decode cX3_nameOfTwo 0 = .ok (.iconst 1, 1) := by decide +kernel
theorem dX3_nameOfTwo_1 : decode cX3_nameOfTwo 1 = .ok (.istore_n 3, 1) := by decide +kernel
theorem dX3_nameOfTwo_2 : decode cX3_nameOfTwo 2 = .ok (.iload_n 3, 1) := by decide +kernel
theorem dX3_nameOfTwo_3 : decode cX3_nameOfTwo 3 = .ok (.bipush 20, 2) := by decide +kernel
theorem dX3_nameOfTwo_5 : decode cX3_nameOfTwo 5 = .ok (.if_icmp .ge 61, 3) := by decide +kernel
theorem dX3_nameOfTwo_8 : decode cX3_nameOfTwo 8 = .ok (.iconst 0, 1) := by decide +kernel
theorem dX3_nameOfTwo_9 : decode cX3_nameOfTwo 9 = .ok (.istore 4, 2) := by decide +kernel
theorem dX3_nameOfTwo_11 : decode cX3_nameOfTwo 11 = .ok (.iload 4, 2) := by decide +kernel
theorem dX3_nameOfTwo_13 : decode cX3_nameOfTwo 13 = .ok (.iload_n 3, 1) := by decide +kernel
theorem dX3_nameOfTwo_14 : decode cX3_nameOfTwo 14 = .ok (.if_icmp .ge 46, 3) := by decide +kernel
theorem dX3_nameOfTwo_17 : decode cX3_nameOfTwo 17 = .ok (.aload_n 0, 1) := by decide +kernel
theorem dX3_nameOfTwo_18 : decode cX3_nameOfTwo 18 = .ok (.aload_n 0, 1) := by decide +kernel
theorem dX3_nameOfTwo_19 : decode cX3_nameOfTwo 19 = .ok (.getfield 9, 3) := by decide +kernel
theorem dX3_nameOfTwo_22 : decode cX3_nameOfTwo 22 = .ok (.getfield 28, 3) := by decide +kernel
theorem dX3_nameOfTwo_25 : decode cX3_nameOfTwo 25 = .ok (.iload_n 3, 1) := by decide +kernel
theorem dX3_nameOfTwo_26 : decode cX3_nameOfTwo 26 = .ok (.laload, 1) := by decide +kernel
theorem dX3_nameOfTwo_27 : decode cX3_nameOfTwo 27 = .ok (.aload_n 0, 1) := by decide +kernel
theorem dX3_nameOfTwo_28 : decode cX3_nameOfTwo 28 = .ok (.getfield 9, 3) := by decide +kernel
theorem dX3_nameOfTwo_31 : decode cX3_nameOfTwo 31 = .ok (.getfield 28, 3) := by decide +kernel
theorem dX3_nameOfTwo_34 : decode cX3_nameOfTwo 34 = .ok (.iload 4, 2) := by decide +kernel
theorem dX3_nameOfTwo_36 : decode cX3_nameOfTwo 36 = .ok (.laload, 1) := by decide +kernel
theorem dX3_nameOfTwo_37 : decode cX3_nameOfTwo 37 = .ok (.land, 1) := by decide +kernel
theorem dX3_nameOfTwo_38 : decode cX3_nameOfTwo 38 = .ok (.lload_n 1, 1) := by decide +kernel
theorem dX3_nameOfTwo_39 : decode cX3_nameOfTwo 39 = .ok (.invokevirtual 43, 3) := by decide +kernel
theorem dX3_nameOfTwo_42 : decode cX3_nameOfTwo 42 = .ok (.ifCond .eq 12, 3) := by decide +kernel
theorem dX3_nameOfTwo_45 : decode cX3_nameOfTwo 45 = .ok (.iconst 1, 1) := by decide +kernel
theorem dX3_nameOfTwo_46 : decode cX3_nameOfTwo 46 = .ok (.iload_n 3, 1) := by decide +kernel
theorem dX3_nameOfTwo_47 : decode cX3_nameOfTwo 47 = .ok (.ishl, 1) := by decide +kernel
theorem dX3_nameOfTwo_48 : decode cX3_nameOfTwo 48 = .ok (.iconst 1, 1) := by decide +kernel
theorem dX3_nameOfTwo_49 : decode cX3_nameOfTwo 49 = .ok (.iload 4, 2) := by decide +kernel
theorem dX3_nameOfTwo_51 : decode cX3_nameOfTwo 51 = .ok (.ishl, 1) := by decide +kernel
theorem dX3_nameOfTwo_52 : decode cX3_nameOfTwo 52 = .ok (.ior, 1) := by decide +kernel
theorem dX3_nameOfTwo_53 : decode cX3_nameOfTwo 53 = .ok (.ireturn, 1) := by decide +kernel
theorem dX3_nameOfTwo_54 : decode cX3_nameOfTwo 54 = .ok (.iinc 4 1, 3) := by decide +kernel
theorem dX3_nameOfTwo_57 : decode cX3_nameOfTwo 57 = .ok (.goto (-46), 3) := by decide +kernel
theorem dX3_nameOfTwo_60 : decode cX3_nameOfTwo 60 = .ok (.iinc 3 1, 3) := by decide +kernel
theorem dX3_nameOfTwo_63 : decode cX3_nameOfTwo 63 = .ok (.goto (-61), 3) := by decide +kernel
theorem dX3_nameOfTwo_66 : decode cX3_nameOfTwo 66 = .ok (.iconst 0, 1) := by decide +kernel
theorem dX3_nameOfTwo_67 : decode cX3_nameOfTwo 67 = .ok (.ireturn, 1) := by decide +kernel
theorem dX3_nameOfThree_0 : decode cX3_nameOfThree 0 = .ok (.iconst 2, 1) := by decide +kernel
theorem dX3_nameOfThree_1 : decode cX3_nameOfThree 1 = .ok (.istore_n 3, 1) := by decide +kernel
theorem dX3_nameOfThree_2 : decode cX3_nameOfThree 2 = .ok (.iload_n 3, 1) := by decide +kernel
theorem dX3_nameOfThree_3 : decode cX3_nameOfThree 3 = .ok (.bipush 20, 2) := by decide +kernel
theorem dX3_nameOfThree_5 : decode cX3_nameOfThree 5 = .ok (.if_icmp .ge 97, 3) := by decide +kernel
theorem dX3_nameOfThree_8 : decode cX3_nameOfThree 8 = .ok (.iconst 1, 1) := by decide +kernel
theorem dX3_nameOfThree_9 : decode cX3_nameOfThree 9 = .ok (.istore 4, 2) := by decide +kernel
theorem dX3_nameOfThree_11 : decode cX3_nameOfThree 11 = .ok (.iload 4, 2) := by decide +kernel
theorem dX3_nameOfThree_13 : decode cX3_nameOfThree 13 = .ok (.iload_n 3, 1) := by decide +kernel
theorem dX3_nameOfThree_14 : decode cX3_nameOfThree 14 = .ok (.if_icmp .ge 82, 3) := by decide +kernel
theorem dX3_nameOfThree_17 : decode cX3_nameOfThree 17 = .ok (.aload_n 0, 1) := by decide +kernel
theorem dX3_nameOfThree_18 : decode cX3_nameOfThree 18 = .ok (.getfield 9, 3) := by decide +kernel
theorem dX3_nameOfThree_21 : decode cX3_nameOfThree 21 = .ok (.getfield 28, 3) := by decide +kernel
theorem dX3_nameOfThree_24 : decode cX3_nameOfThree 24 = .ok (.iload_n 3, 1) := by decide +kernel
theorem dX3_nameOfThree_25 : decode cX3_nameOfThree 25 = .ok (.laload, 1) := by decide +kernel
theorem dX3_nameOfThree_26 : decode cX3_nameOfThree 26 = .ok (.aload_n 0, 1) := by decide +kernel
theorem dX3_nameOfThree_27 : decode cX3_nameOfThree 27 = .ok (.getfield 9, 3) := by decide +kernel
theorem dX3_nameOfThree_30 : decode cX3_nameOfThree 30 = .ok (.getfield 28, 3) := by decide +kernel
theorem dX3_nameOfThree_33 : decode cX3_nameOfThree 33 = .ok (.iload 4, 2) := by decide +kernel
theorem dX3_nameOfThree_35 : decode cX3_nameOfThree 35 = .ok (.laload, 1) := by decide +kernel
theorem dX3_nameOfThree_36 : decode cX3_nameOfThree 36 = .ok (.land, 1) := by decide +kernel
theorem dX3_nameOfThree_37 : decode cX3_nameOfThree 37 = .ok (.lstore 5, 2) := by decide +kernel
theorem dX3_nameOfThree_39 : decode cX3_nameOfThree 39 = .ok (.iconst 0, 1) := by decide +kernel
theorem dX3_nameOfThree_40 : decode cX3_nameOfThree 40 = .ok (.istore 7, 2) := by decide +kernel
theorem dX3_nameOfThree_42 : decode cX3_nameOfThree 42 = .ok (.iload 7, 2) := by decide +kernel
theorem dX3_nameOfThree_44 : decode cX3_nameOfThree 44 = .ok (.iload 4, 2) := by decide +kernel
theorem dX3_nameOfThree_46 : decode cX3_nameOfThree 46 = .ok (.if_icmp .ge 44, 3) := by decide +kernel
theorem dX3_nameOfThree_49 : decode cX3_nameOfThree 49 = .ok (.aload_n 0, 1) := by decide +kernel
theorem dX3_nameOfThree_50 : decode cX3_nameOfThree 50 = .ok (.lload 5, 2) := by decide +kernel
theorem dX3_nameOfThree_52 : decode cX3_nameOfThree 52 = .ok (.aload_n 0, 1) := by decide +kernel
theorem dX3_nameOfThree_53 : decode cX3_nameOfThree 53 = .ok (.getfield 9, 3) := by decide +kernel
theorem dX3_nameOfThree_56 : decode cX3_nameOfThree 56 = .ok (.getfield 28, 3) := by decide +kernel
theorem dX3_nameOfThree_59 : decode cX3_nameOfThree 59 = .ok (.iload 7, 2) := by decide +kernel
theorem dX3_nameOfThree_61 : decode cX3_nameOfThree 61 = .ok (.laload, 1) := by decide +kernel
theorem dX3_nameOfThree_62 : decode cX3_nameOfThree 62 = .ok (.land, 1) := by decide +kernel
theorem dX3_nameOfThree_63 : decode cX3_nameOfThree 63 = .ok (.lload_n 1, 1) := by decide +kernel
theorem dX3_nameOfThree_64 : decode cX3_nameOfThree 64 = .ok (.invokevirtual 43, 3) := by decide +kernel
theorem dX3_nameOfThree_67 : decode cX3_nameOfThree 67 = .ok (.ifCond .eq 17, 3) := by decide +kernel
theorem dX3_nameOfThree_70 : decode cX3_nameOfThree 70 = .ok (.iconst 1, 1) := by decide +kernel
theorem dX3_nameOfThree_71 : decode cX3_nameOfThree 71 = .ok (.iload_n 3, 1) := by decide +kernel
theorem dX3_nameOfThree_72 : decode cX3_nameOfThree 72 = .ok (.ishl, 1) := by decide +kernel
theorem dX3_nameOfThree_73 : decode cX3_nameOfThree 73 = .ok (.iconst 1, 1) := by decide +kernel
theorem dX3_nameOfThree_74 : decode cX3_nameOfThree 74 = .ok (.iload 4, 2) := by decide +kernel
theorem dX3_nameOfThree_76 : decode cX3_nameOfThree 76 = .ok (.ishl, 1) := by decide +kernel
theorem dX3_nameOfThree_77 : decode cX3_nameOfThree 77 = .ok (.ior, 1) := by decide +kernel
theorem dX3_nameOfThree_78 : decode cX3_nameOfThree 78 = .ok (.iconst 1, 1) := by decide +kernel
theorem dX3_nameOfThree_79 : decode cX3_nameOfThree 79 = .ok (.iload 7, 2) := by decide +kernel
theorem dX3_nameOfThree_81 : decode cX3_nameOfThree 81 = .ok (.ishl, 1) := by decide +kernel
theorem dX3_nameOfThree_82 : decode cX3_nameOfThree 82 = .ok (.ior, 1) := by decide +kernel
theorem dX3_nameOfThree_83 : decode cX3_nameOfThree 83 = .ok (.ireturn, 1) := by decide +kernel
theorem dX3_nameOfThree_84 : decode cX3_nameOfThree 84 = .ok (.iinc 7 1, 3) := by decide +kernel
theorem dX3_nameOfThree_87 : decode cX3_nameOfThree 87 = .ok (.goto (-45), 3) := by decide +kernel
theorem dX3_nameOfThree_90 : decode cX3_nameOfThree 90 = .ok (.iinc 4 1, 3) := by decide +kernel
theorem dX3_nameOfThree_93 : decode cX3_nameOfThree 93 = .ok (.goto (-82), 3) := by decide +kernel
theorem dX3_nameOfThree_96 : decode cX3_nameOfThree 96 = .ok (.iinc 3 1, 3) := by decide +kernel
theorem dX3_nameOfThree_99 : decode cX3_nameOfThree 99 = .ok (.goto (-97), 3) := by decide +kernel
theorem dX3_nameOfThree_102 : decode cX3_nameOfThree 102 = .ok (.iconst 0, 1) := by decide +kernel
theorem dX3_nameOfThree_103 : decode cX3_nameOfThree 103 = .ok (.ireturn, 1) := by decide +kernel
theorem dX3_marksOut_0 : decode cX3_marksOut 0 = .ok (.lload_n 1, 1) := by decide +kernel
theorem dX3_marksOut_1 : decode cX3_marksOut 1 = .ok (.lload_n 3, 1) := by decide +kernel
theorem dX3_marksOut_2 : decode cX3_marksOut 2 = .ok (.land, 1) := by decide +kernel
theorem dX3_marksOut_3 : decode cX3_marksOut 3 = .ok (.invokestatic 22, 3) := by decide +kernel
theorem dX3_marksOut_6 : decode cX3_marksOut 6 = .ok (.istore 5, 2) := by decide +kernel
theorem dX3_marksOut_8 : decode cX3_marksOut 8 = .ok (.lload_n 1, 1) := by decide +kernel
theorem dX3_marksOut_9 : decode cX3_marksOut 9 = .ok (.lload_n 3, 1) := by decide +kernel
theorem dX3_marksOut_10 : decode cX3_marksOut 10 = .ok (.ldc2_w 47, 3) := by decide +kernel
theorem dX3_marksOut_13 : decode cX3_marksOut 13 = .ok (.lxor, 1) := by decide +kernel
theorem dX3_marksOut_14 : decode cX3_marksOut 14 = .ok (.land, 1) := by decide +kernel
theorem dX3_marksOut_15 : decode cX3_marksOut 15 = .ok (.invokestatic 22, 3) := by decide +kernel
theorem dX3_marksOut_18 : decode cX3_marksOut 18 = .ok (.istore 6, 2) := by decide +kernel
theorem dX3_marksOut_20 : decode cX3_marksOut 20 = .ok (.iload 5, 2) := by decide +kernel
theorem dX3_marksOut_22 : decode cX3_marksOut 22 = .ok (.bipush 100, 2) := by decide +kernel
theorem dX3_marksOut_24 : decode cX3_marksOut 24 = .ok (.imul, 1) := by decide +kernel
theorem dX3_marksOut_25 : decode cX3_marksOut 25 = .ok (.aload_n 0, 1) := by decide +kernel
theorem dX3_marksOut_26 : decode cX3_marksOut 26 = .ok (.getfield 15, 3) := by decide +kernel
theorem dX3_marksOut_29 : decode cX3_marksOut 29 = .ok (.lload_n 3, 1) := by decide +kernel
theorem dX3_marksOut_30 : decode cX3_marksOut 30 = .ok (.invokestatic 22, 3) := by decide +kernel
theorem dX3_marksOut_33 : decode cX3_marksOut 33 = .ok (.imul, 1) := by decide +kernel
theorem dX3_marksOut_34 : decode cX3_marksOut 34 = .ok (.if_icmp .lt 16, 3) := by decide +kernel
theorem dX3_marksOut_37 : decode cX3_marksOut 37 = .ok (.iload 6, 2) := by decide +kernel
theorem dX3_marksOut_39 : decode cX3_marksOut 39 = .ok (.aload_n 0, 1) := by decide +kernel
theorem dX3_marksOut_40 : decode cX3_marksOut 40 = .ok (.getfield 19, 3) := by decide +kernel
theorem dX3_marksOut_43 : decode cX3_marksOut 43 = .ok (.if_icmp .gt 7, 3) := by decide +kernel
theorem dX3_marksOut_46 : decode cX3_marksOut 46 = .ok (.iconst 1, 1) := by decide +kernel
theorem dX3_marksOut_47 : decode cX3_marksOut 47 = .ok (.goto 4, 3) := by decide +kernel
theorem dX3_marksOut_50 : decode cX3_marksOut 50 = .ok (.iconst 0, 1) := by decide +kernel
theorem dX3_marksOut_51 : decode cX3_marksOut 51 = .ok (.ireturn, 1) := by decide +kernel
theorem dX4_init_0 : decode cX4_init 0 = .ok (.aload_n 0, 1) := by decide +kernel
theorem dX4_init_1 : decode cX4_init 1 = .ok (.invokespecial 3, 3) := by decide +kernel
theorem dX4_init_4 : decode cX4_init 4 = .ok (.aload_n 0, 1) := by decide +kernel
theorem dX4_init_5 : decode cX4_init 5 = .ok (.aload_n 1, 1) := by decide +kernel
theorem dX4_init_6 : decode cX4_init 6 = .ok (.putfield 9, 3) := by decide +kernel
theorem dX4_init_9 : decode cX4_init 9 = .ok (.aload_n 0, 1) := by decide +kernel
theorem dX4_init_10 : decode cX4_init 10 = .ok (.aload_n 2, 1) := by decide +kernel
theorem dX4_init_11 : decode cX4_init 11 = .ok (.putfield 15, 3) := by decide +kernel
theorem dX4_init_14 : decode cX4_init 14 = .ok (.aload_n 0, 1) := by decide +kernel
theorem dX4_init_15 : decode cX4_init 15 = .ok (.bipush 7, 2) := by decide +kernel
theorem dX4_init_17 : decode cX4_init 17 = .ok (.newarray .long, 2) := by decide +kernel
theorem dX4_init_19 : decode cX4_init 19 = .ok (.putfield 19, 3) := by decide +kernel
theorem dX4_init_22 : decode cX4_init 22 = .ok (.return_, 1) := by decide +kernel
theorem dX4_leastCost_0 : decode cX4_leastCost 0 = .ok (.aload_n 0, 1) := by decide +kernel
theorem dX4_leastCost_1 : decode cX4_leastCost 1 = .ok (.iload_n 1, 1) := by decide +kernel
theorem dX4_leastCost_2 : decode cX4_leastCost 2 = .ok (.putfield 23, 3) := by decide +kernel
theorem dX4_leastCost_5 : decode cX4_leastCost 5 = .ok (.aload_n 0, 1) := by decide +kernel
theorem dX4_leastCost_6 : decode cX4_leastCost 6 = .ok (.ldc 27, 2) := by decide +kernel
theorem dX4_leastCost_8 : decode cX4_leastCost 8 = .ok (.putfield 28, 3) := by decide +kernel
theorem dX4_leastCost_11 : decode cX4_leastCost 11 = .ok (.aload_n 0, 1) := by decide +kernel
theorem dX4_leastCost_12 : decode cX4_leastCost 12 = .ok (.iconst 0, 1) := by decide +kernel
theorem dX4_leastCost_13 : decode cX4_leastCost 13 = .ok (.iconst 0, 1) := by decide +kernel
theorem dX4_leastCost_14 : decode cX4_leastCost 14 = .ok (.iconst 0, 1) := by decide +kernel
theorem dX4_leastCost_15 : decode cX4_leastCost 15 = .ok (.invokevirtual 31, 3) := by decide +kernel
theorem dX4_leastCost_18 : decode cX4_leastCost 18 = .ok (.aload_n 0, 1) := by decide +kernel
theorem dX4_leastCost_19 : decode cX4_leastCost 19 = .ok (.getfield 28, 3) := by decide +kernel
theorem dX4_leastCost_22 : decode cX4_leastCost 22 = .ok (.ldc 27, 2) := by decide +kernel
theorem dX4_leastCost_24 : decode cX4_leastCost 24 = .ok (.if_icmp .ne 7, 3) := by decide +kernel
theorem dX4_leastCost_27 : decode cX4_leastCost 27 = .ok (.iconst (-1), 1) := by decide +kernel
theorem dX4_leastCost_28 : decode cX4_leastCost 28 = .ok (.goto 7, 3) := by decide +kernel
theorem dX4_leastCost_31 : decode cX4_leastCost 31 = .ok (.aload_n 0, 1) := by decide +kernel
theorem dX4_leastCost_32 : decode cX4_leastCost 32 = .ok (.getfield 28, 3) := by decide +kernel
theorem dX4_leastCost_35 : decode cX4_leastCost 35 = .ok (.ireturn, 1) := by decide +kernel
theorem dX4_layRest_0 : decode cX4_layRest 0 = .ok (.iload_n 3, 1) := by decide +kernel
theorem dX4_layRest_1 : decode cX4_layRest 1 = .ok (.aload_n 0, 1) := by decide +kernel
theorem dX4_layRest_2 : decode cX4_layRest 2 = .ok (.getfield 28, 3) := by decide +kernel
theorem dX4_layRest_5 : decode cX4_layRest 5 = .ok (.if_icmp .lt 4, 3) := by decide +kernel
theorem dX4_layRest_8 : decode cX4_layRest 8 = .ok (.return_, 1) := by decide +kernel
theorem dX4_layRest_9 : decode cX4_layRest 9 = .ok (.iload_n 1, 1) := by decide +kernel
theorem dX4_layRest_10 : decode cX4_layRest 10 = .ok (.aload_n 0, 1) := by decide +kernel
theorem dX4_layRest_11 : decode cX4_layRest 11 = .ok (.getfield 9, 3) := by decide +kernel
theorem dX4_layRest_14 : decode cX4_layRest 14 = .ok (.getfield 35, 3) := by decide +kernel
theorem dX4_layRest_17 : decode cX4_layRest 17 = .ok (.if_icmp .ge 9, 3) := by decide +kernel
theorem dX4_layRest_20 : decode cX4_layRest 20 = .ok (.iload_n 1, 1) := by decide +kernel
theorem dX4_layRest_21 : decode cX4_layRest 21 = .ok (.bipush 7, 2) := by decide +kernel
theorem dX4_layRest_23 : decode cX4_layRest 23 = .ok (.if_icmp .lt 9, 3) := by decide +kernel
theorem dX4_layRest_26 : decode cX4_layRest 26 = .ok (.aload_n 0, 1) := by decide +kernel
theorem dX4_layRest_27 : decode cX4_layRest 27 = .ok (.iload_n 3, 1) := by decide +kernel
theorem dX4_layRest_28 : decode cX4_layRest 28 = .ok (.putfield 28, 3) := by decide +kernel
theorem dX4_layRest_31 : decode cX4_layRest 31 = .ok (.return_, 1) := by decide +kernel
theorem dX4_layRest_32 : decode cX4_layRest 32 = .ok (.iload_n 1, 1) := by decide +kernel
theorem dX4_layRest_33 : decode cX4_layRest 33 = .ok (.invokestatic 40, 3) := by decide +kernel
theorem dX4_layRest_36 : decode cX4_layRest 36 = .ok (.lconst 1, 1) := by decide +kernel
theorem dX4_layRest_37 : decode cX4_layRest 37 = .ok (.lsub, 1) := by decide +kernel
theorem dX4_layRest_38 : decode cX4_layRest 38 = .ok (.lstore 4, 2) := by decide +kernel
theorem dX4_layRest_40 : decode cX4_layRest 40 = .ok (.iconst 0, 1) := by decide +kernel
theorem dX4_layRest_41 : decode cX4_layRest 41 = .ok (.istore 6, 2) := by decide +kernel
theorem dX4_layRest_43 : decode cX4_layRest 43 = .ok (.iload 6, 2) := by decide +kernel
theorem dX4_layRest_45 : decode cX4_layRest 45 = .ok (.iload_n 2, 1) := by decide +kernel
theorem dX4_layRest_46 : decode cX4_layRest 46 = .ok (.if_icmp .gt 117, 3) := by decide +kernel
theorem dX4_layRest_49 : decode cX4_layRest 49 = .ok (.iload 6, 2) := by decide +kernel
theorem dX4_layRest_51 : decode cX4_layRest 51 = .ok (.bipush 7, 2) := by decide +kernel
theorem dX4_layRest_53 : decode cX4_layRest 53 = .ok (.if_icmp .ge 110, 3) := by decide +kernel
theorem dX4_layRest_56 : decode cX4_layRest 56 = .ok (.iload 6, 2) := by decide +kernel
theorem dX4_layRest_58 : decode cX4_layRest 58 = .ok (.iload_n 2, 1) := by decide +kernel
theorem dX4_layRest_59 : decode cX4_layRest 59 = .ok (.if_icmp .ge 13, 3) := by decide +kernel
theorem dX4_layRest_62 : decode cX4_layRest 62 = .ok (.aload_n 0, 1) := by decide +kernel
theorem dX4_layRest_63 : decode cX4_layRest 63 = .ok (.getfield 19, 3) := by decide +kernel
theorem dX4_layRest_66 : decode cX4_layRest 66 = .ok (.iload 6, 2) := by decide +kernel
theorem dX4_layRest_68 : decode cX4_layRest 68 = .ok (.laload, 1) := by decide +kernel
theorem dX4_layRest_69 : decode cX4_layRest 69 = .ok (.goto 4, 3) := by decide +kernel
theorem dX4_layRest_72 : decode cX4_layRest 72 = .ok (.lconst 0, 1) := by decide +kernel
theorem dX4_layRest_73 : decode cX4_layRest 73 = .ok (.lstore 7, 2) := by decide +kernel
theorem dX4_layRest_75 : decode cX4_layRest 75 = .ok (.aload_n 0, 1) := by decide +kernel
theorem dX4_layRest_76 : decode cX4_layRest 76 = .ok (.getfield 15, 3) := by decide +kernel
theorem dX4_layRest_79 : decode cX4_layRest 79 = .ok (.iload_n 1, 1) := by decide +kernel
theorem dX4_layRest_80 : decode cX4_layRest 80 = .ok (.lload 7, 2) := by decide +kernel
theorem dX4_layRest_82 : decode cX4_layRest 82 = .ok (.lload 4, 2) := by decide +kernel
theorem dX4_layRest_84 : decode cX4_layRest 84 = .ok (.invokevirtual 44, 3) := by decide +kernel
theorem dX4_layRest_87 : decode cX4_layRest 87 = .ok (.ifCond .ne 70, 3) := by decide +kernel
theorem dX4_layRest_90 : decode cX4_layRest 90 = .ok (.iload 6, 2) := by decide +kernel
theorem dX4_layRest_92 : decode cX4_layRest 92 = .ok (.iload_n 2, 1) := by decide +kernel
theorem dX4_layRest_93 : decode cX4_layRest 93 = .ok (.if_icmp .ge 16, 3) := by decide +kernel
theorem dX4_layRest_96 : decode cX4_layRest 96 = .ok (.aload_n 0, 1) := by decide +kernel
theorem dX4_layRest_97 : decode cX4_layRest 97 = .ok (.getfield 9, 3) := by decide +kernel
theorem dX4_layRest_100 : decode cX4_layRest 100 = .ok (.iload_n 1, 1) := by decide +kernel
theorem dX4_layRest_101 : decode cX4_layRest 101 = .ok (.lload 7, 2) := by decide +kernel
theorem dX4_layRest_103 : decode cX4_layRest 103 = .ok (.invokevirtual 50, 3) := by decide +kernel
theorem dX4_layRest_106 : decode cX4_layRest 106 = .ok (.goto 7, 3) := by decide +kernel
theorem dX4_layRest_109 : decode cX4_layRest 109 = .ok (.aload_n 0, 1) := by decide +kernel
theorem dX4_layRest_110 : decode cX4_layRest 110 = .ok (.getfield 23, 3) := by decide +kernel
theorem dX4_layRest_113 : decode cX4_layRest 113 = .ok (.istore 9, 2) := by decide +kernel
theorem dX4_layRest_115 : decode cX4_layRest 115 = .ok (.aload_n 0, 1) := by decide +kernel
theorem dX4_layRest_116 : decode cX4_layRest 116 = .ok (.getfield 19, 3) := by decide +kernel
theorem dX4_layRest_119 : decode cX4_layRest 119 = .ok (.iload 6, 2) := by decide +kernel
theorem dX4_layRest_121 : decode cX4_layRest 121 = .ok (.lload 7, 2) := by decide +kernel
theorem dX4_layRest_123 : decode cX4_layRest 123 = .ok (.iload_n 1, 1) := by decide +kernel
theorem dX4_layRest_124 : decode cX4_layRest 124 = .ok (.invokestatic 40, 3) := by decide +kernel
theorem dX4_layRest_127 : decode cX4_layRest 127 = .ok (.lor, 1) := by decide +kernel
theorem dX4_layRest_128 : decode cX4_layRest 128 = .ok (.lastore, 1) := by decide +kernel
theorem dX4_layRest_129 : decode cX4_layRest 129 = .ok (.aload_n 0, 1) := by decide +kernel
theorem dX4_layRest_130 : decode cX4_layRest 130 = .ok (.iload_n 1, 1) := by decide +kernel
theorem dX4_layRest_131 : decode cX4_layRest 131 = .ok (.iconst 1, 1) := by decide +kernel
theorem dX4_layRest_132 : decode cX4_layRest 132 = .ok (.iadd, 1) := by decide +kernel
theorem dX4_layRest_133 : decode cX4_layRest 133 = .ok (.iload_n 2, 1) := by decide +kernel
theorem dX4_layRest_134 : decode cX4_layRest 134 = .ok (.iload 6, 2) := by decide +kernel
theorem dX4_layRest_136 : decode cX4_layRest 136 = .ok (.iconst 1, 1) := by decide +kernel
theorem dX4_layRest_137 : decode cX4_layRest 137 = .ok (.iadd, 1) := by decide +kernel
theorem dX4_layRest_138 : decode cX4_layRest 138 = .ok (.invokestatic 54, 3) := by decide +kernel
theorem dX4_layRest_141 : decode cX4_layRest 141 = .ok (.iload_n 3, 1) := by decide +kernel
theorem dX4_layRest_142 : decode cX4_layRest 142 = .ok (.iload 9, 2) := by decide +kernel
theorem dX4_layRest_144 : decode cX4_layRest 144 = .ok (.iadd, 1) := by decide +kernel
theorem dX4_layRest_145 : decode cX4_layRest 145 = .ok (.invokevirtual 31, 3) := by decide +kernel
theorem dX4_layRest_148 : decode cX4_layRest 148 = .ok (.aload_n 0, 1) := by decide +kernel
theorem dX4_layRest_149 : decode cX4_layRest 149 = .ok (.getfield 19, 3) := by decide +kernel
theorem dX4_layRest_152 : decode cX4_layRest 152 = .ok (.iload 6, 2) := by decide +kernel
theorem dX4_layRest_154 : decode cX4_layRest 154 = .ok (.lload 7, 2) := by decide +kernel
theorem dX4_layRest_156 : decode cX4_layRest 156 = .ok (.lastore, 1) := by decide +kernel
theorem dX4_layRest_157 : decode cX4_layRest 157 = .ok (.iinc 6 1, 3) := by decide +kernel
theorem dX4_layRest_160 : decode cX4_layRest 160 = .ok (.goto (-117), 3) := by decide +kernel
theorem dX4_layRest_163 : decode cX4_layRest 163 = .ok (.return_, 1) := by decide +kernel
theorem dX5_init_0 : decode cX5_init 0 = .ok (.aload_n 0, 1) := by decide +kernel
theorem dX5_init_1 : decode cX5_init 1 = .ok (.invokespecial 3, 3) := by decide +kernel
theorem dX5_init_4 : decode cX5_init 4 = .ok (.aload_n 0, 1) := by decide +kernel
theorem dX5_init_5 : decode cX5_init 5 = .ok (.aload_n 1, 1) := by decide +kernel
theorem dX5_init_6 : decode cX5_init 6 = .ok (.putfield 9, 3) := by decide +kernel
theorem dX5_init_9 : decode cX5_init 9 = .ok (.aload_n 0, 1) := by decide +kernel
theorem dX5_init_10 : decode cX5_init 10 = .ok (.aload_n 2, 1) := by decide +kernel
theorem dX5_init_11 : decode cX5_init 11 = .ok (.putfield 15, 3) := by decide +kernel
theorem dX5_init_14 : decode cX5_init 14 = .ok (.aload_n 0, 1) := by decide +kernel
theorem dX5_init_15 : decode cX5_init 15 = .ok (.aload_n 3, 1) := by decide +kernel
theorem dX5_init_16 : decode cX5_init 16 = .ok (.putfield 19, 3) := by decide +kernel
theorem dX5_init_19 : decode cX5_init 19 = .ok (.return_, 1) := by decide +kernel
theorem dX5_makeSteps_0 : decode cX5_makeSteps 0 = .ok (.iconst 0, 1) := by decide +kernel
theorem dX5_makeSteps_1 : decode cX5_makeSteps 1 = .ok (.istore_n 2, 1) := by decide +kernel
theorem dX5_makeSteps_2 : decode cX5_makeSteps 2 = .ok (.iload_n 2, 1) := by decide +kernel
theorem dX5_makeSteps_3 : decode cX5_makeSteps 3 = .ok (.iload_n 1, 1) := by decide +kernel
theorem dX5_makeSteps_4 : decode cX5_makeSteps 4 = .ok (.if_icmp .ge 30, 3) := by decide +kernel
theorem dX5_makeSteps_7 : decode cX5_makeSteps 7 = .ok (.aload_n 0, 1) := by decide +kernel
theorem dX5_makeSteps_8 : decode cX5_makeSteps 8 = .ok (.invokevirtual 23, 3) := by decide +kernel
theorem dX5_makeSteps_11 : decode cX5_makeSteps 11 = .ok (.ifCond .ne 17, 3) := by decide +kernel
theorem dX5_makeSteps_14 : decode cX5_makeSteps 14 = .ok (.aload_n 0, 1) := by decide +kernel
theorem dX5_makeSteps_15 : decode cX5_makeSteps 15 = .ok (.invokevirtual 27, 3) := by decide +kernel
theorem dX5_makeSteps_18 : decode cX5_makeSteps 18 = .ok (.ifCond .ne 10, 3) := by decide +kernel
theorem dX5_makeSteps_21 : decode cX5_makeSteps 21 = .ok (.aload_n 0, 1) := by decide +kernel
theorem dX5_makeSteps_22 : decode cX5_makeSteps 22 = .ok (.invokevirtual 30, 3) := by decide +kernel
theorem dX5_makeSteps_25 : decode cX5_makeSteps 25 = .ok (.ifCond .eq 9, 3) := by decide +kernel
theorem dX5_makeSteps_28 : decode cX5_makeSteps 28 = .ok (.iinc 2 1, 3) := by decide +kernel
theorem dX5_makeSteps_31 : decode cX5_makeSteps 31 = .ok (.goto (-29), 3) := by decide +kernel
theorem dX5_makeSteps_34 : decode cX5_makeSteps 34 = .ok (.aload_n 0, 1) := by decide +kernel
theorem dX5_makeSteps_35 : decode cX5_makeSteps 35 = .ok (.dup, 1) := by decide +kernel
theorem dX5_makeSteps_36 : decode cX5_makeSteps 36 = .ok (.getfield 33, 3) := by decide +kernel
theorem dX5_makeSteps_39 : decode cX5_makeSteps 39 = .ok (.iload_n 2, 1) := by decide +kernel
theorem dX5_makeSteps_40 : decode cX5_makeSteps 40 = .ok (.iadd, 1) := by decide +kernel
theorem dX5_makeSteps_41 : decode cX5_makeSteps 41 = .ok (.putfield 33, 3) := by decide +kernel
theorem dX5_makeSteps_44 : decode cX5_makeSteps 44 = .ok (.iload_n 2, 1) := by decide +kernel
theorem dX5_makeSteps_45 : decode cX5_makeSteps 45 = .ok (.ireturn, 1) := by decide +kernel
theorem dX5_layFirst_0 : decode cX5_layFirst 0 = .ok (.iconst 0, 1) := by decide +kernel
theorem dX5_layFirst_1 : decode cX5_layFirst 1 = .ok (.istore_n 1, 1) := by decide +kernel
theorem dX5_layFirst_2 : decode cX5_layFirst 2 = .ok (.iload_n 1, 1) := by decide +kernel
theorem dX5_layFirst_3 : decode cX5_layFirst 3 = .ok (.aload_n 0, 1) := by decide +kernel
theorem dX5_layFirst_4 : decode cX5_layFirst 4 = .ok (.getfield 9, 3) := by decide +kernel
theorem dX5_layFirst_7 : decode cX5_layFirst 7 = .ok (.getfield 37, 3) := by decide +kernel
theorem dX5_layFirst_10 : decode cX5_layFirst 10 = .ok (.if_icmp .ge 30, 3) := by decide +kernel
theorem dX5_layFirst_13 : decode cX5_layFirst 13 = .ok (.aload_n 0, 1) := by decide +kernel
theorem dX5_layFirst_14 : decode cX5_layFirst 14 = .ok (.getfield 19, 3) := by decide +kernel
theorem dX5_layFirst_17 : decode cX5_layFirst 17 = .ok (.iload_n 1, 1) := by decide +kernel
theorem dX5_layFirst_18 : decode cX5_layFirst 18 = .ok (.invokevirtual 42, 3) := by decide +kernel
theorem dX5_layFirst_21 : decode cX5_layFirst 21 = .ok (.ifCond .eq 13, 3) := by decide +kernel
theorem dX5_layFirst_24 : decode cX5_layFirst 24 = .ok (.aload_n 0, 1) := by decide +kernel
theorem dX5_layFirst_25 : decode cX5_layFirst 25 = .ok (.iload_n 1, 1) := by decide +kernel
theorem dX5_layFirst_26 : decode cX5_layFirst 26 = .ok (.invokevirtual 48, 3) := by decide +kernel
theorem dX5_layFirst_29 : decode cX5_layFirst 29 = .ok (.ifCond .eq 5, 3) := by decide +kernel
theorem dX5_layFirst_32 : decode cX5_layFirst 32 = .ok (.iconst 1, 1) := by decide +kernel
theorem dX5_layFirst_33 : decode cX5_layFirst 33 = .ok (.ireturn, 1) := by decide +kernel
theorem dX5_layFirst_34 : decode cX5_layFirst 34 = .ok (.iinc 1 1, 3) := by decide +kernel
theorem dX5_layFirst_37 : decode cX5_layFirst 37 = .ok (.goto (-35), 3) := by decide +kernel
theorem dX5_layFirst_40 : decode cX5_layFirst 40 = .ok (.iconst 0, 1) := by decide +kernel
theorem dX5_layFirst_41 : decode cX5_layFirst 41 = .ok (.ireturn, 1) := by decide +kernel
theorem dX5_layOpen_0 : decode cX5_layOpen 0 = .ok (.aload_n 0, 1) := by decide +kernel
theorem dX5_layOpen_1 : decode cX5_layOpen 1 = .ok (.getfield 19, 3) := by decide +kernel
theorem dX5_layOpen_4 : decode cX5_layOpen 4 = .ok (.invokevirtual 51, 3) := by decide +kernel
theorem dX5_layOpen_7 : decode cX5_layOpen 7 = .ok (.lstore_n 2, 1) := by decide +kernel
theorem dX5_layOpen_8 : decode cX5_layOpen 8 = .ok (.aload_n 0, 1) := by decide +kernel
theorem dX5_layOpen_9 : decode cX5_layOpen 9 = .ok (.getfield 19, 3) := by decide +kernel
theorem dX5_layOpen_12 : decode cX5_layOpen 12 = .ok (.iload_n 1, 1) := by decide +kernel
theorem dX5_layOpen_13 : decode cX5_layOpen 13 = .ok (.invokestatic 55, 3) := by decide +kernel
theorem dX5_layOpen_16 : decode cX5_layOpen 16 = .ok (.invokevirtual 59, 3) := by decide +kernel
theorem dX5_layOpen_19 : decode cX5_layOpen 19 = .ok (.iconst (-1), 1) := by decide +kernel
theorem dX5_layOpen_20 : decode cX5_layOpen 20 = .ok (.istore 4, 2) := by decide +kernel
theorem dX5_layOpen_22 : decode cX5_layOpen 22 = .ok (.ldc 63, 2) := by decide +kernel
theorem dX5_layOpen_24 : decode cX5_layOpen 24 = .ok (.istore 5, 2) := by decide +kernel
theorem dX5_layOpen_26 : decode cX5_layOpen 26 = .ok (.iconst 0, 1) := by decide +kernel
theorem dX5_layOpen_27 : decode cX5_layOpen 27 = .ok (.istore 6, 2) := by decide +kernel
theorem dX5_layOpen_29 : decode cX5_layOpen 29 = .ok (.iload 6, 2) := by decide +kernel
theorem dX5_layOpen_31 : decode cX5_layOpen 31 = .ok (.aload_n 0, 1) := by decide +kernel
theorem dX5_layOpen_32 : decode cX5_layOpen 32 = .ok (.getfield 9, 3) := by decide +kernel
theorem dX5_layOpen_35 : decode cX5_layOpen 35 = .ok (.getfield 37, 3) := by decide +kernel
theorem dX5_layOpen_38 : decode cX5_layOpen 38 = .ok (.if_icmp .ge 74, 3) := by decide +kernel
theorem dX5_layOpen_41 : decode cX5_layOpen 41 = .ok (.aload_n 0, 1) := by decide +kernel
theorem dX5_layOpen_42 : decode cX5_layOpen 42 = .ok (.getfield 19, 3) := by decide +kernel
theorem dX5_layOpen_45 : decode cX5_layOpen 45 = .ok (.iload 6, 2) := by decide +kernel
theorem dX5_layOpen_47 : decode cX5_layOpen 47 = .ok (.invokevirtual 64, 3) := by decide +kernel
theorem dX5_layOpen_50 : decode cX5_layOpen 50 = .ok (.ifCond .eq 56, 3) := by decide +kernel
theorem dX5_layOpen_53 : decode cX5_layOpen 53 = .ok (.aload_n 0, 1) := by decide +kernel
theorem dX5_layOpen_54 : decode cX5_layOpen 54 = .ok (.getfield 19, 3) := by decide +kernel
theorem dX5_layOpen_57 : decode cX5_layOpen 57 = .ok (.getfield 67, 3) := by decide +kernel
theorem dX5_layOpen_60 : decode cX5_layOpen 60 = .ok (.iload 6, 2) := by decide +kernel
theorem dX5_layOpen_62 : decode cX5_layOpen 62 = .ok (.iaload, 1) := by decide +kernel
theorem dX5_layOpen_63 : decode cX5_layOpen 63 = .ok (.iload 5, 2) := by decide +kernel
theorem dX5_layOpen_65 : decode cX5_layOpen 65 = .ok (.if_icmp .ge 41, 3) := by decide +kernel
theorem dX5_layOpen_68 : decode cX5_layOpen 68 = .ok (.aload_n 0, 1) := by decide +kernel
theorem dX5_layOpen_69 : decode cX5_layOpen 69 = .ok (.getfield 15, 3) := by decide +kernel
theorem dX5_layOpen_72 : decode cX5_layOpen 72 = .ok (.iload_n 1, 1) := by decide +kernel
theorem dX5_layOpen_73 : decode cX5_layOpen 73 = .ok (.aload_n 0, 1) := by decide +kernel
theorem dX5_layOpen_74 : decode cX5_layOpen 74 = .ok (.getfield 19, 3) := by decide +kernel
theorem dX5_layOpen_77 : decode cX5_layOpen 77 = .ok (.getfield 71, 3) := by decide +kernel
theorem dX5_layOpen_80 : decode cX5_layOpen 80 = .ok (.iload 6, 2) := by decide +kernel
theorem dX5_layOpen_82 : decode cX5_layOpen 82 = .ok (.laload, 1) := by decide +kernel
theorem dX5_layOpen_83 : decode cX5_layOpen 83 = .ok (.lload_n 2, 1) := by decide +kernel
theorem dX5_layOpen_84 : decode cX5_layOpen 84 = .ok (.invokevirtual 75, 3) := by decide +kernel
theorem dX5_layOpen_87 : decode cX5_layOpen 87 = .ok (.ifCond .ne 19, 3) := by decide +kernel
theorem dX5_layOpen_90 : decode cX5_layOpen 90 = .ok (.iload 6, 2) := by decide +kernel
theorem dX5_layOpen_92 : decode cX5_layOpen 92 = .ok (.istore 4, 2) := by decide +kernel
theorem dX5_layOpen_94 : decode cX5_layOpen 94 = .ok (.aload_n 0, 1) := by decide +kernel
theorem dX5_layOpen_95 : decode cX5_layOpen 95 = .ok (.getfield 19, 3) := by decide +kernel
theorem dX5_layOpen_98 : decode cX5_layOpen 98 = .ok (.getfield 67, 3) := by decide +kernel
theorem dX5_layOpen_101 : decode cX5_layOpen 101 = .ok (.iload 6, 2) := by decide +kernel
theorem dX5_layOpen_103 : decode cX5_layOpen 103 = .ok (.iaload, 1) := by decide +kernel
theorem dX5_layOpen_104 : decode cX5_layOpen 104 = .ok (.istore 5, 2) := by decide +kernel
theorem dX5_layOpen_106 : decode cX5_layOpen 106 = .ok (.iinc 6 1, 3) := by decide +kernel
theorem dX5_layOpen_109 : decode cX5_layOpen 109 = .ok (.goto (-80), 3) := by decide +kernel
theorem dX5_layOpen_112 : decode cX5_layOpen 112 = .ok (.aload_n 0, 1) := by decide +kernel
theorem dX5_layOpen_113 : decode cX5_layOpen 113 = .ok (.getfield 19, 3) := by decide +kernel
theorem dX5_layOpen_116 : decode cX5_layOpen 116 = .ok (.getfield 81, 3) := by decide +kernel
theorem dX5_layOpen_119 : decode cX5_layOpen 119 = .ok (.iload 5, 2) := by decide +kernel
theorem dX5_layOpen_121 : decode cX5_layOpen 121 = .ok (.if_icmp .ge 26, 3) := by decide +kernel
theorem dX5_layOpen_124 : decode cX5_layOpen 124 = .ok (.aload_n 0, 1) := by decide +kernel
theorem dX5_layOpen_125 : decode cX5_layOpen 125 = .ok (.getfield 15, 3) := by decide +kernel
theorem dX5_layOpen_128 : decode cX5_layOpen 128 = .ok (.iload_n 1, 1) := by decide +kernel
theorem dX5_layOpen_129 : decode cX5_layOpen 129 = .ok (.lconst 0, 1) := by decide +kernel
theorem dX5_layOpen_130 : decode cX5_layOpen 130 = .ok (.lload_n 2, 1) := by decide +kernel
theorem dX5_layOpen_131 : decode cX5_layOpen 131 = .ok (.invokevirtual 75, 3) := by decide +kernel
theorem dX5_layOpen_134 : decode cX5_layOpen 134 = .ok (.ifCond .ne 13, 3) := by decide +kernel
theorem dX5_layOpen_137 : decode cX5_layOpen 137 = .ok (.aload_n 0, 1) := by decide +kernel
theorem dX5_layOpen_138 : decode cX5_layOpen 138 = .ok (.getfield 19, 3) := by decide +kernel
theorem dX5_layOpen_141 : decode cX5_layOpen 141 = .ok (.iload_n 1, 1) := by decide +kernel
theorem dX5_layOpen_142 : decode cX5_layOpen 142 = .ok (.invokevirtual 84, 3) := by decide +kernel
theorem dX5_layOpen_145 : decode cX5_layOpen 145 = .ok (.iconst 1, 1) := by decide +kernel
theorem dX5_layOpen_146 : decode cX5_layOpen 146 = .ok (.ireturn, 1) := by decide +kernel
theorem dX5_layOpen_147 : decode cX5_layOpen 147 = .ok (.iload 4, 2) := by decide +kernel
theorem dX5_layOpen_149 : decode cX5_layOpen 149 = .ok (.iconst (-1), 1) := by decide +kernel
theorem dX5_layOpen_150 : decode cX5_layOpen 150 = .ok (.if_icmp .ne 5, 3) := by decide +kernel
theorem dX5_layOpen_153 : decode cX5_layOpen 153 = .ok (.iconst 0, 1) := by decide +kernel
theorem dX5_layOpen_154 : decode cX5_layOpen 154 = .ok (.ireturn, 1) := by decide +kernel
theorem dX5_layOpen_155 : decode cX5_layOpen 155 = .ok (.aload_n 0, 1) := by decide +kernel
theorem dX5_layOpen_156 : decode cX5_layOpen 156 = .ok (.getfield 19, 3) := by decide +kernel
theorem dX5_layOpen_159 : decode cX5_layOpen 159 = .ok (.iload_n 1, 1) := by decide +kernel
theorem dX5_layOpen_160 : decode cX5_layOpen 160 = .ok (.iload 4, 2) := by decide +kernel
theorem dX5_layOpen_162 : decode cX5_layOpen 162 = .ok (.invokevirtual 88, 3) := by decide +kernel
theorem dX5_layOpen_165 : decode cX5_layOpen 165 = .ok (.iconst 1, 1) := by decide +kernel
theorem dX5_layOpen_166 : decode cX5_layOpen 166 = .ok (.ireturn, 1) := by decide +kernel
theorem dX5_moveFirst_0 : decode cX5_moveFirst 0 = .ok (.iconst 0, 1) := by decide +kernel
theorem dX5_moveFirst_1 : decode cX5_moveFirst 1 = .ok (.istore_n 1, 1) := by decide +kernel
theorem dX5_moveFirst_2 : decode cX5_moveFirst 2 = .ok (.iload_n 1, 1) := by decide +kernel
theorem dX5_moveFirst_3 : decode cX5_moveFirst 3 = .ok (.aload_n 0, 1) := by decide +kernel
theorem dX5_moveFirst_4 : decode cX5_moveFirst 4 = .ok (.getfield 9, 3) := by decide +kernel
theorem dX5_moveFirst_7 : decode cX5_moveFirst 7 = .ok (.getfield 37, 3) := by decide +kernel
theorem dX5_moveFirst_10 : decode cX5_moveFirst 10 = .ok (.if_icmp .ge 30, 3) := by decide +kernel
theorem dX5_moveFirst_13 : decode cX5_moveFirst 13 = .ok (.aload_n 0, 1) := by decide +kernel
theorem dX5_moveFirst_14 : decode cX5_moveFirst 14 = .ok (.getfield 19, 3) := by decide +kernel
theorem dX5_moveFirst_17 : decode cX5_moveFirst 17 = .ok (.iload_n 1, 1) := by decide +kernel
theorem dX5_moveFirst_18 : decode cX5_moveFirst 18 = .ok (.invokevirtual 42, 3) := by decide +kernel
theorem dX5_moveFirst_21 : decode cX5_moveFirst 21 = .ok (.ifCond .ne 13, 3) := by decide +kernel
theorem dX5_moveFirst_24 : decode cX5_moveFirst 24 = .ok (.aload_n 0, 1) := by decide +kernel
theorem dX5_moveFirst_25 : decode cX5_moveFirst 25 = .ok (.iload_n 1, 1) := by decide +kernel
theorem dX5_moveFirst_26 : decode cX5_moveFirst 26 = .ok (.invokevirtual 92, 3) := by decide +kernel
theorem dX5_moveFirst_29 : decode cX5_moveFirst 29 = .ok (.ifCond .eq 5, 3) := by decide +kernel
theorem dX5_moveFirst_32 : decode cX5_moveFirst 32 = .ok (.iconst 1, 1) := by decide +kernel
theorem dX5_moveFirst_33 : decode cX5_moveFirst 33 = .ok (.ireturn, 1) := by decide +kernel
theorem dX5_moveFirst_34 : decode cX5_moveFirst 34 = .ok (.iinc 1 1, 3) := by decide +kernel
theorem dX5_moveFirst_37 : decode cX5_moveFirst 37 = .ok (.goto (-35), 3) := by decide +kernel
theorem dX5_moveFirst_40 : decode cX5_moveFirst 40 = .ok (.iconst 0, 1) := by decide +kernel
theorem dX5_moveFirst_41 : decode cX5_moveFirst 41 = .ok (.ireturn, 1) := by decide +kernel
theorem dX5_moveUse_0 : decode cX5_moveUse 0 = .ok (.aload_n 0, 1) := by decide +kernel
theorem dX5_moveUse_1 : decode cX5_moveUse 1 = .ok (.getfield 19, 3) := by decide +kernel
theorem dX5_moveUse_4 : decode cX5_moveUse 4 = .ok (.getfield 95, 3) := by decide +kernel
theorem dX5_moveUse_7 : decode cX5_moveUse 7 = .ok (.iload_n 1, 1) := by decide +kernel
theorem dX5_moveUse_8 : decode cX5_moveUse 8 = .ok (.iaload, 1) := by decide +kernel
theorem dX5_moveUse_9 : decode cX5_moveUse 9 = .ok (.istore_n 2, 1) := by decide +kernel
theorem dX5_moveUse_10 : decode cX5_moveUse 10 = .ok (.aload_n 0, 1) := by decide +kernel
theorem dX5_moveUse_11 : decode cX5_moveUse 11 = .ok (.getfield 19, 3) := by decide +kernel
theorem dX5_moveUse_14 : decode cX5_moveUse 14 = .ok (.iload_n 1, 1) := by decide +kernel
theorem dX5_moveUse_15 : decode cX5_moveUse 15 = .ok (.invokevirtual 98, 3) := by decide +kernel
theorem dX5_moveUse_18 : decode cX5_moveUse 18 = .ok (.iload_n 1, 1) := by decide +kernel
theorem dX5_moveUse_19 : decode cX5_moveUse 19 = .ok (.invokestatic 55, 3) := by decide +kernel
theorem dX5_moveUse_22 : decode cX5_moveUse 22 = .ok (.ldc2_w 101, 3) := by decide +kernel
theorem dX5_moveUse_25 : decode cX5_moveUse 25 = .ok (.lxor, 1) := by decide +kernel
theorem dX5_moveUse_26 : decode cX5_moveUse 26 = .ok (.land, 1) := by decide +kernel
theorem dX5_moveUse_27 : decode cX5_moveUse 27 = .ok (.lstore_n 3, 1) := by decide +kernel
theorem dX5_moveUse_28 : decode cX5_moveUse 28 = .ok (.aload_n 0, 1) := by decide +kernel
theorem dX5_moveUse_29 : decode cX5_moveUse 29 = .ok (.getfield 19, 3) := by decide +kernel
theorem dX5_moveUse_32 : decode cX5_moveUse 32 = .ok (.invokevirtual 51, 3) := by decide +kernel
theorem dX5_moveUse_35 : decode cX5_moveUse 35 = .ok (.lstore 5, 2) := by decide +kernel
theorem dX5_moveUse_37 : decode cX5_moveUse 37 = .ok (.aload_n 0, 1) := by decide +kernel
theorem dX5_moveUse_38 : decode cX5_moveUse 38 = .ok (.getfield 19, 3) := by decide +kernel
theorem dX5_moveUse_41 : decode cX5_moveUse 41 = .ok (.iload_n 1, 1) := by decide +kernel
theorem dX5_moveUse_42 : decode cX5_moveUse 42 = .ok (.invokestatic 55, 3) := by decide +kernel
theorem dX5_moveUse_45 : decode cX5_moveUse 45 = .ok (.invokevirtual 59, 3) := by decide +kernel
theorem dX5_moveUse_48 : decode cX5_moveUse 48 = .ok (.aload_n 0, 1) := by decide +kernel
theorem dX5_moveUse_49 : decode cX5_moveUse 49 = .ok (.getfield 15, 3) := by decide +kernel
theorem dX5_moveUse_52 : decode cX5_moveUse 52 = .ok (.iload_n 1, 1) := by decide +kernel
theorem dX5_moveUse_53 : decode cX5_moveUse 53 = .ok (.lload_n 3, 1) := by decide +kernel
theorem dX5_moveUse_54 : decode cX5_moveUse 54 = .ok (.lload 5, 2) := by decide +kernel
theorem dX5_moveUse_56 : decode cX5_moveUse 56 = .ok (.invokevirtual 75, 3) := by decide +kernel
theorem dX5_moveUse_59 : decode cX5_moveUse 59 = .ok (.istore 7, 2) := by decide +kernel
theorem dX5_moveUse_61 : decode cX5_moveUse 61 = .ok (.lload_n 3, 1) := by decide +kernel
theorem dX5_moveUse_62 : decode cX5_moveUse 62 = .ok (.lconst 0, 1) := by decide +kernel
theorem dX5_moveUse_63 : decode cX5_moveUse 63 = .ok (.lcmp, 1) := by decide +kernel
theorem dX5_moveUse_64 : decode cX5_moveUse 64 = .ok (.ifCond .ne 13, 3) := by decide +kernel
theorem dX5_moveUse_67 : decode cX5_moveUse 67 = .ok (.aload_n 0, 1) := by decide +kernel
theorem dX5_moveUse_68 : decode cX5_moveUse 68 = .ok (.getfield 19, 3) := by decide +kernel
theorem dX5_moveUse_71 : decode cX5_moveUse 71 = .ok (.getfield 81, 3) := by decide +kernel
theorem dX5_moveUse_74 : decode cX5_moveUse 74 = .ok (.goto 12, 3) := by decide +kernel
theorem dX5_moveUse_77 : decode cX5_moveUse 77 = .ok (.aload_n 0, 1) := by decide +kernel
theorem dX5_moveUse_78 : decode cX5_moveUse 78 = .ok (.getfield 19, 3) := by decide +kernel
theorem dX5_moveUse_81 : decode cX5_moveUse 81 = .ok (.getfield 67, 3) := by decide +kernel
theorem dX5_moveUse_84 : decode cX5_moveUse 84 = .ok (.iload_n 2, 1) := by decide +kernel
theorem dX5_moveUse_85 : decode cX5_moveUse 85 = .ok (.iaload, 1) := by decide +kernel
theorem dX5_moveUse_86 : decode cX5_moveUse 86 = .ok (.istore 8, 2) := by decide +kernel
theorem dX5_moveUse_88 : decode cX5_moveUse 88 = .ok (.iconst 0, 1) := by decide +kernel
theorem dX5_moveUse_89 : decode cX5_moveUse 89 = .ok (.istore 9, 2) := by decide +kernel
theorem dX5_moveUse_91 : decode cX5_moveUse 91 = .ok (.iload 9, 2) := by decide +kernel
theorem dX5_moveUse_93 : decode cX5_moveUse 93 = .ok (.aload_n 0, 1) := by decide +kernel
theorem dX5_moveUse_94 : decode cX5_moveUse 94 = .ok (.getfield 9, 3) := by decide +kernel
theorem dX5_moveUse_97 : decode cX5_moveUse 97 = .ok (.getfield 37, 3) := by decide +kernel
theorem dX5_moveUse_100 : decode cX5_moveUse 100 = .ok (.if_icmp .ge 85, 3) := by decide +kernel
theorem dX5_moveUse_103 : decode cX5_moveUse 103 = .ok (.iload 9, 2) := by decide +kernel
theorem dX5_moveUse_105 : decode cX5_moveUse 105 = .ok (.iload_n 2, 1) := by decide +kernel
theorem dX5_moveUse_106 : decode cX5_moveUse 106 = .ok (.if_icmp .eq 73, 3) := by decide +kernel
theorem dX5_moveUse_109 : decode cX5_moveUse 109 = .ok (.aload_n 0, 1) := by decide +kernel
theorem dX5_moveUse_110 : decode cX5_moveUse 110 = .ok (.getfield 19, 3) := by decide +kernel
theorem dX5_moveUse_113 : decode cX5_moveUse 113 = .ok (.iload 9, 2) := by decide +kernel
theorem dX5_moveUse_115 : decode cX5_moveUse 115 = .ok (.invokevirtual 64, 3) := by decide +kernel
theorem dX5_moveUse_118 : decode cX5_moveUse 118 = .ok (.ifCond .eq 61, 3) := by decide +kernel
theorem dX5_moveUse_121 : decode cX5_moveUse 121 = .ok (.aload_n 0, 1) := by decide +kernel
theorem dX5_moveUse_122 : decode cX5_moveUse 122 = .ok (.getfield 15, 3) := by decide +kernel
theorem dX5_moveUse_125 : decode cX5_moveUse 125 = .ok (.iload_n 1, 1) := by decide +kernel
theorem dX5_moveUse_126 : decode cX5_moveUse 126 = .ok (.aload_n 0, 1) := by decide +kernel
theorem dX5_moveUse_127 : decode cX5_moveUse 127 = .ok (.getfield 19, 3) := by decide +kernel
theorem dX5_moveUse_130 : decode cX5_moveUse 130 = .ok (.getfield 71, 3) := by decide +kernel
theorem dX5_moveUse_133 : decode cX5_moveUse 133 = .ok (.iload 9, 2) := by decide +kernel
theorem dX5_moveUse_135 : decode cX5_moveUse 135 = .ok (.laload, 1) := by decide +kernel
theorem dX5_moveUse_136 : decode cX5_moveUse 136 = .ok (.lload 5, 2) := by decide +kernel
theorem dX5_moveUse_138 : decode cX5_moveUse 138 = .ok (.invokevirtual 75, 3) := by decide +kernel
theorem dX5_moveUse_141 : decode cX5_moveUse 141 = .ok (.iload 7, 2) := by decide +kernel
theorem dX5_moveUse_143 : decode cX5_moveUse 143 = .ok (.isub, 1) := by decide +kernel
theorem dX5_moveUse_144 : decode cX5_moveUse 144 = .ok (.istore 10, 2) := by decide +kernel
theorem dX5_moveUse_146 : decode cX5_moveUse 146 = .ok (.iload 10, 2) := by decide +kernel
theorem dX5_moveUse_148 : decode cX5_moveUse 148 = .ok (.aload_n 0, 1) := by decide +kernel
theorem dX5_moveUse_149 : decode cX5_moveUse 149 = .ok (.getfield 19, 3) := by decide +kernel
theorem dX5_moveUse_152 : decode cX5_moveUse 152 = .ok (.getfield 67, 3) := by decide +kernel
theorem dX5_moveUse_155 : decode cX5_moveUse 155 = .ok (.iload 9, 2) := by decide +kernel
theorem dX5_moveUse_157 : decode cX5_moveUse 157 = .ok (.iaload, 1) := by decide +kernel
theorem dX5_moveUse_158 : decode cX5_moveUse 158 = .ok (.iload 8, 2) := by decide +kernel
theorem dX5_moveUse_160 : decode cX5_moveUse 160 = .ok (.isub, 1) := by decide +kernel
theorem dX5_moveUse_161 : decode cX5_moveUse 161 = .ok (.invokestatic 103, 3) := by decide +kernel
theorem dX5_moveUse_164 : decode cX5_moveUse 164 = .ok (.ifCond .eq 15, 3) := by decide +kernel
theorem dX5_moveUse_167 : decode cX5_moveUse 167 = .ok (.aload_n 0, 1) := by decide +kernel
theorem dX5_moveUse_168 : decode cX5_moveUse 168 = .ok (.getfield 19, 3) := by decide +kernel
theorem dX5_moveUse_171 : decode cX5_moveUse 171 = .ok (.iload_n 1, 1) := by decide +kernel
theorem dX5_moveUse_172 : decode cX5_moveUse 172 = .ok (.iload 9, 2) := by decide +kernel
theorem dX5_moveUse_174 : decode cX5_moveUse 174 = .ok (.invokevirtual 88, 3) := by decide +kernel
theorem dX5_moveUse_177 : decode cX5_moveUse 177 = .ok (.iconst 1, 1) := by decide +kernel
theorem dX5_moveUse_178 : decode cX5_moveUse 178 = .ok (.ireturn, 1) := by decide +kernel
theorem dX5_moveUse_179 : decode cX5_moveUse 179 = .ok (.iinc 9 1, 3) := by decide +kernel
theorem dX5_moveUse_182 : decode cX5_moveUse 182 = .ok (.goto (-91), 3) := by decide +kernel
theorem dX5_moveUse_185 : decode cX5_moveUse 185 = .ok (.lload_n 3, 1) := by decide +kernel
theorem dX5_moveUse_186 : decode cX5_moveUse 186 = .ok (.lconst 0, 1) := by decide +kernel
theorem dX5_moveUse_187 : decode cX5_moveUse 187 = .ok (.lcmp, 1) := by decide +kernel
theorem dX5_moveUse_188 : decode cX5_moveUse 188 = .ok (.ifCond .eq 43, 3) := by decide +kernel
theorem dX5_moveUse_191 : decode cX5_moveUse 191 = .ok (.aload_n 0, 1) := by decide +kernel
theorem dX5_moveUse_192 : decode cX5_moveUse 192 = .ok (.getfield 15, 3) := by decide +kernel
theorem dX5_moveUse_195 : decode cX5_moveUse 195 = .ok (.iload_n 1, 1) := by decide +kernel
theorem dX5_moveUse_196 : decode cX5_moveUse 196 = .ok (.lconst 0, 1) := by decide +kernel
theorem dX5_moveUse_197 : decode cX5_moveUse 197 = .ok (.lload 5, 2) := by decide +kernel
theorem dX5_moveUse_199 : decode cX5_moveUse 199 = .ok (.invokevirtual 75, 3) := by decide +kernel
theorem dX5_moveUse_202 : decode cX5_moveUse 202 = .ok (.iload 7, 2) := by decide +kernel
theorem dX5_moveUse_204 : decode cX5_moveUse 204 = .ok (.isub, 1) := by decide +kernel
theorem dX5_moveUse_205 : decode cX5_moveUse 205 = .ok (.aload_n 0, 1) := by decide +kernel
theorem dX5_moveUse_206 : decode cX5_moveUse 206 = .ok (.getfield 19, 3) := by decide +kernel
theorem dX5_moveUse_209 : decode cX5_moveUse 209 = .ok (.getfield 81, 3) := by decide +kernel
theorem dX5_moveUse_212 : decode cX5_moveUse 212 = .ok (.iload 8, 2) := by decide +kernel
theorem dX5_moveUse_214 : decode cX5_moveUse 214 = .ok (.isub, 1) := by decide +kernel
theorem dX5_moveUse_215 : decode cX5_moveUse 215 = .ok (.invokestatic 103, 3) := by decide +kernel
theorem dX5_moveUse_218 : decode cX5_moveUse 218 = .ok (.ifCond .eq 13, 3) := by decide +kernel
theorem dX5_moveUse_221 : decode cX5_moveUse 221 = .ok (.aload_n 0, 1) := by decide +kernel
theorem dX5_moveUse_222 : decode cX5_moveUse 222 = .ok (.getfield 19, 3) := by decide +kernel
theorem dX5_moveUse_225 : decode cX5_moveUse 225 = .ok (.iload_n 1, 1) := by decide +kernel
theorem dX5_moveUse_226 : decode cX5_moveUse 226 = .ok (.invokevirtual 84, 3) := by decide +kernel
theorem dX5_moveUse_229 : decode cX5_moveUse 229 = .ok (.iconst 1, 1) := by decide +kernel
theorem dX5_moveUse_230 : decode cX5_moveUse 230 = .ok (.ireturn, 1) := by decide +kernel
theorem dX5_moveUse_231 : decode cX5_moveUse 231 = .ok (.iconst 0, 1) := by decide +kernel
theorem dX5_moveUse_232 : decode cX5_moveUse 232 = .ok (.ireturn, 1) := by decide +kernel
theorem dX5_meltFirst_0 : decode cX5_meltFirst 0 = .ok (.iconst 0, 1) := by decide +kernel
theorem dX5_meltFirst_1 : decode cX5_meltFirst 1 = .ok (.istore_n 1, 1) := by decide +kernel
theorem dX5_meltFirst_2 : decode cX5_meltFirst 2 = .ok (.iload_n 1, 1) := by decide +kernel
theorem dX5_meltFirst_3 : decode cX5_meltFirst 3 = .ok (.aload_n 0, 1) := by decide +kernel
theorem dX5_meltFirst_4 : decode cX5_meltFirst 4 = .ok (.getfield 9, 3) := by decide +kernel
theorem dX5_meltFirst_7 : decode cX5_meltFirst 7 = .ok (.getfield 37, 3) := by decide +kernel
theorem dX5_meltFirst_10 : decode cX5_meltFirst 10 = .ok (.if_icmp .ge 30, 3) := by decide +kernel
theorem dX5_meltFirst_13 : decode cX5_meltFirst 13 = .ok (.aload_n 0, 1) := by decide +kernel
theorem dX5_meltFirst_14 : decode cX5_meltFirst 14 = .ok (.getfield 19, 3) := by decide +kernel
theorem dX5_meltFirst_17 : decode cX5_meltFirst 17 = .ok (.iload_n 1, 1) := by decide +kernel
theorem dX5_meltFirst_18 : decode cX5_meltFirst 18 = .ok (.invokevirtual 64, 3) := by decide +kernel
theorem dX5_meltFirst_21 : decode cX5_meltFirst 21 = .ok (.ifCond .eq 13, 3) := by decide +kernel
theorem dX5_meltFirst_24 : decode cX5_meltFirst 24 = .ok (.aload_n 0, 1) := by decide +kernel
theorem dX5_meltFirst_25 : decode cX5_meltFirst 25 = .ok (.iload_n 1, 1) := by decide +kernel
theorem dX5_meltFirst_26 : decode cX5_meltFirst 26 = .ok (.invokevirtual 107, 3) := by decide +kernel
theorem dX5_meltFirst_29 : decode cX5_meltFirst 29 = .ok (.ifCond .eq 5, 3) := by decide +kernel
theorem dX5_meltFirst_32 : decode cX5_meltFirst 32 = .ok (.iconst 1, 1) := by decide +kernel
theorem dX5_meltFirst_33 : decode cX5_meltFirst 33 = .ok (.ireturn, 1) := by decide +kernel
theorem dX5_meltFirst_34 : decode cX5_meltFirst 34 = .ok (.iinc 1 1, 3) := by decide +kernel
theorem dX5_meltFirst_37 : decode cX5_meltFirst 37 = .ok (.goto (-35), 3) := by decide +kernel
theorem dX5_meltFirst_40 : decode cX5_meltFirst 40 = .ok (.iconst 0, 1) := by decide +kernel
theorem dX5_meltFirst_41 : decode cX5_meltFirst 41 = .ok (.ireturn, 1) := by decide +kernel
theorem dX5_meltInto_0 : decode cX5_meltInto 0 = .ok (.aload_n 0, 1) := by decide +kernel
theorem dX5_meltInto_1 : decode cX5_meltInto 1 = .ok (.getfield 19, 3) := by decide +kernel
theorem dX5_meltInto_4 : decode cX5_meltInto 4 = .ok (.aload_n 0, 1) := by decide +kernel
theorem dX5_meltInto_5 : decode cX5_meltInto 5 = .ok (.getfield 19, 3) := by decide +kernel
theorem dX5_meltInto_8 : decode cX5_meltInto 8 = .ok (.getfield 71, 3) := by decide +kernel
theorem dX5_meltInto_11 : decode cX5_meltInto 11 = .ok (.iload_n 1, 1) := by decide +kernel
theorem dX5_meltInto_12 : decode cX5_meltInto 12 = .ok (.laload, 1) := by decide +kernel
theorem dX5_meltInto_13 : decode cX5_meltInto 13 = .ok (.invokevirtual 59, 3) := by decide +kernel
theorem dX5_meltInto_16 : decode cX5_meltInto 16 = .ok (.iload_n 1, 1) := by decide +kernel
theorem dX5_meltInto_17 : decode cX5_meltInto 17 = .ok (.iconst 1, 1) := by decide +kernel
theorem dX5_meltInto_18 : decode cX5_meltInto 18 = .ok (.iadd, 1) := by decide +kernel
theorem dX5_meltInto_19 : decode cX5_meltInto 19 = .ok (.istore_n 2, 1) := by decide +kernel
theorem dX5_meltInto_20 : decode cX5_meltInto 20 = .ok (.iload_n 2, 1) := by decide +kernel
theorem dX5_meltInto_21 : decode cX5_meltInto 21 = .ok (.aload_n 0, 1) := by decide +kernel
theorem dX5_meltInto_22 : decode cX5_meltInto 22 = .ok (.getfield 9, 3) := by decide +kernel
theorem dX5_meltInto_25 : decode cX5_meltInto 25 = .ok (.getfield 37, 3) := by decide +kernel
theorem dX5_meltInto_28 : decode cX5_meltInto 28 = .ok (.if_icmp .ge 81, 3) := by decide +kernel
theorem dX5_meltInto_31 : decode cX5_meltInto 31 = .ok (.aload_n 0, 1) := by decide +kernel
theorem dX5_meltInto_32 : decode cX5_meltInto 32 = .ok (.getfield 19, 3) := by decide +kernel
theorem dX5_meltInto_35 : decode cX5_meltInto 35 = .ok (.iload_n 2, 1) := by decide +kernel
theorem dX5_meltInto_36 : decode cX5_meltInto 36 = .ok (.invokevirtual 64, 3) := by decide +kernel
theorem dX5_meltInto_39 : decode cX5_meltInto 39 = .ok (.ifCond .eq 64, 3) := by decide +kernel
theorem dX5_meltInto_42 : decode cX5_meltInto 42 = .ok (.aload_n 0, 1) := by decide +kernel
theorem dX5_meltInto_43 : decode cX5_meltInto 43 = .ok (.getfield 15, 3) := by decide +kernel
theorem dX5_meltInto_46 : decode cX5_meltInto 46 = .ok (.aload_n 0, 1) := by decide +kernel
theorem dX5_meltInto_47 : decode cX5_meltInto 47 = .ok (.getfield 19, 3) := by decide +kernel
theorem dX5_meltInto_50 : decode cX5_meltInto 50 = .ok (.getfield 71, 3) := by decide +kernel
theorem dX5_meltInto_53 : decode cX5_meltInto 53 = .ok (.iload_n 1, 1) := by decide +kernel
theorem dX5_meltInto_54 : decode cX5_meltInto 54 = .ok (.laload, 1) := by decide +kernel
theorem dX5_meltInto_55 : decode cX5_meltInto 55 = .ok (.aload_n 0, 1) := by decide +kernel
theorem dX5_meltInto_56 : decode cX5_meltInto 56 = .ok (.getfield 19, 3) := by decide +kernel
theorem dX5_meltInto_59 : decode cX5_meltInto 59 = .ok (.getfield 71, 3) := by decide +kernel
theorem dX5_meltInto_62 : decode cX5_meltInto 62 = .ok (.iload_n 2, 1) := by decide +kernel
theorem dX5_meltInto_63 : decode cX5_meltInto 63 = .ok (.laload, 1) := by decide +kernel
theorem dX5_meltInto_64 : decode cX5_meltInto 64 = .ok (.invokevirtual 110, 3) := by decide +kernel
theorem dX5_meltInto_67 : decode cX5_meltInto 67 = .ok (.istore_n 3, 1) := by decide +kernel
theorem dX5_meltInto_68 : decode cX5_meltInto 68 = .ok (.iload_n 3, 1) := by decide +kernel
theorem dX5_meltInto_69 : decode cX5_meltInto 69 = .ok (.aload_n 0, 1) := by decide +kernel
theorem dX5_meltInto_70 : decode cX5_meltInto 70 = .ok (.getfield 19, 3) := by decide +kernel
theorem dX5_meltInto_73 : decode cX5_meltInto 73 = .ok (.getfield 67, 3) := by decide +kernel
theorem dX5_meltInto_76 : decode cX5_meltInto 76 = .ok (.iload_n 2, 1) := by decide +kernel
theorem dX5_meltInto_77 : decode cX5_meltInto 77 = .ok (.iaload, 1) := by decide +kernel
theorem dX5_meltInto_78 : decode cX5_meltInto 78 = .ok (.aload_n 0, 1) := by decide +kernel
theorem dX5_meltInto_79 : decode cX5_meltInto 79 = .ok (.getfield 19, 3) := by decide +kernel
theorem dX5_meltInto_82 : decode cX5_meltInto 82 = .ok (.getfield 81, 3) := by decide +kernel
theorem dX5_meltInto_85 : decode cX5_meltInto 85 = .ok (.isub, 1) := by decide +kernel
theorem dX5_meltInto_86 : decode cX5_meltInto 86 = .ok (.invokestatic 103, 3) := by decide +kernel
theorem dX5_meltInto_89 : decode cX5_meltInto 89 = .ok (.ifCond .eq 14, 3) := by decide +kernel
theorem dX5_meltInto_92 : decode cX5_meltInto 92 = .ok (.aload_n 0, 1) := by decide +kernel
theorem dX5_meltInto_93 : decode cX5_meltInto 93 = .ok (.getfield 19, 3) := by decide +kernel
theorem dX5_meltInto_96 : decode cX5_meltInto 96 = .ok (.iload_n 1, 1) := by decide +kernel
theorem dX5_meltInto_97 : decode cX5_meltInto 97 = .ok (.iload_n 2, 1) := by decide +kernel
theorem dX5_meltInto_98 : decode cX5_meltInto 98 = .ok (.invokevirtual 114, 3) := by decide +kernel
theorem dX5_meltInto_101 : decode cX5_meltInto 101 = .ok (.iconst 1, 1) := by decide +kernel
theorem dX5_meltInto_102 : decode cX5_meltInto 102 = .ok (.ireturn, 1) := by decide +kernel
theorem dX5_meltInto_103 : decode cX5_meltInto 103 = .ok (.iinc 2 1, 3) := by decide +kernel
theorem dX5_meltInto_106 : decode cX5_meltInto 106 = .ok (.goto (-86), 3) := by decide +kernel
theorem dX5_meltInto_109 : decode cX5_meltInto 109 = .ok (.iconst 0, 1) := by decide +kernel
theorem dX5_meltInto_110 : decode cX5_meltInto 110 = .ok (.ireturn, 1) := by decide +kernel
theorem dX5_betters_0 : decode cX5_betters 0 = .ok (.iload_n 0, 1) := by decide +kernel
theorem dX5_betters_1 : decode cX5_betters 1 = .ok (.ifCond .lt 11, 3) := by decide +kernel
theorem dX5_betters_4 : decode cX5_betters 4 = .ok (.iload_n 0, 1) := by decide +kernel
theorem dX5_betters_5 : decode cX5_betters 5 = .ok (.ifCond .ne 11, 3) := by decide +kernel
theorem dX5_betters_8 : decode cX5_betters 8 = .ok (.iload_n 1, 1) := by decide +kernel
theorem dX5_betters_9 : decode cX5_betters 9 = .ok (.ifCond .ge 7, 3) := by decide +kernel
theorem dX5_betters_12 : decode cX5_betters 12 = .ok (.iconst 1, 1) := by decide +kernel
theorem dX5_betters_13 : decode cX5_betters 13 = .ok (.goto 4, 3) := by decide +kernel
theorem dX5_betters_16 : decode cX5_betters 16 = .ok (.iconst 0, 1) := by decide +kernel
theorem dX5_betters_17 : decode cX5_betters 17 = .ok (.ireturn, 1) := by decide +kernel
theorem dX6_init_0 : decode cX6_init 0 = .ok (.aload_n 0, 1) := by decide +kernel
theorem dX6_init_1 : decode cX6_init 1 = .ok (.invokespecial 3, 3) := by decide +kernel
theorem dX6_init_4 : decode cX6_init 4 = .ok (.aload_n 0, 1) := by decide +kernel
theorem dX6_init_5 : decode cX6_init 5 = .ok (.bipush 40, 2) := by decide +kernel
theorem dX6_init_7 : decode cX6_init 7 = .ok (.newarray .int, 2) := by decide +kernel
theorem dX6_init_9 : decode cX6_init 9 = .ok (.putfield 9, 3) := by decide +kernel
theorem dX6_init_12 : decode cX6_init 12 = .ok (.aload_n 0, 1) := by decide +kernel
theorem dX6_init_13 : decode cX6_init 13 = .ok (.bipush 40, 2) := by decide +kernel
theorem dX6_init_15 : decode cX6_init 15 = .ok (.newarray .int, 2) := by decide +kernel
theorem dX6_init_17 : decode cX6_init 17 = .ok (.putfield 15, 3) := by decide +kernel
theorem dX6_init_20 : decode cX6_init 20 = .ok (.aload_n 0, 1) := by decide +kernel
theorem dX6_init_21 : decode cX6_init 21 = .ok (.bipush 20, 2) := by decide +kernel
theorem dX6_init_23 : decode cX6_init 23 = .ok (.newarray .long, 2) := by decide +kernel
theorem dX6_init_25 : decode cX6_init 25 = .ok (.putfield 18, 3) := by decide +kernel
theorem dX6_init_28 : decode cX6_init 28 = .ok (.aload_n 0, 1) := by decide +kernel
theorem dX6_init_29 : decode cX6_init 29 = .ok (.bipush 20, 2) := by decide +kernel
theorem dX6_init_31 : decode cX6_init 31 = .ok (.newarray .int, 2) := by decide +kernel
theorem dX6_init_33 : decode cX6_init 33 = .ok (.putfield 22, 3) := by decide +kernel
theorem dX6_init_36 : decode cX6_init 36 = .ok (.aload_n 0, 1) := by decide +kernel
theorem dX6_init_37 : decode cX6_init 37 = .ok (.sipush 1600, 3) := by decide +kernel
theorem dX6_init_40 : decode cX6_init 40 = .ok (.newarray .int, 2) := by decide +kernel
theorem dX6_init_42 : decode cX6_init 42 = .ok (.putfield 25, 3) := by decide +kernel
theorem dX6_init_45 : decode cX6_init 45 = .ok (.aload_n 0, 1) := by decide +kernel
theorem dX6_init_46 : decode cX6_init 46 = .ok (.getfield 22, 3) := by decide +kernel
theorem dX6_init_49 : decode cX6_init 49 = .ok (.iconst 1, 1) := by decide +kernel
theorem dX6_init_50 : decode cX6_init 50 = .ok (.invokestatic 28, 3) := by decide +kernel
theorem dX6_init_53 : decode cX6_init 53 = .ok (.return_, 1) := by decide +kernel
theorem dX6_has_0 : decode cX6_has 0 = .ok (.iload_n 1, 1) := by decide +kernel
theorem dX6_has_1 : decode cX6_has 1 = .ok (.ifCond .lt 15, 3) := by decide +kernel
theorem dX6_has_4 : decode cX6_has 4 = .ok (.iload_n 1, 1) := by decide +kernel
theorem dX6_has_5 : decode cX6_has 5 = .ok (.aload_n 0, 1) := by decide +kernel
theorem dX6_has_6 : decode cX6_has 6 = .ok (.getfield 34, 3) := by decide +kernel
theorem dX6_has_9 : decode cX6_has 9 = .ok (.if_icmp .ge 7, 3) := by decide +kernel
theorem dX6_has_12 : decode cX6_has 12 = .ok (.iconst 1, 1) := by decide +kernel
theorem dX6_has_13 : decode cX6_has 13 = .ok (.goto 4, 3) := by decide +kernel
theorem dX6_has_16 : decode cX6_has 16 = .ok (.iconst 0, 1) := by decide +kernel
theorem dX6_has_17 : decode cX6_has 17 = .ok (.ireturn, 1) := by decide +kernel
theorem dX6_all_0 : decode cX6_all 0 = .ok (.aload_n 0, 1) := by decide +kernel
theorem dX6_all_1 : decode cX6_all 1 = .ok (.getfield 34, 3) := by decide +kernel
theorem dX6_all_4 : decode cX6_all 4 = .ok (.invokestatic 38, 3) := by decide +kernel
theorem dX6_all_7 : decode cX6_all 7 = .ok (.lconst 1, 1) := by decide +kernel
theorem dX6_all_8 : decode cX6_all 8 = .ok (.lsub, 1) := by decide +kernel
theorem dX6_all_9 : decode cX6_all 9 = .ok (.lreturn, 1) := by decide +kernel
theorem dX6_take_0 : decode cX6_take 0 = .ok (.aload_n 0, 1) := by decide +kernel
theorem dX6_take_1 : decode cX6_take 1 = .ok (.getfield 34, 3) := by decide +kernel
theorem dX6_take_4 : decode cX6_take 4 = .ok (.istore_n 3, 1) := by decide +kernel
theorem dX6_take_5 : decode cX6_take 5 = .ok (.aload_n 0, 1) := by decide +kernel
theorem dX6_take_6 : decode cX6_take 6 = .ok (.getfield 9, 3) := by decide +kernel
theorem dX6_take_9 : decode cX6_take 9 = .ok (.iload_n 3, 1) := by decide +kernel
theorem dX6_take_10 : decode cX6_take 10 = .ok (.iload_n 1, 1) := by decide +kernel
theorem dX6_take_11 : decode cX6_take 11 = .ok (.iastore, 1) := by decide +kernel
theorem dX6_take_12 : decode cX6_take 12 = .ok (.aload_n 0, 1) := by decide +kernel
theorem dX6_take_13 : decode cX6_take 13 = .ok (.getfield 15, 3) := by decide +kernel
theorem dX6_take_16 : decode cX6_take 16 = .ok (.iload_n 3, 1) := by decide +kernel
theorem dX6_take_17 : decode cX6_take 17 = .ok (.iload_n 2, 1) := by decide +kernel
theorem dX6_take_18 : decode cX6_take 18 = .ok (.iastore, 1) := by decide +kernel
theorem dX6_take_19 : decode cX6_take 19 = .ok (.iconst 0, 1) := by decide +kernel
theorem dX6_take_20 : decode cX6_take 20 = .ok (.istore 4, 2) := by decide +kernel
theorem dX6_take_22 : decode cX6_take 22 = .ok (.iload 4, 2) := by decide +kernel
theorem dX6_take_24 : decode cX6_take 24 = .ok (.bipush 20, 2) := by decide +kernel
theorem dX6_take_26 : decode cX6_take 26 = .ok (.if_icmp .ge 32, 3) := by decide +kernel
theorem dX6_take_29 : decode cX6_take 29 = .ok (.iload_n 1, 1) := by decide +kernel
theorem dX6_take_30 : decode cX6_take 30 = .ok (.iload 4, 2) := by decide +kernel
theorem dX6_take_32 : decode cX6_take 32 = .ok (.ishr, 1) := by decide +kernel
theorem dX6_take_33 : decode cX6_take 33 = .ok (.iconst 1, 1) := by decide +kernel
theorem dX6_take_34 : decode cX6_take 34 = .ok (.iand, 1) := by decide +kernel
theorem dX6_take_35 : decode cX6_take 35 = .ok (.ifCond .eq 17, 3) := by decide +kernel
theorem dX6_take_38 : decode cX6_take 38 = .ok (.aload_n 0, 1) := by decide +kernel
theorem dX6_take_39 : decode cX6_take 39 = .ok (.getfield 18, 3) := by decide +kernel
theorem dX6_take_42 : decode cX6_take 42 = .ok (.iload 4, 2) := by decide +kernel
theorem dX6_take_44 : decode cX6_take 44 = .ok (.dup2, 1) := by decide +kernel
theorem dX6_take_45 : decode cX6_take 45 = .ok (.laload, 1) := by decide +kernel
theorem dX6_take_46 : decode cX6_take 46 = .ok (.iload_n 3, 1) := by decide +kernel
theorem dX6_take_47 : decode cX6_take 47 = .ok (.invokestatic 38, 3) := by decide +kernel
theorem dX6_take_50 : decode cX6_take 50 = .ok (.lor, 1) := by decide +kernel
theorem dX6_take_51 : decode cX6_take 51 = .ok (.lastore, 1) := by decide +kernel
theorem dX6_take_52 : decode cX6_take 52 = .ok (.iinc 4 1, 3) := by decide +kernel
theorem dX6_take_55 : decode cX6_take 55 = .ok (.goto (-33), 3) := by decide +kernel
theorem dX6_take_58 : decode cX6_take 58 = .ok (.iconst 0, 1) := by decide +kernel
theorem dX6_take_59 : decode cX6_take 59 = .ok (.istore 4, 2) := by decide +kernel
theorem dX6_take_61 : decode cX6_take 61 = .ok (.iload 4, 2) := by decide +kernel
theorem dX6_take_63 : decode cX6_take 63 = .ok (.iload_n 3, 1) := by decide +kernel
theorem dX6_take_64 : decode cX6_take 64 = .ok (.if_icmp .ge 28, 3) := by decide +kernel
theorem dX6_take_67 : decode cX6_take 67 = .ok (.aload_n 0, 1) := by decide +kernel
theorem dX6_take_68 : decode cX6_take 68 = .ok (.iload_n 3, 1) := by decide +kernel
theorem dX6_take_69 : decode cX6_take 69 = .ok (.iload 4, 2) := by decide +kernel
theorem dX6_take_71 : decode cX6_take 71 = .ok (.aload_n 0, 1) := by decide +kernel
theorem dX6_take_72 : decode cX6_take 72 = .ok (.iload_n 1, 1) := by decide +kernel
theorem dX6_take_73 : decode cX6_take 73 = .ok (.aload_n 0, 1) := by decide +kernel
theorem dX6_take_74 : decode cX6_take 74 = .ok (.getfield 9, 3) := by decide +kernel
theorem dX6_take_77 : decode cX6_take 77 = .ok (.iload 4, 2) := by decide +kernel
theorem dX6_take_79 : decode cX6_take 79 = .ok (.iaload, 1) := by decide +kernel
theorem dX6_take_80 : decode cX6_take 80 = .ok (.invokevirtual 42, 3) := by decide +kernel
theorem dX6_take_83 : decode cX6_take 83 = .ok (.invokevirtual 46, 3) := by decide +kernel
theorem dX6_take_86 : decode cX6_take 86 = .ok (.iinc 4 1, 3) := by decide +kernel
theorem dX6_take_89 : decode cX6_take 89 = .ok (.goto (-28), 3) := by decide +kernel
theorem dX6_take_92 : decode cX6_take 92 = .ok (.aload_n 0, 1) := by decide +kernel
theorem dX6_take_93 : decode cX6_take 93 = .ok (.dup, 1) := by decide +kernel
theorem dX6_take_94 : decode cX6_take 94 = .ok (.getfield 34, 3) := by decide +kernel
theorem dX6_take_97 : decode cX6_take 97 = .ok (.iconst 1, 1) := by decide +kernel
theorem dX6_take_98 : decode cX6_take 98 = .ok (.iadd, 1) := by decide +kernel
theorem dX6_take_99 : decode cX6_take 99 = .ok (.putfield 34, 3) := by decide +kernel
theorem dX6_take_102 : decode cX6_take 102 = .ok (.iload_n 3, 1) := by decide +kernel
theorem dX6_take_103 : decode cX6_take 103 = .ok (.ireturn, 1) := by decide +kernel
theorem dX6_weigh_0 : decode cX6_weigh 0 = .ok (.iload_n 2, 1) := by decide +kernel
theorem dX6_weigh_1 : decode cX6_weigh 1 = .ok (.aload_n 0, 1) := by decide +kernel
theorem dX6_weigh_2 : decode cX6_weigh 2 = .ok (.getfield 22, 3) := by decide +kernel
theorem dX6_weigh_5 : decode cX6_weigh 5 = .ok (.iload_n 1, 1) := by decide +kernel
theorem dX6_weigh_6 : decode cX6_weigh 6 = .ok (.iaload, 1) := by decide +kernel
theorem dX6_weigh_7 : decode cX6_weigh 7 = .ok (.isub, 1) := by decide +kernel
theorem dX6_weigh_8 : decode cX6_weigh 8 = .ok (.istore_n 3, 1) := by decide +kernel
theorem dX6_weigh_9 : decode cX6_weigh 9 = .ok (.aload_n 0, 1) := by decide +kernel
theorem dX6_weigh_10 : decode cX6_weigh 10 = .ok (.getfield 22, 3) := by decide +kernel
theorem dX6_weigh_13 : decode cX6_weigh 13 = .ok (.iload_n 1, 1) := by decide +kernel
theorem dX6_weigh_14 : decode cX6_weigh 14 = .ok (.iload_n 2, 1) := by decide +kernel
theorem dX6_weigh_15 : decode cX6_weigh 15 = .ok (.iastore, 1) := by decide +kernel
theorem dX6_weigh_16 : decode cX6_weigh 16 = .ok (.iconst 0, 1) := by decide +kernel
theorem dX6_weigh_17 : decode cX6_weigh 17 = .ok (.istore 4, 2) := by decide +kernel
theorem dX6_weigh_19 : decode cX6_weigh 19 = .ok (.iload 4, 2) := by decide +kernel
theorem dX6_weigh_21 : decode cX6_weigh 21 = .ok (.aload_n 0, 1) := by decide +kernel
theorem dX6_weigh_22 : decode cX6_weigh 22 = .ok (.getfield 34, 3) := by decide +kernel
theorem dX6_weigh_25 : decode cX6_weigh 25 = .ok (.if_icmp .ge 65, 3) := by decide +kernel
theorem dX6_weigh_28 : decode cX6_weigh 28 = .ok (.iconst 0, 1) := by decide +kernel
theorem dX6_weigh_29 : decode cX6_weigh 29 = .ok (.istore 5, 2) := by decide +kernel
theorem dX6_weigh_31 : decode cX6_weigh 31 = .ok (.iload 5, 2) := by decide +kernel
theorem dX6_weigh_33 : decode cX6_weigh 33 = .ok (.iload 4, 2) := by decide +kernel
theorem dX6_weigh_35 : decode cX6_weigh 35 = .ok (.if_icmp .ge 49, 3) := by decide +kernel
theorem dX6_weigh_38 : decode cX6_weigh 38 = .ok (.aload_n 0, 1) := by decide +kernel
theorem dX6_weigh_39 : decode cX6_weigh 39 = .ok (.getfield 9, 3) := by decide +kernel
theorem dX6_weigh_42 : decode cX6_weigh 42 = .ok (.iload 4, 2) := by decide +kernel
theorem dX6_weigh_44 : decode cX6_weigh 44 = .ok (.iaload, 1) := by decide +kernel
theorem dX6_weigh_45 : decode cX6_weigh 45 = .ok (.aload_n 0, 1) := by decide +kernel
theorem dX6_weigh_46 : decode cX6_weigh 46 = .ok (.getfield 9, 3) := by decide +kernel
theorem dX6_weigh_49 : decode cX6_weigh 49 = .ok (.iload 5, 2) := by decide +kernel
theorem dX6_weigh_51 : decode cX6_weigh 51 = .ok (.iaload, 1) := by decide +kernel
theorem dX6_weigh_52 : decode cX6_weigh 52 = .ok (.ixor, 1) := by decide +kernel
theorem dX6_weigh_53 : decode cX6_weigh 53 = .ok (.iload_n 1, 1) := by decide +kernel
theorem dX6_weigh_54 : decode cX6_weigh 54 = .ok (.ishr, 1) := by decide +kernel
theorem dX6_weigh_55 : decode cX6_weigh 55 = .ok (.iconst 1, 1) := by decide +kernel
theorem dX6_weigh_56 : decode cX6_weigh 56 = .ok (.iand, 1) := by decide +kernel
theorem dX6_weigh_57 : decode cX6_weigh 57 = .ok (.ifCond .eq 21, 3) := by decide +kernel
theorem dX6_weigh_60 : decode cX6_weigh 60 = .ok (.aload_n 0, 1) := by decide +kernel
theorem dX6_weigh_61 : decode cX6_weigh 61 = .ok (.iload 4, 2) := by decide +kernel
theorem dX6_weigh_63 : decode cX6_weigh 63 = .ok (.iload 5, 2) := by decide +kernel
theorem dX6_weigh_65 : decode cX6_weigh 65 = .ok (.aload_n 0, 1) := by decide +kernel
theorem dX6_weigh_66 : decode cX6_weigh 66 = .ok (.iload 4, 2) := by decide +kernel
theorem dX6_weigh_68 : decode cX6_weigh 68 = .ok (.iload 5, 2) := by decide +kernel
theorem dX6_weigh_70 : decode cX6_weigh 70 = .ok (.invokevirtual 50, 3) := by decide +kernel
theorem dX6_weigh_73 : decode cX6_weigh 73 = .ok (.iload_n 3, 1) := by decide +kernel
theorem dX6_weigh_74 : decode cX6_weigh 74 = .ok (.iadd, 1) := by decide +kernel
theorem dX6_weigh_75 : decode cX6_weigh 75 = .ok (.invokevirtual 46, 3) := by decide +kernel
theorem dX6_weigh_78 : decode cX6_weigh 78 = .ok (.iinc 5 1, 3) := by decide +kernel
theorem dX6_weigh_81 : decode cX6_weigh 81 = .ok (.goto (-50), 3) := by decide +kernel
theorem dX6_weigh_84 : decode cX6_weigh 84 = .ok (.iinc 4 1, 3) := by decide +kernel
theorem dX6_weigh_87 : decode cX6_weigh 87 = .ok (.goto (-68), 3) := by decide +kernel
theorem dX6_weigh_90 : decode cX6_weigh 90 = .ok (.return_, 1) := by decide +kernel
theorem dX6_apart_0 : decode cX6_apart 0 = .ok (.iload_n 1, 1) := by decide +kernel
theorem dX6_apart_1 : decode cX6_apart 1 = .ok (.iload_n 2, 1) := by decide +kernel
theorem dX6_apart_2 : decode cX6_apart 2 = .ok (.ixor, 1) := by decide +kernel
theorem dX6_apart_3 : decode cX6_apart 3 = .ok (.istore_n 3, 1) := by decide +kernel
theorem dX6_apart_4 : decode cX6_apart 4 = .ok (.iconst 0, 1) := by decide +kernel
theorem dX6_apart_5 : decode cX6_apart 5 = .ok (.istore 4, 2) := by decide +kernel
theorem dX6_apart_7 : decode cX6_apart 7 = .ok (.iconst 0, 1) := by decide +kernel
theorem dX6_apart_8 : decode cX6_apart 8 = .ok (.istore 5, 2) := by decide +kernel
theorem dX6_apart_10 : decode cX6_apart 10 = .ok (.iload 5, 2) := by decide +kernel
theorem dX6_apart_12 : decode cX6_apart 12 = .ok (.bipush 20, 2) := by decide +kernel
theorem dX6_apart_14 : decode cX6_apart 14 = .ok (.if_icmp .ge 30, 3) := by decide +kernel
theorem dX6_apart_17 : decode cX6_apart 17 = .ok (.iload_n 3, 1) := by decide +kernel
theorem dX6_apart_18 : decode cX6_apart 18 = .ok (.iload 5, 2) := by decide +kernel
theorem dX6_apart_20 : decode cX6_apart 20 = .ok (.ishr, 1) := by decide +kernel
theorem dX6_apart_21 : decode cX6_apart 21 = .ok (.iconst 1, 1) := by decide +kernel
theorem dX6_apart_22 : decode cX6_apart 22 = .ok (.iand, 1) := by decide +kernel
theorem dX6_apart_23 : decode cX6_apart 23 = .ok (.ifCond .eq 15, 3) := by decide +kernel
theorem dX6_apart_26 : decode cX6_apart 26 = .ok (.iload 4, 2) := by decide +kernel
theorem dX6_apart_28 : decode cX6_apart 28 = .ok (.aload_n 0, 1) := by decide +kernel
theorem dX6_apart_29 : decode cX6_apart 29 = .ok (.getfield 22, 3) := by decide +kernel
theorem dX6_apart_32 : decode cX6_apart 32 = .ok (.iload 5, 2) := by decide +kernel
theorem dX6_apart_34 : decode cX6_apart 34 = .ok (.iaload, 1) := by decide +kernel
theorem dX6_apart_35 : decode cX6_apart 35 = .ok (.iadd, 1) := by decide +kernel
theorem dX6_apart_36 : decode cX6_apart 36 = .ok (.istore 4, 2) := by decide +kernel
theorem dX6_apart_38 : decode cX6_apart 38 = .ok (.iinc 5 1, 3) := by decide +kernel
theorem dX6_apart_41 : decode cX6_apart 41 = .ok (.goto (-31), 3) := by decide +kernel
theorem dX6_apart_44 : decode cX6_apart 44 = .ok (.iload 4, 2) := by decide +kernel
theorem dX6_apart_46 : decode cX6_apart 46 = .ok (.ireturn, 1) := by decide +kernel
theorem dX6_between_0 : decode cX6_between 0 = .ok (.aload_n 0, 1) := by decide +kernel
theorem dX6_between_1 : decode cX6_between 1 = .ok (.getfield 25, 3) := by decide +kernel
theorem dX6_between_4 : decode cX6_between 4 = .ok (.iload_n 1, 1) := by decide +kernel
theorem dX6_between_5 : decode cX6_between 5 = .ok (.bipush 40, 2) := by decide +kernel
theorem dX6_between_7 : decode cX6_between 7 = .ok (.imul, 1) := by decide +kernel
theorem dX6_between_8 : decode cX6_between 8 = .ok (.iload_n 2, 1) := by decide +kernel
theorem dX6_between_9 : decode cX6_between 9 = .ok (.iadd, 1) := by decide +kernel
theorem dX6_between_10 : decode cX6_between 10 = .ok (.iaload, 1) := by decide +kernel
theorem dX6_between_11 : decode cX6_between 11 = .ok (.ireturn, 1) := by decide +kernel
theorem dX6_setBetween_0 : decode cX6_setBetween 0 = .ok (.aload_n 0, 1) := by decide +kernel
theorem dX6_setBetween_1 : decode cX6_setBetween 1 = .ok (.getfield 25, 3) := by decide +kernel
theorem dX6_setBetween_4 : decode cX6_setBetween 4 = .ok (.iload_n 1, 1) := by decide +kernel
theorem dX6_setBetween_5 : decode cX6_setBetween 5 = .ok (.bipush 40, 2) := by decide +kernel
theorem dX6_setBetween_7 : decode cX6_setBetween 7 = .ok (.imul, 1) := by decide +kernel
theorem dX6_setBetween_8 : decode cX6_setBetween 8 = .ok (.iload_n 2, 1) := by decide +kernel
theorem dX6_setBetween_9 : decode cX6_setBetween 9 = .ok (.iadd, 1) := by decide +kernel
theorem dX6_setBetween_10 : decode cX6_setBetween 10 = .ok (.iload_n 3, 1) := by decide +kernel
theorem dX6_setBetween_11 : decode cX6_setBetween 11 = .ok (.iastore, 1) := by decide +kernel
theorem dX6_setBetween_12 : decode cX6_setBetween 12 = .ok (.aload_n 0, 1) := by decide +kernel
theorem dX6_setBetween_13 : decode cX6_setBetween 13 = .ok (.getfield 25, 3) := by decide +kernel
theorem dX6_setBetween_16 : decode cX6_setBetween 16 = .ok (.iload_n 2, 1) := by decide +kernel
theorem dX6_setBetween_17 : decode cX6_setBetween 17 = .ok (.bipush 40, 2) := by decide +kernel
theorem dX6_setBetween_19 : decode cX6_setBetween 19 = .ok (.imul, 1) := by decide +kernel
theorem dX6_setBetween_20 : decode cX6_setBetween 20 = .ok (.iload_n 1, 1) := by decide +kernel
theorem dX6_setBetween_21 : decode cX6_setBetween 21 = .ok (.iadd, 1) := by decide +kernel
theorem dX6_setBetween_22 : decode cX6_setBetween 22 = .ok (.iload_n 3, 1) := by decide +kernel
theorem dX6_setBetween_23 : decode cX6_setBetween 23 = .ok (.iastore, 1) := by decide +kernel
theorem dX6_setBetween_24 : decode cX6_setBetween 24 = .ok (.return_, 1) := by decide +kernel
theorem dX6_toGroup_0 : decode cX6_toGroup 0 = .ok (.iconst 0, 1) := by decide +kernel
theorem dX6_toGroup_1 : decode cX6_toGroup 1 = .ok (.istore 4, 2) := by decide +kernel
theorem dX6_toGroup_3 : decode cX6_toGroup 3 = .ok (.iconst 0, 1) := by decide +kernel
theorem dX6_toGroup_4 : decode cX6_toGroup 4 = .ok (.istore 5, 2) := by decide +kernel
theorem dX6_toGroup_6 : decode cX6_toGroup 6 = .ok (.iload 5, 2) := by decide +kernel
theorem dX6_toGroup_8 : decode cX6_toGroup 8 = .ok (.aload_n 0, 1) := by decide +kernel
theorem dX6_toGroup_9 : decode cX6_toGroup 9 = .ok (.getfield 34, 3) := by decide +kernel
theorem dX6_toGroup_12 : decode cX6_toGroup 12 = .ok (.if_icmp .ge 30, 3) := by decide +kernel
theorem dX6_toGroup_15 : decode cX6_toGroup 15 = .ok (.lload_n 2, 1) := by decide +kernel
theorem dX6_toGroup_16 : decode cX6_toGroup 16 = .ok (.iload 5, 2) := by decide +kernel
theorem dX6_toGroup_18 : decode cX6_toGroup 18 = .ok (.invokestatic 53, 3) := by decide +kernel
theorem dX6_toGroup_21 : decode cX6_toGroup 21 = .ok (.ifCond .eq 15, 3) := by decide +kernel
theorem dX6_toGroup_24 : decode cX6_toGroup 24 = .ok (.iload 4, 2) := by decide +kernel
theorem dX6_toGroup_26 : decode cX6_toGroup 26 = .ok (.aload_n 0, 1) := by decide +kernel
theorem dX6_toGroup_27 : decode cX6_toGroup 27 = .ok (.iload_n 1, 1) := by decide +kernel
theorem dX6_toGroup_28 : decode cX6_toGroup 28 = .ok (.iload 5, 2) := by decide +kernel
theorem dX6_toGroup_30 : decode cX6_toGroup 30 = .ok (.invokevirtual 50, 3) := by decide +kernel
theorem dX6_toGroup_33 : decode cX6_toGroup 33 = .ok (.iadd, 1) := by decide +kernel
theorem dX6_toGroup_34 : decode cX6_toGroup 34 = .ok (.istore 4, 2) := by decide +kernel
theorem dX6_toGroup_36 : decode cX6_toGroup 36 = .ok (.iinc 5 1, 3) := by decide +kernel
theorem dX6_toGroup_39 : decode cX6_toGroup 39 = .ok (.goto (-33), 3) := by decide +kernel
theorem dX6_toGroup_42 : decode cX6_toGroup 42 = .ok (.iload 4, 2) := by decide +kernel
theorem dX6_toGroup_44 : decode cX6_toGroup 44 = .ok (.ireturn, 1) := by decide +kernel
theorem dX6_ofYears_0 : decode cX6_ofYears 0 = .ok (.iconst 0, 1) := by decide +kernel
theorem dX6_ofYears_1 : decode cX6_ofYears 1 = .ok (.istore 5, 2) := by decide +kernel
theorem dX6_ofYears_3 : decode cX6_ofYears 3 = .ok (.iconst 0, 1) := by decide +kernel
theorem dX6_ofYears_4 : decode cX6_ofYears 4 = .ok (.istore 6, 2) := by decide +kernel
theorem dX6_ofYears_6 : decode cX6_ofYears 6 = .ok (.iload 6, 2) := by decide +kernel
theorem dX6_ofYears_8 : decode cX6_ofYears 8 = .ok (.aload_n 0, 1) := by decide +kernel
theorem dX6_ofYears_9 : decode cX6_ofYears 9 = .ok (.getfield 34, 3) := by decide +kernel
theorem dX6_ofYears_12 : decode cX6_ofYears 12 = .ok (.if_icmp .ge 37, 3) := by decide +kernel
theorem dX6_ofYears_15 : decode cX6_ofYears 15 = .ok (.lload_n 1, 1) := by decide +kernel
theorem dX6_ofYears_16 : decode cX6_ofYears 16 = .ok (.iload 6, 2) := by decide +kernel
theorem dX6_ofYears_18 : decode cX6_ofYears 18 = .ok (.invokestatic 53, 3) := by decide +kernel
theorem dX6_ofYears_21 : decode cX6_ofYears 21 = .ok (.ifCond .eq 22, 3) := by decide +kernel
theorem dX6_ofYears_24 : decode cX6_ofYears 24 = .ok (.aload_n 0, 1) := by decide +kernel
theorem dX6_ofYears_25 : decode cX6_ofYears 25 = .ok (.getfield 15, 3) := by decide +kernel
theorem dX6_ofYears_28 : decode cX6_ofYears 28 = .ok (.iload 6, 2) := by decide +kernel
theorem dX6_ofYears_30 : decode cX6_ofYears 30 = .ok (.iaload, 1) := by decide +kernel
theorem dX6_ofYears_31 : decode cX6_ofYears 31 = .ok (.iload_n 3, 1) := by decide +kernel
theorem dX6_ofYears_32 : decode cX6_ofYears 32 = .ok (.iload 4, 2) := by decide +kernel
theorem dX6_ofYears_34 : decode cX6_ofYears 34 = .ok (.invokestatic 57, 3) := by decide +kernel
theorem dX6_ofYears_37 : decode cX6_ofYears 37 = .ok (.ifCond .eq 6, 3) := by decide +kernel
theorem dX6_ofYears_40 : decode cX6_ofYears 40 = .ok (.iinc 5 1, 3) := by decide +kernel
theorem dX6_ofYears_43 : decode cX6_ofYears 43 = .ok (.iinc 6 1, 3) := by decide +kernel
theorem dX6_ofYears_46 : decode cX6_ofYears 46 = .ok (.goto (-40), 3) := by decide +kernel
theorem dX6_ofYears_49 : decode cX6_ofYears 49 = .ok (.iload 5, 2) := by decide +kernel
theorem dX6_ofYears_51 : decode cX6_ofYears 51 = .ok (.ireturn, 1) := by decide +kernel
theorem dX6_earliestYear_0 : decode cX6_earliestYear 0 = .ok (.sipush 1999, 3) := by decide +kernel
theorem dX6_earliestYear_3 : decode cX6_earliestYear 3 = .ok (.istore_n 3, 1) := by decide +kernel
theorem dX6_earliestYear_4 : decode cX6_earliestYear 4 = .ok (.iconst 0, 1) := by decide +kernel
theorem dX6_earliestYear_5 : decode cX6_earliestYear 5 = .ok (.istore 4, 2) := by decide +kernel
theorem dX6_earliestYear_7 : decode cX6_earliestYear 7 = .ok (.iload 4, 2) := by decide +kernel
theorem dX6_earliestYear_9 : decode cX6_earliestYear 9 = .ok (.aload_n 0, 1) := by decide +kernel
theorem dX6_earliestYear_10 : decode cX6_earliestYear 10 = .ok (.getfield 34, 3) := by decide +kernel
theorem dX6_earliestYear_13 : decode cX6_earliestYear 13 = .ok (.if_icmp .ge 30, 3) := by decide +kernel
theorem dX6_earliestYear_16 : decode cX6_earliestYear 16 = .ok (.lload_n 1, 1) := by decide +kernel
theorem dX6_earliestYear_17 : decode cX6_earliestYear 17 = .ok (.iload 4, 2) := by decide +kernel
theorem dX6_earliestYear_19 : decode cX6_earliestYear 19 = .ok (.invokestatic 53, 3) := by decide +kernel
theorem dX6_earliestYear_22 : decode cX6_earliestYear 22 = .ok (.ifCond .eq 15, 3) := by decide +kernel
theorem dX6_earliestYear_25 : decode cX6_earliestYear 25 = .ok (.iload_n 3, 1) := by decide +kernel
theorem dX6_earliestYear_26 : decode cX6_earliestYear 26 = .ok (.aload_n 0, 1) := by decide +kernel
theorem dX6_earliestYear_27 : decode cX6_earliestYear 27 = .ok (.getfield 15, 3) := by decide +kernel
theorem dX6_earliestYear_30 : decode cX6_earliestYear 30 = .ok (.iload 4, 2) := by decide +kernel
theorem dX6_earliestYear_32 : decode cX6_earliestYear 32 = .ok (.iaload, 1) := by decide +kernel
theorem dX6_earliestYear_33 : decode cX6_earliestYear 33 = .ok (.invokestatic 61, 3) := by decide +kernel
theorem dX6_earliestYear_36 : decode cX6_earliestYear 36 = .ok (.istore_n 3, 1) := by decide +kernel
theorem dX6_earliestYear_37 : decode cX6_earliestYear 37 = .ok (.iinc 4 1, 3) := by decide +kernel
theorem dX6_earliestYear_40 : decode cX6_earliestYear 40 = .ok (.goto (-33), 3) := by decide +kernel
theorem dX6_earliestYear_43 : decode cX6_earliestYear 43 = .ok (.iload_n 3, 1) := by decide +kernel
theorem dX6_earliestYear_44 : decode cX6_earliestYear 44 = .ok (.ireturn, 1) := by decide +kernel
theorem dX7_init_0 : decode cX7_init 0 = .ok (.aload_n 0, 1) := by decide +kernel
theorem dX7_init_1 : decode cX7_init 1 = .ok (.invokespecial 1, 3) := by decide +kernel
theorem dX7_init_4 : decode cX7_init 4 = .ok (.aload_n 0, 1) := by decide +kernel
theorem dX7_init_5 : decode cX7_init 5 = .ok (.new 7, 3) := by decide +kernel
theorem dX7_init_8 : decode cX7_init 8 = .ok (.dup, 1) := by decide +kernel
theorem dX7_init_9 : decode cX7_init 9 = .ok (.invokespecial 9, 3) := by decide +kernel
theorem dX7_init_12 : decode cX7_init 12 = .ok (.putfield 10, 3) := by decide +kernel
theorem dX7_init_15 : decode cX7_init 15 = .ok (.aload_n 0, 1) := by decide +kernel
theorem dX7_init_16 : decode cX7_init 16 = .ok (.new 16, 3) := by decide +kernel
theorem dX7_init_19 : decode cX7_init 19 = .ok (.dup, 1) := by decide +kernel
theorem dX7_init_20 : decode cX7_init 20 = .ok (.invokespecial 18, 3) := by decide +kernel
theorem dX7_init_23 : decode cX7_init 23 = .ok (.putfield 19, 3) := by decide +kernel
theorem dX7_init_26 : decode cX7_init 26 = .ok (.aload_n 0, 1) := by decide +kernel
theorem dX7_init_27 : decode cX7_init 27 = .ok (.new 23, 3) := by decide +kernel
theorem dX7_init_30 : decode cX7_init 30 = .ok (.dup, 1) := by decide +kernel
theorem dX7_init_31 : decode cX7_init 31 = .ok (.aload_n 0, 1) := by decide +kernel
theorem dX7_init_32 : decode cX7_init 32 = .ok (.getfield 10, 3) := by decide +kernel
theorem dX7_init_35 : decode cX7_init 35 = .ok (.invokespecial 25, 3) := by decide +kernel
theorem dX7_init_38 : decode cX7_init 38 = .ok (.putfield 28, 3) := by decide +kernel
theorem dX7_init_41 : decode cX7_init 41 = .ok (.aload_n 0, 1) := by decide +kernel
theorem dX7_init_42 : decode cX7_init 42 = .ok (.new 32, 3) := by decide +kernel
theorem dX7_init_45 : decode cX7_init 45 = .ok (.dup, 1) := by decide +kernel
theorem dX7_init_46 : decode cX7_init 46 = .ok (.aload_n 0, 1) := by decide +kernel
theorem dX7_init_47 : decode cX7_init 47 = .ok (.getfield 10, 3) := by decide +kernel
theorem dX7_init_50 : decode cX7_init 50 = .ok (.aload_n 0, 1) := by decide +kernel
theorem dX7_init_51 : decode cX7_init 51 = .ok (.getfield 19, 3) := by decide +kernel
theorem dX7_init_54 : decode cX7_init 54 = .ok (.aload_n 0, 1) := by decide +kernel
theorem dX7_init_55 : decode cX7_init 55 = .ok (.getfield 28, 3) := by decide +kernel
theorem dX7_init_58 : decode cX7_init 58 = .ok (.invokespecial 34, 3) := by decide +kernel
theorem dX7_init_61 : decode cX7_init 61 = .ok (.putfield 37, 3) := by decide +kernel
theorem dX7_init_64 : decode cX7_init 64 = .ok (.aload_n 0, 1) := by decide +kernel
theorem dX7_init_65 : decode cX7_init 65 = .ok (.new 41, 3) := by decide +kernel
theorem dX7_init_68 : decode cX7_init 68 = .ok (.dup, 1) := by decide +kernel
theorem dX7_init_69 : decode cX7_init 69 = .ok (.aload_n 0, 1) := by decide +kernel
theorem dX7_init_70 : decode cX7_init 70 = .ok (.getfield 10, 3) := by decide +kernel
theorem dX7_init_73 : decode cX7_init 73 = .ok (.aload_n 0, 1) := by decide +kernel
theorem dX7_init_74 : decode cX7_init 74 = .ok (.getfield 19, 3) := by decide +kernel
theorem dX7_init_77 : decode cX7_init 77 = .ok (.invokespecial 43, 3) := by decide +kernel
theorem dX7_init_80 : decode cX7_init 80 = .ok (.putfield 46, 3) := by decide +kernel
theorem dX7_init_83 : decode cX7_init 83 = .ok (.aload_n 0, 1) := by decide +kernel
theorem dX7_init_84 : decode cX7_init 84 = .ok (.new 50, 3) := by decide +kernel
theorem dX7_init_87 : decode cX7_init 87 = .ok (.dup, 1) := by decide +kernel
theorem dX7_init_88 : decode cX7_init 88 = .ok (.aload_n 0, 1) := by decide +kernel
theorem dX7_init_89 : decode cX7_init 89 = .ok (.getfield 10, 3) := by decide +kernel
theorem dX7_init_92 : decode cX7_init 92 = .ok (.invokespecial 52, 3) := by decide +kernel
theorem dX7_init_95 : decode cX7_init 95 = .ok (.putfield 53, 3) := by decide +kernel
theorem dX7_init_98 : decode cX7_init 98 = .ok (.aload_n 0, 1) := by decide +kernel
theorem dX7_init_99 : decode cX7_init 99 = .ok (.new 57, 3) := by decide +kernel
theorem dX7_init_102 : decode cX7_init 102 = .ok (.dup, 1) := by decide +kernel
theorem dX7_init_103 : decode cX7_init 103 = .ok (.aload_n 0, 1) := by decide +kernel
theorem dX7_init_104 : decode cX7_init 104 = .ok (.getfield 10, 3) := by decide +kernel
theorem dX7_init_107 : decode cX7_init 107 = .ok (.aload_n 0, 1) := by decide +kernel
theorem dX7_init_108 : decode cX7_init 108 = .ok (.getfield 28, 3) := by decide +kernel
theorem dX7_init_111 : decode cX7_init 111 = .ok (.aload_n 0, 1) := by decide +kernel
theorem dX7_init_112 : decode cX7_init 112 = .ok (.getfield 53, 3) := by decide +kernel
theorem dX7_init_115 : decode cX7_init 115 = .ok (.invokespecial 59, 3) := by decide +kernel
theorem dX7_init_118 : decode cX7_init 118 = .ok (.putfield 62, 3) := by decide +kernel
theorem dX7_init_121 : decode cX7_init 121 = .ok (.return_, 1) := by decide +kernel
theorem dX7_weight_0 : decode cX7_weight 0 = .ok (.iload_n 1, 1) := by decide +kernel
theorem dX7_weight_1 : decode cX7_weight 1 = .ok (.iconst 0, 1) := by decide +kernel
theorem dX7_weight_2 : decode cX7_weight 2 = .ok (.bipush 19, 2) := by decide +kernel
theorem dX7_weight_4 : decode cX7_weight 4 = .ok (.invokestatic 66, 3) := by decide +kernel
theorem dX7_weight_7 : decode cX7_weight 7 = .ok (.ifCond .eq 13, 3) := by decide +kernel
theorem dX7_weight_10 : decode cX7_weight 10 = .ok (.iload_n 2, 1) := by decide +kernel
theorem dX7_weight_11 : decode cX7_weight 11 = .ok (.iconst 1, 1) := by decide +kernel
theorem dX7_weight_12 : decode cX7_weight 12 = .ok (.bipush 9, 2) := by decide +kernel
theorem dX7_weight_14 : decode cX7_weight 14 = .ok (.invokestatic 66, 3) := by decide +kernel
theorem dX7_weight_17 : decode cX7_weight 17 = .ok (.ifCond .ne 5, 3) := by decide +kernel
theorem dX7_weight_20 : decode cX7_weight 20 = .ok (.iconst 0, 1) := by decide +kernel
theorem dX7_weight_21 : decode cX7_weight 21 = .ok (.ireturn, 1) := by decide +kernel
theorem dX7_weight_22 : decode cX7_weight 22 = .ok (.aload_n 0, 1) := by decide +kernel
theorem dX7_weight_23 : decode cX7_weight 23 = .ok (.getfield 10, 3) := by decide +kernel
theorem dX7_weight_26 : decode cX7_weight 26 = .ok (.iload_n 1, 1) := by decide +kernel
theorem dX7_weight_27 : decode cX7_weight 27 = .ok (.iload_n 2, 1) := by decide +kernel
theorem dX7_weight_28 : decode cX7_weight 28 = .ok (.invokevirtual 70, 3) := by decide +kernel
theorem dX7_weight_31 : decode cX7_weight 31 = .ok (.iconst 1, 1) := by decide +kernel
theorem dX7_weight_32 : decode cX7_weight 32 = .ok (.ireturn, 1) := by decide +kernel
theorem dX7_prices_0 : decode cX7_prices 0 = .ok (.iload_n 1, 1) := by decide +kernel
theorem dX7_prices_1 : decode cX7_prices 1 = .ok (.iconst 0, 1) := by decide +kernel
theorem dX7_prices_2 : decode cX7_prices 2 = .ok (.sipush 200, 3) := by decide +kernel
theorem dX7_prices_5 : decode cX7_prices 5 = .ok (.invokestatic 66, 3) := by decide +kernel
theorem dX7_prices_8 : decode cX7_prices 8 = .ok (.ifCond .eq 13, 3) := by decide +kernel
theorem dX7_prices_11 : decode cX7_prices 11 = .ok (.iload_n 2, 1) := by decide +kernel
theorem dX7_prices_12 : decode cX7_prices 12 = .ok (.iconst 0, 1) := by decide +kernel
theorem dX7_prices_13 : decode cX7_prices 13 = .ok (.bipush 50, 2) := by decide +kernel
theorem dX7_prices_15 : decode cX7_prices 15 = .ok (.invokestatic 66, 3) := by decide +kernel
theorem dX7_prices_18 : decode cX7_prices 18 = .ok (.ifCond .ne 5, 3) := by decide +kernel
theorem dX7_prices_21 : decode cX7_prices 21 = .ok (.iconst 0, 1) := by decide +kernel
theorem dX7_prices_22 : decode cX7_prices 22 = .ok (.ireturn, 1) := by decide +kernel
theorem dX7_prices_23 : decode cX7_prices 23 = .ok (.aload_n 0, 1) := by decide +kernel
theorem dX7_prices_24 : decode cX7_prices 24 = .ok (.getfield 28, 3) := by decide +kernel
theorem dX7_prices_27 : decode cX7_prices 27 = .ok (.iload_n 1, 1) := by decide +kernel
theorem dX7_prices_28 : decode cX7_prices 28 = .ok (.putfield 74, 3) := by decide +kernel
theorem dX7_prices_31 : decode cX7_prices 31 = .ok (.aload_n 0, 1) := by decide +kernel
theorem dX7_prices_32 : decode cX7_prices 32 = .ok (.getfield 28, 3) := by decide +kernel
theorem dX7_prices_35 : decode cX7_prices 35 = .ok (.iload_n 2, 1) := by decide +kernel
theorem dX7_prices_36 : decode cX7_prices 36 = .ok (.putfield 78, 3) := by decide +kernel
theorem dX7_prices_39 : decode cX7_prices 39 = .ok (.iconst 1, 1) := by decide +kernel
theorem dX7_prices_40 : decode cX7_prices 40 = .ok (.ireturn, 1) := by decide +kernel
theorem dX7_marks_0 : decode cX7_marks 0 = .ok (.iload_n 1, 1) := by decide +kernel
theorem dX7_marks_1 : decode cX7_marks 1 = .ok (.iconst 0, 1) := by decide +kernel
theorem dX7_marks_2 : decode cX7_marks 2 = .ok (.bipush 100, 2) := by decide +kernel
theorem dX7_marks_4 : decode cX7_marks 4 = .ok (.invokestatic 66, 3) := by decide +kernel
theorem dX7_marks_7 : decode cX7_marks 7 = .ok (.ifCond .eq 13, 3) := by decide +kernel
theorem dX7_marks_10 : decode cX7_marks 10 = .ok (.iload_n 2, 1) := by decide +kernel
theorem dX7_marks_11 : decode cX7_marks 11 = .ok (.iconst 0, 1) := by decide +kernel
theorem dX7_marks_12 : decode cX7_marks 12 = .ok (.bipush 9, 2) := by decide +kernel
theorem dX7_marks_14 : decode cX7_marks 14 = .ok (.invokestatic 66, 3) := by decide +kernel
theorem dX7_marks_17 : decode cX7_marks 17 = .ok (.ifCond .ne 5, 3) := by decide +kernel
theorem dX7_marks_20 : decode cX7_marks 20 = .ok (.iconst 0, 1) := by decide +kernel
theorem dX7_marks_21 : decode cX7_marks 21 = .ok (.ireturn, 1) := by decide +kernel
theorem dX7_marks_22 : decode cX7_marks 22 = .ok (.aload_n 0, 1) := by decide +kernel
theorem dX7_marks_23 : decode cX7_marks 23 = .ok (.getfield 53, 3) := by decide +kernel
theorem dX7_marks_26 : decode cX7_marks 26 = .ok (.iload_n 1, 1) := by decide +kernel
theorem dX7_marks_27 : decode cX7_marks 27 = .ok (.putfield 81, 3) := by decide +kernel
theorem dX7_marks_30 : decode cX7_marks 30 = .ok (.aload_n 0, 1) := by decide +kernel
theorem dX7_marks_31 : decode cX7_marks 31 = .ok (.getfield 53, 3) := by decide +kernel
theorem dX7_marks_34 : decode cX7_marks 34 = .ok (.iload_n 2, 1) := by decide +kernel
theorem dX7_marks_35 : decode cX7_marks 35 = .ok (.putfield 84, 3) := by decide +kernel
theorem dX7_marks_38 : decode cX7_marks 38 = .ok (.iconst 1, 1) := by decide +kernel
theorem dX7_marks_39 : decode cX7_marks 39 = .ok (.ireturn, 1) := by decide +kernel
theorem dX7_use_0 : decode cX7_use 0 = .ok (.iload_n 1, 1) := by decide +kernel
theorem dX7_use_1 : decode cX7_use 1 = .ok (.iconst 0, 1) := by decide +kernel
theorem dX7_use_2 : decode cX7_use 2 = .ok (.ldc 87, 2) := by decide +kernel
theorem dX7_use_4 : decode cX7_use 4 = .ok (.invokestatic 66, 3) := by decide +kernel
theorem dX7_use_7 : decode cX7_use 7 = .ok (.ifCond .eq 16, 3) := by decide +kernel
theorem dX7_use_10 : decode cX7_use 10 = .ok (.iload_n 2, 1) := by decide +kernel
theorem dX7_use_11 : decode cX7_use 11 = .ok (.sipush 1800, 3) := by decide +kernel
theorem dX7_use_14 : decode cX7_use 14 = .ok (.sipush 1999, 3) := by decide +kernel
theorem dX7_use_17 : decode cX7_use 17 = .ok (.invokestatic 66, 3) := by decide +kernel
theorem dX7_use_20 : decode cX7_use 20 = .ok (.ifCond .ne 5, 3) := by decide +kernel
theorem dX7_use_23 : decode cX7_use 23 = .ok (.iconst (-1), 1) := by decide +kernel
theorem dX7_use_24 : decode cX7_use 24 = .ok (.ireturn, 1) := by decide +kernel
theorem dX7_use_25 : decode cX7_use 25 = .ok (.aload_n 0, 1) := by decide +kernel
theorem dX7_use_26 : decode cX7_use 26 = .ok (.getfield 10, 3) := by decide +kernel
theorem dX7_use_29 : decode cX7_use 29 = .ok (.getfield 88, 3) := by decide +kernel
theorem dX7_use_32 : decode cX7_use 32 = .ok (.bipush 40, 2) := by decide +kernel
theorem dX7_use_34 : decode cX7_use 34 = .ok (.if_icmp .lt 5, 3) := by decide +kernel
theorem dX7_use_37 : decode cX7_use 37 = .ok (.iconst (-1), 1) := by decide +kernel
theorem dX7_use_38 : decode cX7_use 38 = .ok (.ireturn, 1) := by decide +kernel
theorem dX7_use_39 : decode cX7_use 39 = .ok (.aload_n 0, 1) := by decide +kernel
theorem dX7_use_40 : decode cX7_use 40 = .ok (.getfield 10, 3) := by decide +kernel
theorem dX7_use_43 : decode cX7_use 43 = .ok (.iload_n 1, 1) := by decide +kernel
theorem dX7_use_44 : decode cX7_use 44 = .ok (.iload_n 2, 1) := by decide +kernel
theorem dX7_use_45 : decode cX7_use 45 = .ok (.invokevirtual 91, 3) := by decide +kernel
theorem dX7_use_48 : decode cX7_use 48 = .ok (.istore_n 3, 1) := by decide +kernel
theorem dX7_use_49 : decode cX7_use 49 = .ok (.aload_n 0, 1) := by decide +kernel
theorem dX7_use_50 : decode cX7_use 50 = .ok (.getfield 28, 3) := by decide +kernel
theorem dX7_use_53 : decode cX7_use 53 = .ok (.iload_n 3, 1) := by decide +kernel
theorem dX7_use_54 : decode cX7_use 54 = .ok (.invokevirtual 95, 3) := by decide +kernel
theorem dX7_use_57 : decode cX7_use 57 = .ok (.iload_n 3, 1) := by decide +kernel
theorem dX7_use_58 : decode cX7_use 58 = .ok (.ireturn, 1) := by decide +kernel
theorem dX7_fix_0 : decode cX7_fix 0 = .ok (.aload_n 0, 1) := by decide +kernel
theorem dX7_fix_1 : decode cX7_fix 1 = .ok (.getfield 10, 3) := by decide +kernel
theorem dX7_fix_4 : decode cX7_fix 4 = .ok (.iload_n 1, 1) := by decide +kernel
theorem dX7_fix_5 : decode cX7_fix 5 = .ok (.invokevirtual 99, 3) := by decide +kernel
theorem dX7_fix_8 : decode cX7_fix 8 = .ok (.ifCond .ne 5, 3) := by decide +kernel
theorem dX7_fix_11 : decode cX7_fix 11 = .ok (.iconst 0, 1) := by decide +kernel
theorem dX7_fix_12 : decode cX7_fix 12 = .ok (.ireturn, 1) := by decide +kernel
theorem dX7_fix_13 : decode cX7_fix 13 = .ok (.iload_n 2, 1) := by decide +kernel
theorem dX7_fix_14 : decode cX7_fix 14 = .ok (.iconst (-1), 1) := by decide +kernel
theorem dX7_fix_15 : decode cX7_fix 15 = .ok (.if_icmp .ne 13, 3) := by decide +kernel
theorem dX7_fix_18 : decode cX7_fix 18 = .ok (.aload_n 0, 1) := by decide +kernel
theorem dX7_fix_19 : decode cX7_fix 19 = .ok (.getfield 28, 3) := by decide +kernel
theorem dX7_fix_22 : decode cX7_fix 22 = .ok (.iload_n 1, 1) := by decide +kernel
theorem dX7_fix_23 : decode cX7_fix 23 = .ok (.invokevirtual 103, 3) := by decide +kernel
theorem dX7_fix_26 : decode cX7_fix 26 = .ok (.iconst 1, 1) := by decide +kernel
theorem dX7_fix_27 : decode cX7_fix 27 = .ok (.ireturn, 1) := by decide +kernel
theorem dX7_fix_28 : decode cX7_fix 28 = .ok (.iload_n 2, 1) := by decide +kernel
theorem dX7_fix_29 : decode cX7_fix 29 = .ok (.iload_n 1, 1) := by decide +kernel
theorem dX7_fix_30 : decode cX7_fix 30 = .ok (.if_icmp .ne 13, 3) := by decide +kernel
theorem dX7_fix_33 : decode cX7_fix 33 = .ok (.aload_n 0, 1) := by decide +kernel
theorem dX7_fix_34 : decode cX7_fix 34 = .ok (.getfield 28, 3) := by decide +kernel
theorem dX7_fix_37 : decode cX7_fix 37 = .ok (.iload_n 1, 1) := by decide +kernel
theorem dX7_fix_38 : decode cX7_fix 38 = .ok (.invokevirtual 106, 3) := by decide +kernel
theorem dX7_fix_41 : decode cX7_fix 41 = .ok (.iconst 1, 1) := by decide +kernel
theorem dX7_fix_42 : decode cX7_fix 42 = .ok (.ireturn, 1) := by decide +kernel
theorem dX7_fix_43 : decode cX7_fix 43 = .ok (.aload_n 0, 1) := by decide +kernel
theorem dX7_fix_44 : decode cX7_fix 44 = .ok (.getfield 10, 3) := by decide +kernel
theorem dX7_fix_47 : decode cX7_fix 47 = .ok (.iload_n 2, 1) := by decide +kernel
theorem dX7_fix_48 : decode cX7_fix 48 = .ok (.invokevirtual 99, 3) := by decide +kernel
theorem dX7_fix_51 : decode cX7_fix 51 = .ok (.ifCond .eq 14, 3) := by decide +kernel
theorem dX7_fix_54 : decode cX7_fix 54 = .ok (.aload_n 0, 1) := by decide +kernel
theorem dX7_fix_55 : decode cX7_fix 55 = .ok (.getfield 28, 3) := by decide +kernel
theorem dX7_fix_58 : decode cX7_fix 58 = .ok (.iload_n 2, 1) := by decide +kernel
theorem dX7_fix_59 : decode cX7_fix 59 = .ok (.invokevirtual 109, 3) := by decide +kernel
theorem dX7_fix_62 : decode cX7_fix 62 = .ok (.ifCond .eq 5, 3) := by decide +kernel
theorem dX7_fix_65 : decode cX7_fix 65 = .ok (.iconst 0, 1) := by decide +kernel
theorem dX7_fix_66 : decode cX7_fix 66 = .ok (.ireturn, 1) := by decide +kernel
theorem dX7_fix_67 : decode cX7_fix 67 = .ok (.aload_n 0, 1) := by decide +kernel
theorem dX7_fix_68 : decode cX7_fix 68 = .ok (.getfield 28, 3) := by decide +kernel
theorem dX7_fix_71 : decode cX7_fix 71 = .ok (.iload_n 1, 1) := by decide +kernel
theorem dX7_fix_72 : decode cX7_fix 72 = .ok (.aload_n 0, 1) := by decide +kernel
theorem dX7_fix_73 : decode cX7_fix 73 = .ok (.getfield 28, 3) := by decide +kernel
theorem dX7_fix_76 : decode cX7_fix 76 = .ok (.getfield 112, 3) := by decide +kernel
theorem dX7_fix_79 : decode cX7_fix 79 = .ok (.iload_n 2, 1) := by decide +kernel
theorem dX7_fix_80 : decode cX7_fix 80 = .ok (.iaload, 1) := by decide +kernel
theorem dX7_fix_81 : decode cX7_fix 81 = .ok (.invokevirtual 116, 3) := by decide +kernel
theorem dX7_fix_84 : decode cX7_fix 84 = .ok (.iconst 1, 1) := by decide +kernel
theorem dX7_fix_85 : decode cX7_fix 85 = .ok (.ireturn, 1) := by decide +kernel
theorem dX7_bond_0 : decode cX7_bond 0 = .ok (.aload_n 0, 1) := by decide +kernel
theorem dX7_bond_1 : decode cX7_bond 1 = .ok (.iload_n 1, 1) := by decide +kernel
theorem dX7_bond_2 : decode cX7_bond 2 = .ok (.iload_n 2, 1) := by decide +kernel
theorem dX7_bond_3 : decode cX7_bond 3 = .ok (.invokevirtual 119, 3) := by decide +kernel
theorem dX7_bond_6 : decode cX7_bond 6 = .ok (.ifCond .eq 20, 3) := by decide +kernel
theorem dX7_bond_9 : decode cX7_bond 9 = .ok (.aload_n 0, 1) := by decide +kernel
theorem dX7_bond_10 : decode cX7_bond 10 = .ok (.getfield 19, 3) := by decide +kernel
theorem dX7_bond_13 : decode cX7_bond 13 = .ok (.iload_n 1, 1) := by decide +kernel
theorem dX7_bond_14 : decode cX7_bond 14 = .ok (.iload_n 2, 1) := by decide +kernel
theorem dX7_bond_15 : decode cX7_bond 15 = .ok (.iload_n 3, 1) := by decide +kernel
theorem dX7_bond_16 : decode cX7_bond 16 = .ok (.invokevirtual 123, 3) := by decide +kernel
theorem dX7_bond_19 : decode cX7_bond 19 = .ok (.ifCond .eq 7, 3) := by decide +kernel
theorem dX7_bond_22 : decode cX7_bond 22 = .ok (.iconst 1, 1) := by decide +kernel
theorem dX7_bond_23 : decode cX7_bond 23 = .ok (.goto 4, 3) := by decide +kernel
theorem dX7_bond_26 : decode cX7_bond 26 = .ok (.iconst 0, 1) := by decide +kernel
theorem dX7_bond_27 : decode cX7_bond 27 = .ok (.ireturn, 1) := by decide +kernel
theorem dX7_free_0 : decode cX7_free 0 = .ok (.aload_n 0, 1) := by decide +kernel
theorem dX7_free_1 : decode cX7_free 1 = .ok (.iload_n 1, 1) := by decide +kernel
theorem dX7_free_2 : decode cX7_free 2 = .ok (.iload_n 2, 1) := by decide +kernel
theorem dX7_free_3 : decode cX7_free 3 = .ok (.invokevirtual 119, 3) := by decide +kernel
theorem dX7_free_6 : decode cX7_free 6 = .ok (.ifCond .eq 19, 3) := by decide +kernel
theorem dX7_free_9 : decode cX7_free 9 = .ok (.aload_n 0, 1) := by decide +kernel
theorem dX7_free_10 : decode cX7_free 10 = .ok (.getfield 19, 3) := by decide +kernel
theorem dX7_free_13 : decode cX7_free 13 = .ok (.iload_n 1, 1) := by decide +kernel
theorem dX7_free_14 : decode cX7_free 14 = .ok (.iload_n 2, 1) := by decide +kernel
theorem dX7_free_15 : decode cX7_free 15 = .ok (.invokevirtual 127, 3) := by decide +kernel
theorem dX7_free_18 : decode cX7_free 18 = .ok (.ifCond .eq 7, 3) := by decide +kernel
theorem dX7_free_21 : decode cX7_free 21 = .ok (.iconst 1, 1) := by decide +kernel
theorem dX7_free_22 : decode cX7_free 22 = .ok (.goto 4, 3) := by decide +kernel
theorem dX7_free_25 : decode cX7_free 25 = .ok (.iconst 0, 1) := by decide +kernel
theorem dX7_free_26 : decode cX7_free 26 = .ok (.ireturn, 1) := by decide +kernel
theorem dX7_settle_0 : decode cX7_settle 0 = .ok (.iload_n 1, 1) := by decide +kernel
theorem dX7_settle_1 : decode cX7_settle 1 = .ok (.iconst 0, 1) := by decide +kernel
theorem dX7_settle_2 : decode cX7_settle 2 = .ok (.bipush 100, 2) := by decide +kernel
theorem dX7_settle_4 : decode cX7_settle 4 = .ok (.invokestatic 66, 3) := by decide +kernel
theorem dX7_settle_7 : decode cX7_settle 7 = .ok (.ifCond .ne 5, 3) := by decide +kernel
theorem dX7_settle_10 : decode cX7_settle 10 = .ok (.iconst (-1), 1) := by decide +kernel
theorem dX7_settle_11 : decode cX7_settle 11 = .ok (.ireturn, 1) := by decide +kernel
theorem dX7_settle_12 : decode cX7_settle 12 = .ok (.aload_n 0, 1) := by decide +kernel
theorem dX7_settle_13 : decode cX7_settle 13 = .ok (.getfield 37, 3) := by decide +kernel
theorem dX7_settle_16 : decode cX7_settle 16 = .ok (.iload_n 1, 1) := by decide +kernel
theorem dX7_settle_17 : decode cX7_settle 17 = .ok (.invokevirtual 130, 3) := by decide +kernel
theorem dX7_settle_20 : decode cX7_settle 20 = .ok (.ireturn, 1) := by decide +kernel
theorem dX7_heap_0 : decode cX7_heap 0 = .ok (.aload_n 0, 1) := by decide +kernel
theorem dX7_heap_1 : decode cX7_heap 1 = .ok (.getfield 10, 3) := by decide +kernel
theorem dX7_heap_4 : decode cX7_heap 4 = .ok (.iload_n 1, 1) := by decide +kernel
theorem dX7_heap_5 : decode cX7_heap 5 = .ok (.invokevirtual 99, 3) := by decide +kernel
theorem dX7_heap_8 : decode cX7_heap 8 = .ok (.ifCond .eq 15, 3) := by decide +kernel
theorem dX7_heap_11 : decode cX7_heap 11 = .ok (.aload_n 0, 1) := by decide +kernel
theorem dX7_heap_12 : decode cX7_heap 12 = .ok (.getfield 28, 3) := by decide +kernel
theorem dX7_heap_15 : decode cX7_heap 15 = .ok (.getfield 112, 3) := by decide +kernel
theorem dX7_heap_18 : decode cX7_heap 18 = .ok (.iload_n 1, 1) := by decide +kernel
theorem dX7_heap_19 : decode cX7_heap 19 = .ok (.iaload, 1) := by decide +kernel
theorem dX7_heap_20 : decode cX7_heap 20 = .ok (.goto 4, 3) := by decide +kernel
theorem dX7_heap_23 : decode cX7_heap 23 = .ok (.iconst (-1), 1) := by decide +kernel
theorem dX7_heap_24 : decode cX7_heap 24 = .ok (.ireturn, 1) := by decide +kernel
theorem dX7_size_0 : decode cX7_size 0 = .ok (.aload_n 0, 1) := by decide +kernel
theorem dX7_size_1 : decode cX7_size 1 = .ok (.iload_n 1, 1) := by decide +kernel
theorem dX7_size_2 : decode cX7_size 2 = .ok (.invokevirtual 134, 3) := by decide +kernel
theorem dX7_size_5 : decode cX7_size 5 = .ok (.invokestatic 138, 3) := by decide +kernel
theorem dX7_size_8 : decode cX7_size 8 = .ok (.ireturn, 1) := by decide +kernel
theorem dX7_far_0 : decode cX7_far 0 = .ok (.aload_n 0, 1) := by decide +kernel
theorem dX7_far_1 : decode cX7_far 1 = .ok (.getfield 10, 3) := by decide +kernel
theorem dX7_far_4 : decode cX7_far 4 = .ok (.iload_n 1, 1) := by decide +kernel
theorem dX7_far_5 : decode cX7_far 5 = .ok (.invokevirtual 99, 3) := by decide +kernel
theorem dX7_far_8 : decode cX7_far 8 = .ok (.ifCond .eq 26, 3) := by decide +kernel
theorem dX7_far_11 : decode cX7_far 11 = .ok (.aload_n 0, 1) := by decide +kernel
theorem dX7_far_12 : decode cX7_far 12 = .ok (.getfield 10, 3) := by decide +kernel
theorem dX7_far_15 : decode cX7_far 15 = .ok (.iload_n 2, 1) := by decide +kernel
theorem dX7_far_16 : decode cX7_far 16 = .ok (.invokevirtual 99, 3) := by decide +kernel
theorem dX7_far_19 : decode cX7_far 19 = .ok (.ifCond .eq 15, 3) := by decide +kernel
theorem dX7_far_22 : decode cX7_far 22 = .ok (.aload_n 0, 1) := by decide +kernel
theorem dX7_far_23 : decode cX7_far 23 = .ok (.getfield 10, 3) := by decide +kernel
theorem dX7_far_26 : decode cX7_far 26 = .ok (.iload_n 1, 1) := by decide +kernel
theorem dX7_far_27 : decode cX7_far 27 = .ok (.iload_n 2, 1) := by decide +kernel
theorem dX7_far_28 : decode cX7_far 28 = .ok (.invokevirtual 144, 3) := by decide +kernel
theorem dX7_far_31 : decode cX7_far 31 = .ok (.goto 4, 3) := by decide +kernel
theorem dX7_far_34 : decode cX7_far 34 = .ok (.iconst (-1), 1) := by decide +kernel
theorem dX7_far_35 : decode cX7_far 35 = .ok (.ireturn, 1) := by decide +kernel
theorem dX7_cost_0 : decode cX7_cost 0 = .ok (.aload_n 0, 1) := by decide +kernel
theorem dX7_cost_1 : decode cX7_cost 1 = .ok (.getfield 28, 3) := by decide +kernel
theorem dX7_cost_4 : decode cX7_cost 4 = .ok (.invokevirtual 147, 3) := by decide +kernel
theorem dX7_cost_7 : decode cX7_cost 7 = .ok (.ireturn, 1) := by decide +kernel
theorem dX7_broken_0 : decode cX7_broken 0 = .ok (.aload_n 0, 1) := by decide +kernel
theorem dX7_broken_1 : decode cX7_broken 1 = .ok (.getfield 19, 3) := by decide +kernel
theorem dX7_broken_4 : decode cX7_broken 4 = .ok (.aload_n 0, 1) := by decide +kernel
theorem dX7_broken_5 : decode cX7_broken 5 = .ok (.getfield 28, 3) := by decide +kernel
theorem dX7_broken_8 : decode cX7_broken 8 = .ok (.invokevirtual 151, 3) := by decide +kernel
theorem dX7_broken_11 : decode cX7_broken 11 = .ok (.ireturn, 1) := by decide +kernel
theorem dX7_best_0 : decode cX7_best 0 = .ok (.aload_n 0, 1) := by decide +kernel
theorem dX7_best_1 : decode cX7_best 1 = .ok (.getfield 10, 3) := by decide +kernel
theorem dX7_best_4 : decode cX7_best 4 = .ok (.getfield 88, 3) := by decide +kernel
theorem dX7_best_7 : decode cX7_best 7 = .ok (.iconst 1, 1) := by decide +kernel
theorem dX7_best_8 : decode cX7_best 8 = .ok (.bipush 7, 2) := by decide +kernel
theorem dX7_best_10 : decode cX7_best 10 = .ok (.invokestatic 66, 3) := by decide +kernel
theorem dX7_best_13 : decode cX7_best 13 = .ok (.ifCond .ne 5, 3) := by decide +kernel
theorem dX7_best_16 : decode cX7_best 16 = .ok (.iconst (-1), 1) := by decide +kernel
theorem dX7_best_17 : decode cX7_best 17 = .ok (.ireturn, 1) := by decide +kernel
theorem dX7_best_18 : decode cX7_best 18 = .ok (.aload_n 0, 1) := by decide +kernel
theorem dX7_best_19 : decode cX7_best 19 = .ok (.getfield 46, 3) := by decide +kernel
theorem dX7_best_22 : decode cX7_best 22 = .ok (.aload_n 0, 1) := by decide +kernel
theorem dX7_best_23 : decode cX7_best 23 = .ok (.getfield 28, 3) := by decide +kernel
theorem dX7_best_26 : decode cX7_best 26 = .ok (.getfield 74, 3) := by decide +kernel
theorem dX7_best_29 : decode cX7_best 29 = .ok (.invokevirtual 155, 3) := by decide +kernel
theorem dX7_best_32 : decode cX7_best 32 = .ok (.ireturn, 1) := by decide +kernel
theorem dX7_name_0 : decode cX7_name 0 = .ok (.aload_n 0, 1) := by decide +kernel
theorem dX7_name_1 : decode cX7_name 1 = .ok (.iload_n 1, 1) := by decide +kernel
theorem dX7_name_2 : decode cX7_name 2 = .ok (.invokevirtual 134, 3) := by decide +kernel
theorem dX7_name_5 : decode cX7_name 5 = .ok (.lstore_n 2, 1) := by decide +kernel
theorem dX7_name_6 : decode cX7_name 6 = .ok (.lload_n 2, 1) := by decide +kernel
theorem dX7_name_7 : decode cX7_name 7 = .ok (.lconst 0, 1) := by decide +kernel
theorem dX7_name_8 : decode cX7_name 8 = .ok (.lcmp, 1) := by decide +kernel
theorem dX7_name_9 : decode cX7_name 9 = .ok (.ifCond .ne 7, 3) := by decide +kernel
theorem dX7_name_12 : decode cX7_name 12 = .ok (.iconst 0, 1) := by decide +kernel
theorem dX7_name_13 : decode cX7_name 13 = .ok (.goto 11, 3) := by decide +kernel
theorem dX7_name_16 : decode cX7_name 16 = .ok (.aload_n 0, 1) := by decide +kernel
theorem dX7_name_17 : decode cX7_name 17 = .ok (.getfield 53, 3) := by decide +kernel
theorem dX7_name_20 : decode cX7_name 20 = .ok (.lload_n 2, 1) := by decide +kernel
theorem dX7_name_21 : decode cX7_name 21 = .ok (.invokevirtual 158, 3) := by decide +kernel
theorem dX7_name_24 : decode cX7_name 24 = .ok (.ireturn, 1) := by decide +kernel
theorem dX7_core_0 : decode cX7_core 0 = .ok (.aload_n 0, 1) := by decide +kernel
theorem dX7_core_1 : decode cX7_core 1 = .ok (.iload_n 1, 1) := by decide +kernel
theorem dX7_core_2 : decode cX7_core 2 = .ok (.invokevirtual 134, 3) := by decide +kernel
theorem dX7_core_5 : decode cX7_core 5 = .ok (.lstore_n 2, 1) := by decide +kernel
theorem dX7_core_6 : decode cX7_core 6 = .ok (.lload_n 2, 1) := by decide +kernel
theorem dX7_core_7 : decode cX7_core 7 = .ok (.lconst 0, 1) := by decide +kernel
theorem dX7_core_8 : decode cX7_core 8 = .ok (.lcmp, 1) := by decide +kernel
theorem dX7_core_9 : decode cX7_core 9 = .ok (.ifCond .ne 7, 3) := by decide +kernel
theorem dX7_core_12 : decode cX7_core 12 = .ok (.iconst 0, 1) := by decide +kernel
theorem dX7_core_13 : decode cX7_core 13 = .ok (.goto 11, 3) := by decide +kernel
theorem dX7_core_16 : decode cX7_core 16 = .ok (.aload_n 0, 1) := by decide +kernel
theorem dX7_core_17 : decode cX7_core 17 = .ok (.getfield 53, 3) := by decide +kernel
theorem dX7_core_20 : decode cX7_core 20 = .ok (.lload_n 2, 1) := by decide +kernel
theorem dX7_core_21 : decode cX7_core 21 = .ok (.invokevirtual 161, 3) := by decide +kernel
theorem dX7_core_24 : decode cX7_core 24 = .ok (.ireturn, 1) := by decide +kernel
theorem dX7_sense_0 : decode cX7_sense 0 = .ok (.iload_n 1, 1) := by decide +kernel
theorem dX7_sense_1 : decode cX7_sense 1 = .ok (.iconst 0, 1) := by decide +kernel
theorem dX7_sense_2 : decode cX7_sense 2 = .ok (.ldc 87, 2) := by decide +kernel
theorem dX7_sense_4 : decode cX7_sense 4 = .ok (.invokestatic 66, 3) := by decide +kernel
theorem dX7_sense_7 : decode cX7_sense 7 = .ok (.ifCond .eq 14, 3) := by decide +kernel
theorem dX7_sense_10 : decode cX7_sense 10 = .ok (.aload_n 0, 1) := by decide +kernel
theorem dX7_sense_11 : decode cX7_sense 11 = .ok (.getfield 62, 3) := by decide +kernel
theorem dX7_sense_14 : decode cX7_sense 14 = .ok (.iload_n 1, 1) := by decide +kernel
theorem dX7_sense_15 : decode cX7_sense 15 = .ok (.invokevirtual 164, 3) := by decide +kernel
theorem dX7_sense_18 : decode cX7_sense 18 = .ok (.goto 4, 3) := by decide +kernel
theorem dX7_sense_21 : decode cX7_sense 21 = .ok (.iconst (-1), 1) := by decide +kernel
theorem dX7_sense_22 : decode cX7_sense 22 = .ok (.ireturn, 1) := by decide +kernel
theorem dX7_matched_0 : decode cX7_matched 0 = .ok (.aload_n 0, 1) := by decide +kernel
theorem dX7_matched_1 : decode cX7_matched 1 = .ok (.iload_n 1, 1) := by decide +kernel
theorem dX7_matched_2 : decode cX7_matched 2 = .ok (.invokevirtual 134, 3) := by decide +kernel
theorem dX7_matched_5 : decode cX7_matched 5 = .ok (.lconst 0, 1) := by decide +kernel
theorem dX7_matched_6 : decode cX7_matched 6 = .ok (.lcmp, 1) := by decide +kernel
theorem dX7_matched_7 : decode cX7_matched 7 = .ok (.ifCond .ne 7, 3) := by decide +kernel
theorem dX7_matched_10 : decode cX7_matched 10 = .ok (.iconst (-1), 1) := by decide +kernel
theorem dX7_matched_11 : decode cX7_matched 11 = .ok (.goto 11, 3) := by decide +kernel
theorem dX7_matched_14 : decode cX7_matched 14 = .ok (.aload_n 0, 1) := by decide +kernel
theorem dX7_matched_15 : decode cX7_matched 15 = .ok (.getfield 62, 3) := by decide +kernel
theorem dX7_matched_18 : decode cX7_matched 18 = .ok (.iload_n 1, 1) := by decide +kernel
theorem dX7_matched_19 : decode cX7_matched 19 = .ok (.invokevirtual 166, 3) := by decide +kernel
theorem dX7_matched_22 : decode cX7_matched 22 = .ok (.ireturn, 1) := by decide +kernel
theorem dX7_sum_0 : decode cX7_sum 0 = .ok (.aload_n 0, 1) := by decide +kernel
theorem dX7_sum_1 : decode cX7_sum 1 = .ok (.getfield 62, 3) := by decide +kernel
theorem dX7_sum_4 : decode cX7_sum 4 = .ok (.invokevirtual 169, 3) := by decide +kernel
theorem dX7_sum_7 : decode cX7_sum 7 = .ok (.ireturn, 1) := by decide +kernel
theorem dX7_share_0 : decode cX7_share 0 = .ok (.aload_n 0, 1) := by decide +kernel
theorem dX7_share_1 : decode cX7_share 1 = .ok (.iload_n 1, 1) := by decide +kernel
theorem dX7_share_2 : decode cX7_share 2 = .ok (.invokevirtual 134, 3) := by decide +kernel
theorem dX7_share_5 : decode cX7_share 5 = .ok (.lstore 5, 2) := by decide +kernel
theorem dX7_share_7 : decode cX7_share 7 = .ok (.lload 5, 2) := by decide +kernel
theorem dX7_share_9 : decode cX7_share 9 = .ok (.lconst 0, 1) := by decide +kernel
theorem dX7_share_10 : decode cX7_share 10 = .ok (.lcmp, 1) := by decide +kernel
theorem dX7_share_11 : decode cX7_share 11 = .ok (.ifCond .eq 13, 3) := by decide +kernel
theorem dX7_share_14 : decode cX7_share 14 = .ok (.iload 4, 2) := by decide +kernel
theorem dX7_share_16 : decode cX7_share 16 = .ok (.iconst 0, 1) := by decide +kernel
theorem dX7_share_17 : decode cX7_share 17 = .ok (.iconst 1, 1) := by decide +kernel
theorem dX7_share_18 : decode cX7_share 18 = .ok (.invokestatic 66, 3) := by decide +kernel
theorem dX7_share_21 : decode cX7_share 21 = .ok (.ifCond .ne 5, 3) := by decide +kernel
theorem dX7_share_24 : decode cX7_share 24 = .ok (.iconst (-1), 1) := by decide +kernel
theorem dX7_share_25 : decode cX7_share 25 = .ok (.ireturn, 1) := by decide +kernel
theorem dX7_share_26 : decode cX7_share 26 = .ok (.iload 4, 2) := by decide +kernel
theorem dX7_share_28 : decode cX7_share 28 = .ok (.ifCond .ne 8, 3) := by decide +kernel
theorem dX7_share_31 : decode cX7_share 31 = .ok (.lload 5, 2) := by decide +kernel
theorem dX7_share_33 : decode cX7_share 33 = .ok (.goto 13, 3) := by decide +kernel
theorem dX7_share_36 : decode cX7_share 36 = .ok (.lload 5, 2) := by decide +kernel
theorem dX7_share_38 : decode cX7_share 38 = .ok (.aload_n 0, 1) := by decide +kernel
theorem dX7_share_39 : decode cX7_share 39 = .ok (.getfield 28, 3) := by decide +kernel
theorem dX7_share_42 : decode cX7_share 42 = .ok (.invokevirtual 172, 3) := by decide +kernel
theorem dX7_share_45 : decode cX7_share 45 = .ok (.lor, 1) := by decide +kernel
theorem dX7_share_46 : decode cX7_share 46 = .ok (.lstore 7, 2) := by decide +kernel
theorem dX7_share_48 : decode cX7_share 48 = .ok (.aload_n 0, 1) := by decide +kernel
theorem dX7_share_49 : decode cX7_share 49 = .ok (.getfield 10, 3) := by decide +kernel
theorem dX7_share_52 : decode cX7_share 52 = .ok (.lload 7, 2) := by decide +kernel
theorem dX7_share_54 : decode cX7_share 54 = .ok (.iload_n 2, 1) := by decide +kernel
theorem dX7_share_55 : decode cX7_share 55 = .ok (.iload_n 3, 1) := by decide +kernel
theorem dX7_share_56 : decode cX7_share 56 = .ok (.invokevirtual 176, 3) := by decide +kernel
theorem dX7_share_59 : decode cX7_share 59 = .ok (.ireturn, 1) := by decide +kernel
theorem dX7_first_0 : decode cX7_first 0 = .ok (.aload_n 0, 1) := by decide +kernel
theorem dX7_first_1 : decode cX7_first 1 = .ok (.iload_n 1, 1) := by decide +kernel
theorem dX7_first_2 : decode cX7_first 2 = .ok (.invokevirtual 134, 3) := by decide +kernel
theorem dX7_first_5 : decode cX7_first 5 = .ok (.lstore_n 2, 1) := by decide +kernel
theorem dX7_first_6 : decode cX7_first 6 = .ok (.lload_n 2, 1) := by decide +kernel
theorem dX7_first_7 : decode cX7_first 7 = .ok (.lconst 0, 1) := by decide +kernel
theorem dX7_first_8 : decode cX7_first 8 = .ok (.lcmp, 1) := by decide +kernel
theorem dX7_first_9 : decode cX7_first 9 = .ok (.ifCond .ne 7, 3) := by decide +kernel
theorem dX7_first_12 : decode cX7_first 12 = .ok (.iconst (-1), 1) := by decide +kernel
theorem dX7_first_13 : decode cX7_first 13 = .ok (.goto 11, 3) := by decide +kernel
theorem dX7_first_16 : decode cX7_first 16 = .ok (.aload_n 0, 1) := by decide +kernel
theorem dX7_first_17 : decode cX7_first 17 = .ok (.getfield 10, 3) := by decide +kernel
theorem dX7_first_20 : decode cX7_first 20 = .ok (.lload_n 2, 1) := by decide +kernel
theorem dX7_first_21 : decode cX7_first 21 = .ok (.invokevirtual 180, 3) := by decide +kernel
theorem dX7_first_24 : decode cX7_first 24 = .ok (.ireturn, 1) := by decide +kernel
theorem dX7_count_0 : decode cX7_count 0 = .ok (.iload_n 1, 1) := by decide +kernel
theorem dX7_count_1 : decode cX7_count 1 = .ok (.tableswitch 90 0 5 #[39, 47, 55, 66, 74, 82], 39) := by decide +kernel
theorem dX7_count_40 : decode cX7_count 40 = .ok (.aload_n 0, 1) := by decide +kernel
theorem dX7_count_41 : decode cX7_count 41 = .ok (.getfield 10, 3) := by decide +kernel
theorem dX7_count_44 : decode cX7_count 44 = .ok (.getfield 88, 3) := by decide +kernel
theorem dX7_count_47 : decode cX7_count 47 = .ok (.ireturn, 1) := by decide +kernel
theorem dX7_count_48 : decode cX7_count 48 = .ok (.aload_n 0, 1) := by decide +kernel
theorem dX7_count_49 : decode cX7_count 49 = .ok (.getfield 28, 3) := by decide +kernel
theorem dX7_count_52 : decode cX7_count 52 = .ok (.invokevirtual 183, 3) := by decide +kernel
theorem dX7_count_55 : decode cX7_count 55 = .ok (.ireturn, 1) := by decide +kernel
theorem dX7_count_56 : decode cX7_count 56 = .ok (.aload_n 0, 1) := by decide +kernel
theorem dX7_count_57 : decode cX7_count 57 = .ok (.getfield 28, 3) := by decide +kernel
theorem dX7_count_60 : decode cX7_count 60 = .ok (.invokevirtual 172, 3) := by decide +kernel
theorem dX7_count_63 : decode cX7_count 63 = .ok (.invokestatic 138, 3) := by decide +kernel
theorem dX7_count_66 : decode cX7_count 66 = .ok (.ireturn, 1) := by decide +kernel
theorem dX7_count_67 : decode cX7_count 67 = .ok (.aload_n 0, 1) := by decide +kernel
theorem dX7_count_68 : decode cX7_count 68 = .ok (.getfield 19, 3) := by decide +kernel
theorem dX7_count_71 : decode cX7_count 71 = .ok (.getfield 186, 3) := by decide +kernel
theorem dX7_count_74 : decode cX7_count 74 = .ok (.ireturn, 1) := by decide +kernel
theorem dX7_count_75 : decode cX7_count 75 = .ok (.aload_n 0, 1) := by decide +kernel
theorem dX7_count_76 : decode cX7_count 76 = .ok (.getfield 62, 3) := by decide +kernel
theorem dX7_count_79 : decode cX7_count 79 = .ok (.getfield 189, 3) := by decide +kernel
theorem dX7_count_82 : decode cX7_count 82 = .ok (.ireturn, 1) := by decide +kernel
theorem dX7_count_83 : decode cX7_count 83 = .ok (.aload_n 0, 1) := by decide +kernel
theorem dX7_count_84 : decode cX7_count 84 = .ok (.getfield 37, 3) := by decide +kernel
theorem dX7_count_87 : decode cX7_count 87 = .ok (.getfield 190, 3) := by decide +kernel
theorem dX7_count_90 : decode cX7_count 90 = .ok (.ireturn, 1) := by decide +kernel
theorem dX7_count_91 : decode cX7_count 91 = .ok (.iconst (-1), 1) := by decide +kernel
theorem dX7_count_92 : decode cX7_count 92 = .ok (.ireturn, 1) := by decide +kernel
theorem dX7_membersOf_0 : decode cX7_membersOf 0 = .ok (.aload_n 0, 1) := by decide +kernel
theorem dX7_membersOf_1 : decode cX7_membersOf 1 = .ok (.getfield 10, 3) := by decide +kernel
theorem dX7_membersOf_4 : decode cX7_membersOf 4 = .ok (.iload_n 1, 1) := by decide +kernel
theorem dX7_membersOf_5 : decode cX7_membersOf 5 = .ok (.invokevirtual 99, 3) := by decide +kernel
theorem dX7_membersOf_8 : decode cX7_membersOf 8 = .ok (.ifCond .eq 15, 3) := by decide +kernel
theorem dX7_membersOf_11 : decode cX7_membersOf 11 = .ok (.aload_n 0, 1) := by decide +kernel
theorem dX7_membersOf_12 : decode cX7_membersOf 12 = .ok (.getfield 28, 3) := by decide +kernel
theorem dX7_membersOf_15 : decode cX7_membersOf 15 = .ok (.getfield 193, 3) := by decide +kernel
theorem dX7_membersOf_18 : decode cX7_membersOf 18 = .ok (.iload_n 1, 1) := by decide +kernel
theorem dX7_membersOf_19 : decode cX7_membersOf 19 = .ok (.laload, 1) := by decide +kernel
theorem dX7_membersOf_20 : decode cX7_membersOf 20 = .ok (.goto 4, 3) := by decide +kernel
theorem dX7_membersOf_23 : decode cX7_membersOf 23 = .ok (.lconst 0, 1) := by decide +kernel
theorem dX7_membersOf_24 : decode cX7_membersOf 24 = .ok (.lreturn, 1) := by decide +kernel
theorem dX7_isPair_0 : decode cX7_isPair 0 = .ok (.iload_n 1, 1) := by decide +kernel
theorem dX7_isPair_1 : decode cX7_isPair 1 = .ok (.iload_n 2, 1) := by decide +kernel
theorem dX7_isPair_2 : decode cX7_isPair 2 = .ok (.if_icmp .eq 29, 3) := by decide +kernel
theorem dX7_isPair_5 : decode cX7_isPair 5 = .ok (.aload_n 0, 1) := by decide +kernel
theorem dX7_isPair_6 : decode cX7_isPair 6 = .ok (.getfield 10, 3) := by decide +kernel
theorem dX7_isPair_9 : decode cX7_isPair 9 = .ok (.iload_n 1, 1) := by decide +kernel
theorem dX7_isPair_10 : decode cX7_isPair 10 = .ok (.invokevirtual 99, 3) := by decide +kernel
theorem dX7_isPair_13 : decode cX7_isPair 13 = .ok (.ifCond .eq 18, 3) := by decide +kernel
theorem dX7_isPair_16 : decode cX7_isPair 16 = .ok (.aload_n 0, 1) := by decide +kernel
theorem dX7_isPair_17 : decode cX7_isPair 17 = .ok (.getfield 10, 3) := by decide +kernel
theorem dX7_isPair_20 : decode cX7_isPair 20 = .ok (.iload_n 2, 1) := by decide +kernel
theorem dX7_isPair_21 : decode cX7_isPair 21 = .ok (.invokevirtual 99, 3) := by decide +kernel
theorem dX7_isPair_24 : decode cX7_isPair 24 = .ok (.ifCond .eq 7, 3) := by decide +kernel
theorem dX7_isPair_27 : decode cX7_isPair 27 = .ok (.iconst 1, 1) := by decide +kernel
theorem dX7_isPair_28 : decode cX7_isPair 28 = .ok (.goto 4, 3) := by decide +kernel
theorem dX7_isPair_31 : decode cX7_isPair 31 = .ok (.iconst 0, 1) := by decide +kernel
theorem dX7_isPair_32 : decode cX7_isPair 32 = .ok (.ireturn, 1) := by decide +kernel
theorem dX7_within_0 : decode cX7_within 0 = .ok (.iload_n 0, 1) := by decide +kernel
theorem dX7_within_1 : decode cX7_within 1 = .ok (.iload_n 1, 1) := by decide +kernel
theorem dX7_within_2 : decode cX7_within 2 = .ok (.if_icmp .lt 12, 3) := by decide +kernel
theorem dX7_within_5 : decode cX7_within 5 = .ok (.iload_n 0, 1) := by decide +kernel
theorem dX7_within_6 : decode cX7_within 6 = .ok (.iload_n 2, 1) := by decide +kernel
theorem dX7_within_7 : decode cX7_within 7 = .ok (.if_icmp .gt 7, 3) := by decide +kernel
theorem dX7_within_10 : decode cX7_within 10 = .ok (.iconst 1, 1) := by decide +kernel
theorem dX7_within_11 : decode cX7_within 11 = .ok (.goto 4, 3) := by decide +kernel
theorem dX7_within_14 : decode cX7_within 14 = .ok (.iconst 0, 1) := by decide +kernel
theorem dX7_within_15 : decode cX7_within 15 = .ok (.ireturn, 1) := by decide +kernel
theorem dX7_bit_0 : decode cX7_bit 0 = .ok (.lconst 1, 1) := by decide +kernel
theorem dX7_bit_1 : decode cX7_bit 1 = .ok (.iload_n 0, 1) := by decide +kernel
theorem dX7_bit_2 : decode cX7_bit 2 = .ok (.lshl, 1) := by decide +kernel
theorem dX7_bit_3 : decode cX7_bit 3 = .ok (.lreturn, 1) := by decide +kernel
theorem dX7_holds_0 : decode cX7_holds 0 = .ok (.lload_n 0, 1) := by decide +kernel
theorem dX7_holds_1 : decode cX7_holds 1 = .ok (.iload_n 2, 1) := by decide +kernel
theorem dX7_holds_2 : decode cX7_holds 2 = .ok (.lshr, 1) := by decide +kernel
theorem dX7_holds_3 : decode cX7_holds 3 = .ok (.lconst 1, 1) := by decide +kernel
theorem dX7_holds_4 : decode cX7_holds 4 = .ok (.land, 1) := by decide +kernel
theorem dX7_holds_5 : decode cX7_holds 5 = .ok (.lconst 0, 1) := by decide +kernel
theorem dX7_holds_6 : decode cX7_holds 6 = .ok (.lcmp, 1) := by decide +kernel
theorem dX7_holds_7 : decode cX7_holds 7 = .ok (.ifCond .eq 7, 3) := by decide +kernel
theorem dX7_holds_10 : decode cX7_holds 10 = .ok (.iconst 1, 1) := by decide +kernel
theorem dX7_holds_11 : decode cX7_holds 11 = .ok (.goto 4, 3) := by decide +kernel
theorem dX7_holds_14 : decode cX7_holds 14 = .ok (.iconst 0, 1) := by decide +kernel
theorem dX7_holds_15 : decode cX7_holds 15 = .ok (.ireturn, 1) := by decide +kernel
theorem dX8_init_0 : decode cX8_init 0 = .ok (.aload_n 0, 1) := by decide +kernel
theorem dX8_init_1 : decode cX8_init 1 = .ok (.invokespecial 1, 3) := by decide +kernel
theorem dX8_init_4 : decode cX8_init 4 = .ok (.aload_n 0, 1) := by decide +kernel
theorem dX8_init_5 : decode cX8_init 5 = .ok (.bipush 20, 2) := by decide +kernel
theorem dX8_init_7 : decode cX8_init 7 = .ok (.newarray .int, 2) := by decide +kernel
theorem dX8_init_9 : decode cX8_init 9 = .ok (.putfield 9, 3) := by decide +kernel
theorem dX8_init_12 : decode cX8_init 12 = .ok (.aload_n 0, 1) := by decide +kernel
theorem dX8_init_13 : decode cX8_init 13 = .ok (.bipush 10, 2) := by decide +kernel
theorem dX8_init_15 : decode cX8_init 15 = .ok (.putfield 13, 3) := by decide +kernel
theorem dX8_init_18 : decode cX8_init 18 = .ok (.aload_n 0, 1) := by decide +kernel
theorem dX8_init_19 : decode cX8_init 19 = .ok (.iconst 1, 1) := by decide +kernel
theorem dX8_init_20 : decode cX8_init 20 = .ok (.putfield 17, 3) := by decide +kernel
theorem dX8_init_23 : decode cX8_init 23 = .ok (.aload_n 0, 1) := by decide +kernel
theorem dX8_init_24 : decode cX8_init 24 = .ok (.bipush 60, 2) := by decide +kernel
theorem dX8_init_26 : decode cX8_init 26 = .ok (.putfield 20, 3) := by decide +kernel
theorem dX8_init_29 : decode cX8_init 29 = .ok (.aload_n 0, 1) := by decide +kernel
theorem dX8_init_30 : decode cX8_init 30 = .ok (.iconst 1, 1) := by decide +kernel
theorem dX8_init_31 : decode cX8_init 31 = .ok (.putfield 23, 3) := by decide +kernel
theorem dX8_init_34 : decode cX8_init 34 = .ok (.aload_n 0, 1) := by decide +kernel
theorem dX8_init_35 : decode cX8_init 35 = .ok (.bipush 40, 2) := by decide +kernel
theorem dX8_init_37 : decode cX8_init 37 = .ok (.newarray .int, 2) := by decide +kernel
theorem dX8_init_39 : decode cX8_init 39 = .ok (.putfield 26, 3) := by decide +kernel
theorem dX8_init_42 : decode cX8_init 42 = .ok (.aload_n 0, 1) := by decide +kernel
theorem dX8_init_43 : decode cX8_init 43 = .ok (.bipush 40, 2) := by decide +kernel
theorem dX8_init_45 : decode cX8_init 45 = .ok (.newarray .int, 2) := by decide +kernel
theorem dX8_init_47 : decode cX8_init 47 = .ok (.putfield 29, 3) := by decide +kernel
theorem dX8_init_50 : decode cX8_init 50 = .ok (.aload_n 0, 1) := by decide +kernel
theorem dX8_init_51 : decode cX8_init 51 = .ok (.bipush 40, 2) := by decide +kernel
theorem dX8_init_53 : decode cX8_init 53 = .ok (.newarray .int, 2) := by decide +kernel
theorem dX8_init_55 : decode cX8_init 55 = .ok (.putfield 32, 3) := by decide +kernel
theorem dX8_init_58 : decode cX8_init 58 = .ok (.aload_n 0, 1) := by decide +kernel
theorem dX8_init_59 : decode cX8_init 59 = .ok (.sipush 1600, 3) := by decide +kernel
theorem dX8_init_62 : decode cX8_init 62 = .ok (.newarray .int, 2) := by decide +kernel
theorem dX8_init_64 : decode cX8_init 64 = .ok (.putfield 35, 3) := by decide +kernel
theorem dX8_init_67 : decode cX8_init 67 = .ok (.aload_n 0, 1) := by decide +kernel
theorem dX8_init_68 : decode cX8_init 68 = .ok (.bipush 60, 2) := by decide +kernel
theorem dX8_init_70 : decode cX8_init 70 = .ok (.newarray .int, 2) := by decide +kernel
theorem dX8_init_72 : decode cX8_init 72 = .ok (.putfield 38, 3) := by decide +kernel
theorem dX8_init_75 : decode cX8_init 75 = .ok (.aload_n 0, 1) := by decide +kernel
theorem dX8_init_76 : decode cX8_init 76 = .ok (.bipush 60, 2) := by decide +kernel
theorem dX8_init_78 : decode cX8_init 78 = .ok (.newarray .int, 2) := by decide +kernel
theorem dX8_init_80 : decode cX8_init 80 = .ok (.putfield 41, 3) := by decide +kernel
theorem dX8_init_83 : decode cX8_init 83 = .ok (.aload_n 0, 1) := by decide +kernel
theorem dX8_init_84 : decode cX8_init 84 = .ok (.bipush 60, 2) := by decide +kernel
theorem dX8_init_86 : decode cX8_init 86 = .ok (.newarray .boolean, 2) := by decide +kernel
theorem dX8_init_88 : decode cX8_init 88 = .ok (.putfield 44, 3) := by decide +kernel
theorem dX8_init_91 : decode cX8_init 91 = .ok (.aload_n 0, 1) := by decide +kernel
theorem dX8_init_92 : decode cX8_init 92 = .ok (.iconst 5, 1) := by decide +kernel
theorem dX8_init_93 : decode cX8_init 93 = .ok (.newarray .int, 2) := by decide +kernel
theorem dX8_init_95 : decode cX8_init 95 = .ok (.putfield 48, 3) := by decide +kernel
theorem dX8_init_98 : decode cX8_init 98 = .ok (.aload_n 0, 1) := by decide +kernel
theorem dX8_init_99 : decode cX8_init 99 = .ok (.bipush 7, 2) := by decide +kernel
theorem dX8_init_101 : decode cX8_init 101 = .ok (.newarray .int, 2) := by decide +kernel
theorem dX8_init_103 : decode cX8_init 103 = .ok (.putfield 51, 3) := by decide +kernel
theorem dX8_init_106 : decode cX8_init 106 = .ok (.aload_n 0, 1) := by decide +kernel
theorem dX8_init_107 : decode cX8_init 107 = .ok (.iconst 5, 1) := by decide +kernel
theorem dX8_init_108 : decode cX8_init 108 = .ok (.newarray .int, 2) := by decide +kernel
theorem dX8_init_110 : decode cX8_init 110 = .ok (.putfield 54, 3) := by decide +kernel
theorem dX8_init_113 : decode cX8_init 113 = .ok (.aload_n 0, 1) := by decide +kernel
theorem dX8_init_114 : decode cX8_init 114 = .ok (.iconst 5, 1) := by decide +kernel
theorem dX8_init_115 : decode cX8_init 115 = .ok (.newarray .int, 2) := by decide +kernel
theorem dX8_init_117 : decode cX8_init 117 = .ok (.putfield 57, 3) := by decide +kernel
theorem dX8_init_120 : decode cX8_init 120 = .ok (.iconst 0, 1) := by decide +kernel
theorem dX8_init_121 : decode cX8_init 121 = .ok (.istore_n 1, 1) := by decide +kernel
theorem dX8_init_122 : decode cX8_init 122 = .ok (.iload_n 1, 1) := by decide +kernel
theorem dX8_init_123 : decode cX8_init 123 = .ok (.bipush 20, 2) := by decide +kernel
theorem dX8_init_125 : decode cX8_init 125 = .ok (.if_icmp .ge 16, 3) := by decide +kernel
theorem dX8_init_128 : decode cX8_init 128 = .ok (.aload_n 0, 1) := by decide +kernel
theorem dX8_init_129 : decode cX8_init 129 = .ok (.getfield 9, 3) := by decide +kernel
theorem dX8_init_132 : decode cX8_init 132 = .ok (.iload_n 1, 1) := by decide +kernel
theorem dX8_init_133 : decode cX8_init 133 = .ok (.iconst 1, 1) := by decide +kernel
theorem dX8_init_134 : decode cX8_init 134 = .ok (.iastore, 1) := by decide +kernel
theorem dX8_init_135 : decode cX8_init 135 = .ok (.iinc 1 1, 3) := by decide +kernel
theorem dX8_init_138 : decode cX8_init 138 = .ok (.goto (-16), 3) := by decide +kernel
theorem dX8_init_141 : decode cX8_init 141 = .ok (.return_, 1) := by decide +kernel
theorem dX8_in_0 : decode cX8_in 0 = .ok (.iload_n 0, 1) := by decide +kernel
theorem dX8_in_1 : decode cX8_in 1 = .ok (.iload_n 1, 1) := by decide +kernel
theorem dX8_in_2 : decode cX8_in 2 = .ok (.if_icmp .lt 12, 3) := by decide +kernel
theorem dX8_in_5 : decode cX8_in 5 = .ok (.iload_n 0, 1) := by decide +kernel
theorem dX8_in_6 : decode cX8_in 6 = .ok (.iload_n 2, 1) := by decide +kernel
theorem dX8_in_7 : decode cX8_in 7 = .ok (.if_icmp .gt 7, 3) := by decide +kernel
theorem dX8_in_10 : decode cX8_in 10 = .ok (.iconst 1, 1) := by decide +kernel
theorem dX8_in_11 : decode cX8_in 11 = .ok (.goto 4, 3) := by decide +kernel
theorem dX8_in_14 : decode cX8_in 14 = .ok (.iconst 0, 1) := by decide +kernel
theorem dX8_in_15 : decode cX8_in 15 = .ok (.ireturn, 1) := by decide +kernel
theorem dX8_isUse_0 : decode cX8_isUse 0 = .ok (.iload_n 1, 1) := by decide +kernel
theorem dX8_isUse_1 : decode cX8_isUse 1 = .ok (.iconst 0, 1) := by decide +kernel
theorem dX8_isUse_2 : decode cX8_isUse 2 = .ok (.aload_n 0, 1) := by decide +kernel
theorem dX8_isUse_3 : decode cX8_isUse 3 = .ok (.getfield 60, 3) := by decide +kernel
theorem dX8_isUse_6 : decode cX8_isUse 6 = .ok (.iconst 1, 1) := by decide +kernel
theorem dX8_isUse_7 : decode cX8_isUse 7 = .ok (.isub, 1) := by decide +kernel
theorem dX8_isUse_8 : decode cX8_isUse 8 = .ok (.invokestatic 63, 3) := by decide +kernel
theorem dX8_isUse_11 : decode cX8_isUse 11 = .ok (.ireturn, 1) := by decide +kernel
theorem dX8_apart_0 : decode cX8_apart 0 = .ok (.iload_n 1, 1) := by decide +kernel
theorem dX8_apart_1 : decode cX8_apart 1 = .ok (.iload_n 2, 1) := by decide +kernel
theorem dX8_apart_2 : decode cX8_apart 2 = .ok (.ixor, 1) := by decide +kernel
theorem dX8_apart_3 : decode cX8_apart 3 = .ok (.istore_n 3, 1) := by decide +kernel
theorem dX8_apart_4 : decode cX8_apart 4 = .ok (.iconst 0, 1) := by decide +kernel
theorem dX8_apart_5 : decode cX8_apart 5 = .ok (.istore 4, 2) := by decide +kernel
theorem dX8_apart_7 : decode cX8_apart 7 = .ok (.iconst 0, 1) := by decide +kernel
theorem dX8_apart_8 : decode cX8_apart 8 = .ok (.istore 5, 2) := by decide +kernel
theorem dX8_apart_10 : decode cX8_apart 10 = .ok (.iload 5, 2) := by decide +kernel
theorem dX8_apart_12 : decode cX8_apart 12 = .ok (.bipush 20, 2) := by decide +kernel
theorem dX8_apart_14 : decode cX8_apart 14 = .ok (.if_icmp .ge 35, 3) := by decide +kernel
theorem dX8_apart_17 : decode cX8_apart 17 = .ok (.iload 4, 2) := by decide +kernel
theorem dX8_apart_19 : decode cX8_apart 19 = .ok (.iload_n 3, 1) := by decide +kernel
theorem dX8_apart_20 : decode cX8_apart 20 = .ok (.iload 5, 2) := by decide +kernel
theorem dX8_apart_22 : decode cX8_apart 22 = .ok (.ishr, 1) := by decide +kernel
theorem dX8_apart_23 : decode cX8_apart 23 = .ok (.iconst 1, 1) := by decide +kernel
theorem dX8_apart_24 : decode cX8_apart 24 = .ok (.iand, 1) := by decide +kernel
theorem dX8_apart_25 : decode cX8_apart 25 = .ok (.iconst 1, 1) := by decide +kernel
theorem dX8_apart_26 : decode cX8_apart 26 = .ok (.if_icmp .ne 13, 3) := by decide +kernel
theorem dX8_apart_29 : decode cX8_apart 29 = .ok (.aload_n 0, 1) := by decide +kernel
theorem dX8_apart_30 : decode cX8_apart 30 = .ok (.getfield 9, 3) := by decide +kernel
theorem dX8_apart_33 : decode cX8_apart 33 = .ok (.iload 5, 2) := by decide +kernel
theorem dX8_apart_35 : decode cX8_apart 35 = .ok (.iaload, 1) := by decide +kernel
theorem dX8_apart_36 : decode cX8_apart 36 = .ok (.goto 4, 3) := by decide +kernel
theorem dX8_apart_39 : decode cX8_apart 39 = .ok (.iconst 0, 1) := by decide +kernel
theorem dX8_apart_40 : decode cX8_apart 40 = .ok (.iadd, 1) := by decide +kernel
theorem dX8_apart_41 : decode cX8_apart 41 = .ok (.istore 4, 2) := by decide +kernel
theorem dX8_apart_43 : decode cX8_apart 43 = .ok (.iinc 5 1, 3) := by decide +kernel
theorem dX8_apart_46 : decode cX8_apart 46 = .ok (.goto (-36), 3) := by decide +kernel
theorem dX8_apart_49 : decode cX8_apart 49 = .ok (.iload 4, 2) := by decide +kernel
theorem dX8_apart_51 : decode cX8_apart 51 = .ok (.ireturn, 1) := by decide +kernel
theorem dX8_reckons_0 : decode cX8_reckons 0 = .ok (.iconst 0, 1) := by decide +kernel
theorem dX8_reckons_1 : decode cX8_reckons 1 = .ok (.istore_n 1, 1) := by decide +kernel
theorem dX8_reckons_2 : decode cX8_reckons 2 = .ok (.iload_n 1, 1) := by decide +kernel
theorem dX8_reckons_3 : decode cX8_reckons 3 = .ok (.aload_n 0, 1) := by decide +kernel
theorem dX8_reckons_4 : decode cX8_reckons 4 = .ok (.getfield 60, 3) := by decide +kernel
theorem dX8_reckons_7 : decode cX8_reckons 7 = .ok (.if_icmp .ge 52, 3) := by decide +kernel
theorem dX8_reckons_10 : decode cX8_reckons 10 = .ok (.iconst 0, 1) := by decide +kernel
theorem dX8_reckons_11 : decode cX8_reckons 11 = .ok (.istore_n 2, 1) := by decide +kernel
theorem dX8_reckons_12 : decode cX8_reckons 12 = .ok (.iload_n 2, 1) := by decide +kernel
theorem dX8_reckons_13 : decode cX8_reckons 13 = .ok (.aload_n 0, 1) := by decide +kernel
theorem dX8_reckons_14 : decode cX8_reckons 14 = .ok (.getfield 60, 3) := by decide +kernel
theorem dX8_reckons_17 : decode cX8_reckons 17 = .ok (.if_icmp .ge 36, 3) := by decide +kernel
theorem dX8_reckons_20 : decode cX8_reckons 20 = .ok (.aload_n 0, 1) := by decide +kernel
theorem dX8_reckons_21 : decode cX8_reckons 21 = .ok (.getfield 35, 3) := by decide +kernel
theorem dX8_reckons_24 : decode cX8_reckons 24 = .ok (.bipush 40, 2) := by decide +kernel
theorem dX8_reckons_26 : decode cX8_reckons 26 = .ok (.iload_n 1, 1) := by decide +kernel
theorem dX8_reckons_27 : decode cX8_reckons 27 = .ok (.imul, 1) := by decide +kernel
theorem dX8_reckons_28 : decode cX8_reckons 28 = .ok (.iload_n 2, 1) := by decide +kernel
theorem dX8_reckons_29 : decode cX8_reckons 29 = .ok (.iadd, 1) := by decide +kernel
theorem dX8_reckons_30 : decode cX8_reckons 30 = .ok (.aload_n 0, 1) := by decide +kernel
theorem dX8_reckons_31 : decode cX8_reckons 31 = .ok (.aload_n 0, 1) := by decide +kernel
theorem dX8_reckons_32 : decode cX8_reckons 32 = .ok (.getfield 26, 3) := by decide +kernel
theorem dX8_reckons_35 : decode cX8_reckons 35 = .ok (.iload_n 1, 1) := by decide +kernel
theorem dX8_reckons_36 : decode cX8_reckons 36 = .ok (.iaload, 1) := by decide +kernel
theorem dX8_reckons_37 : decode cX8_reckons 37 = .ok (.aload_n 0, 1) := by decide +kernel
theorem dX8_reckons_38 : decode cX8_reckons 38 = .ok (.getfield 26, 3) := by decide +kernel
theorem dX8_reckons_41 : decode cX8_reckons 41 = .ok (.iload_n 2, 1) := by decide +kernel
theorem dX8_reckons_42 : decode cX8_reckons 42 = .ok (.iaload, 1) := by decide +kernel
theorem dX8_reckons_43 : decode cX8_reckons 43 = .ok (.invokevirtual 67, 3) := by decide +kernel
theorem dX8_reckons_46 : decode cX8_reckons 46 = .ok (.iastore, 1) := by decide +kernel
theorem dX8_reckons_47 : decode cX8_reckons 47 = .ok (.iinc 2 1, 3) := by decide +kernel
theorem dX8_reckons_50 : decode cX8_reckons 50 = .ok (.goto (-38), 3) := by decide +kernel
theorem dX8_reckons_53 : decode cX8_reckons 53 = .ok (.iinc 1 1, 3) := by decide +kernel
theorem dX8_reckons_56 : decode cX8_reckons 56 = .ok (.goto (-54), 3) := by decide +kernel
theorem dX8_reckons_59 : decode cX8_reckons 59 = .ok (.return_, 1) := by decide +kernel
theorem dX8_weight_0 : decode cX8_weight 0 = .ok (.iload_n 1, 1) := by decide +kernel
theorem dX8_weight_1 : decode cX8_weight 1 = .ok (.iconst 0, 1) := by decide +kernel
theorem dX8_weight_2 : decode cX8_weight 2 = .ok (.bipush 19, 2) := by decide +kernel
theorem dX8_weight_4 : decode cX8_weight 4 = .ok (.invokestatic 63, 3) := by decide +kernel
theorem dX8_weight_7 : decode cX8_weight 7 = .ok (.ifCond .eq 13, 3) := by decide +kernel
theorem dX8_weight_10 : decode cX8_weight 10 = .ok (.iload_n 2, 1) := by decide +kernel
theorem dX8_weight_11 : decode cX8_weight 11 = .ok (.iconst 1, 1) := by decide +kernel
theorem dX8_weight_12 : decode cX8_weight 12 = .ok (.bipush 9, 2) := by decide +kernel
theorem dX8_weight_14 : decode cX8_weight 14 = .ok (.invokestatic 63, 3) := by decide +kernel
theorem dX8_weight_17 : decode cX8_weight 17 = .ok (.ifCond .ne 5, 3) := by decide +kernel
theorem dX8_weight_20 : decode cX8_weight 20 = .ok (.iconst 0, 1) := by decide +kernel
theorem dX8_weight_21 : decode cX8_weight 21 = .ok (.ireturn, 1) := by decide +kernel
theorem dX8_weight_22 : decode cX8_weight 22 = .ok (.aload_n 0, 1) := by decide +kernel
theorem dX8_weight_23 : decode cX8_weight 23 = .ok (.getfield 9, 3) := by decide +kernel
theorem dX8_weight_26 : decode cX8_weight 26 = .ok (.iload_n 1, 1) := by decide +kernel
theorem dX8_weight_27 : decode cX8_weight 27 = .ok (.iload_n 2, 1) := by decide +kernel
theorem dX8_weight_28 : decode cX8_weight 28 = .ok (.iastore, 1) := by decide +kernel
theorem dX8_weight_29 : decode cX8_weight 29 = .ok (.aload_n 0, 1) := by decide +kernel
theorem dX8_weight_30 : decode cX8_weight 30 = .ok (.invokevirtual 71, 3) := by decide +kernel
theorem dX8_weight_33 : decode cX8_weight 33 = .ok (.iconst 1, 1) := by decide +kernel
theorem dX8_weight_34 : decode cX8_weight 34 = .ok (.ireturn, 1) := by decide +kernel
theorem dX8_prices_0 : decode cX8_prices 0 = .ok (.iload_n 1, 1) := by decide +kernel
theorem dX8_prices_1 : decode cX8_prices 1 = .ok (.iconst 0, 1) := by decide +kernel
theorem dX8_prices_2 : decode cX8_prices 2 = .ok (.sipush 200, 3) := by decide +kernel
theorem dX8_prices_5 : decode cX8_prices 5 = .ok (.invokestatic 63, 3) := by decide +kernel
theorem dX8_prices_8 : decode cX8_prices 8 = .ok (.ifCond .eq 13, 3) := by decide +kernel
theorem dX8_prices_11 : decode cX8_prices 11 = .ok (.iload_n 2, 1) := by decide +kernel
theorem dX8_prices_12 : decode cX8_prices 12 = .ok (.iconst 0, 1) := by decide +kernel
theorem dX8_prices_13 : decode cX8_prices 13 = .ok (.bipush 50, 2) := by decide +kernel
theorem dX8_prices_15 : decode cX8_prices 15 = .ok (.invokestatic 63, 3) := by decide +kernel
theorem dX8_prices_18 : decode cX8_prices 18 = .ok (.ifCond .ne 5, 3) := by decide +kernel
theorem dX8_prices_21 : decode cX8_prices 21 = .ok (.iconst 0, 1) := by decide +kernel
theorem dX8_prices_22 : decode cX8_prices 22 = .ok (.ireturn, 1) := by decide +kernel
theorem dX8_prices_23 : decode cX8_prices 23 = .ok (.aload_n 0, 1) := by decide +kernel
theorem dX8_prices_24 : decode cX8_prices 24 = .ok (.iload_n 1, 1) := by decide +kernel
theorem dX8_prices_25 : decode cX8_prices 25 = .ok (.putfield 13, 3) := by decide +kernel
theorem dX8_prices_28 : decode cX8_prices 28 = .ok (.aload_n 0, 1) := by decide +kernel
theorem dX8_prices_29 : decode cX8_prices 29 = .ok (.iload_n 2, 1) := by decide +kernel
theorem dX8_prices_30 : decode cX8_prices 30 = .ok (.putfield 17, 3) := by decide +kernel
theorem dX8_prices_33 : decode cX8_prices 33 = .ok (.iconst 1, 1) := by decide +kernel
theorem dX8_prices_34 : decode cX8_prices 34 = .ok (.ireturn, 1) := by decide +kernel
theorem dX8_marks_0 : decode cX8_marks 0 = .ok (.iload_n 1, 1) := by decide +kernel
theorem dX8_marks_1 : decode cX8_marks 1 = .ok (.iconst 0, 1) := by decide +kernel
theorem dX8_marks_2 : decode cX8_marks 2 = .ok (.bipush 100, 2) := by decide +kernel
theorem dX8_marks_4 : decode cX8_marks 4 = .ok (.invokestatic 63, 3) := by decide +kernel
theorem dX8_marks_7 : decode cX8_marks 7 = .ok (.ifCond .eq 13, 3) := by decide +kernel
theorem dX8_marks_10 : decode cX8_marks 10 = .ok (.iload_n 2, 1) := by decide +kernel
theorem dX8_marks_11 : decode cX8_marks 11 = .ok (.iconst 0, 1) := by decide +kernel
theorem dX8_marks_12 : decode cX8_marks 12 = .ok (.bipush 9, 2) := by decide +kernel
theorem dX8_marks_14 : decode cX8_marks 14 = .ok (.invokestatic 63, 3) := by decide +kernel
theorem dX8_marks_17 : decode cX8_marks 17 = .ok (.ifCond .ne 5, 3) := by decide +kernel
theorem dX8_marks_20 : decode cX8_marks 20 = .ok (.iconst 0, 1) := by decide +kernel
theorem dX8_marks_21 : decode cX8_marks 21 = .ok (.ireturn, 1) := by decide +kernel
theorem dX8_marks_22 : decode cX8_marks 22 = .ok (.aload_n 0, 1) := by decide +kernel
theorem dX8_marks_23 : decode cX8_marks 23 = .ok (.iload_n 1, 1) := by decide +kernel
theorem dX8_marks_24 : decode cX8_marks 24 = .ok (.putfield 20, 3) := by decide +kernel
theorem dX8_marks_27 : decode cX8_marks 27 = .ok (.aload_n 0, 1) := by decide +kernel
theorem dX8_marks_28 : decode cX8_marks 28 = .ok (.iload_n 2, 1) := by decide +kernel
theorem dX8_marks_29 : decode cX8_marks 29 = .ok (.putfield 23, 3) := by decide +kernel
theorem dX8_marks_32 : decode cX8_marks 32 = .ok (.iconst 1, 1) := by decide +kernel
theorem dX8_marks_33 : decode cX8_marks 33 = .ok (.ireturn, 1) := by decide +kernel
theorem dX8_isHeap_0 : decode cX8_isHeap 0 = .ok (.aload_n 0, 1) := by decide +kernel
theorem dX8_isHeap_1 : decode cX8_isHeap 1 = .ok (.iload_n 1, 1) := by decide +kernel
theorem dX8_isHeap_2 : decode cX8_isHeap 2 = .ok (.invokevirtual 74, 3) := by decide +kernel
theorem dX8_isHeap_5 : decode cX8_isHeap 5 = .ok (.ifCond .eq 17, 3) := by decide +kernel
theorem dX8_isHeap_8 : decode cX8_isHeap 8 = .ok (.aload_n 0, 1) := by decide +kernel
theorem dX8_isHeap_9 : decode cX8_isHeap 9 = .ok (.getfield 32, 3) := by decide +kernel
theorem dX8_isHeap_12 : decode cX8_isHeap 12 = .ok (.iload_n 1, 1) := by decide +kernel
theorem dX8_isHeap_13 : decode cX8_isHeap 13 = .ok (.iaload, 1) := by decide +kernel
theorem dX8_isHeap_14 : decode cX8_isHeap 14 = .ok (.iload_n 1, 1) := by decide +kernel
theorem dX8_isHeap_15 : decode cX8_isHeap 15 = .ok (.if_icmp .ne 7, 3) := by decide +kernel
theorem dX8_isHeap_18 : decode cX8_isHeap 18 = .ok (.iconst 1, 1) := by decide +kernel
theorem dX8_isHeap_19 : decode cX8_isHeap 19 = .ok (.goto 4, 3) := by decide +kernel
theorem dX8_isHeap_22 : decode cX8_isHeap 22 = .ok (.iconst 0, 1) := by decide +kernel
theorem dX8_isHeap_23 : decode cX8_isHeap 23 = .ok (.ireturn, 1) := by decide +kernel
theorem dX8_beside_0 : decode cX8_beside 0 = .ok (.iconst 0, 1) := by decide +kernel
theorem dX8_beside_1 : decode cX8_beside 1 = .ok (.istore_n 3, 1) := by decide +kernel
theorem dX8_beside_2 : decode cX8_beside 2 = .ok (.iconst 0, 1) := by decide +kernel
theorem dX8_beside_3 : decode cX8_beside 3 = .ok (.istore 4, 2) := by decide +kernel
theorem dX8_beside_5 : decode cX8_beside 5 = .ok (.iload 4, 2) := by decide +kernel
theorem dX8_beside_7 : decode cX8_beside 7 = .ok (.aload_n 0, 1) := by decide +kernel
theorem dX8_beside_8 : decode cX8_beside 8 = .ok (.getfield 60, 3) := by decide +kernel
theorem dX8_beside_11 : decode cX8_beside 11 = .ok (.if_icmp .ge 41, 3) := by decide +kernel
theorem dX8_beside_14 : decode cX8_beside 14 = .ok (.iload 4, 2) := by decide +kernel
theorem dX8_beside_16 : decode cX8_beside 16 = .ok (.iload_n 1, 1) := by decide +kernel
theorem dX8_beside_17 : decode cX8_beside 17 = .ok (.if_icmp .eq 29, 3) := by decide +kernel
theorem dX8_beside_20 : decode cX8_beside 20 = .ok (.aload_n 0, 1) := by decide +kernel
theorem dX8_beside_21 : decode cX8_beside 21 = .ok (.getfield 32, 3) := by decide +kernel
theorem dX8_beside_24 : decode cX8_beside 24 = .ok (.iload 4, 2) := by decide +kernel
theorem dX8_beside_26 : decode cX8_beside 26 = .ok (.iaload, 1) := by decide +kernel
theorem dX8_beside_27 : decode cX8_beside 27 = .ok (.iload_n 2, 1) := by decide +kernel
theorem dX8_beside_28 : decode cX8_beside 28 = .ok (.if_icmp .ne 18, 3) := by decide +kernel
theorem dX8_beside_31 : decode cX8_beside 31 = .ok (.iload_n 3, 1) := by decide +kernel
theorem dX8_beside_32 : decode cX8_beside 32 = .ok (.aload_n 0, 1) := by decide +kernel
theorem dX8_beside_33 : decode cX8_beside 33 = .ok (.getfield 35, 3) := by decide +kernel
theorem dX8_beside_36 : decode cX8_beside 36 = .ok (.bipush 40, 2) := by decide +kernel
theorem dX8_beside_38 : decode cX8_beside 38 = .ok (.iload_n 1, 1) := by decide +kernel
theorem dX8_beside_39 : decode cX8_beside 39 = .ok (.imul, 1) := by decide +kernel
theorem dX8_beside_40 : decode cX8_beside 40 = .ok (.iload 4, 2) := by decide +kernel
theorem dX8_beside_42 : decode cX8_beside 42 = .ok (.iadd, 1) := by decide +kernel
theorem dX8_beside_43 : decode cX8_beside 43 = .ok (.iaload, 1) := by decide +kernel
theorem dX8_beside_44 : decode cX8_beside 44 = .ok (.iadd, 1) := by decide +kernel
theorem dX8_beside_45 : decode cX8_beside 45 = .ok (.istore_n 3, 1) := by decide +kernel
theorem dX8_beside_46 : decode cX8_beside 46 = .ok (.iinc 4 1, 3) := by decide +kernel
theorem dX8_beside_49 : decode cX8_beside 49 = .ok (.goto (-44), 3) := by decide +kernel
theorem dX8_beside_52 : decode cX8_beside 52 = .ok (.iload_n 3, 1) := by decide +kernel
theorem dX8_beside_53 : decode cX8_beside 53 = .ok (.ireturn, 1) := by decide +kernel
theorem dX8_use_0 : decode cX8_use 0 = .ok (.iload_n 1, 1) := by decide +kernel
theorem dX8_use_1 : decode cX8_use 1 = .ok (.iconst 0, 1) := by decide +kernel
theorem dX8_use_2 : decode cX8_use 2 = .ok (.ldc 78, 2) := by decide +kernel
theorem dX8_use_4 : decode cX8_use 4 = .ok (.invokestatic 63, 3) := by decide +kernel
theorem dX8_use_7 : decode cX8_use 7 = .ok (.ifCond .eq 25, 3) := by decide +kernel
theorem dX8_use_10 : decode cX8_use 10 = .ok (.iload_n 2, 1) := by decide +kernel
theorem dX8_use_11 : decode cX8_use 11 = .ok (.sipush 1800, 3) := by decide +kernel
theorem dX8_use_14 : decode cX8_use 14 = .ok (.sipush 1999, 3) := by decide +kernel
theorem dX8_use_17 : decode cX8_use 17 = .ok (.invokestatic 63, 3) := by decide +kernel
theorem dX8_use_20 : decode cX8_use 20 = .ok (.ifCond .eq 12, 3) := by decide +kernel
theorem dX8_use_23 : decode cX8_use 23 = .ok (.aload_n 0, 1) := by decide +kernel
theorem dX8_use_24 : decode cX8_use 24 = .ok (.getfield 60, 3) := by decide +kernel
theorem dX8_use_27 : decode cX8_use 27 = .ok (.bipush 40, 2) := by decide +kernel
theorem dX8_use_29 : decode cX8_use 29 = .ok (.if_icmp .ne 5, 3) := by decide +kernel
theorem dX8_use_32 : decode cX8_use 32 = .ok (.iconst (-1), 1) := by decide +kernel
theorem dX8_use_33 : decode cX8_use 33 = .ok (.ireturn, 1) := by decide +kernel
theorem dX8_use_34 : decode cX8_use 34 = .ok (.aload_n 0, 1) := by decide +kernel
theorem dX8_use_35 : decode cX8_use 35 = .ok (.getfield 60, 3) := by decide +kernel
theorem dX8_use_38 : decode cX8_use 38 = .ok (.istore_n 3, 1) := by decide +kernel
theorem dX8_use_39 : decode cX8_use 39 = .ok (.aload_n 0, 1) := by decide +kernel
theorem dX8_use_40 : decode cX8_use 40 = .ok (.getfield 26, 3) := by decide +kernel
theorem dX8_use_43 : decode cX8_use 43 = .ok (.iload_n 3, 1) := by decide +kernel
theorem dX8_use_44 : decode cX8_use 44 = .ok (.iload_n 1, 1) := by decide +kernel
theorem dX8_use_45 : decode cX8_use 45 = .ok (.iastore, 1) := by decide +kernel
theorem dX8_use_46 : decode cX8_use 46 = .ok (.aload_n 0, 1) := by decide +kernel
theorem dX8_use_47 : decode cX8_use 47 = .ok (.getfield 29, 3) := by decide +kernel
theorem dX8_use_50 : decode cX8_use 50 = .ok (.iload_n 3, 1) := by decide +kernel
theorem dX8_use_51 : decode cX8_use 51 = .ok (.iload_n 2, 1) := by decide +kernel
theorem dX8_use_52 : decode cX8_use 52 = .ok (.iastore, 1) := by decide +kernel
theorem dX8_use_53 : decode cX8_use 53 = .ok (.aload_n 0, 1) := by decide +kernel
theorem dX8_use_54 : decode cX8_use 54 = .ok (.getfield 32, 3) := by decide +kernel
theorem dX8_use_57 : decode cX8_use 57 = .ok (.iload_n 3, 1) := by decide +kernel
theorem dX8_use_58 : decode cX8_use 58 = .ok (.iconst (-1), 1) := by decide +kernel
theorem dX8_use_59 : decode cX8_use 59 = .ok (.iastore, 1) := by decide +kernel
theorem dX8_use_60 : decode cX8_use 60 = .ok (.aload_n 0, 1) := by decide +kernel
theorem dX8_use_61 : decode cX8_use 61 = .ok (.dup, 1) := by decide +kernel
theorem dX8_use_62 : decode cX8_use 62 = .ok (.getfield 60, 3) := by decide +kernel
theorem dX8_use_65 : decode cX8_use 65 = .ok (.iconst 1, 1) := by decide +kernel
theorem dX8_use_66 : decode cX8_use 66 = .ok (.iadd, 1) := by decide +kernel
theorem dX8_use_67 : decode cX8_use 67 = .ok (.putfield 60, 3) := by decide +kernel
theorem dX8_use_70 : decode cX8_use 70 = .ok (.aload_n 0, 1) := by decide +kernel
theorem dX8_use_71 : decode cX8_use 71 = .ok (.invokevirtual 71, 3) := by decide +kernel
theorem dX8_use_74 : decode cX8_use 74 = .ok (.iconst (-1), 1) := by decide +kernel
theorem dX8_use_75 : decode cX8_use 75 = .ok (.istore 4, 2) := by decide +kernel
theorem dX8_use_77 : decode cX8_use 77 = .ok (.ldc 78, 2) := by decide +kernel
theorem dX8_use_79 : decode cX8_use 79 = .ok (.istore 5, 2) := by decide +kernel
theorem dX8_use_81 : decode cX8_use 81 = .ok (.ldc 78, 2) := by decide +kernel
theorem dX8_use_83 : decode cX8_use 83 = .ok (.istore 6, 2) := by decide +kernel
theorem dX8_use_85 : decode cX8_use 85 = .ok (.iconst 0, 1) := by decide +kernel
theorem dX8_use_86 : decode cX8_use 86 = .ok (.istore 7, 2) := by decide +kernel
theorem dX8_use_88 : decode cX8_use 88 = .ok (.iload 7, 2) := by decide +kernel
theorem dX8_use_90 : decode cX8_use 90 = .ok (.iload_n 3, 1) := by decide +kernel
theorem dX8_use_91 : decode cX8_use 91 = .ok (.if_icmp .gt 102, 3) := by decide +kernel
theorem dX8_use_94 : decode cX8_use 94 = .ok (.iload 7, 2) := by decide +kernel
theorem dX8_use_96 : decode cX8_use 96 = .ok (.iload_n 3, 1) := by decide +kernel
theorem dX8_use_97 : decode cX8_use 97 = .ok (.if_icmp .ge 18, 3) := by decide +kernel
theorem dX8_use_100 : decode cX8_use 100 = .ok (.aload_n 0, 1) := by decide +kernel
theorem dX8_use_101 : decode cX8_use 101 = .ok (.getfield 32, 3) := by decide +kernel
theorem dX8_use_104 : decode cX8_use 104 = .ok (.iload 7, 2) := by decide +kernel
theorem dX8_use_106 : decode cX8_use 106 = .ok (.iaload, 1) := by decide +kernel
theorem dX8_use_107 : decode cX8_use 107 = .ok (.iload 7, 2) := by decide +kernel
theorem dX8_use_109 : decode cX8_use 109 = .ok (.if_icmp .eq 6, 3) := by decide +kernel
theorem dX8_use_112 : decode cX8_use 112 = .ok (.goto 75, 3) := by decide +kernel
theorem dX8_use_115 : decode cX8_use 115 = .ok (.iload 7, 2) := by decide +kernel
theorem dX8_use_117 : decode cX8_use 117 = .ok (.iload_n 3, 1) := by decide +kernel
theorem dX8_use_118 : decode cX8_use 118 = .ok (.if_icmp .ne 10, 3) := by decide +kernel
theorem dX8_use_121 : decode cX8_use 121 = .ok (.aload_n 0, 1) := by decide +kernel
theorem dX8_use_122 : decode cX8_use 122 = .ok (.getfield 13, 3) := by decide +kernel
theorem dX8_use_125 : decode cX8_use 125 = .ok (.goto 10, 3) := by decide +kernel
theorem dX8_use_128 : decode cX8_use 128 = .ok (.aload_n 0, 1) := by decide +kernel
theorem dX8_use_129 : decode cX8_use 129 = .ok (.iload_n 3, 1) := by decide +kernel
theorem dX8_use_130 : decode cX8_use 130 = .ok (.iload 7, 2) := by decide +kernel
theorem dX8_use_132 : decode cX8_use 132 = .ok (.invokevirtual 79, 3) := by decide +kernel
theorem dX8_use_135 : decode cX8_use 135 = .ok (.istore 8, 2) := by decide +kernel
theorem dX8_use_137 : decode cX8_use 137 = .ok (.iload 4, 2) := by decide +kernel
theorem dX8_use_139 : decode cX8_use 139 = .ok (.iconst (-1), 1) := by decide +kernel
theorem dX8_use_140 : decode cX8_use 140 = .ok (.if_icmp .eq 10, 3) := by decide +kernel
theorem dX8_use_143 : decode cX8_use 143 = .ok (.iload 8, 2) := by decide +kernel
theorem dX8_use_145 : decode cX8_use 145 = .ok (.iload 5, 2) := by decide +kernel
theorem dX8_use_147 : decode cX8_use 147 = .ok (.if_icmp .ge 29, 3) := by decide +kernel
theorem dX8_use_150 : decode cX8_use 150 = .ok (.iload 4, 2) := by decide +kernel
theorem dX8_use_152 : decode cX8_use 152 = .ok (.iconst (-1), 1) := by decide +kernel
theorem dX8_use_153 : decode cX8_use 153 = .ok (.if_icmp .ne 8, 3) := by decide +kernel
theorem dX8_use_156 : decode cX8_use 156 = .ok (.ldc 78, 2) := by decide +kernel
theorem dX8_use_158 : decode cX8_use 158 = .ok (.goto 5, 3) := by decide +kernel
theorem dX8_use_161 : decode cX8_use 161 = .ok (.iload 5, 2) := by decide +kernel
theorem dX8_use_163 : decode cX8_use 163 = .ok (.istore 6, 2) := by decide +kernel
theorem dX8_use_165 : decode cX8_use 165 = .ok (.iload 7, 2) := by decide +kernel
theorem dX8_use_167 : decode cX8_use 167 = .ok (.istore 4, 2) := by decide +kernel
theorem dX8_use_169 : decode cX8_use 169 = .ok (.iload 8, 2) := by decide +kernel
theorem dX8_use_171 : decode cX8_use 171 = .ok (.istore 5, 2) := by decide +kernel
theorem dX8_use_173 : decode cX8_use 173 = .ok (.goto 14, 3) := by decide +kernel
theorem dX8_use_176 : decode cX8_use 176 = .ok (.iload 8, 2) := by decide +kernel
theorem dX8_use_178 : decode cX8_use 178 = .ok (.iload 6, 2) := by decide +kernel
theorem dX8_use_180 : decode cX8_use 180 = .ok (.if_icmp .ge 7, 3) := by decide +kernel
theorem dX8_use_183 : decode cX8_use 183 = .ok (.iload 8, 2) := by decide +kernel
theorem dX8_use_185 : decode cX8_use 185 = .ok (.istore 6, 2) := by decide +kernel
theorem dX8_use_187 : decode cX8_use 187 = .ok (.iinc 7 1, 3) := by decide +kernel
theorem dX8_use_190 : decode cX8_use 190 = .ok (.goto (-102), 3) := by decide +kernel
theorem dX8_use_193 : decode cX8_use 193 = .ok (.iload 6, 2) := by decide +kernel
theorem dX8_use_195 : decode cX8_use 195 = .ok (.ldc 78, 2) := by decide +kernel
theorem dX8_use_197 : decode cX8_use 197 = .ok (.if_icmp .eq 15, 3) := by decide +kernel
theorem dX8_use_200 : decode cX8_use 200 = .ok (.iload 6, 2) := by decide +kernel
theorem dX8_use_202 : decode cX8_use 202 = .ok (.iload 5, 2) := by decide +kernel
theorem dX8_use_204 : decode cX8_use 204 = .ok (.isub, 1) := by decide +kernel
theorem dX8_use_205 : decode cX8_use 205 = .ok (.aload_n 0, 1) := by decide +kernel
theorem dX8_use_206 : decode cX8_use 206 = .ok (.getfield 17, 3) := by decide +kernel
theorem dX8_use_209 : decode cX8_use 209 = .ok (.if_icmp .lt 11, 3) := by decide +kernel
theorem dX8_use_212 : decode cX8_use 212 = .ok (.aload_n 0, 1) := by decide +kernel
theorem dX8_use_213 : decode cX8_use 213 = .ok (.getfield 32, 3) := by decide +kernel
theorem dX8_use_216 : decode cX8_use 216 = .ok (.iload_n 3, 1) := by decide +kernel
theorem dX8_use_217 : decode cX8_use 217 = .ok (.iload 4, 2) := by decide +kernel
theorem dX8_use_219 : decode cX8_use 219 = .ok (.iastore, 1) := by decide +kernel
theorem dX8_use_220 : decode cX8_use 220 = .ok (.iload_n 3, 1) := by decide +kernel
theorem dX8_use_221 : decode cX8_use 221 = .ok (.ireturn, 1) := by decide +kernel
theorem dX8_leaves_0 : decode cX8_leaves 0 = .ok (.aload_n 0, 1) := by decide +kernel
theorem dX8_leaves_1 : decode cX8_leaves 1 = .ok (.getfield 32, 3) := by decide +kernel
theorem dX8_leaves_4 : decode cX8_leaves 4 = .ok (.iload_n 1, 1) := by decide +kernel
theorem dX8_leaves_5 : decode cX8_leaves 5 = .ok (.iaload, 1) := by decide +kernel
theorem dX8_leaves_6 : decode cX8_leaves 6 = .ok (.istore_n 2, 1) := by decide +kernel
theorem dX8_leaves_7 : decode cX8_leaves 7 = .ok (.aload_n 0, 1) := by decide +kernel
theorem dX8_leaves_8 : decode cX8_leaves 8 = .ok (.getfield 32, 3) := by decide +kernel
theorem dX8_leaves_11 : decode cX8_leaves 11 = .ok (.iload_n 1, 1) := by decide +kernel
theorem dX8_leaves_12 : decode cX8_leaves 12 = .ok (.iconst (-1), 1) := by decide +kernel
theorem dX8_leaves_13 : decode cX8_leaves 13 = .ok (.iastore, 1) := by decide +kernel
theorem dX8_leaves_14 : decode cX8_leaves 14 = .ok (.iload_n 2, 1) := by decide +kernel
theorem dX8_leaves_15 : decode cX8_leaves 15 = .ok (.iload_n 1, 1) := by decide +kernel
theorem dX8_leaves_16 : decode cX8_leaves 16 = .ok (.if_icmp .eq 4, 3) := by decide +kernel
theorem dX8_leaves_19 : decode cX8_leaves 19 = .ok (.return_, 1) := by decide +kernel
theorem dX8_leaves_20 : decode cX8_leaves 20 = .ok (.iconst (-1), 1) := by decide +kernel
theorem dX8_leaves_21 : decode cX8_leaves 21 = .ok (.istore_n 3, 1) := by decide +kernel
theorem dX8_leaves_22 : decode cX8_leaves 22 = .ok (.iconst 0, 1) := by decide +kernel
theorem dX8_leaves_23 : decode cX8_leaves 23 = .ok (.istore 4, 2) := by decide +kernel
theorem dX8_leaves_25 : decode cX8_leaves 25 = .ok (.iload 4, 2) := by decide +kernel
theorem dX8_leaves_27 : decode cX8_leaves 27 = .ok (.aload_n 0, 1) := by decide +kernel
theorem dX8_leaves_28 : decode cX8_leaves 28 = .ok (.getfield 60, 3) := by decide +kernel
theorem dX8_leaves_31 : decode cX8_leaves 31 = .ok (.if_icmp .ge 39, 3) := by decide +kernel
theorem dX8_leaves_34 : decode cX8_leaves 34 = .ok (.aload_n 0, 1) := by decide +kernel
theorem dX8_leaves_35 : decode cX8_leaves 35 = .ok (.getfield 32, 3) := by decide +kernel
theorem dX8_leaves_38 : decode cX8_leaves 38 = .ok (.iload 4, 2) := by decide +kernel
theorem dX8_leaves_40 : decode cX8_leaves 40 = .ok (.iaload, 1) := by decide +kernel
theorem dX8_leaves_41 : decode cX8_leaves 41 = .ok (.iload_n 2, 1) := by decide +kernel
theorem dX8_leaves_42 : decode cX8_leaves 42 = .ok (.if_icmp .eq 6, 3) := by decide +kernel
theorem dX8_leaves_45 : decode cX8_leaves 45 = .ok (.goto 19, 3) := by decide +kernel
theorem dX8_leaves_48 : decode cX8_leaves 48 = .ok (.iload_n 3, 1) := by decide +kernel
theorem dX8_leaves_49 : decode cX8_leaves 49 = .ok (.iconst (-1), 1) := by decide +kernel
theorem dX8_leaves_50 : decode cX8_leaves 50 = .ok (.if_icmp .ne 6, 3) := by decide +kernel
theorem dX8_leaves_53 : decode cX8_leaves 53 = .ok (.iload 4, 2) := by decide +kernel
theorem dX8_leaves_55 : decode cX8_leaves 55 = .ok (.istore_n 3, 1) := by decide +kernel
theorem dX8_leaves_56 : decode cX8_leaves 56 = .ok (.aload_n 0, 1) := by decide +kernel
theorem dX8_leaves_57 : decode cX8_leaves 57 = .ok (.getfield 32, 3) := by decide +kernel
theorem dX8_leaves_60 : decode cX8_leaves 60 = .ok (.iload 4, 2) := by decide +kernel
theorem dX8_leaves_62 : decode cX8_leaves 62 = .ok (.iload_n 3, 1) := by decide +kernel
theorem dX8_leaves_63 : decode cX8_leaves 63 = .ok (.iastore, 1) := by decide +kernel
theorem dX8_leaves_64 : decode cX8_leaves 64 = .ok (.iinc 4 1, 3) := by decide +kernel
theorem dX8_leaves_67 : decode cX8_leaves 67 = .ok (.goto (-42), 3) := by decide +kernel
theorem dX8_leaves_70 : decode cX8_leaves 70 = .ok (.return_, 1) := by decide +kernel
theorem dX8_goes_0 : decode cX8_goes 0 = .ok (.aload_n 0, 1) := by decide +kernel
theorem dX8_goes_1 : decode cX8_goes 1 = .ok (.iload_n 1, 1) := by decide +kernel
theorem dX8_goes_2 : decode cX8_goes 2 = .ok (.invokevirtual 82, 3) := by decide +kernel
theorem dX8_goes_5 : decode cX8_goes 5 = .ok (.aload_n 0, 1) := by decide +kernel
theorem dX8_goes_6 : decode cX8_goes 6 = .ok (.getfield 32, 3) := by decide +kernel
theorem dX8_goes_9 : decode cX8_goes 9 = .ok (.iload_n 1, 1) := by decide +kernel
theorem dX8_goes_10 : decode cX8_goes 10 = .ok (.iload_n 2, 1) := by decide +kernel
theorem dX8_goes_11 : decode cX8_goes 11 = .ok (.iastore, 1) := by decide +kernel
theorem dX8_goes_12 : decode cX8_goes 12 = .ok (.iload_n 2, 1) := by decide +kernel
theorem dX8_goes_13 : decode cX8_goes 13 = .ok (.iload_n 1, 1) := by decide +kernel
theorem dX8_goes_14 : decode cX8_goes 14 = .ok (.if_icmp .gt 4, 3) := by decide +kernel
theorem dX8_goes_17 : decode cX8_goes 17 = .ok (.return_, 1) := by decide +kernel
theorem dX8_goes_18 : decode cX8_goes 18 = .ok (.iconst 0, 1) := by decide +kernel
theorem dX8_goes_19 : decode cX8_goes 19 = .ok (.istore_n 3, 1) := by decide +kernel
theorem dX8_goes_20 : decode cX8_goes 20 = .ok (.iload_n 3, 1) := by decide +kernel
theorem dX8_goes_21 : decode cX8_goes 21 = .ok (.aload_n 0, 1) := by decide +kernel
theorem dX8_goes_22 : decode cX8_goes 22 = .ok (.getfield 60, 3) := by decide +kernel
theorem dX8_goes_25 : decode cX8_goes 25 = .ok (.if_icmp .ge 26, 3) := by decide +kernel
theorem dX8_goes_28 : decode cX8_goes 28 = .ok (.aload_n 0, 1) := by decide +kernel
theorem dX8_goes_29 : decode cX8_goes 29 = .ok (.getfield 32, 3) := by decide +kernel
theorem dX8_goes_32 : decode cX8_goes 32 = .ok (.iload_n 3, 1) := by decide +kernel
theorem dX8_goes_33 : decode cX8_goes 33 = .ok (.iaload, 1) := by decide +kernel
theorem dX8_goes_34 : decode cX8_goes 34 = .ok (.iload_n 2, 1) := by decide +kernel
theorem dX8_goes_35 : decode cX8_goes 35 = .ok (.if_icmp .ne 10, 3) := by decide +kernel
theorem dX8_goes_38 : decode cX8_goes 38 = .ok (.aload_n 0, 1) := by decide +kernel
theorem dX8_goes_39 : decode cX8_goes 39 = .ok (.getfield 32, 3) := by decide +kernel
theorem dX8_goes_42 : decode cX8_goes 42 = .ok (.iload_n 3, 1) := by decide +kernel
theorem dX8_goes_43 : decode cX8_goes 43 = .ok (.iload_n 1, 1) := by decide +kernel
theorem dX8_goes_44 : decode cX8_goes 44 = .ok (.iastore, 1) := by decide +kernel
theorem dX8_goes_45 : decode cX8_goes 45 = .ok (.iinc 3 1, 3) := by decide +kernel
theorem dX8_goes_48 : decode cX8_goes 48 = .ok (.goto (-28), 3) := by decide +kernel
theorem dX8_goes_51 : decode cX8_goes 51 = .ok (.return_, 1) := by decide +kernel
theorem dX8_fix_0 : decode cX8_fix 0 = .ok (.aload_n 0, 1) := by decide +kernel
theorem dX8_fix_1 : decode cX8_fix 1 = .ok (.iload_n 1, 1) := by decide +kernel
theorem dX8_fix_2 : decode cX8_fix 2 = .ok (.invokevirtual 74, 3) := by decide +kernel
theorem dX8_fix_5 : decode cX8_fix 5 = .ok (.ifCond .eq 36, 3) := by decide +kernel
theorem dX8_fix_8 : decode cX8_fix 8 = .ok (.iload_n 2, 1) := by decide +kernel
theorem dX8_fix_9 : decode cX8_fix 9 = .ok (.iconst (-1), 1) := by decide +kernel
theorem dX8_fix_10 : decode cX8_fix 10 = .ok (.if_icmp .eq 11, 3) := by decide +kernel
theorem dX8_fix_13 : decode cX8_fix 13 = .ok (.aload_n 0, 1) := by decide +kernel
theorem dX8_fix_14 : decode cX8_fix 14 = .ok (.iload_n 2, 1) := by decide +kernel
theorem dX8_fix_15 : decode cX8_fix 15 = .ok (.invokevirtual 74, 3) := by decide +kernel
theorem dX8_fix_18 : decode cX8_fix 18 = .ok (.ifCond .eq 23, 3) := by decide +kernel
theorem dX8_fix_21 : decode cX8_fix 21 = .ok (.iload_n 2, 1) := by decide +kernel
theorem dX8_fix_22 : decode cX8_fix 22 = .ok (.iconst (-1), 1) := by decide +kernel
theorem dX8_fix_23 : decode cX8_fix 23 = .ok (.if_icmp .eq 20, 3) := by decide +kernel
theorem dX8_fix_26 : decode cX8_fix 26 = .ok (.iload_n 2, 1) := by decide +kernel
theorem dX8_fix_27 : decode cX8_fix 27 = .ok (.iload_n 1, 1) := by decide +kernel
theorem dX8_fix_28 : decode cX8_fix 28 = .ok (.if_icmp .eq 15, 3) := by decide +kernel
theorem dX8_fix_31 : decode cX8_fix 31 = .ok (.aload_n 0, 1) := by decide +kernel
theorem dX8_fix_32 : decode cX8_fix 32 = .ok (.getfield 32, 3) := by decide +kernel
theorem dX8_fix_35 : decode cX8_fix 35 = .ok (.iload_n 2, 1) := by decide +kernel
theorem dX8_fix_36 : decode cX8_fix 36 = .ok (.iaload, 1) := by decide +kernel
theorem dX8_fix_37 : decode cX8_fix 37 = .ok (.iconst (-1), 1) := by decide +kernel
theorem dX8_fix_38 : decode cX8_fix 38 = .ok (.if_icmp .ne 5, 3) := by decide +kernel
theorem dX8_fix_41 : decode cX8_fix 41 = .ok (.iconst 0, 1) := by decide +kernel
theorem dX8_fix_42 : decode cX8_fix 42 = .ok (.ireturn, 1) := by decide +kernel
theorem dX8_fix_43 : decode cX8_fix 43 = .ok (.iload_n 2, 1) := by decide +kernel
theorem dX8_fix_44 : decode cX8_fix 44 = .ok (.iconst (-1), 1) := by decide +kernel
theorem dX8_fix_45 : decode cX8_fix 45 = .ok (.if_icmp .ne 11, 3) := by decide +kernel
theorem dX8_fix_48 : decode cX8_fix 48 = .ok (.aload_n 0, 1) := by decide +kernel
theorem dX8_fix_49 : decode cX8_fix 49 = .ok (.iload_n 1, 1) := by decide +kernel
theorem dX8_fix_50 : decode cX8_fix 50 = .ok (.invokevirtual 82, 3) := by decide +kernel
theorem dX8_fix_53 : decode cX8_fix 53 = .ok (.goto 43, 3) := by decide +kernel
theorem dX8_fix_56 : decode cX8_fix 56 = .ok (.iload_n 2, 1) := by decide +kernel
theorem dX8_fix_57 : decode cX8_fix 57 = .ok (.iload_n 1, 1) := by decide +kernel
theorem dX8_fix_58 : decode cX8_fix 58 = .ok (.if_icmp .ne 12, 3) := by decide +kernel
theorem dX8_fix_61 : decode cX8_fix 61 = .ok (.aload_n 0, 1) := by decide +kernel
theorem dX8_fix_62 : decode cX8_fix 62 = .ok (.iload_n 1, 1) := by decide +kernel
theorem dX8_fix_63 : decode cX8_fix 63 = .ok (.iload_n 1, 1) := by decide +kernel
theorem dX8_fix_64 : decode cX8_fix 64 = .ok (.invokevirtual 86, 3) := by decide +kernel
theorem dX8_fix_67 : decode cX8_fix 67 = .ok (.goto 29, 3) := by decide +kernel
theorem dX8_fix_70 : decode cX8_fix 70 = .ok (.aload_n 0, 1) := by decide +kernel
theorem dX8_fix_71 : decode cX8_fix 71 = .ok (.getfield 32, 3) := by decide +kernel
theorem dX8_fix_74 : decode cX8_fix 74 = .ok (.iload_n 1, 1) := by decide +kernel
theorem dX8_fix_75 : decode cX8_fix 75 = .ok (.iaload, 1) := by decide +kernel
theorem dX8_fix_76 : decode cX8_fix 76 = .ok (.aload_n 0, 1) := by decide +kernel
theorem dX8_fix_77 : decode cX8_fix 77 = .ok (.getfield 32, 3) := by decide +kernel
theorem dX8_fix_80 : decode cX8_fix 80 = .ok (.iload_n 2, 1) := by decide +kernel
theorem dX8_fix_81 : decode cX8_fix 81 = .ok (.iaload, 1) := by decide +kernel
theorem dX8_fix_82 : decode cX8_fix 82 = .ok (.if_icmp .eq 14, 3) := by decide +kernel
theorem dX8_fix_85 : decode cX8_fix 85 = .ok (.aload_n 0, 1) := by decide +kernel
theorem dX8_fix_86 : decode cX8_fix 86 = .ok (.iload_n 1, 1) := by decide +kernel
theorem dX8_fix_87 : decode cX8_fix 87 = .ok (.aload_n 0, 1) := by decide +kernel
theorem dX8_fix_88 : decode cX8_fix 88 = .ok (.getfield 32, 3) := by decide +kernel
theorem dX8_fix_91 : decode cX8_fix 91 = .ok (.iload_n 2, 1) := by decide +kernel
theorem dX8_fix_92 : decode cX8_fix 92 = .ok (.iaload, 1) := by decide +kernel
theorem dX8_fix_93 : decode cX8_fix 93 = .ok (.invokevirtual 86, 3) := by decide +kernel
theorem dX8_fix_96 : decode cX8_fix 96 = .ok (.iconst 1, 1) := by decide +kernel
theorem dX8_fix_97 : decode cX8_fix 97 = .ok (.ireturn, 1) := by decide +kernel
theorem dX8_bondOf_0 : decode cX8_bondOf 0 = .ok (.iconst 0, 1) := by decide +kernel
theorem dX8_bondOf_1 : decode cX8_bondOf 1 = .ok (.istore_n 3, 1) := by decide +kernel
theorem dX8_bondOf_2 : decode cX8_bondOf 2 = .ok (.iload_n 3, 1) := by decide +kernel
theorem dX8_bondOf_3 : decode cX8_bondOf 3 = .ok (.aload_n 0, 1) := by decide +kernel
theorem dX8_bondOf_4 : decode cX8_bondOf 4 = .ok (.getfield 90, 3) := by decide +kernel
theorem dX8_bondOf_7 : decode cX8_bondOf 7 = .ok (.if_icmp .ge 51, 3) := by decide +kernel
theorem dX8_bondOf_10 : decode cX8_bondOf 10 = .ok (.aload_n 0, 1) := by decide +kernel
theorem dX8_bondOf_11 : decode cX8_bondOf 11 = .ok (.getfield 38, 3) := by decide +kernel
theorem dX8_bondOf_14 : decode cX8_bondOf 14 = .ok (.iload_n 3, 1) := by decide +kernel
theorem dX8_bondOf_15 : decode cX8_bondOf 15 = .ok (.iaload, 1) := by decide +kernel
theorem dX8_bondOf_16 : decode cX8_bondOf 16 = .ok (.iload_n 1, 1) := by decide +kernel
theorem dX8_bondOf_17 : decode cX8_bondOf 17 = .ok (.if_icmp .ne 13, 3) := by decide +kernel
theorem dX8_bondOf_20 : decode cX8_bondOf 20 = .ok (.aload_n 0, 1) := by decide +kernel
theorem dX8_bondOf_21 : decode cX8_bondOf 21 = .ok (.getfield 41, 3) := by decide +kernel
theorem dX8_bondOf_24 : decode cX8_bondOf 24 = .ok (.iload_n 3, 1) := by decide +kernel
theorem dX8_bondOf_25 : decode cX8_bondOf 25 = .ok (.iaload, 1) := by decide +kernel
theorem dX8_bondOf_26 : decode cX8_bondOf 26 = .ok (.iload_n 2, 1) := by decide +kernel
theorem dX8_bondOf_27 : decode cX8_bondOf 27 = .ok (.if_icmp .eq 23, 3) := by decide +kernel
theorem dX8_bondOf_30 : decode cX8_bondOf 30 = .ok (.aload_n 0, 1) := by decide +kernel
theorem dX8_bondOf_31 : decode cX8_bondOf 31 = .ok (.getfield 38, 3) := by decide +kernel
theorem dX8_bondOf_34 : decode cX8_bondOf 34 = .ok (.iload_n 3, 1) := by decide +kernel
theorem dX8_bondOf_35 : decode cX8_bondOf 35 = .ok (.iaload, 1) := by decide +kernel
theorem dX8_bondOf_36 : decode cX8_bondOf 36 = .ok (.iload_n 2, 1) := by decide +kernel
theorem dX8_bondOf_37 : decode cX8_bondOf 37 = .ok (.if_icmp .ne 15, 3) := by decide +kernel
theorem dX8_bondOf_40 : decode cX8_bondOf 40 = .ok (.aload_n 0, 1) := by decide +kernel
theorem dX8_bondOf_41 : decode cX8_bondOf 41 = .ok (.getfield 41, 3) := by decide +kernel
theorem dX8_bondOf_44 : decode cX8_bondOf 44 = .ok (.iload_n 3, 1) := by decide +kernel
theorem dX8_bondOf_45 : decode cX8_bondOf 45 = .ok (.iaload, 1) := by decide +kernel
theorem dX8_bondOf_46 : decode cX8_bondOf 46 = .ok (.iload_n 1, 1) := by decide +kernel
theorem dX8_bondOf_47 : decode cX8_bondOf 47 = .ok (.if_icmp .ne 5, 3) := by decide +kernel
theorem dX8_bondOf_50 : decode cX8_bondOf 50 = .ok (.iload_n 3, 1) := by decide +kernel
theorem dX8_bondOf_51 : decode cX8_bondOf 51 = .ok (.ireturn, 1) := by decide +kernel
theorem dX8_bondOf_52 : decode cX8_bondOf 52 = .ok (.iinc 3 1, 3) := by decide +kernel
theorem dX8_bondOf_55 : decode cX8_bondOf 55 = .ok (.goto (-53), 3) := by decide +kernel
theorem dX8_bondOf_58 : decode cX8_bondOf 58 = .ok (.iconst (-1), 1) := by decide +kernel
theorem dX8_bondOf_59 : decode cX8_bondOf 59 = .ok (.ireturn, 1) := by decide +kernel
theorem dX8_bond_0 : decode cX8_bond 0 = .ok (.aload_n 0, 1) := by decide +kernel
theorem dX8_bond_1 : decode cX8_bond 1 = .ok (.iload_n 1, 1) := by decide +kernel
theorem dX8_bond_2 : decode cX8_bond 2 = .ok (.invokevirtual 74, 3) := by decide +kernel
theorem dX8_bond_5 : decode cX8_bond 5 = .ok (.ifCond .eq 16, 3) := by decide +kernel
theorem dX8_bond_8 : decode cX8_bond 8 = .ok (.aload_n 0, 1) := by decide +kernel
theorem dX8_bond_9 : decode cX8_bond 9 = .ok (.iload_n 2, 1) := by decide +kernel
theorem dX8_bond_10 : decode cX8_bond 10 = .ok (.invokevirtual 74, 3) := by decide +kernel
theorem dX8_bond_13 : decode cX8_bond 13 = .ok (.ifCond .eq 8, 3) := by decide +kernel
theorem dX8_bond_16 : decode cX8_bond 16 = .ok (.iload_n 1, 1) := by decide +kernel
theorem dX8_bond_17 : decode cX8_bond 17 = .ok (.iload_n 2, 1) := by decide +kernel
theorem dX8_bond_18 : decode cX8_bond 18 = .ok (.if_icmp .ne 5, 3) := by decide +kernel
theorem dX8_bond_21 : decode cX8_bond 21 = .ok (.iconst 0, 1) := by decide +kernel
theorem dX8_bond_22 : decode cX8_bond 22 = .ok (.ireturn, 1) := by decide +kernel
theorem dX8_bond_23 : decode cX8_bond 23 = .ok (.aload_n 0, 1) := by decide +kernel
theorem dX8_bond_24 : decode cX8_bond 24 = .ok (.iload_n 1, 1) := by decide +kernel
theorem dX8_bond_25 : decode cX8_bond 25 = .ok (.iload_n 2, 1) := by decide +kernel
theorem dX8_bond_26 : decode cX8_bond 26 = .ok (.invokevirtual 93, 3) := by decide +kernel
theorem dX8_bond_29 : decode cX8_bond 29 = .ok (.istore 4, 2) := by decide +kernel
theorem dX8_bond_31 : decode cX8_bond 31 = .ok (.iload 4, 2) := by decide +kernel
theorem dX8_bond_33 : decode cX8_bond 33 = .ok (.iconst (-1), 1) := by decide +kernel
theorem dX8_bond_34 : decode cX8_bond 34 = .ok (.if_icmp .ne 14, 3) := by decide +kernel
theorem dX8_bond_37 : decode cX8_bond 37 = .ok (.aload_n 0, 1) := by decide +kernel
theorem dX8_bond_38 : decode cX8_bond 38 = .ok (.getfield 90, 3) := by decide +kernel
theorem dX8_bond_41 : decode cX8_bond 41 = .ok (.bipush 60, 2) := by decide +kernel
theorem dX8_bond_43 : decode cX8_bond 43 = .ok (.if_icmp .ne 5, 3) := by decide +kernel
theorem dX8_bond_46 : decode cX8_bond 46 = .ok (.iconst 0, 1) := by decide +kernel
theorem dX8_bond_47 : decode cX8_bond 47 = .ok (.ireturn, 1) := by decide +kernel
theorem dX8_bond_48 : decode cX8_bond 48 = .ok (.iload 4, 2) := by decide +kernel
theorem dX8_bond_50 : decode cX8_bond 50 = .ok (.iconst (-1), 1) := by decide +kernel
theorem dX8_bond_51 : decode cX8_bond 51 = .ok (.if_icmp .ne 19, 3) := by decide +kernel
theorem dX8_bond_54 : decode cX8_bond 54 = .ok (.aload_n 0, 1) := by decide +kernel
theorem dX8_bond_55 : decode cX8_bond 55 = .ok (.getfield 90, 3) := by decide +kernel
theorem dX8_bond_58 : decode cX8_bond 58 = .ok (.istore 4, 2) := by decide +kernel
theorem dX8_bond_60 : decode cX8_bond 60 = .ok (.aload_n 0, 1) := by decide +kernel
theorem dX8_bond_61 : decode cX8_bond 61 = .ok (.dup, 1) := by decide +kernel
theorem dX8_bond_62 : decode cX8_bond 62 = .ok (.getfield 90, 3) := by decide +kernel
theorem dX8_bond_65 : decode cX8_bond 65 = .ok (.iconst 1, 1) := by decide +kernel
theorem dX8_bond_66 : decode cX8_bond 66 = .ok (.iadd, 1) := by decide +kernel
theorem dX8_bond_67 : decode cX8_bond 67 = .ok (.putfield 90, 3) := by decide +kernel
theorem dX8_bond_70 : decode cX8_bond 70 = .ok (.aload_n 0, 1) := by decide +kernel
theorem dX8_bond_71 : decode cX8_bond 71 = .ok (.getfield 38, 3) := by decide +kernel
theorem dX8_bond_74 : decode cX8_bond 74 = .ok (.iload 4, 2) := by decide +kernel
theorem dX8_bond_76 : decode cX8_bond 76 = .ok (.iload_n 1, 1) := by decide +kernel
theorem dX8_bond_77 : decode cX8_bond 77 = .ok (.iastore, 1) := by decide +kernel
theorem dX8_bond_78 : decode cX8_bond 78 = .ok (.aload_n 0, 1) := by decide +kernel
theorem dX8_bond_79 : decode cX8_bond 79 = .ok (.getfield 41, 3) := by decide +kernel
theorem dX8_bond_82 : decode cX8_bond 82 = .ok (.iload 4, 2) := by decide +kernel
theorem dX8_bond_84 : decode cX8_bond 84 = .ok (.iload_n 2, 1) := by decide +kernel
theorem dX8_bond_85 : decode cX8_bond 85 = .ok (.iastore, 1) := by decide +kernel
theorem dX8_bond_86 : decode cX8_bond 86 = .ok (.aload_n 0, 1) := by decide +kernel
theorem dX8_bond_87 : decode cX8_bond 87 = .ok (.getfield 44, 3) := by decide +kernel
theorem dX8_bond_90 : decode cX8_bond 90 = .ok (.iload 4, 2) := by decide +kernel
theorem dX8_bond_92 : decode cX8_bond 92 = .ok (.iload_n 3, 1) := by decide +kernel
theorem dX8_bond_93 : decode cX8_bond 93 = .ok (.bastore, 1) := by decide +kernel
theorem dX8_bond_94 : decode cX8_bond 94 = .ok (.iconst 1, 1) := by decide +kernel
theorem dX8_bond_95 : decode cX8_bond 95 = .ok (.ireturn, 1) := by decide +kernel
theorem dX8_free_0 : decode cX8_free 0 = .ok (.aload_n 0, 1) := by decide +kernel
theorem dX8_free_1 : decode cX8_free 1 = .ok (.iload_n 1, 1) := by decide +kernel
theorem dX8_free_2 : decode cX8_free 2 = .ok (.iload_n 2, 1) := by decide +kernel
theorem dX8_free_3 : decode cX8_free 3 = .ok (.invokevirtual 93, 3) := by decide +kernel
theorem dX8_free_6 : decode cX8_free 6 = .ok (.istore_n 3, 1) := by decide +kernel
theorem dX8_free_7 : decode cX8_free 7 = .ok (.iload_n 3, 1) := by decide +kernel
theorem dX8_free_8 : decode cX8_free 8 = .ok (.iconst (-1), 1) := by decide +kernel
theorem dX8_free_9 : decode cX8_free 9 = .ok (.if_icmp .ne 5, 3) := by decide +kernel
theorem dX8_free_12 : decode cX8_free 12 = .ok (.iconst 0, 1) := by decide +kernel
theorem dX8_free_13 : decode cX8_free 13 = .ok (.ireturn, 1) := by decide +kernel
theorem dX8_free_14 : decode cX8_free 14 = .ok (.aload_n 0, 1) := by decide +kernel
theorem dX8_free_15 : decode cX8_free 15 = .ok (.dup, 1) := by decide +kernel
theorem dX8_free_16 : decode cX8_free 16 = .ok (.getfield 90, 3) := by decide +kernel
theorem dX8_free_19 : decode cX8_free 19 = .ok (.iconst 1, 1) := by decide +kernel
theorem dX8_free_20 : decode cX8_free 20 = .ok (.isub, 1) := by decide +kernel
theorem dX8_free_21 : decode cX8_free 21 = .ok (.putfield 90, 3) := by decide +kernel
theorem dX8_free_24 : decode cX8_free 24 = .ok (.aload_n 0, 1) := by decide +kernel
theorem dX8_free_25 : decode cX8_free 25 = .ok (.getfield 38, 3) := by decide +kernel
theorem dX8_free_28 : decode cX8_free 28 = .ok (.iload_n 3, 1) := by decide +kernel
theorem dX8_free_29 : decode cX8_free 29 = .ok (.aload_n 0, 1) := by decide +kernel
theorem dX8_free_30 : decode cX8_free 30 = .ok (.getfield 38, 3) := by decide +kernel
theorem dX8_free_33 : decode cX8_free 33 = .ok (.aload_n 0, 1) := by decide +kernel
theorem dX8_free_34 : decode cX8_free 34 = .ok (.getfield 90, 3) := by decide +kernel
theorem dX8_free_37 : decode cX8_free 37 = .ok (.iaload, 1) := by decide +kernel
theorem dX8_free_38 : decode cX8_free 38 = .ok (.iastore, 1) := by decide +kernel
theorem dX8_free_39 : decode cX8_free 39 = .ok (.aload_n 0, 1) := by decide +kernel
theorem dX8_free_40 : decode cX8_free 40 = .ok (.getfield 41, 3) := by decide +kernel
theorem dX8_free_43 : decode cX8_free 43 = .ok (.iload_n 3, 1) := by decide +kernel
theorem dX8_free_44 : decode cX8_free 44 = .ok (.aload_n 0, 1) := by decide +kernel
theorem dX8_free_45 : decode cX8_free 45 = .ok (.getfield 41, 3) := by decide +kernel
theorem dX8_free_48 : decode cX8_free 48 = .ok (.aload_n 0, 1) := by decide +kernel
theorem dX8_free_49 : decode cX8_free 49 = .ok (.getfield 90, 3) := by decide +kernel
theorem dX8_free_52 : decode cX8_free 52 = .ok (.iaload, 1) := by decide +kernel
theorem dX8_free_53 : decode cX8_free 53 = .ok (.iastore, 1) := by decide +kernel
theorem dX8_free_54 : decode cX8_free 54 = .ok (.aload_n 0, 1) := by decide +kernel
theorem dX8_free_55 : decode cX8_free 55 = .ok (.getfield 44, 3) := by decide +kernel
theorem dX8_free_58 : decode cX8_free 58 = .ok (.iload_n 3, 1) := by decide +kernel
theorem dX8_free_59 : decode cX8_free 59 = .ok (.aload_n 0, 1) := by decide +kernel
theorem dX8_free_60 : decode cX8_free 60 = .ok (.getfield 44, 3) := by decide +kernel
theorem dX8_free_63 : decode cX8_free 63 = .ok (.aload_n 0, 1) := by decide +kernel
theorem dX8_free_64 : decode cX8_free 64 = .ok (.getfield 90, 3) := by decide +kernel
theorem dX8_free_67 : decode cX8_free 67 = .ok (.baload, 1) := by decide +kernel
theorem dX8_free_68 : decode cX8_free 68 = .ok (.bastore, 1) := by decide +kernel
theorem dX8_free_69 : decode cX8_free 69 = .ok (.iconst 1, 1) := by decide +kernel
theorem dX8_free_70 : decode cX8_free 70 = .ok (.ireturn, 1) := by decide +kernel
theorem dX8_isBroken_0 : decode cX8_isBroken 0 = .ok (.iload_n 2, 1) := by decide +kernel
theorem dX8_isBroken_1 : decode cX8_isBroken 1 = .ok (.iconst (-1), 1) := by decide +kernel
theorem dX8_isBroken_2 : decode cX8_isBroken 2 = .ok (.if_icmp .eq 31, 3) := by decide +kernel
theorem dX8_isBroken_5 : decode cX8_isBroken 5 = .ok (.iload_n 3, 1) := by decide +kernel
theorem dX8_isBroken_6 : decode cX8_isBroken 6 = .ok (.iconst (-1), 1) := by decide +kernel
theorem dX8_isBroken_7 : decode cX8_isBroken 7 = .ok (.if_icmp .eq 26, 3) := by decide +kernel
theorem dX8_isBroken_10 : decode cX8_isBroken 10 = .ok (.iload_n 2, 1) := by decide +kernel
theorem dX8_isBroken_11 : decode cX8_isBroken 11 = .ok (.iload_n 3, 1) := by decide +kernel
theorem dX8_isBroken_12 : decode cX8_isBroken 12 = .ok (.if_icmp .ne 7, 3) := by decide +kernel
theorem dX8_isBroken_15 : decode cX8_isBroken 15 = .ok (.iconst 1, 1) := by decide +kernel
theorem dX8_isBroken_16 : decode cX8_isBroken 16 = .ok (.goto 4, 3) := by decide +kernel
theorem dX8_isBroken_19 : decode cX8_isBroken 19 = .ok (.iconst 0, 1) := by decide +kernel
theorem dX8_isBroken_20 : decode cX8_isBroken 20 = .ok (.aload_n 0, 1) := by decide +kernel
theorem dX8_isBroken_21 : decode cX8_isBroken 21 = .ok (.getfield 44, 3) := by decide +kernel
theorem dX8_isBroken_24 : decode cX8_isBroken 24 = .ok (.iload_n 1, 1) := by decide +kernel
theorem dX8_isBroken_25 : decode cX8_isBroken 25 = .ok (.baload, 1) := by decide +kernel
theorem dX8_isBroken_26 : decode cX8_isBroken 26 = .ok (.if_icmp .eq 7, 3) := by decide +kernel
theorem dX8_isBroken_29 : decode cX8_isBroken 29 = .ok (.iconst 1, 1) := by decide +kernel
theorem dX8_isBroken_30 : decode cX8_isBroken 30 = .ok (.goto 4, 3) := by decide +kernel
theorem dX8_isBroken_33 : decode cX8_isBroken 33 = .ok (.iconst 0, 1) := by decide +kernel
theorem dX8_isBroken_34 : decode cX8_isBroken 34 = .ok (.ireturn, 1) := by decide +kernel
theorem dX8_breaks_0 : decode cX8_breaks 0 = .ok (.iconst 0, 1) := by decide +kernel
theorem dX8_breaks_1 : decode cX8_breaks 1 = .ok (.istore_n 3, 1) := by decide +kernel
theorem dX8_breaks_2 : decode cX8_breaks 2 = .ok (.iconst 0, 1) := by decide +kernel
theorem dX8_breaks_3 : decode cX8_breaks 3 = .ok (.istore 4, 2) := by decide +kernel
theorem dX8_breaks_5 : decode cX8_breaks 5 = .ok (.iload 4, 2) := by decide +kernel
theorem dX8_breaks_7 : decode cX8_breaks 7 = .ok (.aload_n 0, 1) := by decide +kernel
theorem dX8_breaks_8 : decode cX8_breaks 8 = .ok (.getfield 90, 3) := by decide +kernel
theorem dX8_breaks_11 : decode cX8_breaks 11 = .ok (.if_icmp .ge 80, 3) := by decide +kernel
theorem dX8_breaks_14 : decode cX8_breaks 14 = .ok (.aload_n 0, 1) := by decide +kernel
theorem dX8_breaks_15 : decode cX8_breaks 15 = .ok (.getfield 38, 3) := by decide +kernel
theorem dX8_breaks_18 : decode cX8_breaks 18 = .ok (.iload 4, 2) := by decide +kernel
theorem dX8_breaks_20 : decode cX8_breaks 20 = .ok (.iaload, 1) := by decide +kernel
theorem dX8_breaks_21 : decode cX8_breaks 21 = .ok (.iload_n 1, 1) := by decide +kernel
theorem dX8_breaks_22 : decode cX8_breaks 22 = .ok (.if_icmp .ne 13, 3) := by decide +kernel
theorem dX8_breaks_25 : decode cX8_breaks 25 = .ok (.aload_n 0, 1) := by decide +kernel
theorem dX8_breaks_26 : decode cX8_breaks 26 = .ok (.getfield 41, 3) := by decide +kernel
theorem dX8_breaks_29 : decode cX8_breaks 29 = .ok (.iload 4, 2) := by decide +kernel
theorem dX8_breaks_31 : decode cX8_breaks 31 = .ok (.iaload, 1) := by decide +kernel
theorem dX8_breaks_32 : decode cX8_breaks 32 = .ok (.goto 25, 3) := by decide +kernel
theorem dX8_breaks_35 : decode cX8_breaks 35 = .ok (.aload_n 0, 1) := by decide +kernel
theorem dX8_breaks_36 : decode cX8_breaks 36 = .ok (.getfield 41, 3) := by decide +kernel
theorem dX8_breaks_39 : decode cX8_breaks 39 = .ok (.iload 4, 2) := by decide +kernel
theorem dX8_breaks_41 : decode cX8_breaks 41 = .ok (.iaload, 1) := by decide +kernel
theorem dX8_breaks_42 : decode cX8_breaks 42 = .ok (.iload_n 1, 1) := by decide +kernel
theorem dX8_breaks_43 : decode cX8_breaks 43 = .ok (.if_icmp .ne 13, 3) := by decide +kernel
theorem dX8_breaks_46 : decode cX8_breaks 46 = .ok (.aload_n 0, 1) := by decide +kernel
theorem dX8_breaks_47 : decode cX8_breaks 47 = .ok (.getfield 38, 3) := by decide +kernel
theorem dX8_breaks_50 : decode cX8_breaks 50 = .ok (.iload 4, 2) := by decide +kernel
theorem dX8_breaks_52 : decode cX8_breaks 52 = .ok (.iaload, 1) := by decide +kernel
theorem dX8_breaks_53 : decode cX8_breaks 53 = .ok (.goto 4, 3) := by decide +kernel
theorem dX8_breaks_56 : decode cX8_breaks 56 = .ok (.iconst (-1), 1) := by decide +kernel
theorem dX8_breaks_57 : decode cX8_breaks 57 = .ok (.istore 5, 2) := by decide +kernel
theorem dX8_breaks_59 : decode cX8_breaks 59 = .ok (.iload 5, 2) := by decide +kernel
theorem dX8_breaks_61 : decode cX8_breaks 61 = .ok (.iconst (-1), 1) := by decide +kernel
theorem dX8_breaks_62 : decode cX8_breaks 62 = .ok (.if_icmp .eq 23, 3) := by decide +kernel
theorem dX8_breaks_65 : decode cX8_breaks 65 = .ok (.aload_n 0, 1) := by decide +kernel
theorem dX8_breaks_66 : decode cX8_breaks 66 = .ok (.iload 4, 2) := by decide +kernel
theorem dX8_breaks_68 : decode cX8_breaks 68 = .ok (.iload_n 2, 1) := by decide +kernel
theorem dX8_breaks_69 : decode cX8_breaks 69 = .ok (.aload_n 0, 1) := by decide +kernel
theorem dX8_breaks_70 : decode cX8_breaks 70 = .ok (.getfield 32, 3) := by decide +kernel
theorem dX8_breaks_73 : decode cX8_breaks 73 = .ok (.iload 5, 2) := by decide +kernel
theorem dX8_breaks_75 : decode cX8_breaks 75 = .ok (.iaload, 1) := by decide +kernel
theorem dX8_breaks_76 : decode cX8_breaks 76 = .ok (.invokevirtual 96, 3) := by decide +kernel
theorem dX8_breaks_79 : decode cX8_breaks 79 = .ok (.ifCond .eq 6, 3) := by decide +kernel
theorem dX8_breaks_82 : decode cX8_breaks 82 = .ok (.iinc 3 1, 3) := by decide +kernel
theorem dX8_breaks_85 : decode cX8_breaks 85 = .ok (.iinc 4 1, 3) := by decide +kernel
theorem dX8_breaks_88 : decode cX8_breaks 88 = .ok (.goto (-83), 3) := by decide +kernel
theorem dX8_breaks_91 : decode cX8_breaks 91 = .ok (.iload_n 3, 1) := by decide +kernel
theorem dX8_breaks_92 : decode cX8_breaks 92 = .ok (.ireturn, 1) := by decide +kernel
theorem dX8_broken_0 : decode cX8_broken 0 = .ok (.iconst 0, 1) := by decide +kernel
theorem dX8_broken_1 : decode cX8_broken 1 = .ok (.istore_n 1, 1) := by decide +kernel
theorem dX8_broken_2 : decode cX8_broken 2 = .ok (.iconst 0, 1) := by decide +kernel
theorem dX8_broken_3 : decode cX8_broken 3 = .ok (.istore_n 2, 1) := by decide +kernel
theorem dX8_broken_4 : decode cX8_broken 4 = .ok (.iload_n 2, 1) := by decide +kernel
theorem dX8_broken_5 : decode cX8_broken 5 = .ok (.aload_n 0, 1) := by decide +kernel
theorem dX8_broken_6 : decode cX8_broken 6 = .ok (.getfield 90, 3) := by decide +kernel
theorem dX8_broken_9 : decode cX8_broken 9 = .ok (.if_icmp .ge 47, 3) := by decide +kernel
theorem dX8_broken_12 : decode cX8_broken 12 = .ok (.iload_n 1, 1) := by decide +kernel
theorem dX8_broken_13 : decode cX8_broken 13 = .ok (.aload_n 0, 1) := by decide +kernel
theorem dX8_broken_14 : decode cX8_broken 14 = .ok (.iload_n 2, 1) := by decide +kernel
theorem dX8_broken_15 : decode cX8_broken 15 = .ok (.aload_n 0, 1) := by decide +kernel
theorem dX8_broken_16 : decode cX8_broken 16 = .ok (.getfield 32, 3) := by decide +kernel
theorem dX8_broken_19 : decode cX8_broken 19 = .ok (.aload_n 0, 1) := by decide +kernel
theorem dX8_broken_20 : decode cX8_broken 20 = .ok (.getfield 38, 3) := by decide +kernel
theorem dX8_broken_23 : decode cX8_broken 23 = .ok (.iload_n 2, 1) := by decide +kernel
theorem dX8_broken_24 : decode cX8_broken 24 = .ok (.iaload, 1) := by decide +kernel
theorem dX8_broken_25 : decode cX8_broken 25 = .ok (.iaload, 1) := by decide +kernel
theorem dX8_broken_26 : decode cX8_broken 26 = .ok (.aload_n 0, 1) := by decide +kernel
theorem dX8_broken_27 : decode cX8_broken 27 = .ok (.getfield 32, 3) := by decide +kernel
theorem dX8_broken_30 : decode cX8_broken 30 = .ok (.aload_n 0, 1) := by decide +kernel
theorem dX8_broken_31 : decode cX8_broken 31 = .ok (.getfield 41, 3) := by decide +kernel
theorem dX8_broken_34 : decode cX8_broken 34 = .ok (.iload_n 2, 1) := by decide +kernel
theorem dX8_broken_35 : decode cX8_broken 35 = .ok (.iaload, 1) := by decide +kernel
theorem dX8_broken_36 : decode cX8_broken 36 = .ok (.iaload, 1) := by decide +kernel
theorem dX8_broken_37 : decode cX8_broken 37 = .ok (.invokevirtual 96, 3) := by decide +kernel
theorem dX8_broken_40 : decode cX8_broken 40 = .ok (.ifCond .eq 7, 3) := by decide +kernel
theorem dX8_broken_43 : decode cX8_broken 43 = .ok (.iconst 1, 1) := by decide +kernel
theorem dX8_broken_44 : decode cX8_broken 44 = .ok (.goto 4, 3) := by decide +kernel
theorem dX8_broken_47 : decode cX8_broken 47 = .ok (.iconst 0, 1) := by decide +kernel
theorem dX8_broken_48 : decode cX8_broken 48 = .ok (.iadd, 1) := by decide +kernel
theorem dX8_broken_49 : decode cX8_broken 49 = .ok (.istore_n 1, 1) := by decide +kernel
theorem dX8_broken_50 : decode cX8_broken 50 = .ok (.iinc 2 1, 3) := by decide +kernel
theorem dX8_broken_53 : decode cX8_broken 53 = .ok (.goto (-49), 3) := by decide +kernel
theorem dX8_broken_56 : decode cX8_broken 56 = .ok (.iload_n 1, 1) := by decide +kernel
theorem dX8_broken_57 : decode cX8_broken 57 = .ok (.ireturn, 1) := by decide +kernel
theorem dX8_lays_0 : decode cX8_lays 0 = .ok (.iconst (-1), 1) := by decide +kernel
theorem dX8_lays_1 : decode cX8_lays 1 = .ok (.istore_n 2, 1) := by decide +kernel
theorem dX8_lays_2 : decode cX8_lays 2 = .ok (.iconst 0, 1) := by decide +kernel
theorem dX8_lays_3 : decode cX8_lays 3 = .ok (.istore_n 3, 1) := by decide +kernel
theorem dX8_lays_4 : decode cX8_lays 4 = .ok (.iconst 0, 1) := by decide +kernel
theorem dX8_lays_5 : decode cX8_lays 5 = .ok (.istore 4, 2) := by decide +kernel
theorem dX8_lays_7 : decode cX8_lays 7 = .ok (.iload 4, 2) := by decide +kernel
theorem dX8_lays_9 : decode cX8_lays 9 = .ok (.aload_n 0, 1) := by decide +kernel
theorem dX8_lays_10 : decode cX8_lays 10 = .ok (.getfield 60, 3) := by decide +kernel
theorem dX8_lays_13 : decode cX8_lays 13 = .ok (.if_icmp .gt 115, 3) := by decide +kernel
theorem dX8_lays_16 : decode cX8_lays 16 = .ok (.iload 4, 2) := by decide +kernel
theorem dX8_lays_18 : decode cX8_lays 18 = .ok (.aload_n 0, 1) := by decide +kernel
theorem dX8_lays_19 : decode cX8_lays 19 = .ok (.getfield 60, 3) := by decide +kernel
theorem dX8_lays_22 : decode cX8_lays 22 = .ok (.if_icmp .ne 7, 3) := by decide +kernel
theorem dX8_lays_25 : decode cX8_lays 25 = .ok (.iconst 1, 1) := by decide +kernel
theorem dX8_lays_26 : decode cX8_lays 26 = .ok (.goto 4, 3) := by decide +kernel
theorem dX8_lays_29 : decode cX8_lays 29 = .ok (.iconst 0, 1) := by decide +kernel
theorem dX8_lays_30 : decode cX8_lays 30 = .ok (.istore 5, 2) := by decide +kernel
theorem dX8_lays_32 : decode cX8_lays 32 = .ok (.iload 5, 2) := by decide +kernel
theorem dX8_lays_34 : decode cX8_lays 34 = .ok (.ifCond .ne 15, 3) := by decide +kernel
theorem dX8_lays_37 : decode cX8_lays 37 = .ok (.aload_n 0, 1) := by decide +kernel
theorem dX8_lays_38 : decode cX8_lays 38 = .ok (.getfield 32, 3) := by decide +kernel
theorem dX8_lays_41 : decode cX8_lays 41 = .ok (.iload 4, 2) := by decide +kernel
theorem dX8_lays_43 : decode cX8_lays 43 = .ok (.iaload, 1) := by decide +kernel
theorem dX8_lays_44 : decode cX8_lays 44 = .ok (.iload 4, 2) := by decide +kernel
theorem dX8_lays_46 : decode cX8_lays 46 = .ok (.if_icmp .ne 76, 3) := by decide +kernel
theorem dX8_lays_49 : decode cX8_lays 49 = .ok (.aload_n 0, 1) := by decide +kernel
theorem dX8_lays_50 : decode cX8_lays 50 = .ok (.iload_n 1, 1) := by decide +kernel
theorem dX8_lays_51 : decode cX8_lays 51 = .ok (.iload 5, 2) := by decide +kernel
theorem dX8_lays_53 : decode cX8_lays 53 = .ok (.ifCond .eq 8, 3) := by decide +kernel
theorem dX8_lays_56 : decode cX8_lays 56 = .ok (.bipush (-2), 2) := by decide +kernel
theorem dX8_lays_58 : decode cX8_lays 58 = .ok (.goto 5, 3) := by decide +kernel
theorem dX8_lays_61 : decode cX8_lays 61 = .ok (.iload 4, 2) := by decide +kernel
theorem dX8_lays_63 : decode cX8_lays 63 = .ok (.invokevirtual 99, 3) := by decide +kernel
theorem dX8_lays_66 : decode cX8_lays 66 = .ok (.ifCond .le 6, 3) := by decide +kernel
theorem dX8_lays_69 : decode cX8_lays 69 = .ok (.goto 53, 3) := by decide +kernel
theorem dX8_lays_72 : decode cX8_lays 72 = .ok (.iload 5, 2) := by decide +kernel
theorem dX8_lays_74 : decode cX8_lays 74 = .ok (.ifCond .eq 10, 3) := by decide +kernel
theorem dX8_lays_77 : decode cX8_lays 77 = .ok (.aload_n 0, 1) := by decide +kernel
theorem dX8_lays_78 : decode cX8_lays 78 = .ok (.getfield 13, 3) := by decide +kernel
theorem dX8_lays_81 : decode cX8_lays 81 = .ok (.goto 10, 3) := by decide +kernel
theorem dX8_lays_84 : decode cX8_lays 84 = .ok (.aload_n 0, 1) := by decide +kernel
theorem dX8_lays_85 : decode cX8_lays 85 = .ok (.iload_n 1, 1) := by decide +kernel
theorem dX8_lays_86 : decode cX8_lays 86 = .ok (.iload 4, 2) := by decide +kernel
theorem dX8_lays_88 : decode cX8_lays 88 = .ok (.invokevirtual 79, 3) := by decide +kernel
theorem dX8_lays_91 : decode cX8_lays 91 = .ok (.istore 6, 2) := by decide +kernel
theorem dX8_lays_93 : decode cX8_lays 93 = .ok (.iload_n 2, 1) := by decide +kernel
theorem dX8_lays_94 : decode cX8_lays 94 = .ok (.iconst (-1), 1) := by decide +kernel
theorem dX8_lays_95 : decode cX8_lays 95 = .ok (.if_icmp .eq 12, 3) := by decide +kernel
theorem dX8_lays_98 : decode cX8_lays 98 = .ok (.iload 6, 2) := by decide +kernel
theorem dX8_lays_100 : decode cX8_lays 100 = .ok (.iload_n 3, 1) := by decide +kernel
theorem dX8_lays_101 : decode cX8_lays 101 = .ok (.if_icmp .lt 6, 3) := by decide +kernel
theorem dX8_lays_104 : decode cX8_lays 104 = .ok (.goto 18, 3) := by decide +kernel
theorem dX8_lays_107 : decode cX8_lays 107 = .ok (.iload 5, 2) := by decide +kernel
theorem dX8_lays_109 : decode cX8_lays 109 = .ok (.ifCond .eq 7, 3) := by decide +kernel
theorem dX8_lays_112 : decode cX8_lays 112 = .ok (.iload_n 1, 1) := by decide +kernel
theorem dX8_lays_113 : decode cX8_lays 113 = .ok (.goto 5, 3) := by decide +kernel
theorem dX8_lays_116 : decode cX8_lays 116 = .ok (.iload 4, 2) := by decide +kernel
theorem dX8_lays_118 : decode cX8_lays 118 = .ok (.istore_n 2, 1) := by decide +kernel
theorem dX8_lays_119 : decode cX8_lays 119 = .ok (.iload 6, 2) := by decide +kernel
theorem dX8_lays_121 : decode cX8_lays 121 = .ok (.istore_n 3, 1) := by decide +kernel
theorem dX8_lays_122 : decode cX8_lays 122 = .ok (.iinc 4 1, 3) := by decide +kernel
theorem dX8_lays_125 : decode cX8_lays 125 = .ok (.goto (-118), 3) := by decide +kernel
theorem dX8_lays_128 : decode cX8_lays 128 = .ok (.iload_n 2, 1) := by decide +kernel
theorem dX8_lays_129 : decode cX8_lays 129 = .ok (.iconst (-1), 1) := by decide +kernel
theorem dX8_lays_130 : decode cX8_lays 130 = .ok (.if_icmp .ne 5, 3) := by decide +kernel
theorem dX8_lays_133 : decode cX8_lays 133 = .ok (.iconst 0, 1) := by decide +kernel
theorem dX8_lays_134 : decode cX8_lays 134 = .ok (.ireturn, 1) := by decide +kernel
theorem dX8_lays_135 : decode cX8_lays 135 = .ok (.aload_n 0, 1) := by decide +kernel
theorem dX8_lays_136 : decode cX8_lays 136 = .ok (.iload_n 1, 1) := by decide +kernel
theorem dX8_lays_137 : decode cX8_lays 137 = .ok (.iload_n 2, 1) := by decide +kernel
theorem dX8_lays_138 : decode cX8_lays 138 = .ok (.invokevirtual 86, 3) := by decide +kernel
theorem dX8_lays_141 : decode cX8_lays 141 = .ok (.iconst 1, 1) := by decide +kernel
theorem dX8_lays_142 : decode cX8_lays 142 = .ok (.ireturn, 1) := by decide +kernel
theorem dX8_moves_0 : decode cX8_moves 0 = .ok (.aload_n 0, 1) := by decide +kernel
theorem dX8_moves_1 : decode cX8_moves 1 = .ok (.getfield 32, 3) := by decide +kernel
theorem dX8_moves_4 : decode cX8_moves 4 = .ok (.iload_n 1, 1) := by decide +kernel
theorem dX8_moves_5 : decode cX8_moves 5 = .ok (.iaload, 1) := by decide +kernel
theorem dX8_moves_6 : decode cX8_moves 6 = .ok (.istore_n 2, 1) := by decide +kernel
theorem dX8_moves_7 : decode cX8_moves 7 = .ok (.aload_n 0, 1) := by decide +kernel
theorem dX8_moves_8 : decode cX8_moves 8 = .ok (.iload_n 2, 1) := by decide +kernel
theorem dX8_moves_9 : decode cX8_moves 9 = .ok (.invokevirtual 102, 3) := by decide +kernel
theorem dX8_moves_12 : decode cX8_moves 12 = .ok (.iconst 1, 1) := by decide +kernel
theorem dX8_moves_13 : decode cX8_moves 13 = .ok (.if_icmp .ne 7, 3) := by decide +kernel
theorem dX8_moves_16 : decode cX8_moves 16 = .ok (.iconst 1, 1) := by decide +kernel
theorem dX8_moves_17 : decode cX8_moves 17 = .ok (.goto 4, 3) := by decide +kernel
theorem dX8_moves_20 : decode cX8_moves 20 = .ok (.iconst 0, 1) := by decide +kernel
theorem dX8_moves_21 : decode cX8_moves 21 = .ok (.istore_n 3, 1) := by decide +kernel
theorem dX8_moves_22 : decode cX8_moves 22 = .ok (.aload_n 0, 1) := by decide +kernel
theorem dX8_moves_23 : decode cX8_moves 23 = .ok (.iload_n 1, 1) := by decide +kernel
theorem dX8_moves_24 : decode cX8_moves 24 = .ok (.iload_n 2, 1) := by decide +kernel
theorem dX8_moves_25 : decode cX8_moves 25 = .ok (.invokevirtual 99, 3) := by decide +kernel
theorem dX8_moves_28 : decode cX8_moves 28 = .ok (.istore 4, 2) := by decide +kernel
theorem dX8_moves_30 : decode cX8_moves 30 = .ok (.aload_n 0, 1) := by decide +kernel
theorem dX8_moves_31 : decode cX8_moves 31 = .ok (.iload_n 1, 1) := by decide +kernel
theorem dX8_moves_32 : decode cX8_moves 32 = .ok (.iload_n 2, 1) := by decide +kernel
theorem dX8_moves_33 : decode cX8_moves 33 = .ok (.invokevirtual 79, 3) := by decide +kernel
theorem dX8_moves_36 : decode cX8_moves 36 = .ok (.iload_n 3, 1) := by decide +kernel
theorem dX8_moves_37 : decode cX8_moves 37 = .ok (.ifCond .eq 10, 3) := by decide +kernel
theorem dX8_moves_40 : decode cX8_moves 40 = .ok (.aload_n 0, 1) := by decide +kernel
theorem dX8_moves_41 : decode cX8_moves 41 = .ok (.getfield 13, 3) := by decide +kernel
theorem dX8_moves_44 : decode cX8_moves 44 = .ok (.goto 4, 3) := by decide +kernel
theorem dX8_moves_47 : decode cX8_moves 47 = .ok (.iconst 0, 1) := by decide +kernel
theorem dX8_moves_48 : decode cX8_moves 48 = .ok (.iadd, 1) := by decide +kernel
theorem dX8_moves_49 : decode cX8_moves 49 = .ok (.istore 5, 2) := by decide +kernel
theorem dX8_moves_51 : decode cX8_moves 51 = .ok (.iconst 0, 1) := by decide +kernel
theorem dX8_moves_52 : decode cX8_moves 52 = .ok (.istore 6, 2) := by decide +kernel
theorem dX8_moves_54 : decode cX8_moves 54 = .ok (.iload 6, 2) := by decide +kernel
theorem dX8_moves_56 : decode cX8_moves 56 = .ok (.aload_n 0, 1) := by decide +kernel
theorem dX8_moves_57 : decode cX8_moves 57 = .ok (.getfield 60, 3) := by decide +kernel
theorem dX8_moves_60 : decode cX8_moves 60 = .ok (.if_icmp .gt 140, 3) := by decide +kernel
theorem dX8_moves_63 : decode cX8_moves 63 = .ok (.iload 6, 2) := by decide +kernel
theorem dX8_moves_65 : decode cX8_moves 65 = .ok (.aload_n 0, 1) := by decide +kernel
theorem dX8_moves_66 : decode cX8_moves 66 = .ok (.getfield 60, 3) := by decide +kernel
theorem dX8_moves_69 : decode cX8_moves 69 = .ok (.if_icmp .ne 7, 3) := by decide +kernel
theorem dX8_moves_72 : decode cX8_moves 72 = .ok (.iconst 1, 1) := by decide +kernel
theorem dX8_moves_73 : decode cX8_moves 73 = .ok (.goto 4, 3) := by decide +kernel
theorem dX8_moves_76 : decode cX8_moves 76 = .ok (.iconst 0, 1) := by decide +kernel
theorem dX8_moves_77 : decode cX8_moves 77 = .ok (.istore 7, 2) := by decide +kernel
theorem dX8_moves_79 : decode cX8_moves 79 = .ok (.iload 7, 2) := by decide +kernel
theorem dX8_moves_81 : decode cX8_moves 81 = .ok (.ifCond .eq 10, 3) := by decide +kernel
theorem dX8_moves_84 : decode cX8_moves 84 = .ok (.iload_n 3, 1) := by decide +kernel
theorem dX8_moves_85 : decode cX8_moves 85 = .ok (.ifCond .eq 27, 3) := by decide +kernel
theorem dX8_moves_88 : decode cX8_moves 88 = .ok (.goto 106, 3) := by decide +kernel
theorem dX8_moves_91 : decode cX8_moves 91 = .ok (.aload_n 0, 1) := by decide +kernel
theorem dX8_moves_92 : decode cX8_moves 92 = .ok (.getfield 32, 3) := by decide +kernel
theorem dX8_moves_95 : decode cX8_moves 95 = .ok (.iload 6, 2) := by decide +kernel
theorem dX8_moves_97 : decode cX8_moves 97 = .ok (.iaload, 1) := by decide +kernel
theorem dX8_moves_98 : decode cX8_moves 98 = .ok (.iload 6, 2) := by decide +kernel
theorem dX8_moves_100 : decode cX8_moves 100 = .ok (.if_icmp .ne 94, 3) := by decide +kernel
theorem dX8_moves_103 : decode cX8_moves 103 = .ok (.iload 6, 2) := by decide +kernel
theorem dX8_moves_105 : decode cX8_moves 105 = .ok (.iload_n 2, 1) := by decide +kernel
theorem dX8_moves_106 : decode cX8_moves 106 = .ok (.if_icmp .ne 6, 3) := by decide +kernel
theorem dX8_moves_109 : decode cX8_moves 109 = .ok (.goto 85, 3) := by decide +kernel
theorem dX8_moves_112 : decode cX8_moves 112 = .ok (.aload_n 0, 1) := by decide +kernel
theorem dX8_moves_113 : decode cX8_moves 113 = .ok (.iload_n 1, 1) := by decide +kernel
theorem dX8_moves_114 : decode cX8_moves 114 = .ok (.iload 7, 2) := by decide +kernel
theorem dX8_moves_116 : decode cX8_moves 116 = .ok (.ifCond .eq 8, 3) := by decide +kernel
theorem dX8_moves_119 : decode cX8_moves 119 = .ok (.bipush (-2), 2) := by decide +kernel
theorem dX8_moves_121 : decode cX8_moves 121 = .ok (.goto 5, 3) := by decide +kernel
theorem dX8_moves_124 : decode cX8_moves 124 = .ok (.iload 6, 2) := by decide +kernel
theorem dX8_moves_126 : decode cX8_moves 126 = .ok (.invokevirtual 99, 3) := by decide +kernel
theorem dX8_moves_129 : decode cX8_moves 129 = .ok (.istore 8, 2) := by decide +kernel
theorem dX8_moves_131 : decode cX8_moves 131 = .ok (.iload 7, 2) := by decide +kernel
theorem dX8_moves_133 : decode cX8_moves 133 = .ok (.ifCond .eq 10, 3) := by decide +kernel
theorem dX8_moves_136 : decode cX8_moves 136 = .ok (.aload_n 0, 1) := by decide +kernel
theorem dX8_moves_137 : decode cX8_moves 137 = .ok (.getfield 13, 3) := by decide +kernel
theorem dX8_moves_140 : decode cX8_moves 140 = .ok (.goto 10, 3) := by decide +kernel
theorem dX8_moves_143 : decode cX8_moves 143 = .ok (.aload_n 0, 1) := by decide +kernel
theorem dX8_moves_144 : decode cX8_moves 144 = .ok (.iload_n 1, 1) := by decide +kernel
theorem dX8_moves_145 : decode cX8_moves 145 = .ok (.iload 6, 2) := by decide +kernel
theorem dX8_moves_147 : decode cX8_moves 147 = .ok (.invokevirtual 79, 3) := by decide +kernel
theorem dX8_moves_150 : decode cX8_moves 150 = .ok (.istore 9, 2) := by decide +kernel
theorem dX8_moves_152 : decode cX8_moves 152 = .ok (.iload 8, 2) := by decide +kernel
theorem dX8_moves_154 : decode cX8_moves 154 = .ok (.iload 4, 2) := by decide +kernel
theorem dX8_moves_156 : decode cX8_moves 156 = .ok (.if_icmp .gt 38, 3) := by decide +kernel
theorem dX8_moves_159 : decode cX8_moves 159 = .ok (.iload 8, 2) := by decide +kernel
theorem dX8_moves_161 : decode cX8_moves 161 = .ok (.iload 4, 2) := by decide +kernel
theorem dX8_moves_163 : decode cX8_moves 163 = .ok (.if_icmp .ne 13, 3) := by decide +kernel
theorem dX8_moves_166 : decode cX8_moves 166 = .ok (.iload 9, 2) := by decide +kernel
theorem dX8_moves_168 : decode cX8_moves 168 = .ok (.iload 5, 2) := by decide +kernel
theorem dX8_moves_170 : decode cX8_moves 170 = .ok (.if_icmp .lt 6, 3) := by decide +kernel
theorem dX8_moves_173 : decode cX8_moves 173 = .ok (.goto 21, 3) := by decide +kernel
theorem dX8_moves_176 : decode cX8_moves 176 = .ok (.aload_n 0, 1) := by decide +kernel
theorem dX8_moves_177 : decode cX8_moves 177 = .ok (.iload_n 1, 1) := by decide +kernel
theorem dX8_moves_178 : decode cX8_moves 178 = .ok (.iload 7, 2) := by decide +kernel
theorem dX8_moves_180 : decode cX8_moves 180 = .ok (.ifCond .eq 7, 3) := by decide +kernel
theorem dX8_moves_183 : decode cX8_moves 183 = .ok (.iload_n 1, 1) := by decide +kernel
theorem dX8_moves_184 : decode cX8_moves 184 = .ok (.goto 5, 3) := by decide +kernel
theorem dX8_moves_187 : decode cX8_moves 187 = .ok (.iload 6, 2) := by decide +kernel
theorem dX8_moves_189 : decode cX8_moves 189 = .ok (.invokevirtual 86, 3) := by decide +kernel
theorem dX8_moves_192 : decode cX8_moves 192 = .ok (.iconst 1, 1) := by decide +kernel
theorem dX8_moves_193 : decode cX8_moves 193 = .ok (.ireturn, 1) := by decide +kernel
theorem dX8_moves_194 : decode cX8_moves 194 = .ok (.iinc 6 1, 3) := by decide +kernel
theorem dX8_moves_197 : decode cX8_moves 197 = .ok (.goto (-143), 3) := by decide +kernel
theorem dX8_moves_200 : decode cX8_moves 200 = .ok (.iconst 0, 1) := by decide +kernel
theorem dX8_moves_201 : decode cX8_moves 201 = .ok (.ireturn, 1) := by decide +kernel
theorem dX8_melts_0 : decode cX8_melts 0 = .ok (.aload_n 0, 1) := by decide +kernel
theorem dX8_melts_1 : decode cX8_melts 1 = .ok (.getfield 13, 3) := by decide +kernel
theorem dX8_melts_4 : decode cX8_melts 4 = .ok (.ineg, 1) := by decide +kernel
theorem dX8_melts_5 : decode cX8_melts 5 = .ok (.istore_n 3, 1) := by decide +kernel
theorem dX8_melts_6 : decode cX8_melts 6 = .ok (.iconst 0, 1) := by decide +kernel
theorem dX8_melts_7 : decode cX8_melts 7 = .ok (.istore 4, 2) := by decide +kernel
theorem dX8_melts_9 : decode cX8_melts 9 = .ok (.iload 4, 2) := by decide +kernel
theorem dX8_melts_11 : decode cX8_melts 11 = .ok (.aload_n 0, 1) := by decide +kernel
theorem dX8_melts_12 : decode cX8_melts 12 = .ok (.getfield 60, 3) := by decide +kernel
theorem dX8_melts_15 : decode cX8_melts 15 = .ok (.if_icmp .ge 65, 3) := by decide +kernel
theorem dX8_melts_18 : decode cX8_melts 18 = .ok (.iconst 0, 1) := by decide +kernel
theorem dX8_melts_19 : decode cX8_melts 19 = .ok (.istore 5, 2) := by decide +kernel
theorem dX8_melts_21 : decode cX8_melts 21 = .ok (.iload 5, 2) := by decide +kernel
theorem dX8_melts_23 : decode cX8_melts 23 = .ok (.aload_n 0, 1) := by decide +kernel
theorem dX8_melts_24 : decode cX8_melts 24 = .ok (.getfield 60, 3) := by decide +kernel
theorem dX8_melts_27 : decode cX8_melts 27 = .ok (.if_icmp .ge 47, 3) := by decide +kernel
theorem dX8_melts_30 : decode cX8_melts 30 = .ok (.aload_n 0, 1) := by decide +kernel
theorem dX8_melts_31 : decode cX8_melts 31 = .ok (.getfield 32, 3) := by decide +kernel
theorem dX8_melts_34 : decode cX8_melts 34 = .ok (.iload 4, 2) := by decide +kernel
theorem dX8_melts_36 : decode cX8_melts 36 = .ok (.iaload, 1) := by decide +kernel
theorem dX8_melts_37 : decode cX8_melts 37 = .ok (.iload_n 1, 1) := by decide +kernel
theorem dX8_melts_38 : decode cX8_melts 38 = .ok (.if_icmp .ne 30, 3) := by decide +kernel
theorem dX8_melts_41 : decode cX8_melts 41 = .ok (.aload_n 0, 1) := by decide +kernel
theorem dX8_melts_42 : decode cX8_melts 42 = .ok (.getfield 32, 3) := by decide +kernel
theorem dX8_melts_45 : decode cX8_melts 45 = .ok (.iload 5, 2) := by decide +kernel
theorem dX8_melts_47 : decode cX8_melts 47 = .ok (.iaload, 1) := by decide +kernel
theorem dX8_melts_48 : decode cX8_melts 48 = .ok (.iload_n 2, 1) := by decide +kernel
theorem dX8_melts_49 : decode cX8_melts 49 = .ok (.if_icmp .ne 19, 3) := by decide +kernel
theorem dX8_melts_52 : decode cX8_melts 52 = .ok (.iload_n 3, 1) := by decide +kernel
theorem dX8_melts_53 : decode cX8_melts 53 = .ok (.aload_n 0, 1) := by decide +kernel
theorem dX8_melts_54 : decode cX8_melts 54 = .ok (.getfield 35, 3) := by decide +kernel
theorem dX8_melts_57 : decode cX8_melts 57 = .ok (.bipush 40, 2) := by decide +kernel
theorem dX8_melts_59 : decode cX8_melts 59 = .ok (.iload 4, 2) := by decide +kernel
theorem dX8_melts_61 : decode cX8_melts 61 = .ok (.imul, 1) := by decide +kernel
theorem dX8_melts_62 : decode cX8_melts 62 = .ok (.iload 5, 2) := by decide +kernel
theorem dX8_melts_64 : decode cX8_melts 64 = .ok (.iadd, 1) := by decide +kernel
theorem dX8_melts_65 : decode cX8_melts 65 = .ok (.iaload, 1) := by decide +kernel
theorem dX8_melts_66 : decode cX8_melts 66 = .ok (.iadd, 1) := by decide +kernel
theorem dX8_melts_67 : decode cX8_melts 67 = .ok (.istore_n 3, 1) := by decide +kernel
theorem dX8_melts_68 : decode cX8_melts 68 = .ok (.iinc 5 1, 3) := by decide +kernel
theorem dX8_melts_71 : decode cX8_melts 71 = .ok (.goto (-50), 3) := by decide +kernel
theorem dX8_melts_74 : decode cX8_melts 74 = .ok (.iinc 4 1, 3) := by decide +kernel
theorem dX8_melts_77 : decode cX8_melts 77 = .ok (.goto (-68), 3) := by decide +kernel
theorem dX8_melts_80 : decode cX8_melts 80 = .ok (.iconst 0, 1) := by decide +kernel
theorem dX8_melts_81 : decode cX8_melts 81 = .ok (.istore 4, 2) := by decide +kernel
theorem dX8_melts_83 : decode cX8_melts 83 = .ok (.iconst 0, 1) := by decide +kernel
theorem dX8_melts_84 : decode cX8_melts 84 = .ok (.istore 5, 2) := by decide +kernel
theorem dX8_melts_86 : decode cX8_melts 86 = .ok (.iload 5, 2) := by decide +kernel
theorem dX8_melts_88 : decode cX8_melts 88 = .ok (.aload_n 0, 1) := by decide +kernel
theorem dX8_melts_89 : decode cX8_melts 89 = .ok (.getfield 90, 3) := by decide +kernel
theorem dX8_melts_92 : decode cX8_melts 92 = .ok (.if_icmp .ge 81, 3) := by decide +kernel
theorem dX8_melts_95 : decode cX8_melts 95 = .ok (.aload_n 0, 1) := by decide +kernel
theorem dX8_melts_96 : decode cX8_melts 96 = .ok (.getfield 32, 3) := by decide +kernel
theorem dX8_melts_99 : decode cX8_melts 99 = .ok (.aload_n 0, 1) := by decide +kernel
theorem dX8_melts_100 : decode cX8_melts 100 = .ok (.getfield 38, 3) := by decide +kernel
theorem dX8_melts_103 : decode cX8_melts 103 = .ok (.iload 5, 2) := by decide +kernel
theorem dX8_melts_105 : decode cX8_melts 105 = .ok (.iaload, 1) := by decide +kernel
theorem dX8_melts_106 : decode cX8_melts 106 = .ok (.iaload, 1) := by decide +kernel
theorem dX8_melts_107 : decode cX8_melts 107 = .ok (.istore 6, 2) := by decide +kernel
theorem dX8_melts_109 : decode cX8_melts 109 = .ok (.aload_n 0, 1) := by decide +kernel
theorem dX8_melts_110 : decode cX8_melts 110 = .ok (.getfield 32, 3) := by decide +kernel
theorem dX8_melts_113 : decode cX8_melts 113 = .ok (.aload_n 0, 1) := by decide +kernel
theorem dX8_melts_114 : decode cX8_melts 114 = .ok (.getfield 41, 3) := by decide +kernel
theorem dX8_melts_117 : decode cX8_melts 117 = .ok (.iload 5, 2) := by decide +kernel
theorem dX8_melts_119 : decode cX8_melts 119 = .ok (.iaload, 1) := by decide +kernel
theorem dX8_melts_120 : decode cX8_melts 120 = .ok (.iaload, 1) := by decide +kernel
theorem dX8_melts_121 : decode cX8_melts 121 = .ok (.istore 7, 2) := by decide +kernel
theorem dX8_melts_123 : decode cX8_melts 123 = .ok (.iload 6, 2) := by decide +kernel
theorem dX8_melts_125 : decode cX8_melts 125 = .ok (.iload_n 1, 1) := by decide +kernel
theorem dX8_melts_126 : decode cX8_melts 126 = .ok (.if_icmp .ne 9, 3) := by decide +kernel
theorem dX8_melts_129 : decode cX8_melts 129 = .ok (.iload 7, 2) := by decide +kernel
theorem dX8_melts_131 : decode cX8_melts 131 = .ok (.iload_n 2, 1) := by decide +kernel
theorem dX8_melts_132 : decode cX8_melts 132 = .ok (.if_icmp .eq 15, 3) := by decide +kernel
theorem dX8_melts_135 : decode cX8_melts 135 = .ok (.iload 6, 2) := by decide +kernel
theorem dX8_melts_137 : decode cX8_melts 137 = .ok (.iload_n 2, 1) := by decide +kernel
theorem dX8_melts_138 : decode cX8_melts 138 = .ok (.if_icmp .ne 29, 3) := by decide +kernel
theorem dX8_melts_141 : decode cX8_melts 141 = .ok (.iload 7, 2) := by decide +kernel
theorem dX8_melts_143 : decode cX8_melts 143 = .ok (.iload_n 1, 1) := by decide +kernel
theorem dX8_melts_144 : decode cX8_melts 144 = .ok (.if_icmp .ne 23, 3) := by decide +kernel
theorem dX8_melts_147 : decode cX8_melts 147 = .ok (.iload 4, 2) := by decide +kernel
theorem dX8_melts_149 : decode cX8_melts 149 = .ok (.aload_n 0, 1) := by decide +kernel
theorem dX8_melts_150 : decode cX8_melts 150 = .ok (.getfield 44, 3) := by decide +kernel
theorem dX8_melts_153 : decode cX8_melts 153 = .ok (.iload 5, 2) := by decide +kernel
theorem dX8_melts_155 : decode cX8_melts 155 = .ok (.baload, 1) := by decide +kernel
theorem dX8_melts_156 : decode cX8_melts 156 = .ok (.ifCond .eq 7, 3) := by decide +kernel
theorem dX8_melts_159 : decode cX8_melts 159 = .ok (.iconst (-1), 1) := by decide +kernel
theorem dX8_melts_160 : decode cX8_melts 160 = .ok (.goto 4, 3) := by decide +kernel
theorem dX8_melts_163 : decode cX8_melts 163 = .ok (.iconst 1, 1) := by decide +kernel
theorem dX8_melts_164 : decode cX8_melts 164 = .ok (.iadd, 1) := by decide +kernel
theorem dX8_melts_165 : decode cX8_melts 165 = .ok (.istore 4, 2) := by decide +kernel
theorem dX8_melts_167 : decode cX8_melts 167 = .ok (.iinc 5 1, 3) := by decide +kernel
theorem dX8_melts_170 : decode cX8_melts 170 = .ok (.goto (-84), 3) := by decide +kernel
theorem dX8_melts_173 : decode cX8_melts 173 = .ok (.iload 4, 2) := by decide +kernel
theorem dX8_melts_175 : decode cX8_melts 175 = .ok (.ifCond .gt 12, 3) := by decide +kernel
theorem dX8_melts_178 : decode cX8_melts 178 = .ok (.iload 4, 2) := by decide +kernel
theorem dX8_melts_180 : decode cX8_melts 180 = .ok (.ifCond .ne 9, 3) := by decide +kernel
theorem dX8_melts_183 : decode cX8_melts 183 = .ok (.iload_n 3, 1) := by decide +kernel
theorem dX8_melts_184 : decode cX8_melts 184 = .ok (.ifCond .lt 5, 3) := by decide +kernel
theorem dX8_melts_187 : decode cX8_melts 187 = .ok (.iconst 0, 1) := by decide +kernel
theorem dX8_melts_188 : decode cX8_melts 188 = .ok (.ireturn, 1) := by decide +kernel
theorem dX8_melts_189 : decode cX8_melts 189 = .ok (.iconst 0, 1) := by decide +kernel
theorem dX8_melts_190 : decode cX8_melts 190 = .ok (.istore 5, 2) := by decide +kernel
theorem dX8_melts_192 : decode cX8_melts 192 = .ok (.iload 5, 2) := by decide +kernel
theorem dX8_melts_194 : decode cX8_melts 194 = .ok (.aload_n 0, 1) := by decide +kernel
theorem dX8_melts_195 : decode cX8_melts 195 = .ok (.getfield 60, 3) := by decide +kernel
theorem dX8_melts_198 : decode cX8_melts 198 = .ok (.if_icmp .ge 28, 3) := by decide +kernel
theorem dX8_melts_201 : decode cX8_melts 201 = .ok (.aload_n 0, 1) := by decide +kernel
theorem dX8_melts_202 : decode cX8_melts 202 = .ok (.getfield 32, 3) := by decide +kernel
theorem dX8_melts_205 : decode cX8_melts 205 = .ok (.iload 5, 2) := by decide +kernel
theorem dX8_melts_207 : decode cX8_melts 207 = .ok (.iaload, 1) := by decide +kernel
theorem dX8_melts_208 : decode cX8_melts 208 = .ok (.iload_n 2, 1) := by decide +kernel
theorem dX8_melts_209 : decode cX8_melts 209 = .ok (.if_icmp .ne 11, 3) := by decide +kernel
theorem dX8_melts_212 : decode cX8_melts 212 = .ok (.aload_n 0, 1) := by decide +kernel
theorem dX8_melts_213 : decode cX8_melts 213 = .ok (.getfield 32, 3) := by decide +kernel
theorem dX8_melts_216 : decode cX8_melts 216 = .ok (.iload 5, 2) := by decide +kernel
theorem dX8_melts_218 : decode cX8_melts 218 = .ok (.iload_n 1, 1) := by decide +kernel
theorem dX8_melts_219 : decode cX8_melts 219 = .ok (.iastore, 1) := by decide +kernel
theorem dX8_melts_220 : decode cX8_melts 220 = .ok (.iinc 5 1, 3) := by decide +kernel
theorem dX8_melts_223 : decode cX8_melts 223 = .ok (.goto (-31), 3) := by decide +kernel
theorem dX8_melts_226 : decode cX8_melts 226 = .ok (.iconst 1, 1) := by decide +kernel
theorem dX8_melts_227 : decode cX8_melts 227 = .ok (.ireturn, 1) := by decide +kernel
theorem dX8_goesOn_0 : decode cX8_goesOn 0 = .ok (.iconst 0, 1) := by decide +kernel
theorem dX8_goesOn_1 : decode cX8_goesOn 1 = .ok (.istore_n 1, 1) := by decide +kernel
theorem dX8_goesOn_2 : decode cX8_goesOn 2 = .ok (.iload_n 1, 1) := by decide +kernel
theorem dX8_goesOn_3 : decode cX8_goesOn 3 = .ok (.aload_n 0, 1) := by decide +kernel
theorem dX8_goesOn_4 : decode cX8_goesOn 4 = .ok (.getfield 60, 3) := by decide +kernel
theorem dX8_goesOn_7 : decode cX8_goesOn 7 = .ok (.if_icmp .ge 29, 3) := by decide +kernel
theorem dX8_goesOn_10 : decode cX8_goesOn 10 = .ok (.aload_n 0, 1) := by decide +kernel
theorem dX8_goesOn_11 : decode cX8_goesOn 11 = .ok (.getfield 32, 3) := by decide +kernel
theorem dX8_goesOn_14 : decode cX8_goesOn 14 = .ok (.iload_n 1, 1) := by decide +kernel
theorem dX8_goesOn_15 : decode cX8_goesOn 15 = .ok (.iaload, 1) := by decide +kernel
theorem dX8_goesOn_16 : decode cX8_goesOn 16 = .ok (.iconst (-1), 1) := by decide +kernel
theorem dX8_goesOn_17 : decode cX8_goesOn 17 = .ok (.if_icmp .ne 13, 3) := by decide +kernel
theorem dX8_goesOn_20 : decode cX8_goesOn 20 = .ok (.aload_n 0, 1) := by decide +kernel
theorem dX8_goesOn_21 : decode cX8_goesOn 21 = .ok (.iload_n 1, 1) := by decide +kernel
theorem dX8_goesOn_22 : decode cX8_goesOn 22 = .ok (.invokevirtual 106, 3) := by decide +kernel
theorem dX8_goesOn_25 : decode cX8_goesOn 25 = .ok (.ifCond .eq 5, 3) := by decide +kernel
theorem dX8_goesOn_28 : decode cX8_goesOn 28 = .ok (.iconst 1, 1) := by decide +kernel
theorem dX8_goesOn_29 : decode cX8_goesOn 29 = .ok (.ireturn, 1) := by decide +kernel
theorem dX8_goesOn_30 : decode cX8_goesOn 30 = .ok (.iinc 1 1, 3) := by decide +kernel
theorem dX8_goesOn_33 : decode cX8_goesOn 33 = .ok (.goto (-31), 3) := by decide +kernel
theorem dX8_goesOn_36 : decode cX8_goesOn 36 = .ok (.iconst 0, 1) := by decide +kernel
theorem dX8_goesOn_37 : decode cX8_goesOn 37 = .ok (.istore_n 1, 1) := by decide +kernel
theorem dX8_goesOn_38 : decode cX8_goesOn 38 = .ok (.iload_n 1, 1) := by decide +kernel
theorem dX8_goesOn_39 : decode cX8_goesOn 39 = .ok (.aload_n 0, 1) := by decide +kernel
theorem dX8_goesOn_40 : decode cX8_goesOn 40 = .ok (.getfield 60, 3) := by decide +kernel
theorem dX8_goesOn_43 : decode cX8_goesOn 43 = .ok (.if_icmp .ge 29, 3) := by decide +kernel
theorem dX8_goesOn_46 : decode cX8_goesOn 46 = .ok (.aload_n 0, 1) := by decide +kernel
theorem dX8_goesOn_47 : decode cX8_goesOn 47 = .ok (.getfield 32, 3) := by decide +kernel
theorem dX8_goesOn_50 : decode cX8_goesOn 50 = .ok (.iload_n 1, 1) := by decide +kernel
theorem dX8_goesOn_51 : decode cX8_goesOn 51 = .ok (.iaload, 1) := by decide +kernel
theorem dX8_goesOn_52 : decode cX8_goesOn 52 = .ok (.iconst (-1), 1) := by decide +kernel
theorem dX8_goesOn_53 : decode cX8_goesOn 53 = .ok (.if_icmp .eq 13, 3) := by decide +kernel
theorem dX8_goesOn_56 : decode cX8_goesOn 56 = .ok (.aload_n 0, 1) := by decide +kernel
theorem dX8_goesOn_57 : decode cX8_goesOn 57 = .ok (.iload_n 1, 1) := by decide +kernel
theorem dX8_goesOn_58 : decode cX8_goesOn 58 = .ok (.invokevirtual 109, 3) := by decide +kernel
theorem dX8_goesOn_61 : decode cX8_goesOn 61 = .ok (.ifCond .eq 5, 3) := by decide +kernel
theorem dX8_goesOn_64 : decode cX8_goesOn 64 = .ok (.iconst 1, 1) := by decide +kernel
theorem dX8_goesOn_65 : decode cX8_goesOn 65 = .ok (.ireturn, 1) := by decide +kernel
theorem dX8_goesOn_66 : decode cX8_goesOn 66 = .ok (.iinc 1 1, 3) := by decide +kernel
theorem dX8_goesOn_69 : decode cX8_goesOn 69 = .ok (.goto (-31), 3) := by decide +kernel
theorem dX8_goesOn_72 : decode cX8_goesOn 72 = .ok (.iconst 0, 1) := by decide +kernel
theorem dX8_goesOn_73 : decode cX8_goesOn 73 = .ok (.istore_n 1, 1) := by decide +kernel
theorem dX8_goesOn_74 : decode cX8_goesOn 74 = .ok (.iload_n 1, 1) := by decide +kernel
theorem dX8_goesOn_75 : decode cX8_goesOn 75 = .ok (.aload_n 0, 1) := by decide +kernel
theorem dX8_goesOn_76 : decode cX8_goesOn 76 = .ok (.getfield 60, 3) := by decide +kernel
theorem dX8_goesOn_79 : decode cX8_goesOn 79 = .ok (.if_icmp .ge 58, 3) := by decide +kernel
theorem dX8_goesOn_82 : decode cX8_goesOn 82 = .ok (.iload_n 1, 1) := by decide +kernel
theorem dX8_goesOn_83 : decode cX8_goesOn 83 = .ok (.iconst 1, 1) := by decide +kernel
theorem dX8_goesOn_84 : decode cX8_goesOn 84 = .ok (.iadd, 1) := by decide +kernel
theorem dX8_goesOn_85 : decode cX8_goesOn 85 = .ok (.istore_n 2, 1) := by decide +kernel
theorem dX8_goesOn_86 : decode cX8_goesOn 86 = .ok (.iload_n 2, 1) := by decide +kernel
theorem dX8_goesOn_87 : decode cX8_goesOn 87 = .ok (.aload_n 0, 1) := by decide +kernel
theorem dX8_goesOn_88 : decode cX8_goesOn 88 = .ok (.getfield 60, 3) := by decide +kernel
theorem dX8_goesOn_91 : decode cX8_goesOn 91 = .ok (.if_icmp .ge 40, 3) := by decide +kernel
theorem dX8_goesOn_94 : decode cX8_goesOn 94 = .ok (.aload_n 0, 1) := by decide +kernel
theorem dX8_goesOn_95 : decode cX8_goesOn 95 = .ok (.getfield 32, 3) := by decide +kernel
theorem dX8_goesOn_98 : decode cX8_goesOn 98 = .ok (.iload_n 1, 1) := by decide +kernel
theorem dX8_goesOn_99 : decode cX8_goesOn 99 = .ok (.iaload, 1) := by decide +kernel
theorem dX8_goesOn_100 : decode cX8_goesOn 100 = .ok (.iload_n 1, 1) := by decide +kernel
theorem dX8_goesOn_101 : decode cX8_goesOn 101 = .ok (.if_icmp .ne 30, 3) := by decide +kernel
theorem dX8_goesOn_104 : decode cX8_goesOn 104 = .ok (.aload_n 0, 1) := by decide +kernel
theorem dX8_goesOn_105 : decode cX8_goesOn 105 = .ok (.getfield 32, 3) := by decide +kernel
theorem dX8_goesOn_108 : decode cX8_goesOn 108 = .ok (.iload_n 2, 1) := by decide +kernel
theorem dX8_goesOn_109 : decode cX8_goesOn 109 = .ok (.iaload, 1) := by decide +kernel
theorem dX8_goesOn_110 : decode cX8_goesOn 110 = .ok (.iload_n 2, 1) := by decide +kernel
theorem dX8_goesOn_111 : decode cX8_goesOn 111 = .ok (.if_icmp .ne 14, 3) := by decide +kernel
theorem dX8_goesOn_114 : decode cX8_goesOn 114 = .ok (.aload_n 0, 1) := by decide +kernel
theorem dX8_goesOn_115 : decode cX8_goesOn 115 = .ok (.iload_n 1, 1) := by decide +kernel
theorem dX8_goesOn_116 : decode cX8_goesOn 116 = .ok (.iload_n 2, 1) := by decide +kernel
theorem dX8_goesOn_117 : decode cX8_goesOn 117 = .ok (.invokevirtual 112, 3) := by decide +kernel
theorem dX8_goesOn_120 : decode cX8_goesOn 120 = .ok (.ifCond .eq 5, 3) := by decide +kernel
theorem dX8_goesOn_123 : decode cX8_goesOn 123 = .ok (.iconst 1, 1) := by decide +kernel
theorem dX8_goesOn_124 : decode cX8_goesOn 124 = .ok (.ireturn, 1) := by decide +kernel
theorem dX8_goesOn_125 : decode cX8_goesOn 125 = .ok (.iinc 2 1, 3) := by decide +kernel
theorem dX8_goesOn_128 : decode cX8_goesOn 128 = .ok (.goto (-42), 3) := by decide +kernel
theorem dX8_goesOn_131 : decode cX8_goesOn 131 = .ok (.iinc 1 1, 3) := by decide +kernel
theorem dX8_goesOn_134 : decode cX8_goesOn 134 = .ok (.goto (-60), 3) := by decide +kernel
theorem dX8_goesOn_137 : decode cX8_goesOn 137 = .ok (.iconst 0, 1) := by decide +kernel
theorem dX8_goesOn_138 : decode cX8_goesOn 138 = .ok (.ireturn, 1) := by decide +kernel
theorem dX8_settle_0 : decode cX8_settle 0 = .ok (.iload_n 1, 1) := by decide +kernel
theorem dX8_settle_1 : decode cX8_settle 1 = .ok (.iconst 0, 1) := by decide +kernel
theorem dX8_settle_2 : decode cX8_settle 2 = .ok (.bipush 100, 2) := by decide +kernel
theorem dX8_settle_4 : decode cX8_settle 4 = .ok (.invokestatic 63, 3) := by decide +kernel
theorem dX8_settle_7 : decode cX8_settle 7 = .ok (.ifCond .ne 5, 3) := by decide +kernel
theorem dX8_settle_10 : decode cX8_settle 10 = .ok (.iconst (-1), 1) := by decide +kernel
theorem dX8_settle_11 : decode cX8_settle 11 = .ok (.ireturn, 1) := by decide +kernel
theorem dX8_settle_12 : decode cX8_settle 12 = .ok (.iconst 0, 1) := by decide +kernel
theorem dX8_settle_13 : decode cX8_settle 13 = .ok (.istore_n 2, 1) := by decide +kernel
theorem dX8_settle_14 : decode cX8_settle 14 = .ok (.iload_n 2, 1) := by decide +kernel
theorem dX8_settle_15 : decode cX8_settle 15 = .ok (.iload_n 1, 1) := by decide +kernel
theorem dX8_settle_16 : decode cX8_settle 16 = .ok (.if_icmp .ge 16, 3) := by decide +kernel
theorem dX8_settle_19 : decode cX8_settle 19 = .ok (.aload_n 0, 1) := by decide +kernel
theorem dX8_settle_20 : decode cX8_settle 20 = .ok (.invokevirtual 116, 3) := by decide +kernel
theorem dX8_settle_23 : decode cX8_settle 23 = .ok (.ifCond .eq 9, 3) := by decide +kernel
theorem dX8_settle_26 : decode cX8_settle 26 = .ok (.iinc 2 1, 3) := by decide +kernel
theorem dX8_settle_29 : decode cX8_settle 29 = .ok (.goto (-15), 3) := by decide +kernel
theorem dX8_settle_32 : decode cX8_settle 32 = .ok (.aload_n 0, 1) := by decide +kernel
theorem dX8_settle_33 : decode cX8_settle 33 = .ok (.dup, 1) := by decide +kernel
theorem dX8_settle_34 : decode cX8_settle 34 = .ok (.getfield 120, 3) := by decide +kernel
theorem dX8_settle_37 : decode cX8_settle 37 = .ok (.iload_n 2, 1) := by decide +kernel
theorem dX8_settle_38 : decode cX8_settle 38 = .ok (.iadd, 1) := by decide +kernel
theorem dX8_settle_39 : decode cX8_settle 39 = .ok (.putfield 120, 3) := by decide +kernel
theorem dX8_settle_42 : decode cX8_settle 42 = .ok (.iload_n 2, 1) := by decide +kernel
theorem dX8_settle_43 : decode cX8_settle 43 = .ok (.ireturn, 1) := by decide +kernel
theorem dX8_heap_0 : decode cX8_heap 0 = .ok (.aload_n 0, 1) := by decide +kernel
theorem dX8_heap_1 : decode cX8_heap 1 = .ok (.iload_n 1, 1) := by decide +kernel
theorem dX8_heap_2 : decode cX8_heap 2 = .ok (.invokevirtual 74, 3) := by decide +kernel
theorem dX8_heap_5 : decode cX8_heap 5 = .ok (.ifCond .eq 12, 3) := by decide +kernel
theorem dX8_heap_8 : decode cX8_heap 8 = .ok (.aload_n 0, 1) := by decide +kernel
theorem dX8_heap_9 : decode cX8_heap 9 = .ok (.getfield 32, 3) := by decide +kernel
theorem dX8_heap_12 : decode cX8_heap 12 = .ok (.iload_n 1, 1) := by decide +kernel
theorem dX8_heap_13 : decode cX8_heap 13 = .ok (.iaload, 1) := by decide +kernel
theorem dX8_heap_14 : decode cX8_heap 14 = .ok (.goto 4, 3) := by decide +kernel
theorem dX8_heap_17 : decode cX8_heap 17 = .ok (.iconst (-1), 1) := by decide +kernel
theorem dX8_heap_18 : decode cX8_heap 18 = .ok (.ireturn, 1) := by decide +kernel
theorem dX8_size_0 : decode cX8_size 0 = .ok (.aload_n 0, 1) := by decide +kernel
theorem dX8_size_1 : decode cX8_size 1 = .ok (.iload_n 1, 1) := by decide +kernel
theorem dX8_size_2 : decode cX8_size 2 = .ok (.invokevirtual 123, 3) := by decide +kernel
theorem dX8_size_5 : decode cX8_size 5 = .ok (.ifCond .ne 5, 3) := by decide +kernel
theorem dX8_size_8 : decode cX8_size 8 = .ok (.iconst 0, 1) := by decide +kernel
theorem dX8_size_9 : decode cX8_size 9 = .ok (.ireturn, 1) := by decide +kernel
theorem dX8_size_10 : decode cX8_size 10 = .ok (.iconst 0, 1) := by decide +kernel
theorem dX8_size_11 : decode cX8_size 11 = .ok (.istore_n 2, 1) := by decide +kernel
theorem dX8_size_12 : decode cX8_size 12 = .ok (.iconst 0, 1) := by decide +kernel
theorem dX8_size_13 : decode cX8_size 13 = .ok (.istore_n 3, 1) := by decide +kernel
theorem dX8_size_14 : decode cX8_size 14 = .ok (.iload_n 3, 1) := by decide +kernel
theorem dX8_size_15 : decode cX8_size 15 = .ok (.aload_n 0, 1) := by decide +kernel
theorem dX8_size_16 : decode cX8_size 16 = .ok (.getfield 60, 3) := by decide +kernel
theorem dX8_size_19 : decode cX8_size 19 = .ok (.if_icmp .ge 27, 3) := by decide +kernel
theorem dX8_size_22 : decode cX8_size 22 = .ok (.iload_n 2, 1) := by decide +kernel
theorem dX8_size_23 : decode cX8_size 23 = .ok (.aload_n 0, 1) := by decide +kernel
theorem dX8_size_24 : decode cX8_size 24 = .ok (.getfield 32, 3) := by decide +kernel
theorem dX8_size_27 : decode cX8_size 27 = .ok (.iload_n 3, 1) := by decide +kernel
theorem dX8_size_28 : decode cX8_size 28 = .ok (.iaload, 1) := by decide +kernel
theorem dX8_size_29 : decode cX8_size 29 = .ok (.iload_n 1, 1) := by decide +kernel
theorem dX8_size_30 : decode cX8_size 30 = .ok (.if_icmp .ne 7, 3) := by decide +kernel
theorem dX8_size_33 : decode cX8_size 33 = .ok (.iconst 1, 1) := by decide +kernel
theorem dX8_size_34 : decode cX8_size 34 = .ok (.goto 4, 3) := by decide +kernel
theorem dX8_size_37 : decode cX8_size 37 = .ok (.iconst 0, 1) := by decide +kernel
theorem dX8_size_38 : decode cX8_size 38 = .ok (.iadd, 1) := by decide +kernel
theorem dX8_size_39 : decode cX8_size 39 = .ok (.istore_n 2, 1) := by decide +kernel
theorem dX8_size_40 : decode cX8_size 40 = .ok (.iinc 3 1, 3) := by decide +kernel
theorem dX8_size_43 : decode cX8_size 43 = .ok (.goto (-29), 3) := by decide +kernel
theorem dX8_size_46 : decode cX8_size 46 = .ok (.iload_n 2, 1) := by decide +kernel
theorem dX8_size_47 : decode cX8_size 47 = .ok (.ireturn, 1) := by decide +kernel
theorem dX8_far_0 : decode cX8_far 0 = .ok (.aload_n 0, 1) := by decide +kernel
theorem dX8_far_1 : decode cX8_far 1 = .ok (.iload_n 1, 1) := by decide +kernel
theorem dX8_far_2 : decode cX8_far 2 = .ok (.invokevirtual 74, 3) := by decide +kernel
theorem dX8_far_5 : decode cX8_far 5 = .ok (.ifCond .eq 25, 3) := by decide +kernel
theorem dX8_far_8 : decode cX8_far 8 = .ok (.aload_n 0, 1) := by decide +kernel
theorem dX8_far_9 : decode cX8_far 9 = .ok (.iload_n 2, 1) := by decide +kernel
theorem dX8_far_10 : decode cX8_far 10 = .ok (.invokevirtual 74, 3) := by decide +kernel
theorem dX8_far_13 : decode cX8_far 13 = .ok (.ifCond .eq 17, 3) := by decide +kernel
theorem dX8_far_16 : decode cX8_far 16 = .ok (.aload_n 0, 1) := by decide +kernel
theorem dX8_far_17 : decode cX8_far 17 = .ok (.getfield 35, 3) := by decide +kernel
theorem dX8_far_20 : decode cX8_far 20 = .ok (.bipush 40, 2) := by decide +kernel
theorem dX8_far_22 : decode cX8_far 22 = .ok (.iload_n 1, 1) := by decide +kernel
theorem dX8_far_23 : decode cX8_far 23 = .ok (.imul, 1) := by decide +kernel
theorem dX8_far_24 : decode cX8_far 24 = .ok (.iload_n 2, 1) := by decide +kernel
theorem dX8_far_25 : decode cX8_far 25 = .ok (.iadd, 1) := by decide +kernel
theorem dX8_far_26 : decode cX8_far 26 = .ok (.iaload, 1) := by decide +kernel
theorem dX8_far_27 : decode cX8_far 27 = .ok (.goto 4, 3) := by decide +kernel
theorem dX8_far_30 : decode cX8_far 30 = .ok (.iconst (-1), 1) := by decide +kernel
theorem dX8_far_31 : decode cX8_far 31 = .ok (.ireturn, 1) := by decide +kernel
theorem dX8_cost_0 : decode cX8_cost 0 = .ok (.iconst 0, 1) := by decide +kernel
theorem dX8_cost_1 : decode cX8_cost 1 = .ok (.istore_n 1, 1) := by decide +kernel
theorem dX8_cost_2 : decode cX8_cost 2 = .ok (.iconst 0, 1) := by decide +kernel
theorem dX8_cost_3 : decode cX8_cost 3 = .ok (.istore_n 2, 1) := by decide +kernel
theorem dX8_cost_4 : decode cX8_cost 4 = .ok (.iload_n 2, 1) := by decide +kernel
theorem dX8_cost_5 : decode cX8_cost 5 = .ok (.aload_n 0, 1) := by decide +kernel
theorem dX8_cost_6 : decode cX8_cost 6 = .ok (.getfield 60, 3) := by decide +kernel
theorem dX8_cost_9 : decode cX8_cost 9 = .ok (.if_icmp .ge 82, 3) := by decide +kernel
theorem dX8_cost_12 : decode cX8_cost 12 = .ok (.iload_n 1, 1) := by decide +kernel
theorem dX8_cost_13 : decode cX8_cost 13 = .ok (.aload_n 0, 1) := by decide +kernel
theorem dX8_cost_14 : decode cX8_cost 14 = .ok (.getfield 32, 3) := by decide +kernel
theorem dX8_cost_17 : decode cX8_cost 17 = .ok (.iload_n 2, 1) := by decide +kernel
theorem dX8_cost_18 : decode cX8_cost 18 = .ok (.iaload, 1) := by decide +kernel
theorem dX8_cost_19 : decode cX8_cost 19 = .ok (.iload_n 2, 1) := by decide +kernel
theorem dX8_cost_20 : decode cX8_cost 20 = .ok (.if_icmp .ne 10, 3) := by decide +kernel
theorem dX8_cost_23 : decode cX8_cost 23 = .ok (.aload_n 0, 1) := by decide +kernel
theorem dX8_cost_24 : decode cX8_cost 24 = .ok (.getfield 13, 3) := by decide +kernel
theorem dX8_cost_27 : decode cX8_cost 27 = .ok (.goto 4, 3) := by decide +kernel
theorem dX8_cost_30 : decode cX8_cost 30 = .ok (.iconst 0, 1) := by decide +kernel
theorem dX8_cost_31 : decode cX8_cost 31 = .ok (.iadd, 1) := by decide +kernel
theorem dX8_cost_32 : decode cX8_cost 32 = .ok (.istore_n 1, 1) := by decide +kernel
theorem dX8_cost_33 : decode cX8_cost 33 = .ok (.iconst 0, 1) := by decide +kernel
theorem dX8_cost_34 : decode cX8_cost 34 = .ok (.istore_n 3, 1) := by decide +kernel
theorem dX8_cost_35 : decode cX8_cost 35 = .ok (.iload_n 3, 1) := by decide +kernel
theorem dX8_cost_36 : decode cX8_cost 36 = .ok (.iload_n 2, 1) := by decide +kernel
theorem dX8_cost_37 : decode cX8_cost 37 = .ok (.if_icmp .ge 48, 3) := by decide +kernel
theorem dX8_cost_40 : decode cX8_cost 40 = .ok (.aload_n 0, 1) := by decide +kernel
theorem dX8_cost_41 : decode cX8_cost 41 = .ok (.getfield 32, 3) := by decide +kernel
theorem dX8_cost_44 : decode cX8_cost 44 = .ok (.iload_n 2, 1) := by decide +kernel
theorem dX8_cost_45 : decode cX8_cost 45 = .ok (.iaload, 1) := by decide +kernel
theorem dX8_cost_46 : decode cX8_cost 46 = .ok (.iconst (-1), 1) := by decide +kernel
theorem dX8_cost_47 : decode cX8_cost 47 = .ok (.if_icmp .eq 32, 3) := by decide +kernel
theorem dX8_cost_50 : decode cX8_cost 50 = .ok (.aload_n 0, 1) := by decide +kernel
theorem dX8_cost_51 : decode cX8_cost 51 = .ok (.getfield 32, 3) := by decide +kernel
theorem dX8_cost_54 : decode cX8_cost 54 = .ok (.iload_n 2, 1) := by decide +kernel
theorem dX8_cost_55 : decode cX8_cost 55 = .ok (.iaload, 1) := by decide +kernel
theorem dX8_cost_56 : decode cX8_cost 56 = .ok (.aload_n 0, 1) := by decide +kernel
theorem dX8_cost_57 : decode cX8_cost 57 = .ok (.getfield 32, 3) := by decide +kernel
theorem dX8_cost_60 : decode cX8_cost 60 = .ok (.iload_n 3, 1) := by decide +kernel
theorem dX8_cost_61 : decode cX8_cost 61 = .ok (.iaload, 1) := by decide +kernel
theorem dX8_cost_62 : decode cX8_cost 62 = .ok (.if_icmp .ne 17, 3) := by decide +kernel
theorem dX8_cost_65 : decode cX8_cost 65 = .ok (.iload_n 1, 1) := by decide +kernel
theorem dX8_cost_66 : decode cX8_cost 66 = .ok (.aload_n 0, 1) := by decide +kernel
theorem dX8_cost_67 : decode cX8_cost 67 = .ok (.getfield 35, 3) := by decide +kernel
theorem dX8_cost_70 : decode cX8_cost 70 = .ok (.bipush 40, 2) := by decide +kernel
theorem dX8_cost_72 : decode cX8_cost 72 = .ok (.iload_n 2, 1) := by decide +kernel
theorem dX8_cost_73 : decode cX8_cost 73 = .ok (.imul, 1) := by decide +kernel
theorem dX8_cost_74 : decode cX8_cost 74 = .ok (.iload_n 3, 1) := by decide +kernel
theorem dX8_cost_75 : decode cX8_cost 75 = .ok (.iadd, 1) := by decide +kernel
theorem dX8_cost_76 : decode cX8_cost 76 = .ok (.iaload, 1) := by decide +kernel
theorem dX8_cost_77 : decode cX8_cost 77 = .ok (.iadd, 1) := by decide +kernel
theorem dX8_cost_78 : decode cX8_cost 78 = .ok (.istore_n 1, 1) := by decide +kernel
theorem dX8_cost_79 : decode cX8_cost 79 = .ok (.iinc 3 1, 3) := by decide +kernel
theorem dX8_cost_82 : decode cX8_cost 82 = .ok (.goto (-47), 3) := by decide +kernel
theorem dX8_cost_85 : decode cX8_cost 85 = .ok (.iinc 2 1, 3) := by decide +kernel
theorem dX8_cost_88 : decode cX8_cost 88 = .ok (.goto (-84), 3) := by decide +kernel
theorem dX8_cost_91 : decode cX8_cost 91 = .ok (.iload_n 1, 1) := by decide +kernel
theorem dX8_cost_92 : decode cX8_cost 92 = .ok (.ireturn, 1) := by decide +kernel
theorem dX8_parted_0 : decode cX8_parted 0 = .ok (.iconst 0, 1) := by decide +kernel
theorem dX8_parted_1 : decode cX8_parted 1 = .ok (.istore_n 1, 1) := by decide +kernel
theorem dX8_parted_2 : decode cX8_parted 2 = .ok (.iconst 0, 1) := by decide +kernel
theorem dX8_parted_3 : decode cX8_parted 3 = .ok (.istore_n 2, 1) := by decide +kernel
theorem dX8_parted_4 : decode cX8_parted 4 = .ok (.iconst 0, 1) := by decide +kernel
theorem dX8_parted_5 : decode cX8_parted 5 = .ok (.istore_n 3, 1) := by decide +kernel
theorem dX8_parted_6 : decode cX8_parted 6 = .ok (.iload_n 3, 1) := by decide +kernel
theorem dX8_parted_7 : decode cX8_parted 7 = .ok (.aload_n 0, 1) := by decide +kernel
theorem dX8_parted_8 : decode cX8_parted 8 = .ok (.getfield 60, 3) := by decide +kernel
theorem dX8_parted_11 : decode cX8_parted 11 = .ok (.if_icmp .ge 78, 3) := by decide +kernel
theorem dX8_parted_14 : decode cX8_parted 14 = .ok (.aload_n 0, 1) := by decide +kernel
theorem dX8_parted_15 : decode cX8_parted 15 = .ok (.getfield 51, 3) := by decide +kernel
theorem dX8_parted_18 : decode cX8_parted 18 = .ok (.iload_n 3, 1) := by decide +kernel
theorem dX8_parted_19 : decode cX8_parted 19 = .ok (.iaload, 1) := by decide +kernel
theorem dX8_parted_20 : decode cX8_parted 20 = .ok (.iload_n 2, 1) := by decide +kernel
theorem dX8_parted_21 : decode cX8_parted 21 = .ok (.if_icmp .lt 12, 3) := by decide +kernel
theorem dX8_parted_24 : decode cX8_parted 24 = .ok (.aload_n 0, 1) := by decide +kernel
theorem dX8_parted_25 : decode cX8_parted 25 = .ok (.getfield 51, 3) := by decide +kernel
theorem dX8_parted_28 : decode cX8_parted 28 = .ok (.iload_n 3, 1) := by decide +kernel
theorem dX8_parted_29 : decode cX8_parted 29 = .ok (.iaload, 1) := by decide +kernel
theorem dX8_parted_30 : decode cX8_parted 30 = .ok (.iconst 1, 1) := by decide +kernel
theorem dX8_parted_31 : decode cX8_parted 31 = .ok (.iadd, 1) := by decide +kernel
theorem dX8_parted_32 : decode cX8_parted 32 = .ok (.istore_n 2, 1) := by decide +kernel
theorem dX8_parted_33 : decode cX8_parted 33 = .ok (.iconst 0, 1) := by decide +kernel
theorem dX8_parted_34 : decode cX8_parted 34 = .ok (.istore 4, 2) := by decide +kernel
theorem dX8_parted_36 : decode cX8_parted 36 = .ok (.iload 4, 2) := by decide +kernel
theorem dX8_parted_38 : decode cX8_parted 38 = .ok (.iload_n 3, 1) := by decide +kernel
theorem dX8_parted_39 : decode cX8_parted 39 = .ok (.if_icmp .ge 44, 3) := by decide +kernel
theorem dX8_parted_42 : decode cX8_parted 42 = .ok (.iload_n 1, 1) := by decide +kernel
theorem dX8_parted_43 : decode cX8_parted 43 = .ok (.aload_n 0, 1) := by decide +kernel
theorem dX8_parted_44 : decode cX8_parted 44 = .ok (.getfield 51, 3) := by decide +kernel
theorem dX8_parted_47 : decode cX8_parted 47 = .ok (.iload_n 3, 1) := by decide +kernel
theorem dX8_parted_48 : decode cX8_parted 48 = .ok (.iaload, 1) := by decide +kernel
theorem dX8_parted_49 : decode cX8_parted 49 = .ok (.aload_n 0, 1) := by decide +kernel
theorem dX8_parted_50 : decode cX8_parted 50 = .ok (.getfield 51, 3) := by decide +kernel
theorem dX8_parted_53 : decode cX8_parted 53 = .ok (.iload 4, 2) := by decide +kernel
theorem dX8_parted_55 : decode cX8_parted 55 = .ok (.iaload, 1) := by decide +kernel
theorem dX8_parted_56 : decode cX8_parted 56 = .ok (.if_icmp .ne 18, 3) := by decide +kernel
theorem dX8_parted_59 : decode cX8_parted 59 = .ok (.aload_n 0, 1) := by decide +kernel
theorem dX8_parted_60 : decode cX8_parted 60 = .ok (.getfield 35, 3) := by decide +kernel
theorem dX8_parted_63 : decode cX8_parted 63 = .ok (.bipush 40, 2) := by decide +kernel
theorem dX8_parted_65 : decode cX8_parted 65 = .ok (.iload_n 3, 1) := by decide +kernel
theorem dX8_parted_66 : decode cX8_parted 66 = .ok (.imul, 1) := by decide +kernel
theorem dX8_parted_67 : decode cX8_parted 67 = .ok (.iload 4, 2) := by decide +kernel
theorem dX8_parted_69 : decode cX8_parted 69 = .ok (.iadd, 1) := by decide +kernel
theorem dX8_parted_70 : decode cX8_parted 70 = .ok (.iaload, 1) := by decide +kernel
theorem dX8_parted_71 : decode cX8_parted 71 = .ok (.goto 4, 3) := by decide +kernel
theorem dX8_parted_74 : decode cX8_parted 74 = .ok (.iconst 0, 1) := by decide +kernel
theorem dX8_parted_75 : decode cX8_parted 75 = .ok (.iadd, 1) := by decide +kernel
theorem dX8_parted_76 : decode cX8_parted 76 = .ok (.istore_n 1, 1) := by decide +kernel
theorem dX8_parted_77 : decode cX8_parted 77 = .ok (.iinc 4 1, 3) := by decide +kernel
theorem dX8_parted_80 : decode cX8_parted 80 = .ok (.goto (-44), 3) := by decide +kernel
theorem dX8_parted_83 : decode cX8_parted 83 = .ok (.iinc 3 1, 3) := by decide +kernel
theorem dX8_parted_86 : decode cX8_parted 86 = .ok (.goto (-80), 3) := by decide +kernel
theorem dX8_parted_89 : decode cX8_parted 89 = .ok (.iconst 0, 1) := by decide +kernel
theorem dX8_parted_90 : decode cX8_parted 90 = .ok (.istore_n 3, 1) := by decide +kernel
theorem dX8_parted_91 : decode cX8_parted 91 = .ok (.iload_n 3, 1) := by decide +kernel
theorem dX8_parted_92 : decode cX8_parted 92 = .ok (.aload_n 0, 1) := by decide +kernel
theorem dX8_parted_93 : decode cX8_parted 93 = .ok (.getfield 90, 3) := by decide +kernel
theorem dX8_parted_96 : decode cX8_parted 96 = .ok (.if_icmp .ge 41, 3) := by decide +kernel
theorem dX8_parted_99 : decode cX8_parted 99 = .ok (.aload_n 0, 1) := by decide +kernel
theorem dX8_parted_100 : decode cX8_parted 100 = .ok (.iload_n 3, 1) := by decide +kernel
theorem dX8_parted_101 : decode cX8_parted 101 = .ok (.aload_n 0, 1) := by decide +kernel
theorem dX8_parted_102 : decode cX8_parted 102 = .ok (.getfield 51, 3) := by decide +kernel
theorem dX8_parted_105 : decode cX8_parted 105 = .ok (.aload_n 0, 1) := by decide +kernel
theorem dX8_parted_106 : decode cX8_parted 106 = .ok (.getfield 38, 3) := by decide +kernel
theorem dX8_parted_109 : decode cX8_parted 109 = .ok (.iload_n 3, 1) := by decide +kernel
theorem dX8_parted_110 : decode cX8_parted 110 = .ok (.iaload, 1) := by decide +kernel
theorem dX8_parted_111 : decode cX8_parted 111 = .ok (.iaload, 1) := by decide +kernel
theorem dX8_parted_112 : decode cX8_parted 112 = .ok (.aload_n 0, 1) := by decide +kernel
theorem dX8_parted_113 : decode cX8_parted 113 = .ok (.getfield 51, 3) := by decide +kernel
theorem dX8_parted_116 : decode cX8_parted 116 = .ok (.aload_n 0, 1) := by decide +kernel
theorem dX8_parted_117 : decode cX8_parted 117 = .ok (.getfield 41, 3) := by decide +kernel
theorem dX8_parted_120 : decode cX8_parted 120 = .ok (.iload_n 3, 1) := by decide +kernel
theorem dX8_parted_121 : decode cX8_parted 121 = .ok (.iaload, 1) := by decide +kernel
theorem dX8_parted_122 : decode cX8_parted 122 = .ok (.iaload, 1) := by decide +kernel
theorem dX8_parted_123 : decode cX8_parted 123 = .ok (.invokevirtual 96, 3) := by decide +kernel
theorem dX8_parted_126 : decode cX8_parted 126 = .ok (.ifCond .eq 5, 3) := by decide +kernel
theorem dX8_parted_129 : decode cX8_parted 129 = .ok (.iconst (-1), 1) := by decide +kernel
theorem dX8_parted_130 : decode cX8_parted 130 = .ok (.ireturn, 1) := by decide +kernel
theorem dX8_parted_131 : decode cX8_parted 131 = .ok (.iinc 3 1, 3) := by decide +kernel
theorem dX8_parted_134 : decode cX8_parted 134 = .ok (.goto (-43), 3) := by decide +kernel
theorem dX8_parted_137 : decode cX8_parted 137 = .ok (.iload_n 1, 1) := by decide +kernel
theorem dX8_parted_138 : decode cX8_parted 138 = .ok (.iload_n 2, 1) := by decide +kernel
theorem dX8_parted_139 : decode cX8_parted 139 = .ok (.aload_n 0, 1) := by decide +kernel
theorem dX8_parted_140 : decode cX8_parted 140 = .ok (.getfield 13, 3) := by decide +kernel
theorem dX8_parted_143 : decode cX8_parted 143 = .ok (.imul, 1) := by decide +kernel
theorem dX8_parted_144 : decode cX8_parted 144 = .ok (.iadd, 1) := by decide +kernel
theorem dX8_parted_145 : decode cX8_parted 145 = .ok (.ireturn, 1) := by decide +kernel
theorem dX8_best_0 : decode cX8_best 0 = .ok (.aload_n 0, 1) := by decide +kernel
theorem dX8_best_1 : decode cX8_best 1 = .ok (.getfield 60, 3) := by decide +kernel
theorem dX8_best_4 : decode cX8_best 4 = .ok (.iconst 1, 1) := by decide +kernel
theorem dX8_best_5 : decode cX8_best 5 = .ok (.bipush 7, 2) := by decide +kernel
theorem dX8_best_7 : decode cX8_best 7 = .ok (.invokestatic 63, 3) := by decide +kernel
theorem dX8_best_10 : decode cX8_best 10 = .ok (.ifCond .ne 5, 3) := by decide +kernel
theorem dX8_best_13 : decode cX8_best 13 = .ok (.iconst (-1), 1) := by decide +kernel
theorem dX8_best_14 : decode cX8_best 14 = .ok (.ireturn, 1) := by decide +kernel
theorem dX8_best_15 : decode cX8_best 15 = .ok (.iconst 0, 1) := by decide +kernel
theorem dX8_best_16 : decode cX8_best 16 = .ok (.istore_n 1, 1) := by decide +kernel
theorem dX8_best_17 : decode cX8_best 17 = .ok (.iload_n 1, 1) := by decide +kernel
theorem dX8_best_18 : decode cX8_best 18 = .ok (.aload_n 0, 1) := by decide +kernel
theorem dX8_best_19 : decode cX8_best 19 = .ok (.getfield 60, 3) := by decide +kernel
theorem dX8_best_22 : decode cX8_best 22 = .ok (.if_icmp .ge 16, 3) := by decide +kernel
theorem dX8_best_25 : decode cX8_best 25 = .ok (.aload_n 0, 1) := by decide +kernel
theorem dX8_best_26 : decode cX8_best 26 = .ok (.getfield 51, 3) := by decide +kernel
theorem dX8_best_29 : decode cX8_best 29 = .ok (.iload_n 1, 1) := by decide +kernel
theorem dX8_best_30 : decode cX8_best 30 = .ok (.iconst 0, 1) := by decide +kernel
theorem dX8_best_31 : decode cX8_best 31 = .ok (.iastore, 1) := by decide +kernel
theorem dX8_best_32 : decode cX8_best 32 = .ok (.iinc 1 1, 3) := by decide +kernel
theorem dX8_best_35 : decode cX8_best 35 = .ok (.goto (-18), 3) := by decide +kernel
theorem dX8_best_38 : decode cX8_best 38 = .ok (.iconst (-1), 1) := by decide +kernel
theorem dX8_best_39 : decode cX8_best 39 = .ok (.istore_n 1, 1) := by decide +kernel
theorem dX8_best_40 : decode cX8_best 40 = .ok (.iconst 1, 1) := by decide +kernel
theorem dX8_best_41 : decode cX8_best 41 = .ok (.istore_n 2, 1) := by decide +kernel
theorem dX8_best_42 : decode cX8_best 42 = .ok (.iload_n 2, 1) := by decide +kernel
theorem dX8_best_43 : decode cX8_best 43 = .ok (.ifCond .eq 33, 3) := by decide +kernel
theorem dX8_best_46 : decode cX8_best 46 = .ok (.aload_n 0, 1) := by decide +kernel
theorem dX8_best_47 : decode cX8_best 47 = .ok (.invokevirtual 126, 3) := by decide +kernel
theorem dX8_best_50 : decode cX8_best 50 = .ok (.istore_n 3, 1) := by decide +kernel
theorem dX8_best_51 : decode cX8_best 51 = .ok (.iload_n 3, 1) := by decide +kernel
theorem dX8_best_52 : decode cX8_best 52 = .ok (.iconst (-1), 1) := by decide +kernel
theorem dX8_best_53 : decode cX8_best 53 = .ok (.if_icmp .eq 15, 3) := by decide +kernel
theorem dX8_best_56 : decode cX8_best 56 = .ok (.iload_n 1, 1) := by decide +kernel
theorem dX8_best_57 : decode cX8_best 57 = .ok (.iconst (-1), 1) := by decide +kernel
theorem dX8_best_58 : decode cX8_best 58 = .ok (.if_icmp .eq 8, 3) := by decide +kernel
theorem dX8_best_61 : decode cX8_best 61 = .ok (.iload_n 3, 1) := by decide +kernel
theorem dX8_best_62 : decode cX8_best 62 = .ok (.iload_n 1, 1) := by decide +kernel
theorem dX8_best_63 : decode cX8_best 63 = .ok (.if_icmp .ge 5, 3) := by decide +kernel
theorem dX8_best_66 : decode cX8_best 66 = .ok (.iload_n 3, 1) := by decide +kernel
theorem dX8_best_67 : decode cX8_best 67 = .ok (.istore_n 1, 1) := by decide +kernel
theorem dX8_best_68 : decode cX8_best 68 = .ok (.aload_n 0, 1) := by decide +kernel
theorem dX8_best_69 : decode cX8_best 69 = .ok (.invokevirtual 130, 3) := by decide +kernel
theorem dX8_best_72 : decode cX8_best 72 = .ok (.istore_n 2, 1) := by decide +kernel
theorem dX8_best_73 : decode cX8_best 73 = .ok (.goto (-31), 3) := by decide +kernel
theorem dX8_best_76 : decode cX8_best 76 = .ok (.iload_n 1, 1) := by decide +kernel
theorem dX8_best_77 : decode cX8_best 77 = .ok (.ireturn, 1) := by decide +kernel
theorem dX8_nexts_0 : decode cX8_nexts 0 = .ok (.aload_n 0, 1) := by decide +kernel
theorem dX8_nexts_1 : decode cX8_nexts 1 = .ok (.getfield 60, 3) := by decide +kernel
theorem dX8_nexts_4 : decode cX8_nexts 4 = .ok (.iconst 1, 1) := by decide +kernel
theorem dX8_nexts_5 : decode cX8_nexts 5 = .ok (.isub, 1) := by decide +kernel
theorem dX8_nexts_6 : decode cX8_nexts 6 = .ok (.istore_n 1, 1) := by decide +kernel
theorem dX8_nexts_7 : decode cX8_nexts 7 = .ok (.iload_n 1, 1) := by decide +kernel
theorem dX8_nexts_8 : decode cX8_nexts 8 = .ok (.ifCond .le 91, 3) := by decide +kernel
theorem dX8_nexts_11 : decode cX8_nexts 11 = .ok (.iconst 0, 1) := by decide +kernel
theorem dX8_nexts_12 : decode cX8_nexts 12 = .ok (.istore_n 2, 1) := by decide +kernel
theorem dX8_nexts_13 : decode cX8_nexts 13 = .ok (.iconst 0, 1) := by decide +kernel
theorem dX8_nexts_14 : decode cX8_nexts 14 = .ok (.istore_n 3, 1) := by decide +kernel
theorem dX8_nexts_15 : decode cX8_nexts 15 = .ok (.iload_n 3, 1) := by decide +kernel
theorem dX8_nexts_16 : decode cX8_nexts 16 = .ok (.iload_n 1, 1) := by decide +kernel
theorem dX8_nexts_17 : decode cX8_nexts 17 = .ok (.if_icmp .ge 26, 3) := by decide +kernel
theorem dX8_nexts_20 : decode cX8_nexts 20 = .ok (.aload_n 0, 1) := by decide +kernel
theorem dX8_nexts_21 : decode cX8_nexts 21 = .ok (.getfield 51, 3) := by decide +kernel
theorem dX8_nexts_24 : decode cX8_nexts 24 = .ok (.iload_n 3, 1) := by decide +kernel
theorem dX8_nexts_25 : decode cX8_nexts 25 = .ok (.iaload, 1) := by decide +kernel
theorem dX8_nexts_26 : decode cX8_nexts 26 = .ok (.iload_n 2, 1) := by decide +kernel
theorem dX8_nexts_27 : decode cX8_nexts 27 = .ok (.if_icmp .le 10, 3) := by decide +kernel
theorem dX8_nexts_30 : decode cX8_nexts 30 = .ok (.aload_n 0, 1) := by decide +kernel
theorem dX8_nexts_31 : decode cX8_nexts 31 = .ok (.getfield 51, 3) := by decide +kernel
theorem dX8_nexts_34 : decode cX8_nexts 34 = .ok (.iload_n 3, 1) := by decide +kernel
theorem dX8_nexts_35 : decode cX8_nexts 35 = .ok (.iaload, 1) := by decide +kernel
theorem dX8_nexts_36 : decode cX8_nexts 36 = .ok (.istore_n 2, 1) := by decide +kernel
theorem dX8_nexts_37 : decode cX8_nexts 37 = .ok (.iinc 3 1, 3) := by decide +kernel
theorem dX8_nexts_40 : decode cX8_nexts 40 = .ok (.goto (-25), 3) := by decide +kernel
theorem dX8_nexts_43 : decode cX8_nexts 43 = .ok (.aload_n 0, 1) := by decide +kernel
theorem dX8_nexts_44 : decode cX8_nexts 44 = .ok (.getfield 51, 3) := by decide +kernel
theorem dX8_nexts_47 : decode cX8_nexts 47 = .ok (.iload_n 1, 1) := by decide +kernel
theorem dX8_nexts_48 : decode cX8_nexts 48 = .ok (.iaload, 1) := by decide +kernel
theorem dX8_nexts_49 : decode cX8_nexts 49 = .ok (.iload_n 2, 1) := by decide +kernel
theorem dX8_nexts_50 : decode cX8_nexts 50 = .ok (.if_icmp .le 6, 3) := by decide +kernel
theorem dX8_nexts_53 : decode cX8_nexts 53 = .ok (.goto 40, 3) := by decide +kernel
theorem dX8_nexts_56 : decode cX8_nexts 56 = .ok (.aload_n 0, 1) := by decide +kernel
theorem dX8_nexts_57 : decode cX8_nexts 57 = .ok (.getfield 51, 3) := by decide +kernel
theorem dX8_nexts_60 : decode cX8_nexts 60 = .ok (.iload_n 1, 1) := by decide +kernel
theorem dX8_nexts_61 : decode cX8_nexts 61 = .ok (.dup2, 1) := by decide +kernel
theorem dX8_nexts_62 : decode cX8_nexts 62 = .ok (.iaload, 1) := by decide +kernel
theorem dX8_nexts_63 : decode cX8_nexts 63 = .ok (.iconst 1, 1) := by decide +kernel
theorem dX8_nexts_64 : decode cX8_nexts 64 = .ok (.iadd, 1) := by decide +kernel
theorem dX8_nexts_65 : decode cX8_nexts 65 = .ok (.iastore, 1) := by decide +kernel
theorem dX8_nexts_66 : decode cX8_nexts 66 = .ok (.iload_n 1, 1) := by decide +kernel
theorem dX8_nexts_67 : decode cX8_nexts 67 = .ok (.iconst 1, 1) := by decide +kernel
theorem dX8_nexts_68 : decode cX8_nexts 68 = .ok (.iadd, 1) := by decide +kernel
theorem dX8_nexts_69 : decode cX8_nexts 69 = .ok (.istore_n 3, 1) := by decide +kernel
theorem dX8_nexts_70 : decode cX8_nexts 70 = .ok (.iload_n 3, 1) := by decide +kernel
theorem dX8_nexts_71 : decode cX8_nexts 71 = .ok (.aload_n 0, 1) := by decide +kernel
theorem dX8_nexts_72 : decode cX8_nexts 72 = .ok (.getfield 60, 3) := by decide +kernel
theorem dX8_nexts_75 : decode cX8_nexts 75 = .ok (.if_icmp .ge 16, 3) := by decide +kernel
theorem dX8_nexts_78 : decode cX8_nexts 78 = .ok (.aload_n 0, 1) := by decide +kernel
theorem dX8_nexts_79 : decode cX8_nexts 79 = .ok (.getfield 51, 3) := by decide +kernel
theorem dX8_nexts_82 : decode cX8_nexts 82 = .ok (.iload_n 3, 1) := by decide +kernel
theorem dX8_nexts_83 : decode cX8_nexts 83 = .ok (.iconst 0, 1) := by decide +kernel
theorem dX8_nexts_84 : decode cX8_nexts 84 = .ok (.iastore, 1) := by decide +kernel
theorem dX8_nexts_85 : decode cX8_nexts 85 = .ok (.iinc 3 1, 3) := by decide +kernel
theorem dX8_nexts_88 : decode cX8_nexts 88 = .ok (.goto (-18), 3) := by decide +kernel
theorem dX8_nexts_91 : decode cX8_nexts 91 = .ok (.iconst 1, 1) := by decide +kernel
theorem dX8_nexts_92 : decode cX8_nexts 92 = .ok (.ireturn, 1) := by decide +kernel
theorem dX8_nexts_93 : decode cX8_nexts 93 = .ok (.iinc 1 (-1), 3) := by decide +kernel
theorem dX8_nexts_96 : decode cX8_nexts 96 = .ok (.goto (-89), 3) := by decide +kernel
theorem dX8_nexts_99 : decode cX8_nexts 99 = .ok (.iconst 0, 1) := by decide +kernel
theorem dX8_nexts_100 : decode cX8_nexts 100 = .ok (.ireturn, 1) := by decide +kernel
theorem dX8_isName_0 : decode cX8_isName 0 = .ok (.aload_n 0, 1) := by decide +kernel
theorem dX8_isName_1 : decode cX8_isName 1 = .ok (.iload_n 1, 1) := by decide +kernel
theorem dX8_isName_2 : decode cX8_isName 2 = .ok (.invokevirtual 102, 3) := by decide +kernel
theorem dX8_isName_5 : decode cX8_isName 5 = .ok (.istore_n 3, 1) := by decide +kernel
theorem dX8_isName_6 : decode cX8_isName 6 = .ok (.iconst 0, 1) := by decide +kernel
theorem dX8_isName_7 : decode cX8_isName 7 = .ok (.istore 4, 2) := by decide +kernel
theorem dX8_isName_9 : decode cX8_isName 9 = .ok (.iconst 0, 1) := by decide +kernel
theorem dX8_isName_10 : decode cX8_isName 10 = .ok (.istore 5, 2) := by decide +kernel
theorem dX8_isName_12 : decode cX8_isName 12 = .ok (.iconst 0, 1) := by decide +kernel
theorem dX8_isName_13 : decode cX8_isName 13 = .ok (.istore 6, 2) := by decide +kernel
theorem dX8_isName_15 : decode cX8_isName 15 = .ok (.iload 6, 2) := by decide +kernel
theorem dX8_isName_17 : decode cX8_isName 17 = .ok (.aload_n 0, 1) := by decide +kernel
theorem dX8_isName_18 : decode cX8_isName 18 = .ok (.getfield 60, 3) := by decide +kernel
theorem dX8_isName_21 : decode cX8_isName 21 = .ok (.if_icmp .ge 45, 3) := by decide +kernel
theorem dX8_isName_24 : decode cX8_isName 24 = .ok (.aload_n 0, 1) := by decide +kernel
theorem dX8_isName_25 : decode cX8_isName 25 = .ok (.getfield 26, 3) := by decide +kernel
theorem dX8_isName_28 : decode cX8_isName 28 = .ok (.iload 6, 2) := by decide +kernel
theorem dX8_isName_30 : decode cX8_isName 30 = .ok (.iaload, 1) := by decide +kernel
theorem dX8_isName_31 : decode cX8_isName 31 = .ok (.iload_n 2, 1) := by decide +kernel
theorem dX8_isName_32 : decode cX8_isName 32 = .ok (.iand, 1) := by decide +kernel
theorem dX8_isName_33 : decode cX8_isName 33 = .ok (.iload_n 2, 1) := by decide +kernel
theorem dX8_isName_34 : decode cX8_isName 34 = .ok (.if_icmp .eq 6, 3) := by decide +kernel
theorem dX8_isName_37 : decode cX8_isName 37 = .ok (.goto 23, 3) := by decide +kernel
theorem dX8_isName_40 : decode cX8_isName 40 = .ok (.aload_n 0, 1) := by decide +kernel
theorem dX8_isName_41 : decode cX8_isName 41 = .ok (.getfield 32, 3) := by decide +kernel
theorem dX8_isName_44 : decode cX8_isName 44 = .ok (.iload 6, 2) := by decide +kernel
theorem dX8_isName_46 : decode cX8_isName 46 = .ok (.iaload, 1) := by decide +kernel
theorem dX8_isName_47 : decode cX8_isName 47 = .ok (.iload_n 1, 1) := by decide +kernel
theorem dX8_isName_48 : decode cX8_isName 48 = .ok (.if_icmp .ne 9, 3) := by decide +kernel
theorem dX8_isName_51 : decode cX8_isName 51 = .ok (.iinc 4 1, 3) := by decide +kernel
theorem dX8_isName_54 : decode cX8_isName 54 = .ok (.goto 6, 3) := by decide +kernel
theorem dX8_isName_57 : decode cX8_isName 57 = .ok (.iinc 5 1, 3) := by decide +kernel
theorem dX8_isName_60 : decode cX8_isName 60 = .ok (.iinc 6 1, 3) := by decide +kernel
theorem dX8_isName_63 : decode cX8_isName 63 = .ok (.goto (-48), 3) := by decide +kernel
theorem dX8_isName_66 : decode cX8_isName 66 = .ok (.bipush 100, 2) := by decide +kernel
theorem dX8_isName_68 : decode cX8_isName 68 = .ok (.iload 4, 2) := by decide +kernel
theorem dX8_isName_70 : decode cX8_isName 70 = .ok (.imul, 1) := by decide +kernel
theorem dX8_isName_71 : decode cX8_isName 71 = .ok (.aload_n 0, 1) := by decide +kernel
theorem dX8_isName_72 : decode cX8_isName 72 = .ok (.getfield 20, 3) := by decide +kernel
theorem dX8_isName_75 : decode cX8_isName 75 = .ok (.iload_n 3, 1) := by decide +kernel
theorem dX8_isName_76 : decode cX8_isName 76 = .ok (.imul, 1) := by decide +kernel
theorem dX8_isName_77 : decode cX8_isName 77 = .ok (.if_icmp .lt 16, 3) := by decide +kernel
theorem dX8_isName_80 : decode cX8_isName 80 = .ok (.iload 5, 2) := by decide +kernel
theorem dX8_isName_82 : decode cX8_isName 82 = .ok (.aload_n 0, 1) := by decide +kernel
theorem dX8_isName_83 : decode cX8_isName 83 = .ok (.getfield 23, 3) := by decide +kernel
theorem dX8_isName_86 : decode cX8_isName 86 = .ok (.if_icmp .gt 7, 3) := by decide +kernel
theorem dX8_isName_89 : decode cX8_isName 89 = .ok (.iconst 1, 1) := by decide +kernel
theorem dX8_isName_90 : decode cX8_isName 90 = .ok (.goto 4, 3) := by decide +kernel
theorem dX8_isName_93 : decode cX8_isName 93 = .ok (.iconst 0, 1) := by decide +kernel
theorem dX8_isName_94 : decode cX8_isName 94 = .ok (.ireturn, 1) := by decide +kernel
theorem dX8_name_0 : decode cX8_name 0 = .ok (.aload_n 0, 1) := by decide +kernel
theorem dX8_name_1 : decode cX8_name 1 = .ok (.iload_n 1, 1) := by decide +kernel
theorem dX8_name_2 : decode cX8_name 2 = .ok (.invokevirtual 123, 3) := by decide +kernel
theorem dX8_name_5 : decode cX8_name 5 = .ok (.ifCond .ne 5, 3) := by decide +kernel
theorem dX8_name_8 : decode cX8_name 8 = .ok (.iconst 0, 1) := by decide +kernel
theorem dX8_name_9 : decode cX8_name 9 = .ok (.ireturn, 1) := by decide +kernel
theorem dX8_name_10 : decode cX8_name 10 = .ok (.iconst 0, 1) := by decide +kernel
theorem dX8_name_11 : decode cX8_name 11 = .ok (.istore_n 2, 1) := by decide +kernel
theorem dX8_name_12 : decode cX8_name 12 = .ok (.iconst 0, 1) := by decide +kernel
theorem dX8_name_13 : decode cX8_name 13 = .ok (.istore_n 3, 1) := by decide +kernel
theorem dX8_name_14 : decode cX8_name 14 = .ok (.iload_n 3, 1) := by decide +kernel
theorem dX8_name_15 : decode cX8_name 15 = .ok (.bipush 20, 2) := by decide +kernel
theorem dX8_name_17 : decode cX8_name 17 = .ok (.if_icmp .ge 28, 3) := by decide +kernel
theorem dX8_name_20 : decode cX8_name 20 = .ok (.iload_n 2, 1) := by decide +kernel
theorem dX8_name_21 : decode cX8_name 21 = .ok (.ifCond .ne 18, 3) := by decide +kernel
theorem dX8_name_24 : decode cX8_name 24 = .ok (.aload_n 0, 1) := by decide +kernel
theorem dX8_name_25 : decode cX8_name 25 = .ok (.iload_n 1, 1) := by decide +kernel
theorem dX8_name_26 : decode cX8_name 26 = .ok (.iconst 1, 1) := by decide +kernel
theorem dX8_name_27 : decode cX8_name 27 = .ok (.iload_n 3, 1) := by decide +kernel
theorem dX8_name_28 : decode cX8_name 28 = .ok (.ishl, 1) := by decide +kernel
theorem dX8_name_29 : decode cX8_name 29 = .ok (.invokevirtual 133, 3) := by decide +kernel
theorem dX8_name_32 : decode cX8_name 32 = .ok (.ifCond .eq 7, 3) := by decide +kernel
theorem dX8_name_35 : decode cX8_name 35 = .ok (.iconst 1, 1) := by decide +kernel
theorem dX8_name_36 : decode cX8_name 36 = .ok (.iload_n 3, 1) := by decide +kernel
theorem dX8_name_37 : decode cX8_name 37 = .ok (.ishl, 1) := by decide +kernel
theorem dX8_name_38 : decode cX8_name 38 = .ok (.istore_n 2, 1) := by decide +kernel
theorem dX8_name_39 : decode cX8_name 39 = .ok (.iinc 3 1, 3) := by decide +kernel
theorem dX8_name_42 : decode cX8_name 42 = .ok (.goto (-28), 3) := by decide +kernel
theorem dX8_name_45 : decode cX8_name 45 = .ok (.iload_n 2, 1) := by decide +kernel
theorem dX8_name_46 : decode cX8_name 46 = .ok (.ifCond .le 5, 3) := by decide +kernel
theorem dX8_name_49 : decode cX8_name 49 = .ok (.iload_n 2, 1) := by decide +kernel
theorem dX8_name_50 : decode cX8_name 50 = .ok (.ireturn, 1) := by decide +kernel
theorem dX8_name_51 : decode cX8_name 51 = .ok (.iconst 0, 1) := by decide +kernel
theorem dX8_name_52 : decode cX8_name 52 = .ok (.istore_n 3, 1) := by decide +kernel
theorem dX8_name_53 : decode cX8_name 53 = .ok (.iload_n 3, 1) := by decide +kernel
theorem dX8_name_54 : decode cX8_name 54 = .ok (.bipush 20, 2) := by decide +kernel
theorem dX8_name_56 : decode cX8_name 56 = .ok (.if_icmp .ge 53, 3) := by decide +kernel
theorem dX8_name_59 : decode cX8_name 59 = .ok (.iconst 0, 1) := by decide +kernel
theorem dX8_name_60 : decode cX8_name 60 = .ok (.istore 4, 2) := by decide +kernel
theorem dX8_name_62 : decode cX8_name 62 = .ok (.iload 4, 2) := by decide +kernel
theorem dX8_name_64 : decode cX8_name 64 = .ok (.iload_n 3, 1) := by decide +kernel
theorem dX8_name_65 : decode cX8_name 65 = .ok (.if_icmp .ge 38, 3) := by decide +kernel
theorem dX8_name_68 : decode cX8_name 68 = .ok (.iload_n 2, 1) := by decide +kernel
theorem dX8_name_69 : decode cX8_name 69 = .ok (.ifCond .ne 28, 3) := by decide +kernel
theorem dX8_name_72 : decode cX8_name 72 = .ok (.aload_n 0, 1) := by decide +kernel
theorem dX8_name_73 : decode cX8_name 73 = .ok (.iload_n 1, 1) := by decide +kernel
theorem dX8_name_74 : decode cX8_name 74 = .ok (.iconst 1, 1) := by decide +kernel
theorem dX8_name_75 : decode cX8_name 75 = .ok (.iload_n 3, 1) := by decide +kernel
theorem dX8_name_76 : decode cX8_name 76 = .ok (.ishl, 1) := by decide +kernel
theorem dX8_name_77 : decode cX8_name 77 = .ok (.iconst 1, 1) := by decide +kernel
theorem dX8_name_78 : decode cX8_name 78 = .ok (.iload 4, 2) := by decide +kernel
theorem dX8_name_80 : decode cX8_name 80 = .ok (.ishl, 1) := by decide +kernel
theorem dX8_name_81 : decode cX8_name 81 = .ok (.ior, 1) := by decide +kernel
theorem dX8_name_82 : decode cX8_name 82 = .ok (.invokevirtual 133, 3) := by decide +kernel
theorem dX8_name_85 : decode cX8_name 85 = .ok (.ifCond .eq 12, 3) := by decide +kernel
theorem dX8_name_88 : decode cX8_name 88 = .ok (.iconst 1, 1) := by decide +kernel
theorem dX8_name_89 : decode cX8_name 89 = .ok (.iload_n 3, 1) := by decide +kernel
theorem dX8_name_90 : decode cX8_name 90 = .ok (.ishl, 1) := by decide +kernel
theorem dX8_name_91 : decode cX8_name 91 = .ok (.iconst 1, 1) := by decide +kernel
theorem dX8_name_92 : decode cX8_name 92 = .ok (.iload 4, 2) := by decide +kernel
theorem dX8_name_94 : decode cX8_name 94 = .ok (.ishl, 1) := by decide +kernel
theorem dX8_name_95 : decode cX8_name 95 = .ok (.ior, 1) := by decide +kernel
theorem dX8_name_96 : decode cX8_name 96 = .ok (.istore_n 2, 1) := by decide +kernel
theorem dX8_name_97 : decode cX8_name 97 = .ok (.iinc 4 1, 3) := by decide +kernel
theorem dX8_name_100 : decode cX8_name 100 = .ok (.goto (-38), 3) := by decide +kernel
theorem dX8_name_103 : decode cX8_name 103 = .ok (.iinc 3 1, 3) := by decide +kernel
theorem dX8_name_106 : decode cX8_name 106 = .ok (.goto (-53), 3) := by decide +kernel
theorem dX8_name_109 : decode cX8_name 109 = .ok (.iload_n 2, 1) := by decide +kernel
theorem dX8_name_110 : decode cX8_name 110 = .ok (.ifCond .le 5, 3) := by decide +kernel
theorem dX8_name_113 : decode cX8_name 113 = .ok (.iload_n 2, 1) := by decide +kernel
theorem dX8_name_114 : decode cX8_name 114 = .ok (.ireturn, 1) := by decide +kernel
theorem dX8_name_115 : decode cX8_name 115 = .ok (.iconst 0, 1) := by decide +kernel
theorem dX8_name_116 : decode cX8_name 116 = .ok (.istore_n 3, 1) := by decide +kernel
theorem dX8_name_117 : decode cX8_name 117 = .ok (.iload_n 3, 1) := by decide +kernel
theorem dX8_name_118 : decode cX8_name 118 = .ok (.bipush 20, 2) := by decide +kernel
theorem dX8_name_120 : decode cX8_name 120 = .ok (.if_icmp .ge 79, 3) := by decide +kernel
theorem dX8_name_123 : decode cX8_name 123 = .ok (.iconst 0, 1) := by decide +kernel
theorem dX8_name_124 : decode cX8_name 124 = .ok (.istore 4, 2) := by decide +kernel
theorem dX8_name_126 : decode cX8_name 126 = .ok (.iload 4, 2) := by decide +kernel
theorem dX8_name_128 : decode cX8_name 128 = .ok (.iload_n 3, 1) := by decide +kernel
theorem dX8_name_129 : decode cX8_name 129 = .ok (.if_icmp .ge 64, 3) := by decide +kernel
theorem dX8_name_132 : decode cX8_name 132 = .ok (.iconst 0, 1) := by decide +kernel
theorem dX8_name_133 : decode cX8_name 133 = .ok (.istore 5, 2) := by decide +kernel
theorem dX8_name_135 : decode cX8_name 135 = .ok (.iload 5, 2) := by decide +kernel
theorem dX8_name_137 : decode cX8_name 137 = .ok (.iload 4, 2) := by decide +kernel
theorem dX8_name_139 : decode cX8_name 139 = .ok (.if_icmp .ge 48, 3) := by decide +kernel
theorem dX8_name_142 : decode cX8_name 142 = .ok (.iload_n 2, 1) := by decide +kernel
theorem dX8_name_143 : decode cX8_name 143 = .ok (.ifCond .ne 38, 3) := by decide +kernel
theorem dX8_name_146 : decode cX8_name 146 = .ok (.aload_n 0, 1) := by decide +kernel
theorem dX8_name_147 : decode cX8_name 147 = .ok (.iload_n 1, 1) := by decide +kernel
theorem dX8_name_148 : decode cX8_name 148 = .ok (.iconst 1, 1) := by decide +kernel
theorem dX8_name_149 : decode cX8_name 149 = .ok (.iload_n 3, 1) := by decide +kernel
theorem dX8_name_150 : decode cX8_name 150 = .ok (.ishl, 1) := by decide +kernel
theorem dX8_name_151 : decode cX8_name 151 = .ok (.iconst 1, 1) := by decide +kernel
theorem dX8_name_152 : decode cX8_name 152 = .ok (.iload 4, 2) := by decide +kernel
theorem dX8_name_154 : decode cX8_name 154 = .ok (.ishl, 1) := by decide +kernel
theorem dX8_name_155 : decode cX8_name 155 = .ok (.ior, 1) := by decide +kernel
theorem dX8_name_156 : decode cX8_name 156 = .ok (.iconst 1, 1) := by decide +kernel
theorem dX8_name_157 : decode cX8_name 157 = .ok (.iload 5, 2) := by decide +kernel
theorem dX8_name_159 : decode cX8_name 159 = .ok (.ishl, 1) := by decide +kernel
theorem dX8_name_160 : decode cX8_name 160 = .ok (.ior, 1) := by decide +kernel
theorem dX8_name_161 : decode cX8_name 161 = .ok (.invokevirtual 133, 3) := by decide +kernel
theorem dX8_name_164 : decode cX8_name 164 = .ok (.ifCond .eq 17, 3) := by decide +kernel
theorem dX8_name_167 : decode cX8_name 167 = .ok (.iconst 1, 1) := by decide +kernel
theorem dX8_name_168 : decode cX8_name 168 = .ok (.iload_n 3, 1) := by decide +kernel
theorem dX8_name_169 : decode cX8_name 169 = .ok (.ishl, 1) := by decide +kernel
theorem dX8_name_170 : decode cX8_name 170 = .ok (.iconst 1, 1) := by decide +kernel
theorem dX8_name_171 : decode cX8_name 171 = .ok (.iload 4, 2) := by decide +kernel
theorem dX8_name_173 : decode cX8_name 173 = .ok (.ishl, 1) := by decide +kernel
theorem dX8_name_174 : decode cX8_name 174 = .ok (.ior, 1) := by decide +kernel
theorem dX8_name_175 : decode cX8_name 175 = .ok (.iconst 1, 1) := by decide +kernel
theorem dX8_name_176 : decode cX8_name 176 = .ok (.iload 5, 2) := by decide +kernel
theorem dX8_name_178 : decode cX8_name 178 = .ok (.ishl, 1) := by decide +kernel
theorem dX8_name_179 : decode cX8_name 179 = .ok (.ior, 1) := by decide +kernel
theorem dX8_name_180 : decode cX8_name 180 = .ok (.istore_n 2, 1) := by decide +kernel
theorem dX8_name_181 : decode cX8_name 181 = .ok (.iinc 5 1, 3) := by decide +kernel
theorem dX8_name_184 : decode cX8_name 184 = .ok (.goto (-49), 3) := by decide +kernel
theorem dX8_name_187 : decode cX8_name 187 = .ok (.iinc 4 1, 3) := by decide +kernel
theorem dX8_name_190 : decode cX8_name 190 = .ok (.goto (-64), 3) := by decide +kernel
theorem dX8_name_193 : decode cX8_name 193 = .ok (.iinc 3 1, 3) := by decide +kernel
theorem dX8_name_196 : decode cX8_name 196 = .ok (.goto (-79), 3) := by decide +kernel
theorem dX8_name_199 : decode cX8_name 199 = .ok (.iload_n 2, 1) := by decide +kernel
theorem dX8_name_200 : decode cX8_name 200 = .ok (.ireturn, 1) := by decide +kernel
theorem dX8_core_0 : decode cX8_core 0 = .ok (.aload_n 0, 1) := by decide +kernel
theorem dX8_core_1 : decode cX8_core 1 = .ok (.iload_n 1, 1) := by decide +kernel
theorem dX8_core_2 : decode cX8_core 2 = .ok (.invokevirtual 102, 3) := by decide +kernel
theorem dX8_core_5 : decode cX8_core 5 = .ok (.istore_n 2, 1) := by decide +kernel
theorem dX8_core_6 : decode cX8_core 6 = .ok (.iconst 0, 1) := by decide +kernel
theorem dX8_core_7 : decode cX8_core 7 = .ok (.istore_n 3, 1) := by decide +kernel
theorem dX8_core_8 : decode cX8_core 8 = .ok (.iconst 0, 1) := by decide +kernel
theorem dX8_core_9 : decode cX8_core 9 = .ok (.istore 4, 2) := by decide +kernel
theorem dX8_core_11 : decode cX8_core 11 = .ok (.iload 4, 2) := by decide +kernel
theorem dX8_core_13 : decode cX8_core 13 = .ok (.bipush 20, 2) := by decide +kernel
theorem dX8_core_15 : decode cX8_core 15 = .ok (.if_icmp .ge 85, 3) := by decide +kernel
theorem dX8_core_18 : decode cX8_core 18 = .ok (.iload_n 2, 1) := by decide +kernel
theorem dX8_core_19 : decode cX8_core 19 = .ok (.ifCond .le 81, 3) := by decide +kernel
theorem dX8_core_22 : decode cX8_core 22 = .ok (.iconst 0, 1) := by decide +kernel
theorem dX8_core_23 : decode cX8_core 23 = .ok (.istore 5, 2) := by decide +kernel
theorem dX8_core_25 : decode cX8_core 25 = .ok (.iconst 0, 1) := by decide +kernel
theorem dX8_core_26 : decode cX8_core 26 = .ok (.istore 6, 2) := by decide +kernel
theorem dX8_core_28 : decode cX8_core 28 = .ok (.iload 6, 2) := by decide +kernel
theorem dX8_core_30 : decode cX8_core 30 = .ok (.aload_n 0, 1) := by decide +kernel
theorem dX8_core_31 : decode cX8_core 31 = .ok (.getfield 60, 3) := by decide +kernel
theorem dX8_core_34 : decode cX8_core 34 = .ok (.if_icmp .ge 41, 3) := by decide +kernel
theorem dX8_core_37 : decode cX8_core 37 = .ok (.iload 5, 2) := by decide +kernel
theorem dX8_core_39 : decode cX8_core 39 = .ok (.aload_n 0, 1) := by decide +kernel
theorem dX8_core_40 : decode cX8_core 40 = .ok (.getfield 32, 3) := by decide +kernel
theorem dX8_core_43 : decode cX8_core 43 = .ok (.iload 6, 2) := by decide +kernel
theorem dX8_core_45 : decode cX8_core 45 = .ok (.iaload, 1) := by decide +kernel
theorem dX8_core_46 : decode cX8_core 46 = .ok (.iload_n 1, 1) := by decide +kernel
theorem dX8_core_47 : decode cX8_core 47 = .ok (.if_icmp .ne 18, 3) := by decide +kernel
theorem dX8_core_50 : decode cX8_core 50 = .ok (.aload_n 0, 1) := by decide +kernel
theorem dX8_core_51 : decode cX8_core 51 = .ok (.getfield 26, 3) := by decide +kernel
theorem dX8_core_54 : decode cX8_core 54 = .ok (.iload 6, 2) := by decide +kernel
theorem dX8_core_56 : decode cX8_core 56 = .ok (.iaload, 1) := by decide +kernel
theorem dX8_core_57 : decode cX8_core 57 = .ok (.iload 4, 2) := by decide +kernel
theorem dX8_core_59 : decode cX8_core 59 = .ok (.ishr, 1) := by decide +kernel
theorem dX8_core_60 : decode cX8_core 60 = .ok (.iconst 1, 1) := by decide +kernel
theorem dX8_core_61 : decode cX8_core 61 = .ok (.iand, 1) := by decide +kernel
theorem dX8_core_62 : decode cX8_core 62 = .ok (.goto 4, 3) := by decide +kernel
theorem dX8_core_65 : decode cX8_core 65 = .ok (.iconst 0, 1) := by decide +kernel
theorem dX8_core_66 : decode cX8_core 66 = .ok (.iadd, 1) := by decide +kernel
theorem dX8_core_67 : decode cX8_core 67 = .ok (.istore 5, 2) := by decide +kernel
theorem dX8_core_69 : decode cX8_core 69 = .ok (.iinc 6 1, 3) := by decide +kernel
theorem dX8_core_72 : decode cX8_core 72 = .ok (.goto (-44), 3) := by decide +kernel
theorem dX8_core_75 : decode cX8_core 75 = .ok (.iload_n 3, 1) := by decide +kernel
theorem dX8_core_76 : decode cX8_core 76 = .ok (.iconst 2, 1) := by decide +kernel
theorem dX8_core_77 : decode cX8_core 77 = .ok (.iload 5, 2) := by decide +kernel
theorem dX8_core_79 : decode cX8_core 79 = .ok (.imul, 1) := by decide +kernel
theorem dX8_core_80 : decode cX8_core 80 = .ok (.iload_n 2, 1) := by decide +kernel
theorem dX8_core_81 : decode cX8_core 81 = .ok (.if_icmp .lt 10, 3) := by decide +kernel
theorem dX8_core_84 : decode cX8_core 84 = .ok (.iconst 1, 1) := by decide +kernel
theorem dX8_core_85 : decode cX8_core 85 = .ok (.iload 4, 2) := by decide +kernel
theorem dX8_core_87 : decode cX8_core 87 = .ok (.ishl, 1) := by decide +kernel
theorem dX8_core_88 : decode cX8_core 88 = .ok (.goto 4, 3) := by decide +kernel
theorem dX8_core_91 : decode cX8_core 91 = .ok (.iconst 0, 1) := by decide +kernel
theorem dX8_core_92 : decode cX8_core 92 = .ok (.ior, 1) := by decide +kernel
theorem dX8_core_93 : decode cX8_core 93 = .ok (.istore_n 3, 1) := by decide +kernel
theorem dX8_core_94 : decode cX8_core 94 = .ok (.iinc 4 1, 3) := by decide +kernel
theorem dX8_core_97 : decode cX8_core 97 = .ok (.goto (-86), 3) := by decide +kernel
theorem dX8_core_100 : decode cX8_core 100 = .ok (.iload_n 3, 1) := by decide +kernel
theorem dX8_core_101 : decode cX8_core 101 = .ok (.ireturn, 1) := by decide +kernel
theorem dX8_sense_0 : decode cX8_sense 0 = .ok (.iload_n 1, 1) := by decide +kernel
theorem dX8_sense_1 : decode cX8_sense 1 = .ok (.iconst 0, 1) := by decide +kernel
theorem dX8_sense_2 : decode cX8_sense 2 = .ok (.ldc 78, 2) := by decide +kernel
theorem dX8_sense_4 : decode cX8_sense 4 = .ok (.invokestatic 63, 3) := by decide +kernel
theorem dX8_sense_7 : decode cX8_sense 7 = .ok (.ifCond .eq 11, 3) := by decide +kernel
theorem dX8_sense_10 : decode cX8_sense 10 = .ok (.aload_n 0, 1) := by decide +kernel
theorem dX8_sense_11 : decode cX8_sense 11 = .ok (.getfield 136, 3) := by decide +kernel
theorem dX8_sense_14 : decode cX8_sense 14 = .ok (.iconst 5, 1) := by decide +kernel
theorem dX8_sense_15 : decode cX8_sense 15 = .ok (.if_icmp .ne 5, 3) := by decide +kernel
theorem dX8_sense_18 : decode cX8_sense 18 = .ok (.iconst (-1), 1) := by decide +kernel
theorem dX8_sense_19 : decode cX8_sense 19 = .ok (.ireturn, 1) := by decide +kernel
theorem dX8_sense_20 : decode cX8_sense 20 = .ok (.aload_n 0, 1) := by decide +kernel
theorem dX8_sense_21 : decode cX8_sense 21 = .ok (.getfield 48, 3) := by decide +kernel
theorem dX8_sense_24 : decode cX8_sense 24 = .ok (.aload_n 0, 1) := by decide +kernel
theorem dX8_sense_25 : decode cX8_sense 25 = .ok (.getfield 136, 3) := by decide +kernel
theorem dX8_sense_28 : decode cX8_sense 28 = .ok (.iload_n 1, 1) := by decide +kernel
theorem dX8_sense_29 : decode cX8_sense 29 = .ok (.iastore, 1) := by decide +kernel
theorem dX8_sense_30 : decode cX8_sense 30 = .ok (.aload_n 0, 1) := by decide +kernel
theorem dX8_sense_31 : decode cX8_sense 31 = .ok (.dup, 1) := by decide +kernel
theorem dX8_sense_32 : decode cX8_sense 32 = .ok (.getfield 136, 3) := by decide +kernel
theorem dX8_sense_35 : decode cX8_sense 35 = .ok (.iconst 1, 1) := by decide +kernel
theorem dX8_sense_36 : decode cX8_sense 36 = .ok (.iadd, 1) := by decide +kernel
theorem dX8_sense_37 : decode cX8_sense 37 = .ok (.putfield 136, 3) := by decide +kernel
theorem dX8_sense_40 : decode cX8_sense 40 = .ok (.aload_n 0, 1) := by decide +kernel
theorem dX8_sense_41 : decode cX8_sense 41 = .ok (.getfield 136, 3) := by decide +kernel
theorem dX8_sense_44 : decode cX8_sense 44 = .ok (.iconst 1, 1) := by decide +kernel
theorem dX8_sense_45 : decode cX8_sense 45 = .ok (.isub, 1) := by decide +kernel
theorem dX8_sense_46 : decode cX8_sense 46 = .ok (.ireturn, 1) := by decide +kernel
theorem dX8_isGreat_0 : decode cX8_isGreat 0 = .ok (.iconst 0, 1) := by decide +kernel
theorem dX8_isGreat_1 : decode cX8_isGreat 1 = .ok (.istore_n 2, 1) := by decide +kernel
theorem dX8_isGreat_2 : decode cX8_isGreat 2 = .ok (.iconst 0, 1) := by decide +kernel
theorem dX8_isGreat_3 : decode cX8_isGreat 3 = .ok (.istore_n 3, 1) := by decide +kernel
theorem dX8_isGreat_4 : decode cX8_isGreat 4 = .ok (.iload_n 3, 1) := by decide +kernel
theorem dX8_isGreat_5 : decode cX8_isGreat 5 = .ok (.aload_n 0, 1) := by decide +kernel
theorem dX8_isGreat_6 : decode cX8_isGreat 6 = .ok (.getfield 60, 3) := by decide +kernel
theorem dX8_isGreat_9 : decode cX8_isGreat 9 = .ok (.if_icmp .ge 51, 3) := by decide +kernel
theorem dX8_isGreat_12 : decode cX8_isGreat 12 = .ok (.aload_n 0, 1) := by decide +kernel
theorem dX8_isGreat_13 : decode cX8_isGreat 13 = .ok (.iload_n 3, 1) := by decide +kernel
theorem dX8_isGreat_14 : decode cX8_isGreat 14 = .ok (.invokevirtual 123, 3) := by decide +kernel
theorem dX8_isGreat_17 : decode cX8_isGreat 17 = .ok (.ifCond .eq 37, 3) := by decide +kernel
theorem dX8_isGreat_20 : decode cX8_isGreat 20 = .ok (.aload_n 0, 1) := by decide +kernel
theorem dX8_isGreat_21 : decode cX8_isGreat 21 = .ok (.iload_n 3, 1) := by decide +kernel
theorem dX8_isGreat_22 : decode cX8_isGreat 22 = .ok (.invokevirtual 102, 3) := by decide +kernel
theorem dX8_isGreat_25 : decode cX8_isGreat 25 = .ok (.aload_n 0, 1) := by decide +kernel
theorem dX8_isGreat_26 : decode cX8_isGreat 26 = .ok (.iload_n 1, 1) := by decide +kernel
theorem dX8_isGreat_27 : decode cX8_isGreat 27 = .ok (.invokevirtual 102, 3) := by decide +kernel
theorem dX8_isGreat_30 : decode cX8_isGreat 30 = .ok (.if_icmp .gt 21, 3) := by decide +kernel
theorem dX8_isGreat_33 : decode cX8_isGreat 33 = .ok (.aload_n 0, 1) := by decide +kernel
theorem dX8_isGreat_34 : decode cX8_isGreat 34 = .ok (.iload_n 3, 1) := by decide +kernel
theorem dX8_isGreat_35 : decode cX8_isGreat 35 = .ok (.invokevirtual 102, 3) := by decide +kernel
theorem dX8_isGreat_38 : decode cX8_isGreat 38 = .ok (.aload_n 0, 1) := by decide +kernel
theorem dX8_isGreat_39 : decode cX8_isGreat 39 = .ok (.iload_n 1, 1) := by decide +kernel
theorem dX8_isGreat_40 : decode cX8_isGreat 40 = .ok (.invokevirtual 102, 3) := by decide +kernel
theorem dX8_isGreat_43 : decode cX8_isGreat 43 = .ok (.if_icmp .ne 11, 3) := by decide +kernel
theorem dX8_isGreat_46 : decode cX8_isGreat 46 = .ok (.iload_n 3, 1) := by decide +kernel
theorem dX8_isGreat_47 : decode cX8_isGreat 47 = .ok (.iload_n 1, 1) := by decide +kernel
theorem dX8_isGreat_48 : decode cX8_isGreat 48 = .ok (.if_icmp .ge 6, 3) := by decide +kernel
theorem dX8_isGreat_51 : decode cX8_isGreat 51 = .ok (.iinc 2 1, 3) := by decide +kernel
theorem dX8_isGreat_54 : decode cX8_isGreat 54 = .ok (.iinc 3 1, 3) := by decide +kernel
theorem dX8_isGreat_57 : decode cX8_isGreat 57 = .ok (.goto (-53), 3) := by decide +kernel
theorem dX8_isGreat_60 : decode cX8_isGreat 60 = .ok (.iload_n 2, 1) := by decide +kernel
theorem dX8_isGreat_61 : decode cX8_isGreat 61 = .ok (.iconst 5, 1) := by decide +kernel
theorem dX8_isGreat_62 : decode cX8_isGreat 62 = .ok (.if_icmp .ge 7, 3) := by decide +kernel
theorem dX8_isGreat_65 : decode cX8_isGreat 65 = .ok (.iconst 1, 1) := by decide +kernel
theorem dX8_isGreat_66 : decode cX8_isGreat 66 = .ok (.goto 4, 3) := by decide +kernel
theorem dX8_isGreat_69 : decode cX8_isGreat 69 = .ok (.iconst 0, 1) := by decide +kernel
theorem dX8_isGreat_70 : decode cX8_isGreat 70 = .ok (.ireturn, 1) := by decide +kernel
theorem dX8_matches_0 : decode cX8_matches 0 = .ok (.iconst 0, 1) := by decide +kernel
theorem dX8_matches_1 : decode cX8_matches 1 = .ok (.istore_n 1, 1) := by decide +kernel
theorem dX8_matches_2 : decode cX8_matches 2 = .ok (.iconst 0, 1) := by decide +kernel
theorem dX8_matches_3 : decode cX8_matches 3 = .ok (.istore_n 2, 1) := by decide +kernel
theorem dX8_matches_4 : decode cX8_matches 4 = .ok (.iload_n 2, 1) := by decide +kernel
theorem dX8_matches_5 : decode cX8_matches 5 = .ok (.aload_n 0, 1) := by decide +kernel
theorem dX8_matches_6 : decode cX8_matches 6 = .ok (.getfield 60, 3) := by decide +kernel
theorem dX8_matches_9 : decode cX8_matches 9 = .ok (.if_icmp .ge 38, 3) := by decide +kernel
theorem dX8_matches_12 : decode cX8_matches 12 = .ok (.aload_n 0, 1) := by decide +kernel
theorem dX8_matches_13 : decode cX8_matches 13 = .ok (.iload_n 2, 1) := by decide +kernel
theorem dX8_matches_14 : decode cX8_matches 14 = .ok (.invokevirtual 123, 3) := by decide +kernel
theorem dX8_matches_17 : decode cX8_matches 17 = .ok (.ifCond .eq 24, 3) := by decide +kernel
theorem dX8_matches_20 : decode cX8_matches 20 = .ok (.aload_n 0, 1) := by decide +kernel
theorem dX8_matches_21 : decode cX8_matches 21 = .ok (.iload_n 2, 1) := by decide +kernel
theorem dX8_matches_22 : decode cX8_matches 22 = .ok (.invokevirtual 139, 3) := by decide +kernel
theorem dX8_matches_25 : decode cX8_matches 25 = .ok (.ifCond .ne 6, 3) := by decide +kernel
theorem dX8_matches_28 : decode cX8_matches 28 = .ok (.goto 13, 3) := by decide +kernel
theorem dX8_matches_31 : decode cX8_matches 31 = .ok (.aload_n 0, 1) := by decide +kernel
theorem dX8_matches_32 : decode cX8_matches 32 = .ok (.getfield 54, 3) := by decide +kernel
theorem dX8_matches_35 : decode cX8_matches 35 = .ok (.iload_n 1, 1) := by decide +kernel
theorem dX8_matches_36 : decode cX8_matches 36 = .ok (.iload_n 2, 1) := by decide +kernel
theorem dX8_matches_37 : decode cX8_matches 37 = .ok (.iastore, 1) := by decide +kernel
theorem dX8_matches_38 : decode cX8_matches 38 = .ok (.iinc 1 1, 3) := by decide +kernel
theorem dX8_matches_41 : decode cX8_matches 41 = .ok (.iinc 2 1, 3) := by decide +kernel
theorem dX8_matches_44 : decode cX8_matches 44 = .ok (.goto (-40), 3) := by decide +kernel
theorem dX8_matches_47 : decode cX8_matches 47 = .ok (.iconst 1, 1) := by decide +kernel
theorem dX8_matches_48 : decode cX8_matches 48 = .ok (.istore_n 2, 1) := by decide +kernel
theorem dX8_matches_49 : decode cX8_matches 49 = .ok (.iconst 0, 1) := by decide +kernel
theorem dX8_matches_50 : decode cX8_matches 50 = .ok (.istore_n 3, 1) := by decide +kernel
theorem dX8_matches_51 : decode cX8_matches 51 = .ok (.iload_n 3, 1) := by decide +kernel
theorem dX8_matches_52 : decode cX8_matches 52 = .ok (.iload_n 1, 1) := by decide +kernel
theorem dX8_matches_53 : decode cX8_matches 53 = .ok (.if_icmp .ge 18, 3) := by decide +kernel
theorem dX8_matches_56 : decode cX8_matches 56 = .ok (.iload_n 2, 1) := by decide +kernel
theorem dX8_matches_57 : decode cX8_matches 57 = .ok (.aload_n 0, 1) := by decide +kernel
theorem dX8_matches_58 : decode cX8_matches 58 = .ok (.getfield 136, 3) := by decide +kernel
theorem dX8_matches_61 : decode cX8_matches 61 = .ok (.iconst 1, 1) := by decide +kernel
theorem dX8_matches_62 : decode cX8_matches 62 = .ok (.iadd, 1) := by decide +kernel
theorem dX8_matches_63 : decode cX8_matches 63 = .ok (.imul, 1) := by decide +kernel
theorem dX8_matches_64 : decode cX8_matches 64 = .ok (.istore_n 2, 1) := by decide +kernel
theorem dX8_matches_65 : decode cX8_matches 65 = .ok (.iinc 3 1, 3) := by decide +kernel
theorem dX8_matches_68 : decode cX8_matches 68 = .ok (.goto (-17), 3) := by decide +kernel
theorem dX8_matches_71 : decode cX8_matches 71 = .ok (.iload_n 1, 1) := by decide +kernel
theorem dX8_matches_72 : decode cX8_matches 72 = .ok (.aload_n 0, 1) := by decide +kernel
theorem dX8_matches_73 : decode cX8_matches 73 = .ok (.getfield 136, 3) := by decide +kernel
theorem dX8_matches_76 : decode cX8_matches 76 = .ok (.if_icmp .ge 7, 3) := by decide +kernel
theorem dX8_matches_79 : decode cX8_matches 79 = .ok (.iload_n 1, 1) := by decide +kernel
theorem dX8_matches_80 : decode cX8_matches 80 = .ok (.goto 7, 3) := by decide +kernel
theorem dX8_matches_83 : decode cX8_matches 83 = .ok (.aload_n 0, 1) := by decide +kernel
theorem dX8_matches_84 : decode cX8_matches 84 = .ok (.getfield 136, 3) := by decide +kernel
theorem dX8_matches_87 : decode cX8_matches 87 = .ok (.istore_n 3, 1) := by decide +kernel
theorem dX8_matches_88 : decode cX8_matches 88 = .ok (.aload_n 0, 1) := by decide +kernel
theorem dX8_matches_89 : decode cX8_matches 89 = .ok (.iconst (-1), 1) := by decide +kernel
theorem dX8_matches_90 : decode cX8_matches 90 = .ok (.putfield 142, 3) := by decide +kernel
theorem dX8_matches_93 : decode cX8_matches 93 = .ok (.iconst 0, 1) := by decide +kernel
theorem dX8_matches_94 : decode cX8_matches 94 = .ok (.istore 4, 2) := by decide +kernel
theorem dX8_matches_96 : decode cX8_matches 96 = .ok (.iload 4, 2) := by decide +kernel
theorem dX8_matches_98 : decode cX8_matches 98 = .ok (.iload_n 2, 1) := by decide +kernel
theorem dX8_matches_99 : decode cX8_matches 99 = .ok (.if_icmp .ge 98, 3) := by decide +kernel
theorem dX8_matches_102 : decode cX8_matches 102 = .ok (.aload_n 0, 1) := by decide +kernel
theorem dX8_matches_103 : decode cX8_matches 103 = .ok (.iload 4, 2) := by decide +kernel
theorem dX8_matches_105 : decode cX8_matches 105 = .ok (.iload_n 1, 1) := by decide +kernel
theorem dX8_matches_106 : decode cX8_matches 106 = .ok (.iload_n 3, 1) := by decide +kernel
theorem dX8_matches_107 : decode cX8_matches 107 = .ok (.invokevirtual 145, 3) := by decide +kernel
theorem dX8_matches_110 : decode cX8_matches 110 = .ok (.istore 5, 2) := by decide +kernel
theorem dX8_matches_112 : decode cX8_matches 112 = .ok (.iload 5, 2) := by decide +kernel
theorem dX8_matches_114 : decode cX8_matches 114 = .ok (.iconst (-1), 1) := by decide +kernel
theorem dX8_matches_115 : decode cX8_matches 115 = .ok (.if_icmp .eq 76, 3) := by decide +kernel
theorem dX8_matches_118 : decode cX8_matches 118 = .ok (.aload_n 0, 1) := by decide +kernel
theorem dX8_matches_119 : decode cX8_matches 119 = .ok (.getfield 142, 3) := by decide +kernel
theorem dX8_matches_122 : decode cX8_matches 122 = .ok (.iconst (-1), 1) := by decide +kernel
theorem dX8_matches_123 : decode cX8_matches 123 = .ok (.if_icmp .eq 15, 3) := by decide +kernel
theorem dX8_matches_126 : decode cX8_matches 126 = .ok (.iload 5, 2) := by decide +kernel
theorem dX8_matches_128 : decode cX8_matches 128 = .ok (.aload_n 0, 1) := by decide +kernel
theorem dX8_matches_129 : decode cX8_matches 129 = .ok (.getfield 142, 3) := by decide +kernel
theorem dX8_matches_132 : decode cX8_matches 132 = .ok (.if_icmp .lt 6, 3) := by decide +kernel
theorem dX8_matches_135 : decode cX8_matches 135 = .ok (.goto 56, 3) := by decide +kernel
theorem dX8_matches_138 : decode cX8_matches 138 = .ok (.aload_n 0, 1) := by decide +kernel
theorem dX8_matches_139 : decode cX8_matches 139 = .ok (.iload 5, 2) := by decide +kernel
theorem dX8_matches_141 : decode cX8_matches 141 = .ok (.putfield 142, 3) := by decide +kernel
theorem dX8_matches_144 : decode cX8_matches 144 = .ok (.iload 4, 2) := by decide +kernel
theorem dX8_matches_146 : decode cX8_matches 146 = .ok (.istore 6, 2) := by decide +kernel
theorem dX8_matches_148 : decode cX8_matches 148 = .ok (.iload_n 1, 1) := by decide +kernel
theorem dX8_matches_149 : decode cX8_matches 149 = .ok (.iconst 1, 1) := by decide +kernel
theorem dX8_matches_150 : decode cX8_matches 150 = .ok (.isub, 1) := by decide +kernel
theorem dX8_matches_151 : decode cX8_matches 151 = .ok (.istore 7, 2) := by decide +kernel
theorem dX8_matches_153 : decode cX8_matches 153 = .ok (.iload 7, 2) := by decide +kernel
theorem dX8_matches_155 : decode cX8_matches 155 = .ok (.ifCond .lt 36, 3) := by decide +kernel
theorem dX8_matches_158 : decode cX8_matches 158 = .ok (.aload_n 0, 1) := by decide +kernel
theorem dX8_matches_159 : decode cX8_matches 159 = .ok (.getfield 57, 3) := by decide +kernel
theorem dX8_matches_162 : decode cX8_matches 162 = .ok (.iload 7, 2) := by decide +kernel
theorem dX8_matches_164 : decode cX8_matches 164 = .ok (.iload 6, 2) := by decide +kernel
theorem dX8_matches_166 : decode cX8_matches 166 = .ok (.aload_n 0, 1) := by decide +kernel
theorem dX8_matches_167 : decode cX8_matches 167 = .ok (.getfield 136, 3) := by decide +kernel
theorem dX8_matches_170 : decode cX8_matches 170 = .ok (.iconst 1, 1) := by decide +kernel
theorem dX8_matches_171 : decode cX8_matches 171 = .ok (.iadd, 1) := by decide +kernel
theorem dX8_matches_172 : decode cX8_matches 172 = .ok (.irem, 1) := by decide +kernel
theorem dX8_matches_173 : decode cX8_matches 173 = .ok (.iastore, 1) := by decide +kernel
theorem dX8_matches_174 : decode cX8_matches 174 = .ok (.iload 6, 2) := by decide +kernel
theorem dX8_matches_176 : decode cX8_matches 176 = .ok (.aload_n 0, 1) := by decide +kernel
theorem dX8_matches_177 : decode cX8_matches 177 = .ok (.getfield 136, 3) := by decide +kernel
theorem dX8_matches_180 : decode cX8_matches 180 = .ok (.iconst 1, 1) := by decide +kernel
theorem dX8_matches_181 : decode cX8_matches 181 = .ok (.iadd, 1) := by decide +kernel
theorem dX8_matches_182 : decode cX8_matches 182 = .ok (.idiv, 1) := by decide +kernel
theorem dX8_matches_183 : decode cX8_matches 183 = .ok (.istore 6, 2) := by decide +kernel
theorem dX8_matches_185 : decode cX8_matches 185 = .ok (.iinc 7 (-1), 3) := by decide +kernel
theorem dX8_matches_188 : decode cX8_matches 188 = .ok (.goto (-35), 3) := by decide +kernel
theorem dX8_matches_191 : decode cX8_matches 191 = .ok (.iinc 4 1, 3) := by decide +kernel
theorem dX8_matches_194 : decode cX8_matches 194 = .ok (.goto (-98), 3) := by decide +kernel
theorem dX8_matches_197 : decode cX8_matches 197 = .ok (.iload_n 1, 1) := by decide +kernel
theorem dX8_matches_198 : decode cX8_matches 198 = .ok (.ireturn, 1) := by decide +kernel
theorem dX8_sumOf_0 : decode cX8_sumOf 0 = .ok (.iload_n 1, 1) := by decide +kernel
theorem dX8_sumOf_1 : decode cX8_sumOf 1 = .ok (.istore 4, 2) := by decide +kernel
theorem dX8_sumOf_3 : decode cX8_sumOf 3 = .ok (.iconst 0, 1) := by decide +kernel
theorem dX8_sumOf_4 : decode cX8_sumOf 4 = .ok (.istore 5, 2) := by decide +kernel
theorem dX8_sumOf_6 : decode cX8_sumOf 6 = .ok (.iconst 0, 1) := by decide +kernel
theorem dX8_sumOf_7 : decode cX8_sumOf 7 = .ok (.istore 6, 2) := by decide +kernel
theorem dX8_sumOf_9 : decode cX8_sumOf 9 = .ok (.iconst 0, 1) := by decide +kernel
theorem dX8_sumOf_10 : decode cX8_sumOf 10 = .ok (.istore 7, 2) := by decide +kernel
theorem dX8_sumOf_12 : decode cX8_sumOf 12 = .ok (.iload_n 2, 1) := by decide +kernel
theorem dX8_sumOf_13 : decode cX8_sumOf 13 = .ok (.iconst 1, 1) := by decide +kernel
theorem dX8_sumOf_14 : decode cX8_sumOf 14 = .ok (.isub, 1) := by decide +kernel
theorem dX8_sumOf_15 : decode cX8_sumOf 15 = .ok (.istore 8, 2) := by decide +kernel
theorem dX8_sumOf_17 : decode cX8_sumOf 17 = .ok (.iload 8, 2) := by decide +kernel
theorem dX8_sumOf_19 : decode cX8_sumOf 19 = .ok (.ifCond .lt 95, 3) := by decide +kernel
theorem dX8_sumOf_22 : decode cX8_sumOf 22 = .ok (.iload 4, 2) := by decide +kernel
theorem dX8_sumOf_24 : decode cX8_sumOf 24 = .ok (.aload_n 0, 1) := by decide +kernel
theorem dX8_sumOf_25 : decode cX8_sumOf 25 = .ok (.getfield 136, 3) := by decide +kernel
theorem dX8_sumOf_28 : decode cX8_sumOf 28 = .ok (.iconst 1, 1) := by decide +kernel
theorem dX8_sumOf_29 : decode cX8_sumOf 29 = .ok (.iadd, 1) := by decide +kernel
theorem dX8_sumOf_30 : decode cX8_sumOf 30 = .ok (.irem, 1) := by decide +kernel
theorem dX8_sumOf_31 : decode cX8_sumOf 31 = .ok (.istore 9, 2) := by decide +kernel
theorem dX8_sumOf_33 : decode cX8_sumOf 33 = .ok (.iload 4, 2) := by decide +kernel
theorem dX8_sumOf_35 : decode cX8_sumOf 35 = .ok (.aload_n 0, 1) := by decide +kernel
theorem dX8_sumOf_36 : decode cX8_sumOf 36 = .ok (.getfield 136, 3) := by decide +kernel
theorem dX8_sumOf_39 : decode cX8_sumOf 39 = .ok (.iconst 1, 1) := by decide +kernel
theorem dX8_sumOf_40 : decode cX8_sumOf 40 = .ok (.iadd, 1) := by decide +kernel
theorem dX8_sumOf_41 : decode cX8_sumOf 41 = .ok (.idiv, 1) := by decide +kernel
theorem dX8_sumOf_42 : decode cX8_sumOf 42 = .ok (.istore 4, 2) := by decide +kernel
theorem dX8_sumOf_44 : decode cX8_sumOf 44 = .ok (.iload 9, 2) := by decide +kernel
theorem dX8_sumOf_46 : decode cX8_sumOf 46 = .ok (.aload_n 0, 1) := by decide +kernel
theorem dX8_sumOf_47 : decode cX8_sumOf 47 = .ok (.getfield 136, 3) := by decide +kernel
theorem dX8_sumOf_50 : decode cX8_sumOf 50 = .ok (.if_icmp .ne 6, 3) := by decide +kernel
theorem dX8_sumOf_53 : decode cX8_sumOf 53 = .ok (.goto 55, 3) := by decide +kernel
theorem dX8_sumOf_56 : decode cX8_sumOf 56 = .ok (.iload 5, 2) := by decide +kernel
theorem dX8_sumOf_58 : decode cX8_sumOf 58 = .ok (.iload 9, 2) := by decide +kernel
theorem dX8_sumOf_60 : decode cX8_sumOf 60 = .ok (.ishr, 1) := by decide +kernel
theorem dX8_sumOf_61 : decode cX8_sumOf 61 = .ok (.iconst 1, 1) := by decide +kernel
theorem dX8_sumOf_62 : decode cX8_sumOf 62 = .ok (.iand, 1) := by decide +kernel
theorem dX8_sumOf_63 : decode cX8_sumOf 63 = .ok (.iconst 1, 1) := by decide +kernel
theorem dX8_sumOf_64 : decode cX8_sumOf 64 = .ok (.if_icmp .ne 5, 3) := by decide +kernel
theorem dX8_sumOf_67 : decode cX8_sumOf 67 = .ok (.iconst (-1), 1) := by decide +kernel
theorem dX8_sumOf_68 : decode cX8_sumOf 68 = .ok (.ireturn, 1) := by decide +kernel
theorem dX8_sumOf_69 : decode cX8_sumOf 69 = .ok (.iload 5, 2) := by decide +kernel
theorem dX8_sumOf_71 : decode cX8_sumOf 71 = .ok (.iconst 1, 1) := by decide +kernel
theorem dX8_sumOf_72 : decode cX8_sumOf 72 = .ok (.iload 9, 2) := by decide +kernel
theorem dX8_sumOf_74 : decode cX8_sumOf 74 = .ok (.ishl, 1) := by decide +kernel
theorem dX8_sumOf_75 : decode cX8_sumOf 75 = .ok (.ior, 1) := by decide +kernel
theorem dX8_sumOf_76 : decode cX8_sumOf 76 = .ok (.istore 5, 2) := by decide +kernel
theorem dX8_sumOf_78 : decode cX8_sumOf 78 = .ok (.iinc 6 1, 3) := by decide +kernel
theorem dX8_sumOf_81 : decode cX8_sumOf 81 = .ok (.iload 7, 2) := by decide +kernel
theorem dX8_sumOf_83 : decode cX8_sumOf 83 = .ok (.aload_n 0, 1) := by decide +kernel
theorem dX8_sumOf_84 : decode cX8_sumOf 84 = .ok (.aload_n 0, 1) := by decide +kernel
theorem dX8_sumOf_85 : decode cX8_sumOf 85 = .ok (.aload_n 0, 1) := by decide +kernel
theorem dX8_sumOf_86 : decode cX8_sumOf 86 = .ok (.getfield 54, 3) := by decide +kernel
theorem dX8_sumOf_89 : decode cX8_sumOf 89 = .ok (.iload 8, 2) := by decide +kernel
theorem dX8_sumOf_91 : decode cX8_sumOf 91 = .ok (.iaload, 1) := by decide +kernel
theorem dX8_sumOf_92 : decode cX8_sumOf 92 = .ok (.invokevirtual 149, 3) := by decide +kernel
theorem dX8_sumOf_95 : decode cX8_sumOf 95 = .ok (.aload_n 0, 1) := by decide +kernel
theorem dX8_sumOf_96 : decode cX8_sumOf 96 = .ok (.getfield 48, 3) := by decide +kernel
theorem dX8_sumOf_99 : decode cX8_sumOf 99 = .ok (.iload 9, 2) := by decide +kernel
theorem dX8_sumOf_101 : decode cX8_sumOf 101 = .ok (.iaload, 1) := by decide +kernel
theorem dX8_sumOf_102 : decode cX8_sumOf 102 = .ok (.invokevirtual 67, 3) := by decide +kernel
theorem dX8_sumOf_105 : decode cX8_sumOf 105 = .ok (.iadd, 1) := by decide +kernel
theorem dX8_sumOf_106 : decode cX8_sumOf 106 = .ok (.istore 7, 2) := by decide +kernel
theorem dX8_sumOf_108 : decode cX8_sumOf 108 = .ok (.iinc 8 (-1), 3) := by decide +kernel
theorem dX8_sumOf_111 : decode cX8_sumOf 111 = .ok (.goto (-94), 3) := by decide +kernel
theorem dX8_sumOf_114 : decode cX8_sumOf 114 = .ok (.iload 6, 2) := by decide +kernel
theorem dX8_sumOf_116 : decode cX8_sumOf 116 = .ok (.iload_n 3, 1) := by decide +kernel
theorem dX8_sumOf_117 : decode cX8_sumOf 117 = .ok (.if_icmp .ne 8, 3) := by decide +kernel
theorem dX8_sumOf_120 : decode cX8_sumOf 120 = .ok (.iload 7, 2) := by decide +kernel
theorem dX8_sumOf_122 : decode cX8_sumOf 122 = .ok (.goto 4, 3) := by decide +kernel
theorem dX8_sumOf_125 : decode cX8_sumOf 125 = .ok (.iconst (-1), 1) := by decide +kernel
theorem dX8_sumOf_126 : decode cX8_sumOf 126 = .ok (.ireturn, 1) := by decide +kernel
theorem dX8_matched_0 : decode cX8_matched 0 = .ok (.aload_n 0, 1) := by decide +kernel
theorem dX8_matched_1 : decode cX8_matched 1 = .ok (.iload_n 1, 1) := by decide +kernel
theorem dX8_matched_2 : decode cX8_matched 2 = .ok (.invokevirtual 123, 3) := by decide +kernel
theorem dX8_matched_5 : decode cX8_matched 5 = .ok (.ifCond .ne 5, 3) := by decide +kernel
theorem dX8_matched_8 : decode cX8_matched 8 = .ok (.iconst (-1), 1) := by decide +kernel
theorem dX8_matched_9 : decode cX8_matched 9 = .ok (.ireturn, 1) := by decide +kernel
theorem dX8_matched_10 : decode cX8_matched 10 = .ok (.aload_n 0, 1) := by decide +kernel
theorem dX8_matched_11 : decode cX8_matched 11 = .ok (.invokevirtual 152, 3) := by decide +kernel
theorem dX8_matched_14 : decode cX8_matched 14 = .ok (.istore_n 2, 1) := by decide +kernel
theorem dX8_matched_15 : decode cX8_matched 15 = .ok (.iconst 0, 1) := by decide +kernel
theorem dX8_matched_16 : decode cX8_matched 16 = .ok (.istore_n 3, 1) := by decide +kernel
theorem dX8_matched_17 : decode cX8_matched 17 = .ok (.iload_n 3, 1) := by decide +kernel
theorem dX8_matched_18 : decode cX8_matched 18 = .ok (.iload_n 2, 1) := by decide +kernel
theorem dX8_matched_19 : decode cX8_matched 19 = .ok (.if_icmp .ge 43, 3) := by decide +kernel
theorem dX8_matched_22 : decode cX8_matched 22 = .ok (.aload_n 0, 1) := by decide +kernel
theorem dX8_matched_23 : decode cX8_matched 23 = .ok (.getfield 54, 3) := by decide +kernel
theorem dX8_matched_26 : decode cX8_matched 26 = .ok (.iload_n 3, 1) := by decide +kernel
theorem dX8_matched_27 : decode cX8_matched 27 = .ok (.iaload, 1) := by decide +kernel
theorem dX8_matched_28 : decode cX8_matched 28 = .ok (.iload_n 1, 1) := by decide +kernel
theorem dX8_matched_29 : decode cX8_matched 29 = .ok (.if_icmp .ne 27, 3) := by decide +kernel
theorem dX8_matched_32 : decode cX8_matched 32 = .ok (.aload_n 0, 1) := by decide +kernel
theorem dX8_matched_33 : decode cX8_matched 33 = .ok (.getfield 57, 3) := by decide +kernel
theorem dX8_matched_36 : decode cX8_matched 36 = .ok (.iload_n 3, 1) := by decide +kernel
theorem dX8_matched_37 : decode cX8_matched 37 = .ok (.iaload, 1) := by decide +kernel
theorem dX8_matched_38 : decode cX8_matched 38 = .ok (.aload_n 0, 1) := by decide +kernel
theorem dX8_matched_39 : decode cX8_matched 39 = .ok (.getfield 136, 3) := by decide +kernel
theorem dX8_matched_42 : decode cX8_matched 42 = .ok (.if_icmp .ne 7, 3) := by decide +kernel
theorem dX8_matched_45 : decode cX8_matched 45 = .ok (.iconst (-1), 1) := by decide +kernel
theorem dX8_matched_46 : decode cX8_matched 46 = .ok (.goto 9, 3) := by decide +kernel
theorem dX8_matched_49 : decode cX8_matched 49 = .ok (.aload_n 0, 1) := by decide +kernel
theorem dX8_matched_50 : decode cX8_matched 50 = .ok (.getfield 57, 3) := by decide +kernel
theorem dX8_matched_53 : decode cX8_matched 53 = .ok (.iload_n 3, 1) := by decide +kernel
theorem dX8_matched_54 : decode cX8_matched 54 = .ok (.iaload, 1) := by decide +kernel
theorem dX8_matched_55 : decode cX8_matched 55 = .ok (.ireturn, 1) := by decide +kernel
theorem dX8_matched_56 : decode cX8_matched 56 = .ok (.iinc 3 1, 3) := by decide +kernel
theorem dX8_matched_59 : decode cX8_matched 59 = .ok (.goto (-42), 3) := by decide +kernel
theorem dX8_matched_62 : decode cX8_matched 62 = .ok (.iconst (-1), 1) := by decide +kernel
theorem dX8_matched_63 : decode cX8_matched 63 = .ok (.ireturn, 1) := by decide +kernel
theorem dX8_sum_0 : decode cX8_sum 0 = .ok (.aload_n 0, 1) := by decide +kernel
theorem dX8_sum_1 : decode cX8_sum 1 = .ok (.invokevirtual 152, 3) := by decide +kernel
theorem dX8_sum_4 : decode cX8_sum 4 = .ok (.pop, 1) := by decide +kernel
theorem dX8_sum_5 : decode cX8_sum 5 = .ok (.aload_n 0, 1) := by decide +kernel
theorem dX8_sum_6 : decode cX8_sum 6 = .ok (.getfield 142, 3) := by decide +kernel
theorem dX8_sum_9 : decode cX8_sum 9 = .ok (.ireturn, 1) := by decide +kernel
theorem dX8_share_0 : decode cX8_share 0 = .ok (.aload_n 0, 1) := by decide +kernel
theorem dX8_share_1 : decode cX8_share 1 = .ok (.iload_n 1, 1) := by decide +kernel
theorem dX8_share_2 : decode cX8_share 2 = .ok (.invokevirtual 123, 3) := by decide +kernel
theorem dX8_share_5 : decode cX8_share 5 = .ok (.ifCond .eq 13, 3) := by decide +kernel
theorem dX8_share_8 : decode cX8_share 8 = .ok (.iload 4, 2) := by decide +kernel
theorem dX8_share_10 : decode cX8_share 10 = .ok (.iconst 0, 1) := by decide +kernel
theorem dX8_share_11 : decode cX8_share 11 = .ok (.iconst 1, 1) := by decide +kernel
theorem dX8_share_12 : decode cX8_share 12 = .ok (.invokestatic 63, 3) := by decide +kernel
theorem dX8_share_15 : decode cX8_share 15 = .ok (.ifCond .ne 5, 3) := by decide +kernel
theorem dX8_share_18 : decode cX8_share 18 = .ok (.iconst (-1), 1) := by decide +kernel
theorem dX8_share_19 : decode cX8_share 19 = .ok (.ireturn, 1) := by decide +kernel
theorem dX8_share_20 : decode cX8_share 20 = .ok (.iconst 0, 1) := by decide +kernel
theorem dX8_share_21 : decode cX8_share 21 = .ok (.istore 5, 2) := by decide +kernel
theorem dX8_share_23 : decode cX8_share 23 = .ok (.iconst 0, 1) := by decide +kernel
theorem dX8_share_24 : decode cX8_share 24 = .ok (.istore 6, 2) := by decide +kernel
theorem dX8_share_26 : decode cX8_share 26 = .ok (.iload 6, 2) := by decide +kernel
theorem dX8_share_28 : decode cX8_share 28 = .ok (.aload_n 0, 1) := by decide +kernel
theorem dX8_share_29 : decode cX8_share 29 = .ok (.getfield 60, 3) := by decide +kernel
theorem dX8_share_32 : decode cX8_share 32 = .ok (.if_icmp .ge 62, 3) := by decide +kernel
theorem dX8_share_35 : decode cX8_share 35 = .ok (.iload 5, 2) := by decide +kernel
theorem dX8_share_37 : decode cX8_share 37 = .ok (.aload_n 0, 1) := by decide +kernel
theorem dX8_share_38 : decode cX8_share 38 = .ok (.getfield 29, 3) := by decide +kernel
theorem dX8_share_41 : decode cX8_share 41 = .ok (.iload 6, 2) := by decide +kernel
theorem dX8_share_43 : decode cX8_share 43 = .ok (.iaload, 1) := by decide +kernel
theorem dX8_share_44 : decode cX8_share 44 = .ok (.iload_n 2, 1) := by decide +kernel
theorem dX8_share_45 : decode cX8_share 45 = .ok (.iload_n 3, 1) := by decide +kernel
theorem dX8_share_46 : decode cX8_share 46 = .ok (.invokestatic 63, 3) := by decide +kernel
theorem dX8_share_49 : decode cX8_share 49 = .ok (.ifCond .eq 35, 3) := by decide +kernel
theorem dX8_share_52 : decode cX8_share 52 = .ok (.aload_n 0, 1) := by decide +kernel
theorem dX8_share_53 : decode cX8_share 53 = .ok (.getfield 32, 3) := by decide +kernel
theorem dX8_share_56 : decode cX8_share 56 = .ok (.iload 6, 2) := by decide +kernel
theorem dX8_share_58 : decode cX8_share 58 = .ok (.iaload, 1) := by decide +kernel
theorem dX8_share_59 : decode cX8_share 59 = .ok (.iload_n 1, 1) := by decide +kernel
theorem dX8_share_60 : decode cX8_share 60 = .ok (.if_icmp .eq 20, 3) := by decide +kernel
theorem dX8_share_63 : decode cX8_share 63 = .ok (.iload 4, 2) := by decide +kernel
theorem dX8_share_65 : decode cX8_share 65 = .ok (.iconst 1, 1) := by decide +kernel
theorem dX8_share_66 : decode cX8_share 66 = .ok (.if_icmp .ne 18, 3) := by decide +kernel
theorem dX8_share_69 : decode cX8_share 69 = .ok (.aload_n 0, 1) := by decide +kernel
theorem dX8_share_70 : decode cX8_share 70 = .ok (.getfield 32, 3) := by decide +kernel
theorem dX8_share_73 : decode cX8_share 73 = .ok (.iload 6, 2) := by decide +kernel
theorem dX8_share_75 : decode cX8_share 75 = .ok (.iaload, 1) := by decide +kernel
theorem dX8_share_76 : decode cX8_share 76 = .ok (.iconst (-1), 1) := by decide +kernel
theorem dX8_share_77 : decode cX8_share 77 = .ok (.if_icmp .ne 7, 3) := by decide +kernel
theorem dX8_share_80 : decode cX8_share 80 = .ok (.iconst 1, 1) := by decide +kernel
theorem dX8_share_81 : decode cX8_share 81 = .ok (.goto 4, 3) := by decide +kernel
theorem dX8_share_84 : decode cX8_share 84 = .ok (.iconst 0, 1) := by decide +kernel
theorem dX8_share_85 : decode cX8_share 85 = .ok (.iadd, 1) := by decide +kernel
theorem dX8_share_86 : decode cX8_share 86 = .ok (.istore 5, 2) := by decide +kernel
theorem dX8_share_88 : decode cX8_share 88 = .ok (.iinc 6 1, 3) := by decide +kernel
theorem dX8_share_91 : decode cX8_share 91 = .ok (.goto (-65), 3) := by decide +kernel
theorem dX8_share_94 : decode cX8_share 94 = .ok (.iload 5, 2) := by decide +kernel
theorem dX8_share_96 : decode cX8_share 96 = .ok (.ireturn, 1) := by decide +kernel
theorem dX8_first_0 : decode cX8_first 0 = .ok (.iconst (-1), 1) := by decide +kernel
theorem dX8_first_1 : decode cX8_first 1 = .ok (.istore_n 2, 1) := by decide +kernel
theorem dX8_first_2 : decode cX8_first 2 = .ok (.iconst 0, 1) := by decide +kernel
theorem dX8_first_3 : decode cX8_first 3 = .ok (.istore_n 3, 1) := by decide +kernel
theorem dX8_first_4 : decode cX8_first 4 = .ok (.iload_n 3, 1) := by decide +kernel
theorem dX8_first_5 : decode cX8_first 5 = .ok (.aload_n 0, 1) := by decide +kernel
theorem dX8_first_6 : decode cX8_first 6 = .ok (.getfield 60, 3) := by decide +kernel
theorem dX8_first_9 : decode cX8_first 9 = .ok (.if_icmp .ge 49, 3) := by decide +kernel
theorem dX8_first_12 : decode cX8_first 12 = .ok (.aload_n 0, 1) := by decide +kernel
theorem dX8_first_13 : decode cX8_first 13 = .ok (.iload_n 1, 1) := by decide +kernel
theorem dX8_first_14 : decode cX8_first 14 = .ok (.invokevirtual 123, 3) := by decide +kernel
theorem dX8_first_17 : decode cX8_first 17 = .ok (.ifCond .eq 35, 3) := by decide +kernel
theorem dX8_first_20 : decode cX8_first 20 = .ok (.aload_n 0, 1) := by decide +kernel
theorem dX8_first_21 : decode cX8_first 21 = .ok (.getfield 32, 3) := by decide +kernel
theorem dX8_first_24 : decode cX8_first 24 = .ok (.iload_n 3, 1) := by decide +kernel
theorem dX8_first_25 : decode cX8_first 25 = .ok (.iaload, 1) := by decide +kernel
theorem dX8_first_26 : decode cX8_first 26 = .ok (.iload_n 1, 1) := by decide +kernel
theorem dX8_first_27 : decode cX8_first 27 = .ok (.if_icmp .ne 25, 3) := by decide +kernel
theorem dX8_first_30 : decode cX8_first 30 = .ok (.iload_n 2, 1) := by decide +kernel
theorem dX8_first_31 : decode cX8_first 31 = .ok (.iconst (-1), 1) := by decide +kernel
theorem dX8_first_32 : decode cX8_first 32 = .ok (.if_icmp .eq 13, 3) := by decide +kernel
theorem dX8_first_35 : decode cX8_first 35 = .ok (.aload_n 0, 1) := by decide +kernel
theorem dX8_first_36 : decode cX8_first 36 = .ok (.getfield 29, 3) := by decide +kernel
theorem dX8_first_39 : decode cX8_first 39 = .ok (.iload_n 3, 1) := by decide +kernel
theorem dX8_first_40 : decode cX8_first 40 = .ok (.iaload, 1) := by decide +kernel
theorem dX8_first_41 : decode cX8_first 41 = .ok (.iload_n 2, 1) := by decide +kernel
theorem dX8_first_42 : decode cX8_first 42 = .ok (.if_icmp .ge 10, 3) := by decide +kernel
theorem dX8_first_45 : decode cX8_first 45 = .ok (.aload_n 0, 1) := by decide +kernel
theorem dX8_first_46 : decode cX8_first 46 = .ok (.getfield 29, 3) := by decide +kernel
theorem dX8_first_49 : decode cX8_first 49 = .ok (.iload_n 3, 1) := by decide +kernel
theorem dX8_first_50 : decode cX8_first 50 = .ok (.iaload, 1) := by decide +kernel
theorem dX8_first_51 : decode cX8_first 51 = .ok (.istore_n 2, 1) := by decide +kernel
theorem dX8_first_52 : decode cX8_first 52 = .ok (.iinc 3 1, 3) := by decide +kernel
theorem dX8_first_55 : decode cX8_first 55 = .ok (.goto (-51), 3) := by decide +kernel
theorem dX8_first_58 : decode cX8_first 58 = .ok (.iload_n 2, 1) := by decide +kernel
theorem dX8_first_59 : decode cX8_first 59 = .ok (.ireturn, 1) := by decide +kernel
theorem dX8_count_0 : decode cX8_count 0 = .ok (.iconst 0, 1) := by decide +kernel
theorem dX8_count_1 : decode cX8_count 1 = .ok (.istore_n 2, 1) := by decide +kernel
theorem dX8_count_2 : decode cX8_count 2 = .ok (.iload_n 1, 1) := by decide +kernel
theorem dX8_count_3 : decode cX8_count 3 = .ok (.tableswitch 129 0 5 #[37, 42, 78, 114, 119, 124], 37) := by decide +kernel
theorem dX8_count_40 : decode cX8_count 40 = .ok (.aload_n 0, 1) := by decide +kernel
theorem dX8_count_41 : decode cX8_count 41 = .ok (.getfield 60, 3) := by decide +kernel
theorem dX8_count_44 : decode cX8_count 44 = .ok (.ireturn, 1) := by decide +kernel
theorem dX8_count_45 : decode cX8_count 45 = .ok (.iconst 0, 1) := by decide +kernel
theorem dX8_count_46 : decode cX8_count 46 = .ok (.istore_n 3, 1) := by decide +kernel
theorem dX8_count_47 : decode cX8_count 47 = .ok (.iload_n 3, 1) := by decide +kernel
theorem dX8_count_48 : decode cX8_count 48 = .ok (.aload_n 0, 1) := by decide +kernel
theorem dX8_count_49 : decode cX8_count 49 = .ok (.getfield 60, 3) := by decide +kernel
theorem dX8_count_52 : decode cX8_count 52 = .ok (.if_icmp .ge 27, 3) := by decide +kernel
theorem dX8_count_55 : decode cX8_count 55 = .ok (.iload_n 2, 1) := by decide +kernel
theorem dX8_count_56 : decode cX8_count 56 = .ok (.aload_n 0, 1) := by decide +kernel
theorem dX8_count_57 : decode cX8_count 57 = .ok (.getfield 32, 3) := by decide +kernel
theorem dX8_count_60 : decode cX8_count 60 = .ok (.iload_n 3, 1) := by decide +kernel
theorem dX8_count_61 : decode cX8_count 61 = .ok (.iaload, 1) := by decide +kernel
theorem dX8_count_62 : decode cX8_count 62 = .ok (.iload_n 3, 1) := by decide +kernel
theorem dX8_count_63 : decode cX8_count 63 = .ok (.if_icmp .ne 7, 3) := by decide +kernel
theorem dX8_count_66 : decode cX8_count 66 = .ok (.iconst 1, 1) := by decide +kernel
theorem dX8_count_67 : decode cX8_count 67 = .ok (.goto 4, 3) := by decide +kernel
theorem dX8_count_70 : decode cX8_count 70 = .ok (.iconst 0, 1) := by decide +kernel
theorem dX8_count_71 : decode cX8_count 71 = .ok (.iadd, 1) := by decide +kernel
theorem dX8_count_72 : decode cX8_count 72 = .ok (.istore_n 2, 1) := by decide +kernel
theorem dX8_count_73 : decode cX8_count 73 = .ok (.iinc 3 1, 3) := by decide +kernel
theorem dX8_count_76 : decode cX8_count 76 = .ok (.goto (-29), 3) := by decide +kernel
theorem dX8_count_79 : decode cX8_count 79 = .ok (.iload_n 2, 1) := by decide +kernel
theorem dX8_count_80 : decode cX8_count 80 = .ok (.ireturn, 1) := by decide +kernel
theorem dX8_count_81 : decode cX8_count 81 = .ok (.iconst 0, 1) := by decide +kernel
theorem dX8_count_82 : decode cX8_count 82 = .ok (.istore_n 3, 1) := by decide +kernel
theorem dX8_count_83 : decode cX8_count 83 = .ok (.iload_n 3, 1) := by decide +kernel
theorem dX8_count_84 : decode cX8_count 84 = .ok (.aload_n 0, 1) := by decide +kernel
theorem dX8_count_85 : decode cX8_count 85 = .ok (.getfield 60, 3) := by decide +kernel
theorem dX8_count_88 : decode cX8_count 88 = .ok (.if_icmp .ge 27, 3) := by decide +kernel
theorem dX8_count_91 : decode cX8_count 91 = .ok (.iload_n 2, 1) := by decide +kernel
theorem dX8_count_92 : decode cX8_count 92 = .ok (.aload_n 0, 1) := by decide +kernel
theorem dX8_count_93 : decode cX8_count 93 = .ok (.getfield 32, 3) := by decide +kernel
theorem dX8_count_96 : decode cX8_count 96 = .ok (.iload_n 3, 1) := by decide +kernel
theorem dX8_count_97 : decode cX8_count 97 = .ok (.iaload, 1) := by decide +kernel
theorem dX8_count_98 : decode cX8_count 98 = .ok (.iconst (-1), 1) := by decide +kernel
theorem dX8_count_99 : decode cX8_count 99 = .ok (.if_icmp .ne 7, 3) := by decide +kernel
theorem dX8_count_102 : decode cX8_count 102 = .ok (.iconst 1, 1) := by decide +kernel
theorem dX8_count_103 : decode cX8_count 103 = .ok (.goto 4, 3) := by decide +kernel
theorem dX8_count_106 : decode cX8_count 106 = .ok (.iconst 0, 1) := by decide +kernel
theorem dX8_count_107 : decode cX8_count 107 = .ok (.iadd, 1) := by decide +kernel
theorem dX8_count_108 : decode cX8_count 108 = .ok (.istore_n 2, 1) := by decide +kernel
theorem dX8_count_109 : decode cX8_count 109 = .ok (.iinc 3 1, 3) := by decide +kernel
theorem dX8_count_112 : decode cX8_count 112 = .ok (.goto (-29), 3) := by decide +kernel
theorem dX8_count_115 : decode cX8_count 115 = .ok (.iload_n 2, 1) := by decide +kernel
theorem dX8_count_116 : decode cX8_count 116 = .ok (.ireturn, 1) := by decide +kernel
theorem dX8_count_117 : decode cX8_count 117 = .ok (.aload_n 0, 1) := by decide +kernel
theorem dX8_count_118 : decode cX8_count 118 = .ok (.getfield 90, 3) := by decide +kernel
theorem dX8_count_121 : decode cX8_count 121 = .ok (.ireturn, 1) := by decide +kernel
theorem dX8_count_122 : decode cX8_count 122 = .ok (.aload_n 0, 1) := by decide +kernel
theorem dX8_count_123 : decode cX8_count 123 = .ok (.getfield 136, 3) := by decide +kernel
theorem dX8_count_126 : decode cX8_count 126 = .ok (.ireturn, 1) := by decide +kernel
theorem dX8_count_127 : decode cX8_count 127 = .ok (.aload_n 0, 1) := by decide +kernel
theorem dX8_count_128 : decode cX8_count 128 = .ok (.getfield 120, 3) := by decide +kernel
theorem dX8_count_131 : decode cX8_count 131 = .ok (.ireturn, 1) := by decide +kernel
theorem dX8_count_132 : decode cX8_count 132 = .ok (.iconst (-1), 1) := by decide +kernel
theorem dX8_count_133 : decode cX8_count 133 = .ok (.ireturn, 1) := by decide +kernel
theorem dJ13_bitCount_95d88_0 : decode cJ13_bitCount_95d88 0 = .ok (.lload_n 0, 1) := by decide +kernel
theorem dJ13_bitCount_95d88_1 : decode cJ13_bitCount_95d88 1 = .ok (.lload_n 0, 1) := by decide +kernel
theorem dJ13_bitCount_95d88_2 : decode cJ13_bitCount_95d88 2 = .ok (.iconst 1, 1) := by decide +kernel
theorem dJ13_bitCount_95d88_3 : decode cJ13_bitCount_95d88 3 = .ok (.lushr, 1) := by decide +kernel
theorem dJ13_bitCount_95d88_4 : decode cJ13_bitCount_95d88 4 = .ok (.ldc2_w 314, 3) := by decide +kernel
theorem dJ13_bitCount_95d88_7 : decode cJ13_bitCount_95d88 7 = .ok (.land, 1) := by decide +kernel
theorem dJ13_bitCount_95d88_8 : decode cJ13_bitCount_95d88 8 = .ok (.lsub, 1) := by decide +kernel
theorem dJ13_bitCount_95d88_9 : decode cJ13_bitCount_95d88 9 = .ok (.lstore_n 0, 1) := by decide +kernel
theorem dJ13_bitCount_95d88_10 : decode cJ13_bitCount_95d88 10 = .ok (.lload_n 0, 1) := by decide +kernel
theorem dJ13_bitCount_95d88_11 : decode cJ13_bitCount_95d88 11 = .ok (.ldc2_w 316, 3) := by decide +kernel
theorem dJ13_bitCount_95d88_14 : decode cJ13_bitCount_95d88 14 = .ok (.land, 1) := by decide +kernel
theorem dJ13_bitCount_95d88_15 : decode cJ13_bitCount_95d88 15 = .ok (.lload_n 0, 1) := by decide +kernel
theorem dJ13_bitCount_95d88_16 : decode cJ13_bitCount_95d88 16 = .ok (.iconst 2, 1) := by decide +kernel
theorem dJ13_bitCount_95d88_17 : decode cJ13_bitCount_95d88 17 = .ok (.lushr, 1) := by decide +kernel
theorem dJ13_bitCount_95d88_18 : decode cJ13_bitCount_95d88 18 = .ok (.ldc2_w 316, 3) := by decide +kernel
theorem dJ13_bitCount_95d88_21 : decode cJ13_bitCount_95d88 21 = .ok (.land, 1) := by decide +kernel
theorem dJ13_bitCount_95d88_22 : decode cJ13_bitCount_95d88 22 = .ok (.ladd, 1) := by decide +kernel
theorem dJ13_bitCount_95d88_23 : decode cJ13_bitCount_95d88 23 = .ok (.lstore_n 0, 1) := by decide +kernel
theorem dJ13_bitCount_95d88_24 : decode cJ13_bitCount_95d88 24 = .ok (.lload_n 0, 1) := by decide +kernel
theorem dJ13_bitCount_95d88_25 : decode cJ13_bitCount_95d88 25 = .ok (.lload_n 0, 1) := by decide +kernel
theorem dJ13_bitCount_95d88_26 : decode cJ13_bitCount_95d88 26 = .ok (.iconst 4, 1) := by decide +kernel
theorem dJ13_bitCount_95d88_27 : decode cJ13_bitCount_95d88 27 = .ok (.lushr, 1) := by decide +kernel
theorem dJ13_bitCount_95d88_28 : decode cJ13_bitCount_95d88 28 = .ok (.ladd, 1) := by decide +kernel
theorem dJ13_bitCount_95d88_29 : decode cJ13_bitCount_95d88 29 = .ok (.ldc2_w 318, 3) := by decide +kernel
theorem dJ13_bitCount_95d88_32 : decode cJ13_bitCount_95d88 32 = .ok (.land, 1) := by decide +kernel
theorem dJ13_bitCount_95d88_33 : decode cJ13_bitCount_95d88 33 = .ok (.lstore_n 0, 1) := by decide +kernel
theorem dJ13_bitCount_95d88_34 : decode cJ13_bitCount_95d88 34 = .ok (.lload_n 0, 1) := by decide +kernel
theorem dJ13_bitCount_95d88_35 : decode cJ13_bitCount_95d88 35 = .ok (.lload_n 0, 1) := by decide +kernel
theorem dJ13_bitCount_95d88_36 : decode cJ13_bitCount_95d88 36 = .ok (.bipush 8, 2) := by decide +kernel
theorem dJ13_bitCount_95d88_38 : decode cJ13_bitCount_95d88 38 = .ok (.lushr, 1) := by decide +kernel
theorem dJ13_bitCount_95d88_39 : decode cJ13_bitCount_95d88 39 = .ok (.ladd, 1) := by decide +kernel
theorem dJ13_bitCount_95d88_40 : decode cJ13_bitCount_95d88 40 = .ok (.lstore_n 0, 1) := by decide +kernel
theorem dJ13_bitCount_95d88_41 : decode cJ13_bitCount_95d88 41 = .ok (.lload_n 0, 1) := by decide +kernel
theorem dJ13_bitCount_95d88_42 : decode cJ13_bitCount_95d88 42 = .ok (.lload_n 0, 1) := by decide +kernel
theorem dJ13_bitCount_95d88_43 : decode cJ13_bitCount_95d88 43 = .ok (.bipush 16, 2) := by decide +kernel
theorem dJ13_bitCount_95d88_45 : decode cJ13_bitCount_95d88 45 = .ok (.lushr, 1) := by decide +kernel
theorem dJ13_bitCount_95d88_46 : decode cJ13_bitCount_95d88 46 = .ok (.ladd, 1) := by decide +kernel
theorem dJ13_bitCount_95d88_47 : decode cJ13_bitCount_95d88 47 = .ok (.lstore_n 0, 1) := by decide +kernel
theorem dJ13_bitCount_95d88_48 : decode cJ13_bitCount_95d88 48 = .ok (.lload_n 0, 1) := by decide +kernel
theorem dJ13_bitCount_95d88_49 : decode cJ13_bitCount_95d88 49 = .ok (.lload_n 0, 1) := by decide +kernel
theorem dJ13_bitCount_95d88_50 : decode cJ13_bitCount_95d88 50 = .ok (.bipush 32, 2) := by decide +kernel
theorem dJ13_bitCount_95d88_52 : decode cJ13_bitCount_95d88 52 = .ok (.lushr, 1) := by decide +kernel
theorem dJ13_bitCount_95d88_53 : decode cJ13_bitCount_95d88 53 = .ok (.ladd, 1) := by decide +kernel
theorem dJ13_bitCount_95d88_54 : decode cJ13_bitCount_95d88 54 = .ok (.lstore_n 0, 1) := by decide +kernel
theorem dJ13_bitCount_95d88_55 : decode cJ13_bitCount_95d88 55 = .ok (.lload_n 0, 1) := by decide +kernel
theorem dJ13_bitCount_95d88_56 : decode cJ13_bitCount_95d88 56 = .ok (.l2i, 1) := by decide +kernel
theorem dJ13_bitCount_95d88_57 : decode cJ13_bitCount_95d88 57 = .ok (.bipush 127, 2) := by decide +kernel
theorem dJ13_bitCount_95d88_59 : decode cJ13_bitCount_95d88 59 = .ok (.iand, 1) := by decide +kernel
theorem dJ13_bitCount_95d88_60 : decode cJ13_bitCount_95d88 60 = .ok (.ireturn, 1) := by decide +kernel
theorem dJ9_max_7cf53_0 : decode cJ9_max_7cf53 0 = .ok (.iload_n 0, 1) := by decide +kernel
theorem dJ9_max_7cf53_1 : decode cJ9_max_7cf53 1 = .ok (.iload_n 1, 1) := by decide +kernel
theorem dJ9_max_7cf53_2 : decode cJ9_max_7cf53 2 = .ok (.if_icmp .lt 7, 3) := by decide +kernel
theorem dJ9_max_7cf53_5 : decode cJ9_max_7cf53 5 = .ok (.iload_n 0, 1) := by decide +kernel
theorem dJ9_max_7cf53_6 : decode cJ9_max_7cf53 6 = .ok (.goto 4, 3) := by decide +kernel
theorem dJ9_max_7cf53_9 : decode cJ9_max_7cf53 9 = .ok (.iload_n 1, 1) := by decide +kernel
theorem dJ9_max_7cf53_10 : decode cJ9_max_7cf53 10 = .ok (.ireturn, 1) := by decide +kernel
theorem dJ9_min_7cf53_0 : decode cJ9_min_7cf53 0 = .ok (.iload_n 0, 1) := by decide +kernel
theorem dJ9_min_7cf53_1 : decode cJ9_min_7cf53 1 = .ok (.iload_n 1, 1) := by decide +kernel
theorem dJ9_min_7cf53_2 : decode cJ9_min_7cf53 2 = .ok (.if_icmp .gt 7, 3) := by decide +kernel
theorem dJ9_min_7cf53_5 : decode cJ9_min_7cf53 5 = .ok (.iload_n 0, 1) := by decide +kernel
theorem dJ9_min_7cf53_6 : decode cJ9_min_7cf53 6 = .ok (.goto 4, 3) := by decide +kernel
theorem dJ9_min_7cf53_9 : decode cJ9_min_7cf53 9 = .ok (.iload_n 1, 1) := by decide +kernel
theorem dJ9_min_7cf53_10 : decode cJ9_min_7cf53 10 = .ok (.ireturn, 1) := by decide +kernel
theorem dJ7_fill_53178_0 : decode cJ7_fill_53178 0 = .ok (.iconst 0, 1) := by decide +kernel
theorem dJ7_fill_53178_1 : decode cJ7_fill_53178 1 = .ok (.istore_n 2, 1) := by decide +kernel
theorem dJ7_fill_53178_2 : decode cJ7_fill_53178 2 = .ok (.aload_n 0, 1) := by decide +kernel
theorem dJ7_fill_53178_3 : decode cJ7_fill_53178 3 = .ok (.arraylength, 1) := by decide +kernel
theorem dJ7_fill_53178_4 : decode cJ7_fill_53178 4 = .ok (.istore_n 3, 1) := by decide +kernel
theorem dJ7_fill_53178_5 : decode cJ7_fill_53178 5 = .ok (.iload_n 2, 1) := by decide +kernel
theorem dJ7_fill_53178_6 : decode cJ7_fill_53178 6 = .ok (.iload_n 3, 1) := by decide +kernel
theorem dJ7_fill_53178_7 : decode cJ7_fill_53178 7 = .ok (.if_icmp .ge 13, 3) := by decide +kernel
theorem dJ7_fill_53178_10 : decode cJ7_fill_53178 10 = .ok (.aload_n 0, 1) := by decide +kernel
theorem dJ7_fill_53178_11 : decode cJ7_fill_53178 11 = .ok (.iload_n 2, 1) := by decide +kernel
theorem dJ7_fill_53178_12 : decode cJ7_fill_53178 12 = .ok (.iload_n 1, 1) := by decide +kernel
theorem dJ7_fill_53178_13 : decode cJ7_fill_53178 13 = .ok (.iastore, 1) := by decide +kernel
theorem dJ7_fill_53178_14 : decode cJ7_fill_53178 14 = .ok (.iinc 2 1, 3) := by decide +kernel
theorem dJ7_fill_53178_17 : decode cJ7_fill_53178 17 = .ok (.goto (-12), 3) := by decide +kernel
theorem dJ7_fill_53178_20 : decode cJ7_fill_53178 20 = .ok (.return_, 1) := by decide +kernel
theorem dL_law_0 : decode cL_law 0 = .ok (.new 7, 3) := by decide +kernel
theorem dL_law_3 : decode cL_law 3 = .ok (.dup, 1) := by decide +kernel
theorem dL_law_4 : decode cL_law 4 = .ok (.invokespecial 9, 3) := by decide +kernel
theorem dL_law_7 : decode cL_law 7 = .ok (.astore_n 1, 1) := by decide +kernel
theorem dL_law_8 : decode cL_law 8 = .ok (.new 10, 3) := by decide +kernel
theorem dL_law_11 : decode cL_law 11 = .ok (.dup, 1) := by decide +kernel
theorem dL_law_12 : decode cL_law 12 = .ok (.invokespecial 12, 3) := by decide +kernel
theorem dL_law_15 : decode cL_law 15 = .ok (.astore_n 2, 1) := by decide +kernel
theorem dL_law_16 : decode cL_law 16 = .ok (.iconst 0, 1) := by decide +kernel
theorem dL_law_17 : decode cL_law 17 = .ok (.istore_n 3, 1) := by decide +kernel
theorem dL_law_18 : decode cL_law 18 = .ok (.iload_n 3, 1) := by decide +kernel
theorem dL_law_19 : decode cL_law 19 = .ok (.aload_n 0, 1) := by decide +kernel
theorem dL_law_20 : decode cL_law 20 = .ok (.arraylength, 1) := by decide +kernel
theorem dL_law_21 : decode cL_law 21 = .ok (.iconst 5, 1) := by decide +kernel
theorem dL_law_22 : decode cL_law 22 = .ok (.isub, 1) := by decide +kernel
theorem dL_law_23 : decode cL_law 23 = .ok (.if_icmp .gt 721, 3) := by decide +kernel
theorem dL_law_26 : decode cL_law 26 = .ok (.aload_n 0, 1) := by decide +kernel
theorem dL_law_27 : decode cL_law 27 = .ok (.iload_n 3, 1) := by decide +kernel
theorem dL_law_28 : decode cL_law 28 = .ok (.iaload, 1) := by decide +kernel
theorem dL_law_29 : decode cL_law 29 = .ok (.bipush 31, 2) := by decide +kernel
theorem dL_law_31 : decode cL_law 31 = .ok (.iand, 1) := by decide +kernel
theorem dL_law_32 : decode cL_law 32 = .ok (.tableswitch 706 0 21 #[104, 137, 170, 203, 236, 269, 328, 361, 384, 407, 430, 463, 476, 489, 502, 525, 548, 571, 594, 607, 660, 683], 104) := by decide +kernel
theorem dL_law_136 : decode cL_law 136 = .ok (.aload_n 1, 1) := by decide +kernel
theorem dL_law_137 : decode cL_law 137 = .ok (.aload_n 0, 1) := by decide +kernel
theorem dL_law_138 : decode cL_law 138 = .ok (.iload_n 3, 1) := by decide +kernel
theorem dL_law_139 : decode cL_law 139 = .ok (.iconst 1, 1) := by decide +kernel
theorem dL_law_140 : decode cL_law 140 = .ok (.iadd, 1) := by decide +kernel
theorem dL_law_141 : decode cL_law 141 = .ok (.iaload, 1) := by decide +kernel
theorem dL_law_142 : decode cL_law 142 = .ok (.aload_n 0, 1) := by decide +kernel
theorem dL_law_143 : decode cL_law 143 = .ok (.iload_n 3, 1) := by decide +kernel
theorem dL_law_144 : decode cL_law 144 = .ok (.iconst 2, 1) := by decide +kernel
theorem dL_law_145 : decode cL_law 145 = .ok (.iadd, 1) := by decide +kernel
theorem dL_law_146 : decode cL_law 146 = .ok (.iaload, 1) := by decide +kernel
theorem dL_law_147 : decode cL_law 147 = .ok (.invokevirtual 13, 3) := by decide +kernel
theorem dL_law_150 : decode cL_law 150 = .ok (.aload_n 2, 1) := by decide +kernel
theorem dL_law_151 : decode cL_law 151 = .ok (.aload_n 0, 1) := by decide +kernel
theorem dL_law_152 : decode cL_law 152 = .ok (.iload_n 3, 1) := by decide +kernel
theorem dL_law_153 : decode cL_law 153 = .ok (.iconst 1, 1) := by decide +kernel
theorem dL_law_154 : decode cL_law 154 = .ok (.iadd, 1) := by decide +kernel
theorem dL_law_155 : decode cL_law 155 = .ok (.iaload, 1) := by decide +kernel
theorem dL_law_156 : decode cL_law 156 = .ok (.aload_n 0, 1) := by decide +kernel
theorem dL_law_157 : decode cL_law 157 = .ok (.iload_n 3, 1) := by decide +kernel
theorem dL_law_158 : decode cL_law 158 = .ok (.iconst 2, 1) := by decide +kernel
theorem dL_law_159 : decode cL_law 159 = .ok (.iadd, 1) := by decide +kernel
theorem dL_law_160 : decode cL_law 160 = .ok (.iaload, 1) := by decide +kernel
theorem dL_law_161 : decode cL_law 161 = .ok (.invokevirtual 17, 3) := by decide +kernel
theorem dL_law_164 : decode cL_law 164 = .ok (.if_icmp .eq 574, 3) := by decide +kernel
theorem dL_law_167 : decode cL_law 167 = .ok (.iconst 0, 1) := by decide +kernel
theorem dL_law_168 : decode cL_law 168 = .ok (.ireturn, 1) := by decide +kernel
theorem dL_law_169 : decode cL_law 169 = .ok (.aload_n 1, 1) := by decide +kernel
theorem dL_law_170 : decode cL_law 170 = .ok (.aload_n 0, 1) := by decide +kernel
theorem dL_law_171 : decode cL_law 171 = .ok (.iload_n 3, 1) := by decide +kernel
theorem dL_law_172 : decode cL_law 172 = .ok (.iconst 1, 1) := by decide +kernel
theorem dL_law_173 : decode cL_law 173 = .ok (.iadd, 1) := by decide +kernel
theorem dL_law_174 : decode cL_law 174 = .ok (.iaload, 1) := by decide +kernel
theorem dL_law_175 : decode cL_law 175 = .ok (.aload_n 0, 1) := by decide +kernel
theorem dL_law_176 : decode cL_law 176 = .ok (.iload_n 3, 1) := by decide +kernel
theorem dL_law_177 : decode cL_law 177 = .ok (.iconst 2, 1) := by decide +kernel
theorem dL_law_178 : decode cL_law 178 = .ok (.iadd, 1) := by decide +kernel
theorem dL_law_179 : decode cL_law 179 = .ok (.iaload, 1) := by decide +kernel
theorem dL_law_180 : decode cL_law 180 = .ok (.invokevirtual 18, 3) := by decide +kernel
theorem dL_law_183 : decode cL_law 183 = .ok (.aload_n 2, 1) := by decide +kernel
theorem dL_law_184 : decode cL_law 184 = .ok (.aload_n 0, 1) := by decide +kernel
theorem dL_law_185 : decode cL_law 185 = .ok (.iload_n 3, 1) := by decide +kernel
theorem dL_law_186 : decode cL_law 186 = .ok (.iconst 1, 1) := by decide +kernel
theorem dL_law_187 : decode cL_law 187 = .ok (.iadd, 1) := by decide +kernel
theorem dL_law_188 : decode cL_law 188 = .ok (.iaload, 1) := by decide +kernel
theorem dL_law_189 : decode cL_law 189 = .ok (.aload_n 0, 1) := by decide +kernel
theorem dL_law_190 : decode cL_law 190 = .ok (.iload_n 3, 1) := by decide +kernel
theorem dL_law_191 : decode cL_law 191 = .ok (.iconst 2, 1) := by decide +kernel
theorem dL_law_192 : decode cL_law 192 = .ok (.iadd, 1) := by decide +kernel
theorem dL_law_193 : decode cL_law 193 = .ok (.iaload, 1) := by decide +kernel
theorem dL_law_194 : decode cL_law 194 = .ok (.invokevirtual 21, 3) := by decide +kernel
theorem dL_law_197 : decode cL_law 197 = .ok (.if_icmp .eq 541, 3) := by decide +kernel
theorem dL_law_200 : decode cL_law 200 = .ok (.iconst 0, 1) := by decide +kernel
theorem dL_law_201 : decode cL_law 201 = .ok (.ireturn, 1) := by decide +kernel
theorem dL_law_202 : decode cL_law 202 = .ok (.aload_n 1, 1) := by decide +kernel
theorem dL_law_203 : decode cL_law 203 = .ok (.aload_n 0, 1) := by decide +kernel
theorem dL_law_204 : decode cL_law 204 = .ok (.iload_n 3, 1) := by decide +kernel
theorem dL_law_205 : decode cL_law 205 = .ok (.iconst 1, 1) := by decide +kernel
theorem dL_law_206 : decode cL_law 206 = .ok (.iadd, 1) := by decide +kernel
theorem dL_law_207 : decode cL_law 207 = .ok (.iaload, 1) := by decide +kernel
theorem dL_law_208 : decode cL_law 208 = .ok (.aload_n 0, 1) := by decide +kernel
theorem dL_law_209 : decode cL_law 209 = .ok (.iload_n 3, 1) := by decide +kernel
theorem dL_law_210 : decode cL_law 210 = .ok (.iconst 2, 1) := by decide +kernel
theorem dL_law_211 : decode cL_law 211 = .ok (.iadd, 1) := by decide +kernel
theorem dL_law_212 : decode cL_law 212 = .ok (.iaload, 1) := by decide +kernel
theorem dL_law_213 : decode cL_law 213 = .ok (.invokevirtual 22, 3) := by decide +kernel
theorem dL_law_216 : decode cL_law 216 = .ok (.aload_n 2, 1) := by decide +kernel
theorem dL_law_217 : decode cL_law 217 = .ok (.aload_n 0, 1) := by decide +kernel
theorem dL_law_218 : decode cL_law 218 = .ok (.iload_n 3, 1) := by decide +kernel
theorem dL_law_219 : decode cL_law 219 = .ok (.iconst 1, 1) := by decide +kernel
theorem dL_law_220 : decode cL_law 220 = .ok (.iadd, 1) := by decide +kernel
theorem dL_law_221 : decode cL_law 221 = .ok (.iaload, 1) := by decide +kernel
theorem dL_law_222 : decode cL_law 222 = .ok (.aload_n 0, 1) := by decide +kernel
theorem dL_law_223 : decode cL_law 223 = .ok (.iload_n 3, 1) := by decide +kernel
theorem dL_law_224 : decode cL_law 224 = .ok (.iconst 2, 1) := by decide +kernel
theorem dL_law_225 : decode cL_law 225 = .ok (.iadd, 1) := by decide +kernel
theorem dL_law_226 : decode cL_law 226 = .ok (.iaload, 1) := by decide +kernel
theorem dL_law_227 : decode cL_law 227 = .ok (.invokevirtual 25, 3) := by decide +kernel
theorem dL_law_230 : decode cL_law 230 = .ok (.if_icmp .eq 508, 3) := by decide +kernel
theorem dL_law_233 : decode cL_law 233 = .ok (.iconst 0, 1) := by decide +kernel
theorem dL_law_234 : decode cL_law 234 = .ok (.ireturn, 1) := by decide +kernel
theorem dL_law_235 : decode cL_law 235 = .ok (.aload_n 1, 1) := by decide +kernel
theorem dL_law_236 : decode cL_law 236 = .ok (.aload_n 0, 1) := by decide +kernel
theorem dL_law_237 : decode cL_law 237 = .ok (.iload_n 3, 1) := by decide +kernel
theorem dL_law_238 : decode cL_law 238 = .ok (.iconst 1, 1) := by decide +kernel
theorem dL_law_239 : decode cL_law 239 = .ok (.iadd, 1) := by decide +kernel
theorem dL_law_240 : decode cL_law 240 = .ok (.iaload, 1) := by decide +kernel
theorem dL_law_241 : decode cL_law 241 = .ok (.aload_n 0, 1) := by decide +kernel
theorem dL_law_242 : decode cL_law 242 = .ok (.iload_n 3, 1) := by decide +kernel
theorem dL_law_243 : decode cL_law 243 = .ok (.iconst 2, 1) := by decide +kernel
theorem dL_law_244 : decode cL_law 244 = .ok (.iadd, 1) := by decide +kernel
theorem dL_law_245 : decode cL_law 245 = .ok (.iaload, 1) := by decide +kernel
theorem dL_law_246 : decode cL_law 246 = .ok (.invokevirtual 26, 3) := by decide +kernel
theorem dL_law_249 : decode cL_law 249 = .ok (.aload_n 2, 1) := by decide +kernel
theorem dL_law_250 : decode cL_law 250 = .ok (.aload_n 0, 1) := by decide +kernel
theorem dL_law_251 : decode cL_law 251 = .ok (.iload_n 3, 1) := by decide +kernel
theorem dL_law_252 : decode cL_law 252 = .ok (.iconst 1, 1) := by decide +kernel
theorem dL_law_253 : decode cL_law 253 = .ok (.iadd, 1) := by decide +kernel
theorem dL_law_254 : decode cL_law 254 = .ok (.iaload, 1) := by decide +kernel
theorem dL_law_255 : decode cL_law 255 = .ok (.aload_n 0, 1) := by decide +kernel
theorem dL_law_256 : decode cL_law 256 = .ok (.iload_n 3, 1) := by decide +kernel
theorem dL_law_257 : decode cL_law 257 = .ok (.iconst 2, 1) := by decide +kernel
theorem dL_law_258 : decode cL_law 258 = .ok (.iadd, 1) := by decide +kernel
theorem dL_law_259 : decode cL_law 259 = .ok (.iaload, 1) := by decide +kernel
theorem dL_law_260 : decode cL_law 260 = .ok (.invokevirtual 30, 3) := by decide +kernel
theorem dL_law_263 : decode cL_law 263 = .ok (.if_icmp .eq 475, 3) := by decide +kernel
theorem dL_law_266 : decode cL_law 266 = .ok (.iconst 0, 1) := by decide +kernel
theorem dL_law_267 : decode cL_law 267 = .ok (.ireturn, 1) := by decide +kernel
theorem dL_law_268 : decode cL_law 268 = .ok (.aload_n 1, 1) := by decide +kernel
theorem dL_law_269 : decode cL_law 269 = .ok (.aload_n 0, 1) := by decide +kernel
theorem dL_law_270 : decode cL_law 270 = .ok (.iload_n 3, 1) := by decide +kernel
theorem dL_law_271 : decode cL_law 271 = .ok (.iconst 1, 1) := by decide +kernel
theorem dL_law_272 : decode cL_law 272 = .ok (.iadd, 1) := by decide +kernel
theorem dL_law_273 : decode cL_law 273 = .ok (.iaload, 1) := by decide +kernel
theorem dL_law_274 : decode cL_law 274 = .ok (.aload_n 0, 1) := by decide +kernel
theorem dL_law_275 : decode cL_law 275 = .ok (.iload_n 3, 1) := by decide +kernel
theorem dL_law_276 : decode cL_law 276 = .ok (.iconst 2, 1) := by decide +kernel
theorem dL_law_277 : decode cL_law 277 = .ok (.iadd, 1) := by decide +kernel
theorem dL_law_278 : decode cL_law 278 = .ok (.iaload, 1) := by decide +kernel
theorem dL_law_279 : decode cL_law 279 = .ok (.invokevirtual 31, 3) := by decide +kernel
theorem dL_law_282 : decode cL_law 282 = .ok (.aload_n 2, 1) := by decide +kernel
theorem dL_law_283 : decode cL_law 283 = .ok (.aload_n 0, 1) := by decide +kernel
theorem dL_law_284 : decode cL_law 284 = .ok (.iload_n 3, 1) := by decide +kernel
theorem dL_law_285 : decode cL_law 285 = .ok (.iconst 1, 1) := by decide +kernel
theorem dL_law_286 : decode cL_law 286 = .ok (.iadd, 1) := by decide +kernel
theorem dL_law_287 : decode cL_law 287 = .ok (.iaload, 1) := by decide +kernel
theorem dL_law_288 : decode cL_law 288 = .ok (.aload_n 0, 1) := by decide +kernel
theorem dL_law_289 : decode cL_law 289 = .ok (.iload_n 3, 1) := by decide +kernel
theorem dL_law_290 : decode cL_law 290 = .ok (.iconst 2, 1) := by decide +kernel
theorem dL_law_291 : decode cL_law 291 = .ok (.iadd, 1) := by decide +kernel
theorem dL_law_292 : decode cL_law 292 = .ok (.iaload, 1) := by decide +kernel
theorem dL_law_293 : decode cL_law 293 = .ok (.invokevirtual 34, 3) := by decide +kernel
theorem dL_law_296 : decode cL_law 296 = .ok (.if_icmp .eq 442, 3) := by decide +kernel
theorem dL_law_299 : decode cL_law 299 = .ok (.iconst 0, 1) := by decide +kernel
theorem dL_law_300 : decode cL_law 300 = .ok (.ireturn, 1) := by decide +kernel
theorem dL_law_301 : decode cL_law 301 = .ok (.aload_n 1, 1) := by decide +kernel
theorem dL_law_302 : decode cL_law 302 = .ok (.aload_n 0, 1) := by decide +kernel
theorem dL_law_303 : decode cL_law 303 = .ok (.iload_n 3, 1) := by decide +kernel
theorem dL_law_304 : decode cL_law 304 = .ok (.iconst 1, 1) := by decide +kernel
theorem dL_law_305 : decode cL_law 305 = .ok (.iadd, 1) := by decide +kernel
theorem dL_law_306 : decode cL_law 306 = .ok (.iaload, 1) := by decide +kernel
theorem dL_law_307 : decode cL_law 307 = .ok (.aload_n 0, 1) := by decide +kernel
theorem dL_law_308 : decode cL_law 308 = .ok (.iload_n 3, 1) := by decide +kernel
theorem dL_law_309 : decode cL_law 309 = .ok (.iconst 2, 1) := by decide +kernel
theorem dL_law_310 : decode cL_law 310 = .ok (.iadd, 1) := by decide +kernel
theorem dL_law_311 : decode cL_law 311 = .ok (.iaload, 1) := by decide +kernel
theorem dL_law_312 : decode cL_law 312 = .ok (.aload_n 0, 1) := by decide +kernel
theorem dL_law_313 : decode cL_law 313 = .ok (.iload_n 3, 1) := by decide +kernel
theorem dL_law_314 : decode cL_law 314 = .ok (.iconst 3, 1) := by decide +kernel
theorem dL_law_315 : decode cL_law 315 = .ok (.iadd, 1) := by decide +kernel
theorem dL_law_316 : decode cL_law 316 = .ok (.iaload, 1) := by decide +kernel
theorem dL_law_317 : decode cL_law 317 = .ok (.ifCond .eq 7, 3) := by decide +kernel
theorem dL_law_320 : decode cL_law 320 = .ok (.iconst 1, 1) := by decide +kernel
theorem dL_law_321 : decode cL_law 321 = .ok (.goto 4, 3) := by decide +kernel
theorem dL_law_324 : decode cL_law 324 = .ok (.iconst 0, 1) := by decide +kernel
theorem dL_law_325 : decode cL_law 325 = .ok (.invokevirtual 35, 3) := by decide +kernel
theorem dL_law_328 : decode cL_law 328 = .ok (.aload_n 2, 1) := by decide +kernel
theorem dL_law_329 : decode cL_law 329 = .ok (.aload_n 0, 1) := by decide +kernel
theorem dL_law_330 : decode cL_law 330 = .ok (.iload_n 3, 1) := by decide +kernel
theorem dL_law_331 : decode cL_law 331 = .ok (.iconst 1, 1) := by decide +kernel
theorem dL_law_332 : decode cL_law 332 = .ok (.iadd, 1) := by decide +kernel
theorem dL_law_333 : decode cL_law 333 = .ok (.iaload, 1) := by decide +kernel
theorem dL_law_334 : decode cL_law 334 = .ok (.aload_n 0, 1) := by decide +kernel
theorem dL_law_335 : decode cL_law 335 = .ok (.iload_n 3, 1) := by decide +kernel
theorem dL_law_336 : decode cL_law 336 = .ok (.iconst 2, 1) := by decide +kernel
theorem dL_law_337 : decode cL_law 337 = .ok (.iadd, 1) := by decide +kernel
theorem dL_law_338 : decode cL_law 338 = .ok (.iaload, 1) := by decide +kernel
theorem dL_law_339 : decode cL_law 339 = .ok (.aload_n 0, 1) := by decide +kernel
theorem dL_law_340 : decode cL_law 340 = .ok (.iload_n 3, 1) := by decide +kernel
theorem dL_law_341 : decode cL_law 341 = .ok (.iconst 3, 1) := by decide +kernel
theorem dL_law_342 : decode cL_law 342 = .ok (.iadd, 1) := by decide +kernel
theorem dL_law_343 : decode cL_law 343 = .ok (.iaload, 1) := by decide +kernel
theorem dL_law_344 : decode cL_law 344 = .ok (.ifCond .eq 7, 3) := by decide +kernel
theorem dL_law_347 : decode cL_law 347 = .ok (.iconst 1, 1) := by decide +kernel
theorem dL_law_348 : decode cL_law 348 = .ok (.goto 4, 3) := by decide +kernel
theorem dL_law_351 : decode cL_law 351 = .ok (.iconst 0, 1) := by decide +kernel
theorem dL_law_352 : decode cL_law 352 = .ok (.invokevirtual 39, 3) := by decide +kernel
theorem dL_law_355 : decode cL_law 355 = .ok (.if_icmp .eq 383, 3) := by decide +kernel
theorem dL_law_358 : decode cL_law 358 = .ok (.iconst 0, 1) := by decide +kernel
theorem dL_law_359 : decode cL_law 359 = .ok (.ireturn, 1) := by decide +kernel
theorem dL_law_360 : decode cL_law 360 = .ok (.aload_n 1, 1) := by decide +kernel
theorem dL_law_361 : decode cL_law 361 = .ok (.aload_n 0, 1) := by decide +kernel
theorem dL_law_362 : decode cL_law 362 = .ok (.iload_n 3, 1) := by decide +kernel
theorem dL_law_363 : decode cL_law 363 = .ok (.iconst 1, 1) := by decide +kernel
theorem dL_law_364 : decode cL_law 364 = .ok (.iadd, 1) := by decide +kernel
theorem dL_law_365 : decode cL_law 365 = .ok (.iaload, 1) := by decide +kernel
theorem dL_law_366 : decode cL_law 366 = .ok (.aload_n 0, 1) := by decide +kernel
theorem dL_law_367 : decode cL_law 367 = .ok (.iload_n 3, 1) := by decide +kernel
theorem dL_law_368 : decode cL_law 368 = .ok (.iconst 2, 1) := by decide +kernel
theorem dL_law_369 : decode cL_law 369 = .ok (.iadd, 1) := by decide +kernel
theorem dL_law_370 : decode cL_law 370 = .ok (.iaload, 1) := by decide +kernel
theorem dL_law_371 : decode cL_law 371 = .ok (.invokevirtual 40, 3) := by decide +kernel
theorem dL_law_374 : decode cL_law 374 = .ok (.aload_n 2, 1) := by decide +kernel
theorem dL_law_375 : decode cL_law 375 = .ok (.aload_n 0, 1) := by decide +kernel
theorem dL_law_376 : decode cL_law 376 = .ok (.iload_n 3, 1) := by decide +kernel
theorem dL_law_377 : decode cL_law 377 = .ok (.iconst 1, 1) := by decide +kernel
theorem dL_law_378 : decode cL_law 378 = .ok (.iadd, 1) := by decide +kernel
theorem dL_law_379 : decode cL_law 379 = .ok (.iaload, 1) := by decide +kernel
theorem dL_law_380 : decode cL_law 380 = .ok (.aload_n 0, 1) := by decide +kernel
theorem dL_law_381 : decode cL_law 381 = .ok (.iload_n 3, 1) := by decide +kernel
theorem dL_law_382 : decode cL_law 382 = .ok (.iconst 2, 1) := by decide +kernel
theorem dL_law_383 : decode cL_law 383 = .ok (.iadd, 1) := by decide +kernel
theorem dL_law_384 : decode cL_law 384 = .ok (.iaload, 1) := by decide +kernel
theorem dL_law_385 : decode cL_law 385 = .ok (.invokevirtual 43, 3) := by decide +kernel
theorem dL_law_388 : decode cL_law 388 = .ok (.if_icmp .eq 350, 3) := by decide +kernel
theorem dL_law_391 : decode cL_law 391 = .ok (.iconst 0, 1) := by decide +kernel
theorem dL_law_392 : decode cL_law 392 = .ok (.ireturn, 1) := by decide +kernel
theorem dL_law_393 : decode cL_law 393 = .ok (.aload_n 1, 1) := by decide +kernel
theorem dL_law_394 : decode cL_law 394 = .ok (.aload_n 0, 1) := by decide +kernel
theorem dL_law_395 : decode cL_law 395 = .ok (.iload_n 3, 1) := by decide +kernel
theorem dL_law_396 : decode cL_law 396 = .ok (.iconst 1, 1) := by decide +kernel
theorem dL_law_397 : decode cL_law 397 = .ok (.iadd, 1) := by decide +kernel
theorem dL_law_398 : decode cL_law 398 = .ok (.iaload, 1) := by decide +kernel
theorem dL_law_399 : decode cL_law 399 = .ok (.invokevirtual 44, 3) := by decide +kernel
theorem dL_law_402 : decode cL_law 402 = .ok (.aload_n 2, 1) := by decide +kernel
theorem dL_law_403 : decode cL_law 403 = .ok (.aload_n 0, 1) := by decide +kernel
theorem dL_law_404 : decode cL_law 404 = .ok (.iload_n 3, 1) := by decide +kernel
theorem dL_law_405 : decode cL_law 405 = .ok (.iconst 1, 1) := by decide +kernel
theorem dL_law_406 : decode cL_law 406 = .ok (.iadd, 1) := by decide +kernel
theorem dL_law_407 : decode cL_law 407 = .ok (.iaload, 1) := by decide +kernel
theorem dL_law_408 : decode cL_law 408 = .ok (.invokevirtual 48, 3) := by decide +kernel
theorem dL_law_411 : decode cL_law 411 = .ok (.if_icmp .eq 327, 3) := by decide +kernel
theorem dL_law_414 : decode cL_law 414 = .ok (.iconst 0, 1) := by decide +kernel
theorem dL_law_415 : decode cL_law 415 = .ok (.ireturn, 1) := by decide +kernel
theorem dL_law_416 : decode cL_law 416 = .ok (.aload_n 1, 1) := by decide +kernel
theorem dL_law_417 : decode cL_law 417 = .ok (.aload_n 0, 1) := by decide +kernel
theorem dL_law_418 : decode cL_law 418 = .ok (.iload_n 3, 1) := by decide +kernel
theorem dL_law_419 : decode cL_law 419 = .ok (.iconst 1, 1) := by decide +kernel
theorem dL_law_420 : decode cL_law 420 = .ok (.iadd, 1) := by decide +kernel
theorem dL_law_421 : decode cL_law 421 = .ok (.iaload, 1) := by decide +kernel
theorem dL_law_422 : decode cL_law 422 = .ok (.invokevirtual 49, 3) := by decide +kernel
theorem dL_law_425 : decode cL_law 425 = .ok (.aload_n 2, 1) := by decide +kernel
theorem dL_law_426 : decode cL_law 426 = .ok (.aload_n 0, 1) := by decide +kernel
theorem dL_law_427 : decode cL_law 427 = .ok (.iload_n 3, 1) := by decide +kernel
theorem dL_law_428 : decode cL_law 428 = .ok (.iconst 1, 1) := by decide +kernel
theorem dL_law_429 : decode cL_law 429 = .ok (.iadd, 1) := by decide +kernel
theorem dL_law_430 : decode cL_law 430 = .ok (.iaload, 1) := by decide +kernel
theorem dL_law_431 : decode cL_law 431 = .ok (.invokevirtual 52, 3) := by decide +kernel
theorem dL_law_434 : decode cL_law 434 = .ok (.if_icmp .eq 304, 3) := by decide +kernel
theorem dL_law_437 : decode cL_law 437 = .ok (.iconst 0, 1) := by decide +kernel
theorem dL_law_438 : decode cL_law 438 = .ok (.ireturn, 1) := by decide +kernel
theorem dL_law_439 : decode cL_law 439 = .ok (.aload_n 1, 1) := by decide +kernel
theorem dL_law_440 : decode cL_law 440 = .ok (.aload_n 0, 1) := by decide +kernel
theorem dL_law_441 : decode cL_law 441 = .ok (.iload_n 3, 1) := by decide +kernel
theorem dL_law_442 : decode cL_law 442 = .ok (.iconst 1, 1) := by decide +kernel
theorem dL_law_443 : decode cL_law 443 = .ok (.iadd, 1) := by decide +kernel
theorem dL_law_444 : decode cL_law 444 = .ok (.iaload, 1) := by decide +kernel
theorem dL_law_445 : decode cL_law 445 = .ok (.invokevirtual 53, 3) := by decide +kernel
theorem dL_law_448 : decode cL_law 448 = .ok (.aload_n 2, 1) := by decide +kernel
theorem dL_law_449 : decode cL_law 449 = .ok (.aload_n 0, 1) := by decide +kernel
theorem dL_law_450 : decode cL_law 450 = .ok (.iload_n 3, 1) := by decide +kernel
theorem dL_law_451 : decode cL_law 451 = .ok (.iconst 1, 1) := by decide +kernel
theorem dL_law_452 : decode cL_law 452 = .ok (.iadd, 1) := by decide +kernel
theorem dL_law_453 : decode cL_law 453 = .ok (.iaload, 1) := by decide +kernel
theorem dL_law_454 : decode cL_law 454 = .ok (.invokevirtual 56, 3) := by decide +kernel
theorem dL_law_457 : decode cL_law 457 = .ok (.if_icmp .eq 281, 3) := by decide +kernel
theorem dL_law_460 : decode cL_law 460 = .ok (.iconst 0, 1) := by decide +kernel
theorem dL_law_461 : decode cL_law 461 = .ok (.ireturn, 1) := by decide +kernel
theorem dL_law_462 : decode cL_law 462 = .ok (.aload_n 1, 1) := by decide +kernel
theorem dL_law_463 : decode cL_law 463 = .ok (.aload_n 0, 1) := by decide +kernel
theorem dL_law_464 : decode cL_law 464 = .ok (.iload_n 3, 1) := by decide +kernel
theorem dL_law_465 : decode cL_law 465 = .ok (.iconst 1, 1) := by decide +kernel
theorem dL_law_466 : decode cL_law 466 = .ok (.iadd, 1) := by decide +kernel
theorem dL_law_467 : decode cL_law 467 = .ok (.iaload, 1) := by decide +kernel
theorem dL_law_468 : decode cL_law 468 = .ok (.aload_n 0, 1) := by decide +kernel
theorem dL_law_469 : decode cL_law 469 = .ok (.iload_n 3, 1) := by decide +kernel
theorem dL_law_470 : decode cL_law 470 = .ok (.iconst 2, 1) := by decide +kernel
theorem dL_law_471 : decode cL_law 471 = .ok (.iadd, 1) := by decide +kernel
theorem dL_law_472 : decode cL_law 472 = .ok (.iaload, 1) := by decide +kernel
theorem dL_law_473 : decode cL_law 473 = .ok (.invokevirtual 57, 3) := by decide +kernel
theorem dL_law_476 : decode cL_law 476 = .ok (.aload_n 2, 1) := by decide +kernel
theorem dL_law_477 : decode cL_law 477 = .ok (.aload_n 0, 1) := by decide +kernel
theorem dL_law_478 : decode cL_law 478 = .ok (.iload_n 3, 1) := by decide +kernel
theorem dL_law_479 : decode cL_law 479 = .ok (.iconst 1, 1) := by decide +kernel
theorem dL_law_480 : decode cL_law 480 = .ok (.iadd, 1) := by decide +kernel
theorem dL_law_481 : decode cL_law 481 = .ok (.iaload, 1) := by decide +kernel
theorem dL_law_482 : decode cL_law 482 = .ok (.aload_n 0, 1) := by decide +kernel
theorem dL_law_483 : decode cL_law 483 = .ok (.iload_n 3, 1) := by decide +kernel
theorem dL_law_484 : decode cL_law 484 = .ok (.iconst 2, 1) := by decide +kernel
theorem dL_law_485 : decode cL_law 485 = .ok (.iadd, 1) := by decide +kernel
theorem dL_law_486 : decode cL_law 486 = .ok (.iaload, 1) := by decide +kernel
theorem dL_law_487 : decode cL_law 487 = .ok (.invokevirtual 60, 3) := by decide +kernel
theorem dL_law_490 : decode cL_law 490 = .ok (.if_icmp .eq 248, 3) := by decide +kernel
theorem dL_law_493 : decode cL_law 493 = .ok (.iconst 0, 1) := by decide +kernel
theorem dL_law_494 : decode cL_law 494 = .ok (.ireturn, 1) := by decide +kernel
theorem dL_law_495 : decode cL_law 495 = .ok (.aload_n 1, 1) := by decide +kernel
theorem dL_law_496 : decode cL_law 496 = .ok (.invokevirtual 61, 3) := by decide +kernel
theorem dL_law_499 : decode cL_law 499 = .ok (.aload_n 2, 1) := by decide +kernel
theorem dL_law_500 : decode cL_law 500 = .ok (.invokevirtual 65, 3) := by decide +kernel
theorem dL_law_503 : decode cL_law 503 = .ok (.if_icmp .eq 235, 3) := by decide +kernel
theorem dL_law_506 : decode cL_law 506 = .ok (.iconst 0, 1) := by decide +kernel
theorem dL_law_507 : decode cL_law 507 = .ok (.ireturn, 1) := by decide +kernel
theorem dL_law_508 : decode cL_law 508 = .ok (.aload_n 1, 1) := by decide +kernel
theorem dL_law_509 : decode cL_law 509 = .ok (.invokevirtual 66, 3) := by decide +kernel
theorem dL_law_512 : decode cL_law 512 = .ok (.aload_n 2, 1) := by decide +kernel
theorem dL_law_513 : decode cL_law 513 = .ok (.invokevirtual 69, 3) := by decide +kernel
theorem dL_law_516 : decode cL_law 516 = .ok (.if_icmp .eq 222, 3) := by decide +kernel
theorem dL_law_519 : decode cL_law 519 = .ok (.iconst 0, 1) := by decide +kernel
theorem dL_law_520 : decode cL_law 520 = .ok (.ireturn, 1) := by decide +kernel
theorem dL_law_521 : decode cL_law 521 = .ok (.aload_n 1, 1) := by decide +kernel
theorem dL_law_522 : decode cL_law 522 = .ok (.invokevirtual 70, 3) := by decide +kernel
theorem dL_law_525 : decode cL_law 525 = .ok (.aload_n 2, 1) := by decide +kernel
theorem dL_law_526 : decode cL_law 526 = .ok (.invokevirtual 73, 3) := by decide +kernel
theorem dL_law_529 : decode cL_law 529 = .ok (.if_icmp .eq 209, 3) := by decide +kernel
theorem dL_law_532 : decode cL_law 532 = .ok (.iconst 0, 1) := by decide +kernel
theorem dL_law_533 : decode cL_law 533 = .ok (.ireturn, 1) := by decide +kernel
theorem dL_law_534 : decode cL_law 534 = .ok (.aload_n 1, 1) := by decide +kernel
theorem dL_law_535 : decode cL_law 535 = .ok (.aload_n 0, 1) := by decide +kernel
theorem dL_law_536 : decode cL_law 536 = .ok (.iload_n 3, 1) := by decide +kernel
theorem dL_law_537 : decode cL_law 537 = .ok (.iconst 1, 1) := by decide +kernel
theorem dL_law_538 : decode cL_law 538 = .ok (.iadd, 1) := by decide +kernel
theorem dL_law_539 : decode cL_law 539 = .ok (.iaload, 1) := by decide +kernel
theorem dL_law_540 : decode cL_law 540 = .ok (.invokevirtual 74, 3) := by decide +kernel
theorem dL_law_543 : decode cL_law 543 = .ok (.aload_n 2, 1) := by decide +kernel
theorem dL_law_544 : decode cL_law 544 = .ok (.aload_n 0, 1) := by decide +kernel
theorem dL_law_545 : decode cL_law 545 = .ok (.iload_n 3, 1) := by decide +kernel
theorem dL_law_546 : decode cL_law 546 = .ok (.iconst 1, 1) := by decide +kernel
theorem dL_law_547 : decode cL_law 547 = .ok (.iadd, 1) := by decide +kernel
theorem dL_law_548 : decode cL_law 548 = .ok (.iaload, 1) := by decide +kernel
theorem dL_law_549 : decode cL_law 549 = .ok (.invokevirtual 77, 3) := by decide +kernel
theorem dL_law_552 : decode cL_law 552 = .ok (.if_icmp .eq 186, 3) := by decide +kernel
theorem dL_law_555 : decode cL_law 555 = .ok (.iconst 0, 1) := by decide +kernel
theorem dL_law_556 : decode cL_law 556 = .ok (.ireturn, 1) := by decide +kernel
theorem dL_law_557 : decode cL_law 557 = .ok (.aload_n 1, 1) := by decide +kernel
theorem dL_law_558 : decode cL_law 558 = .ok (.aload_n 0, 1) := by decide +kernel
theorem dL_law_559 : decode cL_law 559 = .ok (.iload_n 3, 1) := by decide +kernel
theorem dL_law_560 : decode cL_law 560 = .ok (.iconst 1, 1) := by decide +kernel
theorem dL_law_561 : decode cL_law 561 = .ok (.iadd, 1) := by decide +kernel
theorem dL_law_562 : decode cL_law 562 = .ok (.iaload, 1) := by decide +kernel
theorem dL_law_563 : decode cL_law 563 = .ok (.invokevirtual 78, 3) := by decide +kernel
theorem dL_law_566 : decode cL_law 566 = .ok (.aload_n 2, 1) := by decide +kernel
theorem dL_law_567 : decode cL_law 567 = .ok (.aload_n 0, 1) := by decide +kernel
theorem dL_law_568 : decode cL_law 568 = .ok (.iload_n 3, 1) := by decide +kernel
theorem dL_law_569 : decode cL_law 569 = .ok (.iconst 1, 1) := by decide +kernel
theorem dL_law_570 : decode cL_law 570 = .ok (.iadd, 1) := by decide +kernel
theorem dL_law_571 : decode cL_law 571 = .ok (.iaload, 1) := by decide +kernel
theorem dL_law_572 : decode cL_law 572 = .ok (.invokevirtual 81, 3) := by decide +kernel
theorem dL_law_575 : decode cL_law 575 = .ok (.if_icmp .eq 163, 3) := by decide +kernel
theorem dL_law_578 : decode cL_law 578 = .ok (.iconst 0, 1) := by decide +kernel
theorem dL_law_579 : decode cL_law 579 = .ok (.ireturn, 1) := by decide +kernel
theorem dL_law_580 : decode cL_law 580 = .ok (.aload_n 1, 1) := by decide +kernel
theorem dL_law_581 : decode cL_law 581 = .ok (.aload_n 0, 1) := by decide +kernel
theorem dL_law_582 : decode cL_law 582 = .ok (.iload_n 3, 1) := by decide +kernel
theorem dL_law_583 : decode cL_law 583 = .ok (.iconst 1, 1) := by decide +kernel
theorem dL_law_584 : decode cL_law 584 = .ok (.iadd, 1) := by decide +kernel
theorem dL_law_585 : decode cL_law 585 = .ok (.iaload, 1) := by decide +kernel
theorem dL_law_586 : decode cL_law 586 = .ok (.invokevirtual 82, 3) := by decide +kernel
theorem dL_law_589 : decode cL_law 589 = .ok (.aload_n 2, 1) := by decide +kernel
theorem dL_law_590 : decode cL_law 590 = .ok (.aload_n 0, 1) := by decide +kernel
theorem dL_law_591 : decode cL_law 591 = .ok (.iload_n 3, 1) := by decide +kernel
theorem dL_law_592 : decode cL_law 592 = .ok (.iconst 1, 1) := by decide +kernel
theorem dL_law_593 : decode cL_law 593 = .ok (.iadd, 1) := by decide +kernel
theorem dL_law_594 : decode cL_law 594 = .ok (.iaload, 1) := by decide +kernel
theorem dL_law_595 : decode cL_law 595 = .ok (.invokevirtual 85, 3) := by decide +kernel
theorem dL_law_598 : decode cL_law 598 = .ok (.if_icmp .eq 140, 3) := by decide +kernel
theorem dL_law_601 : decode cL_law 601 = .ok (.iconst 0, 1) := by decide +kernel
theorem dL_law_602 : decode cL_law 602 = .ok (.ireturn, 1) := by decide +kernel
theorem dL_law_603 : decode cL_law 603 = .ok (.aload_n 1, 1) := by decide +kernel
theorem dL_law_604 : decode cL_law 604 = .ok (.aload_n 0, 1) := by decide +kernel
theorem dL_law_605 : decode cL_law 605 = .ok (.iload_n 3, 1) := by decide +kernel
theorem dL_law_606 : decode cL_law 606 = .ok (.iconst 1, 1) := by decide +kernel
theorem dL_law_607 : decode cL_law 607 = .ok (.iadd, 1) := by decide +kernel
theorem dL_law_608 : decode cL_law 608 = .ok (.iaload, 1) := by decide +kernel
theorem dL_law_609 : decode cL_law 609 = .ok (.invokevirtual 86, 3) := by decide +kernel
theorem dL_law_612 : decode cL_law 612 = .ok (.aload_n 2, 1) := by decide +kernel
theorem dL_law_613 : decode cL_law 613 = .ok (.aload_n 0, 1) := by decide +kernel
theorem dL_law_614 : decode cL_law 614 = .ok (.iload_n 3, 1) := by decide +kernel
theorem dL_law_615 : decode cL_law 615 = .ok (.iconst 1, 1) := by decide +kernel
theorem dL_law_616 : decode cL_law 616 = .ok (.iadd, 1) := by decide +kernel
theorem dL_law_617 : decode cL_law 617 = .ok (.iaload, 1) := by decide +kernel
theorem dL_law_618 : decode cL_law 618 = .ok (.invokevirtual 89, 3) := by decide +kernel
theorem dL_law_621 : decode cL_law 621 = .ok (.if_icmp .eq 117, 3) := by decide +kernel
theorem dL_law_624 : decode cL_law 624 = .ok (.iconst 0, 1) := by decide +kernel
theorem dL_law_625 : decode cL_law 625 = .ok (.ireturn, 1) := by decide +kernel
theorem dL_law_626 : decode cL_law 626 = .ok (.aload_n 1, 1) := by decide +kernel
theorem dL_law_627 : decode cL_law 627 = .ok (.invokevirtual 90, 3) := by decide +kernel
theorem dL_law_630 : decode cL_law 630 = .ok (.aload_n 2, 1) := by decide +kernel
theorem dL_law_631 : decode cL_law 631 = .ok (.invokevirtual 93, 3) := by decide +kernel
theorem dL_law_634 : decode cL_law 634 = .ok (.if_icmp .eq 104, 3) := by decide +kernel
theorem dL_law_637 : decode cL_law 637 = .ok (.iconst 0, 1) := by decide +kernel
theorem dL_law_638 : decode cL_law 638 = .ok (.ireturn, 1) := by decide +kernel
theorem dL_law_639 : decode cL_law 639 = .ok (.aload_n 1, 1) := by decide +kernel
theorem dL_law_640 : decode cL_law 640 = .ok (.aload_n 0, 1) := by decide +kernel
theorem dL_law_641 : decode cL_law 641 = .ok (.iload_n 3, 1) := by decide +kernel
theorem dL_law_642 : decode cL_law 642 = .ok (.iconst 1, 1) := by decide +kernel
theorem dL_law_643 : decode cL_law 643 = .ok (.iadd, 1) := by decide +kernel
theorem dL_law_644 : decode cL_law 644 = .ok (.iaload, 1) := by decide +kernel
theorem dL_law_645 : decode cL_law 645 = .ok (.aload_n 0, 1) := by decide +kernel
theorem dL_law_646 : decode cL_law 646 = .ok (.iload_n 3, 1) := by decide +kernel
theorem dL_law_647 : decode cL_law 647 = .ok (.iconst 2, 1) := by decide +kernel
theorem dL_law_648 : decode cL_law 648 = .ok (.iadd, 1) := by decide +kernel
theorem dL_law_649 : decode cL_law 649 = .ok (.iaload, 1) := by decide +kernel
theorem dL_law_650 : decode cL_law 650 = .ok (.aload_n 0, 1) := by decide +kernel
theorem dL_law_651 : decode cL_law 651 = .ok (.iload_n 3, 1) := by decide +kernel
theorem dL_law_652 : decode cL_law 652 = .ok (.iconst 3, 1) := by decide +kernel
theorem dL_law_653 : decode cL_law 653 = .ok (.iadd, 1) := by decide +kernel
theorem dL_law_654 : decode cL_law 654 = .ok (.iaload, 1) := by decide +kernel
theorem dL_law_655 : decode cL_law 655 = .ok (.aload_n 0, 1) := by decide +kernel
theorem dL_law_656 : decode cL_law 656 = .ok (.iload_n 3, 1) := by decide +kernel
theorem dL_law_657 : decode cL_law 657 = .ok (.iconst 4, 1) := by decide +kernel
theorem dL_law_658 : decode cL_law 658 = .ok (.iadd, 1) := by decide +kernel
theorem dL_law_659 : decode cL_law 659 = .ok (.iaload, 1) := by decide +kernel
theorem dL_law_660 : decode cL_law 660 = .ok (.invokevirtual 94, 3) := by decide +kernel
theorem dL_law_663 : decode cL_law 663 = .ok (.aload_n 2, 1) := by decide +kernel
theorem dL_law_664 : decode cL_law 664 = .ok (.aload_n 0, 1) := by decide +kernel
theorem dL_law_665 : decode cL_law 665 = .ok (.iload_n 3, 1) := by decide +kernel
theorem dL_law_666 : decode cL_law 666 = .ok (.iconst 1, 1) := by decide +kernel
theorem dL_law_667 : decode cL_law 667 = .ok (.iadd, 1) := by decide +kernel
theorem dL_law_668 : decode cL_law 668 = .ok (.iaload, 1) := by decide +kernel
theorem dL_law_669 : decode cL_law 669 = .ok (.aload_n 0, 1) := by decide +kernel
theorem dL_law_670 : decode cL_law 670 = .ok (.iload_n 3, 1) := by decide +kernel
theorem dL_law_671 : decode cL_law 671 = .ok (.iconst 2, 1) := by decide +kernel
theorem dL_law_672 : decode cL_law 672 = .ok (.iadd, 1) := by decide +kernel
theorem dL_law_673 : decode cL_law 673 = .ok (.iaload, 1) := by decide +kernel
theorem dL_law_674 : decode cL_law 674 = .ok (.aload_n 0, 1) := by decide +kernel
theorem dL_law_675 : decode cL_law 675 = .ok (.iload_n 3, 1) := by decide +kernel
theorem dL_law_676 : decode cL_law 676 = .ok (.iconst 3, 1) := by decide +kernel
theorem dL_law_677 : decode cL_law 677 = .ok (.iadd, 1) := by decide +kernel
theorem dL_law_678 : decode cL_law 678 = .ok (.iaload, 1) := by decide +kernel
theorem dL_law_679 : decode cL_law 679 = .ok (.aload_n 0, 1) := by decide +kernel
theorem dL_law_680 : decode cL_law 680 = .ok (.iload_n 3, 1) := by decide +kernel
theorem dL_law_681 : decode cL_law 681 = .ok (.iconst 4, 1) := by decide +kernel
theorem dL_law_682 : decode cL_law 682 = .ok (.iadd, 1) := by decide +kernel
theorem dL_law_683 : decode cL_law 683 = .ok (.iaload, 1) := by decide +kernel
theorem dL_law_684 : decode cL_law 684 = .ok (.invokevirtual 98, 3) := by decide +kernel
theorem dL_law_687 : decode cL_law 687 = .ok (.if_icmp .eq 51, 3) := by decide +kernel
theorem dL_law_690 : decode cL_law 690 = .ok (.iconst 0, 1) := by decide +kernel
theorem dL_law_691 : decode cL_law 691 = .ok (.ireturn, 1) := by decide +kernel
theorem dL_law_692 : decode cL_law 692 = .ok (.aload_n 1, 1) := by decide +kernel
theorem dL_law_693 : decode cL_law 693 = .ok (.aload_n 0, 1) := by decide +kernel
theorem dL_law_694 : decode cL_law 694 = .ok (.iload_n 3, 1) := by decide +kernel
theorem dL_law_695 : decode cL_law 695 = .ok (.iconst 1, 1) := by decide +kernel
theorem dL_law_696 : decode cL_law 696 = .ok (.iadd, 1) := by decide +kernel
theorem dL_law_697 : decode cL_law 697 = .ok (.iaload, 1) := by decide +kernel
theorem dL_law_698 : decode cL_law 698 = .ok (.invokevirtual 99, 3) := by decide +kernel
theorem dL_law_701 : decode cL_law 701 = .ok (.aload_n 2, 1) := by decide +kernel
theorem dL_law_702 : decode cL_law 702 = .ok (.aload_n 0, 1) := by decide +kernel
theorem dL_law_703 : decode cL_law 703 = .ok (.iload_n 3, 1) := by decide +kernel
theorem dL_law_704 : decode cL_law 704 = .ok (.iconst 1, 1) := by decide +kernel
theorem dL_law_705 : decode cL_law 705 = .ok (.iadd, 1) := by decide +kernel
theorem dL_law_706 : decode cL_law 706 = .ok (.iaload, 1) := by decide +kernel
theorem dL_law_707 : decode cL_law 707 = .ok (.invokevirtual 102, 3) := by decide +kernel
theorem dL_law_710 : decode cL_law 710 = .ok (.if_icmp .eq 28, 3) := by decide +kernel
theorem dL_law_713 : decode cL_law 713 = .ok (.iconst 0, 1) := by decide +kernel
theorem dL_law_714 : decode cL_law 714 = .ok (.ireturn, 1) := by decide +kernel
theorem dL_law_715 : decode cL_law 715 = .ok (.aload_n 1, 1) := by decide +kernel
theorem dL_law_716 : decode cL_law 716 = .ok (.aload_n 0, 1) := by decide +kernel
theorem dL_law_717 : decode cL_law 717 = .ok (.iload_n 3, 1) := by decide +kernel
theorem dL_law_718 : decode cL_law 718 = .ok (.iconst 1, 1) := by decide +kernel
theorem dL_law_719 : decode cL_law 719 = .ok (.iadd, 1) := by decide +kernel
theorem dL_law_720 : decode cL_law 720 = .ok (.iaload, 1) := by decide +kernel
theorem dL_law_721 : decode cL_law 721 = .ok (.invokevirtual 103, 3) := by decide +kernel
theorem dL_law_724 : decode cL_law 724 = .ok (.aload_n 2, 1) := by decide +kernel
theorem dL_law_725 : decode cL_law 725 = .ok (.aload_n 0, 1) := by decide +kernel
theorem dL_law_726 : decode cL_law 726 = .ok (.iload_n 3, 1) := by decide +kernel
theorem dL_law_727 : decode cL_law 727 = .ok (.iconst 1, 1) := by decide +kernel
theorem dL_law_728 : decode cL_law 728 = .ok (.iadd, 1) := by decide +kernel
theorem dL_law_729 : decode cL_law 729 = .ok (.iaload, 1) := by decide +kernel
theorem dL_law_730 : decode cL_law 730 = .ok (.invokevirtual 106, 3) := by decide +kernel
theorem dL_law_733 : decode cL_law 733 = .ok (.if_icmp .eq 5, 3) := by decide +kernel
theorem dL_law_736 : decode cL_law 736 = .ok (.iconst 0, 1) := by decide +kernel
theorem dL_law_737 : decode cL_law 737 = .ok (.ireturn, 1) := by decide +kernel
theorem dL_law_738 : decode cL_law 738 = .ok (.iinc 3 5, 3) := by decide +kernel
theorem dL_law_741 : decode cL_law 741 = .ok (.goto (-723), 3) := by decide +kernel
theorem dL_law_744 : decode cL_law 744 = .ok (.iconst 1, 1) := by decide +kernel
theorem dL_law_745 : decode cL_law 745 = .ok (.ireturn, 1) := by decide +kernel
