theorem dX0_init_0 : decode cX0_init 0 = .ok (.aload_n 0, 1) := by decide +kernel
theorem dX0_init_1 : decode cX0_init 1 = .ok (.invokespecial 3, 3) := by decide +kernel
theorem dX0_init_4 : decode cX0_init 4 = .ok (.aload_n 0, 1) := by decide +kernel
theorem dX0_init_5 : decode cX0_init 5 = .ok (.bipush 24, 2) := by decide +kernel
theorem dX0_init_7 : decode cX0_init 7 = .ok (.newarray .int, 2) := by decide +kernel
theorem dX0_init_9 : decode cX0_init 9 = .ok (.putfield 9, 3) := by decide +kernel
theorem dX0_init_12 : decode cX0_init 12 = .ok (.aload_n 0, 1) := by decide +kernel
theorem dX0_init_13 : decode cX0_init 13 = .ok (.iconst 1, 1) := by decide +kernel
theorem dX0_init_14 : decode cX0_init 14 = .ok (.putfield 15, 3) := by decide +kernel
theorem dX0_init_17 : decode cX0_init 17 = .ok (.aload_n 0, 1) := by decide +kernel
theorem dX0_init_18 : decode cX0_init 18 = .ok (.bipush 8, 2) := by decide +kernel
theorem dX0_init_20 : decode cX0_init 20 = .ok (.putfield 19, 3) := by decide +kernel
theorem dX0_init_23 : decode cX0_init 23 = .ok (.return_, 1) := by decide +kernel
theorem dX0_becomeLike_0 : decode cX0_becomeLike 0 = .ok (.aload_n 1, 1) := by decide +kernel
theorem dX0_becomeLike_1 : decode cX0_becomeLike 1 = .ok (.getfield 9, 3) := by decide +kernel
theorem dX0_becomeLike_4 : decode cX0_becomeLike 4 = .ok (.iconst 0, 1) := by decide +kernel
theorem dX0_becomeLike_5 : decode cX0_becomeLike 5 = .ok (.aload_n 0, 1) := by decide +kernel
theorem dX0_becomeLike_6 : decode cX0_becomeLike 6 = .ok (.getfield 9, 3) := by decide +kernel
theorem dX0_becomeLike_9 : decode cX0_becomeLike 9 = .ok (.iconst 0, 1) := by decide +kernel
theorem dX0_becomeLike_10 : decode cX0_becomeLike 10 = .ok (.aload_n 1, 1) := by decide +kernel
theorem dX0_becomeLike_11 : decode cX0_becomeLike 11 = .ok (.getfield 9, 3) := by decide +kernel
theorem dX0_becomeLike_14 : decode cX0_becomeLike 14 = .ok (.arraylength, 1) := by decide +kernel
theorem dX0_becomeLike_15 : decode cX0_becomeLike 15 = .ok (.aload_n 0, 1) := by decide +kernel
theorem dX0_becomeLike_16 : decode cX0_becomeLike 16 = .ok (.getfield 9, 3) := by decide +kernel
theorem dX0_becomeLike_19 : decode cX0_becomeLike 19 = .ok (.arraylength, 1) := by decide +kernel
theorem dX0_becomeLike_20 : decode cX0_becomeLike 20 = .ok (.invokestatic 22, 3) := by decide +kernel
theorem dX0_becomeLike_23 : decode cX0_becomeLike 23 = .ok (.invokestatic 28, 3) := by decide +kernel
theorem dX0_becomeLike_26 : decode cX0_becomeLike 26 = .ok (.aload_n 0, 1) := by decide +kernel
theorem dX0_becomeLike_27 : decode cX0_becomeLike 27 = .ok (.aload_n 1, 1) := by decide +kernel
theorem dX0_becomeLike_28 : decode cX0_becomeLike 28 = .ok (.getfield 34, 3) := by decide +kernel
theorem dX0_becomeLike_31 : decode cX0_becomeLike 31 = .ok (.putfield 34, 3) := by decide +kernel
theorem dX0_becomeLike_34 : decode cX0_becomeLike 34 = .ok (.aload_n 0, 1) := by decide +kernel
theorem dX0_becomeLike_35 : decode cX0_becomeLike 35 = .ok (.aload_n 1, 1) := by decide +kernel
theorem dX0_becomeLike_36 : decode cX0_becomeLike 36 = .ok (.getfield 15, 3) := by decide +kernel
theorem dX0_becomeLike_39 : decode cX0_becomeLike 39 = .ok (.putfield 15, 3) := by decide +kernel
theorem dX0_becomeLike_42 : decode cX0_becomeLike 42 = .ok (.aload_n 0, 1) := by decide +kernel
theorem dX0_becomeLike_43 : decode cX0_becomeLike 43 = .ok (.aload_n 1, 1) := by decide +kernel
theorem dX0_becomeLike_44 : decode cX0_becomeLike 44 = .ok (.getfield 19, 3) := by decide +kernel
theorem dX0_becomeLike_47 : decode cX0_becomeLike 47 = .ok (.putfield 19, 3) := by decide +kernel
theorem dX0_becomeLike_50 : decode cX0_becomeLike 50 = .ok (.aload_n 0, 1) := by decide +kernel
theorem dX0_becomeLike_51 : decode cX0_becomeLike 51 = .ok (.aload_n 1, 1) := by decide +kernel
theorem dX0_becomeLike_52 : decode cX0_becomeLike 52 = .ok (.getfield 37, 3) := by decide +kernel
theorem dX0_becomeLike_55 : decode cX0_becomeLike 55 = .ok (.putfield 37, 3) := by decide +kernel
theorem dX0_becomeLike_58 : decode cX0_becomeLike 58 = .ok (.aload_n 0, 1) := by decide +kernel
theorem dX0_becomeLike_59 : decode cX0_becomeLike 59 = .ok (.aload_n 1, 1) := by decide +kernel
theorem dX0_becomeLike_60 : decode cX0_becomeLike 60 = .ok (.getfield 40, 3) := by decide +kernel
theorem dX0_becomeLike_63 : decode cX0_becomeLike 63 = .ok (.putfield 40, 3) := by decide +kernel
theorem dX0_becomeLike_66 : decode cX0_becomeLike 66 = .ok (.return_, 1) := by decide +kernel
theorem dX0_has_0 : decode cX0_has 0 = .ok (.iload_n 1, 1) := by decide +kernel
theorem dX0_has_1 : decode cX0_has 1 = .ok (.ifCond .lt 15, 3) := by decide +kernel
theorem dX0_has_4 : decode cX0_has 4 = .ok (.iload_n 1, 1) := by decide +kernel
theorem dX0_has_5 : decode cX0_has 5 = .ok (.aload_n 0, 1) := by decide +kernel
theorem dX0_has_6 : decode cX0_has 6 = .ok (.getfield 34, 3) := by decide +kernel
theorem dX0_has_9 : decode cX0_has 9 = .ok (.if_icmp .ge 7, 3) := by decide +kernel
theorem dX0_has_12 : decode cX0_has 12 = .ok (.iconst 1, 1) := by decide +kernel
theorem dX0_has_13 : decode cX0_has 13 = .ok (.goto 4, 3) := by decide +kernel
theorem dX0_has_16 : decode cX0_has 16 = .ok (.iconst 0, 1) := by decide +kernel
theorem dX0_has_17 : decode cX0_has 17 = .ok (.ireturn, 1) := by decide +kernel
theorem dX0_get_0 : decode cX0_get 0 = .ok (.iconst 4, 1) := by decide +kernel
theorem dX0_get_1 : decode cX0_get 1 = .ok (.iload_n 1, 1) := by decide +kernel
theorem dX0_get_2 : decode cX0_get 2 = .ok (.imul, 1) := by decide +kernel
theorem dX0_get_3 : decode cX0_get 3 = .ok (.iload_n 2, 1) := by decide +kernel
theorem dX0_get_4 : decode cX0_get 4 = .ok (.iadd, 1) := by decide +kernel
theorem dX0_get_5 : decode cX0_get 5 = .ok (.istore_n 3, 1) := by decide +kernel
theorem dX0_get_6 : decode cX0_get 6 = .ok (.iload_n 3, 1) := by decide +kernel
theorem dX0_get_7 : decode cX0_get 7 = .ok (.ifCond .lt 21, 3) := by decide +kernel
theorem dX0_get_10 : decode cX0_get 10 = .ok (.iload_n 3, 1) := by decide +kernel
theorem dX0_get_11 : decode cX0_get 11 = .ok (.aload_n 0, 1) := by decide +kernel
theorem dX0_get_12 : decode cX0_get 12 = .ok (.getfield 9, 3) := by decide +kernel
theorem dX0_get_15 : decode cX0_get 15 = .ok (.arraylength, 1) := by decide +kernel
theorem dX0_get_16 : decode cX0_get 16 = .ok (.if_icmp .ge 12, 3) := by decide +kernel
theorem dX0_get_19 : decode cX0_get 19 = .ok (.aload_n 0, 1) := by decide +kernel
theorem dX0_get_20 : decode cX0_get 20 = .ok (.getfield 9, 3) := by decide +kernel
theorem dX0_get_23 : decode cX0_get 23 = .ok (.iload_n 3, 1) := by decide +kernel
theorem dX0_get_24 : decode cX0_get 24 = .ok (.iaload, 1) := by decide +kernel
theorem dX0_get_25 : decode cX0_get 25 = .ok (.goto 4, 3) := by decide +kernel
theorem dX0_get_28 : decode cX0_get 28 = .ok (.iconst 0, 1) := by decide +kernel
theorem dX0_get_29 : decode cX0_get 29 = .ok (.ireturn, 1) := by decide +kernel
theorem dX0_set_0 : decode cX0_set 0 = .ok (.iconst 4, 1) := by decide +kernel
theorem dX0_set_1 : decode cX0_set 1 = .ok (.iload_n 1, 1) := by decide +kernel
theorem dX0_set_2 : decode cX0_set 2 = .ok (.imul, 1) := by decide +kernel
theorem dX0_set_3 : decode cX0_set 3 = .ok (.iload_n 2, 1) := by decide +kernel
theorem dX0_set_4 : decode cX0_set 4 = .ok (.iadd, 1) := by decide +kernel
theorem dX0_set_5 : decode cX0_set 5 = .ok (.istore 4, 2) := by decide +kernel
theorem dX0_set_7 : decode cX0_set 7 = .ok (.iload 4, 2) := by decide +kernel
theorem dX0_set_9 : decode cX0_set 9 = .ok (.ifCond .lt 21, 3) := by decide +kernel
theorem dX0_set_12 : decode cX0_set 12 = .ok (.iload 4, 2) := by decide +kernel
theorem dX0_set_14 : decode cX0_set 14 = .ok (.aload_n 0, 1) := by decide +kernel
theorem dX0_set_15 : decode cX0_set 15 = .ok (.getfield 9, 3) := by decide +kernel
theorem dX0_set_18 : decode cX0_set 18 = .ok (.arraylength, 1) := by decide +kernel
theorem dX0_set_19 : decode cX0_set 19 = .ok (.if_icmp .ge 11, 3) := by decide +kernel
theorem dX0_set_22 : decode cX0_set 22 = .ok (.aload_n 0, 1) := by decide +kernel
theorem dX0_set_23 : decode cX0_set 23 = .ok (.getfield 9, 3) := by decide +kernel
theorem dX0_set_26 : decode cX0_set 26 = .ok (.iload 4, 2) := by decide +kernel
theorem dX0_set_28 : decode cX0_set 28 = .ok (.iload_n 3, 1) := by decide +kernel
theorem dX0_set_29 : decode cX0_set 29 = .ok (.iastore, 1) := by decide +kernel
theorem dX0_set_30 : decode cX0_set 30 = .ok (.return_, 1) := by decide +kernel
theorem dX0_widen_0 : decode cX0_widen 0 = .ok (.aload_n 0, 1) := by decide +kernel
theorem dX0_widen_1 : decode cX0_widen 1 = .ok (.iload_n 1, 1) := by decide +kernel
theorem dX0_widen_2 : decode cX0_widen 2 = .ok (.iconst 1, 1) := by decide +kernel
theorem dX0_widen_3 : decode cX0_widen 3 = .ok (.iconst 1, 1) := by decide +kernel
theorem dX0_widen_4 : decode cX0_widen 4 = .ok (.bipush 99, 2) := by decide +kernel
theorem dX0_widen_6 : decode cX0_widen 6 = .ok (.aload_n 0, 1) := by decide +kernel
theorem dX0_widen_7 : decode cX0_widen 7 = .ok (.iload_n 1, 1) := by decide +kernel
theorem dX0_widen_8 : decode cX0_widen 8 = .ok (.iconst 1, 1) := by decide +kernel
theorem dX0_widen_9 : decode cX0_widen 9 = .ok (.invokevirtual 43, 3) := by decide +kernel
theorem dX0_widen_12 : decode cX0_widen 12 = .ok (.iload_n 2, 1) := by decide +kernel
theorem dX0_widen_13 : decode cX0_widen 13 = .ok (.iadd, 1) := by decide +kernel
theorem dX0_widen_14 : decode cX0_widen 14 = .ok (.invokestatic 22, 3) := by decide +kernel
theorem dX0_widen_17 : decode cX0_widen 17 = .ok (.invokestatic 46, 3) := by decide +kernel
theorem dX0_widen_20 : decode cX0_widen 20 = .ok (.invokevirtual 49, 3) := by decide +kernel
theorem dX0_widen_23 : decode cX0_widen 23 = .ok (.return_, 1) := by decide +kernel
theorem dX0_keepMore_0 : decode cX0_keepMore 0 = .ok (.aload_n 0, 1) := by decide +kernel
theorem dX0_keepMore_1 : decode cX0_keepMore 1 = .ok (.iload_n 1, 1) := by decide +kernel
theorem dX0_keepMore_2 : decode cX0_keepMore 2 = .ok (.iconst 2, 1) := by decide +kernel
theorem dX0_keepMore_3 : decode cX0_keepMore 3 = .ok (.iconst 0, 1) := by decide +kernel
theorem dX0_keepMore_4 : decode cX0_keepMore 4 = .ok (.bipush 9, 2) := by decide +kernel
theorem dX0_keepMore_6 : decode cX0_keepMore 6 = .ok (.aload_n 0, 1) := by decide +kernel
theorem dX0_keepMore_7 : decode cX0_keepMore 7 = .ok (.iload_n 1, 1) := by decide +kernel
theorem dX0_keepMore_8 : decode cX0_keepMore 8 = .ok (.iconst 2, 1) := by decide +kernel
theorem dX0_keepMore_9 : decode cX0_keepMore 9 = .ok (.invokevirtual 43, 3) := by decide +kernel
theorem dX0_keepMore_12 : decode cX0_keepMore 12 = .ok (.iload_n 2, 1) := by decide +kernel
theorem dX0_keepMore_13 : decode cX0_keepMore 13 = .ok (.iadd, 1) := by decide +kernel
theorem dX0_keepMore_14 : decode cX0_keepMore 14 = .ok (.invokestatic 22, 3) := by decide +kernel
theorem dX0_keepMore_17 : decode cX0_keepMore 17 = .ok (.invokestatic 46, 3) := by decide +kernel
theorem dX0_keepMore_20 : decode cX0_keepMore 20 = .ok (.invokevirtual 49, 3) := by decide +kernel
theorem dX0_keepMore_23 : decode cX0_keepMore 23 = .ok (.return_, 1) := by decide +kernel
theorem dX0_pierce_0 : decode cX0_pierce 0 = .ok (.aload_n 0, 1) := by decide +kernel
theorem dX0_pierce_1 : decode cX0_pierce 1 = .ok (.iconst 0, 1) := by decide +kernel
theorem dX0_pierce_2 : decode cX0_pierce 2 = .ok (.bipush 99, 2) := by decide +kernel
theorem dX0_pierce_4 : decode cX0_pierce 4 = .ok (.aload_n 0, 1) := by decide +kernel
theorem dX0_pierce_5 : decode cX0_pierce 5 = .ok (.getfield 37, 3) := by decide +kernel
theorem dX0_pierce_8 : decode cX0_pierce 8 = .ok (.iload_n 1, 1) := by decide +kernel
theorem dX0_pierce_9 : decode cX0_pierce 9 = .ok (.iadd, 1) := by decide +kernel
theorem dX0_pierce_10 : decode cX0_pierce 10 = .ok (.invokestatic 22, 3) := by decide +kernel
theorem dX0_pierce_13 : decode cX0_pierce 13 = .ok (.invokestatic 46, 3) := by decide +kernel
theorem dX0_pierce_16 : decode cX0_pierce 16 = .ok (.putfield 37, 3) := by decide +kernel
theorem dX0_pierce_19 : decode cX0_pierce 19 = .ok (.return_, 1) := by decide +kernel
theorem dX0_addRing_0 : decode cX0_addRing 0 = .ok (.iload_n 1, 1) := by decide +kernel
theorem dX0_addRing_1 : decode cX0_addRing 1 = .ok (.iconst 1, 1) := by decide +kernel
theorem dX0_addRing_2 : decode cX0_addRing 2 = .ok (.bipush 99, 2) := by decide +kernel
theorem dX0_addRing_4 : decode cX0_addRing 4 = .ok (.invokestatic 53, 3) := by decide +kernel
theorem dX0_addRing_7 : decode cX0_addRing 7 = .ok (.ifCond .eq 22, 3) := by decide +kernel
theorem dX0_addRing_10 : decode cX0_addRing 10 = .ok (.iload_n 2, 1) := by decide +kernel
theorem dX0_addRing_11 : decode cX0_addRing 11 = .ok (.iconst 1, 1) := by decide +kernel
theorem dX0_addRing_12 : decode cX0_addRing 12 = .ok (.bipush 99, 2) := by decide +kernel
theorem dX0_addRing_14 : decode cX0_addRing 14 = .ok (.invokestatic 53, 3) := by decide +kernel
theorem dX0_addRing_17 : decode cX0_addRing 17 = .ok (.ifCond .eq 12, 3) := by decide +kernel
theorem dX0_addRing_20 : decode cX0_addRing 20 = .ok (.aload_n 0, 1) := by decide +kernel
theorem dX0_addRing_21 : decode cX0_addRing 21 = .ok (.getfield 34, 3) := by decide +kernel
theorem dX0_addRing_24 : decode cX0_addRing 24 = .ok (.bipush 6, 2) := by decide +kernel
theorem dX0_addRing_26 : decode cX0_addRing 26 = .ok (.if_icmp .lt 5, 3) := by decide +kernel
theorem dX0_addRing_29 : decode cX0_addRing 29 = .ok (.iconst 0, 1) := by decide +kernel
theorem dX0_addRing_30 : decode cX0_addRing 30 = .ok (.ireturn, 1) := by decide +kernel
theorem dX0_addRing_31 : decode cX0_addRing 31 = .ok (.aload_n 0, 1) := by decide +kernel
theorem dX0_addRing_32 : decode cX0_addRing 32 = .ok (.aload_n 0, 1) := by decide +kernel
theorem dX0_addRing_33 : decode cX0_addRing 33 = .ok (.getfield 34, 3) := by decide +kernel
theorem dX0_addRing_36 : decode cX0_addRing 36 = .ok (.iconst 0, 1) := by decide +kernel
theorem dX0_addRing_37 : decode cX0_addRing 37 = .ok (.iload_n 1, 1) := by decide +kernel
theorem dX0_addRing_38 : decode cX0_addRing 38 = .ok (.invokevirtual 49, 3) := by decide +kernel
theorem dX0_addRing_41 : decode cX0_addRing 41 = .ok (.aload_n 0, 1) := by decide +kernel
theorem dX0_addRing_42 : decode cX0_addRing 42 = .ok (.aload_n 0, 1) := by decide +kernel
theorem dX0_addRing_43 : decode cX0_addRing 43 = .ok (.getfield 34, 3) := by decide +kernel
theorem dX0_addRing_46 : decode cX0_addRing 46 = .ok (.iconst 1, 1) := by decide +kernel
theorem dX0_addRing_47 : decode cX0_addRing 47 = .ok (.iload_n 2, 1) := by decide +kernel
theorem dX0_addRing_48 : decode cX0_addRing 48 = .ok (.invokevirtual 49, 3) := by decide +kernel
theorem dX0_addRing_51 : decode cX0_addRing 51 = .ok (.aload_n 0, 1) := by decide +kernel
theorem dX0_addRing_52 : decode cX0_addRing 52 = .ok (.aload_n 0, 1) := by decide +kernel
theorem dX0_addRing_53 : decode cX0_addRing 53 = .ok (.getfield 34, 3) := by decide +kernel
theorem dX0_addRing_56 : decode cX0_addRing 56 = .ok (.iconst 2, 1) := by decide +kernel
theorem dX0_addRing_57 : decode cX0_addRing 57 = .ok (.iload_n 3, 1) := by decide +kernel
theorem dX0_addRing_58 : decode cX0_addRing 58 = .ok (.invokevirtual 49, 3) := by decide +kernel
theorem dX0_addRing_61 : decode cX0_addRing 61 = .ok (.aload_n 0, 1) := by decide +kernel
theorem dX0_addRing_62 : decode cX0_addRing 62 = .ok (.aload_n 0, 1) := by decide +kernel
theorem dX0_addRing_63 : decode cX0_addRing 63 = .ok (.getfield 34, 3) := by decide +kernel
theorem dX0_addRing_66 : decode cX0_addRing 66 = .ok (.iconst 3, 1) := by decide +kernel
theorem dX0_addRing_67 : decode cX0_addRing 67 = .ok (.iload 4, 2) := by decide +kernel
theorem dX0_addRing_69 : decode cX0_addRing 69 = .ok (.invokevirtual 49, 3) := by decide +kernel
theorem dX0_addRing_72 : decode cX0_addRing 72 = .ok (.aload_n 0, 1) := by decide +kernel
theorem dX0_addRing_73 : decode cX0_addRing 73 = .ok (.dup, 1) := by decide +kernel
theorem dX0_addRing_74 : decode cX0_addRing 74 = .ok (.getfield 34, 3) := by decide +kernel
theorem dX0_addRing_77 : decode cX0_addRing 77 = .ok (.iconst 1, 1) := by decide +kernel
theorem dX0_addRing_78 : decode cX0_addRing 78 = .ok (.iadd, 1) := by decide +kernel
theorem dX0_addRing_79 : decode cX0_addRing 79 = .ok (.putfield 34, 3) := by decide +kernel
theorem dX0_addRing_82 : decode cX0_addRing 82 = .ok (.iconst 1, 1) := by decide +kernel
theorem dX0_addRing_83 : decode cX0_addRing 83 = .ok (.ireturn, 1) := by decide +kernel
theorem dX0_allows_0 : decode cX0_allows 0 = .ok (.aload_n 0, 1) := by decide +kernel
theorem dX0_allows_1 : decode cX0_allows 1 = .ok (.iload_n 3, 1) := by decide +kernel
theorem dX0_allows_2 : decode cX0_allows 2 = .ok (.invokevirtual 57, 3) := by decide +kernel
theorem dX0_allows_5 : decode cX0_allows 5 = .ok (.ifCond .eq 17, 3) := by decide +kernel
theorem dX0_allows_8 : decode cX0_allows 8 = .ok (.aload_n 1, 1) := by decide +kernel
theorem dX0_allows_9 : decode cX0_allows 9 = .ok (.aload_n 0, 1) := by decide +kernel
theorem dX0_allows_10 : decode cX0_allows 10 = .ok (.iload_n 3, 1) := by decide +kernel
theorem dX0_allows_11 : decode cX0_allows 11 = .ok (.iload_n 2, 1) := by decide +kernel
theorem dX0_allows_12 : decode cX0_allows 12 = .ok (.invokevirtual 61, 3) := by decide +kernel
theorem dX0_allows_15 : decode cX0_allows 15 = .ok (.ifCond .eq 7, 3) := by decide +kernel
theorem dX0_allows_18 : decode cX0_allows 18 = .ok (.iconst 1, 1) := by decide +kernel
theorem dX0_allows_19 : decode cX0_allows 19 = .ok (.goto 4, 3) := by decide +kernel
theorem dX0_allows_22 : decode cX0_allows 22 = .ok (.iconst 0, 1) := by decide +kernel
theorem dX0_allows_23 : decode cX0_allows 23 = .ok (.ireturn, 1) := by decide +kernel
theorem dX0_tryPin_0 : decode cX0_tryPin 0 = .ok (.aload_n 0, 1) := by decide +kernel
theorem dX0_tryPin_1 : decode cX0_tryPin 1 = .ok (.aload_n 1, 1) := by decide +kernel
theorem dX0_tryPin_2 : decode cX0_tryPin 2 = .ok (.iload_n 2, 1) := by decide +kernel
theorem dX0_tryPin_3 : decode cX0_tryPin 3 = .ok (.iload_n 3, 1) := by decide +kernel
theorem dX0_tryPin_4 : decode cX0_tryPin 4 = .ok (.invokevirtual 67, 3) := by decide +kernel
theorem dX0_tryPin_7 : decode cX0_tryPin 7 = .ok (.ifCond .ne 5, 3) := by decide +kernel
theorem dX0_tryPin_10 : decode cX0_tryPin 10 = .ok (.iconst 0, 1) := by decide +kernel
theorem dX0_tryPin_11 : decode cX0_tryPin 11 = .ok (.ireturn, 1) := by decide +kernel
theorem dX0_tryPin_12 : decode cX0_tryPin 12 = .ok (.aload_n 1, 1) := by decide +kernel
theorem dX0_tryPin_13 : decode cX0_tryPin 13 = .ok (.aload_n 0, 1) := by decide +kernel
theorem dX0_tryPin_14 : decode cX0_tryPin 14 = .ok (.iload_n 3, 1) := by decide +kernel
theorem dX0_tryPin_15 : decode cX0_tryPin 15 = .ok (.iload_n 2, 1) := by decide +kernel
theorem dX0_tryPin_16 : decode cX0_tryPin 16 = .ok (.invokevirtual 71, 3) := by decide +kernel
theorem dX0_tryPin_19 : decode cX0_tryPin 19 = .ok (.aload_n 0, 1) := by decide +kernel
theorem dX0_tryPin_20 : decode cX0_tryPin 20 = .ok (.sipush 9999, 3) := by decide +kernel
theorem dX0_tryPin_23 : decode cX0_tryPin 23 = .ok (.aload_n 0, 1) := by decide +kernel
theorem dX0_tryPin_24 : decode cX0_tryPin 24 = .ok (.getfield 40, 3) := by decide +kernel
theorem dX0_tryPin_27 : decode cX0_tryPin 27 = .ok (.aload_n 1, 1) := by decide +kernel
theorem dX0_tryPin_28 : decode cX0_tryPin 28 = .ok (.iload_n 2, 1) := by decide +kernel
theorem dX0_tryPin_29 : decode cX0_tryPin 29 = .ok (.invokevirtual 75, 3) := by decide +kernel
theorem dX0_tryPin_32 : decode cX0_tryPin 32 = .ok (.iadd, 1) := by decide +kernel
theorem dX0_tryPin_33 : decode cX0_tryPin 33 = .ok (.invokestatic 22, 3) := by decide +kernel
theorem dX0_tryPin_36 : decode cX0_tryPin 36 = .ok (.putfield 40, 3) := by decide +kernel
theorem dX0_tryPin_39 : decode cX0_tryPin 39 = .ok (.iconst 1, 1) := by decide +kernel
theorem dX0_tryPin_40 : decode cX0_tryPin 40 = .ok (.ireturn, 1) := by decide +kernel
theorem dX0_needOf_0 : decode cX0_needOf 0 = .ok (.iload_n 2, 1) := by decide +kernel
theorem dX0_needOf_1 : decode cX0_needOf 1 = .ok (.tableswitch 55 0 2 #[27, 29, 36], 27) := by decide +kernel
theorem dX0_needOf_28 : decode cX0_needOf 28 = .ok (.iconst 0, 1) := by decide +kernel
theorem dX0_needOf_29 : decode cX0_needOf 29 = .ok (.ireturn, 1) := by decide +kernel
theorem dX0_needOf_30 : decode cX0_needOf 30 = .ok (.aload_n 0, 1) := by decide +kernel
theorem dX0_needOf_31 : decode cX0_needOf 31 = .ok (.iload_n 1, 1) := by decide +kernel
theorem dX0_needOf_32 : decode cX0_needOf 32 = .ok (.iconst 3, 1) := by decide +kernel
theorem dX0_needOf_33 : decode cX0_needOf 33 = .ok (.invokevirtual 43, 3) := by decide +kernel
theorem dX0_needOf_36 : decode cX0_needOf 36 = .ok (.ireturn, 1) := by decide +kernel
theorem dX0_needOf_37 : decode cX0_needOf 37 = .ok (.aload_n 0, 1) := by decide +kernel
theorem dX0_needOf_38 : decode cX0_needOf 38 = .ok (.iload_n 1, 1) := by decide +kernel
theorem dX0_needOf_39 : decode cX0_needOf 39 = .ok (.iconst 3, 1) := by decide +kernel
theorem dX0_needOf_40 : decode cX0_needOf 40 = .ok (.invokevirtual 43, 3) := by decide +kernel
theorem dX0_needOf_43 : decode cX0_needOf 43 = .ok (.iconst 2, 1) := by decide +kernel
theorem dX0_needOf_44 : decode cX0_needOf 44 = .ok (.idiv, 1) := by decide +kernel
theorem dX0_needOf_45 : decode cX0_needOf 45 = .ok (.iload_n 1, 1) := by decide +kernel
theorem dX0_needOf_46 : decode cX0_needOf 46 = .ok (.ifCond .ne 7, 3) := by decide +kernel
theorem dX0_needOf_49 : decode cX0_needOf 49 = .ok (.iconst 2, 1) := by decide +kernel
theorem dX0_needOf_50 : decode cX0_needOf 50 = .ok (.goto 4, 3) := by decide +kernel
theorem dX0_needOf_53 : decode cX0_needOf 53 = .ok (.iconst 0, 1) := by decide +kernel
theorem dX0_needOf_54 : decode cX0_needOf 54 = .ok (.iadd, 1) := by decide +kernel
theorem dX0_needOf_55 : decode cX0_needOf 55 = .ok (.ireturn, 1) := by decide +kernel
theorem dX0_needOf_56 : decode cX0_needOf 56 = .ok (.iload_n 1, 1) := by decide +kernel
theorem dX0_needOf_57 : decode cX0_needOf 57 = .ok (.iconst 2, 1) := by decide +kernel
theorem dX0_needOf_58 : decode cX0_needOf 58 = .ok (.irem, 1) := by decide +kernel
theorem dX0_needOf_59 : decode cX0_needOf 59 = .ok (.ifCond .ne 7, 3) := by decide +kernel
theorem dX0_needOf_62 : decode cX0_needOf 62 = .ok (.iconst 1, 1) := by decide +kernel
theorem dX0_needOf_63 : decode cX0_needOf 63 = .ok (.goto 4, 3) := by decide +kernel
theorem dX0_needOf_66 : decode cX0_needOf 66 = .ok (.iconst 0, 1) := by decide +kernel
theorem dX0_needOf_67 : decode cX0_needOf 67 = .ok (.ireturn, 1) := by decide +kernel
theorem dX0_easeAt_0 : decode cX0_easeAt 0 = .ok (.aload_n 0, 1) := by decide +kernel
theorem dX0_easeAt_1 : decode cX0_easeAt 1 = .ok (.iload_n 1, 1) := by decide +kernel
theorem dX0_easeAt_2 : decode cX0_easeAt 2 = .ok (.iconst 1, 1) := by decide +kernel
theorem dX0_easeAt_3 : decode cX0_easeAt 3 = .ok (.invokevirtual 43, 3) := by decide +kernel
theorem dX0_easeAt_6 : decode cX0_easeAt 6 = .ok (.aload_n 0, 1) := by decide +kernel
theorem dX0_easeAt_7 : decode cX0_easeAt 7 = .ok (.iload_n 1, 1) := by decide +kernel
theorem dX0_easeAt_8 : decode cX0_easeAt 8 = .ok (.iconst 0, 1) := by decide +kernel
theorem dX0_easeAt_9 : decode cX0_easeAt 9 = .ok (.invokevirtual 43, 3) := by decide +kernel
theorem dX0_easeAt_12 : decode cX0_easeAt 12 = .ok (.isub, 1) := by decide +kernel
theorem dX0_easeAt_13 : decode cX0_easeAt 13 = .ok (.aload_n 0, 1) := by decide +kernel
theorem dX0_easeAt_14 : decode cX0_easeAt 14 = .ok (.iload_n 1, 1) := by decide +kernel
theorem dX0_easeAt_15 : decode cX0_easeAt 15 = .ok (.iload_n 2, 1) := by decide +kernel
theorem dX0_easeAt_16 : decode cX0_easeAt 16 = .ok (.invokevirtual 79, 3) := by decide +kernel
theorem dX0_easeAt_19 : decode cX0_easeAt 19 = .ok (.isub, 1) := by decide +kernel
theorem dX0_easeAt_20 : decode cX0_easeAt 20 = .ok (.ireturn, 1) := by decide +kernel
theorem dX0_fits_0 : decode cX0_fits 0 = .ok (.aload_n 0, 1) := by decide +kernel
theorem dX0_fits_1 : decode cX0_fits 1 = .ok (.iload_n 1, 1) := by decide +kernel
theorem dX0_fits_2 : decode cX0_fits 2 = .ok (.iload_n 2, 1) := by decide +kernel
theorem dX0_fits_3 : decode cX0_fits 3 = .ok (.invokevirtual 82, 3) := by decide +kernel
theorem dX0_fits_6 : decode cX0_fits 6 = .ok (.istore_n 3, 1) := by decide +kernel
theorem dX0_fits_7 : decode cX0_fits 7 = .ok (.iload_n 3, 1) := by decide +kernel
theorem dX0_fits_8 : decode cX0_fits 8 = .ok (.aload_n 0, 1) := by decide +kernel
theorem dX0_fits_9 : decode cX0_fits 9 = .ok (.getfield 15, 3) := by decide +kernel
theorem dX0_fits_12 : decode cX0_fits 12 = .ok (.if_icmp .lt 19, 3) := by decide +kernel
theorem dX0_fits_15 : decode cX0_fits 15 = .ok (.iload_n 2, 1) := by decide +kernel
theorem dX0_fits_16 : decode cX0_fits 16 = .ok (.ifCond .ne 11, 3) := by decide +kernel
theorem dX0_fits_19 : decode cX0_fits 19 = .ok (.iload_n 3, 1) := by decide +kernel
theorem dX0_fits_20 : decode cX0_fits 20 = .ok (.aload_n 0, 1) := by decide +kernel
theorem dX0_fits_21 : decode cX0_fits 21 = .ok (.getfield 19, 3) := by decide +kernel
theorem dX0_fits_24 : decode cX0_fits 24 = .ok (.if_icmp .gt 7, 3) := by decide +kernel
theorem dX0_fits_27 : decode cX0_fits 27 = .ok (.iconst 1, 1) := by decide +kernel
theorem dX0_fits_28 : decode cX0_fits 28 = .ok (.goto 4, 3) := by decide +kernel
theorem dX0_fits_31 : decode cX0_fits 31 = .ok (.iconst 0, 1) := by decide +kernel
theorem dX0_fits_32 : decode cX0_fits 32 = .ok (.ireturn, 1) := by decide +kernel
theorem dX0_lacking_0 : decode cX0_lacking 0 = .ok (.iconst 0, 1) := by decide +kernel
theorem dX0_lacking_1 : decode cX0_lacking 1 = .ok (.istore_n 1, 1) := by decide +kernel
theorem dX0_lacking_2 : decode cX0_lacking 2 = .ok (.iconst 0, 1) := by decide +kernel
theorem dX0_lacking_3 : decode cX0_lacking 3 = .ok (.istore_n 2, 1) := by decide +kernel
theorem dX0_lacking_4 : decode cX0_lacking 4 = .ok (.iload_n 2, 1) := by decide +kernel
theorem dX0_lacking_5 : decode cX0_lacking 5 = .ok (.aload_n 0, 1) := by decide +kernel
theorem dX0_lacking_6 : decode cX0_lacking 6 = .ok (.getfield 34, 3) := by decide +kernel
theorem dX0_lacking_9 : decode cX0_lacking 9 = .ok (.if_icmp .ge 58, 3) := by decide +kernel
theorem dX0_lacking_12 : decode cX0_lacking 12 = .ok (.iconst 0, 1) := by decide +kernel
theorem dX0_lacking_13 : decode cX0_lacking 13 = .ok (.istore_n 3, 1) := by decide +kernel
theorem dX0_lacking_14 : decode cX0_lacking 14 = .ok (.iload_n 3, 1) := by decide +kernel
theorem dX0_lacking_15 : decode cX0_lacking 15 = .ok (.iconst 4, 1) := by decide +kernel
theorem dX0_lacking_16 : decode cX0_lacking 16 = .ok (.if_icmp .ge 27, 3) := by decide +kernel
theorem dX0_lacking_19 : decode cX0_lacking 19 = .ok (.iload_n 1, 1) := by decide +kernel
theorem dX0_lacking_20 : decode cX0_lacking 20 = .ok (.iconst 0, 1) := by decide +kernel
theorem dX0_lacking_21 : decode cX0_lacking 21 = .ok (.aload_n 0, 1) := by decide +kernel
theorem dX0_lacking_22 : decode cX0_lacking 22 = .ok (.getfield 15, 3) := by decide +kernel
theorem dX0_lacking_25 : decode cX0_lacking 25 = .ok (.aload_n 0, 1) := by decide +kernel
theorem dX0_lacking_26 : decode cX0_lacking 26 = .ok (.iload_n 2, 1) := by decide +kernel
theorem dX0_lacking_27 : decode cX0_lacking 27 = .ok (.iload_n 3, 1) := by decide +kernel
theorem dX0_lacking_28 : decode cX0_lacking 28 = .ok (.invokevirtual 82, 3) := by decide +kernel
theorem dX0_lacking_31 : decode cX0_lacking 31 = .ok (.isub, 1) := by decide +kernel
theorem dX0_lacking_32 : decode cX0_lacking 32 = .ok (.invokestatic 46, 3) := by decide +kernel
theorem dX0_lacking_35 : decode cX0_lacking 35 = .ok (.iadd, 1) := by decide +kernel
theorem dX0_lacking_36 : decode cX0_lacking 36 = .ok (.istore_n 1, 1) := by decide +kernel
theorem dX0_lacking_37 : decode cX0_lacking 37 = .ok (.iinc 3 1, 3) := by decide +kernel
theorem dX0_lacking_40 : decode cX0_lacking 40 = .ok (.goto (-26), 3) := by decide +kernel
theorem dX0_lacking_43 : decode cX0_lacking 43 = .ok (.iload_n 1, 1) := by decide +kernel
theorem dX0_lacking_44 : decode cX0_lacking 44 = .ok (.iconst 0, 1) := by decide +kernel
theorem dX0_lacking_45 : decode cX0_lacking 45 = .ok (.aload_n 0, 1) := by decide +kernel
theorem dX0_lacking_46 : decode cX0_lacking 46 = .ok (.iload_n 2, 1) := by decide +kernel
theorem dX0_lacking_47 : decode cX0_lacking 47 = .ok (.iconst 0, 1) := by decide +kernel
theorem dX0_lacking_48 : decode cX0_lacking 48 = .ok (.invokevirtual 82, 3) := by decide +kernel
theorem dX0_lacking_51 : decode cX0_lacking 51 = .ok (.aload_n 0, 1) := by decide +kernel
theorem dX0_lacking_52 : decode cX0_lacking 52 = .ok (.getfield 19, 3) := by decide +kernel
theorem dX0_lacking_55 : decode cX0_lacking 55 = .ok (.isub, 1) := by decide +kernel
theorem dX0_lacking_56 : decode cX0_lacking 56 = .ok (.invokestatic 46, 3) := by decide +kernel
theorem dX0_lacking_59 : decode cX0_lacking 59 = .ok (.iadd, 1) := by decide +kernel
theorem dX0_lacking_60 : decode cX0_lacking 60 = .ok (.istore_n 1, 1) := by decide +kernel
theorem dX0_lacking_61 : decode cX0_lacking 61 = .ok (.iinc 2 1, 3) := by decide +kernel
theorem dX0_lacking_64 : decode cX0_lacking 64 = .ok (.goto (-60), 3) := by decide +kernel
theorem dX0_lacking_67 : decode cX0_lacking 67 = .ok (.iload_n 1, 1) := by decide +kernel
theorem dX0_lacking_68 : decode cX0_lacking 68 = .ok (.ireturn, 1) := by decide +kernel
theorem dX0_total_0 : decode cX0_total 0 = .ok (.iconst 0, 1) := by decide +kernel
theorem dX0_total_1 : decode cX0_total 1 = .ok (.istore_n 2, 1) := by decide +kernel
theorem dX0_total_2 : decode cX0_total 2 = .ok (.iconst 0, 1) := by decide +kernel
theorem dX0_total_3 : decode cX0_total 3 = .ok (.istore_n 3, 1) := by decide +kernel
theorem dX0_total_4 : decode cX0_total 4 = .ok (.iload_n 3, 1) := by decide +kernel
theorem dX0_total_5 : decode cX0_total 5 = .ok (.aload_n 0, 1) := by decide +kernel
theorem dX0_total_6 : decode cX0_total 6 = .ok (.getfield 34, 3) := by decide +kernel
theorem dX0_total_9 : decode cX0_total 9 = .ok (.if_icmp .ge 18, 3) := by decide +kernel
theorem dX0_total_12 : decode cX0_total 12 = .ok (.iload_n 2, 1) := by decide +kernel
theorem dX0_total_13 : decode cX0_total 13 = .ok (.aload_n 0, 1) := by decide +kernel
theorem dX0_total_14 : decode cX0_total 14 = .ok (.iload_n 3, 1) := by decide +kernel
theorem dX0_total_15 : decode cX0_total 15 = .ok (.iload_n 1, 1) := by decide +kernel
theorem dX0_total_16 : decode cX0_total 16 = .ok (.invokevirtual 43, 3) := by decide +kernel
theorem dX0_total_19 : decode cX0_total 19 = .ok (.iadd, 1) := by decide +kernel
theorem dX0_total_20 : decode cX0_total 20 = .ok (.istore_n 2, 1) := by decide +kernel
theorem dX0_total_21 : decode cX0_total 21 = .ok (.iinc 3 1, 3) := by decide +kernel
theorem dX0_total_24 : decode cX0_total 24 = .ok (.goto (-20), 3) := by decide +kernel
theorem dX0_total_27 : decode cX0_total 27 = .ok (.iload_n 2, 1) := by decide +kernel
theorem dX0_total_28 : decode cX0_total 28 = .ok (.ireturn, 1) := by decide +kernel
theorem dX1_init_0 : decode cX1_init 0 = .ok (.aload_n 0, 1) := by decide +kernel
theorem dX1_init_1 : decode cX1_init 1 = .ok (.invokespecial 1, 3) := by decide +kernel
theorem dX1_init_4 : decode cX1_init 4 = .ok (.return_, 1) := by decide +kernel
theorem dX1_canBe_0 : decode cX1_canBe 0 = .ok (.aload_n 0, 1) := by decide +kernel
theorem dX1_canBe_1 : decode cX1_canBe 1 = .ok (.aload_n 1, 1) := by decide +kernel
theorem dX1_canBe_2 : decode cX1_canBe 2 = .ok (.iload_n 2, 1) := by decide +kernel
theorem dX1_canBe_3 : decode cX1_canBe 3 = .ok (.iload_n 3, 1) := by decide +kernel
theorem dX1_canBe_4 : decode cX1_canBe 4 = .ok (.invokespecial 7, 3) := by decide +kernel
theorem dX1_canBe_7 : decode cX1_canBe 7 = .ok (.ifCond .eq 17, 3) := by decide +kernel
theorem dX1_canBe_10 : decode cX1_canBe 10 = .ok (.aload_n 1, 1) := by decide +kernel
theorem dX1_canBe_11 : decode cX1_canBe 11 = .ok (.iload_n 2, 1) := by decide +kernel
theorem dX1_canBe_12 : decode cX1_canBe 12 = .ok (.iconst 1, 1) := by decide +kernel
theorem dX1_canBe_13 : decode cX1_canBe 13 = .ok (.iadd, 1) := by decide +kernel
theorem dX1_canBe_14 : decode cX1_canBe 14 = .ok (.invokevirtual 11, 3) := by decide +kernel
theorem dX1_canBe_17 : decode cX1_canBe 17 = .ok (.ifCond .ne 7, 3) := by decide +kernel
theorem dX1_canBe_20 : decode cX1_canBe 20 = .ok (.iconst 1, 1) := by decide +kernel
theorem dX1_canBe_21 : decode cX1_canBe 21 = .ok (.goto 4, 3) := by decide +kernel
theorem dX1_canBe_24 : decode cX1_canBe 24 = .ok (.iconst 0, 1) := by decide +kernel
theorem dX1_canBe_25 : decode cX1_canBe 25 = .ok (.ireturn, 1) := by decide +kernel
theorem dX1_work_0 : decode cX1_work 0 = .ok (.aload_n 0, 1) := by decide +kernel
theorem dX1_work_1 : decode cX1_work 1 = .ok (.aload_n 1, 1) := by decide +kernel
theorem dX1_work_2 : decode cX1_work 2 = .ok (.iload_n 2, 1) := by decide +kernel
theorem dX1_work_3 : decode cX1_work 3 = .ok (.iload_n 3, 1) := by decide +kernel
theorem dX1_work_4 : decode cX1_work 4 = .ok (.invokespecial 17, 3) := by decide +kernel
theorem dX1_work_7 : decode cX1_work 7 = .ok (.iconst 0, 1) := by decide +kernel
theorem dX1_work_8 : decode cX1_work 8 = .ok (.istore 4, 2) := by decide +kernel
theorem dX1_work_10 : decode cX1_work 10 = .ok (.iload 4, 2) := by decide +kernel
theorem dX1_work_12 : decode cX1_work 12 = .ok (.iload_n 2, 1) := by decide +kernel
theorem dX1_work_13 : decode cX1_work 13 = .ok (.if_icmp .ge 16, 3) := by decide +kernel
theorem dX1_work_16 : decode cX1_work 16 = .ok (.aload_n 1, 1) := by decide +kernel
theorem dX1_work_17 : decode cX1_work 17 = .ok (.iload 4, 2) := by decide +kernel
theorem dX1_work_19 : decode cX1_work 19 = .ok (.iconst (-1), 1) := by decide +kernel
theorem dX1_work_20 : decode cX1_work 20 = .ok (.invokevirtual 21, 3) := by decide +kernel
theorem dX1_work_23 : decode cX1_work 23 = .ok (.iinc 4 1, 3) := by decide +kernel
theorem dX1_work_26 : decode cX1_work 26 = .ok (.goto (-16), 3) := by decide +kernel
theorem dX1_work_29 : decode cX1_work 29 = .ok (.return_, 1) := by decide +kernel
theorem dX1_cost_0 : decode cX1_cost 0 = .ok (.aload_n 0, 1) := by decide +kernel
theorem dX1_cost_1 : decode cX1_cost 1 = .ok (.iload_n 1, 1) := by decide +kernel
theorem dX1_cost_2 : decode cX1_cost 2 = .ok (.invokespecial 25, 3) := by decide +kernel
theorem dX1_cost_5 : decode cX1_cost 5 = .ok (.iconst 4, 1) := by decide +kernel
theorem dX1_cost_6 : decode cX1_cost 6 = .ok (.iadd, 1) := by decide +kernel
theorem dX1_cost_7 : decode cX1_cost 7 = .ok (.ireturn, 1) := by decide +kernel
theorem dX2_init_0 : decode cX2_init 0 = .ok (.aload_n 0, 1) := by decide +kernel
theorem dX2_init_1 : decode cX2_init 1 = .ok (.invokespecial 3, 3) := by decide +kernel
theorem dX2_init_4 : decode cX2_init 4 = .ok (.return_, 1) := by decide +kernel
theorem dX2_canBe_0 : decode cX2_canBe 0 = .ok (.aload_n 1, 1) := by decide +kernel
theorem dX2_canBe_1 : decode cX2_canBe 1 = .ok (.iload_n 2, 1) := by decide +kernel
theorem dX2_canBe_2 : decode cX2_canBe 2 = .ok (.iconst 2, 1) := by decide +kernel
theorem dX2_canBe_3 : decode cX2_canBe 3 = .ok (.invokevirtual 9, 3) := by decide +kernel
theorem dX2_canBe_6 : decode cX2_canBe 6 = .ok (.iload_n 3, 1) := by decide +kernel
theorem dX2_canBe_7 : decode cX2_canBe 7 = .ok (.if_icmp .lt 7, 3) := by decide +kernel
theorem dX2_canBe_10 : decode cX2_canBe 10 = .ok (.iconst 1, 1) := by decide +kernel
theorem dX2_canBe_11 : decode cX2_canBe 11 = .ok (.goto 4, 3) := by decide +kernel
theorem dX2_canBe_14 : decode cX2_canBe 14 = .ok (.iconst 0, 1) := by decide +kernel
theorem dX2_canBe_15 : decode cX2_canBe 15 = .ok (.ireturn, 1) := by decide +kernel
theorem dX2_work_0 : decode cX2_work 0 = .ok (.aload_n 1, 1) := by decide +kernel
theorem dX2_work_1 : decode cX2_work 1 = .ok (.iload_n 2, 1) := by decide +kernel
theorem dX2_work_2 : decode cX2_work 2 = .ok (.iload_n 3, 1) := by decide +kernel
theorem dX2_work_3 : decode cX2_work 3 = .ok (.invokevirtual 15, 3) := by decide +kernel
theorem dX2_work_6 : decode cX2_work 6 = .ok (.aload_n 1, 1) := by decide +kernel
theorem dX2_work_7 : decode cX2_work 7 = .ok (.iload_n 2, 1) := by decide +kernel
theorem dX2_work_8 : decode cX2_work 8 = .ok (.iload_n 3, 1) := by decide +kernel
theorem dX2_work_9 : decode cX2_work 9 = .ok (.ineg, 1) := by decide +kernel
theorem dX2_work_10 : decode cX2_work 10 = .ok (.invokevirtual 19, 3) := by decide +kernel
theorem dX2_work_13 : decode cX2_work 13 = .ok (.return_, 1) := by decide +kernel
theorem dX2_cost_0 : decode cX2_cost 0 = .ok (.aload_n 0, 1) := by decide +kernel
theorem dX2_cost_1 : decode cX2_cost 1 = .ok (.iload_n 1, 1) := by decide +kernel
theorem dX2_cost_2 : decode cX2_cost 2 = .ok (.invokespecial 22, 3) := by decide +kernel
theorem dX2_cost_5 : decode cX2_cost 5 = .ok (.iconst 2, 1) := by decide +kernel
theorem dX2_cost_6 : decode cX2_cost 6 = .ok (.iload_n 1, 1) := by decide +kernel
theorem dX2_cost_7 : decode cX2_cost 7 = .ok (.imul, 1) := by decide +kernel
theorem dX2_cost_8 : decode cX2_cost 8 = .ok (.iadd, 1) := by decide +kernel
theorem dX2_cost_9 : decode cX2_cost 9 = .ok (.ireturn, 1) := by decide +kernel
theorem dX3_init_0 : decode cX3_init 0 = .ok (.aload_n 0, 1) := by decide +kernel
theorem dX3_init_1 : decode cX3_init 1 = .ok (.invokespecial 1, 3) := by decide +kernel
theorem dX3_init_4 : decode cX3_init 4 = .ok (.return_, 1) := by decide +kernel
theorem dX3_canBe_0 : decode cX3_canBe 0 = .ok (.iconst 1, 1) := by decide +kernel
theorem dX3_canBe_1 : decode cX3_canBe 1 = .ok (.ireturn, 1) := by decide +kernel
theorem dX3_work_0 : decode cX3_work 0 = .ok (.return_, 1) := by decide +kernel
theorem dX3_cost_0 : decode cX3_cost 0 = .ok (.iconst 1, 1) := by decide +kernel
theorem dX3_cost_1 : decode cX3_cost 1 = .ok (.ireturn, 1) := by decide +kernel
theorem dX3_fail_0 : decode cX3_fail 0 = .ok (.iload_n 1, 1) := by decide +kernel
theorem dX3_fail_1 : decode cX3_fail 1 = .ok (.ifCond .le 13, 3) := by decide +kernel
theorem dX3_fail_4 : decode cX3_fail 4 = .ok (.new 7, 3) := by decide +kernel
theorem dX3_fail_7 : decode cX3_fail 7 = .ok (.dup, 1) := by decide +kernel
theorem dX3_fail_8 : decode cX3_fail 8 = .ok (.ldc 9, 2) := by decide +kernel
theorem dX3_fail_10 : decode cX3_fail 10 = .ok (.invokespecial 11, 3) := by decide +kernel
theorem dX3_fail_13 : decode cX3_fail 13 = .ok (.athrow, 1) := by decide +kernel
theorem dX3_fail_14 : decode cX3_fail 14 = .ok (.return_, 1) := by decide +kernel
theorem dX4_init_0 : decode cX4_init 0 = .ok (.aload_n 0, 1) := by decide +kernel
theorem dX4_init_1 : decode cX4_init 1 = .ok (.invokespecial 1, 3) := by decide +kernel
theorem dX4_init_4 : decode cX4_init 4 = .ok (.return_, 1) := by decide +kernel
theorem dX4_canBe_0 : decode cX4_canBe 0 = .ok (.iconst 1, 1) := by decide +kernel
theorem dX4_canBe_1 : decode cX4_canBe 1 = .ok (.ireturn, 1) := by decide +kernel
theorem dX4_work_0 : decode cX4_work 0 = .ok (.aload_n 1, 1) := by decide +kernel
theorem dX4_work_1 : decode cX4_work 1 = .ok (.iload_n 2, 1) := by decide +kernel
theorem dX4_work_2 : decode cX4_work 2 = .ok (.iconst 2, 1) := by decide +kernel
theorem dX4_work_3 : decode cX4_work 3 = .ok (.iload_n 3, 1) := by decide +kernel
theorem dX4_work_4 : decode cX4_work 4 = .ok (.imul, 1) := by decide +kernel
theorem dX4_work_5 : decode cX4_work 5 = .ok (.invokevirtual 7, 3) := by decide +kernel
theorem dX4_work_8 : decode cX4_work 8 = .ok (.return_, 1) := by decide +kernel
theorem dX4_cost_0 : decode cX4_cost 0 = .ok (.aload_n 0, 1) := by decide +kernel
theorem dX4_cost_1 : decode cX4_cost 1 = .ok (.iload_n 1, 1) := by decide +kernel
theorem dX4_cost_2 : decode cX4_cost 2 = .ok (.invokespecial 13, 3) := by decide +kernel
theorem dX4_cost_5 : decode cX4_cost 5 = .ok (.bipush 9, 2) := by decide +kernel
theorem dX4_cost_7 : decode cX4_cost 7 = .ok (.iadd, 1) := by decide +kernel
theorem dX4_cost_8 : decode cX4_cost 8 = .ok (.ireturn, 1) := by decide +kernel
theorem dX4_fail_0 : decode cX4_fail 0 = .ok (.iload_n 1, 1) := by decide +kernel
theorem dX4_fail_1 : decode cX4_fail 1 = .ok (.ifCond .le 13, 3) := by decide +kernel
theorem dX4_fail_4 : decode cX4_fail 4 = .ok (.new 17, 3) := by decide +kernel
theorem dX4_fail_7 : decode cX4_fail 7 = .ok (.dup, 1) := by decide +kernel
theorem dX4_fail_8 : decode cX4_fail 8 = .ok (.ldc 19, 2) := by decide +kernel
theorem dX4_fail_10 : decode cX4_fail 10 = .ok (.invokespecial 21, 3) := by decide +kernel
theorem dX4_fail_13 : decode cX4_fail 13 = .ok (.athrow, 1) := by decide +kernel
theorem dX4_fail_14 : decode cX4_fail 14 = .ok (.return_, 1) := by decide +kernel
theorem dX5_init_0 : decode cX5_init 0 = .ok (.aload_n 0, 1) := by decide +kernel
theorem dX5_init_1 : decode cX5_init 1 = .ok (.invokespecial 3, 3) := by decide +kernel
theorem dX5_init_4 : decode cX5_init 4 = .ok (.aload_n 0, 1) := by decide +kernel
theorem dX5_init_5 : decode cX5_init 5 = .ok (.bipush 100, 2) := by decide +kernel
theorem dX5_init_7 : decode cX5_init 7 = .ok (.newarray .int, 2) := by decide +kernel
theorem dX5_init_9 : decode cX5_init 9 = .ok (.putfield 9, 3) := by decide +kernel
theorem dX5_init_12 : decode cX5_init 12 = .ok (.return_, 1) := by decide +kernel
theorem dX5_holdNothing_0 : decode cX5_holdNothing 0 = .ok (.aload_n 0, 1) := by decide +kernel
theorem dX5_holdNothing_1 : decode cX5_holdNothing 1 = .ok (.iconst 0, 1) := by decide +kernel
theorem dX5_holdNothing_2 : decode cX5_holdNothing 2 = .ok (.putfield 15, 3) := by decide +kernel
theorem dX5_holdNothing_5 : decode cX5_holdNothing 5 = .ok (.return_, 1) := by decide +kernel
theorem dX5_holdPin_0 : decode cX5_holdPin 0 = .ok (.aload_n 0, 1) := by decide +kernel
theorem dX5_holdPin_1 : decode cX5_holdPin 1 = .ok (.iconst 1, 1) := by decide +kernel
theorem dX5_holdPin_2 : decode cX5_holdPin 2 = .ok (.putfield 15, 3) := by decide +kernel
theorem dX5_holdPin_5 : decode cX5_holdPin 5 = .ok (.aload_n 0, 1) := by decide +kernel
theorem dX5_holdPin_6 : decode cX5_holdPin 6 = .ok (.iload_n 1, 1) := by decide +kernel
theorem dX5_holdPin_7 : decode cX5_holdPin 7 = .ok (.putfield 19, 3) := by decide +kernel
theorem dX5_holdPin_10 : decode cX5_holdPin 10 = .ok (.aload_n 0, 1) := by decide +kernel
theorem dX5_holdPin_11 : decode cX5_holdPin 11 = .ok (.iload_n 2, 1) := by decide +kernel
theorem dX5_holdPin_12 : decode cX5_holdPin 12 = .ok (.putfield 22, 3) := by decide +kernel
theorem dX5_holdPin_15 : decode cX5_holdPin 15 = .ok (.return_, 1) := by decide +kernel
theorem dX5_holdRow_0 : decode cX5_holdRow 0 = .ok (.aload_n 0, 1) := by decide +kernel
theorem dX5_holdRow_1 : decode cX5_holdRow 1 = .ok (.iconst 2, 1) := by decide +kernel
theorem dX5_holdRow_2 : decode cX5_holdRow 2 = .ok (.putfield 15, 3) := by decide +kernel
theorem dX5_holdRow_5 : decode cX5_holdRow 5 = .ok (.aload_n 0, 1) := by decide +kernel
theorem dX5_holdRow_6 : decode cX5_holdRow 6 = .ok (.iload_n 1, 1) := by decide +kernel
theorem dX5_holdRow_7 : decode cX5_holdRow 7 = .ok (.putfield 25, 3) := by decide +kernel
theorem dX5_holdRow_10 : decode cX5_holdRow 10 = .ok (.aload_n 0, 1) := by decide +kernel
theorem dX5_holdRow_11 : decode cX5_holdRow 11 = .ok (.iconst 0, 1) := by decide +kernel
theorem dX5_holdRow_12 : decode cX5_holdRow 12 = .ok (.iload_n 2, 1) := by decide +kernel
theorem dX5_holdRow_13 : decode cX5_holdRow 13 = .ok (.aload_n 0, 1) := by decide +kernel
theorem dX5_holdRow_14 : decode cX5_holdRow 14 = .ok (.getfield 9, 3) := by decide +kernel
theorem dX5_holdRow_17 : decode cX5_holdRow 17 = .ok (.arraylength, 1) := by decide +kernel
theorem dX5_holdRow_18 : decode cX5_holdRow 18 = .ok (.invokestatic 28, 3) := by decide +kernel
theorem dX5_holdRow_21 : decode cX5_holdRow 21 = .ok (.invokestatic 34, 3) := by decide +kernel
theorem dX5_holdRow_24 : decode cX5_holdRow 24 = .ok (.putfield 37, 3) := by decide +kernel
theorem dX5_holdRow_27 : decode cX5_holdRow 27 = .ok (.iconst 0, 1) := by decide +kernel
theorem dX5_holdRow_28 : decode cX5_holdRow 28 = .ok (.istore_n 3, 1) := by decide +kernel
theorem dX5_holdRow_29 : decode cX5_holdRow 29 = .ok (.iload_n 3, 1) := by decide +kernel
theorem dX5_holdRow_30 : decode cX5_holdRow 30 = .ok (.aload_n 0, 1) := by decide +kernel
theorem dX5_holdRow_31 : decode cX5_holdRow 31 = .ok (.getfield 9, 3) := by decide +kernel
theorem dX5_holdRow_34 : decode cX5_holdRow 34 = .ok (.arraylength, 1) := by decide +kernel
theorem dX5_holdRow_35 : decode cX5_holdRow 35 = .ok (.if_icmp .ge 16, 3) := by decide +kernel
theorem dX5_holdRow_38 : decode cX5_holdRow 38 = .ok (.aload_n 0, 1) := by decide +kernel
theorem dX5_holdRow_39 : decode cX5_holdRow 39 = .ok (.getfield 9, 3) := by decide +kernel
theorem dX5_holdRow_42 : decode cX5_holdRow 42 = .ok (.iload_n 3, 1) := by decide +kernel
theorem dX5_holdRow_43 : decode cX5_holdRow 43 = .ok (.iconst 0, 1) := by decide +kernel
theorem dX5_holdRow_44 : decode cX5_holdRow 44 = .ok (.iastore, 1) := by decide +kernel
theorem dX5_holdRow_45 : decode cX5_holdRow 45 = .ok (.iinc 3 1, 3) := by decide +kernel
theorem dX5_holdRow_48 : decode cX5_holdRow 48 = .ok (.goto (-19), 3) := by decide +kernel
theorem dX5_holdRow_51 : decode cX5_holdRow 51 = .ok (.return_, 1) := by decide +kernel
theorem dX5_pinRefusal_0 : decode cX5_pinRefusal 0 = .ok (.aload_n 0, 1) := by decide +kernel
theorem dX5_pinRefusal_1 : decode cX5_pinRefusal 1 = .ok (.getfield 15, 3) := by decide +kernel
theorem dX5_pinRefusal_4 : decode cX5_pinRefusal 4 = .ok (.ifCond .ne 8, 3) := by decide +kernel
theorem dX5_pinRefusal_7 : decode cX5_pinRefusal 7 = .ok (.bipush (-11), 2) := by decide +kernel
theorem dX5_pinRefusal_9 : decode cX5_pinRefusal 9 = .ok (.goto 17, 3) := by decide +kernel
theorem dX5_pinRefusal_12 : decode cX5_pinRefusal 12 = .ok (.aload_n 0, 1) := by decide +kernel
theorem dX5_pinRefusal_13 : decode cX5_pinRefusal 13 = .ok (.getfield 15, 3) := by decide +kernel
theorem dX5_pinRefusal_16 : decode cX5_pinRefusal 16 = .ok (.iconst 1, 1) := by decide +kernel
theorem dX5_pinRefusal_17 : decode cX5_pinRefusal 17 = .ok (.if_icmp .ne 7, 3) := by decide +kernel
theorem dX5_pinRefusal_20 : decode cX5_pinRefusal 20 = .ok (.iconst 0, 1) := by decide +kernel
theorem dX5_pinRefusal_21 : decode cX5_pinRefusal 21 = .ok (.goto 5, 3) := by decide +kernel
theorem dX5_pinRefusal_24 : decode cX5_pinRefusal 24 = .ok (.bipush (-12), 2) := by decide +kernel
theorem dX5_pinRefusal_26 : decode cX5_pinRefusal 26 = .ok (.ireturn, 1) := by decide +kernel
theorem dX5_rowRefusal_0 : decode cX5_rowRefusal 0 = .ok (.aload_n 0, 1) := by decide +kernel
theorem dX5_rowRefusal_1 : decode cX5_rowRefusal 1 = .ok (.getfield 15, 3) := by decide +kernel
theorem dX5_rowRefusal_4 : decode cX5_rowRefusal 4 = .ok (.ifCond .ne 8, 3) := by decide +kernel
theorem dX5_rowRefusal_7 : decode cX5_rowRefusal 7 = .ok (.bipush (-11), 2) := by decide +kernel
theorem dX5_rowRefusal_9 : decode cX5_rowRefusal 9 = .ok (.goto 17, 3) := by decide +kernel
theorem dX5_rowRefusal_12 : decode cX5_rowRefusal 12 = .ok (.aload_n 0, 1) := by decide +kernel
theorem dX5_rowRefusal_13 : decode cX5_rowRefusal 13 = .ok (.getfield 15, 3) := by decide +kernel
theorem dX5_rowRefusal_16 : decode cX5_rowRefusal 16 = .ok (.iconst 2, 1) := by decide +kernel
theorem dX5_rowRefusal_17 : decode cX5_rowRefusal 17 = .ok (.if_icmp .ne 7, 3) := by decide +kernel
theorem dX5_rowRefusal_20 : decode cX5_rowRefusal 20 = .ok (.iconst 0, 1) := by decide +kernel
theorem dX5_rowRefusal_21 : decode cX5_rowRefusal 21 = .ok (.goto 5, 3) := by decide +kernel
theorem dX5_rowRefusal_24 : decode cX5_rowRefusal 24 = .ok (.bipush (-12), 2) := by decide +kernel
theorem dX5_rowRefusal_26 : decode cX5_rowRefusal 26 = .ok (.ireturn, 1) := by decide +kernel
theorem dX5_hasPlaces_0 : decode cX5_hasPlaces 0 = .ok (.iload_n 1, 1) := by decide +kernel
theorem dX5_hasPlaces_1 : decode cX5_hasPlaces 1 = .ok (.ifCond .lt 29, 3) := by decide +kernel
theorem dX5_hasPlaces_4 : decode cX5_hasPlaces 4 = .ok (.iload_n 2, 1) := by decide +kernel
theorem dX5_hasPlaces_5 : decode cX5_hasPlaces 5 = .ok (.ifCond .lt 25, 3) := by decide +kernel
theorem dX5_hasPlaces_8 : decode cX5_hasPlaces 8 = .ok (.iload_n 2, 1) := by decide +kernel
theorem dX5_hasPlaces_9 : decode cX5_hasPlaces 9 = .ok (.aload_n 0, 1) := by decide +kernel
theorem dX5_hasPlaces_10 : decode cX5_hasPlaces 10 = .ok (.getfield 37, 3) := by decide +kernel
theorem dX5_hasPlaces_13 : decode cX5_hasPlaces 13 = .ok (.if_icmp .gt 17, 3) := by decide +kernel
theorem dX5_hasPlaces_16 : decode cX5_hasPlaces 16 = .ok (.iload_n 1, 1) := by decide +kernel
theorem dX5_hasPlaces_17 : decode cX5_hasPlaces 17 = .ok (.aload_n 0, 1) := by decide +kernel
theorem dX5_hasPlaces_18 : decode cX5_hasPlaces 18 = .ok (.getfield 37, 3) := by decide +kernel
theorem dX5_hasPlaces_21 : decode cX5_hasPlaces 21 = .ok (.iload_n 2, 1) := by decide +kernel
theorem dX5_hasPlaces_22 : decode cX5_hasPlaces 22 = .ok (.isub, 1) := by decide +kernel
theorem dX5_hasPlaces_23 : decode cX5_hasPlaces 23 = .ok (.if_icmp .gt 7, 3) := by decide +kernel
theorem dX5_hasPlaces_26 : decode cX5_hasPlaces 26 = .ok (.iconst 1, 1) := by decide +kernel
theorem dX5_hasPlaces_27 : decode cX5_hasPlaces 27 = .ok (.goto 4, 3) := by decide +kernel
theorem dX5_hasPlaces_30 : decode cX5_hasPlaces 30 = .ok (.iconst 0, 1) := by decide +kernel
theorem dX5_hasPlaces_31 : decode cX5_hasPlaces 31 = .ok (.ireturn, 1) := by decide +kernel
theorem dX5_at_0 : decode cX5_at 0 = .ok (.iload_n 1, 1) := by decide +kernel
theorem dX5_at_1 : decode cX5_at 1 = .ok (.ifCond .lt 29, 3) := by decide +kernel
theorem dX5_at_4 : decode cX5_at 4 = .ok (.iload_n 1, 1) := by decide +kernel
theorem dX5_at_5 : decode cX5_at 5 = .ok (.aload_n 0, 1) := by decide +kernel
theorem dX5_at_6 : decode cX5_at 6 = .ok (.getfield 37, 3) := by decide +kernel
theorem dX5_at_9 : decode cX5_at 9 = .ok (.if_icmp .ge 21, 3) := by decide +kernel
theorem dX5_at_12 : decode cX5_at 12 = .ok (.iload_n 1, 1) := by decide +kernel
theorem dX5_at_13 : decode cX5_at 13 = .ok (.aload_n 0, 1) := by decide +kernel
theorem dX5_at_14 : decode cX5_at 14 = .ok (.getfield 9, 3) := by decide +kernel
theorem dX5_at_17 : decode cX5_at 17 = .ok (.arraylength, 1) := by decide +kernel
theorem dX5_at_18 : decode cX5_at 18 = .ok (.if_icmp .ge 12, 3) := by decide +kernel
theorem dX5_at_21 : decode cX5_at 21 = .ok (.aload_n 0, 1) := by decide +kernel
theorem dX5_at_22 : decode cX5_at 22 = .ok (.getfield 9, 3) := by decide +kernel
theorem dX5_at_25 : decode cX5_at 25 = .ok (.iload_n 1, 1) := by decide +kernel
theorem dX5_at_26 : decode cX5_at 26 = .ok (.iaload, 1) := by decide +kernel
theorem dX5_at_27 : decode cX5_at 27 = .ok (.goto 4, 3) := by decide +kernel
theorem dX5_at_30 : decode cX5_at 30 = .ok (.iconst 0, 1) := by decide +kernel
theorem dX5_at_31 : decode cX5_at 31 = .ok (.ireturn, 1) := by decide +kernel
theorem dX5_putAt_0 : decode cX5_putAt 0 = .ok (.iload_n 1, 1) := by decide +kernel
theorem dX5_putAt_1 : decode cX5_putAt 1 = .ok (.ifCond .lt 52, 3) := by decide +kernel
theorem dX5_putAt_4 : decode cX5_putAt 4 = .ok (.iload_n 1, 1) := by decide +kernel
theorem dX5_putAt_5 : decode cX5_putAt 5 = .ok (.aload_n 0, 1) := by decide +kernel
theorem dX5_putAt_6 : decode cX5_putAt 6 = .ok (.getfield 37, 3) := by decide +kernel
theorem dX5_putAt_9 : decode cX5_putAt 9 = .ok (.if_icmp .ge 44, 3) := by decide +kernel
theorem dX5_putAt_12 : decode cX5_putAt 12 = .ok (.iload_n 1, 1) := by decide +kernel
theorem dX5_putAt_13 : decode cX5_putAt 13 = .ok (.aload_n 0, 1) := by decide +kernel
theorem dX5_putAt_14 : decode cX5_putAt 14 = .ok (.getfield 9, 3) := by decide +kernel
theorem dX5_putAt_17 : decode cX5_putAt 17 = .ok (.arraylength, 1) := by decide +kernel
theorem dX5_putAt_18 : decode cX5_putAt 18 = .ok (.if_icmp .ge 35, 3) := by decide +kernel
theorem dX5_putAt_21 : decode cX5_putAt 21 = .ok (.aload_n 0, 1) := by decide +kernel
theorem dX5_putAt_22 : decode cX5_putAt 22 = .ok (.getfield 9, 3) := by decide +kernel
theorem dX5_putAt_25 : decode cX5_putAt 25 = .ok (.iload_n 1, 1) := by decide +kernel
theorem dX5_putAt_26 : decode cX5_putAt 26 = .ok (.aload_n 0, 1) := by decide +kernel
theorem dX5_putAt_27 : decode cX5_putAt 27 = .ok (.getfield 25, 3) := by decide +kernel
theorem dX5_putAt_30 : decode cX5_putAt 30 = .ok (.ifCond .ne 8, 3) := by decide +kernel
theorem dX5_putAt_33 : decode cX5_putAt 33 = .ok (.iload_n 2, 1) := by decide +kernel
theorem dX5_putAt_34 : decode cX5_putAt 34 = .ok (.i2b, 1) := by decide +kernel
theorem dX5_putAt_35 : decode cX5_putAt 35 = .ok (.goto 17, 3) := by decide +kernel
theorem dX5_putAt_38 : decode cX5_putAt 38 = .ok (.aload_n 0, 1) := by decide +kernel
theorem dX5_putAt_39 : decode cX5_putAt 39 = .ok (.getfield 25, 3) := by decide +kernel
theorem dX5_putAt_42 : decode cX5_putAt 42 = .ok (.iconst 1, 1) := by decide +kernel
theorem dX5_putAt_43 : decode cX5_putAt 43 = .ok (.if_icmp .ne 8, 3) := by decide +kernel
theorem dX5_putAt_46 : decode cX5_putAt 46 = .ok (.iload_n 2, 1) := by decide +kernel
theorem dX5_putAt_47 : decode cX5_putAt 47 = .ok (.i2s, 1) := by decide +kernel
theorem dX5_putAt_48 : decode cX5_putAt 48 = .ok (.goto 4, 3) := by decide +kernel
theorem dX5_putAt_51 : decode cX5_putAt 51 = .ok (.iload_n 2, 1) := by decide +kernel
theorem dX5_putAt_52 : decode cX5_putAt 52 = .ok (.iastore, 1) := by decide +kernel
theorem dX5_putAt_53 : decode cX5_putAt 53 = .ok (.return_, 1) := by decide +kernel
theorem dX5_leastNumber_0 : decode cX5_leastNumber 0 = .ok (.aload_n 0, 1) := by decide +kernel
theorem dX5_leastNumber_1 : decode cX5_leastNumber 1 = .ok (.getfield 25, 3) := by decide +kernel
theorem dX5_leastNumber_4 : decode cX5_leastNumber 4 = .ok (.ifCond .ne 8, 3) := by decide +kernel
theorem dX5_leastNumber_7 : decode cX5_leastNumber 7 = .ok (.bipush (-128), 2) := by decide +kernel
theorem dX5_leastNumber_9 : decode cX5_leastNumber 9 = .ok (.goto 19, 3) := by decide +kernel
theorem dX5_leastNumber_12 : decode cX5_leastNumber 12 = .ok (.aload_n 0, 1) := by decide +kernel
theorem dX5_leastNumber_13 : decode cX5_leastNumber 13 = .ok (.getfield 25, 3) := by decide +kernel
theorem dX5_leastNumber_16 : decode cX5_leastNumber 16 = .ok (.iconst 1, 1) := by decide +kernel
theorem dX5_leastNumber_17 : decode cX5_leastNumber 17 = .ok (.if_icmp .ne 9, 3) := by decide +kernel
theorem dX5_leastNumber_20 : decode cX5_leastNumber 20 = .ok (.sipush (-32768), 3) := by decide +kernel
theorem dX5_leastNumber_23 : decode cX5_leastNumber 23 = .ok (.goto 5, 3) := by decide +kernel
theorem dX5_leastNumber_26 : decode cX5_leastNumber 26 = .ok (.ldc 40, 2) := by decide +kernel
theorem dX5_leastNumber_28 : decode cX5_leastNumber 28 = .ok (.ireturn, 1) := by decide +kernel
theorem dX5_takeFrom_0 : decode cX5_takeFrom 0 = .ok (.aload_n 1, 1) := by decide +kernel
theorem dX5_takeFrom_1 : decode cX5_takeFrom 1 = .ok (.iload_n 2, 1) := by decide +kernel
theorem dX5_takeFrom_2 : decode cX5_takeFrom 2 = .ok (.iload 4, 2) := by decide +kernel
theorem dX5_takeFrom_4 : decode cX5_takeFrom 4 = .ok (.invokevirtual 41, 3) := by decide +kernel
theorem dX5_takeFrom_7 : decode cX5_takeFrom 7 = .ok (.ifCond .eq 28, 3) := by decide +kernel
theorem dX5_takeFrom_10 : decode cX5_takeFrom 10 = .ok (.aload_n 0, 1) := by decide +kernel
theorem dX5_takeFrom_11 : decode cX5_takeFrom 11 = .ok (.iload_n 3, 1) := by decide +kernel
theorem dX5_takeFrom_12 : decode cX5_takeFrom 12 = .ok (.iload 4, 2) := by decide +kernel
theorem dX5_takeFrom_14 : decode cX5_takeFrom 14 = .ok (.invokevirtual 41, 3) := by decide +kernel
theorem dX5_takeFrom_17 : decode cX5_takeFrom 17 = .ok (.ifCond .eq 18, 3) := by decide +kernel
theorem dX5_takeFrom_20 : decode cX5_takeFrom 20 = .ok (.aload_n 1, 1) := by decide +kernel
theorem dX5_takeFrom_21 : decode cX5_takeFrom 21 = .ok (.getfield 9, 3) := by decide +kernel
theorem dX5_takeFrom_24 : decode cX5_takeFrom 24 = .ok (.iload_n 2, 1) := by decide +kernel
theorem dX5_takeFrom_25 : decode cX5_takeFrom 25 = .ok (.aload_n 0, 1) := by decide +kernel
theorem dX5_takeFrom_26 : decode cX5_takeFrom 26 = .ok (.getfield 9, 3) := by decide +kernel
theorem dX5_takeFrom_29 : decode cX5_takeFrom 29 = .ok (.iload_n 3, 1) := by decide +kernel
theorem dX5_takeFrom_30 : decode cX5_takeFrom 30 = .ok (.iload 4, 2) := by decide +kernel
theorem dX5_takeFrom_32 : decode cX5_takeFrom 32 = .ok (.invokestatic 45, 3) := by decide +kernel
theorem dX5_takeFrom_35 : decode cX5_takeFrom 35 = .ok (.return_, 1) := by decide +kernel
theorem dX6_init_0 : decode cX6_init 0 = .ok (.aload_n 0, 1) := by decide +kernel
theorem dX6_init_1 : decode cX6_init 1 = .ok (.invokespecial 1, 3) := by decide +kernel
theorem dX6_init_4 : decode cX6_init 4 = .ok (.return_, 1) := by decide +kernel
theorem dX6_work_0 : decode cX6_work 0 = .ok (.aload_n 0, 1) := by decide +kernel
theorem dX6_work_1 : decode cX6_work 1 = .ok (.aload_n 1, 1) := by decide +kernel
theorem dX6_work_2 : decode cX6_work 2 = .ok (.iload_n 2, 1) := by decide +kernel
theorem dX6_work_3 : decode cX6_work 3 = .ok (.iload_n 3, 1) := by decide +kernel
theorem dX6_work_4 : decode cX6_work 4 = .ok (.invokespecial 7, 3) := by decide +kernel
theorem dX6_work_7 : decode cX6_work 7 = .ok (.aload_n 1, 1) := by decide +kernel
theorem dX6_work_8 : decode cX6_work 8 = .ok (.iload_n 3, 1) := by decide +kernel
theorem dX6_work_9 : decode cX6_work 9 = .ok (.invokevirtual 11, 3) := by decide +kernel
theorem dX6_work_12 : decode cX6_work 12 = .ok (.return_, 1) := by decide +kernel
theorem dX6_cost_0 : decode cX6_cost 0 = .ok (.aload_n 0, 1) := by decide +kernel
theorem dX6_cost_1 : decode cX6_cost 1 = .ok (.iload_n 1, 1) := by decide +kernel
theorem dX6_cost_2 : decode cX6_cost 2 = .ok (.invokespecial 17, 3) := by decide +kernel
theorem dX6_cost_5 : decode cX6_cost 5 = .ok (.iload_n 1, 1) := by decide +kernel
theorem dX6_cost_6 : decode cX6_cost 6 = .ok (.isub, 1) := by decide +kernel
theorem dX6_cost_7 : decode cX6_cost 7 = .ok (.ireturn, 1) := by decide +kernel
theorem dX7_init_0 : decode cX7_init 0 = .ok (.aload_n 0, 1) := by decide +kernel
theorem dX7_init_1 : decode cX7_init 1 = .ok (.invokespecial 3, 3) := by decide +kernel
theorem dX7_init_4 : decode cX7_init 4 = .ok (.return_, 1) := by decide +kernel
theorem dX7_canBe_0 : decode cX7_canBe 0 = .ok (.aload_n 1, 1) := by decide +kernel
theorem dX7_canBe_1 : decode cX7_canBe 1 = .ok (.iload_n 2, 1) := by decide +kernel
theorem dX7_canBe_2 : decode cX7_canBe 2 = .ok (.iconst 1, 1) := by decide +kernel
theorem dX7_canBe_3 : decode cX7_canBe 3 = .ok (.invokevirtual 9, 3) := by decide +kernel
theorem dX7_canBe_6 : decode cX7_canBe 6 = .ok (.iload_n 3, 1) := by decide +kernel
theorem dX7_canBe_7 : decode cX7_canBe 7 = .ok (.if_icmp .le 7, 3) := by decide +kernel
theorem dX7_canBe_10 : decode cX7_canBe 10 = .ok (.iconst 1, 1) := by decide +kernel
theorem dX7_canBe_11 : decode cX7_canBe 11 = .ok (.goto 4, 3) := by decide +kernel
theorem dX7_canBe_14 : decode cX7_canBe 14 = .ok (.iconst 0, 1) := by decide +kernel
theorem dX7_canBe_15 : decode cX7_canBe 15 = .ok (.ireturn, 1) := by decide +kernel
theorem dX7_work_0 : decode cX7_work 0 = .ok (.aload_n 1, 1) := by decide +kernel
theorem dX7_work_1 : decode cX7_work 1 = .ok (.iload_n 2, 1) := by decide +kernel
theorem dX7_work_2 : decode cX7_work 2 = .ok (.iload_n 3, 1) := by decide +kernel
theorem dX7_work_3 : decode cX7_work 3 = .ok (.ineg, 1) := by decide +kernel
theorem dX7_work_4 : decode cX7_work 4 = .ok (.invokevirtual 15, 3) := by decide +kernel
theorem dX7_work_7 : decode cX7_work 7 = .ok (.aload_n 1, 1) := by decide +kernel
theorem dX7_work_8 : decode cX7_work 8 = .ok (.iload_n 2, 1) := by decide +kernel
theorem dX7_work_9 : decode cX7_work 9 = .ok (.iload_n 3, 1) := by decide +kernel
theorem dX7_work_10 : decode cX7_work 10 = .ok (.iconst 2, 1) := by decide +kernel
theorem dX7_work_11 : decode cX7_work 11 = .ok (.idiv, 1) := by decide +kernel
theorem dX7_work_12 : decode cX7_work 12 = .ok (.invokevirtual 19, 3) := by decide +kernel
theorem dX7_work_15 : decode cX7_work 15 = .ok (.return_, 1) := by decide +kernel
theorem dX7_cost_0 : decode cX7_cost 0 = .ok (.aload_n 0, 1) := by decide +kernel
theorem dX7_cost_1 : decode cX7_cost 1 = .ok (.iload_n 1, 1) := by decide +kernel
theorem dX7_cost_2 : decode cX7_cost 2 = .ok (.invokespecial 22, 3) := by decide +kernel
theorem dX7_cost_5 : decode cX7_cost 5 = .ok (.iload_n 1, 1) := by decide +kernel
theorem dX7_cost_6 : decode cX7_cost 6 = .ok (.iadd, 1) := by decide +kernel
theorem dX7_cost_7 : decode cX7_cost 7 = .ok (.ireturn, 1) := by decide +kernel
theorem dX8_init_0 : decode cX8_init 0 = .ok (.aload_n 0, 1) := by decide +kernel
theorem dX8_init_1 : decode cX8_init 1 = .ok (.invokespecial 3, 3) := by decide +kernel
theorem dX8_init_4 : decode cX8_init 4 = .ok (.aload_n 0, 1) := by decide +kernel
theorem dX8_init_5 : decode cX8_init 5 = .ok (.iconst 4, 1) := by decide +kernel
theorem dX8_init_6 : decode cX8_init 6 = .ok (.newarray .int, 2) := by decide +kernel
theorem dX8_init_8 : decode cX8_init 8 = .ok (.putfield 9, 3) := by decide +kernel
theorem dX8_init_11 : decode cX8_init 11 = .ok (.return_, 1) := by decide +kernel
theorem dX8_formBehind_0 : decode cX8_formBehind 0 = .ok (.iload_n 0, 1) := by decide +kernel
theorem dX8_formBehind_1 : decode cX8_formBehind 1 = .ok (.tableswitch 63 108 116 #[57, 63, 63, 63, 60, 63, 51, 63, 54], 51) := by decide +kernel
theorem dX8_formBehind_52 : decode cX8_formBehind 52 = .ok (.ldc 15, 2) := by decide +kernel
theorem dX8_formBehind_54 : decode cX8_formBehind 54 = .ok (.areturn, 1) := by decide +kernel
theorem dX8_formBehind_55 : decode cX8_formBehind 55 = .ok (.ldc 17, 2) := by decide +kernel
theorem dX8_formBehind_57 : decode cX8_formBehind 57 = .ok (.areturn, 1) := by decide +kernel
theorem dX8_formBehind_58 : decode cX8_formBehind 58 = .ok (.ldc 19, 2) := by decide +kernel
theorem dX8_formBehind_60 : decode cX8_formBehind 60 = .ok (.areturn, 1) := by decide +kernel
theorem dX8_formBehind_61 : decode cX8_formBehind 61 = .ok (.ldc 21, 2) := by decide +kernel
theorem dX8_formBehind_63 : decode cX8_formBehind 63 = .ok (.areturn, 1) := by decide +kernel
theorem dX8_formBehind_64 : decode cX8_formBehind 64 = .ok (.ldc 23, 2) := by decide +kernel
theorem dX8_formBehind_66 : decode cX8_formBehind 66 = .ok (.areturn, 1) := by decide +kernel
theorem dX8_readStatement_0 : decode cX8_readStatement 0 = .ok (.aload_n 0, 1) := by decide +kernel
theorem dX8_readStatement_1 : decode cX8_readStatement 1 = .ok (.iconst 0, 1) := by decide +kernel
theorem dX8_readStatement_2 : decode cX8_readStatement 2 = .ok (.putfield 25, 3) := by decide +kernel
theorem dX8_readStatement_5 : decode cX8_readStatement 5 = .ok (.aload_n 0, 1) := by decide +kernel
theorem dX8_readStatement_6 : decode cX8_readStatement 6 = .ok (.aload_n 1, 1) := by decide +kernel
theorem dX8_readStatement_7 : decode cX8_readStatement 7 = .ok (.aload_n 0, 1) := by decide +kernel
theorem dX8_readStatement_8 : decode cX8_readStatement 8 = .ok (.getfield 29, 3) := by decide +kernel
theorem dX8_readStatement_11 : decode cX8_readStatement 11 = .ok (.invokevirtual 32, 3) := by decide +kernel
theorem dX8_readStatement_14 : decode cX8_readStatement 14 = .ok (.putfield 38, 3) := by decide +kernel
theorem dX8_readStatement_17 : decode cX8_readStatement 17 = .ok (.aload_n 0, 1) := by decide +kernel
theorem dX8_readStatement_18 : decode cX8_readStatement 18 = .ok (.getfield 38, 3) := by decide +kernel
theorem dX8_readStatement_21 : decode cX8_readStatement 21 = .ok (.invokestatic 41, 3) := by decide +kernel
theorem dX8_readStatement_24 : decode cX8_readStatement 24 = .ok (.astore_n 2, 1) := by decide +kernel
theorem dX8_readStatement_25 : decode cX8_readStatement 25 = .ok (.aload_n 2, 1) := by decide +kernel
theorem dX8_readStatement_26 : decode cX8_readStatement 26 = .ok (.invokevirtual 45, 3) := by decide +kernel
theorem dX8_readStatement_29 : decode cX8_readStatement 29 = .ok (.ifCond .eq 5, 3) := by decide +kernel
theorem dX8_readStatement_32 : decode cX8_readStatement 32 = .ok (.iconst 0, 1) := by decide +kernel
theorem dX8_readStatement_33 : decode cX8_readStatement 33 = .ok (.ireturn, 1) := by decide +kernel
theorem dX8_readStatement_34 : decode cX8_readStatement 34 = .ok (.aload_n 0, 1) := by decide +kernel
theorem dX8_readStatement_35 : decode cX8_readStatement 35 = .ok (.dup, 1) := by decide +kernel
theorem dX8_readStatement_36 : decode cX8_readStatement 36 = .ok (.getfield 29, 3) := by decide +kernel
theorem dX8_readStatement_39 : decode cX8_readStatement 39 = .ok (.iconst 1, 1) := by decide +kernel
theorem dX8_readStatement_40 : decode cX8_readStatement 40 = .ok (.iadd, 1) := by decide +kernel
theorem dX8_readStatement_41 : decode cX8_readStatement 41 = .ok (.putfield 29, 3) := by decide +kernel
theorem dX8_readStatement_44 : decode cX8_readStatement 44 = .ok (.iconst 0, 1) := by decide +kernel
theorem dX8_readStatement_45 : decode cX8_readStatement 45 = .ok (.istore_n 3, 1) := by decide +kernel
theorem dX8_readStatement_46 : decode cX8_readStatement 46 = .ok (.iload_n 3, 1) := by decide +kernel
theorem dX8_readStatement_47 : decode cX8_readStatement 47 = .ok (.aload_n 2, 1) := by decide +kernel
theorem dX8_readStatement_48 : decode cX8_readStatement 48 = .ok (.invokevirtual 51, 3) := by decide +kernel
theorem dX8_readStatement_51 : decode cX8_readStatement 51 = .ok (.if_icmp .ge 24, 3) := by decide +kernel
theorem dX8_readStatement_54 : decode cX8_readStatement 54 = .ok (.aload_n 0, 1) := by decide +kernel
theorem dX8_readStatement_55 : decode cX8_readStatement 55 = .ok (.aload_n 1, 1) := by decide +kernel
theorem dX8_readStatement_56 : decode cX8_readStatement 56 = .ok (.aload_n 2, 1) := by decide +kernel
theorem dX8_readStatement_57 : decode cX8_readStatement 57 = .ok (.iload_n 3, 1) := by decide +kernel
theorem dX8_readStatement_58 : decode cX8_readStatement 58 = .ok (.invokevirtual 55, 3) := by decide +kernel
theorem dX8_readStatement_61 : decode cX8_readStatement 61 = .ok (.invokevirtual 59, 3) := by decide +kernel
theorem dX8_readStatement_64 : decode cX8_readStatement 64 = .ok (.ifCond .ne 5, 3) := by decide +kernel
theorem dX8_readStatement_67 : decode cX8_readStatement 67 = .ok (.iconst 0, 1) := by decide +kernel
theorem dX8_readStatement_68 : decode cX8_readStatement 68 = .ok (.ireturn, 1) := by decide +kernel
theorem dX8_readStatement_69 : decode cX8_readStatement 69 = .ok (.iinc 3 1, 3) := by decide +kernel
theorem dX8_readStatement_72 : decode cX8_readStatement 72 = .ok (.goto (-26), 3) := by decide +kernel
theorem dX8_readStatement_75 : decode cX8_readStatement 75 = .ok (.iconst 1, 1) := by decide +kernel
theorem dX8_readStatement_76 : decode cX8_readStatement 76 = .ok (.ireturn, 1) := by decide +kernel
theorem dX8_readPart_0 : decode cX8_readPart 0 = .ok (.iload_n 2, 1) := by decide +kernel
theorem dX8_readPart_1 : decode cX8_readPart 1 = .ok (.bipush 110, 2) := by decide +kernel
theorem dX8_readPart_3 : decode cX8_readPart 3 = .ok (.if_icmp .eq 9, 3) := by decide +kernel
theorem dX8_readPart_6 : decode cX8_readPart 6 = .ok (.iload_n 2, 1) := by decide +kernel
theorem dX8_readPart_7 : decode cX8_readPart 7 = .ok (.bipush 100, 2) := by decide +kernel
theorem dX8_readPart_9 : decode cX8_readPart 9 = .ok (.if_icmp .ne 20, 3) := by decide +kernel
theorem dX8_readPart_12 : decode cX8_readPart 12 = .ok (.aload_n 0, 1) := by decide +kernel
theorem dX8_readPart_13 : decode cX8_readPart 13 = .ok (.aload_n 1, 1) := by decide +kernel
theorem dX8_readPart_14 : decode cX8_readPart 14 = .ok (.iload_n 2, 1) := by decide +kernel
theorem dX8_readPart_15 : decode cX8_readPart 15 = .ok (.bipush 110, 2) := by decide +kernel
theorem dX8_readPart_17 : decode cX8_readPart 17 = .ok (.if_icmp .ne 7, 3) := by decide +kernel
theorem dX8_readPart_20 : decode cX8_readPart 20 = .ok (.iconst 1, 1) := by decide +kernel
theorem dX8_readPart_21 : decode cX8_readPart 21 = .ok (.goto 4, 3) := by decide +kernel
theorem dX8_readPart_24 : decode cX8_readPart 24 = .ok (.iconst 0, 1) := by decide +kernel
theorem dX8_readPart_25 : decode cX8_readPart 25 = .ok (.invokevirtual 63, 3) := by decide +kernel
theorem dX8_readPart_28 : decode cX8_readPart 28 = .ok (.ireturn, 1) := by decide +kernel
theorem dX8_readPart_29 : decode cX8_readPart 29 = .ok (.aload_n 1, 1) := by decide +kernel
theorem dX8_readPart_30 : decode cX8_readPart 30 = .ok (.aload_n 0, 1) := by decide +kernel
theorem dX8_readPart_31 : decode cX8_readPart 31 = .ok (.getfield 29, 3) := by decide +kernel
theorem dX8_readPart_34 : decode cX8_readPart 34 = .ok (.invokevirtual 32, 3) := by decide +kernel
theorem dX8_readPart_37 : decode cX8_readPart 37 = .ok (.iload_n 2, 1) := by decide +kernel
theorem dX8_readPart_38 : decode cX8_readPart 38 = .ok (.if_icmp .eq 5, 3) := by decide +kernel
theorem dX8_readPart_41 : decode cX8_readPart 41 = .ok (.iconst 0, 1) := by decide +kernel
theorem dX8_readPart_42 : decode cX8_readPart 42 = .ok (.ireturn, 1) := by decide +kernel
theorem dX8_readPart_43 : decode cX8_readPart 43 = .ok (.aload_n 0, 1) := by decide +kernel
theorem dX8_readPart_44 : decode cX8_readPart 44 = .ok (.dup, 1) := by decide +kernel
theorem dX8_readPart_45 : decode cX8_readPart 45 = .ok (.getfield 29, 3) := by decide +kernel
theorem dX8_readPart_48 : decode cX8_readPart 48 = .ok (.iconst 1, 1) := by decide +kernel
theorem dX8_readPart_49 : decode cX8_readPart 49 = .ok (.iadd, 1) := by decide +kernel
theorem dX8_readPart_50 : decode cX8_readPart 50 = .ok (.putfield 29, 3) := by decide +kernel
theorem dX8_readPart_53 : decode cX8_readPart 53 = .ok (.iconst 1, 1) := by decide +kernel
theorem dX8_readPart_54 : decode cX8_readPart 54 = .ok (.ireturn, 1) := by decide +kernel
theorem dX8_readNumber_0 : decode cX8_readNumber 0 = .ok (.aload_n 0, 1) := by decide +kernel
theorem dX8_readNumber_1 : decode cX8_readNumber 1 = .ok (.aload_n 1, 1) := by decide +kernel
theorem dX8_readNumber_2 : decode cX8_readNumber 2 = .ok (.invokevirtual 67, 3) := by decide +kernel
theorem dX8_readNumber_5 : decode cX8_readNumber 5 = .ok (.istore_n 3, 1) := by decide +kernel
theorem dX8_readNumber_6 : decode cX8_readNumber 6 = .ok (.iload_n 3, 1) := by decide +kernel
theorem dX8_readNumber_7 : decode cX8_readNumber 7 = .ok (.ifCond .ge 5, 3) := by decide +kernel
theorem dX8_readNumber_10 : decode cX8_readNumber 10 = .ok (.iconst 0, 1) := by decide +kernel
theorem dX8_readNumber_11 : decode cX8_readNumber 11 = .ok (.ireturn, 1) := by decide +kernel
theorem dX8_readNumber_12 : decode cX8_readNumber 12 = .ok (.aload_n 0, 1) := by decide +kernel
theorem dX8_readNumber_13 : decode cX8_readNumber 13 = .ok (.dup, 1) := by decide +kernel
theorem dX8_readNumber_14 : decode cX8_readNumber 14 = .ok (.getfield 29, 3) := by decide +kernel
theorem dX8_readNumber_17 : decode cX8_readNumber 17 = .ok (.iconst 1, 1) := by decide +kernel
theorem dX8_readNumber_18 : decode cX8_readNumber 18 = .ok (.iadd, 1) := by decide +kernel
theorem dX8_readNumber_19 : decode cX8_readNumber 19 = .ok (.putfield 29, 3) := by decide +kernel
theorem dX8_readNumber_22 : decode cX8_readNumber 22 = .ok (.aload_n 0, 1) := by decide +kernel
theorem dX8_readNumber_23 : decode cX8_readNumber 23 = .ok (.aload_n 1, 1) := by decide +kernel
theorem dX8_readNumber_24 : decode cX8_readNumber 24 = .ok (.invokevirtual 67, 3) := by decide +kernel
theorem dX8_readNumber_27 : decode cX8_readNumber 27 = .ok (.istore 4, 2) := by decide +kernel
theorem dX8_readNumber_29 : decode cX8_readNumber 29 = .ok (.iload_n 2, 1) := by decide +kernel
theorem dX8_readNumber_30 : decode cX8_readNumber 30 = .ok (.ifCond .eq 30, 3) := by decide +kernel
theorem dX8_readNumber_33 : decode cX8_readNumber 33 = .ok (.iload_n 3, 1) := by decide +kernel
theorem dX8_readNumber_34 : decode cX8_readNumber 34 = .ok (.ifCond .le 26, 3) := by decide +kernel
theorem dX8_readNumber_37 : decode cX8_readNumber 37 = .ok (.iload 4, 2) := by decide +kernel
theorem dX8_readNumber_39 : decode cX8_readNumber 39 = .ok (.ifCond .lt 21, 3) := by decide +kernel
theorem dX8_readNumber_42 : decode cX8_readNumber 42 = .ok (.bipush 10, 2) := by decide +kernel
theorem dX8_readNumber_44 : decode cX8_readNumber 44 = .ok (.iload_n 3, 1) := by decide +kernel
theorem dX8_readNumber_45 : decode cX8_readNumber 45 = .ok (.imul, 1) := by decide +kernel
theorem dX8_readNumber_46 : decode cX8_readNumber 46 = .ok (.iload 4, 2) := by decide +kernel
theorem dX8_readNumber_48 : decode cX8_readNumber 48 = .ok (.iadd, 1) := by decide +kernel
theorem dX8_readNumber_49 : decode cX8_readNumber 49 = .ok (.istore_n 3, 1) := by decide +kernel
theorem dX8_readNumber_50 : decode cX8_readNumber 50 = .ok (.aload_n 0, 1) := by decide +kernel
theorem dX8_readNumber_51 : decode cX8_readNumber 51 = .ok (.dup, 1) := by decide +kernel
theorem dX8_readNumber_52 : decode cX8_readNumber 52 = .ok (.getfield 29, 3) := by decide +kernel
theorem dX8_readNumber_55 : decode cX8_readNumber 55 = .ok (.iconst 1, 1) := by decide +kernel
theorem dX8_readNumber_56 : decode cX8_readNumber 56 = .ok (.iadd, 1) := by decide +kernel
theorem dX8_readNumber_57 : decode cX8_readNumber 57 = .ok (.putfield 29, 3) := by decide +kernel
theorem dX8_readNumber_60 : decode cX8_readNumber 60 = .ok (.aload_n 0, 1) := by decide +kernel
theorem dX8_readNumber_61 : decode cX8_readNumber 61 = .ok (.getfield 25, 3) := by decide +kernel
theorem dX8_readNumber_64 : decode cX8_readNumber 64 = .ok (.ifCond .lt 35, 3) := by decide +kernel
theorem dX8_readNumber_67 : decode cX8_readNumber 67 = .ok (.aload_n 0, 1) := by decide +kernel
theorem dX8_readNumber_68 : decode cX8_readNumber 68 = .ok (.getfield 25, 3) := by decide +kernel
theorem dX8_readNumber_71 : decode cX8_readNumber 71 = .ok (.aload_n 0, 1) := by decide +kernel
theorem dX8_readNumber_72 : decode cX8_readNumber 72 = .ok (.getfield 9, 3) := by decide +kernel
theorem dX8_readNumber_75 : decode cX8_readNumber 75 = .ok (.arraylength, 1) := by decide +kernel
theorem dX8_readNumber_76 : decode cX8_readNumber 76 = .ok (.if_icmp .ge 23, 3) := by decide +kernel
theorem dX8_readNumber_79 : decode cX8_readNumber 79 = .ok (.aload_n 0, 1) := by decide +kernel
theorem dX8_readNumber_80 : decode cX8_readNumber 80 = .ok (.getfield 9, 3) := by decide +kernel
theorem dX8_readNumber_83 : decode cX8_readNumber 83 = .ok (.aload_n 0, 1) := by decide +kernel
theorem dX8_readNumber_84 : decode cX8_readNumber 84 = .ok (.getfield 25, 3) := by decide +kernel
theorem dX8_readNumber_87 : decode cX8_readNumber 87 = .ok (.iload_n 3, 1) := by decide +kernel
theorem dX8_readNumber_88 : decode cX8_readNumber 88 = .ok (.iastore, 1) := by decide +kernel
theorem dX8_readNumber_89 : decode cX8_readNumber 89 = .ok (.aload_n 0, 1) := by decide +kernel
theorem dX8_readNumber_90 : decode cX8_readNumber 90 = .ok (.dup, 1) := by decide +kernel
theorem dX8_readNumber_91 : decode cX8_readNumber 91 = .ok (.getfield 25, 3) := by decide +kernel
theorem dX8_readNumber_94 : decode cX8_readNumber 94 = .ok (.iconst 1, 1) := by decide +kernel
theorem dX8_readNumber_95 : decode cX8_readNumber 95 = .ok (.iadd, 1) := by decide +kernel
theorem dX8_readNumber_96 : decode cX8_readNumber 96 = .ok (.putfield 25, 3) := by decide +kernel
theorem dX8_readNumber_99 : decode cX8_readNumber 99 = .ok (.iconst 1, 1) := by decide +kernel
theorem dX8_readNumber_100 : decode cX8_readNumber 100 = .ok (.ireturn, 1) := by decide +kernel
theorem dX8_digitHere_0 : decode cX8_digitHere 0 = .ok (.aload_n 1, 1) := by decide +kernel
theorem dX8_digitHere_1 : decode cX8_digitHere 1 = .ok (.aload_n 0, 1) := by decide +kernel
theorem dX8_digitHere_2 : decode cX8_digitHere 2 = .ok (.getfield 29, 3) := by decide +kernel
theorem dX8_digitHere_5 : decode cX8_digitHere 5 = .ok (.invokevirtual 32, 3) := by decide +kernel
theorem dX8_digitHere_8 : decode cX8_digitHere 8 = .ok (.istore_n 2, 1) := by decide +kernel
theorem dX8_digitHere_9 : decode cX8_digitHere 9 = .ok (.iload_n 2, 1) := by decide +kernel
theorem dX8_digitHere_10 : decode cX8_digitHere 10 = .ok (.bipush 48, 2) := by decide +kernel
theorem dX8_digitHere_12 : decode cX8_digitHere 12 = .ok (.bipush 57, 2) := by decide +kernel
theorem dX8_digitHere_14 : decode cX8_digitHere 14 = .ok (.invokestatic 71, 3) := by decide +kernel
theorem dX8_digitHere_17 : decode cX8_digitHere 17 = .ok (.ifCond .eq 10, 3) := by decide +kernel
theorem dX8_digitHere_20 : decode cX8_digitHere 20 = .ok (.iload_n 2, 1) := by decide +kernel
theorem dX8_digitHere_21 : decode cX8_digitHere 21 = .ok (.bipush 48, 2) := by decide +kernel
theorem dX8_digitHere_23 : decode cX8_digitHere 23 = .ok (.isub, 1) := by decide +kernel
theorem dX8_digitHere_24 : decode cX8_digitHere 24 = .ok (.goto 4, 3) := by decide +kernel
theorem dX8_digitHere_27 : decode cX8_digitHere 27 = .ok (.iconst (-1), 1) := by decide +kernel
theorem dX8_digitHere_28 : decode cX8_digitHere 28 = .ok (.ireturn, 1) := by decide +kernel
theorem dX8_number_0 : decode cX8_number 0 = .ok (.iload_n 1, 1) := by decide +kernel
theorem dX8_number_1 : decode cX8_number 1 = .ok (.ifCond .lt 29, 3) := by decide +kernel
theorem dX8_number_4 : decode cX8_number 4 = .ok (.iload_n 1, 1) := by decide +kernel
theorem dX8_number_5 : decode cX8_number 5 = .ok (.aload_n 0, 1) := by decide +kernel
theorem dX8_number_6 : decode cX8_number 6 = .ok (.getfield 25, 3) := by decide +kernel
theorem dX8_number_9 : decode cX8_number 9 = .ok (.if_icmp .ge 21, 3) := by decide +kernel
theorem dX8_number_12 : decode cX8_number 12 = .ok (.iload_n 1, 1) := by decide +kernel
theorem dX8_number_13 : decode cX8_number 13 = .ok (.aload_n 0, 1) := by decide +kernel
theorem dX8_number_14 : decode cX8_number 14 = .ok (.getfield 9, 3) := by decide +kernel
theorem dX8_number_17 : decode cX8_number 17 = .ok (.arraylength, 1) := by decide +kernel
theorem dX8_number_18 : decode cX8_number 18 = .ok (.if_icmp .ge 12, 3) := by decide +kernel
theorem dX8_number_21 : decode cX8_number 21 = .ok (.aload_n 0, 1) := by decide +kernel
theorem dX8_number_22 : decode cX8_number 22 = .ok (.getfield 9, 3) := by decide +kernel
theorem dX8_number_25 : decode cX8_number 25 = .ok (.iload_n 1, 1) := by decide +kernel
theorem dX8_number_26 : decode cX8_number 26 = .ok (.iaload, 1) := by decide +kernel
theorem dX8_number_27 : decode cX8_number 27 = .ok (.goto 4, 3) := by decide +kernel
theorem dX8_number_30 : decode cX8_number 30 = .ok (.iconst 0, 1) := by decide +kernel
theorem dX8_number_31 : decode cX8_number 31 = .ok (.ireturn, 1) := by decide +kernel
theorem dX9_init_0 : decode cX9_init 0 = .ok (.aload_n 0, 1) := by decide +kernel
theorem dX9_init_1 : decode cX9_init 1 = .ok (.invokespecial 1, 3) := by decide +kernel
theorem dX9_init_4 : decode cX9_init 4 = .ok (.return_, 1) := by decide +kernel
theorem dX9_canBe_0 : decode cX9_canBe 0 = .ok (.aload_n 0, 1) := by decide +kernel
theorem dX9_canBe_1 : decode cX9_canBe 1 = .ok (.aload_n 1, 1) := by decide +kernel
theorem dX9_canBe_2 : decode cX9_canBe 2 = .ok (.iload_n 2, 1) := by decide +kernel
theorem dX9_canBe_3 : decode cX9_canBe 3 = .ok (.iload_n 3, 1) := by decide +kernel
theorem dX9_canBe_4 : decode cX9_canBe 4 = .ok (.invokespecial 7, 3) := by decide +kernel
theorem dX9_canBe_7 : decode cX9_canBe 7 = .ok (.ifCond .eq 17, 3) := by decide +kernel
theorem dX9_canBe_10 : decode cX9_canBe 10 = .ok (.aload_n 1, 1) := by decide +kernel
theorem dX9_canBe_11 : decode cX9_canBe 11 = .ok (.iload_n 2, 1) := by decide +kernel
theorem dX9_canBe_12 : decode cX9_canBe 12 = .ok (.iconst 1, 1) := by decide +kernel
theorem dX9_canBe_13 : decode cX9_canBe 13 = .ok (.iadd, 1) := by decide +kernel
theorem dX9_canBe_14 : decode cX9_canBe 14 = .ok (.invokevirtual 11, 3) := by decide +kernel
theorem dX9_canBe_17 : decode cX9_canBe 17 = .ok (.ifCond .eq 7, 3) := by decide +kernel
theorem dX9_canBe_20 : decode cX9_canBe 20 = .ok (.iconst 1, 1) := by decide +kernel
theorem dX9_canBe_21 : decode cX9_canBe 21 = .ok (.goto 4, 3) := by decide +kernel
theorem dX9_canBe_24 : decode cX9_canBe 24 = .ok (.iconst 0, 1) := by decide +kernel
theorem dX9_canBe_25 : decode cX9_canBe 25 = .ok (.ireturn, 1) := by decide +kernel
theorem dX9_work_0 : decode cX9_work 0 = .ok (.aload_n 0, 1) := by decide +kernel
theorem dX9_work_1 : decode cX9_work 1 = .ok (.aload_n 1, 1) := by decide +kernel
theorem dX9_work_2 : decode cX9_work 2 = .ok (.iload_n 2, 1) := by decide +kernel
theorem dX9_work_3 : decode cX9_work 3 = .ok (.iload_n 3, 1) := by decide +kernel
theorem dX9_work_4 : decode cX9_work 4 = .ok (.invokespecial 17, 3) := by decide +kernel
theorem dX9_work_7 : decode cX9_work 7 = .ok (.aload_n 1, 1) := by decide +kernel
theorem dX9_work_8 : decode cX9_work 8 = .ok (.iload_n 2, 1) := by decide +kernel
theorem dX9_work_9 : decode cX9_work 9 = .ok (.iconst 1, 1) := by decide +kernel
theorem dX9_work_10 : decode cX9_work 10 = .ok (.iadd, 1) := by decide +kernel
theorem dX9_work_11 : decode cX9_work 11 = .ok (.iload_n 3, 1) := by decide +kernel
theorem dX9_work_12 : decode cX9_work 12 = .ok (.invokevirtual 21, 3) := by decide +kernel
theorem dX9_work_15 : decode cX9_work 15 = .ok (.return_, 1) := by decide +kernel
theorem dX9_cost_0 : decode cX9_cost 0 = .ok (.iconst 3, 1) := by decide +kernel
theorem dX9_cost_1 : decode cX9_cost 1 = .ok (.aload_n 0, 1) := by decide +kernel
theorem dX9_cost_2 : decode cX9_cost 2 = .ok (.iload_n 1, 1) := by decide +kernel
theorem dX9_cost_3 : decode cX9_cost 3 = .ok (.invokespecial 25, 3) := by decide +kernel
theorem dX9_cost_6 : decode cX9_cost 6 = .ok (.imul, 1) := by decide +kernel
theorem dX9_cost_7 : decode cX9_cost 7 = .ok (.ireturn, 1) := by decide +kernel
theorem dX9_fail_0 : decode cX9_fail 0 = .ok (.iload_n 1, 1) := by decide +kernel
theorem dX9_fail_1 : decode cX9_fail 1 = .ok (.ifCond .le 13, 3) := by decide +kernel
theorem dX9_fail_4 : decode cX9_fail 4 = .ok (.new 29, 3) := by decide +kernel
theorem dX9_fail_7 : decode cX9_fail 7 = .ok (.dup, 1) := by decide +kernel
theorem dX9_fail_8 : decode cX9_fail 8 = .ok (.ldc 31, 2) := by decide +kernel
theorem dX9_fail_10 : decode cX9_fail 10 = .ok (.invokespecial 33, 3) := by decide +kernel
theorem dX9_fail_13 : decode cX9_fail 13 = .ok (.athrow, 1) := by decide +kernel
theorem dX9_fail_14 : decode cX9_fail 14 = .ok (.return_, 1) := by decide +kernel
theorem dX10_init_0 : decode cX10_init 0 = .ok (.aload_n 0, 1) := by decide +kernel
theorem dX10_init_1 : decode cX10_init 1 = .ok (.invokespecial 1, 3) := by decide +kernel
theorem dX10_init_4 : decode cX10_init 4 = .ok (.return_, 1) := by decide +kernel
theorem dX10_canBe_0 : decode cX10_canBe 0 = .ok (.aload_n 1, 1) := by decide +kernel
theorem dX10_canBe_1 : decode cX10_canBe 1 = .ok (.getfield 7, 3) := by decide +kernel
theorem dX10_canBe_4 : decode cX10_canBe 4 = .ok (.ifCond .le 7, 3) := by decide +kernel
theorem dX10_canBe_7 : decode cX10_canBe 7 = .ok (.iconst 1, 1) := by decide +kernel
theorem dX10_canBe_8 : decode cX10_canBe 8 = .ok (.goto 4, 3) := by decide +kernel
theorem dX10_canBe_11 : decode cX10_canBe 11 = .ok (.iconst 0, 1) := by decide +kernel
theorem dX10_canBe_12 : decode cX10_canBe 12 = .ok (.ireturn, 1) := by decide +kernel
theorem dX10_work_0 : decode cX10_work 0 = .ok (.aload_n 1, 1) := by decide +kernel
theorem dX10_work_1 : decode cX10_work 1 = .ok (.iconst (-1), 1) := by decide +kernel
theorem dX10_work_2 : decode cX10_work 2 = .ok (.invokevirtual 13, 3) := by decide +kernel
theorem dX10_work_5 : decode cX10_work 5 = .ok (.return_, 1) := by decide +kernel
theorem dX10_cost_0 : decode cX10_cost 0 = .ok (.aload_n 0, 1) := by decide +kernel
theorem dX10_cost_1 : decode cX10_cost 1 = .ok (.iload_n 1, 1) := by decide +kernel
theorem dX10_cost_2 : decode cX10_cost 2 = .ok (.invokespecial 17, 3) := by decide +kernel
theorem dX10_cost_5 : decode cX10_cost 5 = .ok (.iconst 1, 1) := by decide +kernel
theorem dX10_cost_6 : decode cX10_cost 6 = .ok (.isub, 1) := by decide +kernel
theorem dX10_cost_7 : decode cX10_cost 7 = .ok (.ireturn, 1) := by decide +kernel
theorem dX10_fail_0 : decode cX10_fail 0 = .ok (.return_, 1) := by decide +kernel
theorem dX11_init_0 : decode cX11_init 0 = .ok (.aload_n 0, 1) := by decide +kernel
theorem dX11_init_1 : decode cX11_init 1 = .ok (.invokespecial 1, 3) := by decide +kernel
theorem dX11_init_4 : decode cX11_init 4 = .ok (.aload_n 0, 1) := by decide +kernel
theorem dX11_init_5 : decode cX11_init 5 = .ok (.new 7, 3) := by decide +kernel
theorem dX11_init_8 : decode cX11_init 8 = .ok (.dup, 1) := by decide +kernel
theorem dX11_init_9 : decode cX11_init 9 = .ok (.invokespecial 9, 3) := by decide +kernel
theorem dX11_init_12 : decode cX11_init 12 = .ok (.putfield 10, 3) := by decide +kernel
theorem dX11_init_15 : decode cX11_init 15 = .ok (.aload_n 0, 1) := by decide +kernel
theorem dX11_init_16 : decode cX11_init 16 = .ok (.new 7, 3) := by decide +kernel
theorem dX11_init_19 : decode cX11_init 19 = .ok (.dup, 1) := by decide +kernel
theorem dX11_init_20 : decode cX11_init 20 = .ok (.invokespecial 9, 3) := by decide +kernel
theorem dX11_init_23 : decode cX11_init 23 = .ok (.putfield 16, 3) := by decide +kernel
theorem dX11_init_26 : decode cX11_init 26 = .ok (.aload_n 0, 1) := by decide +kernel
theorem dX11_init_27 : decode cX11_init 27 = .ok (.new 7, 3) := by decide +kernel
theorem dX11_init_30 : decode cX11_init 30 = .ok (.dup, 1) := by decide +kernel
theorem dX11_init_31 : decode cX11_init 31 = .ok (.invokespecial 9, 3) := by decide +kernel
theorem dX11_init_34 : decode cX11_init 34 = .ok (.putfield 19, 3) := by decide +kernel
theorem dX11_init_37 : decode cX11_init 37 = .ok (.aload_n 0, 1) := by decide +kernel
theorem dX11_init_38 : decode cX11_init 38 = .ok (.bipush 8, 2) := by decide +kernel
theorem dX11_init_40 : decode cX11_init 40 = .ok (.anewarray 22, 3) := by decide +kernel
theorem dX11_init_43 : decode cX11_init 43 = .ok (.putfield 24, 3) := by decide +kernel
theorem dX11_init_46 : decode cX11_init 46 = .ok (.aload_n 0, 1) := by decide +kernel
theorem dX11_init_47 : decode cX11_init 47 = .ok (.new 22, 3) := by decide +kernel
theorem dX11_init_50 : decode cX11_init 50 = .ok (.dup, 1) := by decide +kernel
theorem dX11_init_51 : decode cX11_init 51 = .ok (.invokespecial 28, 3) := by decide +kernel
theorem dX11_init_54 : decode cX11_init 54 = .ok (.putfield 29, 3) := by decide +kernel
theorem dX11_init_57 : decode cX11_init 57 = .ok (.aload_n 0, 1) := by decide +kernel
theorem dX11_init_58 : decode cX11_init 58 = .ok (.bipush 8, 2) := by decide +kernel
theorem dX11_init_60 : decode cX11_init 60 = .ok (.anewarray 33, 3) := by decide +kernel
theorem dX11_init_63 : decode cX11_init 63 = .ok (.putfield 35, 3) := by decide +kernel
theorem dX11_init_66 : decode cX11_init 66 = .ok (.aload_n 0, 1) := by decide +kernel
theorem dX11_init_67 : decode cX11_init 67 = .ok (.new 33, 3) := by decide +kernel
theorem dX11_init_70 : decode cX11_init 70 = .ok (.dup, 1) := by decide +kernel
theorem dX11_init_71 : decode cX11_init 71 = .ok (.invokespecial 39, 3) := by decide +kernel
theorem dX11_init_74 : decode cX11_init 74 = .ok (.putfield 40, 3) := by decide +kernel
theorem dX11_init_77 : decode cX11_init 77 = .ok (.aload_n 0, 1) := by decide +kernel
theorem dX11_init_78 : decode cX11_init 78 = .ok (.new 44, 3) := by decide +kernel
theorem dX11_init_81 : decode cX11_init 81 = .ok (.dup, 1) := by decide +kernel
theorem dX11_init_82 : decode cX11_init 82 = .ok (.invokespecial 46, 3) := by decide +kernel
theorem dX11_init_85 : decode cX11_init 85 = .ok (.putfield 47, 3) := by decide +kernel
theorem dX11_init_88 : decode cX11_init 88 = .ok (.iconst 0, 1) := by decide +kernel
theorem dX11_init_89 : decode cX11_init 89 = .ok (.istore_n 1, 1) := by decide +kernel
theorem dX11_init_90 : decode cX11_init 90 = .ok (.iload_n 1, 1) := by decide +kernel
theorem dX11_init_91 : decode cX11_init 91 = .ok (.aload_n 0, 1) := by decide +kernel
theorem dX11_init_92 : decode cX11_init 92 = .ok (.getfield 24, 3) := by decide +kernel
theorem dX11_init_95 : decode cX11_init 95 = .ok (.arraylength, 1) := by decide +kernel
theorem dX11_init_96 : decode cX11_init 96 = .ok (.if_icmp .ge 22, 3) := by decide +kernel
theorem dX11_init_99 : decode cX11_init 99 = .ok (.aload_n 0, 1) := by decide +kernel
theorem dX11_init_100 : decode cX11_init 100 = .ok (.getfield 24, 3) := by decide +kernel
theorem dX11_init_103 : decode cX11_init 103 = .ok (.iload_n 1, 1) := by decide +kernel
theorem dX11_init_104 : decode cX11_init 104 = .ok (.new 22, 3) := by decide +kernel
theorem dX11_init_107 : decode cX11_init 107 = .ok (.dup, 1) := by decide +kernel
theorem dX11_init_108 : decode cX11_init 108 = .ok (.invokespecial 28, 3) := by decide +kernel
theorem dX11_init_111 : decode cX11_init 111 = .ok (.aastore, 1) := by decide +kernel
theorem dX11_init_112 : decode cX11_init 112 = .ok (.iinc 1 1, 3) := by decide +kernel
theorem dX11_init_115 : decode cX11_init 115 = .ok (.goto (-25), 3) := by decide +kernel
theorem dX11_init_118 : decode cX11_init 118 = .ok (.aload_n 0, 1) := by decide +kernel
theorem dX11_init_119 : decode cX11_init 119 = .ok (.getfield 35, 3) := by decide +kernel
theorem dX11_init_122 : decode cX11_init 122 = .ok (.iconst 0, 1) := by decide +kernel
theorem dX11_init_123 : decode cX11_init 123 = .ok (.aload_n 0, 1) := by decide +kernel
theorem dX11_init_124 : decode cX11_init 124 = .ok (.getfield 40, 3) := by decide +kernel
theorem dX11_init_127 : decode cX11_init 127 = .ok (.aastore, 1) := by decide +kernel
theorem dX11_init_128 : decode cX11_init 128 = .ok (.aload_n 0, 1) := by decide +kernel
theorem dX11_init_129 : decode cX11_init 129 = .ok (.getfield 35, 3) := by decide +kernel
theorem dX11_init_132 : decode cX11_init 132 = .ok (.iconst 1, 1) := by decide +kernel
theorem dX11_init_133 : decode cX11_init 133 = .ok (.new 51, 3) := by decide +kernel
theorem dX11_init_136 : decode cX11_init 136 = .ok (.dup, 1) := by decide +kernel
theorem dX11_init_137 : decode cX11_init 137 = .ok (.invokespecial 53, 3) := by decide +kernel
theorem dX11_init_140 : decode cX11_init 140 = .ok (.aastore, 1) := by decide +kernel
theorem dX11_init_141 : decode cX11_init 141 = .ok (.aload_n 0, 1) := by decide +kernel
theorem dX11_init_142 : decode cX11_init 142 = .ok (.getfield 35, 3) := by decide +kernel
theorem dX11_init_145 : decode cX11_init 145 = .ok (.iconst 2, 1) := by decide +kernel
theorem dX11_init_146 : decode cX11_init 146 = .ok (.new 54, 3) := by decide +kernel
theorem dX11_init_149 : decode cX11_init 149 = .ok (.dup, 1) := by decide +kernel
theorem dX11_init_150 : decode cX11_init 150 = .ok (.invokespecial 56, 3) := by decide +kernel
theorem dX11_init_153 : decode cX11_init 153 = .ok (.aastore, 1) := by decide +kernel
theorem dX11_init_154 : decode cX11_init 154 = .ok (.aload_n 0, 1) := by decide +kernel
theorem dX11_init_155 : decode cX11_init 155 = .ok (.getfield 35, 3) := by decide +kernel
theorem dX11_init_158 : decode cX11_init 158 = .ok (.iconst 3, 1) := by decide +kernel
theorem dX11_init_159 : decode cX11_init 159 = .ok (.new 57, 3) := by decide +kernel
theorem dX11_init_162 : decode cX11_init 162 = .ok (.dup, 1) := by decide +kernel
theorem dX11_init_163 : decode cX11_init 163 = .ok (.invokespecial 59, 3) := by decide +kernel
theorem dX11_init_166 : decode cX11_init 166 = .ok (.aastore, 1) := by decide +kernel
theorem dX11_init_167 : decode cX11_init 167 = .ok (.aload_n 0, 1) := by decide +kernel
theorem dX11_init_168 : decode cX11_init 168 = .ok (.getfield 35, 3) := by decide +kernel
theorem dX11_init_171 : decode cX11_init 171 = .ok (.iconst 4, 1) := by decide +kernel
theorem dX11_init_172 : decode cX11_init 172 = .ok (.new 60, 3) := by decide +kernel
theorem dX11_init_175 : decode cX11_init 175 = .ok (.dup, 1) := by decide +kernel
theorem dX11_init_176 : decode cX11_init 176 = .ok (.invokespecial 62, 3) := by decide +kernel
theorem dX11_init_179 : decode cX11_init 179 = .ok (.aastore, 1) := by decide +kernel
theorem dX11_init_180 : decode cX11_init 180 = .ok (.aload_n 0, 1) := by decide +kernel
theorem dX11_init_181 : decode cX11_init 181 = .ok (.getfield 35, 3) := by decide +kernel
theorem dX11_init_184 : decode cX11_init 184 = .ok (.iconst 5, 1) := by decide +kernel
theorem dX11_init_185 : decode cX11_init 185 = .ok (.new 63, 3) := by decide +kernel
theorem dX11_init_188 : decode cX11_init 188 = .ok (.dup, 1) := by decide +kernel
theorem dX11_init_189 : decode cX11_init 189 = .ok (.invokespecial 65, 3) := by decide +kernel
theorem dX11_init_192 : decode cX11_init 192 = .ok (.aastore, 1) := by decide +kernel
theorem dX11_init_193 : decode cX11_init 193 = .ok (.aload_n 0, 1) := by decide +kernel
theorem dX11_init_194 : decode cX11_init 194 = .ok (.getfield 35, 3) := by decide +kernel
theorem dX11_init_197 : decode cX11_init 197 = .ok (.bipush 6, 2) := by decide +kernel
theorem dX11_init_199 : decode cX11_init 199 = .ok (.new 66, 3) := by decide +kernel
theorem dX11_init_202 : decode cX11_init 202 = .ok (.dup, 1) := by decide +kernel
theorem dX11_init_203 : decode cX11_init 203 = .ok (.invokespecial 68, 3) := by decide +kernel
theorem dX11_init_206 : decode cX11_init 206 = .ok (.aastore, 1) := by decide +kernel
theorem dX11_init_207 : decode cX11_init 207 = .ok (.aload_n 0, 1) := by decide +kernel
theorem dX11_init_208 : decode cX11_init 208 = .ok (.getfield 35, 3) := by decide +kernel
theorem dX11_init_211 : decode cX11_init 211 = .ok (.bipush 7, 2) := by decide +kernel
theorem dX11_init_213 : decode cX11_init 213 = .ok (.new 69, 3) := by decide +kernel
theorem dX11_init_216 : decode cX11_init 216 = .ok (.dup, 1) := by decide +kernel
theorem dX11_init_217 : decode cX11_init 217 = .ok (.invokespecial 71, 3) := by decide +kernel
theorem dX11_init_220 : decode cX11_init 220 = .ok (.aastore, 1) := by decide +kernel
theorem dX11_init_221 : decode cX11_init 221 = .ok (.return_, 1) := by decide +kernel
theorem dX11_dress_0 : decode cX11_dress 0 = .ok (.aload_n 0, 1) := by decide +kernel
theorem dX11_dress_1 : decode cX11_dress 1 = .ok (.iload_n 1, 1) := by decide +kernel
theorem dX11_dress_2 : decode cX11_dress 2 = .ok (.iconst 0, 1) := by decide +kernel
theorem dX11_dress_3 : decode cX11_dress 3 = .ok (.invokevirtual 72, 3) := by decide +kernel
theorem dX11_dress_6 : decode cX11_dress 6 = .ok (.istore_n 2, 1) := by decide +kernel
theorem dX11_dress_7 : decode cX11_dress 7 = .ok (.iload_n 2, 1) := by decide +kernel
theorem dX11_dress_8 : decode cX11_dress 8 = .ok (.ifCond .eq 5, 3) := by decide +kernel
theorem dX11_dress_11 : decode cX11_dress 11 = .ok (.iload_n 2, 1) := by decide +kernel
theorem dX11_dress_12 : decode cX11_dress 12 = .ok (.ireturn, 1) := by decide +kernel
theorem dX11_dress_13 : decode cX11_dress 13 = .ok (.aload_n 0, 1) := by decide +kernel
theorem dX11_dress_14 : decode cX11_dress 14 = .ok (.iload_n 1, 1) := by decide +kernel
theorem dX11_dress_15 : decode cX11_dress 15 = .ok (.invokevirtual 76, 3) := by decide +kernel
theorem dX11_dress_18 : decode cX11_dress 18 = .ok (.astore_n 3, 1) := by decide +kernel
theorem dX11_dress_19 : decode cX11_dress 19 = .ok (.aload_n 0, 1) := by decide +kernel
theorem dX11_dress_20 : decode cX11_dress 20 = .ok (.aload_n 3, 1) := by decide +kernel
theorem dX11_dress_21 : decode cX11_dress 21 = .ok (.invokevirtual 80, 3) := by decide +kernel
theorem dX11_dress_24 : decode cX11_dress 24 = .ok (.istore 4, 2) := by decide +kernel
theorem dX11_dress_26 : decode cX11_dress 26 = .ok (.iload 4, 2) := by decide +kernel
theorem dX11_dress_28 : decode cX11_dress 28 = .ok (.ifCond .ge 6, 3) := by decide +kernel
theorem dX11_dress_31 : decode cX11_dress 31 = .ok (.iload 4, 2) := by decide +kernel
theorem dX11_dress_33 : decode cX11_dress 33 = .ok (.ireturn, 1) := by decide +kernel
theorem dX11_dress_34 : decode cX11_dress 34 = .ok (.aload_n 0, 1) := by decide +kernel
theorem dX11_dress_35 : decode cX11_dress 35 = .ok (.getfield 19, 3) := by decide +kernel
theorem dX11_dress_38 : decode cX11_dress 38 = .ok (.aload_n 0, 1) := by decide +kernel
theorem dX11_dress_39 : decode cX11_dress 39 = .ok (.getfield 10, 3) := by decide +kernel
theorem dX11_dress_42 : decode cX11_dress 42 = .ok (.invokevirtual 84, 3) := by decide +kernel
theorem dX11_dress_45 : decode cX11_dress 45 = .ok (.aload_n 0, 1) := by decide +kernel
theorem dX11_dress_46 : decode cX11_dress 46 = .ok (.getfield 47, 3) := by decide +kernel
theorem dX11_dress_49 : decode cX11_dress 49 = .ok (.iconst 0, 1) := by decide +kernel
theorem dX11_dress_50 : decode cX11_dress 50 = .ok (.putfield 88, 3) := by decide +kernel
theorem dX11_dress_53 : decode cX11_dress 53 = .ok (.iconst 0, 1) := by decide +kernel
theorem dX11_dress_54 : decode cX11_dress 54 = .ok (.istore 5, 2) := by decide +kernel
theorem dX11_dress_56 : decode cX11_dress 56 = .ok (.iload 5, 2) := by decide +kernel
theorem dX11_dress_58 : decode cX11_dress 58 = .ok (.iload 4, 2) := by decide +kernel
theorem dX11_dress_60 : decode cX11_dress 60 = .ok (.if_icmp .ge 47, 3) := by decide +kernel
theorem dX11_dress_63 : decode cX11_dress 63 = .ok (.aload_n 0, 1) := by decide +kernel
theorem dX11_dress_64 : decode cX11_dress 64 = .ok (.getfield 47, 3) := by decide +kernel
theorem dX11_dress_67 : decode cX11_dress 67 = .ok (.getfield 88, 3) := by decide +kernel
theorem dX11_dress_70 : decode cX11_dress 70 = .ok (.istore 6, 2) := by decide +kernel
theorem dX11_dress_72 : decode cX11_dress 72 = .ok (.aload_n 0, 1) := by decide +kernel
theorem dX11_dress_73 : decode cX11_dress 73 = .ok (.getfield 47, 3) := by decide +kernel
theorem dX11_dress_76 : decode cX11_dress 76 = .ok (.aload_n 3, 1) := by decide +kernel
theorem dX11_dress_77 : decode cX11_dress 77 = .ok (.invokevirtual 92, 3) := by decide +kernel
theorem dX11_dress_80 : decode cX11_dress 80 = .ok (.ifCond .eq 14, 3) := by decide +kernel
theorem dX11_dress_83 : decode cX11_dress 83 = .ok (.aload_n 0, 1) := by decide +kernel
theorem dX11_dress_84 : decode cX11_dress 84 = .ok (.aload_n 0, 1) := by decide +kernel
theorem dX11_dress_85 : decode cX11_dress 85 = .ok (.getfield 19, 3) := by decide +kernel
theorem dX11_dress_88 : decode cX11_dress 88 = .ok (.invokevirtual 96, 3) := by decide +kernel
theorem dX11_dress_91 : decode cX11_dress 91 = .ok (.ifCond .ne 10, 3) := by decide +kernel
theorem dX11_dress_94 : decode cX11_dress 94 = .ok (.sipush (-2000), 3) := by decide +kernel
theorem dX11_dress_97 : decode cX11_dress 97 = .ok (.iload 6, 2) := by decide +kernel
theorem dX11_dress_99 : decode cX11_dress 99 = .ok (.isub, 1) := by decide +kernel
theorem dX11_dress_100 : decode cX11_dress 100 = .ok (.ireturn, 1) := by decide +kernel
theorem dX11_dress_101 : decode cX11_dress 101 = .ok (.iinc 5 1, 3) := by decide +kernel
theorem dX11_dress_104 : decode cX11_dress 104 = .ok (.goto (-48), 3) := by decide +kernel
theorem dX11_dress_107 : decode cX11_dress 107 = .ok (.aload_n 0, 1) := by decide +kernel
theorem dX11_dress_108 : decode cX11_dress 108 = .ok (.getfield 10, 3) := by decide +kernel
theorem dX11_dress_111 : decode cX11_dress 111 = .ok (.aload_n 0, 1) := by decide +kernel
theorem dX11_dress_112 : decode cX11_dress 112 = .ok (.getfield 19, 3) := by decide +kernel
theorem dX11_dress_115 : decode cX11_dress 115 = .ok (.invokevirtual 84, 3) := by decide +kernel
theorem dX11_dress_118 : decode cX11_dress 118 = .ok (.iload 4, 2) := by decide +kernel
theorem dX11_dress_120 : decode cX11_dress 120 = .ok (.ireturn, 1) := by decide +kernel
theorem dX11_ring_0 : decode cX11_ring 0 = .ok (.aload_n 0, 1) := by decide +kernel
theorem dX11_ring_1 : decode cX11_ring 1 = .ok (.getfield 10, 3) := by decide +kernel
theorem dX11_ring_4 : decode cX11_ring 4 = .ok (.iload_n 1, 1) := by decide +kernel
theorem dX11_ring_5 : decode cX11_ring 5 = .ok (.invokevirtual 100, 3) := by decide +kernel
theorem dX11_ring_8 : decode cX11_ring 8 = .ok (.ifCond .eq 24, 3) := by decide +kernel
theorem dX11_ring_11 : decode cX11_ring 11 = .ok (.iload_n 2, 1) := by decide +kernel
theorem dX11_ring_12 : decode cX11_ring 12 = .ok (.iconst 0, 1) := by decide +kernel
theorem dX11_ring_13 : decode cX11_ring 13 = .ok (.iconst 3, 1) := by decide +kernel
theorem dX11_ring_14 : decode cX11_ring 14 = .ok (.invokestatic 104, 3) := by decide +kernel
theorem dX11_ring_17 : decode cX11_ring 17 = .ok (.ifCond .eq 15, 3) := by decide +kernel
theorem dX11_ring_20 : decode cX11_ring 20 = .ok (.aload_n 0, 1) := by decide +kernel
theorem dX11_ring_21 : decode cX11_ring 21 = .ok (.getfield 10, 3) := by decide +kernel
theorem dX11_ring_24 : decode cX11_ring 24 = .ok (.iload_n 1, 1) := by decide +kernel
theorem dX11_ring_25 : decode cX11_ring 25 = .ok (.iload_n 2, 1) := by decide +kernel
theorem dX11_ring_26 : decode cX11_ring 26 = .ok (.invokevirtual 108, 3) := by decide +kernel
theorem dX11_ring_29 : decode cX11_ring 29 = .ok (.goto 4, 3) := by decide +kernel
theorem dX11_ring_32 : decode cX11_ring 32 = .ok (.iconst (-1), 1) := by decide +kernel
theorem dX11_ring_33 : decode cX11_ring 33 = .ok (.ireturn, 1) := by decide +kernel
theorem dX11_line_0 : decode cX11_line 0 = .ok (.iload_n 1, 1) := by decide +kernel
theorem dX11_line_1 : decode cX11_line 1 = .ok (.ifCond .ne 31, 3) := by decide +kernel
theorem dX11_line_4 : decode cX11_line 4 = .ok (.iload_n 2, 1) := by decide +kernel
theorem dX11_line_5 : decode cX11_line 5 = .ok (.iconst 0, 1) := by decide +kernel
theorem dX11_line_6 : decode cX11_line 6 = .ok (.bipush 9, 2) := by decide +kernel
theorem dX11_line_8 : decode cX11_line 8 = .ok (.invokestatic 104, 3) := by decide +kernel
theorem dX11_line_11 : decode cX11_line 11 = .ok (.ifCond .eq 21, 3) := by decide +kernel
theorem dX11_line_14 : decode cX11_line 14 = .ok (.aload_n 0, 1) := by decide +kernel
theorem dX11_line_15 : decode cX11_line 15 = .ok (.getfield 10, 3) := by decide +kernel
theorem dX11_line_18 : decode cX11_line 18 = .ok (.getfield 111, 3) := by decide +kernel
theorem dX11_line_21 : decode cX11_line 21 = .ok (.istore_n 3, 1) := by decide +kernel
theorem dX11_line_22 : decode cX11_line 22 = .ok (.aload_n 0, 1) := by decide +kernel
theorem dX11_line_23 : decode cX11_line 23 = .ok (.getfield 10, 3) := by decide +kernel
theorem dX11_line_26 : decode cX11_line 26 = .ok (.iload_n 2, 1) := by decide +kernel
theorem dX11_line_27 : decode cX11_line 27 = .ok (.putfield 111, 3) := by decide +kernel
theorem dX11_line_30 : decode cX11_line 30 = .ok (.iload_n 3, 1) := by decide +kernel
theorem dX11_line_31 : decode cX11_line 31 = .ok (.ireturn, 1) := by decide +kernel
theorem dX11_line_32 : decode cX11_line 32 = .ok (.iload_n 1, 1) := by decide +kernel
theorem dX11_line_33 : decode cX11_line 33 = .ok (.iconst 1, 1) := by decide +kernel
theorem dX11_line_34 : decode cX11_line 34 = .ok (.if_icmp .ne 31, 3) := by decide +kernel
theorem dX11_line_37 : decode cX11_line 37 = .ok (.iload_n 2, 1) := by decide +kernel
theorem dX11_line_38 : decode cX11_line 38 = .ok (.iconst 0, 1) := by decide +kernel
theorem dX11_line_39 : decode cX11_line 39 = .ok (.bipush 30, 2) := by decide +kernel
theorem dX11_line_41 : decode cX11_line 41 = .ok (.invokestatic 104, 3) := by decide +kernel
theorem dX11_line_44 : decode cX11_line 44 = .ok (.ifCond .eq 21, 3) := by decide +kernel
theorem dX11_line_47 : decode cX11_line 47 = .ok (.aload_n 0, 1) := by decide +kernel
theorem dX11_line_48 : decode cX11_line 48 = .ok (.getfield 10, 3) := by decide +kernel
theorem dX11_line_51 : decode cX11_line 51 = .ok (.getfield 114, 3) := by decide +kernel
theorem dX11_line_54 : decode cX11_line 54 = .ok (.istore_n 3, 1) := by decide +kernel
theorem dX11_line_55 : decode cX11_line 55 = .ok (.aload_n 0, 1) := by decide +kernel
theorem dX11_line_56 : decode cX11_line 56 = .ok (.getfield 10, 3) := by decide +kernel
theorem dX11_line_59 : decode cX11_line 59 = .ok (.iload_n 2, 1) := by decide +kernel
theorem dX11_line_60 : decode cX11_line 60 = .ok (.putfield 114, 3) := by decide +kernel
theorem dX11_line_63 : decode cX11_line 63 = .ok (.iload_n 3, 1) := by decide +kernel
theorem dX11_line_64 : decode cX11_line 64 = .ok (.ireturn, 1) := by decide +kernel
theorem dX11_line_65 : decode cX11_line 65 = .ok (.iconst (-1), 1) := by decide +kernel
theorem dX11_line_66 : decode cX11_line 66 = .ok (.ireturn, 1) := by decide +kernel
theorem dX11_may_0 : decode cX11_may 0 = .ok (.aload_n 0, 1) := by decide +kernel
theorem dX11_may_1 : decode cX11_may 1 = .ok (.getfield 10, 3) := by decide +kernel
theorem dX11_may_4 : decode cX11_may 4 = .ok (.iload_n 2, 1) := by decide +kernel
theorem dX11_may_5 : decode cX11_may 5 = .ok (.invokevirtual 100, 3) := by decide +kernel
theorem dX11_may_8 : decode cX11_may 8 = .ok (.ifCond .eq 11, 3) := by decide +kernel
theorem dX11_may_11 : decode cX11_may 11 = .ok (.aload_n 0, 1) := by decide +kernel
theorem dX11_may_12 : decode cX11_may 12 = .ok (.iload_n 1, 1) := by decide +kernel
theorem dX11_may_13 : decode cX11_may 13 = .ok (.invokevirtual 117, 3) := by decide +kernel
theorem dX11_may_16 : decode cX11_may 16 = .ok (.goto 4, 3) := by decide +kernel
theorem dX11_may_19 : decode cX11_may 19 = .ok (.iconst (-1), 1) := by decide +kernel
theorem dX11_may_20 : decode cX11_may 20 = .ok (.istore_n 3, 1) := by decide +kernel
theorem dX11_may_21 : decode cX11_may 21 = .ok (.iload_n 3, 1) := by decide +kernel
theorem dX11_may_22 : decode cX11_may 22 = .ok (.ifCond .eq 5, 3) := by decide +kernel
theorem dX11_may_25 : decode cX11_may 25 = .ok (.iload_n 3, 1) := by decide +kernel
theorem dX11_may_26 : decode cX11_may 26 = .ok (.ireturn, 1) := by decide +kernel
theorem dX11_may_27 : decode cX11_may 27 = .ok (.aload_n 0, 1) := by decide +kernel
theorem dX11_may_28 : decode cX11_may 28 = .ok (.iload_n 1, 1) := by decide +kernel
theorem dX11_may_29 : decode cX11_may 29 = .ok (.invokevirtual 76, 3) := by decide +kernel
theorem dX11_may_32 : decode cX11_may 32 = .ok (.astore 4, 2) := by decide +kernel
theorem dX11_may_34 : decode cX11_may 34 = .ok (.aload_n 0, 1) := by decide +kernel
theorem dX11_may_35 : decode cX11_may 35 = .ok (.getfield 10, 3) := by decide +kernel
theorem dX11_may_38 : decode cX11_may 38 = .ok (.aload_n 0, 1) := by decide +kernel
theorem dX11_may_39 : decode cX11_may 39 = .ok (.aload 4, 2) := by decide +kernel
theorem dX11_may_41 : decode cX11_may 41 = .ok (.getfield 121, 3) := by decide +kernel
theorem dX11_may_44 : decode cX11_may 44 = .ok (.invokevirtual 124, 3) := by decide +kernel
theorem dX11_may_47 : decode cX11_may 47 = .ok (.aload 4, 2) := by decide +kernel
theorem dX11_may_49 : decode cX11_may 49 = .ok (.getfield 128, 3) := by decide +kernel
theorem dX11_may_52 : decode cX11_may 52 = .ok (.iload_n 2, 1) := by decide +kernel
theorem dX11_may_53 : decode cX11_may 53 = .ok (.invokevirtual 131, 3) := by decide +kernel
theorem dX11_may_56 : decode cX11_may 56 = .ok (.ifCond .eq 7, 3) := by decide +kernel
theorem dX11_may_59 : decode cX11_may 59 = .ok (.iconst 1, 1) := by decide +kernel
theorem dX11_may_60 : decode cX11_may 60 = .ok (.goto 4, 3) := by decide +kernel
theorem dX11_may_63 : decode cX11_may 63 = .ok (.iconst 0, 1) := by decide +kernel
theorem dX11_may_64 : decode cX11_may 64 = .ok (.ireturn, 1) := by decide +kernel
theorem dX11_pin_0 : decode cX11_pin 0 = .ok (.aload_n 0, 1) := by decide +kernel
theorem dX11_pin_1 : decode cX11_pin 1 = .ok (.getfield 10, 3) := by decide +kernel
theorem dX11_pin_4 : decode cX11_pin 4 = .ok (.iload_n 2, 1) := by decide +kernel
theorem dX11_pin_5 : decode cX11_pin 5 = .ok (.invokevirtual 100, 3) := by decide +kernel
theorem dX11_pin_8 : decode cX11_pin 8 = .ok (.ifCond .eq 11, 3) := by decide +kernel
theorem dX11_pin_11 : decode cX11_pin 11 = .ok (.aload_n 0, 1) := by decide +kernel
theorem dX11_pin_12 : decode cX11_pin 12 = .ok (.iload_n 1, 1) := by decide +kernel
theorem dX11_pin_13 : decode cX11_pin 13 = .ok (.invokevirtual 117, 3) := by decide +kernel
theorem dX11_pin_16 : decode cX11_pin 16 = .ok (.goto 4, 3) := by decide +kernel
theorem dX11_pin_19 : decode cX11_pin 19 = .ok (.iconst (-1), 1) := by decide +kernel
theorem dX11_pin_20 : decode cX11_pin 20 = .ok (.istore_n 3, 1) := by decide +kernel
theorem dX11_pin_21 : decode cX11_pin 21 = .ok (.iload_n 3, 1) := by decide +kernel
theorem dX11_pin_22 : decode cX11_pin 22 = .ok (.ifCond .eq 5, 3) := by decide +kernel
theorem dX11_pin_25 : decode cX11_pin 25 = .ok (.iload_n 3, 1) := by decide +kernel
theorem dX11_pin_26 : decode cX11_pin 26 = .ok (.ireturn, 1) := by decide +kernel
theorem dX11_pin_27 : decode cX11_pin 27 = .ok (.aload_n 0, 1) := by decide +kernel
theorem dX11_pin_28 : decode cX11_pin 28 = .ok (.iload_n 1, 1) := by decide +kernel
theorem dX11_pin_29 : decode cX11_pin 29 = .ok (.invokevirtual 76, 3) := by decide +kernel
theorem dX11_pin_32 : decode cX11_pin 32 = .ok (.astore 4, 2) := by decide +kernel
theorem dX11_pin_34 : decode cX11_pin 34 = .ok (.aload_n 0, 1) := by decide +kernel
theorem dX11_pin_35 : decode cX11_pin 35 = .ok (.getfield 10, 3) := by decide +kernel
theorem dX11_pin_38 : decode cX11_pin 38 = .ok (.aload_n 0, 1) := by decide +kernel
theorem dX11_pin_39 : decode cX11_pin 39 = .ok (.aload 4, 2) := by decide +kernel
theorem dX11_pin_41 : decode cX11_pin 41 = .ok (.getfield 121, 3) := by decide +kernel
theorem dX11_pin_44 : decode cX11_pin 44 = .ok (.invokevirtual 124, 3) := by decide +kernel
theorem dX11_pin_47 : decode cX11_pin 47 = .ok (.aload 4, 2) := by decide +kernel
theorem dX11_pin_49 : decode cX11_pin 49 = .ok (.getfield 128, 3) := by decide +kernel
theorem dX11_pin_52 : decode cX11_pin 52 = .ok (.iload_n 2, 1) := by decide +kernel
theorem dX11_pin_53 : decode cX11_pin 53 = .ok (.invokevirtual 135, 3) := by decide +kernel
theorem dX11_pin_56 : decode cX11_pin 56 = .ok (.ifCond .eq 13, 3) := by decide +kernel
theorem dX11_pin_59 : decode cX11_pin 59 = .ok (.aload_n 0, 1) := by decide +kernel
theorem dX11_pin_60 : decode cX11_pin 60 = .ok (.getfield 10, 3) := by decide +kernel
theorem dX11_pin_63 : decode cX11_pin 63 = .ok (.invokevirtual 138, 3) := by decide +kernel
theorem dX11_pin_66 : decode cX11_pin 66 = .ok (.goto 5, 3) := by decide +kernel
theorem dX11_pin_69 : decode cX11_pin 69 = .ok (.bipush (-3), 2) := by decide +kernel
theorem dX11_pin_71 : decode cX11_pin 71 = .ok (.ireturn, 1) := by decide +kernel
theorem dX11_ease_0 : decode cX11_ease 0 = .ok (.aload_n 0, 1) := by decide +kernel
theorem dX11_ease_1 : decode cX11_ease 1 = .ok (.getfield 10, 3) := by decide +kernel
theorem dX11_ease_4 : decode cX11_ease 4 = .ok (.iload_n 1, 1) := by decide +kernel
theorem dX11_ease_5 : decode cX11_ease 5 = .ok (.invokevirtual 100, 3) := by decide +kernel
theorem dX11_ease_8 : decode cX11_ease 8 = .ok (.ifCond .eq 16, 3) := by decide +kernel
theorem dX11_ease_11 : decode cX11_ease 11 = .ok (.iload_n 2, 1) := by decide +kernel
theorem dX11_ease_12 : decode cX11_ease 12 = .ok (.iconst 0, 1) := by decide +kernel
theorem dX11_ease_13 : decode cX11_ease 13 = .ok (.iconst 3, 1) := by decide +kernel
theorem dX11_ease_14 : decode cX11_ease 14 = .ok (.invokestatic 104, 3) := by decide +kernel
theorem dX11_ease_17 : decode cX11_ease 17 = .ok (.ifCond .eq 7, 3) := by decide +kernel
theorem dX11_ease_20 : decode cX11_ease 20 = .ok (.iconst 1, 1) := by decide +kernel
theorem dX11_ease_21 : decode cX11_ease 21 = .ok (.goto 4, 3) := by decide +kernel
theorem dX11_ease_24 : decode cX11_ease 24 = .ok (.iconst 0, 1) := by decide +kernel
theorem dX11_ease_25 : decode cX11_ease 25 = .ok (.istore_n 3, 1) := by decide +kernel
theorem dX11_ease_26 : decode cX11_ease 26 = .ok (.iload_n 3, 1) := by decide +kernel
theorem dX11_ease_27 : decode cX11_ease 27 = .ok (.ifCond .eq 15, 3) := by decide +kernel
theorem dX11_ease_30 : decode cX11_ease 30 = .ok (.aload_n 0, 1) := by decide +kernel
theorem dX11_ease_31 : decode cX11_ease 31 = .ok (.getfield 10, 3) := by decide +kernel
theorem dX11_ease_34 : decode cX11_ease 34 = .ok (.iload_n 1, 1) := by decide +kernel
theorem dX11_ease_35 : decode cX11_ease 35 = .ok (.iload_n 2, 1) := by decide +kernel
theorem dX11_ease_36 : decode cX11_ease 36 = .ok (.invokevirtual 142, 3) := by decide +kernel
theorem dX11_ease_39 : decode cX11_ease 39 = .ok (.goto 5, 3) := by decide +kernel
theorem dX11_ease_42 : decode cX11_ease 42 = .ok (.ldc 145, 2) := by decide +kernel
theorem dX11_ease_44 : decode cX11_ease 44 = .ok (.ireturn, 1) := by decide +kernel
theorem dX11_fit_0 : decode cX11_fit 0 = .ok (.iload_n 1, 1) := by decide +kernel
theorem dX11_fit_1 : decode cX11_fit 1 = .ok (.iconst (-1), 1) := by decide +kernel
theorem dX11_fit_2 : decode cX11_fit 2 = .ok (.if_icmp .ne 32, 3) := by decide +kernel
theorem dX11_fit_5 : decode cX11_fit 5 = .ok (.aload_n 0, 1) := by decide +kernel
theorem dX11_fit_6 : decode cX11_fit 6 = .ok (.iconst 0, 1) := by decide +kernel
theorem dX11_fit_7 : decode cX11_fit 7 = .ok (.invokevirtual 146, 3) := by decide +kernel
theorem dX11_fit_10 : decode cX11_fit 10 = .ok (.istore_n 2, 1) := by decide +kernel
theorem dX11_fit_11 : decode cX11_fit 11 = .ok (.iconst 1, 1) := by decide +kernel
theorem dX11_fit_12 : decode cX11_fit 12 = .ok (.istore_n 3, 1) := by decide +kernel
theorem dX11_fit_13 : decode cX11_fit 13 = .ok (.iload_n 3, 1) := by decide +kernel
theorem dX11_fit_14 : decode cX11_fit 14 = .ok (.iconst 4, 1) := by decide +kernel
theorem dX11_fit_15 : decode cX11_fit 15 = .ok (.if_icmp .ge 17, 3) := by decide +kernel
theorem dX11_fit_18 : decode cX11_fit 18 = .ok (.iload_n 2, 1) := by decide +kernel
theorem dX11_fit_19 : decode cX11_fit 19 = .ok (.aload_n 0, 1) := by decide +kernel
theorem dX11_fit_20 : decode cX11_fit 20 = .ok (.iload_n 3, 1) := by decide +kernel
theorem dX11_fit_21 : decode cX11_fit 21 = .ok (.invokevirtual 146, 3) := by decide +kernel
theorem dX11_fit_24 : decode cX11_fit 24 = .ok (.iand, 1) := by decide +kernel
theorem dX11_fit_25 : decode cX11_fit 25 = .ok (.istore_n 2, 1) := by decide +kernel
theorem dX11_fit_26 : decode cX11_fit 26 = .ok (.iinc 3 1, 3) := by decide +kernel
theorem dX11_fit_29 : decode cX11_fit 29 = .ok (.goto (-16), 3) := by decide +kernel
theorem dX11_fit_32 : decode cX11_fit 32 = .ok (.iload_n 2, 1) := by decide +kernel
theorem dX11_fit_33 : decode cX11_fit 33 = .ok (.ireturn, 1) := by decide +kernel
theorem dX11_fit_34 : decode cX11_fit 34 = .ok (.iload_n 1, 1) := by decide +kernel
theorem dX11_fit_35 : decode cX11_fit 35 = .ok (.iconst 0, 1) := by decide +kernel
theorem dX11_fit_36 : decode cX11_fit 36 = .ok (.iconst 3, 1) := by decide +kernel
theorem dX11_fit_37 : decode cX11_fit 37 = .ok (.invokestatic 104, 3) := by decide +kernel
theorem dX11_fit_40 : decode cX11_fit 40 = .ok (.ifCond .eq 11, 3) := by decide +kernel
theorem dX11_fit_43 : decode cX11_fit 43 = .ok (.aload_n 0, 1) := by decide +kernel
theorem dX11_fit_44 : decode cX11_fit 44 = .ok (.iload_n 1, 1) := by decide +kernel
theorem dX11_fit_45 : decode cX11_fit 45 = .ok (.invokevirtual 146, 3) := by decide +kernel
theorem dX11_fit_48 : decode cX11_fit 48 = .ok (.goto 4, 3) := by decide +kernel
theorem dX11_fit_51 : decode cX11_fit 51 = .ok (.iconst (-1), 1) := by decide +kernel
theorem dX11_fit_52 : decode cX11_fit 52 = .ok (.ireturn, 1) := by decide +kernel
theorem dX11_lacks_0 : decode cX11_lacks 0 = .ok (.aload_n 0, 1) := by decide +kernel
theorem dX11_lacks_1 : decode cX11_lacks 1 = .ok (.getfield 10, 3) := by decide +kernel
theorem dX11_lacks_4 : decode cX11_lacks 4 = .ok (.invokevirtual 138, 3) := by decide +kernel
theorem dX11_lacks_7 : decode cX11_lacks 7 = .ok (.ireturn, 1) := by decide +kernel
theorem dX11_bestPin_0 : decode cX11_bestPin 0 = .ok (.iload_n 1, 1) := by decide +kernel
theorem dX11_bestPin_1 : decode cX11_bestPin 1 = .ok (.iconst 0, 1) := by decide +kernel
theorem dX11_bestPin_2 : decode cX11_bestPin 2 = .ok (.iconst 1, 1) := by decide +kernel
theorem dX11_bestPin_3 : decode cX11_bestPin 3 = .ok (.invokestatic 104, 3) := by decide +kernel
theorem dX11_bestPin_6 : decode cX11_bestPin 6 = .ok (.ifCond .eq 12, 3) := by decide +kernel
theorem dX11_bestPin_9 : decode cX11_bestPin 9 = .ok (.iload_n 2, 1) := by decide +kernel
theorem dX11_bestPin_10 : decode cX11_bestPin 10 = .ok (.iconst 0, 1) := by decide +kernel
theorem dX11_bestPin_11 : decode cX11_bestPin 11 = .ok (.iconst 1, 1) := by decide +kernel
theorem dX11_bestPin_12 : decode cX11_bestPin 12 = .ok (.invokestatic 104, 3) := by decide +kernel
theorem dX11_bestPin_15 : decode cX11_bestPin 15 = .ok (.ifCond .ne 5, 3) := by decide +kernel
theorem dX11_bestPin_18 : decode cX11_bestPin 18 = .ok (.iconst (-1), 1) := by decide +kernel
theorem dX11_bestPin_19 : decode cX11_bestPin 19 = .ok (.ireturn, 1) := by decide +kernel
theorem dX11_bestPin_20 : decode cX11_bestPin 20 = .ok (.bipush (-4), 2) := by decide +kernel
theorem dX11_bestPin_22 : decode cX11_bestPin 22 = .ok (.istore_n 3, 1) := by decide +kernel
theorem dX11_bestPin_23 : decode cX11_bestPin 23 = .ok (.aload_n 0, 1) := by decide +kernel
theorem dX11_bestPin_24 : decode cX11_bestPin 24 = .ok (.getfield 10, 3) := by decide +kernel
theorem dX11_bestPin_27 : decode cX11_bestPin 27 = .ok (.invokevirtual 138, 3) := by decide +kernel
theorem dX11_bestPin_30 : decode cX11_bestPin 30 = .ok (.istore 4, 2) := by decide +kernel
theorem dX11_bestPin_32 : decode cX11_bestPin 32 = .ok (.iconst 0, 1) := by decide +kernel
theorem dX11_bestPin_33 : decode cX11_bestPin 33 = .ok (.istore 5, 2) := by decide +kernel
theorem dX11_bestPin_35 : decode cX11_bestPin 35 = .ok (.iconst 0, 1) := by decide +kernel
theorem dX11_bestPin_36 : decode cX11_bestPin 36 = .ok (.istore 6, 2) := by decide +kernel
theorem dX11_bestPin_38 : decode cX11_bestPin 38 = .ok (.iload 6, 2) := by decide +kernel
theorem dX11_bestPin_40 : decode cX11_bestPin 40 = .ok (.bipush 100, 2) := by decide +kernel
theorem dX11_bestPin_42 : decode cX11_bestPin 42 = .ok (.aload_n 0, 1) := by decide +kernel
theorem dX11_bestPin_43 : decode cX11_bestPin 43 = .ok (.getfield 10, 3) := by decide +kernel
theorem dX11_bestPin_46 : decode cX11_bestPin 46 = .ok (.getfield 149, 3) := by decide +kernel
theorem dX11_bestPin_49 : decode cX11_bestPin 49 = .ok (.imul, 1) := by decide +kernel
theorem dX11_bestPin_50 : decode cX11_bestPin 50 = .ok (.if_icmp .ge 143, 3) := by decide +kernel
theorem dX11_bestPin_53 : decode cX11_bestPin 53 = .ok (.iload 6, 2) := by decide +kernel
theorem dX11_bestPin_55 : decode cX11_bestPin 55 = .ok (.bipush 10, 2) := by decide +kernel
theorem dX11_bestPin_57 : decode cX11_bestPin 57 = .ok (.idiv, 1) := by decide +kernel
theorem dX11_bestPin_58 : decode cX11_bestPin 58 = .ok (.bipush 10, 2) := by decide +kernel
theorem dX11_bestPin_60 : decode cX11_bestPin 60 = .ok (.irem, 1) := by decide +kernel
theorem dX11_bestPin_61 : decode cX11_bestPin 61 = .ok (.istore 7, 2) := by decide +kernel
theorem dX11_bestPin_63 : decode cX11_bestPin 63 = .ok (.iload 6, 2) := by decide +kernel
theorem dX11_bestPin_65 : decode cX11_bestPin 65 = .ok (.bipush 10, 2) := by decide +kernel
theorem dX11_bestPin_67 : decode cX11_bestPin 67 = .ok (.irem, 1) := by decide +kernel
theorem dX11_bestPin_68 : decode cX11_bestPin 68 = .ok (.istore 8, 2) := by decide +kernel
theorem dX11_bestPin_70 : decode cX11_bestPin 70 = .ok (.iload 7, 2) := by decide +kernel
theorem dX11_bestPin_72 : decode cX11_bestPin 72 = .ok (.bipush 8, 2) := by decide +kernel
theorem dX11_bestPin_74 : decode cX11_bestPin 74 = .ok (.if_icmp .ge 113, 3) := by decide +kernel
theorem dX11_bestPin_77 : decode cX11_bestPin 77 = .ok (.iload 7, 2) := by decide +kernel
theorem dX11_bestPin_79 : decode cX11_bestPin 79 = .ok (.iconst 4, 1) := by decide +kernel
theorem dX11_bestPin_80 : decode cX11_bestPin 80 = .ok (.if_icmp .ne 10, 3) := by decide +kernel
theorem dX11_bestPin_83 : decode cX11_bestPin 83 = .ok (.iload_n 1, 1) := by decide +kernel
theorem dX11_bestPin_84 : decode cX11_bestPin 84 = .ok (.ifCond .ne 6, 3) := by decide +kernel
theorem dX11_bestPin_87 : decode cX11_bestPin 87 = .ok (.goto 100, 3) := by decide +kernel
theorem dX11_bestPin_90 : decode cX11_bestPin 90 = .ok (.aload_n 0, 1) := by decide +kernel
theorem dX11_bestPin_91 : decode cX11_bestPin 91 = .ok (.getfield 19, 3) := by decide +kernel
theorem dX11_bestPin_94 : decode cX11_bestPin 94 = .ok (.aload_n 0, 1) := by decide +kernel
theorem dX11_bestPin_95 : decode cX11_bestPin 95 = .ok (.getfield 10, 3) := by decide +kernel
theorem dX11_bestPin_98 : decode cX11_bestPin 98 = .ok (.invokevirtual 84, 3) := by decide +kernel
theorem dX11_bestPin_101 : decode cX11_bestPin 101 = .ok (.aload_n 0, 1) := by decide +kernel
theorem dX11_bestPin_102 : decode cX11_bestPin 102 = .ok (.getfield 19, 3) := by decide +kernel
theorem dX11_bestPin_105 : decode cX11_bestPin 105 = .ok (.aload_n 0, 1) := by decide +kernel
theorem dX11_bestPin_106 : decode cX11_bestPin 106 = .ok (.iload 7, 2) := by decide +kernel
theorem dX11_bestPin_108 : decode cX11_bestPin 108 = .ok (.invokevirtual 124, 3) := by decide +kernel
theorem dX11_bestPin_111 : decode cX11_bestPin 111 = .ok (.iload 8, 2) := by decide +kernel
theorem dX11_bestPin_113 : decode cX11_bestPin 113 = .ok (.iload 6, 2) := by decide +kernel
theorem dX11_bestPin_115 : decode cX11_bestPin 115 = .ok (.bipush 100, 2) := by decide +kernel
theorem dX11_bestPin_117 : decode cX11_bestPin 117 = .ok (.idiv, 1) := by decide +kernel
theorem dX11_bestPin_118 : decode cX11_bestPin 118 = .ok (.invokevirtual 135, 3) := by decide +kernel
theorem dX11_bestPin_121 : decode cX11_bestPin 121 = .ok (.ifCond .ne 6, 3) := by decide +kernel
theorem dX11_bestPin_124 : decode cX11_bestPin 124 = .ok (.goto 63, 3) := by decide +kernel
theorem dX11_bestPin_127 : decode cX11_bestPin 127 = .ok (.aload_n 0, 1) := by decide +kernel
theorem dX11_bestPin_128 : decode cX11_bestPin 128 = .ok (.getfield 19, 3) := by decide +kernel
theorem dX11_bestPin_131 : decode cX11_bestPin 131 = .ok (.invokevirtual 138, 3) := by decide +kernel
theorem dX11_bestPin_134 : decode cX11_bestPin 134 = .ok (.istore 9, 2) := by decide +kernel
theorem dX11_bestPin_136 : decode cX11_bestPin 136 = .ok (.aload_n 0, 1) := by decide +kernel
theorem dX11_bestPin_137 : decode cX11_bestPin 137 = .ok (.iload 7, 2) := by decide +kernel
theorem dX11_bestPin_139 : decode cX11_bestPin 139 = .ok (.invokevirtual 124, 3) := by decide +kernel
theorem dX11_bestPin_142 : decode cX11_bestPin 142 = .ok (.iload 8, 2) := by decide +kernel
theorem dX11_bestPin_144 : decode cX11_bestPin 144 = .ok (.invokevirtual 152, 3) := by decide +kernel
theorem dX11_bestPin_147 : decode cX11_bestPin 147 = .ok (.istore 10, 2) := by decide +kernel
theorem dX11_bestPin_149 : decode cX11_bestPin 149 = .ok (.iload 9, 2) := by decide +kernel
theorem dX11_bestPin_151 : decode cX11_bestPin 151 = .ok (.iload 4, 2) := by decide +kernel
theorem dX11_bestPin_153 : decode cX11_bestPin 153 = .ok (.if_icmp .lt 23, 3) := by decide +kernel
theorem dX11_bestPin_156 : decode cX11_bestPin 156 = .ok (.iload_n 3, 1) := by decide +kernel
theorem dX11_bestPin_157 : decode cX11_bestPin 157 = .ok (.bipush (-4), 2) := by decide +kernel
theorem dX11_bestPin_159 : decode cX11_bestPin 159 = .ok (.if_icmp .eq 28, 3) := by decide +kernel
theorem dX11_bestPin_162 : decode cX11_bestPin 162 = .ok (.iload 9, 2) := by decide +kernel
theorem dX11_bestPin_164 : decode cX11_bestPin 164 = .ok (.iload 4, 2) := by decide +kernel
theorem dX11_bestPin_166 : decode cX11_bestPin 166 = .ok (.if_icmp .ne 21, 3) := by decide +kernel
theorem dX11_bestPin_169 : decode cX11_bestPin 169 = .ok (.iload 10, 2) := by decide +kernel
theorem dX11_bestPin_171 : decode cX11_bestPin 171 = .ok (.iload 5, 2) := by decide +kernel
theorem dX11_bestPin_173 : decode cX11_bestPin 173 = .ok (.if_icmp .ge 14, 3) := by decide +kernel
theorem dX11_bestPin_176 : decode cX11_bestPin 176 = .ok (.iload 6, 2) := by decide +kernel
theorem dX11_bestPin_178 : decode cX11_bestPin 178 = .ok (.istore_n 3, 1) := by decide +kernel
theorem dX11_bestPin_179 : decode cX11_bestPin 179 = .ok (.iload 9, 2) := by decide +kernel
theorem dX11_bestPin_181 : decode cX11_bestPin 181 = .ok (.istore 4, 2) := by decide +kernel
theorem dX11_bestPin_183 : decode cX11_bestPin 183 = .ok (.iload 10, 2) := by decide +kernel
theorem dX11_bestPin_185 : decode cX11_bestPin 185 = .ok (.istore 5, 2) := by decide +kernel
theorem dX11_bestPin_187 : decode cX11_bestPin 187 = .ok (.iinc 6 1, 3) := by decide +kernel
theorem dX11_bestPin_190 : decode cX11_bestPin 190 = .ok (.goto (-152), 3) := by decide +kernel
theorem dX11_bestPin_193 : decode cX11_bestPin 193 = .ok (.iload_n 2, 1) := by decide +kernel
theorem dX11_bestPin_194 : decode cX11_bestPin 194 = .ok (.ifCond .ne 7, 3) := by decide +kernel
theorem dX11_bestPin_197 : decode cX11_bestPin 197 = .ok (.iload_n 3, 1) := by decide +kernel
theorem dX11_bestPin_198 : decode cX11_bestPin 198 = .ok (.goto 5, 3) := by decide +kernel
theorem dX11_bestPin_201 : decode cX11_bestPin 201 = .ok (.iload 4, 2) := by decide +kernel
theorem dX11_bestPin_203 : decode cX11_bestPin 203 = .ok (.ireturn, 1) := by decide +kernel
theorem dX11_least_0 : decode cX11_least 0 = .ok (.iload_n 2, 1) := by decide +kernel
theorem dX11_least_1 : decode cX11_least 1 = .ok (.iconst 0, 1) := by decide +kernel
theorem dX11_least_2 : decode cX11_least 2 = .ok (.iconst 1, 1) := by decide +kernel
theorem dX11_least_3 : decode cX11_least 3 = .ok (.invokestatic 104, 3) := by decide +kernel
theorem dX11_least_6 : decode cX11_least 6 = .ok (.ifCond .eq 11, 3) := by decide +kernel
theorem dX11_least_9 : decode cX11_least 9 = .ok (.aload_n 0, 1) := by decide +kernel
theorem dX11_least_10 : decode cX11_least 10 = .ok (.iload_n 1, 1) := by decide +kernel
theorem dX11_least_11 : decode cX11_least 11 = .ok (.invokevirtual 155, 3) := by decide +kernel
theorem dX11_least_14 : decode cX11_least 14 = .ok (.goto 4, 3) := by decide +kernel
theorem dX11_least_17 : decode cX11_least 17 = .ok (.iconst (-1), 1) := by decide +kernel
theorem dX11_least_18 : decode cX11_least 18 = .ok (.istore_n 3, 1) := by decide +kernel
theorem dX11_least_19 : decode cX11_least 19 = .ok (.iload_n 3, 1) := by decide +kernel
theorem dX11_least_20 : decode cX11_least 20 = .ok (.ifCond .eq 5, 3) := by decide +kernel
theorem dX11_least_23 : decode cX11_least 23 = .ok (.iload_n 3, 1) := by decide +kernel
theorem dX11_least_24 : decode cX11_least 24 = .ok (.ireturn, 1) := by decide +kernel
theorem dX11_least_25 : decode cX11_least 25 = .ok (.aload_n 0, 1) := by decide +kernel
theorem dX11_least_26 : decode cX11_least 26 = .ok (.iload_n 1, 1) := by decide +kernel
theorem dX11_least_27 : decode cX11_least 27 = .ok (.invokevirtual 76, 3) := by decide +kernel
theorem dX11_least_30 : decode cX11_least 30 = .ok (.astore 4, 2) := by decide +kernel
theorem dX11_least_32 : decode cX11_least 32 = .ok (.iconst 1, 1) := by decide +kernel
theorem dX11_least_33 : decode cX11_least 33 = .ok (.aload 4, 2) := by decide +kernel
theorem dX11_least_35 : decode cX11_least 35 = .ok (.invokestatic 158, 3) := by decide +kernel
theorem dX11_least_38 : decode cX11_least 38 = .ok (.ishl, 1) := by decide +kernel
theorem dX11_least_39 : decode cX11_least 39 = .ok (.istore 5, 2) := by decide +kernel
theorem dX11_least_41 : decode cX11_least 41 = .ok (.iconst 0, 1) := by decide +kernel
theorem dX11_least_42 : decode cX11_least 42 = .ok (.istore 6, 2) := by decide +kernel
theorem dX11_least_44 : decode cX11_least 44 = .ok (.aload_n 0, 1) := by decide +kernel
theorem dX11_least_45 : decode cX11_least 45 = .ok (.getfield 10, 3) := by decide +kernel
theorem dX11_least_48 : decode cX11_least 48 = .ok (.invokevirtual 138, 3) := by decide +kernel
theorem dX11_least_51 : decode cX11_least 51 = .ok (.istore 7, 2) := by decide +kernel
theorem dX11_least_53 : decode cX11_least 53 = .ok (.iconst 0, 1) := by decide +kernel
theorem dX11_least_54 : decode cX11_least 54 = .ok (.istore 8, 2) := by decide +kernel
theorem dX11_least_56 : decode cX11_least 56 = .ok (.iconst 1, 1) := by decide +kernel
theorem dX11_least_57 : decode cX11_least 57 = .ok (.istore 9, 2) := by decide +kernel
theorem dX11_least_59 : decode cX11_least 59 = .ok (.iload 9, 2) := by decide +kernel
theorem dX11_least_61 : decode cX11_least 61 = .ok (.iload 5, 2) := by decide +kernel
theorem dX11_least_63 : decode cX11_least 63 = .ok (.if_icmp .ge 75, 3) := by decide +kernel
theorem dX11_least_66 : decode cX11_least 66 = .ok (.aload_n 0, 1) := by decide +kernel
theorem dX11_least_67 : decode cX11_least 67 = .ok (.aload 4, 2) := by decide +kernel
theorem dX11_least_69 : decode cX11_least 69 = .ok (.iload 9, 2) := by decide +kernel
theorem dX11_least_71 : decode cX11_least 71 = .ok (.invokevirtual 161, 3) := by decide +kernel
theorem dX11_least_74 : decode cX11_least 74 = .ok (.ifCond .ne 6, 3) := by decide +kernel
theorem dX11_least_77 : decode cX11_least 77 = .ok (.goto 55, 3) := by decide +kernel
theorem dX11_least_80 : decode cX11_least 80 = .ok (.aload_n 0, 1) := by decide +kernel
theorem dX11_least_81 : decode cX11_least 81 = .ok (.getfield 19, 3) := by decide +kernel
theorem dX11_least_84 : decode cX11_least 84 = .ok (.invokevirtual 138, 3) := by decide +kernel
theorem dX11_least_87 : decode cX11_least 87 = .ok (.istore 10, 2) := by decide +kernel
theorem dX11_least_89 : decode cX11_least 89 = .ok (.aload_n 0, 1) := by decide +kernel
theorem dX11_least_90 : decode cX11_least 90 = .ok (.aload 4, 2) := by decide +kernel
theorem dX11_least_92 : decode cX11_least 92 = .ok (.iload 9, 2) := by decide +kernel
theorem dX11_least_94 : decode cX11_least 94 = .ok (.invokevirtual 165, 3) := by decide +kernel
theorem dX11_least_97 : decode cX11_least 97 = .ok (.istore 11, 2) := by decide +kernel
theorem dX11_least_99 : decode cX11_least 99 = .ok (.iload 10, 2) := by decide +kernel
theorem dX11_least_101 : decode cX11_least 101 = .ok (.iload 7, 2) := by decide +kernel
theorem dX11_least_103 : decode cX11_least 103 = .ok (.if_icmp .lt 17, 3) := by decide +kernel
theorem dX11_least_106 : decode cX11_least 106 = .ok (.iload 10, 2) := by decide +kernel
theorem dX11_least_108 : decode cX11_least 108 = .ok (.iload 7, 2) := by decide +kernel
theorem dX11_least_110 : decode cX11_least 110 = .ok (.if_icmp .ne 22, 3) := by decide +kernel
theorem dX11_least_113 : decode cX11_least 113 = .ok (.iload 11, 2) := by decide +kernel
theorem dX11_least_115 : decode cX11_least 115 = .ok (.iload 8, 2) := by decide +kernel
theorem dX11_least_117 : decode cX11_least 117 = .ok (.if_icmp .ge 15, 3) := by decide +kernel
theorem dX11_least_120 : decode cX11_least 120 = .ok (.iload 9, 2) := by decide +kernel
theorem dX11_least_122 : decode cX11_least 122 = .ok (.istore 6, 2) := by decide +kernel
theorem dX11_least_124 : decode cX11_least 124 = .ok (.iload 10, 2) := by decide +kernel
theorem dX11_least_126 : decode cX11_least 126 = .ok (.istore 7, 2) := by decide +kernel
theorem dX11_least_128 : decode cX11_least 128 = .ok (.iload 11, 2) := by decide +kernel
theorem dX11_least_130 : decode cX11_least 130 = .ok (.istore 8, 2) := by decide +kernel
theorem dX11_least_132 : decode cX11_least 132 = .ok (.iinc 9 1, 3) := by decide +kernel
theorem dX11_least_135 : decode cX11_least 135 = .ok (.goto (-76), 3) := by decide +kernel
theorem dX11_least_138 : decode cX11_least 138 = .ok (.iload_n 2, 1) := by decide +kernel
theorem dX11_least_139 : decode cX11_least 139 = .ok (.ifCond .ne 8, 3) := by decide +kernel
theorem dX11_least_142 : decode cX11_least 142 = .ok (.iload 6, 2) := by decide +kernel
theorem dX11_least_144 : decode cX11_least 144 = .ok (.goto 5, 3) := by decide +kernel
theorem dX11_least_147 : decode cX11_least 147 = .ok (.iload 7, 2) := by decide +kernel
theorem dX11_least_149 : decode cX11_least 149 = .ok (.ireturn, 1) := by decide +kernel
theorem dX11_first_0 : decode cX11_first 0 = .ok (.aload_n 0, 1) := by decide +kernel
theorem dX11_first_1 : decode cX11_first 1 = .ok (.iload_n 1, 1) := by decide +kernel
theorem dX11_first_2 : decode cX11_first 2 = .ok (.invokevirtual 155, 3) := by decide +kernel
theorem dX11_first_5 : decode cX11_first 5 = .ok (.istore_n 2, 1) := by decide +kernel
theorem dX11_first_6 : decode cX11_first 6 = .ok (.iload_n 2, 1) := by decide +kernel
theorem dX11_first_7 : decode cX11_first 7 = .ok (.ifCond .eq 5, 3) := by decide +kernel
theorem dX11_first_10 : decode cX11_first 10 = .ok (.iload_n 2, 1) := by decide +kernel
theorem dX11_first_11 : decode cX11_first 11 = .ok (.ireturn, 1) := by decide +kernel
theorem dX11_first_12 : decode cX11_first 12 = .ok (.aload_n 0, 1) := by decide +kernel
theorem dX11_first_13 : decode cX11_first 13 = .ok (.iload_n 1, 1) := by decide +kernel
theorem dX11_first_14 : decode cX11_first 14 = .ok (.invokevirtual 76, 3) := by decide +kernel
theorem dX11_first_17 : decode cX11_first 17 = .ok (.astore_n 3, 1) := by decide +kernel
theorem dX11_first_18 : decode cX11_first 18 = .ok (.aload_n 3, 1) := by decide +kernel
theorem dX11_first_19 : decode cX11_first 19 = .ok (.invokestatic 158, 3) := by decide +kernel
theorem dX11_first_22 : decode cX11_first 22 = .ok (.istore 4, 2) := by decide +kernel
theorem dX11_first_24 : decode cX11_first 24 = .ok (.aload_n 0, 1) := by decide +kernel
theorem dX11_first_25 : decode cX11_first 25 = .ok (.getfield 19, 3) := by decide +kernel
theorem dX11_first_28 : decode cX11_first 28 = .ok (.aload_n 0, 1) := by decide +kernel
theorem dX11_first_29 : decode cX11_first 29 = .ok (.getfield 10, 3) := by decide +kernel
theorem dX11_first_32 : decode cX11_first 32 = .ok (.invokevirtual 84, 3) := by decide +kernel
theorem dX11_first_35 : decode cX11_first 35 = .ok (.iconst 0, 1) := by decide +kernel
theorem dX11_first_36 : decode cX11_first 36 = .ok (.istore 5, 2) := by decide +kernel
theorem dX11_first_38 : decode cX11_first 38 = .ok (.iload 5, 2) := by decide +kernel
theorem dX11_first_40 : decode cX11_first 40 = .ok (.iload 4, 2) := by decide +kernel
theorem dX11_first_42 : decode cX11_first 42 = .ok (.if_icmp .ge 26, 3) := by decide +kernel
theorem dX11_first_45 : decode cX11_first 45 = .ok (.aload_n 0, 1) := by decide +kernel
theorem dX11_first_46 : decode cX11_first 46 = .ok (.aload_n 0, 1) := by decide +kernel
theorem dX11_first_47 : decode cX11_first 47 = .ok (.getfield 19, 3) := by decide +kernel
theorem dX11_first_50 : decode cX11_first 50 = .ok (.aload_n 3, 1) := by decide +kernel
theorem dX11_first_51 : decode cX11_first 51 = .ok (.iload 5, 2) := by decide +kernel
theorem dX11_first_53 : decode cX11_first 53 = .ok (.invokevirtual 169, 3) := by decide +kernel
theorem dX11_first_56 : decode cX11_first 56 = .ok (.ifCond .ne 6, 3) := by decide +kernel
theorem dX11_first_59 : decode cX11_first 59 = .ok (.iload 5, 2) := by decide +kernel
theorem dX11_first_61 : decode cX11_first 61 = .ok (.ireturn, 1) := by decide +kernel
theorem dX11_first_62 : decode cX11_first 62 = .ok (.iinc 5 1, 3) := by decide +kernel
theorem dX11_first_65 : decode cX11_first 65 = .ok (.goto (-27), 3) := by decide +kernel
theorem dX11_first_68 : decode cX11_first 68 = .ok (.bipush (-4), 2) := by decide +kernel
theorem dX11_first_70 : decode cX11_first 70 = .ok (.ireturn, 1) := by decide +kernel
theorem dX11_orders_0 : decode cX11_orders 0 = .ok (.iload_n 2, 1) := by decide +kernel
theorem dX11_orders_1 : decode cX11_orders 1 = .ok (.iconst 0, 1) := by decide +kernel
theorem dX11_orders_2 : decode cX11_orders 2 = .ok (.iconst 1, 1) := by decide +kernel
theorem dX11_orders_3 : decode cX11_orders 3 = .ok (.invokestatic 104, 3) := by decide +kernel
theorem dX11_orders_6 : decode cX11_orders 6 = .ok (.ifCond .eq 11, 3) := by decide +kernel
theorem dX11_orders_9 : decode cX11_orders 9 = .ok (.aload_n 0, 1) := by decide +kernel
theorem dX11_orders_10 : decode cX11_orders 10 = .ok (.iload_n 1, 1) := by decide +kernel
theorem dX11_orders_11 : decode cX11_orders 11 = .ok (.invokevirtual 155, 3) := by decide +kernel
theorem dX11_orders_14 : decode cX11_orders 14 = .ok (.goto 4, 3) := by decide +kernel
theorem dX11_orders_17 : decode cX11_orders 17 = .ok (.iconst (-1), 1) := by decide +kernel
theorem dX11_orders_18 : decode cX11_orders 18 = .ok (.istore_n 3, 1) := by decide +kernel
theorem dX11_orders_19 : decode cX11_orders 19 = .ok (.iload_n 3, 1) := by decide +kernel
theorem dX11_orders_20 : decode cX11_orders 20 = .ok (.ifCond .eq 5, 3) := by decide +kernel
theorem dX11_orders_23 : decode cX11_orders 23 = .ok (.iload_n 3, 1) := by decide +kernel
theorem dX11_orders_24 : decode cX11_orders 24 = .ok (.ireturn, 1) := by decide +kernel
theorem dX11_orders_25 : decode cX11_orders 25 = .ok (.aload_n 0, 1) := by decide +kernel
theorem dX11_orders_26 : decode cX11_orders 26 = .ok (.iload_n 1, 1) := by decide +kernel
theorem dX11_orders_27 : decode cX11_orders 27 = .ok (.invokevirtual 76, 3) := by decide +kernel
theorem dX11_orders_30 : decode cX11_orders 30 = .ok (.astore 4, 2) := by decide +kernel
theorem dX11_orders_32 : decode cX11_orders 32 = .ok (.aload 4, 2) := by decide +kernel
theorem dX11_orders_34 : decode cX11_orders 34 = .ok (.invokestatic 158, 3) := by decide +kernel
theorem dX11_orders_37 : decode cX11_orders 37 = .ok (.istore 5, 2) := by decide +kernel
theorem dX11_orders_39 : decode cX11_orders 39 = .ok (.iload 5, 2) := by decide +kernel
theorem dX11_orders_41 : decode cX11_orders 41 = .ok (.iconst 5, 1) := by decide +kernel
theorem dX11_orders_42 : decode cX11_orders 42 = .ok (.if_icmp .le 6, 3) := by decide +kernel
theorem dX11_orders_45 : decode cX11_orders 45 = .ok (.bipush (-2), 2) := by decide +kernel
theorem dX11_orders_47 : decode cX11_orders 47 = .ok (.ireturn, 1) := by decide +kernel
theorem dX11_orders_48 : decode cX11_orders 48 = .ok (.iconst 1, 1) := by decide +kernel
theorem dX11_orders_49 : decode cX11_orders 49 = .ok (.istore 6, 2) := by decide +kernel
theorem dX11_orders_51 : decode cX11_orders 51 = .ok (.iconst 2, 1) := by decide +kernel
theorem dX11_orders_52 : decode cX11_orders 52 = .ok (.istore 7, 2) := by decide +kernel
theorem dX11_orders_54 : decode cX11_orders 54 = .ok (.iload 7, 2) := by decide +kernel
theorem dX11_orders_56 : decode cX11_orders 56 = .ok (.iload 5, 2) := by decide +kernel
theorem dX11_orders_58 : decode cX11_orders 58 = .ok (.if_icmp .gt 16, 3) := by decide +kernel
theorem dX11_orders_61 : decode cX11_orders 61 = .ok (.iload 6, 2) := by decide +kernel
theorem dX11_orders_63 : decode cX11_orders 63 = .ok (.iload 7, 2) := by decide +kernel
theorem dX11_orders_65 : decode cX11_orders 65 = .ok (.imul, 1) := by decide +kernel
theorem dX11_orders_66 : decode cX11_orders 66 = .ok (.istore 6, 2) := by decide +kernel
theorem dX11_orders_68 : decode cX11_orders 68 = .ok (.iinc 7 1, 3) := by decide +kernel
theorem dX11_orders_71 : decode cX11_orders 71 = .ok (.goto (-17), 3) := by decide +kernel
theorem dX11_orders_74 : decode cX11_orders 74 = .ok (.iconst 0, 1) := by decide +kernel
theorem dX11_orders_75 : decode cX11_orders 75 = .ok (.istore 7, 2) := by decide +kernel
theorem dX11_orders_77 : decode cX11_orders 77 = .ok (.bipush (-4), 2) := by decide +kernel
theorem dX11_orders_79 : decode cX11_orders 79 = .ok (.istore 8, 2) := by decide +kernel
theorem dX11_orders_81 : decode cX11_orders 81 = .ok (.iconst 0, 1) := by decide +kernel
theorem dX11_orders_82 : decode cX11_orders 82 = .ok (.istore 9, 2) := by decide +kernel
theorem dX11_orders_84 : decode cX11_orders 84 = .ok (.iload 9, 2) := by decide +kernel
theorem dX11_orders_86 : decode cX11_orders 86 = .ok (.iload 6, 2) := by decide +kernel
theorem dX11_orders_88 : decode cX11_orders 88 = .ok (.if_icmp .ge 51, 3) := by decide +kernel
theorem dX11_orders_91 : decode cX11_orders 91 = .ok (.aload_n 0, 1) := by decide +kernel
theorem dX11_orders_92 : decode cX11_orders 92 = .ok (.aload 4, 2) := by decide +kernel
theorem dX11_orders_94 : decode cX11_orders 94 = .ok (.iload 9, 2) := by decide +kernel
theorem dX11_orders_96 : decode cX11_orders 96 = .ok (.invokevirtual 173, 3) := by decide +kernel
theorem dX11_orders_99 : decode cX11_orders 99 = .ok (.ifCond .eq 34, 3) := by decide +kernel
theorem dX11_orders_102 : decode cX11_orders 102 = .ok (.aload_n 0, 1) := by decide +kernel
theorem dX11_orders_103 : decode cX11_orders 103 = .ok (.getfield 19, 3) := by decide +kernel
theorem dX11_orders_106 : decode cX11_orders 106 = .ok (.invokevirtual 138, 3) := by decide +kernel
theorem dX11_orders_109 : decode cX11_orders 109 = .ok (.istore 10, 2) := by decide +kernel
theorem dX11_orders_111 : decode cX11_orders 111 = .ok (.iload 7, 2) := by decide +kernel
theorem dX11_orders_113 : decode cX11_orders 113 = .ok (.ifCond .ne 8, 3) := by decide +kernel
theorem dX11_orders_116 : decode cX11_orders 116 = .ok (.iload 10, 2) := by decide +kernel
theorem dX11_orders_118 : decode cX11_orders 118 = .ok (.goto 10, 3) := by decide +kernel
theorem dX11_orders_121 : decode cX11_orders 121 = .ok (.iload 8, 2) := by decide +kernel
theorem dX11_orders_123 : decode cX11_orders 123 = .ok (.iload 10, 2) := by decide +kernel
theorem dX11_orders_125 : decode cX11_orders 125 = .ok (.invokestatic 176, 3) := by decide +kernel
theorem dX11_orders_128 : decode cX11_orders 128 = .ok (.istore 8, 2) := by decide +kernel
theorem dX11_orders_130 : decode cX11_orders 130 = .ok (.iinc 7 1, 3) := by decide +kernel
theorem dX11_orders_133 : decode cX11_orders 133 = .ok (.iinc 9 1, 3) := by decide +kernel
theorem dX11_orders_136 : decode cX11_orders 136 = .ok (.goto (-52), 3) := by decide +kernel
theorem dX11_orders_139 : decode cX11_orders 139 = .ok (.iload_n 2, 1) := by decide +kernel
theorem dX11_orders_140 : decode cX11_orders 140 = .ok (.ifCond .ne 8, 3) := by decide +kernel
theorem dX11_orders_143 : decode cX11_orders 143 = .ok (.iload 7, 2) := by decide +kernel
theorem dX11_orders_145 : decode cX11_orders 145 = .ok (.goto 5, 3) := by decide +kernel
theorem dX11_orders_148 : decode cX11_orders 148 = .ok (.iload 8, 2) := by decide +kernel
theorem dX11_orders_150 : decode cX11_orders 150 = .ok (.ireturn, 1) := by decide +kernel
theorem dX11_hem_0 : decode cX11_hem 0 = .ok (.iload_n 1, 1) := by decide +kernel
theorem dX11_hem_1 : decode cX11_hem 1 = .ok (.iconst 1, 1) := by decide +kernel
theorem dX11_hem_2 : decode cX11_hem 2 = .ok (.bipush 99, 2) := by decide +kernel
theorem dX11_hem_4 : decode cX11_hem 4 = .ok (.invokestatic 104, 3) := by decide +kernel
theorem dX11_hem_7 : decode cX11_hem 7 = .ok (.ifCond .eq 23, 3) := by decide +kernel
theorem dX11_hem_10 : decode cX11_hem 10 = .ok (.iload_n 2, 1) := by decide +kernel
theorem dX11_hem_11 : decode cX11_hem 11 = .ok (.iconst 0, 1) := by decide +kernel
theorem dX11_hem_12 : decode cX11_hem 12 = .ok (.bipush 99, 2) := by decide +kernel
theorem dX11_hem_14 : decode cX11_hem 14 = .ok (.invokestatic 104, 3) := by decide +kernel
theorem dX11_hem_17 : decode cX11_hem 17 = .ok (.ifCond .eq 13, 3) := by decide +kernel
theorem dX11_hem_20 : decode cX11_hem 20 = .ok (.iload_n 3, 1) := by decide +kernel
theorem dX11_hem_21 : decode cX11_hem 21 = .ok (.iconst 0, 1) := by decide +kernel
theorem dX11_hem_22 : decode cX11_hem 22 = .ok (.bipush 20, 2) := by decide +kernel
theorem dX11_hem_24 : decode cX11_hem 24 = .ok (.invokestatic 104, 3) := by decide +kernel
theorem dX11_hem_27 : decode cX11_hem 27 = .ok (.ifCond .ne 5, 3) := by decide +kernel
theorem dX11_hem_30 : decode cX11_hem 30 = .ok (.iconst (-1), 1) := by decide +kernel
theorem dX11_hem_31 : decode cX11_hem 31 = .ok (.ireturn, 1) := by decide +kernel
theorem dX11_hem_32 : decode cX11_hem 32 = .ok (.iload_n 1, 1) := by decide +kernel
theorem dX11_hem_33 : decode cX11_hem 33 = .ok (.istore 4, 2) := by decide +kernel
theorem dX11_hem_35 : decode cX11_hem 35 = .ok (.iconst 0, 1) := by decide +kernel
theorem dX11_hem_36 : decode cX11_hem 36 = .ok (.istore 5, 2) := by decide +kernel
theorem dX11_hem_38 : decode cX11_hem 38 = .ok (.iload 5, 2) := by decide +kernel
theorem dX11_hem_40 : decode cX11_hem 40 = .ok (.iload_n 3, 1) := by decide +kernel
theorem dX11_hem_41 : decode cX11_hem 41 = .ok (.if_icmp .ge 26, 3) := by decide +kernel
theorem dX11_hem_44 : decode cX11_hem 44 = .ok (.bipush 99, 2) := by decide +kernel
theorem dX11_hem_46 : decode cX11_hem 46 = .ok (.iload 4, 2) := by decide +kernel
theorem dX11_hem_48 : decode cX11_hem 48 = .ok (.iload_n 2, 1) := by decide +kernel
theorem dX11_hem_49 : decode cX11_hem 49 = .ok (.iload 4, 2) := by decide +kernel
theorem dX11_hem_51 : decode cX11_hem 51 = .ok (.imul, 1) := by decide +kernel
theorem dX11_hem_52 : decode cX11_hem 52 = .ok (.bipush 100, 2) := by decide +kernel
theorem dX11_hem_54 : decode cX11_hem 54 = .ok (.idiv, 1) := by decide +kernel
theorem dX11_hem_55 : decode cX11_hem 55 = .ok (.iadd, 1) := by decide +kernel
theorem dX11_hem_56 : decode cX11_hem 56 = .ok (.invokestatic 176, 3) := by decide +kernel
theorem dX11_hem_59 : decode cX11_hem 59 = .ok (.istore 4, 2) := by decide +kernel
theorem dX11_hem_61 : decode cX11_hem 61 = .ok (.iinc 5 1, 3) := by decide +kernel
theorem dX11_hem_64 : decode cX11_hem 64 = .ok (.goto (-26), 3) := by decide +kernel
theorem dX11_hem_67 : decode cX11_hem 67 = .ok (.iload 4, 2) := by decide +kernel
theorem dX11_hem_69 : decode cX11_hem 69 = .ok (.ireturn, 1) := by decide +kernel
theorem dX11_darts_0 : decode cX11_darts 0 = .ok (.iload_n 1, 1) := by decide +kernel
theorem dX11_darts_1 : decode cX11_darts 1 = .ok (.iconst 0, 1) := by decide +kernel
theorem dX11_darts_2 : decode cX11_darts 2 = .ok (.bipush 99, 2) := by decide +kernel
theorem dX11_darts_4 : decode cX11_darts 4 = .ok (.invokestatic 104, 3) := by decide +kernel
theorem dX11_darts_7 : decode cX11_darts 7 = .ok (.ifCond .eq 17, 3) := by decide +kernel
theorem dX11_darts_10 : decode cX11_darts 10 = .ok (.iload_n 3, 1) := by decide +kernel
theorem dX11_darts_11 : decode cX11_darts 11 = .ok (.iconst 0, 1) := by decide +kernel
theorem dX11_darts_12 : decode cX11_darts 12 = .ok (.bipush 99, 2) := by decide +kernel
theorem dX11_darts_14 : decode cX11_darts 14 = .ok (.invokestatic 104, 3) := by decide +kernel
theorem dX11_darts_17 : decode cX11_darts 17 = .ok (.ifCond .eq 7, 3) := by decide +kernel
theorem dX11_darts_20 : decode cX11_darts 20 = .ok (.iconst 1, 1) := by decide +kernel
theorem dX11_darts_21 : decode cX11_darts 21 = .ok (.goto 4, 3) := by decide +kernel
theorem dX11_darts_24 : decode cX11_darts 24 = .ok (.iconst 0, 1) := by decide +kernel
theorem dX11_darts_25 : decode cX11_darts 25 = .ok (.istore 5, 2) := by decide +kernel
theorem dX11_darts_27 : decode cX11_darts 27 = .ok (.iload_n 2, 1) := by decide +kernel
theorem dX11_darts_28 : decode cX11_darts 28 = .ok (.iconst 1, 1) := by decide +kernel
theorem dX11_darts_29 : decode cX11_darts 29 = .ok (.bipush 99, 2) := by decide +kernel
theorem dX11_darts_31 : decode cX11_darts 31 = .ok (.invokestatic 104, 3) := by decide +kernel
theorem dX11_darts_34 : decode cX11_darts 34 = .ok (.ifCond .eq 18, 3) := by decide +kernel
theorem dX11_darts_37 : decode cX11_darts 37 = .ok (.iload 4, 2) := by decide +kernel
theorem dX11_darts_39 : decode cX11_darts 39 = .ok (.iconst 1, 1) := by decide +kernel
theorem dX11_darts_40 : decode cX11_darts 40 = .ok (.bipush 99, 2) := by decide +kernel
theorem dX11_darts_42 : decode cX11_darts 42 = .ok (.invokestatic 104, 3) := by decide +kernel
theorem dX11_darts_45 : decode cX11_darts 45 = .ok (.ifCond .eq 7, 3) := by decide +kernel
theorem dX11_darts_48 : decode cX11_darts 48 = .ok (.iconst 1, 1) := by decide +kernel
theorem dX11_darts_49 : decode cX11_darts 49 = .ok (.goto 4, 3) := by decide +kernel
theorem dX11_darts_52 : decode cX11_darts 52 = .ok (.iconst 0, 1) := by decide +kernel
theorem dX11_darts_53 : decode cX11_darts 53 = .ok (.istore 6, 2) := by decide +kernel
theorem dX11_darts_55 : decode cX11_darts 55 = .ok (.iload 5, 2) := by decide +kernel
theorem dX11_darts_57 : decode cX11_darts 57 = .ok (.ifCond .eq 8, 3) := by decide +kernel
theorem dX11_darts_60 : decode cX11_darts 60 = .ok (.iload 6, 2) := by decide +kernel
theorem dX11_darts_62 : decode cX11_darts 62 = .ok (.ifCond .ne 5, 3) := by decide +kernel
theorem dX11_darts_65 : decode cX11_darts 65 = .ok (.iconst (-1), 1) := by decide +kernel
theorem dX11_darts_66 : decode cX11_darts 66 = .ok (.ireturn, 1) := by decide +kernel
theorem dX11_darts_67 : decode cX11_darts 67 = .ok (.iload_n 1, 1) := by decide +kernel
theorem dX11_darts_68 : decode cX11_darts 68 = .ok (.iload 4, 2) := by decide +kernel
theorem dX11_darts_70 : decode cX11_darts 70 = .ok (.imul, 1) := by decide +kernel
theorem dX11_darts_71 : decode cX11_darts 71 = .ok (.iload_n 3, 1) := by decide +kernel
theorem dX11_darts_72 : decode cX11_darts 72 = .ok (.iload_n 2, 1) := by decide +kernel
theorem dX11_darts_73 : decode cX11_darts 73 = .ok (.imul, 1) := by decide +kernel
theorem dX11_darts_74 : decode cX11_darts 74 = .ok (.if_icmp .ne 7, 3) := by decide +kernel
theorem dX11_darts_77 : decode cX11_darts 77 = .ok (.iconst 1, 1) := by decide +kernel
theorem dX11_darts_78 : decode cX11_darts 78 = .ok (.goto 4, 3) := by decide +kernel
theorem dX11_darts_81 : decode cX11_darts 81 = .ok (.iconst 0, 1) := by decide +kernel
theorem dX11_darts_82 : decode cX11_darts 82 = .ok (.ireturn, 1) := by decide +kernel
theorem dX11_stripes_0 : decode cX11_stripes 0 = .ok (.iload_n 1, 1) := by decide +kernel
theorem dX11_stripes_1 : decode cX11_stripes 1 = .ok (.iconst 1, 1) := by decide +kernel
theorem dX11_stripes_2 : decode cX11_stripes 2 = .ok (.bipush 60, 2) := by decide +kernel
theorem dX11_stripes_4 : decode cX11_stripes 4 = .ok (.invokestatic 104, 3) := by decide +kernel
theorem dX11_stripes_7 : decode cX11_stripes 7 = .ok (.ifCond .eq 36, 3) := by decide +kernel
theorem dX11_stripes_10 : decode cX11_stripes 10 = .ok (.iload_n 3, 1) := by decide +kernel
theorem dX11_stripes_11 : decode cX11_stripes 11 = .ok (.iconst 1, 1) := by decide +kernel
theorem dX11_stripes_12 : decode cX11_stripes 12 = .ok (.bipush 60, 2) := by decide +kernel
theorem dX11_stripes_14 : decode cX11_stripes 14 = .ok (.invokestatic 104, 3) := by decide +kernel
theorem dX11_stripes_17 : decode cX11_stripes 17 = .ok (.ifCond .eq 26, 3) := by decide +kernel
theorem dX11_stripes_20 : decode cX11_stripes 20 = .ok (.iload_n 2, 1) := by decide +kernel
theorem dX11_stripes_21 : decode cX11_stripes 21 = .ok (.iconst 0, 1) := by decide +kernel
theorem dX11_stripes_22 : decode cX11_stripes 22 = .ok (.iload_n 1, 1) := by decide +kernel
theorem dX11_stripes_23 : decode cX11_stripes 23 = .ok (.iconst 1, 1) := by decide +kernel
theorem dX11_stripes_24 : decode cX11_stripes 24 = .ok (.isub, 1) := by decide +kernel
theorem dX11_stripes_25 : decode cX11_stripes 25 = .ok (.invokestatic 104, 3) := by decide +kernel
theorem dX11_stripes_28 : decode cX11_stripes 28 = .ok (.ifCond .eq 15, 3) := by decide +kernel
theorem dX11_stripes_31 : decode cX11_stripes 31 = .ok (.iload 4, 2) := by decide +kernel
theorem dX11_stripes_33 : decode cX11_stripes 33 = .ok (.iconst 0, 1) := by decide +kernel
theorem dX11_stripes_34 : decode cX11_stripes 34 = .ok (.iload_n 3, 1) := by decide +kernel
theorem dX11_stripes_35 : decode cX11_stripes 35 = .ok (.iconst 1, 1) := by decide +kernel
theorem dX11_stripes_36 : decode cX11_stripes 36 = .ok (.isub, 1) := by decide +kernel
theorem dX11_stripes_37 : decode cX11_stripes 37 = .ok (.invokestatic 104, 3) := by decide +kernel
theorem dX11_stripes_40 : decode cX11_stripes 40 = .ok (.ifCond .ne 5, 3) := by decide +kernel
theorem dX11_stripes_43 : decode cX11_stripes 43 = .ok (.iconst (-1), 1) := by decide +kernel
theorem dX11_stripes_44 : decode cX11_stripes 44 = .ok (.ireturn, 1) := by decide +kernel
theorem dX11_stripes_45 : decode cX11_stripes 45 = .ok (.iconst 0, 1) := by decide +kernel
theorem dX11_stripes_46 : decode cX11_stripes 46 = .ok (.istore 5, 2) := by decide +kernel
theorem dX11_stripes_48 : decode cX11_stripes 48 = .ok (.iload 5, 2) := by decide +kernel
theorem dX11_stripes_50 : decode cX11_stripes 50 = .ok (.iload_n 3, 1) := by decide +kernel
theorem dX11_stripes_51 : decode cX11_stripes 51 = .ok (.if_icmp .ge 29, 3) := by decide +kernel
theorem dX11_stripes_54 : decode cX11_stripes 54 = .ok (.iload_n 2, 1) := by decide +kernel
theorem dX11_stripes_55 : decode cX11_stripes 55 = .ok (.iload 5, 2) := by decide +kernel
theorem dX11_stripes_57 : decode cX11_stripes 57 = .ok (.iload_n 1, 1) := by decide +kernel
theorem dX11_stripes_58 : decode cX11_stripes 58 = .ok (.imul, 1) := by decide +kernel
theorem dX11_stripes_59 : decode cX11_stripes 59 = .ok (.iadd, 1) := by decide +kernel
theorem dX11_stripes_60 : decode cX11_stripes 60 = .ok (.istore 6, 2) := by decide +kernel
theorem dX11_stripes_62 : decode cX11_stripes 62 = .ok (.iload 6, 2) := by decide +kernel
theorem dX11_stripes_64 : decode cX11_stripes 64 = .ok (.iload_n 3, 1) := by decide +kernel
theorem dX11_stripes_65 : decode cX11_stripes 65 = .ok (.irem, 1) := by decide +kernel
theorem dX11_stripes_66 : decode cX11_stripes 66 = .ok (.iload 4, 2) := by decide +kernel
theorem dX11_stripes_68 : decode cX11_stripes 68 = .ok (.if_icmp .ne 6, 3) := by decide +kernel
theorem dX11_stripes_71 : decode cX11_stripes 71 = .ok (.iload 6, 2) := by decide +kernel
theorem dX11_stripes_73 : decode cX11_stripes 73 = .ok (.ireturn, 1) := by decide +kernel
theorem dX11_stripes_74 : decode cX11_stripes 74 = .ok (.iinc 5 1, 3) := by decide +kernel
theorem dX11_stripes_77 : decode cX11_stripes 77 = .ok (.goto (-29), 3) := by decide +kernel
theorem dX11_stripes_80 : decode cX11_stripes 80 = .ok (.bipush (-4), 2) := by decide +kernel
theorem dX11_stripes_82 : decode cX11_stripes 82 = .ok (.ireturn, 1) := by decide +kernel
theorem dX11_measures_0 : decode cX11_measures 0 = .ok (.iload_n 2, 1) := by decide +kernel
theorem dX11_measures_1 : decode cX11_measures 1 = .ok (.iconst 0, 1) := by decide +kernel
theorem dX11_measures_2 : decode cX11_measures 2 = .ok (.iconst 1, 1) := by decide +kernel
theorem dX11_measures_3 : decode cX11_measures 3 = .ok (.invokestatic 104, 3) := by decide +kernel
theorem dX11_measures_6 : decode cX11_measures 6 = .ok (.ifCond .eq 12, 3) := by decide +kernel
theorem dX11_measures_9 : decode cX11_measures 9 = .ok (.aload_n 0, 1) := by decide +kernel
theorem dX11_measures_10 : decode cX11_measures 10 = .ok (.iload_n 1, 1) := by decide +kernel
theorem dX11_measures_11 : decode cX11_measures 11 = .ok (.iconst 1, 1) := by decide +kernel
theorem dX11_measures_12 : decode cX11_measures 12 = .ok (.invokevirtual 72, 3) := by decide +kernel
theorem dX11_measures_15 : decode cX11_measures 15 = .ok (.goto 4, 3) := by decide +kernel
theorem dX11_measures_18 : decode cX11_measures 18 = .ok (.iconst (-1), 1) := by decide +kernel
theorem dX11_measures_19 : decode cX11_measures 19 = .ok (.istore_n 3, 1) := by decide +kernel
theorem dX11_measures_20 : decode cX11_measures 20 = .ok (.iload_n 3, 1) := by decide +kernel
theorem dX11_measures_21 : decode cX11_measures 21 = .ok (.ifCond .eq 5, 3) := by decide +kernel
theorem dX11_measures_24 : decode cX11_measures 24 = .ok (.iload_n 3, 1) := by decide +kernel
theorem dX11_measures_25 : decode cX11_measures 25 = .ok (.ireturn, 1) := by decide +kernel
theorem dX11_measures_26 : decode cX11_measures 26 = .ok (.aload_n 0, 1) := by decide +kernel
theorem dX11_measures_27 : decode cX11_measures 27 = .ok (.iload_n 1, 1) := by decide +kernel
theorem dX11_measures_28 : decode cX11_measures 28 = .ok (.invokevirtual 76, 3) := by decide +kernel
theorem dX11_measures_31 : decode cX11_measures 31 = .ok (.astore 4, 2) := by decide +kernel
theorem dX11_measures_33 : decode cX11_measures 33 = .ok (.aload_n 0, 1) := by decide +kernel
theorem dX11_measures_34 : decode cX11_measures 34 = .ok (.aload 4, 2) := by decide +kernel
theorem dX11_measures_36 : decode cX11_measures 36 = .ok (.invokevirtual 181, 3) := by decide +kernel
theorem dX11_measures_39 : decode cX11_measures 39 = .ok (.ifCond .ne 6, 3) := by decide +kernel
theorem dX11_measures_42 : decode cX11_measures 42 = .ok (.bipush (-13), 2) := by decide +kernel
theorem dX11_measures_44 : decode cX11_measures 44 = .ok (.ireturn, 1) := by decide +kernel
theorem dX11_measures_45 : decode cX11_measures 45 = .ok (.iload_n 2, 1) := by decide +kernel
theorem dX11_measures_46 : decode cX11_measures 46 = .ok (.ifCond .ne 12, 3) := by decide +kernel
theorem dX11_measures_49 : decode cX11_measures 49 = .ok (.aload_n 0, 1) := by decide +kernel
theorem dX11_measures_50 : decode cX11_measures 50 = .ok (.aload 4, 2) := by decide +kernel
theorem dX11_measures_52 : decode cX11_measures 52 = .ok (.invokevirtual 184, 3) := by decide +kernel
theorem dX11_measures_55 : decode cX11_measures 55 = .ok (.goto 9, 3) := by decide +kernel
theorem dX11_measures_58 : decode cX11_measures 58 = .ok (.aload_n 0, 1) := by decide +kernel
theorem dX11_measures_59 : decode cX11_measures 59 = .ok (.aload 4, 2) := by decide +kernel
theorem dX11_measures_61 : decode cX11_measures 61 = .ok (.invokevirtual 187, 3) := by decide +kernel
theorem dX11_measures_64 : decode cX11_measures 64 = .ok (.ireturn, 1) := by decide +kernel
theorem dX11_sizes_0 : decode cX11_sizes 0 = .ok (.iload_n 1, 1) := by decide +kernel
theorem dX11_sizes_1 : decode cX11_sizes 1 = .ok (.invokestatic 190, 3) := by decide +kernel
theorem dX11_sizes_4 : decode cX11_sizes 4 = .ok (.ifCond .eq 19, 3) := by decide +kernel
theorem dX11_sizes_7 : decode cX11_sizes 7 = .ok (.iload_n 2, 1) := by decide +kernel
theorem dX11_sizes_8 : decode cX11_sizes 8 = .ok (.invokestatic 190, 3) := by decide +kernel
theorem dX11_sizes_11 : decode cX11_sizes 11 = .ok (.ifCond .eq 12, 3) := by decide +kernel
theorem dX11_sizes_14 : decode cX11_sizes 14 = .ok (.iload_n 3, 1) := by decide +kernel
theorem dX11_sizes_15 : decode cX11_sizes 15 = .ok (.iconst 0, 1) := by decide +kernel
theorem dX11_sizes_16 : decode cX11_sizes 16 = .ok (.iconst 2, 1) := by decide +kernel
theorem dX11_sizes_17 : decode cX11_sizes 17 = .ok (.invokestatic 104, 3) := by decide +kernel
theorem dX11_sizes_20 : decode cX11_sizes 20 = .ok (.ifCond .ne 5, 3) := by decide +kernel
theorem dX11_sizes_23 : decode cX11_sizes 23 = .ok (.iconst (-1), 1) := by decide +kernel
theorem dX11_sizes_24 : decode cX11_sizes 24 = .ok (.ireturn, 1) := by decide +kernel
theorem dX11_sizes_25 : decode cX11_sizes 25 = .ok (.aload_n 0, 1) := by decide +kernel
theorem dX11_sizes_26 : decode cX11_sizes 26 = .ok (.iload_n 1, 1) := by decide +kernel
theorem dX11_sizes_27 : decode cX11_sizes 27 = .ok (.bipush 6, 2) := by decide +kernel
theorem dX11_sizes_29 : decode cX11_sizes 29 = .ok (.invokevirtual 193, 3) := by decide +kernel
theorem dX11_sizes_32 : decode cX11_sizes 32 = .ok (.istore 4, 2) := by decide +kernel
theorem dX11_sizes_34 : decode cX11_sizes 34 = .ok (.iload 4, 2) := by decide +kernel
theorem dX11_sizes_36 : decode cX11_sizes 36 = .ok (.ifCond .ne 12, 3) := by decide +kernel
theorem dX11_sizes_39 : decode cX11_sizes 39 = .ok (.aload_n 0, 1) := by decide +kernel
theorem dX11_sizes_40 : decode cX11_sizes 40 = .ok (.iload_n 2, 1) := by decide +kernel
theorem dX11_sizes_41 : decode cX11_sizes 41 = .ok (.bipush 20, 2) := by decide +kernel
theorem dX11_sizes_43 : decode cX11_sizes 43 = .ok (.invokevirtual 193, 3) := by decide +kernel
theorem dX11_sizes_46 : decode cX11_sizes 46 = .ok (.istore 4, 2) := by decide +kernel
theorem dX11_sizes_48 : decode cX11_sizes 48 = .ok (.iload 4, 2) := by decide +kernel
theorem dX11_sizes_50 : decode cX11_sizes 50 = .ok (.ifCond .eq 6, 3) := by decide +kernel
theorem dX11_sizes_53 : decode cX11_sizes 53 = .ok (.iload 4, 2) := by decide +kernel
theorem dX11_sizes_55 : decode cX11_sizes 55 = .ok (.ireturn, 1) := by decide +kernel
theorem dX11_sizes_56 : decode cX11_sizes 56 = .ok (.aload_n 0, 1) := by decide +kernel
theorem dX11_sizes_57 : decode cX11_sizes 57 = .ok (.iload_n 1, 1) := by decide +kernel
theorem dX11_sizes_58 : decode cX11_sizes 58 = .ok (.invokevirtual 76, 3) := by decide +kernel
theorem dX11_sizes_61 : decode cX11_sizes 61 = .ok (.astore 5, 2) := by decide +kernel
theorem dX11_sizes_63 : decode cX11_sizes 63 = .ok (.aload_n 0, 1) := by decide +kernel
theorem dX11_sizes_64 : decode cX11_sizes 64 = .ok (.iload_n 2, 1) := by decide +kernel
theorem dX11_sizes_65 : decode cX11_sizes 65 = .ok (.invokevirtual 76, 3) := by decide +kernel
theorem dX11_sizes_68 : decode cX11_sizes 68 = .ok (.astore 6, 2) := by decide +kernel
theorem dX11_sizes_70 : decode cX11_sizes 70 = .ok (.iload_n 3, 1) := by decide +kernel
theorem dX11_sizes_71 : decode cX11_sizes 71 = .ok (.lookupswitch 45 #[(0, 25), (1, 35)], 25) := by decide +kernel
theorem dX11_sizes_96 : decode cX11_sizes 96 = .ok (.aload_n 0, 1) := by decide +kernel
theorem dX11_sizes_97 : decode cX11_sizes 97 = .ok (.aload 5, 2) := by decide +kernel
theorem dX11_sizes_99 : decode cX11_sizes 99 = .ok (.iconst 0, 1) := by decide +kernel
theorem dX11_sizes_100 : decode cX11_sizes 100 = .ok (.aload 6, 2) := by decide +kernel
theorem dX11_sizes_102 : decode cX11_sizes 102 = .ok (.invokevirtual 196, 3) := by decide +kernel
theorem dX11_sizes_105 : decode cX11_sizes 105 = .ok (.ireturn, 1) := by decide +kernel
theorem dX11_sizes_106 : decode cX11_sizes 106 = .ok (.aload_n 0, 1) := by decide +kernel
theorem dX11_sizes_107 : decode cX11_sizes 107 = .ok (.aload 5, 2) := by decide +kernel
theorem dX11_sizes_109 : decode cX11_sizes 109 = .ok (.iconst 0, 1) := by decide +kernel
theorem dX11_sizes_110 : decode cX11_sizes 110 = .ok (.aload 6, 2) := by decide +kernel
theorem dX11_sizes_112 : decode cX11_sizes 112 = .ok (.invokevirtual 200, 3) := by decide +kernel
theorem dX11_sizes_115 : decode cX11_sizes 115 = .ok (.ireturn, 1) := by decide +kernel
theorem dX11_sizes_116 : decode cX11_sizes 116 = .ok (.aload_n 0, 1) := by decide +kernel
theorem dX11_sizes_117 : decode cX11_sizes 117 = .ok (.aload 5, 2) := by decide +kernel
theorem dX11_sizes_119 : decode cX11_sizes 119 = .ok (.aload 6, 2) := by decide +kernel
theorem dX11_sizes_121 : decode cX11_sizes 121 = .ok (.invokevirtual 203, 3) := by decide +kernel
theorem dX11_sizes_124 : decode cX11_sizes 124 = .ok (.ireturn, 1) := by decide +kernel
theorem dX11_old_0 : decode cX11_old 0 = .ok (.aload_n 0, 1) := by decide +kernel
theorem dX11_old_1 : decode cX11_old 1 = .ok (.iload_n 1, 1) := by decide +kernel
theorem dX11_old_2 : decode cX11_old 2 = .ok (.bipush 6, 2) := by decide +kernel
theorem dX11_old_4 : decode cX11_old 4 = .ok (.invokevirtual 193, 3) := by decide +kernel
theorem dX11_old_7 : decode cX11_old 7 = .ok (.istore_n 2, 1) := by decide +kernel
theorem dX11_old_8 : decode cX11_old 8 = .ok (.iload_n 2, 1) := by decide +kernel
theorem dX11_old_9 : decode cX11_old 9 = .ok (.ifCond .eq 5, 3) := by decide +kernel
theorem dX11_old_12 : decode cX11_old 12 = .ok (.iload_n 2, 1) := by decide +kernel
theorem dX11_old_13 : decode cX11_old 13 = .ok (.ireturn, 1) := by decide +kernel
theorem dX11_old_14 : decode cX11_old 14 = .ok (.aload_n 0, 1) := by decide +kernel
theorem dX11_old_15 : decode cX11_old 15 = .ok (.iload_n 1, 1) := by decide +kernel
theorem dX11_old_16 : decode cX11_old 16 = .ok (.invokevirtual 76, 3) := by decide +kernel
theorem dX11_old_19 : decode cX11_old 19 = .ok (.astore_n 3, 1) := by decide +kernel
theorem dX11_old_20 : decode cX11_old 20 = .ok (.iconst 0, 1) := by decide +kernel
theorem dX11_old_21 : decode cX11_old 21 = .ok (.istore 4, 2) := by decide +kernel
theorem dX11_old_23 : decode cX11_old 23 = .ok (.iconst 0, 1) := by decide +kernel
theorem dX11_old_24 : decode cX11_old 24 = .ok (.istore 5, 2) := by decide +kernel
theorem dX11_old_26 : decode cX11_old 26 = .ok (.iconst 0, 1) := by decide +kernel
theorem dX11_old_27 : decode cX11_old 27 = .ok (.istore 6, 2) := by decide +kernel
theorem dX11_old_29 : decode cX11_old 29 = .ok (.iload 6, 2) := by decide +kernel
theorem dX11_old_31 : decode cX11_old 31 = .ok (.aload_n 3, 1) := by decide +kernel
theorem dX11_old_32 : decode cX11_old 32 = .ok (.getfield 207, 3) := by decide +kernel
theorem dX11_old_35 : decode cX11_old 35 = .ok (.if_icmp .ge 42, 3) := by decide +kernel
theorem dX11_old_38 : decode cX11_old 38 = .ok (.aload_n 0, 1) := by decide +kernel
theorem dX11_old_39 : decode cX11_old 39 = .ok (.aload_n 3, 1) := by decide +kernel
theorem dX11_old_40 : decode cX11_old 40 = .ok (.iload 6, 2) := by decide +kernel
theorem dX11_old_42 : decode cX11_old 42 = .ok (.invokevirtual 210, 3) := by decide +kernel
theorem dX11_old_45 : decode cX11_old 45 = .ok (.iload 4, 2) := by decide +kernel
theorem dX11_old_47 : decode cX11_old 47 = .ok (.invokevirtual 213, 3) := by decide +kernel
theorem dX11_old_50 : decode cX11_old 50 = .ok (.istore 7, 2) := by decide +kernel
theorem dX11_old_52 : decode cX11_old 52 = .ok (.iload 7, 2) := by decide +kernel
theorem dX11_old_54 : decode cX11_old 54 = .ok (.bipush (-4), 2) := by decide +kernel
theorem dX11_old_56 : decode cX11_old 56 = .ok (.if_icmp .eq 15, 3) := by decide +kernel
theorem dX11_old_59 : decode cX11_old 59 = .ok (.iload 4, 2) := by decide +kernel
theorem dX11_old_61 : decode cX11_old 61 = .ok (.iconst 1, 1) := by decide +kernel
theorem dX11_old_62 : decode cX11_old 62 = .ok (.iload 7, 2) := by decide +kernel
theorem dX11_old_64 : decode cX11_old 64 = .ok (.ishl, 1) := by decide +kernel
theorem dX11_old_65 : decode cX11_old 65 = .ok (.ior, 1) := by decide +kernel
theorem dX11_old_66 : decode cX11_old 66 = .ok (.istore 4, 2) := by decide +kernel
theorem dX11_old_68 : decode cX11_old 68 = .ok (.iinc 5 1, 3) := by decide +kernel
theorem dX11_old_71 : decode cX11_old 71 = .ok (.iinc 6 1, 3) := by decide +kernel
theorem dX11_old_74 : decode cX11_old 74 = .ok (.goto (-45), 3) := by decide +kernel
theorem dX11_old_77 : decode cX11_old 77 = .ok (.iload 5, 2) := by decide +kernel
theorem dX11_old_79 : decode cX11_old 79 = .ok (.ireturn, 1) := by decide +kernel
theorem dX11_shape_0 : decode cX11_shape 0 = .ok (.aload_n 0, 1) := by decide +kernel
theorem dX11_shape_1 : decode cX11_shape 1 = .ok (.getfield 10, 3) := by decide +kernel
theorem dX11_shape_4 : decode cX11_shape 4 = .ok (.iload_n 1, 1) := by decide +kernel
theorem dX11_shape_5 : decode cX11_shape 5 = .ok (.invokevirtual 100, 3) := by decide +kernel
theorem dX11_shape_8 : decode cX11_shape 8 = .ok (.ifCond .eq 13, 3) := by decide +kernel
theorem dX11_shape_11 : decode cX11_shape 11 = .ok (.iload_n 2, 1) := by decide +kernel
theorem dX11_shape_12 : decode cX11_shape 12 = .ok (.iconst 0, 1) := by decide +kernel
theorem dX11_shape_13 : decode cX11_shape 13 = .ok (.bipush 9, 2) := by decide +kernel
theorem dX11_shape_15 : decode cX11_shape 15 = .ok (.invokestatic 104, 3) := by decide +kernel
theorem dX11_shape_18 : decode cX11_shape 18 = .ok (.ifCond .ne 6, 3) := by decide +kernel
theorem dX11_shape_21 : decode cX11_shape 21 = .ok (.ldc 145, 2) := by decide +kernel
theorem dX11_shape_23 : decode cX11_shape 23 = .ok (.ireturn, 1) := by decide +kernel
theorem dX11_shape_24 : decode cX11_shape 24 = .ok (.aload_n 0, 1) := by decide +kernel
theorem dX11_shape_25 : decode cX11_shape 25 = .ok (.getfield 10, 3) := by decide +kernel
theorem dX11_shape_28 : decode cX11_shape 28 = .ok (.iload_n 1, 1) := by decide +kernel
theorem dX11_shape_29 : decode cX11_shape 29 = .ok (.iconst 1, 1) := by decide +kernel
theorem dX11_shape_30 : decode cX11_shape 30 = .ok (.invokevirtual 108, 3) := by decide +kernel
theorem dX11_shape_33 : decode cX11_shape 33 = .ok (.iload_n 2, 1) := by decide +kernel
theorem dX11_shape_34 : decode cX11_shape 34 = .ok (.iadd, 1) := by decide +kernel
theorem dX11_shape_35 : decode cX11_shape 35 = .ok (.aload_n 0, 1) := by decide +kernel
theorem dX11_shape_36 : decode cX11_shape 36 = .ok (.getfield 10, 3) := by decide +kernel
theorem dX11_shape_39 : decode cX11_shape 39 = .ok (.getfield 111, 3) := by decide +kernel
theorem dX11_shape_42 : decode cX11_shape 42 = .ok (.isub, 1) := by decide +kernel
theorem dX11_shape_43 : decode cX11_shape 43 = .ok (.aload_n 0, 1) := by decide +kernel
theorem dX11_shape_44 : decode cX11_shape 44 = .ok (.getfield 10, 3) := by decide +kernel
theorem dX11_shape_47 : decode cX11_shape 47 = .ok (.iload_n 1, 1) := by decide +kernel
theorem dX11_shape_48 : decode cX11_shape 48 = .ok (.iconst 0, 1) := by decide +kernel
theorem dX11_shape_49 : decode cX11_shape 49 = .ok (.invokevirtual 108, 3) := by decide +kernel
theorem dX11_shape_52 : decode cX11_shape 52 = .ok (.isub, 1) := by decide +kernel
theorem dX11_shape_53 : decode cX11_shape 53 = .ok (.ireturn, 1) := by decide +kernel
theorem dX11_seeded_0 : decode cX11_seeded 0 = .ok (.iload_n 1, 1) := by decide +kernel
theorem dX11_seeded_1 : decode cX11_seeded 1 = .ok (.iconst 1, 1) := by decide +kernel
theorem dX11_seeded_2 : decode cX11_seeded 2 = .ok (.bipush 30, 2) := by decide +kernel
theorem dX11_seeded_4 : decode cX11_seeded 4 = .ok (.invokestatic 104, 3) := by decide +kernel
theorem dX11_seeded_7 : decode cX11_seeded 7 = .ok (.ifCond .eq 12, 3) := by decide +kernel
theorem dX11_seeded_10 : decode cX11_seeded 10 = .ok (.iload_n 3, 1) := by decide +kernel
theorem dX11_seeded_11 : decode cX11_seeded 11 = .ok (.iconst 0, 1) := by decide +kernel
theorem dX11_seeded_12 : decode cX11_seeded 12 = .ok (.iconst 1, 1) := by decide +kernel
theorem dX11_seeded_13 : decode cX11_seeded 13 = .ok (.invokestatic 104, 3) := by decide +kernel
theorem dX11_seeded_16 : decode cX11_seeded 16 = .ok (.ifCond .ne 5, 3) := by decide +kernel
theorem dX11_seeded_19 : decode cX11_seeded 19 = .ok (.iconst (-1), 1) := by decide +kernel
theorem dX11_seeded_20 : decode cX11_seeded 20 = .ok (.ireturn, 1) := by decide +kernel
theorem dX11_seeded_21 : decode cX11_seeded 21 = .ok (.aload_n 0, 1) := by decide +kernel
theorem dX11_seeded_22 : decode cX11_seeded 22 = .ok (.getfield 10, 3) := by decide +kernel
theorem dX11_seeded_25 : decode cX11_seeded 25 = .ok (.getfield 149, 3) := by decide +kernel
theorem dX11_seeded_28 : decode cX11_seeded 28 = .ok (.ifCond .ne 6, 3) := by decide +kernel
theorem dX11_seeded_31 : decode cX11_seeded 31 = .ok (.bipush (-3), 2) := by decide +kernel
theorem dX11_seeded_33 : decode cX11_seeded 33 = .ok (.ireturn, 1) := by decide +kernel
theorem dX11_seeded_34 : decode cX11_seeded 34 = .ok (.aload_n 0, 1) := by decide +kernel
theorem dX11_seeded_35 : decode cX11_seeded 35 = .ok (.getfield 19, 3) := by decide +kernel
theorem dX11_seeded_38 : decode cX11_seeded 38 = .ok (.aload_n 0, 1) := by decide +kernel
theorem dX11_seeded_39 : decode cX11_seeded 39 = .ok (.getfield 10, 3) := by decide +kernel
theorem dX11_seeded_42 : decode cX11_seeded 42 = .ok (.invokevirtual 84, 3) := by decide +kernel
theorem dX11_seeded_45 : decode cX11_seeded 45 = .ok (.iload_n 2, 1) := by decide +kernel
theorem dX11_seeded_46 : decode cX11_seeded 46 = .ok (.istore 4, 2) := by decide +kernel
theorem dX11_seeded_48 : decode cX11_seeded 48 = .ok (.iconst 0, 1) := by decide +kernel
theorem dX11_seeded_49 : decode cX11_seeded 49 = .ok (.istore 5, 2) := by decide +kernel
theorem dX11_seeded_51 : decode cX11_seeded 51 = .ok (.iconst 0, 1) := by decide +kernel
theorem dX11_seeded_52 : decode cX11_seeded 52 = .ok (.istore 6, 2) := by decide +kernel
theorem dX11_seeded_54 : decode cX11_seeded 54 = .ok (.iload 6, 2) := by decide +kernel
theorem dX11_seeded_56 : decode cX11_seeded 56 = .ok (.iload_n 1, 1) := by decide +kernel
theorem dX11_seeded_57 : decode cX11_seeded 57 = .ok (.if_icmp .ge 85, 3) := by decide +kernel
theorem dX11_seeded_60 : decode cX11_seeded 60 = .ok (.iload 4, 2) := by decide +kernel
theorem dX11_seeded_62 : decode cX11_seeded 62 = .ok (.invokestatic 216, 3) := by decide +kernel
theorem dX11_seeded_65 : decode cX11_seeded 65 = .ok (.istore 4, 2) := by decide +kernel
theorem dX11_seeded_67 : decode cX11_seeded 67 = .ok (.iload 4, 2) := by decide +kernel
theorem dX11_seeded_69 : decode cX11_seeded 69 = .ok (.aload_n 0, 1) := by decide +kernel
theorem dX11_seeded_70 : decode cX11_seeded 70 = .ok (.getfield 10, 3) := by decide +kernel
theorem dX11_seeded_73 : decode cX11_seeded 73 = .ok (.getfield 149, 3) := by decide +kernel
theorem dX11_seeded_76 : decode cX11_seeded 76 = .ok (.invokestatic 219, 3) := by decide +kernel
theorem dX11_seeded_79 : decode cX11_seeded 79 = .ok (.istore 7, 2) := by decide +kernel
theorem dX11_seeded_81 : decode cX11_seeded 81 = .ok (.iload 4, 2) := by decide +kernel
theorem dX11_seeded_83 : decode cX11_seeded 83 = .ok (.invokestatic 216, 3) := by decide +kernel
theorem dX11_seeded_86 : decode cX11_seeded 86 = .ok (.istore 4, 2) := by decide +kernel
theorem dX11_seeded_88 : decode cX11_seeded 88 = .ok (.iload 4, 2) := by decide +kernel
theorem dX11_seeded_90 : decode cX11_seeded 90 = .ok (.bipush 8, 2) := by decide +kernel
theorem dX11_seeded_92 : decode cX11_seeded 92 = .ok (.invokestatic 219, 3) := by decide +kernel
theorem dX11_seeded_95 : decode cX11_seeded 95 = .ok (.istore 8, 2) := by decide +kernel
theorem dX11_seeded_97 : decode cX11_seeded 97 = .ok (.iload 4, 2) := by decide +kernel
theorem dX11_seeded_99 : decode cX11_seeded 99 = .ok (.invokestatic 216, 3) := by decide +kernel
theorem dX11_seeded_102 : decode cX11_seeded 102 = .ok (.istore 4, 2) := by decide +kernel
theorem dX11_seeded_104 : decode cX11_seeded 104 = .ok (.iload 4, 2) := by decide +kernel
theorem dX11_seeded_106 : decode cX11_seeded 106 = .ok (.bipush 10, 2) := by decide +kernel
theorem dX11_seeded_108 : decode cX11_seeded 108 = .ok (.invokestatic 219, 3) := by decide +kernel
theorem dX11_seeded_111 : decode cX11_seeded 111 = .ok (.istore 9, 2) := by decide +kernel
theorem dX11_seeded_113 : decode cX11_seeded 113 = .ok (.aload_n 0, 1) := by decide +kernel
theorem dX11_seeded_114 : decode cX11_seeded 114 = .ok (.getfield 19, 3) := by decide +kernel
theorem dX11_seeded_117 : decode cX11_seeded 117 = .ok (.aload_n 0, 1) := by decide +kernel
theorem dX11_seeded_118 : decode cX11_seeded 118 = .ok (.iload 8, 2) := by decide +kernel
theorem dX11_seeded_120 : decode cX11_seeded 120 = .ok (.invokevirtual 124, 3) := by decide +kernel
theorem dX11_seeded_123 : decode cX11_seeded 123 = .ok (.iload 9, 2) := by decide +kernel
theorem dX11_seeded_125 : decode cX11_seeded 125 = .ok (.iload 7, 2) := by decide +kernel
theorem dX11_seeded_127 : decode cX11_seeded 127 = .ok (.invokevirtual 135, 3) := by decide +kernel
theorem dX11_seeded_130 : decode cX11_seeded 130 = .ok (.ifCond .eq 6, 3) := by decide +kernel
theorem dX11_seeded_133 : decode cX11_seeded 133 = .ok (.iinc 5 1, 3) := by decide +kernel
theorem dX11_seeded_136 : decode cX11_seeded 136 = .ok (.iinc 6 1, 3) := by decide +kernel
theorem dX11_seeded_139 : decode cX11_seeded 139 = .ok (.goto (-85), 3) := by decide +kernel
theorem dX11_seeded_142 : decode cX11_seeded 142 = .ok (.iload_n 3, 1) := by decide +kernel
theorem dX11_seeded_143 : decode cX11_seeded 143 = .ok (.ifCond .ne 13, 3) := by decide +kernel
theorem dX11_seeded_146 : decode cX11_seeded 146 = .ok (.aload_n 0, 1) := by decide +kernel
theorem dX11_seeded_147 : decode cX11_seeded 147 = .ok (.getfield 19, 3) := by decide +kernel
theorem dX11_seeded_150 : decode cX11_seeded 150 = .ok (.invokevirtual 138, 3) := by decide +kernel
theorem dX11_seeded_153 : decode cX11_seeded 153 = .ok (.goto 5, 3) := by decide +kernel
theorem dX11_seeded_156 : decode cX11_seeded 156 = .ok (.iload 5, 2) := by decide +kernel
theorem dX11_seeded_158 : decode cX11_seeded 158 = .ok (.ireturn, 1) := by decide +kernel
theorem dX11_judge_0 : decode cX11_judge 0 = .ok (.iload_n 1, 1) := by decide +kernel
theorem dX11_judge_1 : decode cX11_judge 1 = .ok (.iconst 0, 1) := by decide +kernel
theorem dX11_judge_2 : decode cX11_judge 2 = .ok (.iconst 3, 1) := by decide +kernel
theorem dX11_judge_3 : decode cX11_judge 3 = .ok (.invokestatic 104, 3) := by decide +kernel
theorem dX11_judge_6 : decode cX11_judge 6 = .ok (.ifCond .eq 10, 3) := by decide +kernel
theorem dX11_judge_9 : decode cX11_judge 9 = .ok (.iload_n 2, 1) := by decide +kernel
theorem dX11_judge_10 : decode cX11_judge 10 = .ok (.invokestatic 190, 3) := by decide +kernel
theorem dX11_judge_13 : decode cX11_judge 13 = .ok (.ifCond .ne 5, 3) := by decide +kernel
theorem dX11_judge_16 : decode cX11_judge 16 = .ok (.iconst (-1), 1) := by decide +kernel
theorem dX11_judge_17 : decode cX11_judge 17 = .ok (.ireturn, 1) := by decide +kernel
theorem dX11_judge_18 : decode cX11_judge 18 = .ok (.aload_n 0, 1) := by decide +kernel
theorem dX11_judge_19 : decode cX11_judge 19 = .ok (.iload_n 2, 1) := by decide +kernel
theorem dX11_judge_20 : decode cX11_judge 20 = .ok (.invokevirtual 76, 3) := by decide +kernel
theorem dX11_judge_23 : decode cX11_judge 23 = .ok (.astore_n 3, 1) := by decide +kernel
theorem dX11_judge_24 : decode cX11_judge 24 = .ok (.aload_n 3, 1) := by decide +kernel
theorem dX11_judge_25 : decode cX11_judge 25 = .ok (.invokevirtual 222, 3) := by decide +kernel
theorem dX11_judge_28 : decode cX11_judge 28 = .ok (.istore 4, 2) := by decide +kernel
theorem dX11_judge_30 : decode cX11_judge 30 = .ok (.iload 4, 2) := by decide +kernel
theorem dX11_judge_32 : decode cX11_judge 32 = .ok (.ifCond .eq 6, 3) := by decide +kernel
theorem dX11_judge_35 : decode cX11_judge 35 = .ok (.iload 4, 2) := by decide +kernel
theorem dX11_judge_37 : decode cX11_judge 37 = .ok (.ireturn, 1) := by decide +kernel
theorem dX11_judge_38 : decode cX11_judge 38 = .ok (.aload_n 3, 1) := by decide +kernel
theorem dX11_judge_39 : decode cX11_judge 39 = .ok (.getfield 207, 3) := by decide +kernel
theorem dX11_judge_42 : decode cX11_judge 42 = .ok (.aload_n 0, 1) := by decide +kernel
theorem dX11_judge_43 : decode cX11_judge 43 = .ok (.getfield 10, 3) := by decide +kernel
theorem dX11_judge_46 : decode cX11_judge 46 = .ok (.getfield 149, 3) := by decide +kernel
theorem dX11_judge_49 : decode cX11_judge 49 = .ok (.invokestatic 176, 3) := by decide +kernel
theorem dX11_judge_52 : decode cX11_judge 52 = .ok (.istore 5, 2) := by decide +kernel
theorem dX11_judge_54 : decode cX11_judge 54 = .ok (.aload_n 3, 1) := by decide +kernel
theorem dX11_judge_55 : decode cX11_judge 55 = .ok (.invokevirtual 224, 3) := by decide +kernel
theorem dX11_judge_58 : decode cX11_judge 58 = .ok (.istore 6, 2) := by decide +kernel
theorem dX11_judge_60 : decode cX11_judge 60 = .ok (.iconst 0, 1) := by decide +kernel
theorem dX11_judge_61 : decode cX11_judge 61 = .ok (.istore 7, 2) := by decide +kernel
theorem dX11_judge_63 : decode cX11_judge 63 = .ok (.iload 7, 2) := by decide +kernel
theorem dX11_judge_65 : decode cX11_judge 65 = .ok (.iload 5, 2) := by decide +kernel
theorem dX11_judge_67 : decode cX11_judge 67 = .ok (.if_icmp .ge 42, 3) := by decide +kernel
theorem dX11_judge_70 : decode cX11_judge 70 = .ok (.aload_n 3, 1) := by decide +kernel
theorem dX11_judge_71 : decode cX11_judge 71 = .ok (.iload 7, 2) := by decide +kernel
theorem dX11_judge_73 : decode cX11_judge 73 = .ok (.invokevirtual 210, 3) := by decide +kernel
theorem dX11_judge_76 : decode cX11_judge 76 = .ok (.istore 8, 2) := by decide +kernel
theorem dX11_judge_78 : decode cX11_judge 78 = .ok (.iload 8, 2) := by decide +kernel
theorem dX11_judge_80 : decode cX11_judge 80 = .ok (.iload 6, 2) := by decide +kernel
theorem dX11_judge_82 : decode cX11_judge 82 = .ok (.if_icmp .eq 21, 3) := by decide +kernel
theorem dX11_judge_85 : decode cX11_judge 85 = .ok (.iload 8, 2) := by decide +kernel
theorem dX11_judge_87 : decode cX11_judge 87 = .ok (.aload_n 0, 1) := by decide +kernel
theorem dX11_judge_88 : decode cX11_judge 88 = .ok (.getfield 10, 3) := by decide +kernel
theorem dX11_judge_91 : decode cX11_judge 91 = .ok (.iload 7, 2) := by decide +kernel
theorem dX11_judge_93 : decode cX11_judge 93 = .ok (.iload_n 1, 1) := by decide +kernel
theorem dX11_judge_94 : decode cX11_judge 94 = .ok (.invokevirtual 142, 3) := by decide +kernel
theorem dX11_judge_97 : decode cX11_judge 97 = .ok (.if_icmp .eq 6, 3) := by decide +kernel
theorem dX11_judge_100 : decode cX11_judge 100 = .ok (.iload 7, 2) := by decide +kernel
theorem dX11_judge_102 : decode cX11_judge 102 = .ok (.ireturn, 1) := by decide +kernel
theorem dX11_judge_103 : decode cX11_judge 103 = .ok (.iinc 7 1, 3) := by decide +kernel
theorem dX11_judge_106 : decode cX11_judge 106 = .ok (.goto (-43), 3) := by decide +kernel
theorem dX11_judge_109 : decode cX11_judge 109 = .ok (.aload_n 3, 1) := by decide +kernel
theorem dX11_judge_110 : decode cX11_judge 110 = .ok (.getfield 207, 3) := by decide +kernel
theorem dX11_judge_113 : decode cX11_judge 113 = .ok (.aload_n 0, 1) := by decide +kernel
theorem dX11_judge_114 : decode cX11_judge 114 = .ok (.getfield 10, 3) := by decide +kernel
theorem dX11_judge_117 : decode cX11_judge 117 = .ok (.getfield 149, 3) := by decide +kernel
theorem dX11_judge_120 : decode cX11_judge 120 = .ok (.if_icmp .ne 8, 3) := by decide +kernel
theorem dX11_judge_123 : decode cX11_judge 123 = .ok (.bipush (-4), 2) := by decide +kernel
theorem dX11_judge_125 : decode cX11_judge 125 = .ok (.goto 5, 3) := by decide +kernel
theorem dX11_judge_128 : decode cX11_judge 128 = .ok (.iload 5, 2) := by decide +kernel
theorem dX11_judge_130 : decode cX11_judge 130 = .ok (.ireturn, 1) := by decide +kernel
theorem dX11_image_0 : decode cX11_image 0 = .ok (.aload_n 0, 1) := by decide +kernel
theorem dX11_image_1 : decode cX11_image 1 = .ok (.getfield 16, 3) := by decide +kernel
theorem dX11_image_4 : decode cX11_image 4 = .ok (.aload_n 0, 1) := by decide +kernel
theorem dX11_image_5 : decode cX11_image 5 = .ok (.getfield 10, 3) := by decide +kernel
theorem dX11_image_8 : decode cX11_image 8 = .ok (.invokevirtual 84, 3) := by decide +kernel
theorem dX11_image_11 : decode cX11_image 11 = .ok (.aload_n 0, 1) := by decide +kernel
theorem dX11_image_12 : decode cX11_image 12 = .ok (.iconst 1, 1) := by decide +kernel
theorem dX11_image_13 : decode cX11_image 13 = .ok (.putfield 227, 3) := by decide +kernel
theorem dX11_image_16 : decode cX11_image 16 = .ok (.aload_n 0, 1) := by decide +kernel
theorem dX11_image_17 : decode cX11_image 17 = .ok (.getfield 10, 3) := by decide +kernel
theorem dX11_image_20 : decode cX11_image 20 = .ok (.getfield 149, 3) := by decide +kernel
theorem dX11_image_23 : decode cX11_image 23 = .ok (.ireturn, 1) := by decide +kernel
theorem dX11_restore_0 : decode cX11_restore 0 = .ok (.aload_n 0, 1) := by decide +kernel
theorem dX11_restore_1 : decode cX11_restore 1 = .ok (.getfield 227, 3) := by decide +kernel
theorem dX11_restore_4 : decode cX11_restore 4 = .ok (.ifCond .ne 6, 3) := by decide +kernel
theorem dX11_restore_7 : decode cX11_restore 7 = .ok (.bipush (-3), 2) := by decide +kernel
theorem dX11_restore_9 : decode cX11_restore 9 = .ok (.ireturn, 1) := by decide +kernel
theorem dX11_restore_10 : decode cX11_restore 10 = .ok (.aload_n 0, 1) := by decide +kernel
theorem dX11_restore_11 : decode cX11_restore 11 = .ok (.getfield 10, 3) := by decide +kernel
theorem dX11_restore_14 : decode cX11_restore 14 = .ok (.aload_n 0, 1) := by decide +kernel
theorem dX11_restore_15 : decode cX11_restore 15 = .ok (.getfield 16, 3) := by decide +kernel
theorem dX11_restore_18 : decode cX11_restore 18 = .ok (.invokevirtual 84, 3) := by decide +kernel
theorem dX11_restore_21 : decode cX11_restore 21 = .ok (.aload_n 0, 1) := by decide +kernel
theorem dX11_restore_22 : decode cX11_restore 22 = .ok (.getfield 10, 3) := by decide +kernel
theorem dX11_restore_25 : decode cX11_restore 25 = .ok (.getfield 149, 3) := by decide +kernel
theorem dX11_restore_28 : decode cX11_restore 28 = .ok (.ireturn, 1) := by decide +kernel
theorem dX11_count_0 : decode cX11_count 0 = .ok (.iload_n 1, 1) := by decide +kernel
theorem dX11_count_1 : decode cX11_count 1 = .ok (.tableswitch 101 0 6 #[43, 51, 59, 67, 75, 83, 92], 43) := by decide +kernel
theorem dX11_count_44 : decode cX11_count 44 = .ok (.aload_n 0, 1) := by decide +kernel
theorem dX11_count_45 : decode cX11_count 45 = .ok (.getfield 10, 3) := by decide +kernel
theorem dX11_count_48 : decode cX11_count 48 = .ok (.getfield 149, 3) := by decide +kernel
theorem dX11_count_51 : decode cX11_count 51 = .ok (.ireturn, 1) := by decide +kernel
theorem dX11_count_52 : decode cX11_count 52 = .ok (.aload_n 0, 1) := by decide +kernel
theorem dX11_count_53 : decode cX11_count 53 = .ok (.getfield 10, 3) := by decide +kernel
theorem dX11_count_56 : decode cX11_count 56 = .ok (.getfield 231, 3) := by decide +kernel
theorem dX11_count_59 : decode cX11_count 59 = .ok (.ireturn, 1) := by decide +kernel
theorem dX11_count_60 : decode cX11_count 60 = .ok (.aload_n 0, 1) := by decide +kernel
theorem dX11_count_61 : decode cX11_count 61 = .ok (.getfield 10, 3) := by decide +kernel
theorem dX11_count_64 : decode cX11_count 64 = .ok (.getfield 234, 3) := by decide +kernel
theorem dX11_count_67 : decode cX11_count 67 = .ok (.ireturn, 1) := by decide +kernel
theorem dX11_count_68 : decode cX11_count 68 = .ok (.aload_n 0, 1) := by decide +kernel
theorem dX11_count_69 : decode cX11_count 69 = .ok (.getfield 10, 3) := by decide +kernel
theorem dX11_count_72 : decode cX11_count 72 = .ok (.getfield 111, 3) := by decide +kernel
theorem dX11_count_75 : decode cX11_count 75 = .ok (.ireturn, 1) := by decide +kernel
theorem dX11_count_76 : decode cX11_count 76 = .ok (.aload_n 0, 1) := by decide +kernel
theorem dX11_count_77 : decode cX11_count 77 = .ok (.getfield 10, 3) := by decide +kernel
theorem dX11_count_80 : decode cX11_count 80 = .ok (.getfield 114, 3) := by decide +kernel
theorem dX11_count_83 : decode cX11_count 83 = .ok (.ireturn, 1) := by decide +kernel
theorem dX11_count_84 : decode cX11_count 84 = .ok (.aload_n 0, 1) := by decide +kernel
theorem dX11_count_85 : decode cX11_count 85 = .ok (.getfield 10, 3) := by decide +kernel
theorem dX11_count_88 : decode cX11_count 88 = .ok (.iconst 2, 1) := by decide +kernel
theorem dX11_count_89 : decode cX11_count 89 = .ok (.invokevirtual 237, 3) := by decide +kernel
theorem dX11_count_92 : decode cX11_count 92 = .ok (.ireturn, 1) := by decide +kernel
theorem dX11_count_93 : decode cX11_count 93 = .ok (.aload_n 0, 1) := by decide +kernel
theorem dX11_count_94 : decode cX11_count 94 = .ok (.getfield 10, 3) := by decide +kernel
theorem dX11_count_97 : decode cX11_count 97 = .ok (.iconst 1, 1) := by decide +kernel
theorem dX11_count_98 : decode cX11_count 98 = .ok (.invokevirtual 237, 3) := by decide +kernel
theorem dX11_count_101 : decode cX11_count 101 = .ok (.ireturn, 1) := by decide +kernel
theorem dX11_count_102 : decode cX11_count 102 = .ok (.iconst (-1), 1) := by decide +kernel
theorem dX11_count_103 : decode cX11_count 103 = .ok (.ireturn, 1) := by decide +kernel
theorem dX11_keep_0 : decode cX11_keep 0 = .ok (.iload_n 1, 1) := by decide +kernel
theorem dX11_keep_1 : decode cX11_keep 1 = .ok (.invokestatic 190, 3) := by decide +kernel
theorem dX11_keep_4 : decode cX11_keep 4 = .ok (.ifCond .ne 5, 3) := by decide +kernel
theorem dX11_keep_7 : decode cX11_keep 7 = .ok (.iconst (-1), 1) := by decide +kernel
theorem dX11_keep_8 : decode cX11_keep 8 = .ok (.ireturn, 1) := by decide +kernel
theorem dX11_keep_9 : decode cX11_keep 9 = .ok (.iload_n 2, 1) := by decide +kernel
theorem dX11_keep_10 : decode cX11_keep 10 = .ok (.ifCond .ne 13, 3) := by decide +kernel
theorem dX11_keep_13 : decode cX11_keep 13 = .ok (.aload_n 0, 1) := by decide +kernel
theorem dX11_keep_14 : decode cX11_keep 14 = .ok (.iload_n 1, 1) := by decide +kernel
theorem dX11_keep_15 : decode cX11_keep 15 = .ok (.invokevirtual 76, 3) := by decide +kernel
theorem dX11_keep_18 : decode cX11_keep 18 = .ok (.invokevirtual 240, 3) := by decide +kernel
theorem dX11_keep_21 : decode cX11_keep 21 = .ok (.iconst 0, 1) := by decide +kernel
theorem dX11_keep_22 : decode cX11_keep 22 = .ok (.ireturn, 1) := by decide +kernel
theorem dX11_keep_23 : decode cX11_keep 23 = .ok (.iload_n 2, 1) := by decide +kernel
theorem dX11_keep_24 : decode cX11_keep 24 = .ok (.iconst 1, 1) := by decide +kernel
theorem dX11_keep_25 : decode cX11_keep 25 = .ok (.if_icmp .ne 24, 3) := by decide +kernel
theorem dX11_keep_28 : decode cX11_keep 28 = .ok (.iload_n 3, 1) := by decide +kernel
theorem dX11_keep_29 : decode cX11_keep 29 = .ok (.iconst 0, 1) := by decide +kernel
theorem dX11_keep_30 : decode cX11_keep 30 = .ok (.bipush 7, 2) := by decide +kernel
theorem dX11_keep_32 : decode cX11_keep 32 = .ok (.invokestatic 104, 3) := by decide +kernel
theorem dX11_keep_35 : decode cX11_keep 35 = .ok (.ifCond .eq 14, 3) := by decide +kernel
theorem dX11_keep_38 : decode cX11_keep 38 = .ok (.iload 4, 2) := by decide +kernel
theorem dX11_keep_40 : decode cX11_keep 40 = .ok (.iconst 0, 1) := by decide +kernel
theorem dX11_keep_41 : decode cX11_keep 41 = .ok (.bipush 9, 2) := by decide +kernel
theorem dX11_keep_43 : decode cX11_keep 43 = .ok (.invokestatic 104, 3) := by decide +kernel
theorem dX11_keep_46 : decode cX11_keep 46 = .ok (.ifCond .ne 5, 3) := by decide +kernel
theorem dX11_keep_49 : decode cX11_keep 49 = .ok (.iconst (-1), 1) := by decide +kernel
theorem dX11_keep_50 : decode cX11_keep 50 = .ok (.ireturn, 1) := by decide +kernel
theorem dX11_keep_51 : decode cX11_keep 51 = .ok (.aload_n 0, 1) := by decide +kernel
theorem dX11_keep_52 : decode cX11_keep 52 = .ok (.iload_n 1, 1) := by decide +kernel
theorem dX11_keep_53 : decode cX11_keep 53 = .ok (.invokevirtual 76, 3) := by decide +kernel
theorem dX11_keep_56 : decode cX11_keep 56 = .ok (.iload_n 3, 1) := by decide +kernel
theorem dX11_keep_57 : decode cX11_keep 57 = .ok (.iload 4, 2) := by decide +kernel
theorem dX11_keep_59 : decode cX11_keep 59 = .ok (.invokevirtual 243, 3) := by decide +kernel
theorem dX11_keep_62 : decode cX11_keep 62 = .ok (.iconst 0, 1) := by decide +kernel
theorem dX11_keep_63 : decode cX11_keep 63 = .ok (.ireturn, 1) := by decide +kernel
theorem dX11_row_0 : decode cX11_row 0 = .ok (.iload_n 1, 1) := by decide +kernel
theorem dX11_row_1 : decode cX11_row 1 = .ok (.invokestatic 190, 3) := by decide +kernel
theorem dX11_row_4 : decode cX11_row 4 = .ok (.ifCond .eq 18, 3) := by decide +kernel
theorem dX11_row_7 : decode cX11_row 7 = .ok (.iload_n 2, 1) := by decide +kernel
theorem dX11_row_8 : decode cX11_row 8 = .ok (.iconst 0, 1) := by decide +kernel
theorem dX11_row_9 : decode cX11_row 9 = .ok (.iconst 2, 1) := by decide +kernel
theorem dX11_row_10 : decode cX11_row 10 = .ok (.invokestatic 104, 3) := by decide +kernel
theorem dX11_row_13 : decode cX11_row 13 = .ok (.ifCond .eq 9, 3) := by decide +kernel
theorem dX11_row_16 : decode cX11_row 16 = .ok (.iload_n 3, 1) := by decide +kernel
theorem dX11_row_17 : decode cX11_row 17 = .ok (.bipush 100, 2) := by decide +kernel
theorem dX11_row_19 : decode cX11_row 19 = .ok (.if_icmp .le 5, 3) := by decide +kernel
theorem dX11_row_22 : decode cX11_row 22 = .ok (.iconst (-1), 1) := by decide +kernel
theorem dX11_row_23 : decode cX11_row 23 = .ok (.ireturn, 1) := by decide +kernel
theorem dX11_row_24 : decode cX11_row 24 = .ok (.iload_n 3, 1) := by decide +kernel
theorem dX11_row_25 : decode cX11_row 25 = .ok (.ifCond .ge 6, 3) := by decide +kernel
theorem dX11_row_28 : decode cX11_row 28 = .ok (.bipush (-14), 2) := by decide +kernel
theorem dX11_row_30 : decode cX11_row 30 = .ok (.ireturn, 1) := by decide +kernel
theorem dX11_row_31 : decode cX11_row 31 = .ok (.aload_n 0, 1) := by decide +kernel
theorem dX11_row_32 : decode cX11_row 32 = .ok (.iload_n 1, 1) := by decide +kernel
theorem dX11_row_33 : decode cX11_row 33 = .ok (.invokevirtual 76, 3) := by decide +kernel
theorem dX11_row_36 : decode cX11_row 36 = .ok (.iload_n 2, 1) := by decide +kernel
theorem dX11_row_37 : decode cX11_row 37 = .ok (.iload_n 3, 1) := by decide +kernel
theorem dX11_row_38 : decode cX11_row 38 = .ok (.invokevirtual 247, 3) := by decide +kernel
theorem dX11_row_41 : decode cX11_row 41 = .ok (.iconst 0, 1) := by decide +kernel
theorem dX11_row_42 : decode cX11_row 42 = .ok (.ireturn, 1) := by decide +kernel
theorem dX11_put_0 : decode cX11_put 0 = .ok (.iload_n 1, 1) := by decide +kernel
theorem dX11_put_1 : decode cX11_put 1 = .ok (.invokestatic 190, 3) := by decide +kernel
theorem dX11_put_4 : decode cX11_put 4 = .ok (.ifCond .ne 5, 3) := by decide +kernel
theorem dX11_put_7 : decode cX11_put 7 = .ok (.iconst (-1), 1) := by decide +kernel
theorem dX11_put_8 : decode cX11_put 8 = .ok (.ireturn, 1) := by decide +kernel
theorem dX11_put_9 : decode cX11_put 9 = .ok (.aload_n 0, 1) := by decide +kernel
theorem dX11_put_10 : decode cX11_put 10 = .ok (.iload_n 1, 1) := by decide +kernel
theorem dX11_put_11 : decode cX11_put 11 = .ok (.invokevirtual 76, 3) := by decide +kernel
theorem dX11_put_14 : decode cX11_put 14 = .ok (.astore 4, 2) := by decide +kernel
theorem dX11_put_16 : decode cX11_put 16 = .ok (.aload 4, 2) := by decide +kernel
theorem dX11_put_18 : decode cX11_put 18 = .ok (.invokevirtual 222, 3) := by decide +kernel
theorem dX11_put_21 : decode cX11_put 21 = .ok (.istore 5, 2) := by decide +kernel
theorem dX11_put_23 : decode cX11_put 23 = .ok (.iload 5, 2) := by decide +kernel
theorem dX11_put_25 : decode cX11_put 25 = .ok (.ifCond .eq 6, 3) := by decide +kernel
theorem dX11_put_28 : decode cX11_put 28 = .ok (.iload 5, 2) := by decide +kernel
theorem dX11_put_30 : decode cX11_put 30 = .ok (.ireturn, 1) := by decide +kernel
theorem dX11_put_31 : decode cX11_put 31 = .ok (.aload 4, 2) := by decide +kernel
theorem dX11_put_33 : decode cX11_put 33 = .ok (.iload_n 2, 1) := by decide +kernel
theorem dX11_put_34 : decode cX11_put 34 = .ok (.iconst 1, 1) := by decide +kernel
theorem dX11_put_35 : decode cX11_put 35 = .ok (.invokevirtual 250, 3) := by decide +kernel
theorem dX11_put_38 : decode cX11_put 38 = .ok (.ifCond .ne 6, 3) := by decide +kernel
theorem dX11_put_41 : decode cX11_put 41 = .ok (.bipush (-13), 2) := by decide +kernel
theorem dX11_put_43 : decode cX11_put 43 = .ok (.ireturn, 1) := by decide +kernel
theorem dX11_put_44 : decode cX11_put 44 = .ok (.aload 4, 2) := by decide +kernel
theorem dX11_put_46 : decode cX11_put 46 = .ok (.iload_n 2, 1) := by decide +kernel
theorem dX11_put_47 : decode cX11_put 47 = .ok (.iload_n 3, 1) := by decide +kernel
theorem dX11_put_48 : decode cX11_put 48 = .ok (.invokevirtual 254, 3) := by decide +kernel
theorem dX11_put_51 : decode cX11_put 51 = .ok (.iconst 0, 1) := by decide +kernel
theorem dX11_put_52 : decode cX11_put 52 = .ok (.ireturn, 1) := by decide +kernel
theorem dX11_element_0 : decode cX11_element 0 = .ok (.iload_n 1, 1) := by decide +kernel
theorem dX11_element_1 : decode cX11_element 1 = .ok (.invokestatic 190, 3) := by decide +kernel
theorem dX11_element_4 : decode cX11_element 4 = .ok (.ifCond .ne 14, 3) := by decide +kernel
theorem dX11_element_7 : decode cX11_element 7 = .ok (.new 257, 3) := by decide +kernel
theorem dX11_element_10 : decode cX11_element 10 = .ok (.dup, 1) := by decide +kernel
theorem dX11_element_11 : decode cX11_element 11 = .ok (.ldc_w 259, 3) := by decide +kernel
theorem dX11_element_14 : decode cX11_element 14 = .ok (.invokespecial 261, 3) := by decide +kernel
theorem dX11_element_17 : decode cX11_element 17 = .ok (.athrow, 1) := by decide +kernel
theorem dX11_element_18 : decode cX11_element 18 = .ok (.aload_n 0, 1) := by decide +kernel
theorem dX11_element_19 : decode cX11_element 19 = .ok (.iload_n 1, 1) := by decide +kernel
theorem dX11_element_20 : decode cX11_element 20 = .ok (.invokevirtual 76, 3) := by decide +kernel
theorem dX11_element_23 : decode cX11_element 23 = .ok (.astore_n 3, 1) := by decide +kernel
theorem dX11_element_24 : decode cX11_element 24 = .ok (.aload_n 3, 1) := by decide +kernel
theorem dX11_element_25 : decode cX11_element 25 = .ok (.invokevirtual 222, 3) := by decide +kernel
theorem dX11_element_28 : decode cX11_element 28 = .ok (.ifCond .eq 14, 3) := by decide +kernel
theorem dX11_element_31 : decode cX11_element 31 = .ok (.new 264, 3) := by decide +kernel
theorem dX11_element_34 : decode cX11_element 34 = .ok (.dup, 1) := by decide +kernel
theorem dX11_element_35 : decode cX11_element 35 = .ok (.ldc_w 266, 3) := by decide +kernel
theorem dX11_element_38 : decode cX11_element 38 = .ok (.invokespecial 268, 3) := by decide +kernel
theorem dX11_element_41 : decode cX11_element 41 = .ok (.athrow, 1) := by decide +kernel
theorem dX11_element_42 : decode cX11_element 42 = .ok (.aload_n 3, 1) := by decide +kernel
theorem dX11_element_43 : decode cX11_element 43 = .ok (.iload_n 2, 1) := by decide +kernel
theorem dX11_element_44 : decode cX11_element 44 = .ok (.iconst 1, 1) := by decide +kernel
theorem dX11_element_45 : decode cX11_element 45 = .ok (.invokevirtual 250, 3) := by decide +kernel
theorem dX11_element_48 : decode cX11_element 48 = .ok (.ifCond .ne 14, 3) := by decide +kernel
theorem dX11_element_51 : decode cX11_element 51 = .ok (.new 264, 3) := by decide +kernel
theorem dX11_element_54 : decode cX11_element 54 = .ok (.dup, 1) := by decide +kernel
theorem dX11_element_55 : decode cX11_element 55 = .ok (.ldc_w 269, 3) := by decide +kernel
theorem dX11_element_58 : decode cX11_element 58 = .ok (.invokespecial 268, 3) := by decide +kernel
theorem dX11_element_61 : decode cX11_element 61 = .ok (.athrow, 1) := by decide +kernel
theorem dX11_element_62 : decode cX11_element 62 = .ok (.aload_n 3, 1) := by decide +kernel
theorem dX11_element_63 : decode cX11_element 63 = .ok (.iload_n 2, 1) := by decide +kernel
theorem dX11_element_64 : decode cX11_element 64 = .ok (.invokevirtual 210, 3) := by decide +kernel
theorem dX11_element_67 : decode cX11_element 67 = .ok (.i2l, 1) := by decide +kernel
theorem dX11_element_68 : decode cX11_element 68 = .ok (.lreturn, 1) := by decide +kernel
theorem dX11_copy_0 : decode cX11_copy 0 = .ok (.iload_n 1, 1) := by decide +kernel
theorem dX11_copy_1 : decode cX11_copy 1 = .ok (.invokestatic 190, 3) := by decide +kernel
theorem dX11_copy_4 : decode cX11_copy 4 = .ok (.ifCond .eq 10, 3) := by decide +kernel
theorem dX11_copy_7 : decode cX11_copy 7 = .ok (.iload_n 3, 1) := by decide +kernel
theorem dX11_copy_8 : decode cX11_copy 8 = .ok (.invokestatic 190, 3) := by decide +kernel
theorem dX11_copy_11 : decode cX11_copy 11 = .ok (.ifCond .ne 5, 3) := by decide +kernel
theorem dX11_copy_14 : decode cX11_copy 14 = .ok (.iconst (-1), 1) := by decide +kernel
theorem dX11_copy_15 : decode cX11_copy 15 = .ok (.ireturn, 1) := by decide +kernel
theorem dX11_copy_16 : decode cX11_copy 16 = .ok (.aload_n 0, 1) := by decide +kernel
theorem dX11_copy_17 : decode cX11_copy 17 = .ok (.iload_n 1, 1) := by decide +kernel
theorem dX11_copy_18 : decode cX11_copy 18 = .ok (.invokevirtual 76, 3) := by decide +kernel
theorem dX11_copy_21 : decode cX11_copy 21 = .ok (.astore 6, 2) := by decide +kernel
theorem dX11_copy_23 : decode cX11_copy 23 = .ok (.aload_n 0, 1) := by decide +kernel
theorem dX11_copy_24 : decode cX11_copy 24 = .ok (.iload_n 3, 1) := by decide +kernel
theorem dX11_copy_25 : decode cX11_copy 25 = .ok (.invokevirtual 76, 3) := by decide +kernel
theorem dX11_copy_28 : decode cX11_copy 28 = .ok (.astore 7, 2) := by decide +kernel
theorem dX11_copy_30 : decode cX11_copy 30 = .ok (.aload 6, 2) := by decide +kernel
theorem dX11_copy_32 : decode cX11_copy 32 = .ok (.getfield 271, 3) := by decide +kernel
theorem dX11_copy_35 : decode cX11_copy 35 = .ok (.ifCond .eq 11, 3) := by decide +kernel
theorem dX11_copy_38 : decode cX11_copy 38 = .ok (.aload 7, 2) := by decide +kernel
theorem dX11_copy_40 : decode cX11_copy 40 = .ok (.getfield 271, 3) := by decide +kernel
theorem dX11_copy_43 : decode cX11_copy 43 = .ok (.ifCond .ne 6, 3) := by decide +kernel
theorem dX11_copy_46 : decode cX11_copy 46 = .ok (.bipush (-11), 2) := by decide +kernel
theorem dX11_copy_48 : decode cX11_copy 48 = .ok (.ireturn, 1) := by decide +kernel
theorem dX11_copy_49 : decode cX11_copy 49 = .ok (.aload 6, 2) := by decide +kernel
theorem dX11_copy_51 : decode cX11_copy 51 = .ok (.invokevirtual 222, 3) := by decide +kernel
theorem dX11_copy_54 : decode cX11_copy 54 = .ok (.ifCond .ne 24, 3) := by decide +kernel
theorem dX11_copy_57 : decode cX11_copy 57 = .ok (.aload 7, 2) := by decide +kernel
theorem dX11_copy_59 : decode cX11_copy 59 = .ok (.invokevirtual 222, 3) := by decide +kernel
theorem dX11_copy_62 : decode cX11_copy 62 = .ok (.ifCond .ne 16, 3) := by decide +kernel
theorem dX11_copy_65 : decode cX11_copy 65 = .ok (.aload 6, 2) := by decide +kernel
theorem dX11_copy_67 : decode cX11_copy 67 = .ok (.getfield 274, 3) := by decide +kernel
theorem dX11_copy_70 : decode cX11_copy 70 = .ok (.aload 7, 2) := by decide +kernel
theorem dX11_copy_72 : decode cX11_copy 72 = .ok (.getfield 274, 3) := by decide +kernel
theorem dX11_copy_75 : decode cX11_copy 75 = .ok (.if_icmp .eq 6, 3) := by decide +kernel
theorem dX11_copy_78 : decode cX11_copy 78 = .ok (.bipush (-12), 2) := by decide +kernel
theorem dX11_copy_80 : decode cX11_copy 80 = .ok (.ireturn, 1) := by decide +kernel
