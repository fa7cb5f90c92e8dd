theorem d_MO_mix_0 : decode b_MO_mix 0 = .ok (.iload_n 0, 1) := by decide +kernel
theorem d_MO_mix_1 : decode b_MO_mix 1 = .ok (.iload_n 1, 1) := by decide +kernel
theorem d_MO_mix_2 : decode b_MO_mix 2 = .ok (.ixor, 1) := by decide +kernel
theorem d_MO_mix_3 : decode b_MO_mix 3 = .ok (.ldc 74, 2) := by decide +kernel
theorem d_MO_mix_5 : decode b_MO_mix 5 = .ok (.imul, 1) := by decide +kernel
theorem d_MO_mix_6 : decode b_MO_mix 6 = .ok (.istore_n 2, 1) := by decide +kernel
theorem d_MO_mix_7 : decode b_MO_mix 7 = .ok (.iload_n 2, 1) := by decide +kernel
theorem d_MO_mix_8 : decode b_MO_mix 8 = .ok (.iload_n 2, 1) := by decide +kernel
theorem d_MO_mix_9 : decode b_MO_mix 9 = .ok (.bipush 15, 2) := by decide +kernel
theorem d_MO_mix_11 : decode b_MO_mix 11 = .ok (.iushr, 1) := by decide +kernel
theorem d_MO_mix_12 : decode b_MO_mix 12 = .ok (.ixor, 1) := by decide +kernel
theorem d_MO_mix_13 : decode b_MO_mix 13 = .ok (.ldc 75, 2) := by decide +kernel
theorem d_MO_mix_15 : decode b_MO_mix 15 = .ok (.iand, 1) := by decide +kernel
theorem d_MO_mix_16 : decode b_MO_mix 16 = .ok (.ireturn, 1) := by decide +kernel
theorem d_MO_hash_0 : decode b_MO_hash 0 = .ok (.bipush 7, 2) := by decide +kernel
theorem d_MO_hash_2 : decode b_MO_hash 2 = .ok (.istore_n 3, 1) := by decide +kernel
theorem d_MO_hash_3 : decode b_MO_hash 3 = .ok (.iconst 0, 1) := by decide +kernel
theorem d_MO_hash_4 : decode b_MO_hash 4 = .ok (.istore 4, 2) := by decide +kernel
theorem d_MO_hash_6 : decode b_MO_hash 6 = .ok (.iload 4, 2) := by decide +kernel
theorem d_MO_hash_8 : decode b_MO_hash 8 = .ok (.iconst 5, 1) := by decide +kernel
theorem d_MO_hash_9 : decode b_MO_hash 9 = .ok (.if_icmp .ge 39, 3) := by decide +kernel
theorem d_MO_hash_12 : decode b_MO_hash 12 = .ok (.iload_n 3, 1) := by decide +kernel
theorem d_MO_hash_13 : decode b_MO_hash 13 = .ok (.iload_n 1, 1) := by decide +kernel
theorem d_MO_hash_14 : decode b_MO_hash 14 = .ok (.ifCond .eq 15, 3) := by decide +kernel
theorem d_MO_hash_17 : decode b_MO_hash 17 = .ok (.aload_n 0, 1) := by decide +kernel
theorem d_MO_hash_18 : decode b_MO_hash 18 = .ok (.getfield 7, 3) := by decide +kernel
theorem d_MO_hash_21 : decode b_MO_hash 21 = .ok (.iload_n 2, 1) := by decide +kernel
theorem d_MO_hash_22 : decode b_MO_hash 22 = .ok (.iload 4, 2) := by decide +kernel
theorem d_MO_hash_24 : decode b_MO_hash 24 = .ok (.iadd, 1) := by decide +kernel
theorem d_MO_hash_25 : decode b_MO_hash 25 = .ok (.iaload, 1) := by decide +kernel
theorem d_MO_hash_26 : decode b_MO_hash 26 = .ok (.goto 12, 3) := by decide +kernel
theorem d_MO_hash_29 : decode b_MO_hash 29 = .ok (.aload_n 0, 1) := by decide +kernel
theorem d_MO_hash_30 : decode b_MO_hash 30 = .ok (.getfield 58, 3) := by decide +kernel
theorem d_MO_hash_33 : decode b_MO_hash 33 = .ok (.iload_n 2, 1) := by decide +kernel
theorem d_MO_hash_34 : decode b_MO_hash 34 = .ok (.iload 4, 2) := by decide +kernel
theorem d_MO_hash_36 : decode b_MO_hash 36 = .ok (.iadd, 1) := by decide +kernel
theorem d_MO_hash_37 : decode b_MO_hash 37 = .ok (.iaload, 1) := by decide +kernel
theorem d_MO_hash_38 : decode b_MO_hash 38 = .ok (.invokestatic 76, 3) := by decide +kernel
theorem d_MO_hash_41 : decode b_MO_hash 41 = .ok (.istore_n 3, 1) := by decide +kernel
theorem d_MO_hash_42 : decode b_MO_hash 42 = .ok (.iinc 4 1, 3) := by decide +kernel
theorem d_MO_hash_45 : decode b_MO_hash 45 = .ok (.goto (-39), 3) := by decide +kernel
theorem d_MO_hash_48 : decode b_MO_hash 48 = .ok (.iload_n 3, 1) := by decide +kernel
theorem d_MO_hash_49 : decode b_MO_hash 49 = .ok (.ireturn, 1) := by decide +kernel
theorem d_MO_blockOf_0 : decode b_MO_blockOf 0 = .ok (.iconst 0, 1) := by decide +kernel
theorem d_MO_blockOf_1 : decode b_MO_blockOf 1 = .ok (.istore_n 2, 1) := by decide +kernel
theorem d_MO_blockOf_2 : decode b_MO_blockOf 2 = .ok (.iload_n 2, 1) := by decide +kernel
theorem d_MO_blockOf_3 : decode b_MO_blockOf 3 = .ok (.aload_n 0, 1) := by decide +kernel
theorem d_MO_blockOf_4 : decode b_MO_blockOf 4 = .ok (.getfield 71, 3) := by decide +kernel
theorem d_MO_blockOf_7 : decode b_MO_blockOf 7 = .ok (.if_icmp .ge 23, 3) := by decide +kernel
theorem d_MO_blockOf_10 : decode b_MO_blockOf 10 = .ok (.aload_n 0, 1) := by decide +kernel
theorem d_MO_blockOf_11 : decode b_MO_blockOf 11 = .ok (.iconst 1, 1) := by decide +kernel
theorem d_MO_blockOf_12 : decode b_MO_blockOf 12 = .ok (.iconst 5, 1) := by decide +kernel
theorem d_MO_blockOf_13 : decode b_MO_blockOf 13 = .ok (.iload_n 2, 1) := by decide +kernel
theorem d_MO_blockOf_14 : decode b_MO_blockOf 14 = .ok (.imul, 1) := by decide +kernel
theorem d_MO_blockOf_15 : decode b_MO_blockOf 15 = .ok (.invokevirtual 80, 3) := by decide +kernel
theorem d_MO_blockOf_18 : decode b_MO_blockOf 18 = .ok (.iload_n 1, 1) := by decide +kernel
theorem d_MO_blockOf_19 : decode b_MO_blockOf 19 = .ok (.if_icmp .ne 5, 3) := by decide +kernel
theorem d_MO_blockOf_22 : decode b_MO_blockOf 22 = .ok (.iload_n 2, 1) := by decide +kernel
theorem d_MO_blockOf_23 : decode b_MO_blockOf 23 = .ok (.ireturn, 1) := by decide +kernel
theorem d_MO_blockOf_24 : decode b_MO_blockOf 24 = .ok (.iinc 2 1, 3) := by decide +kernel
theorem d_MO_blockOf_27 : decode b_MO_blockOf 27 = .ok (.goto (-25), 3) := by decide +kernel
theorem d_MO_blockOf_30 : decode b_MO_blockOf 30 = .ok (.iconst (-1), 1) := by decide +kernel
theorem d_MO_blockOf_31 : decode b_MO_blockOf 31 = .ok (.ireturn, 1) := by decide +kernel
theorem d_MO_parent_0 : decode b_MO_parent 0 = .ok (.iload_n 1, 1) := by decide +kernel
theorem d_MO_parent_1 : decode b_MO_parent 1 = .ok (.ifCond .ne 7, 3) := by decide +kernel
theorem d_MO_parent_4 : decode b_MO_parent 4 = .ok (.iconst (-1), 1) := by decide +kernel
theorem d_MO_parent_5 : decode b_MO_parent 5 = .ok (.goto 15, 3) := by decide +kernel
theorem d_MO_parent_8 : decode b_MO_parent 8 = .ok (.aload_n 0, 1) := by decide +kernel
theorem d_MO_parent_9 : decode b_MO_parent 9 = .ok (.aload_n 0, 1) := by decide +kernel
theorem d_MO_parent_10 : decode b_MO_parent 10 = .ok (.getfield 7, 3) := by decide +kernel
theorem d_MO_parent_13 : decode b_MO_parent 13 = .ok (.iconst 5, 1) := by decide +kernel
theorem d_MO_parent_14 : decode b_MO_parent 14 = .ok (.iload_n 1, 1) := by decide +kernel
theorem d_MO_parent_15 : decode b_MO_parent 15 = .ok (.imul, 1) := by decide +kernel
theorem d_MO_parent_16 : decode b_MO_parent 16 = .ok (.iaload, 1) := by decide +kernel
theorem d_MO_parent_17 : decode b_MO_parent 17 = .ok (.invokevirtual 84, 3) := by decide +kernel
theorem d_MO_parent_20 : decode b_MO_parent 20 = .ok (.ireturn, 1) := by decide +kernel
theorem d_MO_total_0 : decode b_MO_total 0 = .ok (.iconst 0, 1) := by decide +kernel
theorem d_MO_total_1 : decode b_MO_total 1 = .ok (.istore_n 2, 1) := by decide +kernel
theorem d_MO_total_2 : decode b_MO_total 2 = .ok (.iload_n 1, 1) := by decide +kernel
theorem d_MO_total_3 : decode b_MO_total 3 = .ok (.istore_n 3, 1) := by decide +kernel
theorem d_MO_total_4 : decode b_MO_total 4 = .ok (.iconst 0, 1) := by decide +kernel
theorem d_MO_total_5 : decode b_MO_total 5 = .ok (.istore 4, 2) := by decide +kernel
theorem d_MO_total_7 : decode b_MO_total 7 = .ok (.iload 4, 2) := by decide +kernel
theorem d_MO_total_9 : decode b_MO_total 9 = .ok (.bipush 20, 2) := by decide +kernel
theorem d_MO_total_11 : decode b_MO_total 11 = .ok (.if_icmp .ge 32, 3) := by decide +kernel
theorem d_MO_total_14 : decode b_MO_total 14 = .ok (.iload_n 3, 1) := by decide +kernel
theorem d_MO_total_15 : decode b_MO_total 15 = .ok (.ifCond .lt 28, 3) := by decide +kernel
theorem d_MO_total_18 : decode b_MO_total 18 = .ok (.iload_n 2, 1) := by decide +kernel
theorem d_MO_total_19 : decode b_MO_total 19 = .ok (.aload_n 0, 1) := by decide +kernel
theorem d_MO_total_20 : decode b_MO_total 20 = .ok (.getfield 7, 3) := by decide +kernel
theorem d_MO_total_23 : decode b_MO_total 23 = .ok (.iconst 5, 1) := by decide +kernel
theorem d_MO_total_24 : decode b_MO_total 24 = .ok (.iload_n 3, 1) := by decide +kernel
theorem d_MO_total_25 : decode b_MO_total 25 = .ok (.imul, 1) := by decide +kernel
theorem d_MO_total_26 : decode b_MO_total 26 = .ok (.iconst 3, 1) := by decide +kernel
theorem d_MO_total_27 : decode b_MO_total 27 = .ok (.iadd, 1) := by decide +kernel
theorem d_MO_total_28 : decode b_MO_total 28 = .ok (.iaload, 1) := by decide +kernel
theorem d_MO_total_29 : decode b_MO_total 29 = .ok (.iadd, 1) := by decide +kernel
theorem d_MO_total_30 : decode b_MO_total 30 = .ok (.istore_n 2, 1) := by decide +kernel
theorem d_MO_total_31 : decode b_MO_total 31 = .ok (.aload_n 0, 1) := by decide +kernel
theorem d_MO_total_32 : decode b_MO_total 32 = .ok (.iload_n 3, 1) := by decide +kernel
theorem d_MO_total_33 : decode b_MO_total 33 = .ok (.invokevirtual 88, 3) := by decide +kernel
theorem d_MO_total_36 : decode b_MO_total 36 = .ok (.istore_n 3, 1) := by decide +kernel
theorem d_MO_total_37 : decode b_MO_total 37 = .ok (.iinc 4 1, 3) := by decide +kernel
theorem d_MO_total_40 : decode b_MO_total 40 = .ok (.goto (-33), 3) := by decide +kernel
theorem d_MO_total_43 : decode b_MO_total 43 = .ok (.iload_n 2, 1) := by decide +kernel
theorem d_MO_total_44 : decode b_MO_total 44 = .ok (.ireturn, 1) := by decide +kernel
theorem d_MO_imported_0 : decode b_MO_imported 0 = .ok (.iconst 1, 1) := by decide +kernel
theorem d_MO_imported_1 : decode b_MO_imported 1 = .ok (.istore_n 2, 1) := by decide +kernel
theorem d_MO_imported_2 : decode b_MO_imported 2 = .ok (.iload_n 1, 1) := by decide +kernel
theorem d_MO_imported_3 : decode b_MO_imported 3 = .ok (.istore_n 3, 1) := by decide +kernel
theorem d_MO_imported_4 : decode b_MO_imported 4 = .ok (.iconst 0, 1) := by decide +kernel
theorem d_MO_imported_5 : decode b_MO_imported 5 = .ok (.istore 4, 2) := by decide +kernel
theorem d_MO_imported_7 : decode b_MO_imported 7 = .ok (.iload 4, 2) := by decide +kernel
theorem d_MO_imported_9 : decode b_MO_imported 9 = .ok (.bipush 20, 2) := by decide +kernel
theorem d_MO_imported_11 : decode b_MO_imported 11 = .ok (.if_icmp .ge 38, 3) := by decide +kernel
theorem d_MO_imported_14 : decode b_MO_imported 14 = .ok (.iload_n 3, 1) := by decide +kernel
theorem d_MO_imported_15 : decode b_MO_imported 15 = .ok (.ifCond .lt 34, 3) := by decide +kernel
theorem d_MO_imported_18 : decode b_MO_imported 18 = .ok (.iload_n 2, 1) := by decide +kernel
theorem d_MO_imported_19 : decode b_MO_imported 19 = .ok (.ifCond .eq 16, 3) := by decide +kernel
theorem d_MO_imported_22 : decode b_MO_imported 22 = .ok (.aload_n 0, 1) := by decide +kernel
theorem d_MO_imported_23 : decode b_MO_imported 23 = .ok (.getfield 16, 3) := by decide +kernel
theorem d_MO_imported_26 : decode b_MO_imported 26 = .ok (.iload_n 3, 1) := by decide +kernel
theorem d_MO_imported_27 : decode b_MO_imported 27 = .ok (.iaload, 1) := by decide +kernel
theorem d_MO_imported_28 : decode b_MO_imported 28 = .ok (.ifCond .lt 7, 3) := by decide +kernel
theorem d_MO_imported_31 : decode b_MO_imported 31 = .ok (.iconst 1, 1) := by decide +kernel
theorem d_MO_imported_32 : decode b_MO_imported 32 = .ok (.goto 4, 3) := by decide +kernel
theorem d_MO_imported_35 : decode b_MO_imported 35 = .ok (.iconst 0, 1) := by decide +kernel
theorem d_MO_imported_36 : decode b_MO_imported 36 = .ok (.istore_n 2, 1) := by decide +kernel
theorem d_MO_imported_37 : decode b_MO_imported 37 = .ok (.aload_n 0, 1) := by decide +kernel
theorem d_MO_imported_38 : decode b_MO_imported 38 = .ok (.iload_n 3, 1) := by decide +kernel
theorem d_MO_imported_39 : decode b_MO_imported 39 = .ok (.invokevirtual 88, 3) := by decide +kernel
theorem d_MO_imported_42 : decode b_MO_imported 42 = .ok (.istore_n 3, 1) := by decide +kernel
theorem d_MO_imported_43 : decode b_MO_imported 43 = .ok (.iinc 4 1, 3) := by decide +kernel
theorem d_MO_imported_46 : decode b_MO_imported 46 = .ok (.goto (-39), 3) := by decide +kernel
theorem d_MO_imported_49 : decode b_MO_imported 49 = .ok (.iload_n 2, 1) := by decide +kernel
theorem d_MO_imported_50 : decode b_MO_imported 50 = .ok (.ireturn, 1) := by decide +kernel
theorem d_MO_greatest_0 : decode b_MO_greatest 0 = .ok (.iconst 0, 1) := by decide +kernel
theorem d_MO_greatest_1 : decode b_MO_greatest 1 = .ok (.istore_n 2, 1) := by decide +kernel
theorem d_MO_greatest_2 : decode b_MO_greatest 2 = .ok (.iconst 1, 1) := by decide +kernel
theorem d_MO_greatest_3 : decode b_MO_greatest 3 = .ok (.istore_n 3, 1) := by decide +kernel
theorem d_MO_greatest_4 : decode b_MO_greatest 4 = .ok (.iload_n 3, 1) := by decide +kernel
theorem d_MO_greatest_5 : decode b_MO_greatest 5 = .ok (.aload_n 0, 1) := by decide +kernel
theorem d_MO_greatest_6 : decode b_MO_greatest 6 = .ok (.getfield 71, 3) := by decide +kernel
theorem d_MO_greatest_9 : decode b_MO_greatest 9 = .ok (.if_icmp .ge 36, 3) := by decide +kernel
theorem d_MO_greatest_12 : decode b_MO_greatest 12 = .ok (.iload_n 1, 1) := by decide +kernel
theorem d_MO_greatest_13 : decode b_MO_greatest 13 = .ok (.ifCond .eq 11, 3) := by decide +kernel
theorem d_MO_greatest_16 : decode b_MO_greatest 16 = .ok (.aload_n 0, 1) := by decide +kernel
theorem d_MO_greatest_17 : decode b_MO_greatest 17 = .ok (.iload_n 3, 1) := by decide +kernel
theorem d_MO_greatest_18 : decode b_MO_greatest 18 = .ok (.invokevirtual 91, 3) := by decide +kernel
theorem d_MO_greatest_21 : decode b_MO_greatest 21 = .ok (.ifCond .eq 18, 3) := by decide +kernel
theorem d_MO_greatest_24 : decode b_MO_greatest 24 = .ok (.aload_n 0, 1) := by decide +kernel
theorem d_MO_greatest_25 : decode b_MO_greatest 25 = .ok (.iload_n 3, 1) := by decide +kernel
theorem d_MO_greatest_26 : decode b_MO_greatest 26 = .ok (.invokevirtual 95, 3) := by decide +kernel
theorem d_MO_greatest_29 : decode b_MO_greatest 29 = .ok (.aload_n 0, 1) := by decide +kernel
theorem d_MO_greatest_30 : decode b_MO_greatest 30 = .ok (.iload_n 2, 1) := by decide +kernel
theorem d_MO_greatest_31 : decode b_MO_greatest 31 = .ok (.invokevirtual 95, 3) := by decide +kernel
theorem d_MO_greatest_34 : decode b_MO_greatest 34 = .ok (.if_icmp .le 5, 3) := by decide +kernel
theorem d_MO_greatest_37 : decode b_MO_greatest 37 = .ok (.iload_n 3, 1) := by decide +kernel
theorem d_MO_greatest_38 : decode b_MO_greatest 38 = .ok (.istore_n 2, 1) := by decide +kernel
theorem d_MO_greatest_39 : decode b_MO_greatest 39 = .ok (.iinc 3 1, 3) := by decide +kernel
theorem d_MO_greatest_42 : decode b_MO_greatest 42 = .ok (.goto (-38), 3) := by decide +kernel
theorem d_MO_greatest_45 : decode b_MO_greatest 45 = .ok (.iload_n 2, 1) := by decide +kernel
theorem d_MO_greatest_46 : decode b_MO_greatest 46 = .ok (.ireturn, 1) := by decide +kernel
theorem d_MO_ofHead_0 : decode b_MO_ofHead 0 = .ok (.aload_n 0, 1) := by decide +kernel
theorem d_MO_ofHead_1 : decode b_MO_ofHead 1 = .ok (.iconst 1, 1) := by decide +kernel
theorem d_MO_ofHead_2 : decode b_MO_ofHead 2 = .ok (.invokevirtual 98, 3) := by decide +kernel
theorem d_MO_ofHead_5 : decode b_MO_ofHead 5 = .ok (.istore_n 2, 1) := by decide +kernel
theorem d_MO_ofHead_6 : decode b_MO_ofHead 6 = .ok (.iconst 0, 1) := by decide +kernel
theorem d_MO_ofHead_7 : decode b_MO_ofHead 7 = .ok (.istore_n 3, 1) := by decide +kernel
theorem d_MO_ofHead_8 : decode b_MO_ofHead 8 = .ok (.iload_n 3, 1) := by decide +kernel
theorem d_MO_ofHead_9 : decode b_MO_ofHead 9 = .ok (.bipush 20, 2) := by decide +kernel
theorem d_MO_ofHead_11 : decode b_MO_ofHead 11 = .ok (.if_icmp .ge 35, 3) := by decide +kernel
theorem d_MO_ofHead_14 : decode b_MO_ofHead 14 = .ok (.iload_n 2, 1) := by decide +kernel
theorem d_MO_ofHead_15 : decode b_MO_ofHead 15 = .ok (.ifCond .lt 31, 3) := by decide +kernel
theorem d_MO_ofHead_18 : decode b_MO_ofHead 18 = .ok (.aload_n 0, 1) := by decide +kernel
theorem d_MO_ofHead_19 : decode b_MO_ofHead 19 = .ok (.getfield 7, 3) := by decide +kernel
theorem d_MO_ofHead_22 : decode b_MO_ofHead 22 = .ok (.iconst 5, 1) := by decide +kernel
theorem d_MO_ofHead_23 : decode b_MO_ofHead 23 = .ok (.iload_n 2, 1) := by decide +kernel
theorem d_MO_ofHead_24 : decode b_MO_ofHead 24 = .ok (.imul, 1) := by decide +kernel
theorem d_MO_ofHead_25 : decode b_MO_ofHead 25 = .ok (.iconst 1, 1) := by decide +kernel
theorem d_MO_ofHead_26 : decode b_MO_ofHead 26 = .ok (.iadd, 1) := by decide +kernel
theorem d_MO_ofHead_27 : decode b_MO_ofHead 27 = .ok (.iaload, 1) := by decide +kernel
theorem d_MO_ofHead_28 : decode b_MO_ofHead 28 = .ok (.iload_n 1, 1) := by decide +kernel
theorem d_MO_ofHead_29 : decode b_MO_ofHead 29 = .ok (.if_icmp .ne 5, 3) := by decide +kernel
theorem d_MO_ofHead_32 : decode b_MO_ofHead 32 = .ok (.iload_n 2, 1) := by decide +kernel
theorem d_MO_ofHead_33 : decode b_MO_ofHead 33 = .ok (.ireturn, 1) := by decide +kernel
theorem d_MO_ofHead_34 : decode b_MO_ofHead 34 = .ok (.aload_n 0, 1) := by decide +kernel
theorem d_MO_ofHead_35 : decode b_MO_ofHead 35 = .ok (.iload_n 2, 1) := by decide +kernel
theorem d_MO_ofHead_36 : decode b_MO_ofHead 36 = .ok (.invokevirtual 88, 3) := by decide +kernel
theorem d_MO_ofHead_39 : decode b_MO_ofHead 39 = .ok (.istore_n 2, 1) := by decide +kernel
theorem d_MO_ofHead_40 : decode b_MO_ofHead 40 = .ok (.iinc 3 1, 3) := by decide +kernel
theorem d_MO_ofHead_43 : decode b_MO_ofHead 43 = .ok (.goto (-35), 3) := by decide +kernel
theorem d_MO_ofHead_46 : decode b_MO_ofHead 46 = .ok (.iconst (-1), 1) := by decide +kernel
theorem d_MO_ofHead_47 : decode b_MO_ofHead 47 = .ok (.ireturn, 1) := by decide +kernel
theorem d_MO_good_0 : decode b_MO_good 0 = .ok (.aload_n 0, 1) := by decide +kernel
theorem d_MO_good_1 : decode b_MO_good 1 = .ok (.aload_n 0, 1) := by decide +kernel
theorem d_MO_good_2 : decode b_MO_good 2 = .ok (.getfield 58, 3) := by decide +kernel
theorem d_MO_good_5 : decode b_MO_good 5 = .ok (.iload_n 1, 1) := by decide +kernel
theorem d_MO_good_6 : decode b_MO_good 6 = .ok (.iaload, 1) := by decide +kernel
theorem d_MO_good_7 : decode b_MO_good 7 = .ok (.invokevirtual 84, 3) := by decide +kernel
theorem d_MO_good_10 : decode b_MO_good 10 = .ok (.istore_n 2, 1) := by decide +kernel
theorem d_MO_good_11 : decode b_MO_good 11 = .ok (.iload_n 2, 1) := by decide +kernel
theorem d_MO_good_12 : decode b_MO_good 12 = .ok (.ifCond .ge 5, 3) := by decide +kernel
theorem d_MO_good_15 : decode b_MO_good 15 = .ok (.iconst 0, 1) := by decide +kernel
theorem d_MO_good_16 : decode b_MO_good 16 = .ok (.ireturn, 1) := by decide +kernel
theorem d_MO_good_17 : decode b_MO_good 17 = .ok (.aload_n 0, 1) := by decide +kernel
theorem d_MO_good_18 : decode b_MO_good 18 = .ok (.getfield 7, 3) := by decide +kernel
theorem d_MO_good_21 : decode b_MO_good 21 = .ok (.iconst 5, 1) := by decide +kernel
theorem d_MO_good_22 : decode b_MO_good 22 = .ok (.iload_n 2, 1) := by decide +kernel
theorem d_MO_good_23 : decode b_MO_good 23 = .ok (.imul, 1) := by decide +kernel
theorem d_MO_good_24 : decode b_MO_good 24 = .ok (.iconst 3, 1) := by decide +kernel
theorem d_MO_good_25 : decode b_MO_good 25 = .ok (.iadd, 1) := by decide +kernel
theorem d_MO_good_26 : decode b_MO_good 26 = .ok (.iaload, 1) := by decide +kernel
theorem d_MO_good_27 : decode b_MO_good 27 = .ok (.istore_n 3, 1) := by decide +kernel
theorem d_MO_good_28 : decode b_MO_good 28 = .ok (.aload_n 0, 1) := by decide +kernel
theorem d_MO_good_29 : decode b_MO_good 29 = .ok (.getfield 58, 3) := by decide +kernel
theorem d_MO_good_32 : decode b_MO_good 32 = .ok (.iload_n 1, 1) := by decide +kernel
theorem d_MO_good_33 : decode b_MO_good 33 = .ok (.iconst 3, 1) := by decide +kernel
theorem d_MO_good_34 : decode b_MO_good 34 = .ok (.iadd, 1) := by decide +kernel
theorem d_MO_good_35 : decode b_MO_good 35 = .ok (.iaload, 1) := by decide +kernel
theorem d_MO_good_36 : decode b_MO_good 36 = .ok (.iload_n 3, 1) := by decide +kernel
theorem d_MO_good_37 : decode b_MO_good 37 = .ok (.if_icmp .ge 16, 3) := by decide +kernel
theorem d_MO_good_40 : decode b_MO_good 40 = .ok (.iload_n 3, 1) := by decide +kernel
theorem d_MO_good_41 : decode b_MO_good 41 = .ok (.aload_n 0, 1) := by decide +kernel
theorem d_MO_good_42 : decode b_MO_good 42 = .ok (.getfield 58, 3) := by decide +kernel
theorem d_MO_good_45 : decode b_MO_good 45 = .ok (.iload_n 1, 1) := by decide +kernel
theorem d_MO_good_46 : decode b_MO_good 46 = .ok (.iconst 3, 1) := by decide +kernel
theorem d_MO_good_47 : decode b_MO_good 47 = .ok (.iadd, 1) := by decide +kernel
theorem d_MO_good_48 : decode b_MO_good 48 = .ok (.iaload, 1) := by decide +kernel
theorem d_MO_good_49 : decode b_MO_good 49 = .ok (.isub, 1) := by decide +kernel
theorem d_MO_good_50 : decode b_MO_good 50 = .ok (.goto 13, 3) := by decide +kernel
theorem d_MO_good_53 : decode b_MO_good 53 = .ok (.aload_n 0, 1) := by decide +kernel
theorem d_MO_good_54 : decode b_MO_good 54 = .ok (.getfield 58, 3) := by decide +kernel
theorem d_MO_good_57 : decode b_MO_good 57 = .ok (.iload_n 1, 1) := by decide +kernel
theorem d_MO_good_58 : decode b_MO_good 58 = .ok (.iconst 3, 1) := by decide +kernel
theorem d_MO_good_59 : decode b_MO_good 59 = .ok (.iadd, 1) := by decide +kernel
theorem d_MO_good_60 : decode b_MO_good 60 = .ok (.iaload, 1) := by decide +kernel
theorem d_MO_good_61 : decode b_MO_good 61 = .ok (.iload_n 3, 1) := by decide +kernel
theorem d_MO_good_62 : decode b_MO_good 62 = .ok (.isub, 1) := by decide +kernel
theorem d_MO_good_63 : decode b_MO_good 63 = .ok (.istore 4, 2) := by decide +kernel
theorem d_MO_good_65 : decode b_MO_good 65 = .ok (.aload_n 0, 1) := by decide +kernel
theorem d_MO_good_66 : decode b_MO_good 66 = .ok (.getfield 58, 3) := by decide +kernel
theorem d_MO_good_69 : decode b_MO_good 69 = .ok (.iload_n 1, 1) := by decide +kernel
theorem d_MO_good_70 : decode b_MO_good 70 = .ok (.iconst 3, 1) := by decide +kernel
theorem d_MO_good_71 : decode b_MO_good 71 = .ok (.iadd, 1) := by decide +kernel
theorem d_MO_good_72 : decode b_MO_good 72 = .ok (.iaload, 1) := by decide +kernel
theorem d_MO_good_73 : decode b_MO_good 73 = .ok (.iconst 1, 1) := by decide +kernel
theorem d_MO_good_74 : decode b_MO_good 74 = .ok (.if_icmp .lt 30, 3) := by decide +kernel
theorem d_MO_good_77 : decode b_MO_good 77 = .ok (.aload_n 0, 1) := by decide +kernel
theorem d_MO_good_78 : decode b_MO_good 78 = .ok (.getfield 58, 3) := by decide +kernel
theorem d_MO_good_81 : decode b_MO_good 81 = .ok (.iload_n 1, 1) := by decide +kernel
theorem d_MO_good_82 : decode b_MO_good 82 = .ok (.iconst 3, 1) := by decide +kernel
theorem d_MO_good_83 : decode b_MO_good 83 = .ok (.iadd, 1) := by decide +kernel
theorem d_MO_good_84 : decode b_MO_good 84 = .ok (.iaload, 1) := by decide +kernel
theorem d_MO_good_85 : decode b_MO_good 85 = .ok (.bipush 99, 2) := by decide +kernel
theorem d_MO_good_87 : decode b_MO_good 87 = .ok (.if_icmp .gt 17, 3) := by decide +kernel
theorem d_MO_good_90 : decode b_MO_good 90 = .ok (.iload 4, 2) := by decide +kernel
theorem d_MO_good_92 : decode b_MO_good 92 = .ok (.iload_n 3, 1) := by decide +kernel
theorem d_MO_good_93 : decode b_MO_good 93 = .ok (.iconst 4, 1) := by decide +kernel
theorem d_MO_good_94 : decode b_MO_good 94 = .ok (.idiv, 1) := by decide +kernel
theorem d_MO_good_95 : decode b_MO_good 95 = .ok (.iconst 1, 1) := by decide +kernel
theorem d_MO_good_96 : decode b_MO_good 96 = .ok (.iadd, 1) := by decide +kernel
theorem d_MO_good_97 : decode b_MO_good 97 = .ok (.if_icmp .gt 7, 3) := by decide +kernel
theorem d_MO_good_100 : decode b_MO_good 100 = .ok (.iconst 1, 1) := by decide +kernel
theorem d_MO_good_101 : decode b_MO_good 101 = .ok (.goto 4, 3) := by decide +kernel
theorem d_MO_good_104 : decode b_MO_good 104 = .ok (.iconst 0, 1) := by decide +kernel
theorem d_MO_good_105 : decode b_MO_good 105 = .ok (.istore 5, 2) := by decide +kernel
theorem d_MO_good_107 : decode b_MO_good 107 = .ok (.iload 5, 2) := by decide +kernel
theorem d_MO_good_109 : decode b_MO_good 109 = .ok (.ifCond .eq 51, 3) := by decide +kernel
theorem d_MO_good_112 : decode b_MO_good 112 = .ok (.aload_n 0, 1) := by decide +kernel
theorem d_MO_good_113 : decode b_MO_good 113 = .ok (.getfield 58, 3) := by decide +kernel
theorem d_MO_good_116 : decode b_MO_good 116 = .ok (.iload_n 1, 1) := by decide +kernel
theorem d_MO_good_117 : decode b_MO_good 117 = .ok (.iconst 1, 1) := by decide +kernel
theorem d_MO_good_118 : decode b_MO_good 118 = .ok (.iadd, 1) := by decide +kernel
theorem d_MO_good_119 : decode b_MO_good 119 = .ok (.iaload, 1) := by decide +kernel
theorem d_MO_good_120 : decode b_MO_good 120 = .ok (.aload_n 0, 1) := by decide +kernel
theorem d_MO_good_121 : decode b_MO_good 121 = .ok (.getfield 7, 3) := by decide +kernel
theorem d_MO_good_124 : decode b_MO_good 124 = .ok (.iconst 5, 1) := by decide +kernel
theorem d_MO_good_125 : decode b_MO_good 125 = .ok (.iload_n 2, 1) := by decide +kernel
theorem d_MO_good_126 : decode b_MO_good 126 = .ok (.imul, 1) := by decide +kernel
theorem d_MO_good_127 : decode b_MO_good 127 = .ok (.iconst 1, 1) := by decide +kernel
theorem d_MO_good_128 : decode b_MO_good 128 = .ok (.iadd, 1) := by decide +kernel
theorem d_MO_good_129 : decode b_MO_good 129 = .ok (.iaload, 1) := by decide +kernel
theorem d_MO_good_130 : decode b_MO_good 130 = .ok (.iconst 1, 1) := by decide +kernel
theorem d_MO_good_131 : decode b_MO_good 131 = .ok (.iadd, 1) := by decide +kernel
theorem d_MO_good_132 : decode b_MO_good 132 = .ok (.if_icmp .ne 28, 3) := by decide +kernel
theorem d_MO_good_135 : decode b_MO_good 135 = .ok (.aload_n 0, 1) := by decide +kernel
theorem d_MO_good_136 : decode b_MO_good 136 = .ok (.getfield 58, 3) := by decide +kernel
theorem d_MO_good_139 : decode b_MO_good 139 = .ok (.iload_n 1, 1) := by decide +kernel
theorem d_MO_good_140 : decode b_MO_good 140 = .ok (.iconst 2, 1) := by decide +kernel
theorem d_MO_good_141 : decode b_MO_good 141 = .ok (.iadd, 1) := by decide +kernel
theorem d_MO_good_142 : decode b_MO_good 142 = .ok (.iaload, 1) := by decide +kernel
theorem d_MO_good_143 : decode b_MO_good 143 = .ok (.aload_n 0, 1) := by decide +kernel
theorem d_MO_good_144 : decode b_MO_good 144 = .ok (.getfield 7, 3) := by decide +kernel
theorem d_MO_good_147 : decode b_MO_good 147 = .ok (.iconst 5, 1) := by decide +kernel
theorem d_MO_good_148 : decode b_MO_good 148 = .ok (.iload_n 2, 1) := by decide +kernel
theorem d_MO_good_149 : decode b_MO_good 149 = .ok (.imul, 1) := by decide +kernel
theorem d_MO_good_150 : decode b_MO_good 150 = .ok (.iconst 2, 1) := by decide +kernel
theorem d_MO_good_151 : decode b_MO_good 151 = .ok (.iadd, 1) := by decide +kernel
theorem d_MO_good_152 : decode b_MO_good 152 = .ok (.iaload, 1) := by decide +kernel
theorem d_MO_good_153 : decode b_MO_good 153 = .ok (.if_icmp .le 7, 3) := by decide +kernel
theorem d_MO_good_156 : decode b_MO_good 156 = .ok (.iconst 1, 1) := by decide +kernel
theorem d_MO_good_157 : decode b_MO_good 157 = .ok (.goto 4, 3) := by decide +kernel
theorem d_MO_good_160 : decode b_MO_good 160 = .ok (.iconst 0, 1) := by decide +kernel
theorem d_MO_good_161 : decode b_MO_good 161 = .ok (.ireturn, 1) := by decide +kernel
theorem d_MO_add_0 : decode b_MO_add 0 = .ok (.iconst 0, 1) := by decide +kernel
theorem d_MO_add_1 : decode b_MO_add 1 = .ok (.istore_n 2, 1) := by decide +kernel
theorem d_MO_add_2 : decode b_MO_add 2 = .ok (.iload_n 2, 1) := by decide +kernel
theorem d_MO_add_3 : decode b_MO_add 3 = .ok (.iconst 5, 1) := by decide +kernel
theorem d_MO_add_4 : decode b_MO_add 4 = .ok (.if_icmp .ge 30, 3) := by decide +kernel
theorem d_MO_add_7 : decode b_MO_add 7 = .ok (.aload_n 0, 1) := by decide +kernel
theorem d_MO_add_8 : decode b_MO_add 8 = .ok (.getfield 7, 3) := by decide +kernel
theorem d_MO_add_11 : decode b_MO_add 11 = .ok (.iconst 5, 1) := by decide +kernel
theorem d_MO_add_12 : decode b_MO_add 12 = .ok (.aload_n 0, 1) := by decide +kernel
theorem d_MO_add_13 : decode b_MO_add 13 = .ok (.getfield 71, 3) := by decide +kernel
theorem d_MO_add_16 : decode b_MO_add 16 = .ok (.imul, 1) := by decide +kernel
theorem d_MO_add_17 : decode b_MO_add 17 = .ok (.iload_n 2, 1) := by decide +kernel
theorem d_MO_add_18 : decode b_MO_add 18 = .ok (.iadd, 1) := by decide +kernel
theorem d_MO_add_19 : decode b_MO_add 19 = .ok (.aload_n 0, 1) := by decide +kernel
theorem d_MO_add_20 : decode b_MO_add 20 = .ok (.getfield 58, 3) := by decide +kernel
theorem d_MO_add_23 : decode b_MO_add 23 = .ok (.iload_n 1, 1) := by decide +kernel
theorem d_MO_add_24 : decode b_MO_add 24 = .ok (.iload_n 2, 1) := by decide +kernel
theorem d_MO_add_25 : decode b_MO_add 25 = .ok (.iadd, 1) := by decide +kernel
theorem d_MO_add_26 : decode b_MO_add 26 = .ok (.iaload, 1) := by decide +kernel
theorem d_MO_add_27 : decode b_MO_add 27 = .ok (.iastore, 1) := by decide +kernel
theorem d_MO_add_28 : decode b_MO_add 28 = .ok (.iinc 2 1, 3) := by decide +kernel
theorem d_MO_add_31 : decode b_MO_add 31 = .ok (.goto (-29), 3) := by decide +kernel
theorem d_MO_add_34 : decode b_MO_add 34 = .ok (.aload_n 0, 1) := by decide +kernel
theorem d_MO_add_35 : decode b_MO_add 35 = .ok (.getfield 16, 3) := by decide +kernel
theorem d_MO_add_38 : decode b_MO_add 38 = .ok (.aload_n 0, 1) := by decide +kernel
theorem d_MO_add_39 : decode b_MO_add 39 = .ok (.getfield 71, 3) := by decide +kernel
theorem d_MO_add_42 : decode b_MO_add 42 = .ok (.iconst (-1), 1) := by decide +kernel
theorem d_MO_add_43 : decode b_MO_add 43 = .ok (.iastore, 1) := by decide +kernel
theorem d_MO_add_44 : decode b_MO_add 44 = .ok (.aload_n 0, 1) := by decide +kernel
theorem d_MO_add_45 : decode b_MO_add 45 = .ok (.dup, 1) := by decide +kernel
theorem d_MO_add_46 : decode b_MO_add 46 = .ok (.getfield 71, 3) := by decide +kernel
theorem d_MO_add_49 : decode b_MO_add 49 = .ok (.iconst 1, 1) := by decide +kernel
theorem d_MO_add_50 : decode b_MO_add 50 = .ok (.iadd, 1) := by decide +kernel
theorem d_MO_add_51 : decode b_MO_add 51 = .ok (.putfield 71, 3) := by decide +kernel
theorem d_MO_add_54 : decode b_MO_add 54 = .ok (.return_, 1) := by decide +kernel
theorem d_MO_write_0 : decode b_MO_write 0 = .ok (.iload_n 1, 1) := by decide +kernel
theorem d_MO_write_1 : decode b_MO_write 1 = .ok (.ifCond .le 31, 3) := by decide +kernel
theorem d_MO_write_4 : decode b_MO_write 4 = .ok (.iload_n 1, 1) := by decide +kernel
theorem d_MO_write_5 : decode b_MO_write 5 = .ok (.sipush 128, 3) := by decide +kernel
theorem d_MO_write_8 : decode b_MO_write 8 = .ok (.if_icmp .ge 24, 3) := by decide +kernel
theorem d_MO_write_11 : decode b_MO_write 11 = .ok (.aload_n 0, 1) := by decide +kernel
theorem d_MO_write_12 : decode b_MO_write 12 = .ok (.getfield 61, 3) := by decide +kernel
theorem d_MO_write_15 : decode b_MO_write 15 = .ok (.aload_n 0, 1) := by decide +kernel
theorem d_MO_write_16 : decode b_MO_write 16 = .ok (.getfield 102, 3) := by decide +kernel
theorem d_MO_write_19 : decode b_MO_write 19 = .ok (.iload_n 1, 1) := by decide +kernel
theorem d_MO_write_20 : decode b_MO_write 20 = .ok (.iastore, 1) := by decide +kernel
theorem d_MO_write_21 : decode b_MO_write 21 = .ok (.aload_n 0, 1) := by decide +kernel
theorem d_MO_write_22 : decode b_MO_write 22 = .ok (.dup, 1) := by decide +kernel
theorem d_MO_write_23 : decode b_MO_write 23 = .ok (.getfield 102, 3) := by decide +kernel
theorem d_MO_write_26 : decode b_MO_write 26 = .ok (.iconst 1, 1) := by decide +kernel
theorem d_MO_write_27 : decode b_MO_write 27 = .ok (.iadd, 1) := by decide +kernel
theorem d_MO_write_28 : decode b_MO_write 28 = .ok (.putfield 102, 3) := by decide +kernel
theorem d_MO_write_31 : decode b_MO_write 31 = .ok (.return_, 1) := by decide +kernel
theorem d_MO_write_32 : decode b_MO_write 32 = .ok (.iload_n 1, 1) := by decide +kernel
theorem d_MO_write_33 : decode b_MO_write 33 = .ok (.ifCond .ne 7, 3) := by decide +kernel
theorem d_MO_write_36 : decode b_MO_write 36 = .ok (.iconst 0, 1) := by decide +kernel
theorem d_MO_write_37 : decode b_MO_write 37 = .ok (.goto 35, 3) := by decide +kernel
theorem d_MO_write_40 : decode b_MO_write 40 = .ok (.iload_n 1, 1) := by decide +kernel
theorem d_MO_write_41 : decode b_MO_write 41 = .ok (.sipush 256, 3) := by decide +kernel
theorem d_MO_write_44 : decode b_MO_write 44 = .ok (.if_icmp .ge 7, 3) := by decide +kernel
theorem d_MO_write_47 : decode b_MO_write 47 = .ok (.iconst 1, 1) := by decide +kernel
theorem d_MO_write_48 : decode b_MO_write 48 = .ok (.goto 24, 3) := by decide +kernel
theorem d_MO_write_51 : decode b_MO_write 51 = .ok (.iload_n 1, 1) := by decide +kernel
theorem d_MO_write_52 : decode b_MO_write 52 = .ok (.ldc 105, 2) := by decide +kernel
theorem d_MO_write_54 : decode b_MO_write 54 = .ok (.if_icmp .ge 7, 3) := by decide +kernel
theorem d_MO_write_57 : decode b_MO_write 57 = .ok (.iconst 2, 1) := by decide +kernel
theorem d_MO_write_58 : decode b_MO_write 58 = .ok (.goto 14, 3) := by decide +kernel
theorem d_MO_write_61 : decode b_MO_write 61 = .ok (.iload_n 1, 1) := by decide +kernel
theorem d_MO_write_62 : decode b_MO_write 62 = .ok (.ldc 106, 2) := by decide +kernel
theorem d_MO_write_64 : decode b_MO_write 64 = .ok (.if_icmp .ge 7, 3) := by decide +kernel
theorem d_MO_write_67 : decode b_MO_write 67 = .ok (.iconst 3, 1) := by decide +kernel
theorem d_MO_write_68 : decode b_MO_write 68 = .ok (.goto 4, 3) := by decide +kernel
theorem d_MO_write_71 : decode b_MO_write 71 = .ok (.iconst 4, 1) := by decide +kernel
theorem d_MO_write_72 : decode b_MO_write 72 = .ok (.istore_n 2, 1) := by decide +kernel
theorem d_MO_write_73 : decode b_MO_write 73 = .ok (.aload_n 0, 1) := by decide +kernel
theorem d_MO_write_74 : decode b_MO_write 74 = .ok (.getfield 61, 3) := by decide +kernel
theorem d_MO_write_77 : decode b_MO_write 77 = .ok (.aload_n 0, 1) := by decide +kernel
theorem d_MO_write_78 : decode b_MO_write 78 = .ok (.getfield 102, 3) := by decide +kernel
theorem d_MO_write_81 : decode b_MO_write 81 = .ok (.sipush 128, 3) := by decide +kernel
theorem d_MO_write_84 : decode b_MO_write 84 = .ok (.iload_n 2, 1) := by decide +kernel
theorem d_MO_write_85 : decode b_MO_write 85 = .ok (.iadd, 1) := by decide +kernel
theorem d_MO_write_86 : decode b_MO_write 86 = .ok (.iastore, 1) := by decide +kernel
theorem d_MO_write_87 : decode b_MO_write 87 = .ok (.iconst 1, 1) := by decide +kernel
theorem d_MO_write_88 : decode b_MO_write 88 = .ok (.istore_n 3, 1) := by decide +kernel
theorem d_MO_write_89 : decode b_MO_write 89 = .ok (.iload_n 3, 1) := by decide +kernel
theorem d_MO_write_90 : decode b_MO_write 90 = .ok (.iload_n 2, 1) := by decide +kernel
theorem d_MO_write_91 : decode b_MO_write 91 = .ok (.if_icmp .gt 32, 3) := by decide +kernel
theorem d_MO_write_94 : decode b_MO_write 94 = .ok (.aload_n 0, 1) := by decide +kernel
theorem d_MO_write_95 : decode b_MO_write 95 = .ok (.getfield 61, 3) := by decide +kernel
theorem d_MO_write_98 : decode b_MO_write 98 = .ok (.aload_n 0, 1) := by decide +kernel
theorem d_MO_write_99 : decode b_MO_write 99 = .ok (.getfield 102, 3) := by decide +kernel
theorem d_MO_write_102 : decode b_MO_write 102 = .ok (.iload_n 3, 1) := by decide +kernel
theorem d_MO_write_103 : decode b_MO_write 103 = .ok (.iadd, 1) := by decide +kernel
theorem d_MO_write_104 : decode b_MO_write 104 = .ok (.iload_n 1, 1) := by decide +kernel
theorem d_MO_write_105 : decode b_MO_write 105 = .ok (.bipush 8, 2) := by decide +kernel
theorem d_MO_write_107 : decode b_MO_write 107 = .ok (.iload_n 2, 1) := by decide +kernel
theorem d_MO_write_108 : decode b_MO_write 108 = .ok (.iload_n 3, 1) := by decide +kernel
theorem d_MO_write_109 : decode b_MO_write 109 = .ok (.isub, 1) := by decide +kernel
theorem d_MO_write_110 : decode b_MO_write 110 = .ok (.imul, 1) := by decide +kernel
theorem d_MO_write_111 : decode b_MO_write 111 = .ok (.ishr, 1) := by decide +kernel
theorem d_MO_write_112 : decode b_MO_write 112 = .ok (.sipush 255, 3) := by decide +kernel
theorem d_MO_write_115 : decode b_MO_write 115 = .ok (.iand, 1) := by decide +kernel
theorem d_MO_write_116 : decode b_MO_write 116 = .ok (.iastore, 1) := by decide +kernel
theorem d_MO_write_117 : decode b_MO_write 117 = .ok (.iinc 3 1, 3) := by decide +kernel
theorem d_MO_write_120 : decode b_MO_write 120 = .ok (.goto (-31), 3) := by decide +kernel
theorem d_MO_write_123 : decode b_MO_write 123 = .ok (.aload_n 0, 1) := by decide +kernel
theorem d_MO_write_124 : decode b_MO_write 124 = .ok (.dup, 1) := by decide +kernel
theorem d_MO_write_125 : decode b_MO_write 125 = .ok (.getfield 102, 3) := by decide +kernel
theorem d_MO_write_128 : decode b_MO_write 128 = .ok (.iconst 1, 1) := by decide +kernel
theorem d_MO_write_129 : decode b_MO_write 129 = .ok (.iload_n 2, 1) := by decide +kernel
theorem d_MO_write_130 : decode b_MO_write 130 = .ok (.iadd, 1) := by decide +kernel
theorem d_MO_write_131 : decode b_MO_write 131 = .ok (.iadd, 1) := by decide +kernel
theorem d_MO_write_132 : decode b_MO_write 132 = .ok (.putfield 102, 3) := by decide +kernel
theorem d_MO_write_135 : decode b_MO_write 135 = .ok (.return_, 1) := by decide +kernel
theorem d_MO_start_0 : decode b_MO_start 0 = .ok (.aload_n 0, 1) := by decide +kernel
theorem d_MO_start_1 : decode b_MO_start 1 = .ok (.iconst 0, 1) := by decide +kernel
theorem d_MO_start_2 : decode b_MO_start 2 = .ok (.putfield 102, 3) := by decide +kernel
theorem d_MO_start_5 : decode b_MO_start 5 = .ok (.aload_n 0, 1) := by decide +kernel
theorem d_MO_start_6 : decode b_MO_start 6 = .ok (.iload_n 1, 1) := by decide +kernel
theorem d_MO_start_7 : decode b_MO_start 7 = .ok (.invokevirtual 107, 3) := by decide +kernel
theorem d_MO_start_10 : decode b_MO_start 10 = .ok (.aload_n 0, 1) := by decide +kernel
theorem d_MO_start_11 : decode b_MO_start 11 = .ok (.iload_n 2, 1) := by decide +kernel
theorem d_MO_start_12 : decode b_MO_start 12 = .ok (.invokevirtual 107, 3) := by decide +kernel
theorem d_MO_start_15 : decode b_MO_start 15 = .ok (.return_, 1) := by decide +kernel
theorem d_MO_wrap_0 : decode b_MO_wrap 0 = .ok (.aload_n 0, 1) := by decide +kernel
theorem d_MO_wrap_1 : decode b_MO_wrap 1 = .ok (.getfield 102, 3) := by decide +kernel
theorem d_MO_wrap_4 : decode b_MO_wrap 4 = .ok (.istore_n 2, 1) := by decide +kernel
theorem d_MO_wrap_5 : decode b_MO_wrap 5 = .ok (.iload_n 2, 1) := by decide +kernel
theorem d_MO_wrap_6 : decode b_MO_wrap 6 = .ok (.iload_n 1, 1) := by decide +kernel
theorem d_MO_wrap_7 : decode b_MO_wrap 7 = .ok (.if_icmp .le 23, 3) := by decide +kernel
theorem d_MO_wrap_10 : decode b_MO_wrap 10 = .ok (.aload_n 0, 1) := by decide +kernel
theorem d_MO_wrap_11 : decode b_MO_wrap 11 = .ok (.getfield 61, 3) := by decide +kernel
theorem d_MO_wrap_14 : decode b_MO_wrap 14 = .ok (.iload_n 2, 1) := by decide +kernel
theorem d_MO_wrap_15 : decode b_MO_wrap 15 = .ok (.aload_n 0, 1) := by decide +kernel
theorem d_MO_wrap_16 : decode b_MO_wrap 16 = .ok (.getfield 61, 3) := by decide +kernel
theorem d_MO_wrap_19 : decode b_MO_wrap 19 = .ok (.iload_n 2, 1) := by decide +kernel
theorem d_MO_wrap_20 : decode b_MO_wrap 20 = .ok (.iconst 1, 1) := by decide +kernel
theorem d_MO_wrap_21 : decode b_MO_wrap 21 = .ok (.isub, 1) := by decide +kernel
theorem d_MO_wrap_22 : decode b_MO_wrap 22 = .ok (.iaload, 1) := by decide +kernel
theorem d_MO_wrap_23 : decode b_MO_wrap 23 = .ok (.iastore, 1) := by decide +kernel
theorem d_MO_wrap_24 : decode b_MO_wrap 24 = .ok (.iinc 2 (-1), 3) := by decide +kernel
theorem d_MO_wrap_27 : decode b_MO_wrap 27 = .ok (.goto (-22), 3) := by decide +kernel
theorem d_MO_wrap_30 : decode b_MO_wrap 30 = .ok (.aload_n 0, 1) := by decide +kernel
theorem d_MO_wrap_31 : decode b_MO_wrap 31 = .ok (.getfield 61, 3) := by decide +kernel
theorem d_MO_wrap_34 : decode b_MO_wrap 34 = .ok (.iload_n 1, 1) := by decide +kernel
theorem d_MO_wrap_35 : decode b_MO_wrap 35 = .ok (.sipush 192, 3) := by decide +kernel
theorem d_MO_wrap_38 : decode b_MO_wrap 38 = .ok (.aload_n 0, 1) := by decide +kernel
theorem d_MO_wrap_39 : decode b_MO_wrap 39 = .ok (.getfield 102, 3) := by decide +kernel
theorem d_MO_wrap_42 : decode b_MO_wrap 42 = .ok (.iadd, 1) := by decide +kernel
theorem d_MO_wrap_43 : decode b_MO_wrap 43 = .ok (.iload_n 1, 1) := by decide +kernel
theorem d_MO_wrap_44 : decode b_MO_wrap 44 = .ok (.isub, 1) := by decide +kernel
theorem d_MO_wrap_45 : decode b_MO_wrap 45 = .ok (.iastore, 1) := by decide +kernel
theorem d_MO_wrap_46 : decode b_MO_wrap 46 = .ok (.aload_n 0, 1) := by decide +kernel
theorem d_MO_wrap_47 : decode b_MO_wrap 47 = .ok (.dup, 1) := by decide +kernel
theorem d_MO_wrap_48 : decode b_MO_wrap 48 = .ok (.getfield 102, 3) := by decide +kernel
theorem d_MO_wrap_51 : decode b_MO_wrap 51 = .ok (.iconst 1, 1) := by decide +kernel
theorem d_MO_wrap_52 : decode b_MO_wrap 52 = .ok (.iadd, 1) := by decide +kernel
theorem d_MO_wrap_53 : decode b_MO_wrap 53 = .ok (.putfield 102, 3) := by decide +kernel
theorem d_MO_wrap_56 : decode b_MO_wrap 56 = .ok (.return_, 1) := by decide +kernel
theorem d_MO_post_0 : decode b_MO_post 0 = .ok (.aload_n 0, 1) := by decide +kernel
theorem d_MO_post_1 : decode b_MO_post 1 = .ok (.iconst 0, 1) := by decide +kernel
theorem d_MO_post_2 : decode b_MO_post 2 = .ok (.invokevirtual 111, 3) := by decide +kernel
theorem d_MO_post_5 : decode b_MO_post 5 = .ok (.aload_n 0, 1) := by decide +kernel
theorem d_MO_post_6 : decode b_MO_post 6 = .ok (.getfield 43, 3) := by decide +kernel
theorem d_MO_post_9 : decode b_MO_post 9 = .ok (.iload_n 1, 1) := by decide +kernel
theorem d_MO_post_10 : decode b_MO_post 10 = .ok (.iaload, 1) := by decide +kernel
theorem d_MO_post_11 : decode b_MO_post 11 = .ok (.iconst 4, 1) := by decide +kernel
theorem d_MO_post_12 : decode b_MO_post 12 = .ok (.if_icmp .ge 67, 3) := by decide +kernel
theorem d_MO_post_15 : decode b_MO_post 15 = .ok (.iconst 4, 1) := by decide +kernel
theorem d_MO_post_16 : decode b_MO_post 16 = .ok (.iload_n 1, 1) := by decide +kernel
theorem d_MO_post_17 : decode b_MO_post 17 = .ok (.imul, 1) := by decide +kernel
theorem d_MO_post_18 : decode b_MO_post 18 = .ok (.aload_n 0, 1) := by decide +kernel
theorem d_MO_post_19 : decode b_MO_post 19 = .ok (.getfield 43, 3) := by decide +kernel
theorem d_MO_post_22 : decode b_MO_post 22 = .ok (.iload_n 1, 1) := by decide +kernel
theorem d_MO_post_23 : decode b_MO_post 23 = .ok (.iaload, 1) := by decide +kernel
theorem d_MO_post_24 : decode b_MO_post 24 = .ok (.iadd, 1) := by decide +kernel
theorem d_MO_post_25 : decode b_MO_post 25 = .ok (.istore_n 2, 1) := by decide +kernel
theorem d_MO_post_26 : decode b_MO_post 26 = .ok (.iconst 0, 1) := by decide +kernel
theorem d_MO_post_27 : decode b_MO_post 27 = .ok (.istore_n 3, 1) := by decide +kernel
theorem d_MO_post_28 : decode b_MO_post 28 = .ok (.iload_n 3, 1) := by decide +kernel
theorem d_MO_post_29 : decode b_MO_post 29 = .ok (.aload_n 0, 1) := by decide +kernel
theorem d_MO_post_30 : decode b_MO_post 30 = .ok (.getfield 102, 3) := by decide +kernel
theorem d_MO_post_33 : decode b_MO_post 33 = .ok (.if_icmp .ge 26, 3) := by decide +kernel
theorem d_MO_post_36 : decode b_MO_post 36 = .ok (.aload_n 0, 1) := by decide +kernel
theorem d_MO_post_37 : decode b_MO_post 37 = .ok (.getfield 49, 3) := by decide +kernel
theorem d_MO_post_40 : decode b_MO_post 40 = .ok (.bipush 56, 2) := by decide +kernel
theorem d_MO_post_42 : decode b_MO_post 42 = .ok (.iload_n 2, 1) := by decide +kernel
theorem d_MO_post_43 : decode b_MO_post 43 = .ok (.imul, 1) := by decide +kernel
theorem d_MO_post_44 : decode b_MO_post 44 = .ok (.iload_n 3, 1) := by decide +kernel
theorem d_MO_post_45 : decode b_MO_post 45 = .ok (.iadd, 1) := by decide +kernel
theorem d_MO_post_46 : decode b_MO_post 46 = .ok (.aload_n 0, 1) := by decide +kernel
theorem d_MO_post_47 : decode b_MO_post 47 = .ok (.getfield 61, 3) := by decide +kernel
theorem d_MO_post_50 : decode b_MO_post 50 = .ok (.iload_n 3, 1) := by decide +kernel
theorem d_MO_post_51 : decode b_MO_post 51 = .ok (.iaload, 1) := by decide +kernel
theorem d_MO_post_52 : decode b_MO_post 52 = .ok (.iastore, 1) := by decide +kernel
theorem d_MO_post_53 : decode b_MO_post 53 = .ok (.iinc 3 1, 3) := by decide +kernel
theorem d_MO_post_56 : decode b_MO_post 56 = .ok (.goto (-28), 3) := by decide +kernel
theorem d_MO_post_59 : decode b_MO_post 59 = .ok (.aload_n 0, 1) := by decide +kernel
theorem d_MO_post_60 : decode b_MO_post 60 = .ok (.getfield 46, 3) := by decide +kernel
theorem d_MO_post_63 : decode b_MO_post 63 = .ok (.iload_n 2, 1) := by decide +kernel
theorem d_MO_post_64 : decode b_MO_post 64 = .ok (.aload_n 0, 1) := by decide +kernel
theorem d_MO_post_65 : decode b_MO_post 65 = .ok (.getfield 102, 3) := by decide +kernel
theorem d_MO_post_68 : decode b_MO_post 68 = .ok (.iastore, 1) := by decide +kernel
theorem d_MO_post_69 : decode b_MO_post 69 = .ok (.aload_n 0, 1) := by decide +kernel
theorem d_MO_post_70 : decode b_MO_post 70 = .ok (.getfield 43, 3) := by decide +kernel
theorem d_MO_post_73 : decode b_MO_post 73 = .ok (.iload_n 1, 1) := by decide +kernel
theorem d_MO_post_74 : decode b_MO_post 74 = .ok (.dup2, 1) := by decide +kernel
theorem d_MO_post_75 : decode b_MO_post 75 = .ok (.iaload, 1) := by decide +kernel
theorem d_MO_post_76 : decode b_MO_post 76 = .ok (.iconst 1, 1) := by decide +kernel
theorem d_MO_post_77 : decode b_MO_post 77 = .ok (.iadd, 1) := by decide +kernel
theorem d_MO_post_78 : decode b_MO_post 78 = .ok (.iastore, 1) := by decide +kernel
theorem d_MO_post_79 : decode b_MO_post 79 = .ok (.return_, 1) := by decide +kernel
theorem d_MO_isPeer_0 : decode b_MO_isPeer 0 = .ok (.iload_n 0, 1) := by decide +kernel
theorem d_MO_isPeer_1 : decode b_MO_isPeer 1 = .ok (.ifCond .lt 12, 3) := by decide +kernel
theorem d_MO_isPeer_4 : decode b_MO_isPeer 4 = .ok (.iload_n 0, 1) := by decide +kernel
theorem d_MO_isPeer_5 : decode b_MO_isPeer 5 = .ok (.iconst 4, 1) := by decide +kernel
theorem d_MO_isPeer_6 : decode b_MO_isPeer 6 = .ok (.if_icmp .ge 7, 3) := by decide +kernel
theorem d_MO_isPeer_9 : decode b_MO_isPeer 9 = .ok (.iconst 1, 1) := by decide +kernel
theorem d_MO_isPeer_10 : decode b_MO_isPeer 10 = .ok (.goto 4, 3) := by decide +kernel
theorem d_MO_isPeer_13 : decode b_MO_isPeer 13 = .ok (.iconst 0, 1) := by decide +kernel
theorem d_MO_isPeer_14 : decode b_MO_isPeer 14 = .ok (.ireturn, 1) := by decide +kernel
theorem d_MO_send_0 : decode b_MO_send 0 = .ok (.iload_n 1, 1) := by decide +kernel
theorem d_MO_send_1 : decode b_MO_send 1 = .ok (.invokestatic 114, 3) := by decide +kernel
theorem d_MO_send_4 : decode b_MO_send 4 = .ok (.ifCond .eq 12, 3) := by decide +kernel
theorem d_MO_send_7 : decode b_MO_send 7 = .ok (.aload_n 0, 1) := by decide +kernel
theorem d_MO_send_8 : decode b_MO_send 8 = .ok (.getfield 43, 3) := by decide +kernel
theorem d_MO_send_11 : decode b_MO_send 11 = .ok (.iload_n 1, 1) := by decide +kernel
theorem d_MO_send_12 : decode b_MO_send 12 = .ok (.iaload, 1) := by decide +kernel
theorem d_MO_send_13 : decode b_MO_send 13 = .ok (.ifCond .ne 5, 3) := by decide +kernel
theorem d_MO_send_16 : decode b_MO_send 16 = .ok (.iconst (-1), 1) := by decide +kernel
theorem d_MO_send_17 : decode b_MO_send 17 = .ok (.ireturn, 1) := by decide +kernel
theorem d_MO_send_18 : decode b_MO_send 18 = .ok (.aload_n 0, 1) := by decide +kernel
theorem d_MO_send_19 : decode b_MO_send 19 = .ok (.aload_n 0, 1) := by decide +kernel
theorem d_MO_send_20 : decode b_MO_send 20 = .ok (.getfield 46, 3) := by decide +kernel
theorem d_MO_send_23 : decode b_MO_send 23 = .ok (.iconst 4, 1) := by decide +kernel
theorem d_MO_send_24 : decode b_MO_send 24 = .ok (.iload_n 1, 1) := by decide +kernel
theorem d_MO_send_25 : decode b_MO_send 25 = .ok (.imul, 1) := by decide +kernel
theorem d_MO_send_26 : decode b_MO_send 26 = .ok (.iaload, 1) := by decide +kernel
theorem d_MO_send_27 : decode b_MO_send 27 = .ok (.putfield 117, 3) := by decide +kernel
theorem d_MO_send_30 : decode b_MO_send 30 = .ok (.iconst 0, 1) := by decide +kernel
theorem d_MO_send_31 : decode b_MO_send 31 = .ok (.istore_n 2, 1) := by decide +kernel
theorem d_MO_send_32 : decode b_MO_send 32 = .ok (.iload_n 2, 1) := by decide +kernel
theorem d_MO_send_33 : decode b_MO_send 33 = .ok (.aload_n 0, 1) := by decide +kernel
theorem d_MO_send_34 : decode b_MO_send 34 = .ok (.getfield 117, 3) := by decide +kernel
theorem d_MO_send_37 : decode b_MO_send 37 = .ok (.if_icmp .ge 27, 3) := by decide +kernel
theorem d_MO_send_40 : decode b_MO_send 40 = .ok (.aload_n 0, 1) := by decide +kernel
theorem d_MO_send_41 : decode b_MO_send 41 = .ok (.getfield 52, 3) := by decide +kernel
theorem d_MO_send_44 : decode b_MO_send 44 = .ok (.iload_n 2, 1) := by decide +kernel
theorem d_MO_send_45 : decode b_MO_send 45 = .ok (.aload_n 0, 1) := by decide +kernel
theorem d_MO_send_46 : decode b_MO_send 46 = .ok (.getfield 49, 3) := by decide +kernel
theorem d_MO_send_49 : decode b_MO_send 49 = .ok (.sipush 224, 3) := by decide +kernel
theorem d_MO_send_52 : decode b_MO_send 52 = .ok (.iload_n 1, 1) := by decide +kernel
theorem d_MO_send_53 : decode b_MO_send 53 = .ok (.imul, 1) := by decide +kernel
theorem d_MO_send_54 : decode b_MO_send 54 = .ok (.iload_n 2, 1) := by decide +kernel
theorem d_MO_send_55 : decode b_MO_send 55 = .ok (.iadd, 1) := by decide +kernel
theorem d_MO_send_56 : decode b_MO_send 56 = .ok (.iaload, 1) := by decide +kernel
theorem d_MO_send_57 : decode b_MO_send 57 = .ok (.iastore, 1) := by decide +kernel
theorem d_MO_send_58 : decode b_MO_send 58 = .ok (.iinc 2 1, 3) := by decide +kernel
theorem d_MO_send_61 : decode b_MO_send 61 = .ok (.goto (-29), 3) := by decide +kernel
theorem d_MO_send_64 : decode b_MO_send 64 = .ok (.aload_n 0, 1) := by decide +kernel
theorem d_MO_send_65 : decode b_MO_send 65 = .ok (.getfield 43, 3) := by decide +kernel
theorem d_MO_send_68 : decode b_MO_send 68 = .ok (.iload_n 1, 1) := by decide +kernel
theorem d_MO_send_69 : decode b_MO_send 69 = .ok (.dup2, 1) := by decide +kernel
theorem d_MO_send_70 : decode b_MO_send 70 = .ok (.iaload, 1) := by decide +kernel
theorem d_MO_send_71 : decode b_MO_send 71 = .ok (.iconst 1, 1) := by decide +kernel
theorem d_MO_send_72 : decode b_MO_send 72 = .ok (.isub, 1) := by decide +kernel
theorem d_MO_send_73 : decode b_MO_send 73 = .ok (.iastore, 1) := by decide +kernel
theorem d_MO_send_74 : decode b_MO_send 74 = .ok (.iconst 4, 1) := by decide +kernel
theorem d_MO_send_75 : decode b_MO_send 75 = .ok (.iload_n 1, 1) := by decide +kernel
theorem d_MO_send_76 : decode b_MO_send 76 = .ok (.imul, 1) := by decide +kernel
theorem d_MO_send_77 : decode b_MO_send 77 = .ok (.istore_n 2, 1) := by decide +kernel
theorem d_MO_send_78 : decode b_MO_send 78 = .ok (.iload_n 2, 1) := by decide +kernel
theorem d_MO_send_79 : decode b_MO_send 79 = .ok (.iconst 4, 1) := by decide +kernel
theorem d_MO_send_80 : decode b_MO_send 80 = .ok (.iload_n 1, 1) := by decide +kernel
theorem d_MO_send_81 : decode b_MO_send 81 = .ok (.imul, 1) := by decide +kernel
theorem d_MO_send_82 : decode b_MO_send 82 = .ok (.aload_n 0, 1) := by decide +kernel
theorem d_MO_send_83 : decode b_MO_send 83 = .ok (.getfield 43, 3) := by decide +kernel
theorem d_MO_send_86 : decode b_MO_send 86 = .ok (.iload_n 1, 1) := by decide +kernel
theorem d_MO_send_87 : decode b_MO_send 87 = .ok (.iaload, 1) := by decide +kernel
theorem d_MO_send_88 : decode b_MO_send 88 = .ok (.iadd, 1) := by decide +kernel
theorem d_MO_send_89 : decode b_MO_send 89 = .ok (.if_icmp .ge 62, 3) := by decide +kernel
theorem d_MO_send_92 : decode b_MO_send 92 = .ok (.aload_n 0, 1) := by decide +kernel
theorem d_MO_send_93 : decode b_MO_send 93 = .ok (.getfield 46, 3) := by decide +kernel
theorem d_MO_send_96 : decode b_MO_send 96 = .ok (.iload_n 2, 1) := by decide +kernel
theorem d_MO_send_97 : decode b_MO_send 97 = .ok (.aload_n 0, 1) := by decide +kernel
theorem d_MO_send_98 : decode b_MO_send 98 = .ok (.getfield 46, 3) := by decide +kernel
theorem d_MO_send_101 : decode b_MO_send 101 = .ok (.iload_n 2, 1) := by decide +kernel
theorem d_MO_send_102 : decode b_MO_send 102 = .ok (.iconst 1, 1) := by decide +kernel
theorem d_MO_send_103 : decode b_MO_send 103 = .ok (.iadd, 1) := by decide +kernel
theorem d_MO_send_104 : decode b_MO_send 104 = .ok (.iaload, 1) := by decide +kernel
theorem d_MO_send_105 : decode b_MO_send 105 = .ok (.iastore, 1) := by decide +kernel
theorem d_MO_send_106 : decode b_MO_send 106 = .ok (.iconst 0, 1) := by decide +kernel
theorem d_MO_send_107 : decode b_MO_send 107 = .ok (.istore_n 3, 1) := by decide +kernel
theorem d_MO_send_108 : decode b_MO_send 108 = .ok (.iload_n 3, 1) := by decide +kernel
theorem d_MO_send_109 : decode b_MO_send 109 = .ok (.bipush 56, 2) := by decide +kernel
theorem d_MO_send_111 : decode b_MO_send 111 = .ok (.if_icmp .ge 34, 3) := by decide +kernel
theorem d_MO_send_114 : decode b_MO_send 114 = .ok (.aload_n 0, 1) := by decide +kernel
theorem d_MO_send_115 : decode b_MO_send 115 = .ok (.getfield 49, 3) := by decide +kernel
theorem d_MO_send_118 : decode b_MO_send 118 = .ok (.bipush 56, 2) := by decide +kernel
theorem d_MO_send_120 : decode b_MO_send 120 = .ok (.iload_n 2, 1) := by decide +kernel
theorem d_MO_send_121 : decode b_MO_send 121 = .ok (.imul, 1) := by decide +kernel
theorem d_MO_send_122 : decode b_MO_send 122 = .ok (.iload_n 3, 1) := by decide +kernel
theorem d_MO_send_123 : decode b_MO_send 123 = .ok (.iadd, 1) := by decide +kernel
theorem d_MO_send_124 : decode b_MO_send 124 = .ok (.aload_n 0, 1) := by decide +kernel
theorem d_MO_send_125 : decode b_MO_send 125 = .ok (.getfield 49, 3) := by decide +kernel
theorem d_MO_send_128 : decode b_MO_send 128 = .ok (.bipush 56, 2) := by decide +kernel
theorem d_MO_send_130 : decode b_MO_send 130 = .ok (.iload_n 2, 1) := by decide +kernel
theorem d_MO_send_131 : decode b_MO_send 131 = .ok (.imul, 1) := by decide +kernel
theorem d_MO_send_132 : decode b_MO_send 132 = .ok (.bipush 56, 2) := by decide +kernel
theorem d_MO_send_134 : decode b_MO_send 134 = .ok (.iadd, 1) := by decide +kernel
theorem d_MO_send_135 : decode b_MO_send 135 = .ok (.iload_n 3, 1) := by decide +kernel
theorem d_MO_send_136 : decode b_MO_send 136 = .ok (.iadd, 1) := by decide +kernel
theorem d_MO_send_137 : decode b_MO_send 137 = .ok (.iaload, 1) := by decide +kernel
theorem d_MO_send_138 : decode b_MO_send 138 = .ok (.iastore, 1) := by decide +kernel
theorem d_MO_send_139 : decode b_MO_send 139 = .ok (.iinc 3 1, 3) := by decide +kernel
theorem d_MO_send_142 : decode b_MO_send 142 = .ok (.goto (-34), 3) := by decide +kernel
theorem d_MO_send_145 : decode b_MO_send 145 = .ok (.iinc 2 1, 3) := by decide +kernel
theorem d_MO_send_148 : decode b_MO_send 148 = .ok (.goto (-70), 3) := by decide +kernel
theorem d_MO_send_151 : decode b_MO_send 151 = .ok (.aload_n 0, 1) := by decide +kernel
theorem d_MO_send_152 : decode b_MO_send 152 = .ok (.getfield 117, 3) := by decide +kernel
theorem d_MO_send_155 : decode b_MO_send 155 = .ok (.ireturn, 1) := by decide +kernel
theorem d_MO_put_0 : decode b_MO_put 0 = .ok (.iload_n 1, 1) := by decide +kernel
theorem d_MO_put_1 : decode b_MO_put 1 = .ok (.iconst 1, 1) := by decide +kernel
theorem d_MO_put_2 : decode b_MO_put 2 = .ok (.if_icmp .lt 20, 3) := by decide +kernel
theorem d_MO_put_5 : decode b_MO_put 5 = .ok (.iload_n 1, 1) := by decide +kernel
theorem d_MO_put_6 : decode b_MO_put 6 = .ok (.bipush 8, 2) := by decide +kernel
theorem d_MO_put_8 : decode b_MO_put 8 = .ok (.if_icmp .gt 14, 3) := by decide +kernel
theorem d_MO_put_11 : decode b_MO_put 11 = .ok (.aload_n 0, 1) := by decide +kernel
theorem d_MO_put_12 : decode b_MO_put 12 = .ok (.getfield 117, 3) := by decide +kernel
theorem d_MO_put_15 : decode b_MO_put 15 = .ok (.iload_n 1, 1) := by decide +kernel
theorem d_MO_put_16 : decode b_MO_put 16 = .ok (.iadd, 1) := by decide +kernel
theorem d_MO_put_17 : decode b_MO_put 17 = .ok (.bipush 56, 2) := by decide +kernel
theorem d_MO_put_19 : decode b_MO_put 19 = .ok (.if_icmp .le 5, 3) := by decide +kernel
theorem d_MO_put_22 : decode b_MO_put 22 = .ok (.iconst 0, 1) := by decide +kernel
theorem d_MO_put_23 : decode b_MO_put 23 = .ok (.ireturn, 1) := by decide +kernel
theorem d_MO_put_24 : decode b_MO_put 24 = .ok (.iload_n 1, 1) := by decide +kernel
theorem d_MO_put_25 : decode b_MO_put 25 = .ok (.iconst 1, 1) := by decide +kernel
theorem d_MO_put_26 : decode b_MO_put 26 = .ok (.isub, 1) := by decide +kernel
theorem d_MO_put_27 : decode b_MO_put 27 = .ok (.istore 4, 2) := by decide +kernel
theorem d_MO_put_29 : decode b_MO_put 29 = .ok (.iload 4, 2) := by decide +kernel
theorem d_MO_put_31 : decode b_MO_put 31 = .ok (.ifCond .lt 40, 3) := by decide +kernel
theorem d_MO_put_34 : decode b_MO_put 34 = .ok (.aload_n 0, 1) := by decide +kernel
theorem d_MO_put_35 : decode b_MO_put 35 = .ok (.getfield 52, 3) := by decide +kernel
theorem d_MO_put_38 : decode b_MO_put 38 = .ok (.aload_n 0, 1) := by decide +kernel
theorem d_MO_put_39 : decode b_MO_put 39 = .ok (.getfield 117, 3) := by decide +kernel
theorem d_MO_put_42 : decode b_MO_put 42 = .ok (.lload_n 2, 1) := by decide +kernel
theorem d_MO_put_43 : decode b_MO_put 43 = .ok (.bipush 8, 2) := by decide +kernel
theorem d_MO_put_45 : decode b_MO_put 45 = .ok (.iload 4, 2) := by decide +kernel
theorem d_MO_put_47 : decode b_MO_put 47 = .ok (.imul, 1) := by decide +kernel
theorem d_MO_put_48 : decode b_MO_put 48 = .ok (.lshr, 1) := by decide +kernel
theorem d_MO_put_49 : decode b_MO_put 49 = .ok (.l2i, 1) := by decide +kernel
theorem d_MO_put_50 : decode b_MO_put 50 = .ok (.sipush 255, 3) := by decide +kernel
theorem d_MO_put_53 : decode b_MO_put 53 = .ok (.iand, 1) := by decide +kernel
theorem d_MO_put_54 : decode b_MO_put 54 = .ok (.iastore, 1) := by decide +kernel
theorem d_MO_put_55 : decode b_MO_put 55 = .ok (.aload_n 0, 1) := by decide +kernel
theorem d_MO_put_56 : decode b_MO_put 56 = .ok (.dup, 1) := by decide +kernel
theorem d_MO_put_57 : decode b_MO_put 57 = .ok (.getfield 117, 3) := by decide +kernel
theorem d_MO_put_60 : decode b_MO_put 60 = .ok (.iconst 1, 1) := by decide +kernel
theorem d_MO_put_61 : decode b_MO_put 61 = .ok (.iadd, 1) := by decide +kernel
theorem d_MO_put_62 : decode b_MO_put 62 = .ok (.putfield 117, 3) := by decide +kernel
theorem d_MO_put_65 : decode b_MO_put 65 = .ok (.iinc 4 (-1), 3) := by decide +kernel
theorem d_MO_put_68 : decode b_MO_put 68 = .ok (.goto (-39), 3) := by decide +kernel
theorem d_MO_put_71 : decode b_MO_put 71 = .ok (.iconst 1, 1) := by decide +kernel
theorem d_MO_put_72 : decode b_MO_put 72 = .ok (.ireturn, 1) := by decide +kernel
theorem d_MO_clear_0 : decode b_MO_clear 0 = .ok (.aload_n 0, 1) := by decide +kernel
theorem d_MO_clear_1 : decode b_MO_clear 1 = .ok (.iconst 0, 1) := by decide +kernel
theorem d_MO_clear_2 : decode b_MO_clear 2 = .ok (.putfield 117, 3) := by decide +kernel
theorem d_MO_clear_5 : decode b_MO_clear 5 = .ok (.return_, 1) := by decide +kernel
theorem d_MO_wire_0 : decode b_MO_wire 0 = .ok (.iload_n 1, 1) := by decide +kernel
theorem d_MO_wire_1 : decode b_MO_wire 1 = .ok (.iconst (-1), 1) := by decide +kernel
theorem d_MO_wire_2 : decode b_MO_wire 2 = .ok (.if_icmp .ne 10, 3) := by decide +kernel
theorem d_MO_wire_5 : decode b_MO_wire 5 = .ok (.aload_n 0, 1) := by decide +kernel
theorem d_MO_wire_6 : decode b_MO_wire 6 = .ok (.getfield 117, 3) := by decide +kernel
theorem d_MO_wire_9 : decode b_MO_wire 9 = .ok (.goto 25, 3) := by decide +kernel
theorem d_MO_wire_12 : decode b_MO_wire 12 = .ok (.iload_n 1, 1) := by decide +kernel
theorem d_MO_wire_13 : decode b_MO_wire 13 = .ok (.ifCond .lt 11, 3) := by decide +kernel
theorem d_MO_wire_16 : decode b_MO_wire 16 = .ok (.iload_n 1, 1) := by decide +kernel
theorem d_MO_wire_17 : decode b_MO_wire 17 = .ok (.aload_n 0, 1) := by decide +kernel
theorem d_MO_wire_18 : decode b_MO_wire 18 = .ok (.getfield 117, 3) := by decide +kernel
theorem d_MO_wire_21 : decode b_MO_wire 21 = .ok (.if_icmp .lt 7, 3) := by decide +kernel
theorem d_MO_wire_24 : decode b_MO_wire 24 = .ok (.iconst (-1), 1) := by decide +kernel
theorem d_MO_wire_25 : decode b_MO_wire 25 = .ok (.goto 9, 3) := by decide +kernel
theorem d_MO_wire_28 : decode b_MO_wire 28 = .ok (.aload_n 0, 1) := by decide +kernel
theorem d_MO_wire_29 : decode b_MO_wire 29 = .ok (.getfield 52, 3) := by decide +kernel
theorem d_MO_wire_32 : decode b_MO_wire 32 = .ok (.iload_n 1, 1) := by decide +kernel
theorem d_MO_wire_33 : decode b_MO_wire 33 = .ok (.iaload, 1) := by decide +kernel
theorem d_MO_wire_34 : decode b_MO_wire 34 = .ok (.ireturn, 1) := by decide +kernel
theorem d_MO_number_0 : decode b_MO_number 0 = .ok (.aload_n 0, 1) := by decide +kernel
theorem d_MO_number_1 : decode b_MO_number 1 = .ok (.getfield 120, 3) := by decide +kernel
theorem d_MO_number_4 : decode b_MO_number 4 = .ok (.iload_n 1, 1) := by decide +kernel
theorem d_MO_number_5 : decode b_MO_number 5 = .ok (.if_icmp .lt 5, 3) := by decide +kernel
theorem d_MO_number_8 : decode b_MO_number 8 = .ok (.iconst 0, 1) := by decide +kernel
theorem d_MO_number_9 : decode b_MO_number 9 = .ok (.ireturn, 1) := by decide +kernel
theorem d_MO_number_10 : decode b_MO_number 10 = .ok (.aload_n 0, 1) := by decide +kernel
theorem d_MO_number_11 : decode b_MO_number 11 = .ok (.getfield 52, 3) := by decide +kernel
theorem d_MO_number_14 : decode b_MO_number 14 = .ok (.aload_n 0, 1) := by decide +kernel
theorem d_MO_number_15 : decode b_MO_number 15 = .ok (.getfield 120, 3) := by decide +kernel
theorem d_MO_number_18 : decode b_MO_number 18 = .ok (.iaload, 1) := by decide +kernel
theorem d_MO_number_19 : decode b_MO_number 19 = .ok (.istore_n 2, 1) := by decide +kernel
theorem d_MO_number_20 : decode b_MO_number 20 = .ok (.aload_n 0, 1) := by decide +kernel
theorem d_MO_number_21 : decode b_MO_number 21 = .ok (.dup, 1) := by decide +kernel
theorem d_MO_number_22 : decode b_MO_number 22 = .ok (.getfield 120, 3) := by decide +kernel
theorem d_MO_number_25 : decode b_MO_number 25 = .ok (.iconst 1, 1) := by decide +kernel
theorem d_MO_number_26 : decode b_MO_number 26 = .ok (.iadd, 1) := by decide +kernel
theorem d_MO_number_27 : decode b_MO_number 27 = .ok (.putfield 120, 3) := by decide +kernel
theorem d_MO_number_30 : decode b_MO_number 30 = .ok (.iload_n 2, 1) := by decide +kernel
theorem d_MO_number_31 : decode b_MO_number 31 = .ok (.ifCond .le 17, 3) := by decide +kernel
theorem d_MO_number_34 : decode b_MO_number 34 = .ok (.iload_n 2, 1) := by decide +kernel
theorem d_MO_number_35 : decode b_MO_number 35 = .ok (.sipush 128, 3) := by decide +kernel
theorem d_MO_number_38 : decode b_MO_number 38 = .ok (.if_icmp .ge 10, 3) := by decide +kernel
theorem d_MO_number_41 : decode b_MO_number 41 = .ok (.aload_n 0, 1) := by decide +kernel
theorem d_MO_number_42 : decode b_MO_number 42 = .ok (.iload_n 2, 1) := by decide +kernel
theorem d_MO_number_43 : decode b_MO_number 43 = .ok (.putfield 123, 3) := by decide +kernel
theorem d_MO_number_46 : decode b_MO_number 46 = .ok (.iconst 1, 1) := by decide +kernel
theorem d_MO_number_47 : decode b_MO_number 47 = .ok (.ireturn, 1) := by decide +kernel
theorem d_MO_number_48 : decode b_MO_number 48 = .ok (.iload_n 2, 1) := by decide +kernel
theorem d_MO_number_49 : decode b_MO_number 49 = .ok (.sipush 128, 3) := by decide +kernel
theorem d_MO_number_52 : decode b_MO_number 52 = .ok (.isub, 1) := by decide +kernel
theorem d_MO_number_53 : decode b_MO_number 53 = .ok (.istore_n 3, 1) := by decide +kernel
theorem d_MO_number_54 : decode b_MO_number 54 = .ok (.iload_n 3, 1) := by decide +kernel
theorem d_MO_number_55 : decode b_MO_number 55 = .ok (.ifCond .lt 18, 3) := by decide +kernel
theorem d_MO_number_58 : decode b_MO_number 58 = .ok (.iload_n 3, 1) := by decide +kernel
theorem d_MO_number_59 : decode b_MO_number 59 = .ok (.iconst 4, 1) := by decide +kernel
theorem d_MO_number_60 : decode b_MO_number 60 = .ok (.if_icmp .gt 13, 3) := by decide +kernel
theorem d_MO_number_63 : decode b_MO_number 63 = .ok (.aload_n 0, 1) := by decide +kernel
theorem d_MO_number_64 : decode b_MO_number 64 = .ok (.getfield 120, 3) := by decide +kernel
theorem d_MO_number_67 : decode b_MO_number 67 = .ok (.iload_n 3, 1) := by decide +kernel
theorem d_MO_number_68 : decode b_MO_number 68 = .ok (.iadd, 1) := by decide +kernel
theorem d_MO_number_69 : decode b_MO_number 69 = .ok (.iload_n 1, 1) := by decide +kernel
theorem d_MO_number_70 : decode b_MO_number 70 = .ok (.if_icmp .le 5, 3) := by decide +kernel
theorem d_MO_number_73 : decode b_MO_number 73 = .ok (.iconst 0, 1) := by decide +kernel
theorem d_MO_number_74 : decode b_MO_number 74 = .ok (.ireturn, 1) := by decide +kernel
theorem d_MO_number_75 : decode b_MO_number 75 = .ok (.lconst 0, 1) := by decide +kernel
theorem d_MO_number_76 : decode b_MO_number 76 = .ok (.lstore 4, 2) := by decide +kernel
theorem d_MO_number_78 : decode b_MO_number 78 = .ok (.iconst 0, 1) := by decide +kernel
theorem d_MO_number_79 : decode b_MO_number 79 = .ok (.istore 6, 2) := by decide +kernel
theorem d_MO_number_81 : decode b_MO_number 81 = .ok (.iload 6, 2) := by decide +kernel
theorem d_MO_number_83 : decode b_MO_number 83 = .ok (.iload_n 3, 1) := by decide +kernel
theorem d_MO_number_84 : decode b_MO_number 84 = .ok (.if_icmp .ge 31, 3) := by decide +kernel
theorem d_MO_number_87 : decode b_MO_number 87 = .ok (.lload 4, 2) := by decide +kernel
theorem d_MO_number_89 : decode b_MO_number 89 = .ok (.ldc2_w 126, 3) := by decide +kernel
theorem d_MO_number_92 : decode b_MO_number 92 = .ok (.lmul, 1) := by decide +kernel
theorem d_MO_number_93 : decode b_MO_number 93 = .ok (.aload_n 0, 1) := by decide +kernel
theorem d_MO_number_94 : decode b_MO_number 94 = .ok (.getfield 52, 3) := by decide +kernel
theorem d_MO_number_97 : decode b_MO_number 97 = .ok (.aload_n 0, 1) := by decide +kernel
theorem d_MO_number_98 : decode b_MO_number 98 = .ok (.getfield 120, 3) := by decide +kernel
theorem d_MO_number_101 : decode b_MO_number 101 = .ok (.iload 6, 2) := by decide +kernel
theorem d_MO_number_103 : decode b_MO_number 103 = .ok (.iadd, 1) := by decide +kernel
theorem d_MO_number_104 : decode b_MO_number 104 = .ok (.iaload, 1) := by decide +kernel
theorem d_MO_number_105 : decode b_MO_number 105 = .ok (.i2l, 1) := by decide +kernel
theorem d_MO_number_106 : decode b_MO_number 106 = .ok (.ladd, 1) := by decide +kernel
theorem d_MO_number_107 : decode b_MO_number 107 = .ok (.lstore 4, 2) := by decide +kernel
theorem d_MO_number_109 : decode b_MO_number 109 = .ok (.iinc 6 1, 3) := by decide +kernel
theorem d_MO_number_112 : decode b_MO_number 112 = .ok (.goto (-31), 3) := by decide +kernel
theorem d_MO_number_115 : decode b_MO_number 115 = .ok (.iload_n 3, 1) := by decide +kernel
theorem d_MO_number_116 : decode b_MO_number 116 = .ok (.iconst 1, 1) := by decide +kernel
theorem d_MO_number_117 : decode b_MO_number 117 = .ok (.if_icmp .ne 12, 3) := by decide +kernel
theorem d_MO_number_120 : decode b_MO_number 120 = .ok (.lload 4, 2) := by decide +kernel
theorem d_MO_number_122 : decode b_MO_number 122 = .ok (.ldc2_w 128, 3) := by decide +kernel
theorem d_MO_number_125 : decode b_MO_number 125 = .ok (.lcmp, 1) := by decide +kernel
theorem d_MO_number_126 : decode b_MO_number 126 = .ok (.ifCond .lt 20, 3) := by decide +kernel
theorem d_MO_number_129 : decode b_MO_number 129 = .ok (.iload_n 3, 1) := by decide +kernel
theorem d_MO_number_130 : decode b_MO_number 130 = .ok (.iconst 1, 1) := by decide +kernel
theorem d_MO_number_131 : decode b_MO_number 131 = .ok (.if_icmp .le 19, 3) := by decide +kernel
theorem d_MO_number_134 : decode b_MO_number 134 = .ok (.aload_n 0, 1) := by decide +kernel
theorem d_MO_number_135 : decode b_MO_number 135 = .ok (.getfield 52, 3) := by decide +kernel
theorem d_MO_number_138 : decode b_MO_number 138 = .ok (.aload_n 0, 1) := by decide +kernel
theorem d_MO_number_139 : decode b_MO_number 139 = .ok (.getfield 120, 3) := by decide +kernel
theorem d_MO_number_142 : decode b_MO_number 142 = .ok (.iaload, 1) := by decide +kernel
theorem d_MO_number_143 : decode b_MO_number 143 = .ok (.ifCond .ne 7, 3) := by decide +kernel
theorem d_MO_number_146 : decode b_MO_number 146 = .ok (.iconst 1, 1) := by decide +kernel
theorem d_MO_number_147 : decode b_MO_number 147 = .ok (.goto 4, 3) := by decide +kernel
theorem d_MO_number_150 : decode b_MO_number 150 = .ok (.iconst 0, 1) := by decide +kernel
theorem d_MO_number_151 : decode b_MO_number 151 = .ok (.istore 6, 2) := by decide +kernel
theorem d_MO_number_153 : decode b_MO_number 153 = .ok (.aload_n 0, 1) := by decide +kernel
theorem d_MO_number_154 : decode b_MO_number 154 = .ok (.dup, 1) := by decide +kernel
theorem d_MO_number_155 : decode b_MO_number 155 = .ok (.getfield 120, 3) := by decide +kernel
theorem d_MO_number_158 : decode b_MO_number 158 = .ok (.iload_n 3, 1) := by decide +kernel
theorem d_MO_number_159 : decode b_MO_number 159 = .ok (.iadd, 1) := by decide +kernel
theorem d_MO_number_160 : decode b_MO_number 160 = .ok (.putfield 120, 3) := by decide +kernel
theorem d_MO_number_163 : decode b_MO_number 163 = .ok (.aload_n 0, 1) := by decide +kernel
theorem d_MO_number_164 : decode b_MO_number 164 = .ok (.lload 4, 2) := by decide +kernel
theorem d_MO_number_166 : decode b_MO_number 166 = .ok (.l2i, 1) := by decide +kernel
theorem d_MO_number_167 : decode b_MO_number 167 = .ok (.putfield 123, 3) := by decide +kernel
theorem d_MO_number_170 : decode b_MO_number 170 = .ok (.iload 6, 2) := by decide +kernel
theorem d_MO_number_172 : decode b_MO_number 172 = .ok (.ifCond .ne 16, 3) := by decide +kernel
theorem d_MO_number_175 : decode b_MO_number 175 = .ok (.lload 4, 2) := by decide +kernel
theorem d_MO_number_177 : decode b_MO_number 177 = .ok (.ldc2_w 130, 3) := by decide +kernel
theorem d_MO_number_180 : decode b_MO_number 180 = .ok (.lcmp, 1) := by decide +kernel
theorem d_MO_number_181 : decode b_MO_number 181 = .ok (.ifCond .gt 7, 3) := by decide +kernel
theorem d_MO_number_184 : decode b_MO_number 184 = .ok (.iconst 1, 1) := by decide +kernel
theorem d_MO_number_185 : decode b_MO_number 185 = .ok (.goto 4, 3) := by decide +kernel
theorem d_MO_number_188 : decode b_MO_number 188 = .ok (.iconst 0, 1) := by decide +kernel
theorem d_MO_number_189 : decode b_MO_number 189 = .ok (.ireturn, 1) := by decide +kernel
theorem d_MO_opening_0 : decode b_MO_opening 0 = .ok (.aload_n 0, 1) := by decide +kernel
theorem d_MO_opening_1 : decode b_MO_opening 1 = .ok (.getfield 120, 3) := by decide +kernel
theorem d_MO_opening_4 : decode b_MO_opening 4 = .ok (.iload_n 1, 1) := by decide +kernel
theorem d_MO_opening_5 : decode b_MO_opening 5 = .ok (.if_icmp .ge 18, 3) := by decide +kernel
theorem d_MO_opening_8 : decode b_MO_opening 8 = .ok (.aload_n 0, 1) := by decide +kernel
theorem d_MO_opening_9 : decode b_MO_opening 9 = .ok (.getfield 52, 3) := by decide +kernel
theorem d_MO_opening_12 : decode b_MO_opening 12 = .ok (.aload_n 0, 1) := by decide +kernel
theorem d_MO_opening_13 : decode b_MO_opening 13 = .ok (.getfield 120, 3) := by decide +kernel
theorem d_MO_opening_16 : decode b_MO_opening 16 = .ok (.iaload, 1) := by decide +kernel
theorem d_MO_opening_17 : decode b_MO_opening 17 = .ok (.sipush 192, 3) := by decide +kernel
theorem d_MO_opening_20 : decode b_MO_opening 20 = .ok (.if_icmp .ge 5, 3) := by decide +kernel
theorem d_MO_opening_23 : decode b_MO_opening 23 = .ok (.iconst (-1), 1) := by decide +kernel
theorem d_MO_opening_24 : decode b_MO_opening 24 = .ok (.ireturn, 1) := by decide +kernel
theorem d_MO_opening_25 : decode b_MO_opening 25 = .ok (.aload_n 0, 1) := by decide +kernel
theorem d_MO_opening_26 : decode b_MO_opening 26 = .ok (.getfield 52, 3) := by decide +kernel
theorem d_MO_opening_29 : decode b_MO_opening 29 = .ok (.aload_n 0, 1) := by decide +kernel
theorem d_MO_opening_30 : decode b_MO_opening 30 = .ok (.getfield 120, 3) := by decide +kernel
theorem d_MO_opening_33 : decode b_MO_opening 33 = .ok (.iaload, 1) := by decide +kernel
theorem d_MO_opening_34 : decode b_MO_opening 34 = .ok (.sipush 192, 3) := by decide +kernel
theorem d_MO_opening_37 : decode b_MO_opening 37 = .ok (.isub, 1) := by decide +kernel
theorem d_MO_opening_38 : decode b_MO_opening 38 = .ok (.istore_n 2, 1) := by decide +kernel
theorem d_MO_opening_39 : decode b_MO_opening 39 = .ok (.aload_n 0, 1) := by decide +kernel
theorem d_MO_opening_40 : decode b_MO_opening 40 = .ok (.dup, 1) := by decide +kernel
theorem d_MO_opening_41 : decode b_MO_opening 41 = .ok (.getfield 120, 3) := by decide +kernel
theorem d_MO_opening_44 : decode b_MO_opening 44 = .ok (.iconst 1, 1) := by decide +kernel
theorem d_MO_opening_45 : decode b_MO_opening 45 = .ok (.iadd, 1) := by decide +kernel
theorem d_MO_opening_46 : decode b_MO_opening 46 = .ok (.putfield 120, 3) := by decide +kernel
theorem d_MO_opening_49 : decode b_MO_opening 49 = .ok (.iload_n 2, 1) := by decide +kernel
theorem d_MO_opening_50 : decode b_MO_opening 50 = .ok (.bipush 55, 2) := by decide +kernel
theorem d_MO_opening_52 : decode b_MO_opening 52 = .ok (.if_icmp .gt 22, 3) := by decide +kernel
theorem d_MO_opening_55 : decode b_MO_opening 55 = .ok (.aload_n 0, 1) := by decide +kernel
theorem d_MO_opening_56 : decode b_MO_opening 56 = .ok (.getfield 120, 3) := by decide +kernel
theorem d_MO_opening_59 : decode b_MO_opening 59 = .ok (.iload_n 2, 1) := by decide +kernel
theorem d_MO_opening_60 : decode b_MO_opening 60 = .ok (.iadd, 1) := by decide +kernel
theorem d_MO_opening_61 : decode b_MO_opening 61 = .ok (.iload_n 1, 1) := by decide +kernel
theorem d_MO_opening_62 : decode b_MO_opening 62 = .ok (.if_icmp .gt 12, 3) := by decide +kernel
theorem d_MO_opening_65 : decode b_MO_opening 65 = .ok (.aload_n 0, 1) := by decide +kernel
theorem d_MO_opening_66 : decode b_MO_opening 66 = .ok (.getfield 120, 3) := by decide +kernel
theorem d_MO_opening_69 : decode b_MO_opening 69 = .ok (.iload_n 2, 1) := by decide +kernel
theorem d_MO_opening_70 : decode b_MO_opening 70 = .ok (.iadd, 1) := by decide +kernel
theorem d_MO_opening_71 : decode b_MO_opening 71 = .ok (.goto 4, 3) := by decide +kernel
theorem d_MO_opening_74 : decode b_MO_opening 74 = .ok (.iconst (-1), 1) := by decide +kernel
theorem d_MO_opening_75 : decode b_MO_opening 75 = .ok (.ireturn, 1) := by decide +kernel
theorem d_MO_items_0 : decode b_MO_items 0 = .ok (.aload_n 0, 1) := by decide +kernel
theorem d_MO_items_1 : decode b_MO_items 1 = .ok (.iconst 0, 1) := by decide +kernel
theorem d_MO_items_2 : decode b_MO_items 2 = .ok (.putfield 132, 3) := by decide +kernel
theorem d_MO_items_5 : decode b_MO_items 5 = .ok (.aload_n 0, 1) := by decide +kernel
theorem d_MO_items_6 : decode b_MO_items 6 = .ok (.aload_n 0, 1) := by decide +kernel
theorem d_MO_items_7 : decode b_MO_items 7 = .ok (.getfield 117, 3) := by decide +kernel
theorem d_MO_items_10 : decode b_MO_items 10 = .ok (.invokevirtual 135, 3) := by decide +kernel
theorem d_MO_items_13 : decode b_MO_items 13 = .ok (.istore_n 2, 1) := by decide +kernel
theorem d_MO_items_14 : decode b_MO_items 14 = .ok (.iload_n 2, 1) := by decide +kernel
theorem d_MO_items_15 : decode b_MO_items 15 = .ok (.aload_n 0, 1) := by decide +kernel
theorem d_MO_items_16 : decode b_MO_items 16 = .ok (.getfield 117, 3) := by decide +kernel
theorem d_MO_items_19 : decode b_MO_items 19 = .ok (.if_icmp .eq 5, 3) := by decide +kernel
theorem d_MO_items_22 : decode b_MO_items 22 = .ok (.iconst 0, 1) := by decide +kernel
theorem d_MO_items_23 : decode b_MO_items 23 = .ok (.ireturn, 1) := by decide +kernel
theorem d_MO_items_24 : decode b_MO_items 24 = .ok (.iload_n 2, 1) := by decide +kernel
theorem d_MO_items_25 : decode b_MO_items 25 = .ok (.istore_n 3, 1) := by decide +kernel
theorem d_MO_items_26 : decode b_MO_items 26 = .ok (.aload_n 0, 1) := by decide +kernel
theorem d_MO_items_27 : decode b_MO_items 27 = .ok (.getfield 120, 3) := by decide +kernel
theorem d_MO_items_30 : decode b_MO_items 30 = .ok (.iload_n 2, 1) := by decide +kernel
theorem d_MO_items_31 : decode b_MO_items 31 = .ok (.if_icmp .ge 95, 3) := by decide +kernel
theorem d_MO_items_34 : decode b_MO_items 34 = .ok (.iload_n 1, 1) := by decide +kernel
theorem d_MO_items_35 : decode b_MO_items 35 = .ok (.ifCond .eq 18, 3) := by decide +kernel
theorem d_MO_items_38 : decode b_MO_items 38 = .ok (.aload_n 0, 1) := by decide +kernel
theorem d_MO_items_39 : decode b_MO_items 39 = .ok (.getfield 132, 3) := by decide +kernel
theorem d_MO_items_42 : decode b_MO_items 42 = .ok (.iconst 5, 1) := by decide +kernel
theorem d_MO_items_43 : decode b_MO_items 43 = .ok (.irem, 1) := by decide +kernel
theorem d_MO_items_44 : decode b_MO_items 44 = .ok (.ifCond .ne 9, 3) := by decide +kernel
theorem d_MO_items_47 : decode b_MO_items 47 = .ok (.aload_n 0, 1) := by decide +kernel
theorem d_MO_items_48 : decode b_MO_items 48 = .ok (.iload_n 2, 1) := by decide +kernel
theorem d_MO_items_49 : decode b_MO_items 49 = .ok (.invokevirtual 135, 3) := by decide +kernel
theorem d_MO_items_52 : decode b_MO_items 52 = .ok (.istore_n 3, 1) := by decide +kernel
theorem d_MO_items_53 : decode b_MO_items 53 = .ok (.iload_n 3, 1) := by decide +kernel
theorem d_MO_items_54 : decode b_MO_items 54 = .ok (.ifCond .lt 24, 3) := by decide +kernel
theorem d_MO_items_57 : decode b_MO_items 57 = .ok (.iload_n 1, 1) := by decide +kernel
theorem d_MO_items_58 : decode b_MO_items 58 = .ok (.ifCond .ne 12, 3) := by decide +kernel
theorem d_MO_items_61 : decode b_MO_items 61 = .ok (.aload_n 0, 1) := by decide +kernel
theorem d_MO_items_62 : decode b_MO_items 62 = .ok (.getfield 132, 3) := by decide +kernel
theorem d_MO_items_65 : decode b_MO_items 65 = .ok (.bipush 8, 2) := by decide +kernel
theorem d_MO_items_67 : decode b_MO_items 67 = .ok (.if_icmp .eq 11, 3) := by decide +kernel
theorem d_MO_items_70 : decode b_MO_items 70 = .ok (.aload_n 0, 1) := by decide +kernel
theorem d_MO_items_71 : decode b_MO_items 71 = .ok (.iload_n 3, 1) := by decide +kernel
theorem d_MO_items_72 : decode b_MO_items 72 = .ok (.invokevirtual 138, 3) := by decide +kernel
theorem d_MO_items_75 : decode b_MO_items 75 = .ok (.ifCond .ne 5, 3) := by decide +kernel
theorem d_MO_items_78 : decode b_MO_items 78 = .ok (.iconst 0, 1) := by decide +kernel
theorem d_MO_items_79 : decode b_MO_items 79 = .ok (.ireturn, 1) := by decide +kernel
theorem d_MO_items_80 : decode b_MO_items 80 = .ok (.aload_n 0, 1) := by decide +kernel
theorem d_MO_items_81 : decode b_MO_items 81 = .ok (.getfield 58, 3) := by decide +kernel
theorem d_MO_items_84 : decode b_MO_items 84 = .ok (.aload_n 0, 1) := by decide +kernel
theorem d_MO_items_85 : decode b_MO_items 85 = .ok (.getfield 132, 3) := by decide +kernel
theorem d_MO_items_88 : decode b_MO_items 88 = .ok (.aload_n 0, 1) := by decide +kernel
theorem d_MO_items_89 : decode b_MO_items 89 = .ok (.getfield 123, 3) := by decide +kernel
theorem d_MO_items_92 : decode b_MO_items 92 = .ok (.iastore, 1) := by decide +kernel
theorem d_MO_items_93 : decode b_MO_items 93 = .ok (.aload_n 0, 1) := by decide +kernel
theorem d_MO_items_94 : decode b_MO_items 94 = .ok (.dup, 1) := by decide +kernel
theorem d_MO_items_95 : decode b_MO_items 95 = .ok (.getfield 132, 3) := by decide +kernel
theorem d_MO_items_98 : decode b_MO_items 98 = .ok (.iconst 1, 1) := by decide +kernel
theorem d_MO_items_99 : decode b_MO_items 99 = .ok (.iadd, 1) := by decide +kernel
theorem d_MO_items_100 : decode b_MO_items 100 = .ok (.putfield 132, 3) := by decide +kernel
theorem d_MO_items_103 : decode b_MO_items 103 = .ok (.iload_n 1, 1) := by decide +kernel
theorem d_MO_items_104 : decode b_MO_items 104 = .ok (.ifCond .eq (-78), 3) := by decide +kernel
theorem d_MO_items_107 : decode b_MO_items 107 = .ok (.aload_n 0, 1) := by decide +kernel
theorem d_MO_items_108 : decode b_MO_items 108 = .ok (.getfield 132, 3) := by decide +kernel
theorem d_MO_items_111 : decode b_MO_items 111 = .ok (.iconst 5, 1) := by decide +kernel
theorem d_MO_items_112 : decode b_MO_items 112 = .ok (.irem, 1) := by decide +kernel
theorem d_MO_items_113 : decode b_MO_items 113 = .ok (.ifCond .ne (-87), 3) := by decide +kernel
theorem d_MO_items_116 : decode b_MO_items 116 = .ok (.aload_n 0, 1) := by decide +kernel
theorem d_MO_items_117 : decode b_MO_items 117 = .ok (.getfield 120, 3) := by decide +kernel
theorem d_MO_items_120 : decode b_MO_items 120 = .ok (.iload_n 3, 1) := by decide +kernel
theorem d_MO_items_121 : decode b_MO_items 121 = .ok (.if_icmp .eq (-95), 3) := by decide +kernel
theorem d_MO_items_124 : decode b_MO_items 124 = .ok (.iconst 0, 1) := by decide +kernel
theorem d_MO_items_125 : decode b_MO_items 125 = .ok (.ireturn, 1) := by decide +kernel
theorem d_MO_items_126 : decode b_MO_items 126 = .ok (.iload_n 1, 1) := by decide +kernel
theorem d_MO_items_127 : decode b_MO_items 127 = .ok (.ifCond .eq 12, 3) := by decide +kernel
theorem d_MO_items_130 : decode b_MO_items 130 = .ok (.aload_n 0, 1) := by decide +kernel
theorem d_MO_items_131 : decode b_MO_items 131 = .ok (.getfield 132, 3) := by decide +kernel
theorem d_MO_items_134 : decode b_MO_items 134 = .ok (.iconst 5, 1) := by decide +kernel
theorem d_MO_items_135 : decode b_MO_items 135 = .ok (.irem, 1) := by decide +kernel
theorem d_MO_items_136 : decode b_MO_items 136 = .ok (.ifCond .ne 7, 3) := by decide +kernel
theorem d_MO_items_139 : decode b_MO_items 139 = .ok (.iconst 1, 1) := by decide +kernel
theorem d_MO_items_140 : decode b_MO_items 140 = .ok (.goto 4, 3) := by decide +kernel
theorem d_MO_items_143 : decode b_MO_items 143 = .ok (.iconst 0, 1) := by decide +kernel
theorem d_MO_items_144 : decode b_MO_items 144 = .ok (.ireturn, 1) := by decide +kernel
theorem d_MO_decode_0 : decode b_MO_decode 0 = .ok (.aload_n 0, 1) := by decide +kernel
theorem d_MO_decode_1 : decode b_MO_decode 1 = .ok (.iconst 0, 1) := by decide +kernel
theorem d_MO_decode_2 : decode b_MO_decode 2 = .ok (.putfield 120, 3) := by decide +kernel
theorem d_MO_decode_5 : decode b_MO_decode 5 = .ok (.aload_n 0, 1) := by decide +kernel
theorem d_MO_decode_6 : decode b_MO_decode 6 = .ok (.aload_n 0, 1) := by decide +kernel
theorem d_MO_decode_7 : decode b_MO_decode 7 = .ok (.getfield 117, 3) := by decide +kernel
theorem d_MO_decode_10 : decode b_MO_decode 10 = .ok (.invokevirtual 135, 3) := by decide +kernel
theorem d_MO_decode_13 : decode b_MO_decode 13 = .ok (.aload_n 0, 1) := by decide +kernel
theorem d_MO_decode_14 : decode b_MO_decode 14 = .ok (.getfield 117, 3) := by decide +kernel
theorem d_MO_decode_17 : decode b_MO_decode 17 = .ok (.if_icmp .ne 14, 3) := by decide +kernel
theorem d_MO_decode_20 : decode b_MO_decode 20 = .ok (.aload_n 0, 1) := by decide +kernel
theorem d_MO_decode_21 : decode b_MO_decode 21 = .ok (.aload_n 0, 1) := by decide +kernel
theorem d_MO_decode_22 : decode b_MO_decode 22 = .ok (.getfield 117, 3) := by decide +kernel
theorem d_MO_decode_25 : decode b_MO_decode 25 = .ok (.invokevirtual 138, 3) := by decide +kernel
theorem d_MO_decode_28 : decode b_MO_decode 28 = .ok (.ifCond .ne 5, 3) := by decide +kernel
theorem d_MO_decode_31 : decode b_MO_decode 31 = .ok (.iconst (-1), 1) := by decide +kernel
theorem d_MO_decode_32 : decode b_MO_decode 32 = .ok (.ireturn, 1) := by decide +kernel
theorem d_MO_decode_33 : decode b_MO_decode 33 = .ok (.aload_n 0, 1) := by decide +kernel
theorem d_MO_decode_34 : decode b_MO_decode 34 = .ok (.getfield 123, 3) := by decide +kernel
theorem d_MO_decode_37 : decode b_MO_decode 37 = .ok (.istore_n 1, 1) := by decide +kernel
theorem d_MO_decode_38 : decode b_MO_decode 38 = .ok (.iload_n 1, 1) := by decide +kernel
theorem d_MO_decode_39 : decode b_MO_decode 39 = .ok (.iconst 5, 1) := by decide +kernel
theorem d_MO_decode_40 : decode b_MO_decode 40 = .ok (.if_icmp .le 5, 3) := by decide +kernel
theorem d_MO_decode_43 : decode b_MO_decode 43 = .ok (.iconst (-1), 1) := by decide +kernel
theorem d_MO_decode_44 : decode b_MO_decode 44 = .ok (.ireturn, 1) := by decide +kernel
theorem d_MO_decode_45 : decode b_MO_decode 45 = .ok (.iload_n 1, 1) := by decide +kernel
theorem d_MO_decode_46 : decode b_MO_decode 46 = .ok (.iconst 5, 1) := by decide +kernel
theorem d_MO_decode_47 : decode b_MO_decode 47 = .ok (.if_icmp .ne 7, 3) := by decide +kernel
theorem d_MO_decode_50 : decode b_MO_decode 50 = .ok (.iconst 0, 1) := by decide +kernel
theorem d_MO_decode_51 : decode b_MO_decode 51 = .ok (.goto 26, 3) := by decide +kernel
theorem d_MO_decode_54 : decode b_MO_decode 54 = .ok (.iload_n 1, 1) := by decide +kernel
theorem d_MO_decode_55 : decode b_MO_decode 55 = .ok (.iconst 1, 1) := by decide +kernel
theorem d_MO_decode_56 : decode b_MO_decode 56 = .ok (.if_icmp .ne 7, 3) := by decide +kernel
theorem d_MO_decode_59 : decode b_MO_decode 59 = .ok (.iconst 3, 1) := by decide +kernel
theorem d_MO_decode_60 : decode b_MO_decode 60 = .ok (.goto 17, 3) := by decide +kernel
theorem d_MO_decode_63 : decode b_MO_decode 63 = .ok (.iload_n 1, 1) := by decide +kernel
theorem d_MO_decode_64 : decode b_MO_decode 64 = .ok (.ifCond .eq 8, 3) := by decide +kernel
theorem d_MO_decode_67 : decode b_MO_decode 67 = .ok (.iload_n 1, 1) := by decide +kernel
theorem d_MO_decode_68 : decode b_MO_decode 68 = .ok (.iconst 3, 1) := by decide +kernel
theorem d_MO_decode_69 : decode b_MO_decode 69 = .ok (.if_icmp .ne 7, 3) := by decide +kernel
theorem d_MO_decode_72 : decode b_MO_decode 72 = .ok (.iconst 2, 1) := by decide +kernel
theorem d_MO_decode_73 : decode b_MO_decode 73 = .ok (.goto 4, 3) := by decide +kernel
theorem d_MO_decode_76 : decode b_MO_decode 76 = .ok (.iconst 1, 1) := by decide +kernel
theorem d_MO_decode_77 : decode b_MO_decode 77 = .ok (.istore_n 2, 1) := by decide +kernel
theorem d_MO_decode_78 : decode b_MO_decode 78 = .ok (.iconst 0, 1) := by decide +kernel
theorem d_MO_decode_79 : decode b_MO_decode 79 = .ok (.istore_n 3, 1) := by decide +kernel
theorem d_MO_decode_80 : decode b_MO_decode 80 = .ok (.iload_n 3, 1) := by decide +kernel
theorem d_MO_decode_81 : decode b_MO_decode 81 = .ok (.iload_n 2, 1) := by decide +kernel
theorem d_MO_decode_82 : decode b_MO_decode 82 = .ok (.if_icmp .ge 32, 3) := by decide +kernel
theorem d_MO_decode_85 : decode b_MO_decode 85 = .ok (.aload_n 0, 1) := by decide +kernel
theorem d_MO_decode_86 : decode b_MO_decode 86 = .ok (.aload_n 0, 1) := by decide +kernel
theorem d_MO_decode_87 : decode b_MO_decode 87 = .ok (.getfield 117, 3) := by decide +kernel
theorem d_MO_decode_90 : decode b_MO_decode 90 = .ok (.invokevirtual 138, 3) := by decide +kernel
theorem d_MO_decode_93 : decode b_MO_decode 93 = .ok (.ifCond .ne 5, 3) := by decide +kernel
theorem d_MO_decode_96 : decode b_MO_decode 96 = .ok (.iconst (-1), 1) := by decide +kernel
theorem d_MO_decode_97 : decode b_MO_decode 97 = .ok (.ireturn, 1) := by decide +kernel
theorem d_MO_decode_98 : decode b_MO_decode 98 = .ok (.aload_n 0, 1) := by decide +kernel
theorem d_MO_decode_99 : decode b_MO_decode 99 = .ok (.getfield 55, 3) := by decide +kernel
theorem d_MO_decode_102 : decode b_MO_decode 102 = .ok (.iload_n 3, 1) := by decide +kernel
theorem d_MO_decode_103 : decode b_MO_decode 103 = .ok (.aload_n 0, 1) := by decide +kernel
theorem d_MO_decode_104 : decode b_MO_decode 104 = .ok (.getfield 123, 3) := by decide +kernel
theorem d_MO_decode_107 : decode b_MO_decode 107 = .ok (.iastore, 1) := by decide +kernel
theorem d_MO_decode_108 : decode b_MO_decode 108 = .ok (.iinc 3 1, 3) := by decide +kernel
theorem d_MO_decode_111 : decode b_MO_decode 111 = .ok (.goto (-31), 3) := by decide +kernel
theorem d_MO_decode_114 : decode b_MO_decode 114 = .ok (.iload_n 1, 1) := by decide +kernel
theorem d_MO_decode_115 : decode b_MO_decode 115 = .ok (.iconst 2, 1) := by decide +kernel
theorem d_MO_decode_116 : decode b_MO_decode 116 = .ok (.if_icmp .eq 8, 3) := by decide +kernel
theorem d_MO_decode_119 : decode b_MO_decode 119 = .ok (.iload_n 1, 1) := by decide +kernel
theorem d_MO_decode_120 : decode b_MO_decode 120 = .ok (.iconst 4, 1) := by decide +kernel
theorem d_MO_decode_121 : decode b_MO_decode 121 = .ok (.if_icmp .ne 22, 3) := by decide +kernel
theorem d_MO_decode_124 : decode b_MO_decode 124 = .ok (.aload_n 0, 1) := by decide +kernel
theorem d_MO_decode_125 : decode b_MO_decode 125 = .ok (.iload_n 1, 1) := by decide +kernel
theorem d_MO_decode_126 : decode b_MO_decode 126 = .ok (.iconst 2, 1) := by decide +kernel
theorem d_MO_decode_127 : decode b_MO_decode 127 = .ok (.if_icmp .ne 7, 3) := by decide +kernel
theorem d_MO_decode_130 : decode b_MO_decode 130 = .ok (.iconst 1, 1) := by decide +kernel
theorem d_MO_decode_131 : decode b_MO_decode 131 = .ok (.goto 4, 3) := by decide +kernel
theorem d_MO_decode_134 : decode b_MO_decode 134 = .ok (.iconst 0, 1) := by decide +kernel
theorem d_MO_decode_135 : decode b_MO_decode 135 = .ok (.invokevirtual 141, 3) := by decide +kernel
theorem d_MO_decode_138 : decode b_MO_decode 138 = .ok (.ifCond .ne 5, 3) := by decide +kernel
theorem d_MO_decode_141 : decode b_MO_decode 141 = .ok (.iconst (-1), 1) := by decide +kernel
theorem d_MO_decode_142 : decode b_MO_decode 142 = .ok (.ireturn, 1) := by decide +kernel
theorem d_MO_decode_143 : decode b_MO_decode 143 = .ok (.aload_n 0, 1) := by decide +kernel
theorem d_MO_decode_144 : decode b_MO_decode 144 = .ok (.getfield 120, 3) := by decide +kernel
theorem d_MO_decode_147 : decode b_MO_decode 147 = .ok (.aload_n 0, 1) := by decide +kernel
theorem d_MO_decode_148 : decode b_MO_decode 148 = .ok (.getfield 117, 3) := by decide +kernel
theorem d_MO_decode_151 : decode b_MO_decode 151 = .ok (.if_icmp .ne 7, 3) := by decide +kernel
theorem d_MO_decode_154 : decode b_MO_decode 154 = .ok (.iload_n 1, 1) := by decide +kernel
theorem d_MO_decode_155 : decode b_MO_decode 155 = .ok (.goto 4, 3) := by decide +kernel
theorem d_MO_decode_158 : decode b_MO_decode 158 = .ok (.iconst (-1), 1) := by decide +kernel
theorem d_MO_decode_159 : decode b_MO_decode 159 = .ok (.ireturn, 1) := by decide +kernel
theorem d_MO_leave_0 : decode b_MO_leave 0 = .ok (.aload_n 0, 1) := by decide +kernel
theorem d_MO_leave_1 : decode b_MO_leave 1 = .ok (.getfield 19, 3) := by decide +kernel
theorem d_MO_leave_4 : decode b_MO_leave 4 = .ok (.iload_n 1, 1) := by decide +kernel
theorem d_MO_leave_5 : decode b_MO_leave 5 = .ok (.iload_n 2, 1) := by decide +kernel
theorem d_MO_leave_6 : decode b_MO_leave 6 = .ok (.iastore, 1) := by decide +kernel
theorem d_MO_leave_7 : decode b_MO_leave 7 = .ok (.aload_n 0, 1) := by decide +kernel
theorem d_MO_leave_8 : decode b_MO_leave 8 = .ok (.getfield 31, 3) := by decide +kernel
theorem d_MO_leave_11 : decode b_MO_leave 11 = .ok (.iload_n 1, 1) := by decide +kernel
theorem d_MO_leave_12 : decode b_MO_leave 12 = .ok (.iconst 0, 1) := by decide +kernel
theorem d_MO_leave_13 : decode b_MO_leave 13 = .ok (.iastore, 1) := by decide +kernel
theorem d_MO_leave_14 : decode b_MO_leave 14 = .ok (.aload_n 0, 1) := by decide +kernel
theorem d_MO_leave_15 : decode b_MO_leave 15 = .ok (.getfield 37, 3) := by decide +kernel
theorem d_MO_leave_18 : decode b_MO_leave 18 = .ok (.iload_n 1, 1) := by decide +kernel
theorem d_MO_leave_19 : decode b_MO_leave 19 = .ok (.iconst 0, 1) := by decide +kernel
theorem d_MO_leave_20 : decode b_MO_leave 20 = .ok (.iastore, 1) := by decide +kernel
theorem d_MO_leave_21 : decode b_MO_leave 21 = .ok (.aload_n 0, 1) := by decide +kernel
theorem d_MO_leave_22 : decode b_MO_leave 22 = .ok (.getfield 43, 3) := by decide +kernel
theorem d_MO_leave_25 : decode b_MO_leave 25 = .ok (.iload_n 1, 1) := by decide +kernel
theorem d_MO_leave_26 : decode b_MO_leave 26 = .ok (.iconst 0, 1) := by decide +kernel
theorem d_MO_leave_27 : decode b_MO_leave 27 = .ok (.iastore, 1) := by decide +kernel
theorem d_MO_leave_28 : decode b_MO_leave 28 = .ok (.return_, 1) := by decide +kernel
theorem d_MO_fault_0 : decode b_MO_fault 0 = .ok (.aload_n 0, 1) := by decide +kernel
theorem d_MO_fault_1 : decode b_MO_fault 1 = .ok (.getfield 22, 3) := by decide +kernel
theorem d_MO_fault_4 : decode b_MO_fault 4 = .ok (.iload_n 1, 1) := by decide +kernel
theorem d_MO_fault_5 : decode b_MO_fault 5 = .ok (.dup2, 1) := by decide +kernel
theorem d_MO_fault_6 : decode b_MO_fault 6 = .ok (.iaload, 1) := by decide +kernel
theorem d_MO_fault_7 : decode b_MO_fault 7 = .ok (.iload_n 2, 1) := by decide +kernel
theorem d_MO_fault_8 : decode b_MO_fault 8 = .ok (.isub, 1) := by decide +kernel
theorem d_MO_fault_9 : decode b_MO_fault 9 = .ok (.iastore, 1) := by decide +kernel
theorem d_MO_fault_10 : decode b_MO_fault 10 = .ok (.aload_n 0, 1) := by decide +kernel
theorem d_MO_fault_11 : decode b_MO_fault 11 = .ok (.getfield 22, 3) := by decide +kernel
theorem d_MO_fault_14 : decode b_MO_fault 14 = .ok (.iload_n 1, 1) := by decide +kernel
theorem d_MO_fault_15 : decode b_MO_fault 15 = .ok (.iaload, 1) := by decide +kernel
theorem d_MO_fault_16 : decode b_MO_fault 16 = .ok (.bipush (-3), 2) := by decide +kernel
theorem d_MO_fault_18 : decode b_MO_fault 18 = .ok (.if_icmp .ge 9, 3) := by decide +kernel
theorem d_MO_fault_21 : decode b_MO_fault 21 = .ok (.aload_n 0, 1) := by decide +kernel
theorem d_MO_fault_22 : decode b_MO_fault 22 = .ok (.iload_n 1, 1) := by decide +kernel
theorem d_MO_fault_23 : decode b_MO_fault 23 = .ok (.iconst 3, 1) := by decide +kernel
theorem d_MO_fault_24 : decode b_MO_fault 24 = .ok (.invokevirtual 145, 3) := by decide +kernel
theorem d_MO_fault_27 : decode b_MO_fault 27 = .ok (.iconst 0, 1) := by decide +kernel
theorem d_MO_fault_28 : decode b_MO_fault 28 = .ok (.ireturn, 1) := by decide +kernel
theorem d_MO_merit_0 : decode b_MO_merit 0 = .ok (.aload_n 0, 1) := by decide +kernel
theorem d_MO_merit_1 : decode b_MO_merit 1 = .ok (.getfield 22, 3) := by decide +kernel
theorem d_MO_merit_4 : decode b_MO_merit 4 = .ok (.iload_n 1, 1) := by decide +kernel
theorem d_MO_merit_5 : decode b_MO_merit 5 = .ok (.aload_n 0, 1) := by decide +kernel
theorem d_MO_merit_6 : decode b_MO_merit 6 = .ok (.getfield 22, 3) := by decide +kernel
theorem d_MO_merit_9 : decode b_MO_merit 9 = .ok (.iload_n 1, 1) := by decide +kernel
theorem d_MO_merit_10 : decode b_MO_merit 10 = .ok (.iaload, 1) := by decide +kernel
theorem d_MO_merit_11 : decode b_MO_merit 11 = .ok (.iconst 3, 1) := by decide +kernel
theorem d_MO_merit_12 : decode b_MO_merit 12 = .ok (.if_icmp .ge 14, 3) := by decide +kernel
theorem d_MO_merit_15 : decode b_MO_merit 15 = .ok (.aload_n 0, 1) := by decide +kernel
theorem d_MO_merit_16 : decode b_MO_merit 16 = .ok (.getfield 22, 3) := by decide +kernel
theorem d_MO_merit_19 : decode b_MO_merit 19 = .ok (.iload_n 1, 1) := by decide +kernel
theorem d_MO_merit_20 : decode b_MO_merit 20 = .ok (.iaload, 1) := by decide +kernel
theorem d_MO_merit_21 : decode b_MO_merit 21 = .ok (.iconst 1, 1) := by decide +kernel
theorem d_MO_merit_22 : decode b_MO_merit 22 = .ok (.iadd, 1) := by decide +kernel
theorem d_MO_merit_23 : decode b_MO_merit 23 = .ok (.goto 4, 3) := by decide +kernel
theorem d_MO_merit_26 : decode b_MO_merit 26 = .ok (.iconst 3, 1) := by decide +kernel
theorem d_MO_merit_27 : decode b_MO_merit 27 = .ok (.iastore, 1) := by decide +kernel
theorem d_MO_merit_28 : decode b_MO_merit 28 = .ok (.iconst 1, 1) := by decide +kernel
theorem d_MO_merit_29 : decode b_MO_merit 29 = .ok (.ireturn, 1) := by decide +kernel
theorem d_MO_open_0 : decode b_MO_open 0 = .ok (.iload_n 1, 1) := by decide +kernel
theorem d_MO_open_1 : decode b_MO_open 1 = .ok (.invokestatic 114, 3) := by decide +kernel
theorem d_MO_open_4 : decode b_MO_open 4 = .ok (.ifCond .ne 5, 3) := by decide +kernel
theorem d_MO_open_7 : decode b_MO_open 7 = .ok (.iconst 0, 1) := by decide +kernel
theorem d_MO_open_8 : decode b_MO_open 8 = .ok (.ireturn, 1) := by decide +kernel
theorem d_MO_open_9 : decode b_MO_open 9 = .ok (.aload_n 0, 1) := by decide +kernel
theorem d_MO_open_10 : decode b_MO_open 10 = .ok (.getfield 19, 3) := by decide +kernel
theorem d_MO_open_13 : decode b_MO_open 13 = .ok (.iload_n 1, 1) := by decide +kernel
theorem d_MO_open_14 : decode b_MO_open 14 = .ok (.iaload, 1) := by decide +kernel
theorem d_MO_open_15 : decode b_MO_open 15 = .ok (.ifCond .eq 5, 3) := by decide +kernel
theorem d_MO_open_18 : decode b_MO_open 18 = .ok (.iconst 0, 1) := by decide +kernel
theorem d_MO_open_19 : decode b_MO_open 19 = .ok (.ireturn, 1) := by decide +kernel
theorem d_MO_open_20 : decode b_MO_open 20 = .ok (.aload_n 0, 1) := by decide +kernel
theorem d_MO_open_21 : decode b_MO_open 21 = .ok (.getfield 19, 3) := by decide +kernel
theorem d_MO_open_24 : decode b_MO_open 24 = .ok (.iload_n 1, 1) := by decide +kernel
theorem d_MO_open_25 : decode b_MO_open 25 = .ok (.iconst 1, 1) := by decide +kernel
theorem d_MO_open_26 : decode b_MO_open 26 = .ok (.iastore, 1) := by decide +kernel
theorem d_MO_open_27 : decode b_MO_open 27 = .ok (.aload_n 0, 1) := by decide +kernel
theorem d_MO_open_28 : decode b_MO_open 28 = .ok (.getfield 25, 3) := by decide +kernel
theorem d_MO_open_31 : decode b_MO_open 31 = .ok (.iload_n 1, 1) := by decide +kernel
theorem d_MO_open_32 : decode b_MO_open 32 = .ok (.iconst 0, 1) := by decide +kernel
theorem d_MO_open_33 : decode b_MO_open 33 = .ok (.iastore, 1) := by decide +kernel
theorem d_MO_open_34 : decode b_MO_open 34 = .ok (.aload_n 0, 1) := by decide +kernel
theorem d_MO_open_35 : decode b_MO_open 35 = .ok (.getfield 28, 3) := by decide +kernel
theorem d_MO_open_38 : decode b_MO_open 38 = .ok (.iload_n 1, 1) := by decide +kernel
theorem d_MO_open_39 : decode b_MO_open 39 = .ok (.iconst 0, 1) := by decide +kernel
theorem d_MO_open_40 : decode b_MO_open 40 = .ok (.iastore, 1) := by decide +kernel
theorem d_MO_open_41 : decode b_MO_open 41 = .ok (.aload_n 0, 1) := by decide +kernel
theorem d_MO_open_42 : decode b_MO_open 42 = .ok (.iconst 1, 1) := by decide +kernel
theorem d_MO_open_43 : decode b_MO_open 43 = .ok (.invokevirtual 98, 3) := by decide +kernel
theorem d_MO_open_46 : decode b_MO_open 46 = .ok (.istore_n 2, 1) := by decide +kernel
theorem d_MO_open_47 : decode b_MO_open 47 = .ok (.aload_n 0, 1) := by decide +kernel
theorem d_MO_open_48 : decode b_MO_open 48 = .ok (.iconst 0, 1) := by decide +kernel
theorem d_MO_open_49 : decode b_MO_open 49 = .ok (.aload_n 0, 1) := by decide +kernel
theorem d_MO_open_50 : decode b_MO_open 50 = .ok (.getfield 64, 3) := by decide +kernel
theorem d_MO_open_53 : decode b_MO_open 53 = .ok (.invokevirtual 149, 3) := by decide +kernel
theorem d_MO_open_56 : decode b_MO_open 56 = .ok (.aload_n 0, 1) := by decide +kernel
theorem d_MO_open_57 : decode b_MO_open 57 = .ok (.aload_n 0, 1) := by decide +kernel
theorem d_MO_open_58 : decode b_MO_open 58 = .ok (.getfield 7, 3) := by decide +kernel
theorem d_MO_open_61 : decode b_MO_open 61 = .ok (.iconst 5, 1) := by decide +kernel
theorem d_MO_open_62 : decode b_MO_open 62 = .ok (.iload_n 2, 1) := by decide +kernel
theorem d_MO_open_63 : decode b_MO_open 63 = .ok (.imul, 1) := by decide +kernel
theorem d_MO_open_64 : decode b_MO_open 64 = .ok (.iconst 1, 1) := by decide +kernel
theorem d_MO_open_65 : decode b_MO_open 65 = .ok (.iadd, 1) := by decide +kernel
theorem d_MO_open_66 : decode b_MO_open 66 = .ok (.iaload, 1) := by decide +kernel
theorem d_MO_open_67 : decode b_MO_open 67 = .ok (.invokevirtual 107, 3) := by decide +kernel
theorem d_MO_open_70 : decode b_MO_open 70 = .ok (.aload_n 0, 1) := by decide +kernel
theorem d_MO_open_71 : decode b_MO_open 71 = .ok (.iload_n 1, 1) := by decide +kernel
theorem d_MO_open_72 : decode b_MO_open 72 = .ok (.invokevirtual 152, 3) := by decide +kernel
theorem d_MO_open_75 : decode b_MO_open 75 = .ok (.iconst 1, 1) := by decide +kernel
theorem d_MO_open_76 : decode b_MO_open 76 = .ok (.ireturn, 1) := by decide +kernel
theorem d_MO_close_0 : decode b_MO_close 0 = .ok (.iload_n 1, 1) := by decide +kernel
theorem d_MO_close_1 : decode b_MO_close 1 = .ok (.invokestatic 114, 3) := by decide +kernel
theorem d_MO_close_4 : decode b_MO_close 4 = .ok (.ifCond .ne 5, 3) := by decide +kernel
theorem d_MO_close_7 : decode b_MO_close 7 = .ok (.iconst 0, 1) := by decide +kernel
theorem d_MO_close_8 : decode b_MO_close 8 = .ok (.ireturn, 1) := by decide +kernel
theorem d_MO_close_9 : decode b_MO_close 9 = .ok (.aload_n 0, 1) := by decide +kernel
theorem d_MO_close_10 : decode b_MO_close 10 = .ok (.getfield 19, 3) := by decide +kernel
theorem d_MO_close_13 : decode b_MO_close 13 = .ok (.iload_n 1, 1) := by decide +kernel
theorem d_MO_close_14 : decode b_MO_close 14 = .ok (.iaload, 1) := by decide +kernel
theorem d_MO_close_15 : decode b_MO_close 15 = .ok (.iconst 1, 1) := by decide +kernel
theorem d_MO_close_16 : decode b_MO_close 16 = .ok (.if_icmp .eq 15, 3) := by decide +kernel
theorem d_MO_close_19 : decode b_MO_close 19 = .ok (.aload_n 0, 1) := by decide +kernel
theorem d_MO_close_20 : decode b_MO_close 20 = .ok (.getfield 19, 3) := by decide +kernel
theorem d_MO_close_23 : decode b_MO_close 23 = .ok (.iload_n 1, 1) := by decide +kernel
theorem d_MO_close_24 : decode b_MO_close 24 = .ok (.iaload, 1) := by decide +kernel
theorem d_MO_close_25 : decode b_MO_close 25 = .ok (.iconst 2, 1) := by decide +kernel
theorem d_MO_close_26 : decode b_MO_close 26 = .ok (.if_icmp .eq 5, 3) := by decide +kernel
theorem d_MO_close_29 : decode b_MO_close 29 = .ok (.iconst 0, 1) := by decide +kernel
theorem d_MO_close_30 : decode b_MO_close 30 = .ok (.ireturn, 1) := by decide +kernel
theorem d_MO_close_31 : decode b_MO_close 31 = .ok (.aload_n 0, 1) := by decide +kernel
theorem d_MO_close_32 : decode b_MO_close 32 = .ok (.iload_n 1, 1) := by decide +kernel
theorem d_MO_close_33 : decode b_MO_close 33 = .ok (.iconst 0, 1) := by decide +kernel
theorem d_MO_close_34 : decode b_MO_close 34 = .ok (.invokevirtual 145, 3) := by decide +kernel
theorem d_MO_close_37 : decode b_MO_close 37 = .ok (.iconst 1, 1) := by decide +kernel
theorem d_MO_close_38 : decode b_MO_close 38 = .ok (.ireturn, 1) := by decide +kernel
theorem d_MO_greet_0 : decode b_MO_greet 0 = .ok (.iload_n 2, 1) := by decide +kernel
theorem d_MO_greet_1 : decode b_MO_greet 1 = .ok (.ifCond .eq 10, 3) := by decide +kernel
theorem d_MO_greet_4 : decode b_MO_greet 4 = .ok (.aload_n 0, 1) := by decide +kernel
theorem d_MO_greet_5 : decode b_MO_greet 5 = .ok (.iload_n 1, 1) := by decide +kernel
theorem d_MO_greet_6 : decode b_MO_greet 6 = .ok (.iconst 2, 1) := by decide +kernel
theorem d_MO_greet_7 : decode b_MO_greet 7 = .ok (.invokevirtual 159, 3) := by decide +kernel
theorem d_MO_greet_10 : decode b_MO_greet 10 = .ok (.ireturn, 1) := by decide +kernel
theorem d_MO_greet_11 : decode b_MO_greet 11 = .ok (.aload_n 0, 1) := by decide +kernel
theorem d_MO_greet_12 : decode b_MO_greet 12 = .ok (.getfield 55, 3) := by decide +kernel
theorem d_MO_greet_15 : decode b_MO_greet 15 = .ok (.iconst 0, 1) := by decide +kernel
theorem d_MO_greet_16 : decode b_MO_greet 16 = .ok (.iaload, 1) := by decide +kernel
theorem d_MO_greet_17 : decode b_MO_greet 17 = .ok (.aload_n 0, 1) := by decide +kernel
theorem d_MO_greet_18 : decode b_MO_greet 18 = .ok (.getfield 64, 3) := by decide +kernel
theorem d_MO_greet_21 : decode b_MO_greet 21 = .ok (.if_icmp .ne 25, 3) := by decide +kernel
theorem d_MO_greet_24 : decode b_MO_greet 24 = .ok (.aload_n 0, 1) := by decide +kernel
theorem d_MO_greet_25 : decode b_MO_greet 25 = .ok (.getfield 19, 3) := by decide +kernel
theorem d_MO_greet_28 : decode b_MO_greet 28 = .ok (.iload_n 1, 1) := by decide +kernel
theorem d_MO_greet_29 : decode b_MO_greet 29 = .ok (.iconst 2, 1) := by decide +kernel
theorem d_MO_greet_30 : decode b_MO_greet 30 = .ok (.iastore, 1) := by decide +kernel
theorem d_MO_greet_31 : decode b_MO_greet 31 = .ok (.aload_n 0, 1) := by decide +kernel
theorem d_MO_greet_32 : decode b_MO_greet 32 = .ok (.getfield 25, 3) := by decide +kernel
theorem d_MO_greet_35 : decode b_MO_greet 35 = .ok (.iload_n 1, 1) := by decide +kernel
theorem d_MO_greet_36 : decode b_MO_greet 36 = .ok (.aload_n 0, 1) := by decide +kernel
theorem d_MO_greet_37 : decode b_MO_greet 37 = .ok (.getfield 55, 3) := by decide +kernel
theorem d_MO_greet_40 : decode b_MO_greet 40 = .ok (.iconst 1, 1) := by decide +kernel
theorem d_MO_greet_41 : decode b_MO_greet 41 = .ok (.iaload, 1) := by decide +kernel
theorem d_MO_greet_42 : decode b_MO_greet 42 = .ok (.iastore, 1) := by decide +kernel
theorem d_MO_greet_43 : decode b_MO_greet 43 = .ok (.goto 9, 3) := by decide +kernel
theorem d_MO_greet_46 : decode b_MO_greet 46 = .ok (.aload_n 0, 1) := by decide +kernel
theorem d_MO_greet_47 : decode b_MO_greet 47 = .ok (.iload_n 1, 1) := by decide +kernel
theorem d_MO_greet_48 : decode b_MO_greet 48 = .ok (.iconst 0, 1) := by decide +kernel
theorem d_MO_greet_49 : decode b_MO_greet 49 = .ok (.invokevirtual 145, 3) := by decide +kernel
theorem d_MO_greet_52 : decode b_MO_greet 52 = .ok (.iconst 1, 1) := by decide +kernel
theorem d_MO_greet_53 : decode b_MO_greet 53 = .ok (.ireturn, 1) := by decide +kernel
theorem d_MO_taken_0 : decode b_MO_taken 0 = .ok (.iconst 0, 1) := by decide +kernel
theorem d_MO_taken_1 : decode b_MO_taken 1 = .ok (.istore_n 2, 1) := by decide +kernel
theorem d_MO_taken_2 : decode b_MO_taken 2 = .ok (.iconst 1, 1) := by decide +kernel
theorem d_MO_taken_3 : decode b_MO_taken 3 = .ok (.istore_n 3, 1) := by decide +kernel
theorem d_MO_taken_4 : decode b_MO_taken 4 = .ok (.iconst 0, 1) := by decide +kernel
theorem d_MO_taken_5 : decode b_MO_taken 5 = .ok (.istore 4, 2) := by decide +kernel
theorem d_MO_taken_7 : decode b_MO_taken 7 = .ok (.iload 4, 2) := by decide +kernel
theorem d_MO_taken_9 : decode b_MO_taken 9 = .ok (.aload_n 0, 1) := by decide +kernel
theorem d_MO_taken_10 : decode b_MO_taken 10 = .ok (.getfield 132, 3) := by decide +kernel
theorem d_MO_taken_13 : decode b_MO_taken 13 = .ok (.if_icmp .ge 91, 3) := by decide +kernel
theorem d_MO_taken_16 : decode b_MO_taken 16 = .ok (.iload_n 3, 1) := by decide +kernel
theorem d_MO_taken_17 : decode b_MO_taken 17 = .ok (.ifCond .eq 87, 3) := by decide +kernel
theorem d_MO_taken_20 : decode b_MO_taken 20 = .ok (.aload_n 0, 1) := by decide +kernel
theorem d_MO_taken_21 : decode b_MO_taken 21 = .ok (.iconst 0, 1) := by decide +kernel
theorem d_MO_taken_22 : decode b_MO_taken 22 = .ok (.iload 4, 2) := by decide +kernel
theorem d_MO_taken_24 : decode b_MO_taken 24 = .ok (.invokevirtual 80, 3) := by decide +kernel
theorem d_MO_taken_27 : decode b_MO_taken 27 = .ok (.istore 5, 2) := by decide +kernel
theorem d_MO_taken_29 : decode b_MO_taken 29 = .ok (.aload_n 0, 1) := by decide +kernel
theorem d_MO_taken_30 : decode b_MO_taken 30 = .ok (.iload 5, 2) := by decide +kernel
theorem d_MO_taken_32 : decode b_MO_taken 32 = .ok (.invokevirtual 84, 3) := by decide +kernel
theorem d_MO_taken_35 : decode b_MO_taken 35 = .ok (.ifCond .ge 60, 3) := by decide +kernel
theorem d_MO_taken_38 : decode b_MO_taken 38 = .ok (.aload_n 0, 1) := by decide +kernel
theorem d_MO_taken_39 : decode b_MO_taken 39 = .ok (.iload 4, 2) := by decide +kernel
theorem d_MO_taken_41 : decode b_MO_taken 41 = .ok (.invokevirtual 181, 3) := by decide +kernel
theorem d_MO_taken_44 : decode b_MO_taken 44 = .ok (.ifCond .eq 19, 3) := by decide +kernel
theorem d_MO_taken_47 : decode b_MO_taken 47 = .ok (.iload 4, 2) := by decide +kernel
theorem d_MO_taken_49 : decode b_MO_taken 49 = .ok (.ifCond .le 21, 3) := by decide +kernel
theorem d_MO_taken_52 : decode b_MO_taken 52 = .ok (.aload_n 0, 1) := by decide +kernel
theorem d_MO_taken_53 : decode b_MO_taken 53 = .ok (.getfield 58, 3) := by decide +kernel
theorem d_MO_taken_56 : decode b_MO_taken 56 = .ok (.iload 4, 2) := by decide +kernel
theorem d_MO_taken_58 : decode b_MO_taken 58 = .ok (.iaload, 1) := by decide +kernel
theorem d_MO_taken_59 : decode b_MO_taken 59 = .ok (.iload_n 2, 1) := by decide +kernel
theorem d_MO_taken_60 : decode b_MO_taken 60 = .ok (.if_icmp .eq 10, 3) := by decide +kernel
theorem d_MO_taken_63 : decode b_MO_taken 63 = .ok (.aload_n 0, 1) := by decide +kernel
theorem d_MO_taken_64 : decode b_MO_taken 64 = .ok (.iload_n 1, 1) := by decide +kernel
theorem d_MO_taken_65 : decode b_MO_taken 65 = .ok (.iconst 2, 1) := by decide +kernel
theorem d_MO_taken_66 : decode b_MO_taken 66 = .ok (.invokevirtual 159, 3) := by decide +kernel
theorem d_MO_taken_69 : decode b_MO_taken 69 = .ok (.ireturn, 1) := by decide +kernel
theorem d_MO_taken_70 : decode b_MO_taken 70 = .ok (.aload_n 0, 1) := by decide +kernel
theorem d_MO_taken_71 : decode b_MO_taken 71 = .ok (.getfield 71, 3) := by decide +kernel
theorem d_MO_taken_74 : decode b_MO_taken 74 = .ok (.bipush 20, 2) := by decide +kernel
theorem d_MO_taken_76 : decode b_MO_taken 76 = .ok (.if_icmp .ge 7, 3) := by decide +kernel
theorem d_MO_taken_79 : decode b_MO_taken 79 = .ok (.iconst 1, 1) := by decide +kernel
theorem d_MO_taken_80 : decode b_MO_taken 80 = .ok (.goto 4, 3) := by decide +kernel
theorem d_MO_taken_83 : decode b_MO_taken 83 = .ok (.iconst 0, 1) := by decide +kernel
theorem d_MO_taken_84 : decode b_MO_taken 84 = .ok (.istore_n 3, 1) := by decide +kernel
theorem d_MO_taken_85 : decode b_MO_taken 85 = .ok (.iload_n 3, 1) := by decide +kernel
theorem d_MO_taken_86 : decode b_MO_taken 86 = .ok (.ifCond .eq 9, 3) := by decide +kernel
theorem d_MO_taken_89 : decode b_MO_taken 89 = .ok (.aload_n 0, 1) := by decide +kernel
theorem d_MO_taken_90 : decode b_MO_taken 90 = .ok (.iload 4, 2) := by decide +kernel
theorem d_MO_taken_92 : decode b_MO_taken 92 = .ok (.invokevirtual 184, 3) := by decide +kernel
theorem d_MO_taken_95 : decode b_MO_taken 95 = .ok (.iload 5, 2) := by decide +kernel
theorem d_MO_taken_97 : decode b_MO_taken 97 = .ok (.istore_n 2, 1) := by decide +kernel
theorem d_MO_taken_98 : decode b_MO_taken 98 = .ok (.iinc 4 5, 3) := by decide +kernel
theorem d_MO_taken_101 : decode b_MO_taken 101 = .ok (.goto (-94), 3) := by decide +kernel
theorem d_MO_taken_104 : decode b_MO_taken 104 = .ok (.aload_n 0, 1) := by decide +kernel
theorem d_MO_taken_105 : decode b_MO_taken 105 = .ok (.getfield 28, 3) := by decide +kernel
theorem d_MO_taken_108 : decode b_MO_taken 108 = .ok (.iload_n 1, 1) := by decide +kernel
theorem d_MO_taken_109 : decode b_MO_taken 109 = .ok (.iconst 0, 1) := by decide +kernel
theorem d_MO_taken_110 : decode b_MO_taken 110 = .ok (.iastore, 1) := by decide +kernel
theorem d_MO_taken_111 : decode b_MO_taken 111 = .ok (.aload_n 0, 1) := by decide +kernel
theorem d_MO_taken_112 : decode b_MO_taken 112 = .ok (.iload_n 1, 1) := by decide +kernel
theorem d_MO_taken_113 : decode b_MO_taken 113 = .ok (.invokevirtual 187, 3) := by decide +kernel
theorem d_MO_taken_116 : decode b_MO_taken 116 = .ok (.ireturn, 1) := by decide +kernel
theorem d_MO_headers_0 : decode b_MO_headers 0 = .ok (.aload_n 0, 1) := by decide +kernel
theorem d_MO_headers_1 : decode b_MO_headers 1 = .ok (.getfield 31, 3) := by decide +kernel
theorem d_MO_headers_4 : decode b_MO_headers 4 = .ok (.iload_n 1, 1) := by decide +kernel
theorem d_MO_headers_5 : decode b_MO_headers 5 = .ok (.iaload, 1) := by decide +kernel
theorem d_MO_headers_6 : decode b_MO_headers 6 = .ok (.iconst 1, 1) := by decide +kernel
theorem d_MO_headers_7 : decode b_MO_headers 7 = .ok (.if_icmp .ne 18, 3) := by decide +kernel
theorem d_MO_headers_10 : decode b_MO_headers 10 = .ok (.aload_n 0, 1) := by decide +kernel
theorem d_MO_headers_11 : decode b_MO_headers 11 = .ok (.getfield 37, 3) := by decide +kernel
theorem d_MO_headers_14 : decode b_MO_headers 14 = .ok (.iload_n 1, 1) := by decide +kernel
theorem d_MO_headers_15 : decode b_MO_headers 15 = .ok (.iaload, 1) := by decide +kernel
theorem d_MO_headers_16 : decode b_MO_headers 16 = .ok (.aload_n 0, 1) := by decide +kernel
theorem d_MO_headers_17 : decode b_MO_headers 17 = .ok (.getfield 55, 3) := by decide +kernel
theorem d_MO_headers_20 : decode b_MO_headers 20 = .ok (.iconst 0, 1) := by decide +kernel
theorem d_MO_headers_21 : decode b_MO_headers 21 = .ok (.iaload, 1) := by decide +kernel
theorem d_MO_headers_22 : decode b_MO_headers 22 = .ok (.if_icmp .eq 10, 3) := by decide +kernel
theorem d_MO_headers_25 : decode b_MO_headers 25 = .ok (.aload_n 0, 1) := by decide +kernel
theorem d_MO_headers_26 : decode b_MO_headers 26 = .ok (.iload_n 1, 1) := by decide +kernel
theorem d_MO_headers_27 : decode b_MO_headers 27 = .ok (.iconst 1, 1) := by decide +kernel
theorem d_MO_headers_28 : decode b_MO_headers 28 = .ok (.invokevirtual 159, 3) := by decide +kernel
theorem d_MO_headers_31 : decode b_MO_headers 31 = .ok (.ireturn, 1) := by decide +kernel
theorem d_MO_headers_32 : decode b_MO_headers 32 = .ok (.aload_n 0, 1) := by decide +kernel
theorem d_MO_headers_33 : decode b_MO_headers 33 = .ok (.getfield 31, 3) := by decide +kernel
theorem d_MO_headers_36 : decode b_MO_headers 36 = .ok (.iload_n 1, 1) := by decide +kernel
theorem d_MO_headers_37 : decode b_MO_headers 37 = .ok (.iconst 0, 1) := by decide +kernel
theorem d_MO_headers_38 : decode b_MO_headers 38 = .ok (.iastore, 1) := by decide +kernel
theorem d_MO_headers_39 : decode b_MO_headers 39 = .ok (.aload_n 0, 1) := by decide +kernel
theorem d_MO_headers_40 : decode b_MO_headers 40 = .ok (.getfield 37, 3) := by decide +kernel
theorem d_MO_headers_43 : decode b_MO_headers 43 = .ok (.iload_n 1, 1) := by decide +kernel
theorem d_MO_headers_44 : decode b_MO_headers 44 = .ok (.iconst 0, 1) := by decide +kernel
theorem d_MO_headers_45 : decode b_MO_headers 45 = .ok (.iastore, 1) := by decide +kernel
theorem d_MO_headers_46 : decode b_MO_headers 46 = .ok (.aload_n 0, 1) := by decide +kernel
theorem d_MO_headers_47 : decode b_MO_headers 47 = .ok (.getfield 132, 3) := by decide +kernel
theorem d_MO_headers_50 : decode b_MO_headers 50 = .ok (.ifCond .ne 19, 3) := by decide +kernel
theorem d_MO_headers_53 : decode b_MO_headers 53 = .ok (.aload_n 0, 1) := by decide +kernel
theorem d_MO_headers_54 : decode b_MO_headers 54 = .ok (.getfield 25, 3) := by decide +kernel
theorem d_MO_headers_57 : decode b_MO_headers 57 = .ok (.iload_n 1, 1) := by decide +kernel
theorem d_MO_headers_58 : decode b_MO_headers 58 = .ok (.aload_n 0, 1) := by decide +kernel
theorem d_MO_headers_59 : decode b_MO_headers 59 = .ok (.getfield 34, 3) := by decide +kernel
theorem d_MO_headers_62 : decode b_MO_headers 62 = .ok (.iload_n 1, 1) := by decide +kernel
theorem d_MO_headers_63 : decode b_MO_headers 63 = .ok (.iaload, 1) := by decide +kernel
theorem d_MO_headers_64 : decode b_MO_headers 64 = .ok (.iconst 1, 1) := by decide +kernel
theorem d_MO_headers_65 : decode b_MO_headers 65 = .ok (.isub, 1) := by decide +kernel
theorem d_MO_headers_66 : decode b_MO_headers 66 = .ok (.iastore, 1) := by decide +kernel
theorem d_MO_headers_67 : decode b_MO_headers 67 = .ok (.iconst 1, 1) := by decide +kernel
theorem d_MO_headers_68 : decode b_MO_headers 68 = .ok (.ireturn, 1) := by decide +kernel
theorem d_MO_headers_69 : decode b_MO_headers 69 = .ok (.aload_n 0, 1) := by decide +kernel
theorem d_MO_headers_70 : decode b_MO_headers 70 = .ok (.getfield 58, 3) := by decide +kernel
theorem d_MO_headers_73 : decode b_MO_headers 73 = .ok (.iconst 1, 1) := by decide +kernel
theorem d_MO_headers_74 : decode b_MO_headers 74 = .ok (.iaload, 1) := by decide +kernel
theorem d_MO_headers_75 : decode b_MO_headers 75 = .ok (.aload_n 0, 1) := by decide +kernel
theorem d_MO_headers_76 : decode b_MO_headers 76 = .ok (.getfield 34, 3) := by decide +kernel
theorem d_MO_headers_79 : decode b_MO_headers 79 = .ok (.iload_n 1, 1) := by decide +kernel
theorem d_MO_headers_80 : decode b_MO_headers 80 = .ok (.iaload, 1) := by decide +kernel
theorem d_MO_headers_81 : decode b_MO_headers 81 = .ok (.if_icmp .eq 10, 3) := by decide +kernel
theorem d_MO_headers_84 : decode b_MO_headers 84 = .ok (.aload_n 0, 1) := by decide +kernel
theorem d_MO_headers_85 : decode b_MO_headers 85 = .ok (.iload_n 1, 1) := by decide +kernel
theorem d_MO_headers_86 : decode b_MO_headers 86 = .ok (.iconst 2, 1) := by decide +kernel
theorem d_MO_headers_87 : decode b_MO_headers 87 = .ok (.invokevirtual 159, 3) := by decide +kernel
theorem d_MO_headers_90 : decode b_MO_headers 90 = .ok (.ireturn, 1) := by decide +kernel
theorem d_MO_headers_91 : decode b_MO_headers 91 = .ok (.aload_n 0, 1) := by decide +kernel
theorem d_MO_headers_92 : decode b_MO_headers 92 = .ok (.iconst 0, 1) := by decide +kernel
theorem d_MO_headers_93 : decode b_MO_headers 93 = .ok (.iconst 0, 1) := by decide +kernel
theorem d_MO_headers_94 : decode b_MO_headers 94 = .ok (.invokevirtual 80, 3) := by decide +kernel
theorem d_MO_headers_97 : decode b_MO_headers 97 = .ok (.istore_n 2, 1) := by decide +kernel
theorem d_MO_headers_98 : decode b_MO_headers 98 = .ok (.aload_n 0, 1) := by decide +kernel
theorem d_MO_headers_99 : decode b_MO_headers 99 = .ok (.iload_n 2, 1) := by decide +kernel
theorem d_MO_headers_100 : decode b_MO_headers 100 = .ok (.invokevirtual 84, 3) := by decide +kernel
theorem d_MO_headers_103 : decode b_MO_headers 103 = .ok (.ifCond .ge 28, 3) := by decide +kernel
theorem d_MO_headers_106 : decode b_MO_headers 106 = .ok (.aload_n 0, 1) := by decide +kernel
theorem d_MO_headers_107 : decode b_MO_headers 107 = .ok (.aload_n 0, 1) := by decide +kernel
theorem d_MO_headers_108 : decode b_MO_headers 108 = .ok (.getfield 58, 3) := by decide +kernel
theorem d_MO_headers_111 : decode b_MO_headers 111 = .ok (.iconst 0, 1) := by decide +kernel
theorem d_MO_headers_112 : decode b_MO_headers 112 = .ok (.iaload, 1) := by decide +kernel
theorem d_MO_headers_113 : decode b_MO_headers 113 = .ok (.invokevirtual 84, 3) := by decide +kernel
theorem d_MO_headers_116 : decode b_MO_headers 116 = .ok (.ifCond .ge 15, 3) := by decide +kernel
theorem d_MO_headers_119 : decode b_MO_headers 119 = .ok (.aload_n 0, 1) := by decide +kernel
theorem d_MO_headers_120 : decode b_MO_headers 120 = .ok (.getfield 28, 3) := by decide +kernel
theorem d_MO_headers_123 : decode b_MO_headers 123 = .ok (.iload_n 1, 1) := by decide +kernel
theorem d_MO_headers_124 : decode b_MO_headers 124 = .ok (.dup2, 1) := by decide +kernel
theorem d_MO_headers_125 : decode b_MO_headers 125 = .ok (.iaload, 1) := by decide +kernel
theorem d_MO_headers_126 : decode b_MO_headers 126 = .ok (.iconst 1, 1) := by decide +kernel
theorem d_MO_headers_127 : decode b_MO_headers 127 = .ok (.iadd, 1) := by decide +kernel
theorem d_MO_headers_128 : decode b_MO_headers 128 = .ok (.iastore, 1) := by decide +kernel
theorem d_MO_headers_129 : decode b_MO_headers 129 = .ok (.iconst 1, 1) := by decide +kernel
theorem d_MO_headers_130 : decode b_MO_headers 130 = .ok (.ireturn, 1) := by decide +kernel
theorem d_MO_headers_131 : decode b_MO_headers 131 = .ok (.aload_n 0, 1) := by decide +kernel
theorem d_MO_headers_132 : decode b_MO_headers 132 = .ok (.iload_n 1, 1) := by decide +kernel
theorem d_MO_headers_133 : decode b_MO_headers 133 = .ok (.invokevirtual 178, 3) := by decide +kernel
theorem d_MO_headers_136 : decode b_MO_headers 136 = .ok (.ireturn, 1) := by decide +kernel
theorem d_MO_body_0 : decode b_MO_body 0 = .ok (.aload_n 0, 1) := by decide +kernel
theorem d_MO_body_1 : decode b_MO_body 1 = .ok (.getfield 31, 3) := by decide +kernel
theorem d_MO_body_4 : decode b_MO_body 4 = .ok (.iload_n 1, 1) := by decide +kernel
theorem d_MO_body_5 : decode b_MO_body 5 = .ok (.iaload, 1) := by decide +kernel
theorem d_MO_body_6 : decode b_MO_body 6 = .ok (.iconst 2, 1) := by decide +kernel
theorem d_MO_body_7 : decode b_MO_body 7 = .ok (.if_icmp .ne 18, 3) := by decide +kernel
theorem d_MO_body_10 : decode b_MO_body 10 = .ok (.aload_n 0, 1) := by decide +kernel
theorem d_MO_body_11 : decode b_MO_body 11 = .ok (.getfield 37, 3) := by decide +kernel
theorem d_MO_body_14 : decode b_MO_body 14 = .ok (.iload_n 1, 1) := by decide +kernel
theorem d_MO_body_15 : decode b_MO_body 15 = .ok (.iaload, 1) := by decide +kernel
theorem d_MO_body_16 : decode b_MO_body 16 = .ok (.aload_n 0, 1) := by decide +kernel
theorem d_MO_body_17 : decode b_MO_body 17 = .ok (.getfield 55, 3) := by decide +kernel
theorem d_MO_body_20 : decode b_MO_body 20 = .ok (.iconst 0, 1) := by decide +kernel
theorem d_MO_body_21 : decode b_MO_body 21 = .ok (.iaload, 1) := by decide +kernel
theorem d_MO_body_22 : decode b_MO_body 22 = .ok (.if_icmp .eq 10, 3) := by decide +kernel
theorem d_MO_body_25 : decode b_MO_body 25 = .ok (.aload_n 0, 1) := by decide +kernel
theorem d_MO_body_26 : decode b_MO_body 26 = .ok (.iload_n 1, 1) := by decide +kernel
theorem d_MO_body_27 : decode b_MO_body 27 = .ok (.iconst 1, 1) := by decide +kernel
theorem d_MO_body_28 : decode b_MO_body 28 = .ok (.invokevirtual 159, 3) := by decide +kernel
theorem d_MO_body_31 : decode b_MO_body 31 = .ok (.ireturn, 1) := by decide +kernel
theorem d_MO_body_32 : decode b_MO_body 32 = .ok (.aload_n 0, 1) := by decide +kernel
theorem d_MO_body_33 : decode b_MO_body 33 = .ok (.getfield 31, 3) := by decide +kernel
theorem d_MO_body_36 : decode b_MO_body 36 = .ok (.iload_n 1, 1) := by decide +kernel
theorem d_MO_body_37 : decode b_MO_body 37 = .ok (.iconst 0, 1) := by decide +kernel
theorem d_MO_body_38 : decode b_MO_body 38 = .ok (.iastore, 1) := by decide +kernel
theorem d_MO_body_39 : decode b_MO_body 39 = .ok (.aload_n 0, 1) := by decide +kernel
theorem d_MO_body_40 : decode b_MO_body 40 = .ok (.getfield 37, 3) := by decide +kernel
theorem d_MO_body_43 : decode b_MO_body 43 = .ok (.iload_n 1, 1) := by decide +kernel
theorem d_MO_body_44 : decode b_MO_body 44 = .ok (.iconst 0, 1) := by decide +kernel
theorem d_MO_body_45 : decode b_MO_body 45 = .ok (.iastore, 1) := by decide +kernel
theorem d_MO_body_46 : decode b_MO_body 46 = .ok (.aload_n 0, 1) := by decide +kernel
theorem d_MO_body_47 : decode b_MO_body 47 = .ok (.getfield 34, 3) := by decide +kernel
theorem d_MO_body_50 : decode b_MO_body 50 = .ok (.iload_n 1, 1) := by decide +kernel
theorem d_MO_body_51 : decode b_MO_body 51 = .ok (.iaload, 1) := by decide +kernel
theorem d_MO_body_52 : decode b_MO_body 52 = .ok (.istore_n 2, 1) := by decide +kernel
theorem d_MO_body_53 : decode b_MO_body 53 = .ok (.aload_n 0, 1) := by decide +kernel
theorem d_MO_body_54 : decode b_MO_body 54 = .ok (.getfield 132, 3) := by decide +kernel
theorem d_MO_body_57 : decode b_MO_body 57 = .ok (.istore_n 3, 1) := by decide +kernel
theorem d_MO_body_58 : decode b_MO_body 58 = .ok (.iconst 0, 1) := by decide +kernel
theorem d_MO_body_59 : decode b_MO_body 59 = .ok (.istore 4, 2) := by decide +kernel
theorem d_MO_body_61 : decode b_MO_body 61 = .ok (.iload 4, 2) := by decide +kernel
theorem d_MO_body_63 : decode b_MO_body 63 = .ok (.aload_n 0, 1) := by decide +kernel
theorem d_MO_body_64 : decode b_MO_body 64 = .ok (.getfield 132, 3) := by decide +kernel
theorem d_MO_body_67 : decode b_MO_body 67 = .ok (.if_icmp .ge 21, 3) := by decide +kernel
theorem d_MO_body_70 : decode b_MO_body 70 = .ok (.iload_n 3, 1) := by decide +kernel
theorem d_MO_body_71 : decode b_MO_body 71 = .ok (.aload_n 0, 1) := by decide +kernel
theorem d_MO_body_72 : decode b_MO_body 72 = .ok (.getfield 58, 3) := by decide +kernel
theorem d_MO_body_75 : decode b_MO_body 75 = .ok (.iload 4, 2) := by decide +kernel
theorem d_MO_body_77 : decode b_MO_body 77 = .ok (.iaload, 1) := by decide +kernel
theorem d_MO_body_78 : decode b_MO_body 78 = .ok (.invokestatic 76, 3) := by decide +kernel
theorem d_MO_body_81 : decode b_MO_body 81 = .ok (.istore_n 3, 1) := by decide +kernel
theorem d_MO_body_82 : decode b_MO_body 82 = .ok (.iinc 4 1, 3) := by decide +kernel
theorem d_MO_body_85 : decode b_MO_body 85 = .ok (.goto (-24), 3) := by decide +kernel
theorem d_MO_body_88 : decode b_MO_body 88 = .ok (.iload_n 3, 1) := by decide +kernel
theorem d_MO_body_89 : decode b_MO_body 89 = .ok (.aload_n 0, 1) := by decide +kernel
theorem d_MO_body_90 : decode b_MO_body 90 = .ok (.getfield 7, 3) := by decide +kernel
theorem d_MO_body_93 : decode b_MO_body 93 = .ok (.iconst 5, 1) := by decide +kernel
theorem d_MO_body_94 : decode b_MO_body 94 = .ok (.iload_n 2, 1) := by decide +kernel
theorem d_MO_body_95 : decode b_MO_body 95 = .ok (.imul, 1) := by decide +kernel
theorem d_MO_body_96 : decode b_MO_body 96 = .ok (.iconst 4, 1) := by decide +kernel
theorem d_MO_body_97 : decode b_MO_body 97 = .ok (.iadd, 1) := by decide +kernel
theorem d_MO_body_98 : decode b_MO_body 98 = .ok (.iaload, 1) := by decide +kernel
theorem d_MO_body_99 : decode b_MO_body 99 = .ok (.if_icmp .eq 10, 3) := by decide +kernel
theorem d_MO_body_102 : decode b_MO_body 102 = .ok (.aload_n 0, 1) := by decide +kernel
theorem d_MO_body_103 : decode b_MO_body 103 = .ok (.iload_n 1, 1) := by decide +kernel
theorem d_MO_body_104 : decode b_MO_body 104 = .ok (.iconst 2, 1) := by decide +kernel
theorem d_MO_body_105 : decode b_MO_body 105 = .ok (.invokevirtual 159, 3) := by decide +kernel
theorem d_MO_body_108 : decode b_MO_body 108 = .ok (.ireturn, 1) := by decide +kernel
theorem d_MO_body_109 : decode b_MO_body 109 = .ok (.aload_n 0, 1) := by decide +kernel
theorem d_MO_body_110 : decode b_MO_body 110 = .ok (.getfield 16, 3) := by decide +kernel
theorem d_MO_body_113 : decode b_MO_body 113 = .ok (.iload_n 2, 1) := by decide +kernel
theorem d_MO_body_114 : decode b_MO_body 114 = .ok (.aload_n 0, 1) := by decide +kernel
theorem d_MO_body_115 : decode b_MO_body 115 = .ok (.getfield 132, 3) := by decide +kernel
theorem d_MO_body_118 : decode b_MO_body 118 = .ok (.iastore, 1) := by decide +kernel
theorem d_MO_body_119 : decode b_MO_body 119 = .ok (.iconst 0, 1) := by decide +kernel
theorem d_MO_body_120 : decode b_MO_body 120 = .ok (.istore 4, 2) := by decide +kernel
theorem d_MO_body_122 : decode b_MO_body 122 = .ok (.iload 4, 2) := by decide +kernel
theorem d_MO_body_124 : decode b_MO_body 124 = .ok (.aload_n 0, 1) := by decide +kernel
theorem d_MO_body_125 : decode b_MO_body 125 = .ok (.getfield 132, 3) := by decide +kernel
theorem d_MO_body_128 : decode b_MO_body 128 = .ok (.if_icmp .ge 28, 3) := by decide +kernel
theorem d_MO_body_131 : decode b_MO_body 131 = .ok (.aload_n 0, 1) := by decide +kernel
theorem d_MO_body_132 : decode b_MO_body 132 = .ok (.getfield 13, 3) := by decide +kernel
theorem d_MO_body_135 : decode b_MO_body 135 = .ok (.bipush 8, 2) := by decide +kernel
theorem d_MO_body_137 : decode b_MO_body 137 = .ok (.iload_n 2, 1) := by decide +kernel
theorem d_MO_body_138 : decode b_MO_body 138 = .ok (.imul, 1) := by decide +kernel
theorem d_MO_body_139 : decode b_MO_body 139 = .ok (.iload 4, 2) := by decide +kernel
theorem d_MO_body_141 : decode b_MO_body 141 = .ok (.iadd, 1) := by decide +kernel
theorem d_MO_body_142 : decode b_MO_body 142 = .ok (.aload_n 0, 1) := by decide +kernel
theorem d_MO_body_143 : decode b_MO_body 143 = .ok (.getfield 58, 3) := by decide +kernel
theorem d_MO_body_146 : decode b_MO_body 146 = .ok (.iload 4, 2) := by decide +kernel
theorem d_MO_body_148 : decode b_MO_body 148 = .ok (.iaload, 1) := by decide +kernel
theorem d_MO_body_149 : decode b_MO_body 149 = .ok (.iastore, 1) := by decide +kernel
theorem d_MO_body_150 : decode b_MO_body 150 = .ok (.iinc 4 1, 3) := by decide +kernel
theorem d_MO_body_153 : decode b_MO_body 153 = .ok (.goto (-31), 3) := by decide +kernel
theorem d_MO_body_156 : decode b_MO_body 156 = .ok (.aload_n 0, 1) := by decide +kernel
theorem d_MO_body_157 : decode b_MO_body 157 = .ok (.iload_n 1, 1) := by decide +kernel
theorem d_MO_body_158 : decode b_MO_body 158 = .ok (.invokevirtual 187, 3) := by decide +kernel
theorem d_MO_body_161 : decode b_MO_body 161 = .ok (.ireturn, 1) := by decide +kernel
theorem d_MO_hear_0 : decode b_MO_hear 0 = .ok (.iload_n 2, 1) := by decide +kernel
theorem d_MO_hear_1 : decode b_MO_hear 1 = .ok (.ifCond .ne 10, 3) := by decide +kernel
theorem d_MO_hear_4 : decode b_MO_hear 4 = .ok (.aload_n 0, 1) := by decide +kernel
theorem d_MO_hear_5 : decode b_MO_hear 5 = .ok (.iload_n 1, 1) := by decide +kernel
theorem d_MO_hear_6 : decode b_MO_hear 6 = .ok (.iconst 2, 1) := by decide +kernel
theorem d_MO_hear_7 : decode b_MO_hear 7 = .ok (.invokevirtual 159, 3) := by decide +kernel
theorem d_MO_hear_10 : decode b_MO_hear 10 = .ok (.ireturn, 1) := by decide +kernel
theorem d_MO_hear_11 : decode b_MO_hear 11 = .ok (.iload_n 2, 1) := by decide +kernel
theorem d_MO_hear_12 : decode b_MO_hear 12 = .ok (.iconst 2, 1) := by decide +kernel
theorem d_MO_hear_13 : decode b_MO_hear 13 = .ok (.if_icmp .ne 9, 3) := by decide +kernel
theorem d_MO_hear_16 : decode b_MO_hear 16 = .ok (.aload_n 0, 1) := by decide +kernel
theorem d_MO_hear_17 : decode b_MO_hear 17 = .ok (.iload_n 1, 1) := by decide +kernel
theorem d_MO_hear_18 : decode b_MO_hear 18 = .ok (.invokevirtual 169, 3) := by decide +kernel
theorem d_MO_hear_21 : decode b_MO_hear 21 = .ok (.ireturn, 1) := by decide +kernel
theorem d_MO_hear_22 : decode b_MO_hear 22 = .ok (.iload_n 2, 1) := by decide +kernel
theorem d_MO_hear_23 : decode b_MO_hear 23 = .ok (.iconst 4, 1) := by decide +kernel
theorem d_MO_hear_24 : decode b_MO_hear 24 = .ok (.if_icmp .ne 9, 3) := by decide +kernel
theorem d_MO_hear_27 : decode b_MO_hear 27 = .ok (.aload_n 0, 1) := by decide +kernel
theorem d_MO_hear_28 : decode b_MO_hear 28 = .ok (.iload_n 1, 1) := by decide +kernel
theorem d_MO_hear_29 : decode b_MO_hear 29 = .ok (.invokevirtual 172, 3) := by decide +kernel
theorem d_MO_hear_32 : decode b_MO_hear 32 = .ok (.ireturn, 1) := by decide +kernel
theorem d_MO_hear_33 : decode b_MO_hear 33 = .ok (.aload_n 0, 1) := by decide +kernel
theorem d_MO_hear_34 : decode b_MO_hear 34 = .ok (.iload_n 2, 1) := by decide +kernel
theorem d_MO_hear_35 : decode b_MO_hear 35 = .ok (.iconst 1, 1) := by decide +kernel
theorem d_MO_hear_36 : decode b_MO_hear 36 = .ok (.if_icmp .ne 7, 3) := by decide +kernel
theorem d_MO_hear_39 : decode b_MO_hear 39 = .ok (.iconst 2, 1) := by decide +kernel
theorem d_MO_hear_40 : decode b_MO_hear 40 = .ok (.goto 4, 3) := by decide +kernel
theorem d_MO_hear_43 : decode b_MO_hear 43 = .ok (.iconst 4, 1) := by decide +kernel
theorem d_MO_hear_44 : decode b_MO_hear 44 = .ok (.aload_n 0, 1) := by decide +kernel
theorem d_MO_hear_45 : decode b_MO_hear 45 = .ok (.getfield 55, 3) := by decide +kernel
theorem d_MO_hear_48 : decode b_MO_hear 48 = .ok (.iconst 0, 1) := by decide +kernel
theorem d_MO_hear_49 : decode b_MO_hear 49 = .ok (.iaload, 1) := by decide +kernel
theorem d_MO_hear_50 : decode b_MO_hear 50 = .ok (.invokevirtual 149, 3) := by decide +kernel
theorem d_MO_hear_53 : decode b_MO_hear 53 = .ok (.aload_n 0, 1) := by decide +kernel
theorem d_MO_hear_54 : decode b_MO_hear 54 = .ok (.getfield 102, 3) := by decide +kernel
theorem d_MO_hear_57 : decode b_MO_hear 57 = .ok (.istore_n 3, 1) := by decide +kernel
theorem d_MO_hear_58 : decode b_MO_hear 58 = .ok (.iload_n 2, 1) := by decide +kernel
theorem d_MO_hear_59 : decode b_MO_hear 59 = .ok (.iconst 1, 1) := by decide +kernel
theorem d_MO_hear_60 : decode b_MO_hear 60 = .ok (.if_icmp .ne 120, 3) := by decide +kernel
theorem d_MO_hear_63 : decode b_MO_hear 63 = .ok (.iconst 0, 1) := by decide +kernel
theorem d_MO_hear_64 : decode b_MO_hear 64 = .ok (.istore 4, 2) := by decide +kernel
theorem d_MO_hear_66 : decode b_MO_hear 66 = .ok (.iload 4, 2) := by decide +kernel
theorem d_MO_hear_68 : decode b_MO_hear 68 = .ok (.iconst 2, 1) := by decide +kernel
theorem d_MO_hear_69 : decode b_MO_hear 69 = .ok (.if_icmp .ge 99, 3) := by decide +kernel
theorem d_MO_hear_72 : decode b_MO_hear 72 = .ok (.iload 4, 2) := by decide +kernel
theorem d_MO_hear_74 : decode b_MO_hear 74 = .ok (.aload_n 0, 1) := by decide +kernel
theorem d_MO_hear_75 : decode b_MO_hear 75 = .ok (.getfield 55, 3) := by decide +kernel
theorem d_MO_hear_78 : decode b_MO_hear 78 = .ok (.iconst 2, 1) := by decide +kernel
theorem d_MO_hear_79 : decode b_MO_hear 79 = .ok (.iaload, 1) := by decide +kernel
theorem d_MO_hear_80 : decode b_MO_hear 80 = .ok (.if_icmp .ge 88, 3) := by decide +kernel
theorem d_MO_hear_83 : decode b_MO_hear 83 = .ok (.aload_n 0, 1) := by decide +kernel
theorem d_MO_hear_84 : decode b_MO_hear 84 = .ok (.getfield 55, 3) := by decide +kernel
theorem d_MO_hear_87 : decode b_MO_hear 87 = .ok (.iconst 1, 1) := by decide +kernel
theorem d_MO_hear_88 : decode b_MO_hear 88 = .ok (.iaload, 1) := by decide +kernel
theorem d_MO_hear_89 : decode b_MO_hear 89 = .ok (.bipush 20, 2) := by decide +kernel
theorem d_MO_hear_91 : decode b_MO_hear 91 = .ok (.if_icmp .ge 77, 3) := by decide +kernel
theorem d_MO_hear_94 : decode b_MO_hear 94 = .ok (.aload_n 0, 1) := by decide +kernel
theorem d_MO_hear_95 : decode b_MO_hear 95 = .ok (.aload_n 0, 1) := by decide +kernel
theorem d_MO_hear_96 : decode b_MO_hear 96 = .ok (.getfield 55, 3) := by decide +kernel
theorem d_MO_hear_99 : decode b_MO_hear 99 = .ok (.iconst 1, 1) := by decide +kernel
theorem d_MO_hear_100 : decode b_MO_hear 100 = .ok (.iaload, 1) := by decide +kernel
theorem d_MO_hear_101 : decode b_MO_hear 101 = .ok (.iload 4, 2) := by decide +kernel
theorem d_MO_hear_103 : decode b_MO_hear 103 = .ok (.iadd, 1) := by decide +kernel
theorem d_MO_hear_104 : decode b_MO_hear 104 = .ok (.invokevirtual 175, 3) := by decide +kernel
theorem d_MO_hear_107 : decode b_MO_hear 107 = .ok (.istore 5, 2) := by decide +kernel
theorem d_MO_hear_109 : decode b_MO_hear 109 = .ok (.aload_n 0, 1) := by decide +kernel
theorem d_MO_hear_110 : decode b_MO_hear 110 = .ok (.getfield 102, 3) := by decide +kernel
theorem d_MO_hear_113 : decode b_MO_hear 113 = .ok (.istore 6, 2) := by decide +kernel
theorem d_MO_hear_115 : decode b_MO_hear 115 = .ok (.iconst 0, 1) := by decide +kernel
theorem d_MO_hear_116 : decode b_MO_hear 116 = .ok (.istore 7, 2) := by decide +kernel
theorem d_MO_hear_118 : decode b_MO_hear 118 = .ok (.iload 7, 2) := by decide +kernel
theorem d_MO_hear_120 : decode b_MO_hear 120 = .ok (.iconst 5, 1) := by decide +kernel
theorem d_MO_hear_121 : decode b_MO_hear 121 = .ok (.if_icmp .ge 30, 3) := by decide +kernel
theorem d_MO_hear_124 : decode b_MO_hear 124 = .ok (.iload 5, 2) := by decide +kernel
theorem d_MO_hear_126 : decode b_MO_hear 126 = .ok (.ifCond .lt 25, 3) := by decide +kernel
theorem d_MO_hear_129 : decode b_MO_hear 129 = .ok (.aload_n 0, 1) := by decide +kernel
theorem d_MO_hear_130 : decode b_MO_hear 130 = .ok (.aload_n 0, 1) := by decide +kernel
theorem d_MO_hear_131 : decode b_MO_hear 131 = .ok (.getfield 7, 3) := by decide +kernel
theorem d_MO_hear_134 : decode b_MO_hear 134 = .ok (.iconst 5, 1) := by decide +kernel
theorem d_MO_hear_135 : decode b_MO_hear 135 = .ok (.iload 5, 2) := by decide +kernel
theorem d_MO_hear_137 : decode b_MO_hear 137 = .ok (.imul, 1) := by decide +kernel
theorem d_MO_hear_138 : decode b_MO_hear 138 = .ok (.iload 7, 2) := by decide +kernel
theorem d_MO_hear_140 : decode b_MO_hear 140 = .ok (.iadd, 1) := by decide +kernel
theorem d_MO_hear_141 : decode b_MO_hear 141 = .ok (.iaload, 1) := by decide +kernel
theorem d_MO_hear_142 : decode b_MO_hear 142 = .ok (.invokevirtual 107, 3) := by decide +kernel
theorem d_MO_hear_145 : decode b_MO_hear 145 = .ok (.iinc 7 1, 3) := by decide +kernel
theorem d_MO_hear_148 : decode b_MO_hear 148 = .ok (.goto (-30), 3) := by decide +kernel
theorem d_MO_hear_151 : decode b_MO_hear 151 = .ok (.iload 5, 2) := by decide +kernel
theorem d_MO_hear_153 : decode b_MO_hear 153 = .ok (.ifCond .lt 9, 3) := by decide +kernel
theorem d_MO_hear_156 : decode b_MO_hear 156 = .ok (.aload_n 0, 1) := by decide +kernel
theorem d_MO_hear_157 : decode b_MO_hear 157 = .ok (.iload 6, 2) := by decide +kernel
theorem d_MO_hear_159 : decode b_MO_hear 159 = .ok (.invokevirtual 111, 3) := by decide +kernel
theorem d_MO_hear_162 : decode b_MO_hear 162 = .ok (.iinc 4 1, 3) := by decide +kernel
theorem d_MO_hear_165 : decode b_MO_hear 165 = .ok (.goto (-99), 3) := by decide +kernel
theorem d_MO_hear_168 : decode b_MO_hear 168 = .ok (.aload_n 0, 1) := by decide +kernel
theorem d_MO_hear_169 : decode b_MO_hear 169 = .ok (.iload_n 3, 1) := by decide +kernel
theorem d_MO_hear_170 : decode b_MO_hear 170 = .ok (.invokevirtual 111, 3) := by decide +kernel
theorem d_MO_hear_173 : decode b_MO_hear 173 = .ok (.aload_n 0, 1) := by decide +kernel
theorem d_MO_hear_174 : decode b_MO_hear 174 = .ok (.iload_n 1, 1) := by decide +kernel
theorem d_MO_hear_175 : decode b_MO_hear 175 = .ok (.invokevirtual 152, 3) := by decide +kernel
theorem d_MO_hear_178 : decode b_MO_hear 178 = .ok (.iconst 1, 1) := by decide +kernel
theorem d_MO_hear_179 : decode b_MO_hear 179 = .ok (.ireturn, 1) := by decide +kernel
theorem d_MO_hear_180 : decode b_MO_hear 180 = .ok (.aload_n 0, 1) := by decide +kernel
theorem d_MO_hear_181 : decode b_MO_hear 181 = .ok (.aload_n 0, 1) := by decide +kernel
theorem d_MO_hear_182 : decode b_MO_hear 182 = .ok (.getfield 55, 3) := by decide +kernel
theorem d_MO_hear_185 : decode b_MO_hear 185 = .ok (.iconst 1, 1) := by decide +kernel
theorem d_MO_hear_186 : decode b_MO_hear 186 = .ok (.iaload, 1) := by decide +kernel
theorem d_MO_hear_187 : decode b_MO_hear 187 = .ok (.invokevirtual 84, 3) := by decide +kernel
theorem d_MO_hear_190 : decode b_MO_hear 190 = .ok (.istore 4, 2) := by decide +kernel
theorem d_MO_hear_192 : decode b_MO_hear 192 = .ok (.iload 4, 2) := by decide +kernel
theorem d_MO_hear_194 : decode b_MO_hear 194 = .ok (.ifCond .lt 61, 3) := by decide +kernel
theorem d_MO_hear_197 : decode b_MO_hear 197 = .ok (.aload_n 0, 1) := by decide +kernel
theorem d_MO_hear_198 : decode b_MO_hear 198 = .ok (.getfield 16, 3) := by decide +kernel
theorem d_MO_hear_201 : decode b_MO_hear 201 = .ok (.iload 4, 2) := by decide +kernel
theorem d_MO_hear_203 : decode b_MO_hear 203 = .ok (.iaload, 1) := by decide +kernel
theorem d_MO_hear_204 : decode b_MO_hear 204 = .ok (.ifCond .lt 51, 3) := by decide +kernel
theorem d_MO_hear_207 : decode b_MO_hear 207 = .ok (.iconst 0, 1) := by decide +kernel
theorem d_MO_hear_208 : decode b_MO_hear 208 = .ok (.istore 5, 2) := by decide +kernel
theorem d_MO_hear_210 : decode b_MO_hear 210 = .ok (.iload 5, 2) := by decide +kernel
theorem d_MO_hear_212 : decode b_MO_hear 212 = .ok (.aload_n 0, 1) := by decide +kernel
theorem d_MO_hear_213 : decode b_MO_hear 213 = .ok (.getfield 16, 3) := by decide +kernel
theorem d_MO_hear_216 : decode b_MO_hear 216 = .ok (.iload 4, 2) := by decide +kernel
theorem d_MO_hear_218 : decode b_MO_hear 218 = .ok (.iaload, 1) := by decide +kernel
theorem d_MO_hear_219 : decode b_MO_hear 219 = .ok (.if_icmp .ge 26, 3) := by decide +kernel
theorem d_MO_hear_222 : decode b_MO_hear 222 = .ok (.aload_n 0, 1) := by decide +kernel
theorem d_MO_hear_223 : decode b_MO_hear 223 = .ok (.aload_n 0, 1) := by decide +kernel
theorem d_MO_hear_224 : decode b_MO_hear 224 = .ok (.getfield 13, 3) := by decide +kernel
theorem d_MO_hear_227 : decode b_MO_hear 227 = .ok (.bipush 8, 2) := by decide +kernel
theorem d_MO_hear_229 : decode b_MO_hear 229 = .ok (.iload 4, 2) := by decide +kernel
theorem d_MO_hear_231 : decode b_MO_hear 231 = .ok (.imul, 1) := by decide +kernel
theorem d_MO_hear_232 : decode b_MO_hear 232 = .ok (.iload 5, 2) := by decide +kernel
theorem d_MO_hear_234 : decode b_MO_hear 234 = .ok (.iadd, 1) := by decide +kernel
theorem d_MO_hear_235 : decode b_MO_hear 235 = .ok (.iaload, 1) := by decide +kernel
theorem d_MO_hear_236 : decode b_MO_hear 236 = .ok (.invokevirtual 107, 3) := by decide +kernel
theorem d_MO_hear_239 : decode b_MO_hear 239 = .ok (.iinc 5 1, 3) := by decide +kernel
theorem d_MO_hear_242 : decode b_MO_hear 242 = .ok (.goto (-32), 3) := by decide +kernel
theorem d_MO_hear_245 : decode b_MO_hear 245 = .ok (.aload_n 0, 1) := by decide +kernel
theorem d_MO_hear_246 : decode b_MO_hear 246 = .ok (.iload_n 3, 1) := by decide +kernel
theorem d_MO_hear_247 : decode b_MO_hear 247 = .ok (.invokevirtual 111, 3) := by decide +kernel
theorem d_MO_hear_250 : decode b_MO_hear 250 = .ok (.aload_n 0, 1) := by decide +kernel
theorem d_MO_hear_251 : decode b_MO_hear 251 = .ok (.iload_n 1, 1) := by decide +kernel
theorem d_MO_hear_252 : decode b_MO_hear 252 = .ok (.invokevirtual 152, 3) := by decide +kernel
theorem d_MO_hear_255 : decode b_MO_hear 255 = .ok (.iconst 1, 1) := by decide +kernel
theorem d_MO_hear_256 : decode b_MO_hear 256 = .ok (.ireturn, 1) := by decide +kernel
theorem d_MO_receive_0 : decode b_MO_receive 0 = .ok (.iload_n 1, 1) := by decide +kernel
theorem d_MO_receive_1 : decode b_MO_receive 1 = .ok (.invokestatic 114, 3) := by decide +kernel
theorem d_MO_receive_4 : decode b_MO_receive 4 = .ok (.ifCond .ne 5, 3) := by decide +kernel
theorem d_MO_receive_7 : decode b_MO_receive 7 = .ok (.iconst (-1), 1) := by decide +kernel
theorem d_MO_receive_8 : decode b_MO_receive 8 = .ok (.ireturn, 1) := by decide +kernel
theorem d_MO_receive_9 : decode b_MO_receive 9 = .ok (.aload_n 0, 1) := by decide +kernel
theorem d_MO_receive_10 : decode b_MO_receive 10 = .ok (.getfield 19, 3) := by decide +kernel
theorem d_MO_receive_13 : decode b_MO_receive 13 = .ok (.iload_n 1, 1) := by decide +kernel
theorem d_MO_receive_14 : decode b_MO_receive 14 = .ok (.iaload, 1) := by decide +kernel
theorem d_MO_receive_15 : decode b_MO_receive 15 = .ok (.ifCond .eq 13, 3) := by decide +kernel
theorem d_MO_receive_18 : decode b_MO_receive 18 = .ok (.aload_n 0, 1) := by decide +kernel
theorem d_MO_receive_19 : decode b_MO_receive 19 = .ok (.getfield 19, 3) := by decide +kernel
theorem d_MO_receive_22 : decode b_MO_receive 22 = .ok (.iload_n 1, 1) := by decide +kernel
theorem d_MO_receive_23 : decode b_MO_receive 23 = .ok (.iaload, 1) := by decide +kernel
theorem d_MO_receive_24 : decode b_MO_receive 24 = .ok (.iconst 3, 1) := by decide +kernel
theorem d_MO_receive_25 : decode b_MO_receive 25 = .ok (.if_icmp .ne 5, 3) := by decide +kernel
theorem d_MO_receive_28 : decode b_MO_receive 28 = .ok (.iconst (-1), 1) := by decide +kernel
theorem d_MO_receive_29 : decode b_MO_receive 29 = .ok (.ireturn, 1) := by decide +kernel
theorem d_MO_receive_30 : decode b_MO_receive 30 = .ok (.aload_n 0, 1) := by decide +kernel
theorem d_MO_receive_31 : decode b_MO_receive 31 = .ok (.invokevirtual 155, 3) := by decide +kernel
theorem d_MO_receive_34 : decode b_MO_receive 34 = .ok (.istore_n 2, 1) := by decide +kernel
theorem d_MO_receive_35 : decode b_MO_receive 35 = .ok (.iload_n 2, 1) := by decide +kernel
theorem d_MO_receive_36 : decode b_MO_receive 36 = .ok (.ifCond .ge 13, 3) := by decide +kernel
theorem d_MO_receive_39 : decode b_MO_receive 39 = .ok (.aload_n 0, 1) := by decide +kernel
theorem d_MO_receive_40 : decode b_MO_receive 40 = .ok (.iload_n 1, 1) := by decide +kernel
theorem d_MO_receive_41 : decode b_MO_receive 41 = .ok (.iconst 4, 1) := by decide +kernel
theorem d_MO_receive_42 : decode b_MO_receive 42 = .ok (.invokevirtual 159, 3) := by decide +kernel
theorem d_MO_receive_45 : decode b_MO_receive 45 = .ok (.istore_n 3, 1) := by decide +kernel
theorem d_MO_receive_46 : decode b_MO_receive 46 = .ok (.bipush (-2), 2) := by decide +kernel
theorem d_MO_receive_48 : decode b_MO_receive 48 = .ok (.ireturn, 1) := by decide +kernel
theorem d_MO_receive_49 : decode b_MO_receive 49 = .ok (.iload_n 2, 1) := by decide +kernel
theorem d_MO_receive_50 : decode b_MO_receive 50 = .ok (.iconst 5, 1) := by decide +kernel
theorem d_MO_receive_51 : decode b_MO_receive 51 = .ok (.if_icmp .ne 14, 3) := by decide +kernel
theorem d_MO_receive_54 : decode b_MO_receive 54 = .ok (.aload_n 0, 1) := by decide +kernel
theorem d_MO_receive_55 : decode b_MO_receive 55 = .ok (.iload_n 1, 1) := by decide +kernel
theorem d_MO_receive_56 : decode b_MO_receive 56 = .ok (.iconst 0, 1) := by decide +kernel
theorem d_MO_receive_57 : decode b_MO_receive 57 = .ok (.invokevirtual 145, 3) := by decide +kernel
theorem d_MO_receive_60 : decode b_MO_receive 60 = .ok (.iconst 1, 1) := by decide +kernel
theorem d_MO_receive_61 : decode b_MO_receive 61 = .ok (.istore_n 3, 1) := by decide +kernel
theorem d_MO_receive_62 : decode b_MO_receive 62 = .ok (.goto 29, 3) := by decide +kernel
theorem d_MO_receive_65 : decode b_MO_receive 65 = .ok (.aload_n 0, 1) := by decide +kernel
theorem d_MO_receive_66 : decode b_MO_receive 66 = .ok (.getfield 19, 3) := by decide +kernel
theorem d_MO_receive_69 : decode b_MO_receive 69 = .ok (.iload_n 1, 1) := by decide +kernel
theorem d_MO_receive_70 : decode b_MO_receive 70 = .ok (.iaload, 1) := by decide +kernel
theorem d_MO_receive_71 : decode b_MO_receive 71 = .ok (.iconst 1, 1) := by decide +kernel
theorem d_MO_receive_72 : decode b_MO_receive 72 = .ok (.if_icmp .ne 12, 3) := by decide +kernel
theorem d_MO_receive_75 : decode b_MO_receive 75 = .ok (.aload_n 0, 1) := by decide +kernel
theorem d_MO_receive_76 : decode b_MO_receive 76 = .ok (.iload_n 1, 1) := by decide +kernel
theorem d_MO_receive_77 : decode b_MO_receive 77 = .ok (.iload_n 2, 1) := by decide +kernel
theorem d_MO_receive_78 : decode b_MO_receive 78 = .ok (.invokevirtual 163, 3) := by decide +kernel
theorem d_MO_receive_81 : decode b_MO_receive 81 = .ok (.goto 9, 3) := by decide +kernel
theorem d_MO_receive_84 : decode b_MO_receive 84 = .ok (.aload_n 0, 1) := by decide +kernel
theorem d_MO_receive_85 : decode b_MO_receive 85 = .ok (.iload_n 1, 1) := by decide +kernel
theorem d_MO_receive_86 : decode b_MO_receive 86 = .ok (.iload_n 2, 1) := by decide +kernel
theorem d_MO_receive_87 : decode b_MO_receive 87 = .ok (.invokevirtual 166, 3) := by decide +kernel
theorem d_MO_receive_90 : decode b_MO_receive 90 = .ok (.istore_n 3, 1) := by decide +kernel
theorem d_MO_receive_91 : decode b_MO_receive 91 = .ok (.iload_n 3, 1) := by decide +kernel
theorem d_MO_receive_92 : decode b_MO_receive 92 = .ok (.ifCond .eq 7, 3) := by decide +kernel
theorem d_MO_receive_95 : decode b_MO_receive 95 = .ok (.iload_n 2, 1) := by decide +kernel
theorem d_MO_receive_96 : decode b_MO_receive 96 = .ok (.goto 5, 3) := by decide +kernel
theorem d_MO_receive_99 : decode b_MO_receive 99 = .ok (.bipush (-3), 2) := by decide +kernel
theorem d_MO_receive_101 : decode b_MO_receive 101 = .ok (.ireturn, 1) := by decide +kernel
theorem d_MO_wanted_0 : decode b_MO_wanted 0 = .ok (.iconst 0, 1) := by decide +kernel
theorem d_MO_wanted_1 : decode b_MO_wanted 1 = .ok (.istore_n 2, 1) := by decide +kernel
theorem d_MO_wanted_2 : decode b_MO_wanted 2 = .ok (.iconst 0, 1) := by decide +kernel
theorem d_MO_wanted_3 : decode b_MO_wanted 3 = .ok (.istore_n 3, 1) := by decide +kernel
theorem d_MO_wanted_4 : decode b_MO_wanted 4 = .ok (.iload_n 3, 1) := by decide +kernel
theorem d_MO_wanted_5 : decode b_MO_wanted 5 = .ok (.iconst 4, 1) := by decide +kernel
theorem d_MO_wanted_6 : decode b_MO_wanted 6 = .ok (.if_icmp .ge 39, 3) := by decide +kernel
theorem d_MO_wanted_9 : decode b_MO_wanted 9 = .ok (.iload_n 2, 1) := by decide +kernel
theorem d_MO_wanted_10 : decode b_MO_wanted 10 = .ok (.ifCond .ne 23, 3) := by decide +kernel
theorem d_MO_wanted_13 : decode b_MO_wanted 13 = .ok (.aload_n 0, 1) := by decide +kernel
theorem d_MO_wanted_14 : decode b_MO_wanted 14 = .ok (.getfield 31, 3) := by decide +kernel
theorem d_MO_wanted_17 : decode b_MO_wanted 17 = .ok (.iload_n 3, 1) := by decide +kernel
theorem d_MO_wanted_18 : decode b_MO_wanted 18 = .ok (.iaload, 1) := by decide +kernel
theorem d_MO_wanted_19 : decode b_MO_wanted 19 = .ok (.iconst 2, 1) := by decide +kernel
theorem d_MO_wanted_20 : decode b_MO_wanted 20 = .ok (.if_icmp .ne 17, 3) := by decide +kernel
theorem d_MO_wanted_23 : decode b_MO_wanted 23 = .ok (.aload_n 0, 1) := by decide +kernel
theorem d_MO_wanted_24 : decode b_MO_wanted 24 = .ok (.getfield 34, 3) := by decide +kernel
theorem d_MO_wanted_27 : decode b_MO_wanted 27 = .ok (.iload_n 3, 1) := by decide +kernel
theorem d_MO_wanted_28 : decode b_MO_wanted 28 = .ok (.iaload, 1) := by decide +kernel
theorem d_MO_wanted_29 : decode b_MO_wanted 29 = .ok (.iload_n 1, 1) := by decide +kernel
theorem d_MO_wanted_30 : decode b_MO_wanted 30 = .ok (.if_icmp .ne 7, 3) := by decide +kernel
theorem d_MO_wanted_33 : decode b_MO_wanted 33 = .ok (.iconst 1, 1) := by decide +kernel
theorem d_MO_wanted_34 : decode b_MO_wanted 34 = .ok (.goto 4, 3) := by decide +kernel
theorem d_MO_wanted_37 : decode b_MO_wanted 37 = .ok (.iconst 0, 1) := by decide +kernel
theorem d_MO_wanted_38 : decode b_MO_wanted 38 = .ok (.istore_n 2, 1) := by decide +kernel
theorem d_MO_wanted_39 : decode b_MO_wanted 39 = .ok (.iinc 3 1, 3) := by decide +kernel
theorem d_MO_wanted_42 : decode b_MO_wanted 42 = .ok (.goto (-38), 3) := by decide +kernel
theorem d_MO_wanted_45 : decode b_MO_wanted 45 = .ok (.iload_n 2, 1) := by decide +kernel
theorem d_MO_wanted_46 : decode b_MO_wanted 46 = .ok (.ireturn, 1) := by decide +kernel
theorem d_MO_lacking_0 : decode b_MO_lacking 0 = .ok (.iconst (-1), 1) := by decide +kernel
theorem d_MO_lacking_1 : decode b_MO_lacking 1 = .ok (.istore_n 1, 1) := by decide +kernel
theorem d_MO_lacking_2 : decode b_MO_lacking 2 = .ok (.aload_n 0, 1) := by decide +kernel
theorem d_MO_lacking_3 : decode b_MO_lacking 3 = .ok (.iconst 0, 1) := by decide +kernel
theorem d_MO_lacking_4 : decode b_MO_lacking 4 = .ok (.invokevirtual 98, 3) := by decide +kernel
theorem d_MO_lacking_7 : decode b_MO_lacking 7 = .ok (.istore_n 2, 1) := by decide +kernel
theorem d_MO_lacking_8 : decode b_MO_lacking 8 = .ok (.iconst 0, 1) := by decide +kernel
theorem d_MO_lacking_9 : decode b_MO_lacking 9 = .ok (.istore_n 3, 1) := by decide +kernel
theorem d_MO_lacking_10 : decode b_MO_lacking 10 = .ok (.iload_n 3, 1) := by decide +kernel
theorem d_MO_lacking_11 : decode b_MO_lacking 11 = .ok (.bipush 20, 2) := by decide +kernel
theorem d_MO_lacking_13 : decode b_MO_lacking 13 = .ok (.if_icmp .ge 42, 3) := by decide +kernel
theorem d_MO_lacking_16 : decode b_MO_lacking 16 = .ok (.iload_n 2, 1) := by decide +kernel
theorem d_MO_lacking_17 : decode b_MO_lacking 17 = .ok (.ifCond .lt 38, 3) := by decide +kernel
theorem d_MO_lacking_20 : decode b_MO_lacking 20 = .ok (.aload_n 0, 1) := by decide +kernel
theorem d_MO_lacking_21 : decode b_MO_lacking 21 = .ok (.getfield 16, 3) := by decide +kernel
theorem d_MO_lacking_24 : decode b_MO_lacking 24 = .ok (.iload_n 2, 1) := by decide +kernel
theorem d_MO_lacking_25 : decode b_MO_lacking 25 = .ok (.iaload, 1) := by decide +kernel
theorem d_MO_lacking_26 : decode b_MO_lacking 26 = .ok (.ifCond .ge 15, 3) := by decide +kernel
theorem d_MO_lacking_29 : decode b_MO_lacking 29 = .ok (.aload_n 0, 1) := by decide +kernel
theorem d_MO_lacking_30 : decode b_MO_lacking 30 = .ok (.iload_n 2, 1) := by decide +kernel
theorem d_MO_lacking_31 : decode b_MO_lacking 31 = .ok (.invokevirtual 190, 3) := by decide +kernel
theorem d_MO_lacking_34 : decode b_MO_lacking 34 = .ok (.ifCond .ne 7, 3) := by decide +kernel
theorem d_MO_lacking_37 : decode b_MO_lacking 37 = .ok (.iload_n 2, 1) := by decide +kernel
theorem d_MO_lacking_38 : decode b_MO_lacking 38 = .ok (.goto 4, 3) := by decide +kernel
theorem d_MO_lacking_41 : decode b_MO_lacking 41 = .ok (.iload_n 1, 1) := by decide +kernel
theorem d_MO_lacking_42 : decode b_MO_lacking 42 = .ok (.istore_n 1, 1) := by decide +kernel
theorem d_MO_lacking_43 : decode b_MO_lacking 43 = .ok (.aload_n 0, 1) := by decide +kernel
theorem d_MO_lacking_44 : decode b_MO_lacking 44 = .ok (.iload_n 2, 1) := by decide +kernel
theorem d_MO_lacking_45 : decode b_MO_lacking 45 = .ok (.invokevirtual 88, 3) := by decide +kernel
theorem d_MO_lacking_48 : decode b_MO_lacking 48 = .ok (.istore_n 2, 1) := by decide +kernel
theorem d_MO_lacking_49 : decode b_MO_lacking 49 = .ok (.iinc 3 1, 3) := by decide +kernel
theorem d_MO_lacking_52 : decode b_MO_lacking 52 = .ok (.goto (-42), 3) := by decide +kernel
theorem d_MO_lacking_55 : decode b_MO_lacking 55 = .ok (.iload_n 1, 1) := by decide +kernel
theorem d_MO_lacking_56 : decode b_MO_lacking 56 = .ok (.ireturn, 1) := by decide +kernel
theorem d_MO_request_0 : decode b_MO_request 0 = .ok (.aload_n 0, 1) := by decide +kernel
theorem d_MO_request_1 : decode b_MO_request 1 = .ok (.dup, 1) := by decide +kernel
theorem d_MO_request_2 : decode b_MO_request 2 = .ok (.getfield 193, 3) := by decide +kernel
theorem d_MO_request_5 : decode b_MO_request 5 = .ok (.iconst 1, 1) := by decide +kernel
theorem d_MO_request_6 : decode b_MO_request 6 = .ok (.iadd, 1) := by decide +kernel
theorem d_MO_request_7 : decode b_MO_request 7 = .ok (.putfield 193, 3) := by decide +kernel
theorem d_MO_request_10 : decode b_MO_request 10 = .ok (.aload_n 0, 1) := by decide +kernel
theorem d_MO_request_11 : decode b_MO_request 11 = .ok (.getfield 31, 3) := by decide +kernel
theorem d_MO_request_14 : decode b_MO_request 14 = .ok (.iload_n 1, 1) := by decide +kernel
theorem d_MO_request_15 : decode b_MO_request 15 = .ok (.iload_n 2, 1) := by decide +kernel
theorem d_MO_request_16 : decode b_MO_request 16 = .ok (.iastore, 1) := by decide +kernel
theorem d_MO_request_17 : decode b_MO_request 17 = .ok (.aload_n 0, 1) := by decide +kernel
theorem d_MO_request_18 : decode b_MO_request 18 = .ok (.getfield 34, 3) := by decide +kernel
theorem d_MO_request_21 : decode b_MO_request 21 = .ok (.iload_n 1, 1) := by decide +kernel
theorem d_MO_request_22 : decode b_MO_request 22 = .ok (.iload_n 3, 1) := by decide +kernel
theorem d_MO_request_23 : decode b_MO_request 23 = .ok (.iastore, 1) := by decide +kernel
theorem d_MO_request_24 : decode b_MO_request 24 = .ok (.aload_n 0, 1) := by decide +kernel
theorem d_MO_request_25 : decode b_MO_request 25 = .ok (.getfield 37, 3) := by decide +kernel
theorem d_MO_request_28 : decode b_MO_request 28 = .ok (.iload_n 1, 1) := by decide +kernel
theorem d_MO_request_29 : decode b_MO_request 29 = .ok (.aload_n 0, 1) := by decide +kernel
theorem d_MO_request_30 : decode b_MO_request 30 = .ok (.getfield 193, 3) := by decide +kernel
theorem d_MO_request_33 : decode b_MO_request 33 = .ok (.iastore, 1) := by decide +kernel
theorem d_MO_request_34 : decode b_MO_request 34 = .ok (.aload_n 0, 1) := by decide +kernel
theorem d_MO_request_35 : decode b_MO_request 35 = .ok (.getfield 40, 3) := by decide +kernel
theorem d_MO_request_38 : decode b_MO_request 38 = .ok (.iload_n 1, 1) := by decide +kernel
theorem d_MO_request_39 : decode b_MO_request 39 = .ok (.aload_n 0, 1) := by decide +kernel
theorem d_MO_request_40 : decode b_MO_request 40 = .ok (.getfield 196, 3) := by decide +kernel
theorem d_MO_request_43 : decode b_MO_request 43 = .ok (.aload_n 0, 1) := by decide +kernel
theorem d_MO_request_44 : decode b_MO_request 44 = .ok (.getfield 68, 3) := by decide +kernel
theorem d_MO_request_47 : decode b_MO_request 47 = .ok (.iadd, 1) := by decide +kernel
theorem d_MO_request_48 : decode b_MO_request 48 = .ok (.iastore, 1) := by decide +kernel
theorem d_MO_request_49 : decode b_MO_request 49 = .ok (.aload_n 0, 1) := by decide +kernel
theorem d_MO_request_50 : decode b_MO_request 50 = .ok (.iload_n 2, 1) := by decide +kernel
theorem d_MO_request_51 : decode b_MO_request 51 = .ok (.iconst 1, 1) := by decide +kernel
theorem d_MO_request_52 : decode b_MO_request 52 = .ok (.if_icmp .ne 7, 3) := by decide +kernel
theorem d_MO_request_55 : decode b_MO_request 55 = .ok (.iconst 1, 1) := by decide +kernel
theorem d_MO_request_56 : decode b_MO_request 56 = .ok (.goto 4, 3) := by decide +kernel
theorem d_MO_request_59 : decode b_MO_request 59 = .ok (.iconst 3, 1) := by decide +kernel
theorem d_MO_request_60 : decode b_MO_request 60 = .ok (.aload_n 0, 1) := by decide +kernel
theorem d_MO_request_61 : decode b_MO_request 61 = .ok (.getfield 193, 3) := by decide +kernel
theorem d_MO_request_64 : decode b_MO_request 64 = .ok (.invokevirtual 149, 3) := by decide +kernel
theorem d_MO_request_67 : decode b_MO_request 67 = .ok (.iload_n 2, 1) := by decide +kernel
theorem d_MO_request_68 : decode b_MO_request 68 = .ok (.iconst 1, 1) := by decide +kernel
theorem d_MO_request_69 : decode b_MO_request 69 = .ok (.if_icmp .ne 16, 3) := by decide +kernel
theorem d_MO_request_72 : decode b_MO_request 72 = .ok (.aload_n 0, 1) := by decide +kernel
theorem d_MO_request_73 : decode b_MO_request 73 = .ok (.iload_n 3, 1) := by decide +kernel
theorem d_MO_request_74 : decode b_MO_request 74 = .ok (.invokevirtual 107, 3) := by decide +kernel
theorem d_MO_request_77 : decode b_MO_request 77 = .ok (.aload_n 0, 1) := by decide +kernel
theorem d_MO_request_78 : decode b_MO_request 78 = .ok (.iconst 2, 1) := by decide +kernel
theorem d_MO_request_79 : decode b_MO_request 79 = .ok (.invokevirtual 107, 3) := by decide +kernel
theorem d_MO_request_82 : decode b_MO_request 82 = .ok (.goto 19, 3) := by decide +kernel
theorem d_MO_request_85 : decode b_MO_request 85 = .ok (.aload_n 0, 1) := by decide +kernel
theorem d_MO_request_86 : decode b_MO_request 86 = .ok (.iconst 1, 1) := by decide +kernel
theorem d_MO_request_87 : decode b_MO_request 87 = .ok (.iconst 5, 1) := by decide +kernel
theorem d_MO_request_88 : decode b_MO_request 88 = .ok (.iload_n 3, 1) := by decide +kernel
theorem d_MO_request_89 : decode b_MO_request 89 = .ok (.imul, 1) := by decide +kernel
theorem d_MO_request_90 : decode b_MO_request 90 = .ok (.invokevirtual 80, 3) := by decide +kernel
theorem d_MO_request_93 : decode b_MO_request 93 = .ok (.istore 4, 2) := by decide +kernel
theorem d_MO_request_95 : decode b_MO_request 95 = .ok (.aload_n 0, 1) := by decide +kernel
theorem d_MO_request_96 : decode b_MO_request 96 = .ok (.iload 4, 2) := by decide +kernel
theorem d_MO_request_98 : decode b_MO_request 98 = .ok (.invokevirtual 107, 3) := by decide +kernel
theorem d_MO_request_101 : decode b_MO_request 101 = .ok (.aload_n 0, 1) := by decide +kernel
theorem d_MO_request_102 : decode b_MO_request 102 = .ok (.iload_n 1, 1) := by decide +kernel
theorem d_MO_request_103 : decode b_MO_request 103 = .ok (.invokevirtual 152, 3) := by decide +kernel
theorem d_MO_request_106 : decode b_MO_request 106 = .ok (.return_, 1) := by decide +kernel
theorem d_MO_work_0 : decode b_MO_work 0 = .ok (.iconst 0, 1) := by decide +kernel
theorem d_MO_work_1 : decode b_MO_work 1 = .ok (.istore_n 1, 1) := by decide +kernel
theorem d_MO_work_2 : decode b_MO_work 2 = .ok (.iconst 0, 1) := by decide +kernel
theorem d_MO_work_3 : decode b_MO_work 3 = .ok (.istore_n 2, 1) := by decide +kernel
theorem d_MO_work_4 : decode b_MO_work 4 = .ok (.iload_n 2, 1) := by decide +kernel
theorem d_MO_work_5 : decode b_MO_work 5 = .ok (.iconst 4, 1) := by decide +kernel
theorem d_MO_work_6 : decode b_MO_work 6 = .ok (.if_icmp .ge 124, 3) := by decide +kernel
theorem d_MO_work_9 : decode b_MO_work 9 = .ok (.aload_n 0, 1) := by decide +kernel
theorem d_MO_work_10 : decode b_MO_work 10 = .ok (.getfield 19, 3) := by decide +kernel
theorem d_MO_work_13 : decode b_MO_work 13 = .ok (.iload_n 2, 1) := by decide +kernel
theorem d_MO_work_14 : decode b_MO_work 14 = .ok (.iaload, 1) := by decide +kernel
theorem d_MO_work_15 : decode b_MO_work 15 = .ok (.iconst 2, 1) := by decide +kernel
theorem d_MO_work_16 : decode b_MO_work 16 = .ok (.if_icmp .ne 108, 3) := by decide +kernel
theorem d_MO_work_19 : decode b_MO_work 19 = .ok (.aload_n 0, 1) := by decide +kernel
theorem d_MO_work_20 : decode b_MO_work 20 = .ok (.getfield 31, 3) := by decide +kernel
theorem d_MO_work_23 : decode b_MO_work 23 = .ok (.iload_n 2, 1) := by decide +kernel
theorem d_MO_work_24 : decode b_MO_work 24 = .ok (.iaload, 1) := by decide +kernel
theorem d_MO_work_25 : decode b_MO_work 25 = .ok (.ifCond .ne 99, 3) := by decide +kernel
theorem d_MO_work_28 : decode b_MO_work 28 = .ok (.aload_n 0, 1) := by decide +kernel
theorem d_MO_work_29 : decode b_MO_work 29 = .ok (.invokevirtual 199, 3) := by decide +kernel
theorem d_MO_work_32 : decode b_MO_work 32 = .ok (.istore_n 3, 1) := by decide +kernel
theorem d_MO_work_33 : decode b_MO_work 33 = .ok (.aload_n 0, 1) := by decide +kernel
theorem d_MO_work_34 : decode b_MO_work 34 = .ok (.iconst 0, 1) := by decide +kernel
theorem d_MO_work_35 : decode b_MO_work 35 = .ok (.invokevirtual 98, 3) := by decide +kernel
theorem d_MO_work_38 : decode b_MO_work 38 = .ok (.istore 4, 2) := by decide +kernel
theorem d_MO_work_40 : decode b_MO_work 40 = .ok (.aload_n 0, 1) := by decide +kernel
theorem d_MO_work_41 : decode b_MO_work 41 = .ok (.getfield 7, 3) := by decide +kernel
theorem d_MO_work_44 : decode b_MO_work 44 = .ok (.iconst 5, 1) := by decide +kernel
theorem d_MO_work_45 : decode b_MO_work 45 = .ok (.iload 4, 2) := by decide +kernel
theorem d_MO_work_47 : decode b_MO_work 47 = .ok (.imul, 1) := by decide +kernel
theorem d_MO_work_48 : decode b_MO_work 48 = .ok (.iconst 1, 1) := by decide +kernel
theorem d_MO_work_49 : decode b_MO_work 49 = .ok (.iadd, 1) := by decide +kernel
theorem d_MO_work_50 : decode b_MO_work 50 = .ok (.iaload, 1) := by decide +kernel
theorem d_MO_work_51 : decode b_MO_work 51 = .ok (.iconst 1, 1) := by decide +kernel
theorem d_MO_work_52 : decode b_MO_work 52 = .ok (.iadd, 1) := by decide +kernel
theorem d_MO_work_53 : decode b_MO_work 53 = .ok (.aload_n 0, 1) := by decide +kernel
theorem d_MO_work_54 : decode b_MO_work 54 = .ok (.getfield 28, 3) := by decide +kernel
theorem d_MO_work_57 : decode b_MO_work 57 = .ok (.iload_n 2, 1) := by decide +kernel
theorem d_MO_work_58 : decode b_MO_work 58 = .ok (.iaload, 1) := by decide +kernel
theorem d_MO_work_59 : decode b_MO_work 59 = .ok (.isub, 1) := by decide +kernel
theorem d_MO_work_60 : decode b_MO_work 60 = .ok (.istore 5, 2) := by decide +kernel
theorem d_MO_work_62 : decode b_MO_work 62 = .ok (.iload 5, 2) := by decide +kernel
theorem d_MO_work_64 : decode b_MO_work 64 = .ok (.iconst 1, 1) := by decide +kernel
theorem d_MO_work_65 : decode b_MO_work 65 = .ok (.if_icmp .ge 7, 3) := by decide +kernel
theorem d_MO_work_68 : decode b_MO_work 68 = .ok (.iconst 1, 1) := by decide +kernel
theorem d_MO_work_69 : decode b_MO_work 69 = .ok (.goto 5, 3) := by decide +kernel
theorem d_MO_work_72 : decode b_MO_work 72 = .ok (.iload 5, 2) := by decide +kernel
theorem d_MO_work_74 : decode b_MO_work 74 = .ok (.istore 5, 2) := by decide +kernel
theorem d_MO_work_76 : decode b_MO_work 76 = .ok (.iload_n 3, 1) := by decide +kernel
theorem d_MO_work_77 : decode b_MO_work 77 = .ok (.ifCond .lt 16, 3) := by decide +kernel
theorem d_MO_work_80 : decode b_MO_work 80 = .ok (.aload_n 0, 1) := by decide +kernel
theorem d_MO_work_81 : decode b_MO_work 81 = .ok (.iload_n 2, 1) := by decide +kernel
theorem d_MO_work_82 : decode b_MO_work 82 = .ok (.iconst 2, 1) := by decide +kernel
theorem d_MO_work_83 : decode b_MO_work 83 = .ok (.iload_n 3, 1) := by decide +kernel
theorem d_MO_work_84 : decode b_MO_work 84 = .ok (.invokevirtual 202, 3) := by decide +kernel
theorem d_MO_work_87 : decode b_MO_work 87 = .ok (.iinc 1 1, 3) := by decide +kernel
theorem d_MO_work_90 : decode b_MO_work 90 = .ok (.goto 34, 3) := by decide +kernel
theorem d_MO_work_93 : decode b_MO_work 93 = .ok (.aload_n 0, 1) := by decide +kernel
theorem d_MO_work_94 : decode b_MO_work 94 = .ok (.getfield 71, 3) := by decide +kernel
theorem d_MO_work_97 : decode b_MO_work 97 = .ok (.bipush 20, 2) := by decide +kernel
theorem d_MO_work_99 : decode b_MO_work 99 = .ok (.if_icmp .ge 25, 3) := by decide +kernel
theorem d_MO_work_102 : decode b_MO_work 102 = .ok (.aload_n 0, 1) := by decide +kernel
theorem d_MO_work_103 : decode b_MO_work 103 = .ok (.getfield 25, 3) := by decide +kernel
theorem d_MO_work_106 : decode b_MO_work 106 = .ok (.iload_n 2, 1) := by decide +kernel
theorem d_MO_work_107 : decode b_MO_work 107 = .ok (.iaload, 1) := by decide +kernel
theorem d_MO_work_108 : decode b_MO_work 108 = .ok (.iload 5, 2) := by decide +kernel
theorem d_MO_work_110 : decode b_MO_work 110 = .ok (.if_icmp .lt 14, 3) := by decide +kernel
theorem d_MO_work_113 : decode b_MO_work 113 = .ok (.aload_n 0, 1) := by decide +kernel
theorem d_MO_work_114 : decode b_MO_work 114 = .ok (.iload_n 2, 1) := by decide +kernel
theorem d_MO_work_115 : decode b_MO_work 115 = .ok (.iconst 1, 1) := by decide +kernel
theorem d_MO_work_116 : decode b_MO_work 116 = .ok (.iload 5, 2) := by decide +kernel
theorem d_MO_work_118 : decode b_MO_work 118 = .ok (.invokevirtual 202, 3) := by decide +kernel
theorem d_MO_work_121 : decode b_MO_work 121 = .ok (.iinc 1 1, 3) := by decide +kernel
theorem d_MO_work_124 : decode b_MO_work 124 = .ok (.iinc 2 1, 3) := by decide +kernel
theorem d_MO_work_127 : decode b_MO_work 127 = .ok (.goto (-123), 3) := by decide +kernel
theorem d_MO_work_130 : decode b_MO_work 130 = .ok (.iload_n 1, 1) := by decide +kernel
theorem d_MO_work_131 : decode b_MO_work 131 = .ok (.ireturn, 1) := by decide +kernel
theorem d_MO_tick_0 : decode b_MO_tick 0 = .ok (.iload_n 1, 1) := by decide +kernel
theorem d_MO_tick_1 : decode b_MO_tick 1 = .ok (.ifCond .lt 9, 3) := by decide +kernel
theorem d_MO_tick_4 : decode b_MO_tick 4 = .ok (.iload_n 1, 1) := by decide +kernel
theorem d_MO_tick_5 : decode b_MO_tick 5 = .ok (.bipush 50, 2) := by decide +kernel
theorem d_MO_tick_7 : decode b_MO_tick 7 = .ok (.if_icmp .le 5, 3) := by decide +kernel
theorem d_MO_tick_10 : decode b_MO_tick 10 = .ok (.iconst (-1), 1) := by decide +kernel
theorem d_MO_tick_11 : decode b_MO_tick 11 = .ok (.ireturn, 1) := by decide +kernel
theorem d_MO_tick_12 : decode b_MO_tick 12 = .ok (.iconst 0, 1) := by decide +kernel
theorem d_MO_tick_13 : decode b_MO_tick 13 = .ok (.istore_n 2, 1) := by decide +kernel
theorem d_MO_tick_14 : decode b_MO_tick 14 = .ok (.iconst 0, 1) := by decide +kernel
theorem d_MO_tick_15 : decode b_MO_tick 15 = .ok (.istore_n 3, 1) := by decide +kernel
theorem d_MO_tick_16 : decode b_MO_tick 16 = .ok (.iload_n 3, 1) := by decide +kernel
theorem d_MO_tick_17 : decode b_MO_tick 17 = .ok (.iload_n 1, 1) := by decide +kernel
theorem d_MO_tick_18 : decode b_MO_tick 18 = .ok (.if_icmp .ge 86, 3) := by decide +kernel
theorem d_MO_tick_21 : decode b_MO_tick 21 = .ok (.aload_n 0, 1) := by decide +kernel
theorem d_MO_tick_22 : decode b_MO_tick 22 = .ok (.dup, 1) := by decide +kernel
theorem d_MO_tick_23 : decode b_MO_tick 23 = .ok (.getfield 196, 3) := by decide +kernel
theorem d_MO_tick_26 : decode b_MO_tick 26 = .ok (.iconst 1, 1) := by decide +kernel
theorem d_MO_tick_27 : decode b_MO_tick 27 = .ok (.iadd, 1) := by decide +kernel
theorem d_MO_tick_28 : decode b_MO_tick 28 = .ok (.putfield 196, 3) := by decide +kernel
theorem d_MO_tick_31 : decode b_MO_tick 31 = .ok (.iconst 0, 1) := by decide +kernel
theorem d_MO_tick_32 : decode b_MO_tick 32 = .ok (.istore 4, 2) := by decide +kernel
theorem d_MO_tick_34 : decode b_MO_tick 34 = .ok (.iload 4, 2) := by decide +kernel
theorem d_MO_tick_36 : decode b_MO_tick 36 = .ok (.iconst 4, 1) := by decide +kernel
theorem d_MO_tick_37 : decode b_MO_tick 37 = .ok (.if_icmp .ge 61, 3) := by decide +kernel
theorem d_MO_tick_40 : decode b_MO_tick 40 = .ok (.aload_n 0, 1) := by decide +kernel
theorem d_MO_tick_41 : decode b_MO_tick 41 = .ok (.getfield 31, 3) := by decide +kernel
theorem d_MO_tick_44 : decode b_MO_tick 44 = .ok (.iload 4, 2) := by decide +kernel
theorem d_MO_tick_46 : decode b_MO_tick 46 = .ok (.iaload, 1) := by decide +kernel
theorem d_MO_tick_47 : decode b_MO_tick 47 = .ok (.ifCond .le 45, 3) := by decide +kernel
theorem d_MO_tick_50 : decode b_MO_tick 50 = .ok (.aload_n 0, 1) := by decide +kernel
theorem d_MO_tick_51 : decode b_MO_tick 51 = .ok (.getfield 40, 3) := by decide +kernel
theorem d_MO_tick_54 : decode b_MO_tick 54 = .ok (.iload 4, 2) := by decide +kernel
theorem d_MO_tick_56 : decode b_MO_tick 56 = .ok (.iaload, 1) := by decide +kernel
theorem d_MO_tick_57 : decode b_MO_tick 57 = .ok (.aload_n 0, 1) := by decide +kernel
theorem d_MO_tick_58 : decode b_MO_tick 58 = .ok (.getfield 196, 3) := by decide +kernel
theorem d_MO_tick_61 : decode b_MO_tick 61 = .ok (.if_icmp .ge 31, 3) := by decide +kernel
theorem d_MO_tick_64 : decode b_MO_tick 64 = .ok (.aload_n 0, 1) := by decide +kernel
theorem d_MO_tick_65 : decode b_MO_tick 65 = .ok (.getfield 31, 3) := by decide +kernel
theorem d_MO_tick_68 : decode b_MO_tick 68 = .ok (.iload 4, 2) := by decide +kernel
theorem d_MO_tick_70 : decode b_MO_tick 70 = .ok (.iconst 0, 1) := by decide +kernel
theorem d_MO_tick_71 : decode b_MO_tick 71 = .ok (.iastore, 1) := by decide +kernel
theorem d_MO_tick_72 : decode b_MO_tick 72 = .ok (.aload_n 0, 1) := by decide +kernel
theorem d_MO_tick_73 : decode b_MO_tick 73 = .ok (.getfield 37, 3) := by decide +kernel
theorem d_MO_tick_76 : decode b_MO_tick 76 = .ok (.iload 4, 2) := by decide +kernel
theorem d_MO_tick_78 : decode b_MO_tick 78 = .ok (.iconst 0, 1) := by decide +kernel
theorem d_MO_tick_79 : decode b_MO_tick 79 = .ok (.iastore, 1) := by decide +kernel
theorem d_MO_tick_80 : decode b_MO_tick 80 = .ok (.aload_n 0, 1) := by decide +kernel
theorem d_MO_tick_81 : decode b_MO_tick 81 = .ok (.iload 4, 2) := by decide +kernel
theorem d_MO_tick_83 : decode b_MO_tick 83 = .ok (.iconst 1, 1) := by decide +kernel
theorem d_MO_tick_84 : decode b_MO_tick 84 = .ok (.invokevirtual 159, 3) := by decide +kernel
theorem d_MO_tick_87 : decode b_MO_tick 87 = .ok (.istore 5, 2) := by decide +kernel
theorem d_MO_tick_89 : decode b_MO_tick 89 = .ok (.iinc 2 1, 3) := by decide +kernel
theorem d_MO_tick_92 : decode b_MO_tick 92 = .ok (.iinc 4 1, 3) := by decide +kernel
theorem d_MO_tick_95 : decode b_MO_tick 95 = .ok (.goto (-61), 3) := by decide +kernel
theorem d_MO_tick_98 : decode b_MO_tick 98 = .ok (.iinc 3 1, 3) := by decide +kernel
theorem d_MO_tick_101 : decode b_MO_tick 101 = .ok (.goto (-85), 3) := by decide +kernel
theorem d_MO_tick_104 : decode b_MO_tick 104 = .ok (.iload_n 2, 1) := by decide +kernel
theorem d_MO_tick_105 : decode b_MO_tick 105 = .ok (.ireturn, 1) := by decide +kernel
theorem d_MO_seal_0 : decode b_MO_seal 0 = .ok (.aload_n 0, 1) := by decide +kernel
theorem d_MO_seal_1 : decode b_MO_seal 1 = .ok (.iconst 1, 1) := by decide +kernel
theorem d_MO_seal_2 : decode b_MO_seal 2 = .ok (.invokevirtual 98, 3) := by decide +kernel
theorem d_MO_seal_5 : decode b_MO_seal 5 = .ok (.istore 4, 2) := by decide +kernel
theorem d_MO_seal_7 : decode b_MO_seal 7 = .ok (.aload_n 0, 1) := by decide +kernel
theorem d_MO_seal_8 : decode b_MO_seal 8 = .ok (.getfield 58, 3) := by decide +kernel
theorem d_MO_seal_11 : decode b_MO_seal 11 = .ok (.iconst 0, 1) := by decide +kernel
theorem d_MO_seal_12 : decode b_MO_seal 12 = .ok (.aload_n 0, 1) := by decide +kernel
theorem d_MO_seal_13 : decode b_MO_seal 13 = .ok (.iconst 1, 1) := by decide +kernel
theorem d_MO_seal_14 : decode b_MO_seal 14 = .ok (.iconst 5, 1) := by decide +kernel
theorem d_MO_seal_15 : decode b_MO_seal 15 = .ok (.iload 4, 2) := by decide +kernel
theorem d_MO_seal_17 : decode b_MO_seal 17 = .ok (.imul, 1) := by decide +kernel
theorem d_MO_seal_18 : decode b_MO_seal 18 = .ok (.invokevirtual 80, 3) := by decide +kernel
theorem d_MO_seal_21 : decode b_MO_seal 21 = .ok (.iastore, 1) := by decide +kernel
theorem d_MO_seal_22 : decode b_MO_seal 22 = .ok (.aload_n 0, 1) := by decide +kernel
theorem d_MO_seal_23 : decode b_MO_seal 23 = .ok (.getfield 58, 3) := by decide +kernel
theorem d_MO_seal_26 : decode b_MO_seal 26 = .ok (.iconst 1, 1) := by decide +kernel
theorem d_MO_seal_27 : decode b_MO_seal 27 = .ok (.aload_n 0, 1) := by decide +kernel
theorem d_MO_seal_28 : decode b_MO_seal 28 = .ok (.getfield 7, 3) := by decide +kernel
theorem d_MO_seal_31 : decode b_MO_seal 31 = .ok (.iconst 5, 1) := by decide +kernel
theorem d_MO_seal_32 : decode b_MO_seal 32 = .ok (.iload 4, 2) := by decide +kernel
theorem d_MO_seal_34 : decode b_MO_seal 34 = .ok (.imul, 1) := by decide +kernel
theorem d_MO_seal_35 : decode b_MO_seal 35 = .ok (.iconst 1, 1) := by decide +kernel
theorem d_MO_seal_36 : decode b_MO_seal 36 = .ok (.iadd, 1) := by decide +kernel
theorem d_MO_seal_37 : decode b_MO_seal 37 = .ok (.iaload, 1) := by decide +kernel
theorem d_MO_seal_38 : decode b_MO_seal 38 = .ok (.iconst 1, 1) := by decide +kernel
theorem d_MO_seal_39 : decode b_MO_seal 39 = .ok (.iadd, 1) := by decide +kernel
theorem d_MO_seal_40 : decode b_MO_seal 40 = .ok (.iastore, 1) := by decide +kernel
theorem d_MO_seal_41 : decode b_MO_seal 41 = .ok (.aload_n 0, 1) := by decide +kernel
theorem d_MO_seal_42 : decode b_MO_seal 42 = .ok (.getfield 58, 3) := by decide +kernel
theorem d_MO_seal_45 : decode b_MO_seal 45 = .ok (.iconst 2, 1) := by decide +kernel
theorem d_MO_seal_46 : decode b_MO_seal 46 = .ok (.iload_n 1, 1) := by decide +kernel
theorem d_MO_seal_47 : decode b_MO_seal 47 = .ok (.iastore, 1) := by decide +kernel
theorem d_MO_seal_48 : decode b_MO_seal 48 = .ok (.aload_n 0, 1) := by decide +kernel
theorem d_MO_seal_49 : decode b_MO_seal 49 = .ok (.getfield 58, 3) := by decide +kernel
theorem d_MO_seal_52 : decode b_MO_seal 52 = .ok (.iconst 3, 1) := by decide +kernel
theorem d_MO_seal_53 : decode b_MO_seal 53 = .ok (.iload_n 2, 1) := by decide +kernel
theorem d_MO_seal_54 : decode b_MO_seal 54 = .ok (.iastore, 1) := by decide +kernel
theorem d_MO_seal_55 : decode b_MO_seal 55 = .ok (.aload_n 0, 1) := by decide +kernel
theorem d_MO_seal_56 : decode b_MO_seal 56 = .ok (.getfield 58, 3) := by decide +kernel
theorem d_MO_seal_59 : decode b_MO_seal 59 = .ok (.iconst 4, 1) := by decide +kernel
theorem d_MO_seal_60 : decode b_MO_seal 60 = .ok (.iload_n 3, 1) := by decide +kernel
theorem d_MO_seal_61 : decode b_MO_seal 61 = .ok (.ifCond .ge 7, 3) := by decide +kernel
theorem d_MO_seal_64 : decode b_MO_seal 64 = .ok (.iconst 0, 1) := by decide +kernel
theorem d_MO_seal_65 : decode b_MO_seal 65 = .ok (.goto 8, 3) := by decide +kernel
theorem d_MO_seal_68 : decode b_MO_seal 68 = .ok (.iconst 1, 1) := by decide +kernel
theorem d_MO_seal_69 : decode b_MO_seal 69 = .ok (.iload_n 3, 1) := by decide +kernel
theorem d_MO_seal_70 : decode b_MO_seal 70 = .ok (.invokestatic 76, 3) := by decide +kernel
theorem d_MO_seal_73 : decode b_MO_seal 73 = .ok (.iastore, 1) := by decide +kernel
theorem d_MO_seal_74 : decode b_MO_seal 74 = .ok (.aload_n 0, 1) := by decide +kernel
theorem d_MO_seal_75 : decode b_MO_seal 75 = .ok (.iconst 0, 1) := by decide +kernel
theorem d_MO_seal_76 : decode b_MO_seal 76 = .ok (.iconst 0, 1) := by decide +kernel
theorem d_MO_seal_77 : decode b_MO_seal 77 = .ok (.invokevirtual 80, 3) := by decide +kernel
theorem d_MO_seal_80 : decode b_MO_seal 80 = .ok (.istore 5, 2) := by decide +kernel
theorem d_MO_seal_82 : decode b_MO_seal 82 = .ok (.iload_n 1, 1) := by decide +kernel
theorem d_MO_seal_83 : decode b_MO_seal 83 = .ok (.ifCond .lt 29, 3) := by decide +kernel
theorem d_MO_seal_86 : decode b_MO_seal 86 = .ok (.aload_n 0, 1) := by decide +kernel
theorem d_MO_seal_87 : decode b_MO_seal 87 = .ok (.iconst 0, 1) := by decide +kernel
theorem d_MO_seal_88 : decode b_MO_seal 88 = .ok (.invokevirtual 181, 3) := by decide +kernel
theorem d_MO_seal_91 : decode b_MO_seal 91 = .ok (.ifCond .eq 21, 3) := by decide +kernel
theorem d_MO_seal_94 : decode b_MO_seal 94 = .ok (.aload_n 0, 1) := by decide +kernel
theorem d_MO_seal_95 : decode b_MO_seal 95 = .ok (.iload 5, 2) := by decide +kernel
theorem d_MO_seal_97 : decode b_MO_seal 97 = .ok (.invokevirtual 84, 3) := by decide +kernel
theorem d_MO_seal_100 : decode b_MO_seal 100 = .ok (.ifCond .ge 12, 3) := by decide +kernel
theorem d_MO_seal_103 : decode b_MO_seal 103 = .ok (.aload_n 0, 1) := by decide +kernel
theorem d_MO_seal_104 : decode b_MO_seal 104 = .ok (.getfield 71, 3) := by decide +kernel
theorem d_MO_seal_107 : decode b_MO_seal 107 = .ok (.bipush 20, 2) := by decide +kernel
theorem d_MO_seal_109 : decode b_MO_seal 109 = .ok (.if_icmp .ne 5, 3) := by decide +kernel
theorem d_MO_seal_112 : decode b_MO_seal 112 = .ok (.iconst (-1), 1) := by decide +kernel
theorem d_MO_seal_113 : decode b_MO_seal 113 = .ok (.ireturn, 1) := by decide +kernel
theorem d_MO_seal_114 : decode b_MO_seal 114 = .ok (.aload_n 0, 1) := by decide +kernel
theorem d_MO_seal_115 : decode b_MO_seal 115 = .ok (.iconst 0, 1) := by decide +kernel
theorem d_MO_seal_116 : decode b_MO_seal 116 = .ok (.invokevirtual 184, 3) := by decide +kernel
theorem d_MO_seal_119 : decode b_MO_seal 119 = .ok (.aload_n 0, 1) := by decide +kernel
theorem d_MO_seal_120 : decode b_MO_seal 120 = .ok (.getfield 16, 3) := by decide +kernel
theorem d_MO_seal_123 : decode b_MO_seal 123 = .ok (.aload_n 0, 1) := by decide +kernel
theorem d_MO_seal_124 : decode b_MO_seal 124 = .ok (.getfield 71, 3) := by decide +kernel
theorem d_MO_seal_127 : decode b_MO_seal 127 = .ok (.iconst 1, 1) := by decide +kernel
theorem d_MO_seal_128 : decode b_MO_seal 128 = .ok (.isub, 1) := by decide +kernel
theorem d_MO_seal_129 : decode b_MO_seal 129 = .ok (.iload_n 3, 1) := by decide +kernel
theorem d_MO_seal_130 : decode b_MO_seal 130 = .ok (.ifCond .ge 7, 3) := by decide +kernel
theorem d_MO_seal_133 : decode b_MO_seal 133 = .ok (.iconst 0, 1) := by decide +kernel
theorem d_MO_seal_134 : decode b_MO_seal 134 = .ok (.goto 4, 3) := by decide +kernel
theorem d_MO_seal_137 : decode b_MO_seal 137 = .ok (.iconst 1, 1) := by decide +kernel
theorem d_MO_seal_138 : decode b_MO_seal 138 = .ok (.iastore, 1) := by decide +kernel
theorem d_MO_seal_139 : decode b_MO_seal 139 = .ok (.aload_n 0, 1) := by decide +kernel
theorem d_MO_seal_140 : decode b_MO_seal 140 = .ok (.getfield 13, 3) := by decide +kernel
theorem d_MO_seal_143 : decode b_MO_seal 143 = .ok (.bipush 8, 2) := by decide +kernel
theorem d_MO_seal_145 : decode b_MO_seal 145 = .ok (.aload_n 0, 1) := by decide +kernel
theorem d_MO_seal_146 : decode b_MO_seal 146 = .ok (.getfield 71, 3) := by decide +kernel
theorem d_MO_seal_149 : decode b_MO_seal 149 = .ok (.imul, 1) := by decide +kernel
theorem d_MO_seal_150 : decode b_MO_seal 150 = .ok (.bipush 8, 2) := by decide +kernel
theorem d_MO_seal_152 : decode b_MO_seal 152 = .ok (.isub, 1) := by decide +kernel
theorem d_MO_seal_153 : decode b_MO_seal 153 = .ok (.iload_n 3, 1) := by decide +kernel
theorem d_MO_seal_154 : decode b_MO_seal 154 = .ok (.iastore, 1) := by decide +kernel
theorem d_MO_seal_155 : decode b_MO_seal 155 = .ok (.aload_n 0, 1) := by decide +kernel
theorem d_MO_seal_156 : decode b_MO_seal 156 = .ok (.getfield 71, 3) := by decide +kernel
theorem d_MO_seal_159 : decode b_MO_seal 159 = .ok (.iconst 1, 1) := by decide +kernel
theorem d_MO_seal_160 : decode b_MO_seal 160 = .ok (.isub, 1) := by decide +kernel
theorem d_MO_seal_161 : decode b_MO_seal 161 = .ok (.ireturn, 1) := by decide +kernel
theorem d_MO_peer_0 : decode b_MO_peer 0 = .ok (.iload_n 1, 1) := by decide +kernel
theorem d_MO_peer_1 : decode b_MO_peer 1 = .ok (.invokestatic 114, 3) := by decide +kernel
theorem d_MO_peer_4 : decode b_MO_peer 4 = .ok (.ifCond .ne 5, 3) := by decide +kernel
theorem d_MO_peer_7 : decode b_MO_peer 7 = .ok (.iconst 0, 1) := by decide +kernel
theorem d_MO_peer_8 : decode b_MO_peer 8 = .ok (.ireturn, 1) := by decide +kernel
theorem d_MO_peer_9 : decode b_MO_peer 9 = .ok (.iload_n 2, 1) := by decide +kernel
theorem d_MO_peer_10 : decode b_MO_peer 10 = .ok (.tableswitch 80 0 5 #[38, 45, 52, 59, 66, 73], 38) := by decide +kernel
theorem d_MO_peer_48 : decode b_MO_peer 48 = .ok (.aload_n 0, 1) := by decide +kernel
theorem d_MO_peer_49 : decode b_MO_peer 49 = .ok (.getfield 19, 3) := by decide +kernel
theorem d_MO_peer_52 : decode b_MO_peer 52 = .ok (.iload_n 1, 1) := by decide +kernel
theorem d_MO_peer_53 : decode b_MO_peer 53 = .ok (.iaload, 1) := by decide +kernel
theorem d_MO_peer_54 : decode b_MO_peer 54 = .ok (.ireturn, 1) := by decide +kernel
theorem d_MO_peer_55 : decode b_MO_peer 55 = .ok (.aload_n 0, 1) := by decide +kernel
theorem d_MO_peer_56 : decode b_MO_peer 56 = .ok (.getfield 22, 3) := by decide +kernel
theorem d_MO_peer_59 : decode b_MO_peer 59 = .ok (.iload_n 1, 1) := by decide +kernel
theorem d_MO_peer_60 : decode b_MO_peer 60 = .ok (.iaload, 1) := by decide +kernel
theorem d_MO_peer_61 : decode b_MO_peer 61 = .ok (.ireturn, 1) := by decide +kernel
theorem d_MO_peer_62 : decode b_MO_peer 62 = .ok (.aload_n 0, 1) := by decide +kernel
theorem d_MO_peer_63 : decode b_MO_peer 63 = .ok (.getfield 25, 3) := by decide +kernel
theorem d_MO_peer_66 : decode b_MO_peer 66 = .ok (.iload_n 1, 1) := by decide +kernel
theorem d_MO_peer_67 : decode b_MO_peer 67 = .ok (.iaload, 1) := by decide +kernel
theorem d_MO_peer_68 : decode b_MO_peer 68 = .ok (.ireturn, 1) := by decide +kernel
theorem d_MO_peer_69 : decode b_MO_peer 69 = .ok (.aload_n 0, 1) := by decide +kernel
theorem d_MO_peer_70 : decode b_MO_peer 70 = .ok (.getfield 28, 3) := by decide +kernel
theorem d_MO_peer_73 : decode b_MO_peer 73 = .ok (.iload_n 1, 1) := by decide +kernel
theorem d_MO_peer_74 : decode b_MO_peer 74 = .ok (.iaload, 1) := by decide +kernel
theorem d_MO_peer_75 : decode b_MO_peer 75 = .ok (.ireturn, 1) := by decide +kernel
theorem d_MO_peer_76 : decode b_MO_peer 76 = .ok (.aload_n 0, 1) := by decide +kernel
theorem d_MO_peer_77 : decode b_MO_peer 77 = .ok (.getfield 37, 3) := by decide +kernel
theorem d_MO_peer_80 : decode b_MO_peer 80 = .ok (.iload_n 1, 1) := by decide +kernel
theorem d_MO_peer_81 : decode b_MO_peer 81 = .ok (.iaload, 1) := by decide +kernel
theorem d_MO_peer_82 : decode b_MO_peer 82 = .ok (.ireturn, 1) := by decide +kernel
theorem d_MO_peer_83 : decode b_MO_peer 83 = .ok (.aload_n 0, 1) := by decide +kernel
theorem d_MO_peer_84 : decode b_MO_peer 84 = .ok (.getfield 43, 3) := by decide +kernel
theorem d_MO_peer_87 : decode b_MO_peer 87 = .ok (.iload_n 1, 1) := by decide +kernel
theorem d_MO_peer_88 : decode b_MO_peer 88 = .ok (.iaload, 1) := by decide +kernel
theorem d_MO_peer_89 : decode b_MO_peer 89 = .ok (.ireturn, 1) := by decide +kernel
theorem d_MO_peer_90 : decode b_MO_peer 90 = .ok (.iconst 0, 1) := by decide +kernel
theorem d_MO_peer_91 : decode b_MO_peer 91 = .ok (.ireturn, 1) := by decide +kernel
theorem d_MO_block_0 : decode b_MO_block 0 = .ok (.iload_n 1, 1) := by decide +kernel
theorem d_MO_block_1 : decode b_MO_block 1 = .ok (.ifCond .lt 21, 3) := by decide +kernel
theorem d_MO_block_4 : decode b_MO_block 4 = .ok (.iload_n 1, 1) := by decide +kernel
theorem d_MO_block_5 : decode b_MO_block 5 = .ok (.aload_n 0, 1) := by decide +kernel
theorem d_MO_block_6 : decode b_MO_block 6 = .ok (.getfield 71, 3) := by decide +kernel
theorem d_MO_block_9 : decode b_MO_block 9 = .ok (.if_icmp .ge 13, 3) := by decide +kernel
theorem d_MO_block_12 : decode b_MO_block 12 = .ok (.iload_n 2, 1) := by decide +kernel
theorem d_MO_block_13 : decode b_MO_block 13 = .ok (.ifCond .lt 9, 3) := by decide +kernel
theorem d_MO_block_16 : decode b_MO_block 16 = .ok (.iload_n 2, 1) := by decide +kernel
theorem d_MO_block_17 : decode b_MO_block 17 = .ok (.bipush 8, 2) := by decide +kernel
theorem d_MO_block_19 : decode b_MO_block 19 = .ok (.if_icmp .le 5, 3) := by decide +kernel
theorem d_MO_block_22 : decode b_MO_block 22 = .ok (.iconst (-1), 1) := by decide +kernel
theorem d_MO_block_23 : decode b_MO_block 23 = .ok (.ireturn, 1) := by decide +kernel
theorem d_MO_block_24 : decode b_MO_block 24 = .ok (.iload_n 2, 1) := by decide +kernel
theorem d_MO_block_25 : decode b_MO_block 25 = .ok (.iconst 5, 1) := by decide +kernel
theorem d_MO_block_26 : decode b_MO_block 26 = .ok (.if_icmp .ge 14, 3) := by decide +kernel
theorem d_MO_block_29 : decode b_MO_block 29 = .ok (.aload_n 0, 1) := by decide +kernel
theorem d_MO_block_30 : decode b_MO_block 30 = .ok (.getfield 7, 3) := by decide +kernel
theorem d_MO_block_33 : decode b_MO_block 33 = .ok (.iconst 5, 1) := by decide +kernel
theorem d_MO_block_34 : decode b_MO_block 34 = .ok (.iload_n 1, 1) := by decide +kernel
theorem d_MO_block_35 : decode b_MO_block 35 = .ok (.imul, 1) := by decide +kernel
theorem d_MO_block_36 : decode b_MO_block 36 = .ok (.iload_n 2, 1) := by decide +kernel
theorem d_MO_block_37 : decode b_MO_block 37 = .ok (.iadd, 1) := by decide +kernel
theorem d_MO_block_38 : decode b_MO_block 38 = .ok (.iaload, 1) := by decide +kernel
theorem d_MO_block_39 : decode b_MO_block 39 = .ok (.ireturn, 1) := by decide +kernel
theorem d_MO_block_40 : decode b_MO_block 40 = .ok (.iload_n 2, 1) := by decide +kernel
theorem d_MO_block_41 : decode b_MO_block 41 = .ok (.iconst 5, 1) := by decide +kernel
theorem d_MO_block_42 : decode b_MO_block 42 = .ok (.if_icmp .ne 12, 3) := by decide +kernel
theorem d_MO_block_45 : decode b_MO_block 45 = .ok (.aload_n 0, 1) := by decide +kernel
theorem d_MO_block_46 : decode b_MO_block 46 = .ok (.iconst 1, 1) := by decide +kernel
theorem d_MO_block_47 : decode b_MO_block 47 = .ok (.iconst 5, 1) := by decide +kernel
theorem d_MO_block_48 : decode b_MO_block 48 = .ok (.iload_n 1, 1) := by decide +kernel
theorem d_MO_block_49 : decode b_MO_block 49 = .ok (.imul, 1) := by decide +kernel
theorem d_MO_block_50 : decode b_MO_block 50 = .ok (.invokevirtual 80, 3) := by decide +kernel
theorem d_MO_block_53 : decode b_MO_block 53 = .ok (.ireturn, 1) := by decide +kernel
theorem d_MO_block_54 : decode b_MO_block 54 = .ok (.iload_n 2, 1) := by decide +kernel
theorem d_MO_block_55 : decode b_MO_block 55 = .ok (.bipush 6, 2) := by decide +kernel
theorem d_MO_block_57 : decode b_MO_block 57 = .ok (.if_icmp .ne 11, 3) := by decide +kernel
theorem d_MO_block_60 : decode b_MO_block 60 = .ok (.aload_n 0, 1) := by decide +kernel
theorem d_MO_block_61 : decode b_MO_block 61 = .ok (.iload_n 1, 1) := by decide +kernel
theorem d_MO_block_62 : decode b_MO_block 62 = .ok (.invokevirtual 95, 3) := by decide +kernel
theorem d_MO_block_65 : decode b_MO_block 65 = .ok (.goto 31, 3) := by decide +kernel
theorem d_MO_block_68 : decode b_MO_block 68 = .ok (.iload_n 2, 1) := by decide +kernel
theorem d_MO_block_69 : decode b_MO_block 69 = .ok (.bipush 7, 2) := by decide +kernel
theorem d_MO_block_71 : decode b_MO_block 71 = .ok (.if_icmp .ne 12, 3) := by decide +kernel
theorem d_MO_block_74 : decode b_MO_block 74 = .ok (.aload_n 0, 1) := by decide +kernel
theorem d_MO_block_75 : decode b_MO_block 75 = .ok (.getfield 16, 3) := by decide +kernel
theorem d_MO_block_78 : decode b_MO_block 78 = .ok (.iload_n 1, 1) := by decide +kernel
theorem d_MO_block_79 : decode b_MO_block 79 = .ok (.iaload, 1) := by decide +kernel
theorem d_MO_block_80 : decode b_MO_block 80 = .ok (.goto 16, 3) := by decide +kernel
theorem d_MO_block_83 : decode b_MO_block 83 = .ok (.aload_n 0, 1) := by decide +kernel
theorem d_MO_block_84 : decode b_MO_block 84 = .ok (.iload_n 1, 1) := by decide +kernel
theorem d_MO_block_85 : decode b_MO_block 85 = .ok (.invokevirtual 91, 3) := by decide +kernel
theorem d_MO_block_88 : decode b_MO_block 88 = .ok (.ifCond .eq 7, 3) := by decide +kernel
theorem d_MO_block_91 : decode b_MO_block 91 = .ok (.iconst 1, 1) := by decide +kernel
theorem d_MO_block_92 : decode b_MO_block 92 = .ok (.goto 4, 3) := by decide +kernel
theorem d_MO_block_95 : decode b_MO_block 95 = .ok (.iconst 0, 1) := by decide +kernel
theorem d_MO_block_96 : decode b_MO_block 96 = .ok (.ireturn, 1) := by decide +kernel
theorem d_MO_tx_0 : decode b_MO_tx 0 = .ok (.iload_n 1, 1) := by decide +kernel
theorem d_MO_tx_1 : decode b_MO_tx 1 = .ok (.ifCond .lt 25, 3) := by decide +kernel
theorem d_MO_tx_4 : decode b_MO_tx 4 = .ok (.iload_n 1, 1) := by decide +kernel
theorem d_MO_tx_5 : decode b_MO_tx 5 = .ok (.aload_n 0, 1) := by decide +kernel
theorem d_MO_tx_6 : decode b_MO_tx 6 = .ok (.getfield 71, 3) := by decide +kernel
theorem d_MO_tx_9 : decode b_MO_tx 9 = .ok (.if_icmp .ge 17, 3) := by decide +kernel
theorem d_MO_tx_12 : decode b_MO_tx 12 = .ok (.iload_n 2, 1) := by decide +kernel
theorem d_MO_tx_13 : decode b_MO_tx 13 = .ok (.ifCond .lt 13, 3) := by decide +kernel
theorem d_MO_tx_16 : decode b_MO_tx 16 = .ok (.iload_n 2, 1) := by decide +kernel
theorem d_MO_tx_17 : decode b_MO_tx 17 = .ok (.aload_n 0, 1) := by decide +kernel
theorem d_MO_tx_18 : decode b_MO_tx 18 = .ok (.getfield 16, 3) := by decide +kernel
theorem d_MO_tx_21 : decode b_MO_tx 21 = .ok (.iload_n 1, 1) := by decide +kernel
theorem d_MO_tx_22 : decode b_MO_tx 22 = .ok (.iaload, 1) := by decide +kernel
theorem d_MO_tx_23 : decode b_MO_tx 23 = .ok (.if_icmp .lt 7, 3) := by decide +kernel
theorem d_MO_tx_26 : decode b_MO_tx 26 = .ok (.iconst (-1), 1) := by decide +kernel
theorem d_MO_tx_27 : decode b_MO_tx 27 = .ok (.goto 14, 3) := by decide +kernel
theorem d_MO_tx_30 : decode b_MO_tx 30 = .ok (.aload_n 0, 1) := by decide +kernel
theorem d_MO_tx_31 : decode b_MO_tx 31 = .ok (.getfield 13, 3) := by decide +kernel
theorem d_MO_tx_34 : decode b_MO_tx 34 = .ok (.bipush 8, 2) := by decide +kernel
theorem d_MO_tx_36 : decode b_MO_tx 36 = .ok (.iload_n 1, 1) := by decide +kernel
theorem d_MO_tx_37 : decode b_MO_tx 37 = .ok (.imul, 1) := by decide +kernel
theorem d_MO_tx_38 : decode b_MO_tx 38 = .ok (.iload_n 2, 1) := by decide +kernel
theorem d_MO_tx_39 : decode b_MO_tx 39 = .ok (.iadd, 1) := by decide +kernel
theorem d_MO_tx_40 : decode b_MO_tx 40 = .ok (.iaload, 1) := by decide +kernel
theorem d_MO_tx_41 : decode b_MO_tx 41 = .ok (.ireturn, 1) := by decide +kernel
theorem d_MO_state_0 : decode b_MO_state 0 = .ok (.iload_n 1, 1) := by decide +kernel
theorem d_MO_state_1 : decode b_MO_state 1 = .ok (.ifCond .ne 10, 3) := by decide +kernel
theorem d_MO_state_4 : decode b_MO_state 4 = .ok (.aload_n 0, 1) := by decide +kernel
theorem d_MO_state_5 : decode b_MO_state 5 = .ok (.getfield 71, 3) := by decide +kernel
theorem d_MO_state_8 : decode b_MO_state 8 = .ok (.goto 54, 3) := by decide +kernel
theorem d_MO_state_11 : decode b_MO_state 11 = .ok (.iload_n 1, 1) := by decide +kernel
theorem d_MO_state_12 : decode b_MO_state 12 = .ok (.iconst 1, 1) := by decide +kernel
theorem d_MO_state_13 : decode b_MO_state 13 = .ok (.if_icmp .ne 11, 3) := by decide +kernel
theorem d_MO_state_16 : decode b_MO_state 16 = .ok (.aload_n 0, 1) := by decide +kernel
theorem d_MO_state_17 : decode b_MO_state 17 = .ok (.iconst 0, 1) := by decide +kernel
theorem d_MO_state_18 : decode b_MO_state 18 = .ok (.invokevirtual 98, 3) := by decide +kernel
theorem d_MO_state_21 : decode b_MO_state 21 = .ok (.goto 41, 3) := by decide +kernel
theorem d_MO_state_24 : decode b_MO_state 24 = .ok (.iload_n 1, 1) := by decide +kernel
theorem d_MO_state_25 : decode b_MO_state 25 = .ok (.iconst 2, 1) := by decide +kernel
theorem d_MO_state_26 : decode b_MO_state 26 = .ok (.if_icmp .ne 11, 3) := by decide +kernel
theorem d_MO_state_29 : decode b_MO_state 29 = .ok (.aload_n 0, 1) := by decide +kernel
theorem d_MO_state_30 : decode b_MO_state 30 = .ok (.iconst 1, 1) := by decide +kernel
theorem d_MO_state_31 : decode b_MO_state 31 = .ok (.invokevirtual 98, 3) := by decide +kernel
theorem d_MO_state_34 : decode b_MO_state 34 = .ok (.goto 28, 3) := by decide +kernel
theorem d_MO_state_37 : decode b_MO_state 37 = .ok (.iload_n 1, 1) := by decide +kernel
theorem d_MO_state_38 : decode b_MO_state 38 = .ok (.iconst 3, 1) := by decide +kernel
theorem d_MO_state_39 : decode b_MO_state 39 = .ok (.if_icmp .ne 10, 3) := by decide +kernel
theorem d_MO_state_42 : decode b_MO_state 42 = .ok (.aload_n 0, 1) := by decide +kernel
theorem d_MO_state_43 : decode b_MO_state 43 = .ok (.getfield 196, 3) := by decide +kernel
theorem d_MO_state_46 : decode b_MO_state 46 = .ok (.goto 16, 3) := by decide +kernel
theorem d_MO_state_49 : decode b_MO_state 49 = .ok (.iload_n 1, 1) := by decide +kernel
theorem d_MO_state_50 : decode b_MO_state 50 = .ok (.iconst 4, 1) := by decide +kernel
theorem d_MO_state_51 : decode b_MO_state 51 = .ok (.if_icmp .ne 10, 3) := by decide +kernel
theorem d_MO_state_54 : decode b_MO_state 54 = .ok (.aload_n 0, 1) := by decide +kernel
theorem d_MO_state_55 : decode b_MO_state 55 = .ok (.getfield 193, 3) := by decide +kernel
theorem d_MO_state_58 : decode b_MO_state 58 = .ok (.goto 4, 3) := by decide +kernel
theorem d_MO_state_61 : decode b_MO_state 61 = .ok (.iconst (-1), 1) := by decide +kernel
theorem d_MO_state_62 : decode b_MO_state 62 = .ok (.ireturn, 1) := by decide +kernel
