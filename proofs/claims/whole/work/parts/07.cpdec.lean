theorem d_CP_isPeer_0 : decode b_CP_isPeer 0 = .ok (.iload_n 0, 1) := by decide +kernel
theorem d_CP_isPeer_1 : decode b_CP_isPeer 1 = .ok (.ifCond .lt 12, 3) := by decide +kernel
theorem d_CP_isPeer_4 : decode b_CP_isPeer 4 = .ok (.iload_n 0, 1) := by decide +kernel
theorem d_CP_isPeer_5 : decode b_CP_isPeer 5 = .ok (.iconst 4, 1) := by decide +kernel
theorem d_CP_isPeer_6 : decode b_CP_isPeer 6 = .ok (.if_icmp .ge 7, 3) := by decide +kernel
theorem d_CP_isPeer_9 : decode b_CP_isPeer 9 = .ok (.iconst 1, 1) := by decide +kernel
theorem d_CP_isPeer_10 : decode b_CP_isPeer 10 = .ok (.goto 4, 3) := by decide +kernel
theorem d_CP_isPeer_13 : decode b_CP_isPeer 13 = .ok (.iconst 0, 1) := by decide +kernel
theorem d_CP_isPeer_14 : decode b_CP_isPeer 14 = .ok (.ireturn, 1) := by decide +kernel
theorem d_Peer_startGreeting_0 : decode b_Peer_startGreeting 0 = .ok (.aload_n 0, 1) := by decide +kernel
theorem d_Peer_startGreeting_1 : decode b_Peer_startGreeting 1 = .ok (.iconst 1, 1) := by decide +kernel
theorem d_Peer_startGreeting_2 : decode b_Peer_startGreeting 2 = .ok (.putfield 9, 3) := by decide +kernel
theorem d_Peer_startGreeting_5 : decode b_Peer_startGreeting 5 = .ok (.aload_n 0, 1) := by decide +kernel
theorem d_Peer_startGreeting_6 : decode b_Peer_startGreeting 6 = .ok (.iconst 0, 1) := by decide +kernel
theorem d_Peer_startGreeting_7 : decode b_Peer_startGreeting 7 = .ok (.putfield 25, 3) := by decide +kernel
theorem d_Peer_startGreeting_10 : decode b_Peer_startGreeting 10 = .ok (.aload_n 0, 1) := by decide +kernel
theorem d_Peer_startGreeting_11 : decode b_Peer_startGreeting 11 = .ok (.iconst 0, 1) := by decide +kernel
theorem d_Peer_startGreeting_12 : decode b_Peer_startGreeting 12 = .ok (.putfield 28, 3) := by decide +kernel
theorem d_Peer_startGreeting_15 : decode b_Peer_startGreeting 15 = .ok (.return_, 1) := by decide +kernel
theorem d_Bytes_add_0 : decode b_Bytes_add 0 = .ok (.aload_n 0, 1) := by decide +kernel
theorem d_Bytes_add_1 : decode b_Bytes_add 1 = .ok (.getfield 15, 3) := by decide +kernel
theorem d_Bytes_add_4 : decode b_Bytes_add 4 = .ok (.bipush 56, 2) := by decide +kernel
theorem d_Bytes_add_6 : decode b_Bytes_add 6 = .ok (.if_icmp .ge 23, 3) := by decide +kernel
theorem d_Bytes_add_9 : decode b_Bytes_add 9 = .ok (.aload_n 0, 1) := by decide +kernel
theorem d_Bytes_add_10 : decode b_Bytes_add 10 = .ok (.getfield 9, 3) := by decide +kernel
theorem d_Bytes_add_13 : decode b_Bytes_add 13 = .ok (.aload_n 0, 1) := by decide +kernel
theorem d_Bytes_add_14 : decode b_Bytes_add 14 = .ok (.getfield 15, 3) := by decide +kernel
theorem d_Bytes_add_17 : decode b_Bytes_add 17 = .ok (.iload_n 1, 1) := by decide +kernel
theorem d_Bytes_add_18 : decode b_Bytes_add 18 = .ok (.iastore, 1) := by decide +kernel
theorem d_Bytes_add_19 : decode b_Bytes_add 19 = .ok (.aload_n 0, 1) := by decide +kernel
theorem d_Bytes_add_20 : decode b_Bytes_add 20 = .ok (.dup, 1) := by decide +kernel
theorem d_Bytes_add_21 : decode b_Bytes_add 21 = .ok (.getfield 15, 3) := by decide +kernel
theorem d_Bytes_add_24 : decode b_Bytes_add 24 = .ok (.iconst 1, 1) := by decide +kernel
theorem d_Bytes_add_25 : decode b_Bytes_add 25 = .ok (.iadd, 1) := by decide +kernel
theorem d_Bytes_add_26 : decode b_Bytes_add 26 = .ok (.putfield 15, 3) := by decide +kernel
theorem d_Bytes_add_29 : decode b_Bytes_add 29 = .ok (.return_, 1) := by decide +kernel
theorem d_Bytes_beginList_0 : decode b_Bytes_beginList 0 = .ok (.aload_n 0, 1) := by decide +kernel
theorem d_Bytes_beginList_1 : decode b_Bytes_beginList 1 = .ok (.getfield 15, 3) := by decide +kernel
theorem d_Bytes_beginList_4 : decode b_Bytes_beginList 4 = .ok (.istore_n 1, 1) := by decide +kernel
theorem d_Bytes_beginList_5 : decode b_Bytes_beginList 5 = .ok (.aload_n 0, 1) := by decide +kernel
theorem d_Bytes_beginList_6 : decode b_Bytes_beginList 6 = .ok (.sipush 192, 3) := by decide +kernel
theorem d_Bytes_beginList_9 : decode b_Bytes_beginList 9 = .ok (.invokevirtual 33, 3) := by decide +kernel
theorem d_Bytes_beginList_12 : decode b_Bytes_beginList 12 = .ok (.iload_n 1, 1) := by decide +kernel
theorem d_Bytes_beginList_13 : decode b_Bytes_beginList 13 = .ok (.ireturn, 1) := by decide +kernel
theorem d_Bytes_codeLength_0 : decode b_Bytes_codeLength 0 = .ok (.iload_n 0, 1) := by decide +kernel
theorem d_Bytes_codeLength_1 : decode b_Bytes_codeLength 1 = .ok (.sipush 128, 3) := by decide +kernel
theorem d_Bytes_codeLength_4 : decode b_Bytes_codeLength 4 = .ok (.if_icmp .ge 5, 3) := by decide +kernel
theorem d_Bytes_codeLength_7 : decode b_Bytes_codeLength 7 = .ok (.iconst 1, 1) := by decide +kernel
theorem d_Bytes_codeLength_8 : decode b_Bytes_codeLength 8 = .ok (.ireturn, 1) := by decide +kernel
theorem d_Bytes_codeLength_9 : decode b_Bytes_codeLength 9 = .ok (.iload_n 0, 1) := by decide +kernel
theorem d_Bytes_codeLength_10 : decode b_Bytes_codeLength 10 = .ok (.sipush 256, 3) := by decide +kernel
theorem d_Bytes_codeLength_13 : decode b_Bytes_codeLength 13 = .ok (.if_icmp .ge 5, 3) := by decide +kernel
theorem d_Bytes_codeLength_16 : decode b_Bytes_codeLength 16 = .ok (.iconst 2, 1) := by decide +kernel
theorem d_Bytes_codeLength_17 : decode b_Bytes_codeLength 17 = .ok (.ireturn, 1) := by decide +kernel
theorem d_Bytes_codeLength_18 : decode b_Bytes_codeLength 18 = .ok (.iload_n 0, 1) := by decide +kernel
theorem d_Bytes_codeLength_19 : decode b_Bytes_codeLength 19 = .ok (.ldc 43, 2) := by decide +kernel
theorem d_Bytes_codeLength_21 : decode b_Bytes_codeLength 21 = .ok (.if_icmp .ge 5, 3) := by decide +kernel
theorem d_Bytes_codeLength_24 : decode b_Bytes_codeLength 24 = .ok (.iconst 3, 1) := by decide +kernel
theorem d_Bytes_codeLength_25 : decode b_Bytes_codeLength 25 = .ok (.ireturn, 1) := by decide +kernel
theorem d_Bytes_codeLength_26 : decode b_Bytes_codeLength 26 = .ok (.iload_n 0, 1) := by decide +kernel
theorem d_Bytes_codeLength_27 : decode b_Bytes_codeLength 27 = .ok (.ldc 44, 2) := by decide +kernel
theorem d_Bytes_codeLength_29 : decode b_Bytes_codeLength 29 = .ok (.if_icmp .ge 7, 3) := by decide +kernel
theorem d_Bytes_codeLength_32 : decode b_Bytes_codeLength 32 = .ok (.iconst 4, 1) := by decide +kernel
theorem d_Bytes_codeLength_33 : decode b_Bytes_codeLength 33 = .ok (.goto 4, 3) := by decide +kernel
theorem d_Bytes_codeLength_36 : decode b_Bytes_codeLength 36 = .ok (.iconst 5, 1) := by decide +kernel
theorem d_Bytes_codeLength_37 : decode b_Bytes_codeLength 37 = .ok (.ireturn, 1) := by decide +kernel
theorem d_Bytes_addNumber_0 : decode b_Bytes_addNumber 0 = .ok (.iload_n 1, 1) := by decide +kernel
theorem d_Bytes_addNumber_1 : decode b_Bytes_addNumber 1 = .ok (.invokestatic 39, 3) := by decide +kernel
theorem d_Bytes_addNumber_4 : decode b_Bytes_addNumber 4 = .ok (.iconst 1, 1) := by decide +kernel
theorem d_Bytes_addNumber_5 : decode b_Bytes_addNumber 5 = .ok (.isub, 1) := by decide +kernel
theorem d_Bytes_addNumber_6 : decode b_Bytes_addNumber 6 = .ok (.istore_n 2, 1) := by decide +kernel
theorem d_Bytes_addNumber_7 : decode b_Bytes_addNumber 7 = .ok (.iload_n 2, 1) := by decide +kernel
theorem d_Bytes_addNumber_8 : decode b_Bytes_addNumber 8 = .ok (.ifCond .ne 19, 3) := by decide +kernel
theorem d_Bytes_addNumber_11 : decode b_Bytes_addNumber 11 = .ok (.aload_n 0, 1) := by decide +kernel
theorem d_Bytes_addNumber_12 : decode b_Bytes_addNumber 12 = .ok (.iload_n 1, 1) := by decide +kernel
theorem d_Bytes_addNumber_13 : decode b_Bytes_addNumber 13 = .ok (.ifCond .ne 9, 3) := by decide +kernel
theorem d_Bytes_addNumber_16 : decode b_Bytes_addNumber 16 = .ok (.sipush 128, 3) := by decide +kernel
theorem d_Bytes_addNumber_19 : decode b_Bytes_addNumber 19 = .ok (.goto 4, 3) := by decide +kernel
theorem d_Bytes_addNumber_22 : decode b_Bytes_addNumber 22 = .ok (.iload_n 1, 1) := by decide +kernel
theorem d_Bytes_addNumber_23 : decode b_Bytes_addNumber 23 = .ok (.invokevirtual 33, 3) := by decide +kernel
theorem d_Bytes_addNumber_26 : decode b_Bytes_addNumber 26 = .ok (.return_, 1) := by decide +kernel
theorem d_Bytes_addNumber_27 : decode b_Bytes_addNumber 27 = .ok (.aload_n 0, 1) := by decide +kernel
theorem d_Bytes_addNumber_28 : decode b_Bytes_addNumber 28 = .ok (.sipush 128, 3) := by decide +kernel
theorem d_Bytes_addNumber_31 : decode b_Bytes_addNumber 31 = .ok (.iload_n 2, 1) := by decide +kernel
theorem d_Bytes_addNumber_32 : decode b_Bytes_addNumber 32 = .ok (.iadd, 1) := by decide +kernel
theorem d_Bytes_addNumber_33 : decode b_Bytes_addNumber 33 = .ok (.invokevirtual 33, 3) := by decide +kernel
theorem d_Bytes_addNumber_36 : decode b_Bytes_addNumber 36 = .ok (.iload_n 2, 1) := by decide +kernel
theorem d_Bytes_addNumber_37 : decode b_Bytes_addNumber 37 = .ok (.iconst 1, 1) := by decide +kernel
theorem d_Bytes_addNumber_38 : decode b_Bytes_addNumber 38 = .ok (.isub, 1) := by decide +kernel
theorem d_Bytes_addNumber_39 : decode b_Bytes_addNumber 39 = .ok (.istore_n 3, 1) := by decide +kernel
theorem d_Bytes_addNumber_40 : decode b_Bytes_addNumber 40 = .ok (.iload_n 3, 1) := by decide +kernel
theorem d_Bytes_addNumber_41 : decode b_Bytes_addNumber 41 = .ok (.ifCond .lt 23, 3) := by decide +kernel
theorem d_Bytes_addNumber_44 : decode b_Bytes_addNumber 44 = .ok (.aload_n 0, 1) := by decide +kernel
theorem d_Bytes_addNumber_45 : decode b_Bytes_addNumber 45 = .ok (.iload_n 1, 1) := by decide +kernel
theorem d_Bytes_addNumber_46 : decode b_Bytes_addNumber 46 = .ok (.bipush 8, 2) := by decide +kernel
theorem d_Bytes_addNumber_48 : decode b_Bytes_addNumber 48 = .ok (.iload_n 3, 1) := by decide +kernel
theorem d_Bytes_addNumber_49 : decode b_Bytes_addNumber 49 = .ok (.imul, 1) := by decide +kernel
theorem d_Bytes_addNumber_50 : decode b_Bytes_addNumber 50 = .ok (.iushr, 1) := by decide +kernel
theorem d_Bytes_addNumber_51 : decode b_Bytes_addNumber 51 = .ok (.sipush 255, 3) := by decide +kernel
theorem d_Bytes_addNumber_54 : decode b_Bytes_addNumber 54 = .ok (.iand, 1) := by decide +kernel
theorem d_Bytes_addNumber_55 : decode b_Bytes_addNumber 55 = .ok (.invokevirtual 33, 3) := by decide +kernel
theorem d_Bytes_addNumber_58 : decode b_Bytes_addNumber 58 = .ok (.iinc 3 (-1), 3) := by decide +kernel
theorem d_Bytes_addNumber_61 : decode b_Bytes_addNumber 61 = .ok (.goto (-21), 3) := by decide +kernel
theorem d_Bytes_addNumber_64 : decode b_Bytes_addNumber 64 = .ok (.return_, 1) := by decide +kernel
theorem d_Bytes_begin_0 : decode b_Bytes_begin 0 = .ok (.aload_n 0, 1) := by decide +kernel
theorem d_Bytes_begin_1 : decode b_Bytes_begin 1 = .ok (.iconst 0, 1) := by decide +kernel
theorem d_Bytes_begin_2 : decode b_Bytes_begin 2 = .ok (.putfield 15, 3) := by decide +kernel
theorem d_Bytes_begin_5 : decode b_Bytes_begin 5 = .ok (.aload_n 0, 1) := by decide +kernel
theorem d_Bytes_begin_6 : decode b_Bytes_begin 6 = .ok (.invokevirtual 25, 3) := by decide +kernel
theorem d_Bytes_begin_9 : decode b_Bytes_begin 9 = .ok (.pop, 1) := by decide +kernel
theorem d_Bytes_begin_10 : decode b_Bytes_begin 10 = .ok (.aload_n 0, 1) := by decide +kernel
theorem d_Bytes_begin_11 : decode b_Bytes_begin 11 = .ok (.iload_n 1, 1) := by decide +kernel
theorem d_Bytes_begin_12 : decode b_Bytes_begin 12 = .ok (.invokevirtual 29, 3) := by decide +kernel
theorem d_Bytes_begin_15 : decode b_Bytes_begin 15 = .ok (.return_, 1) := by decide +kernel
theorem d_Blocks_head_0 : decode b_Blocks_head 0 = .ok (.iconst 0, 1) := by decide +kernel
theorem d_Blocks_head_1 : decode b_Blocks_head 1 = .ok (.istore_n 1, 1) := by decide +kernel
theorem d_Blocks_head_2 : decode b_Blocks_head 2 = .ok (.iconst 1, 1) := by decide +kernel
theorem d_Blocks_head_3 : decode b_Blocks_head 3 = .ok (.istore_n 2, 1) := by decide +kernel
theorem d_Blocks_head_4 : decode b_Blocks_head 4 = .ok (.iload_n 2, 1) := by decide +kernel
theorem d_Blocks_head_5 : decode b_Blocks_head 5 = .ok (.aload_n 0, 1) := by decide +kernel
theorem d_Blocks_head_6 : decode b_Blocks_head 6 = .ok (.getfield 40, 3) := by decide +kernel
theorem d_Blocks_head_9 : decode b_Blocks_head 9 = .ok (.if_icmp .ge 35, 3) := by decide +kernel
theorem d_Blocks_head_12 : decode b_Blocks_head 12 = .ok (.aload_n 0, 1) := by decide +kernel
theorem d_Blocks_head_13 : decode b_Blocks_head 13 = .ok (.getfield 32, 3) := by decide +kernel
theorem d_Blocks_head_16 : decode b_Blocks_head 16 = .ok (.iload_n 2, 1) := by decide +kernel
theorem d_Blocks_head_17 : decode b_Blocks_head 17 = .ok (.baload, 1) := by decide +kernel
theorem d_Blocks_head_18 : decode b_Blocks_head 18 = .ok (.ifCond .eq 20, 3) := by decide +kernel
theorem d_Blocks_head_21 : decode b_Blocks_head 21 = .ok (.aload_n 0, 1) := by decide +kernel
theorem d_Blocks_head_22 : decode b_Blocks_head 22 = .ok (.getfield 23, 3) := by decide +kernel
theorem d_Blocks_head_25 : decode b_Blocks_head 25 = .ok (.iload_n 2, 1) := by decide +kernel
theorem d_Blocks_head_26 : decode b_Blocks_head 26 = .ok (.iaload, 1) := by decide +kernel
theorem d_Blocks_head_27 : decode b_Blocks_head 27 = .ok (.aload_n 0, 1) := by decide +kernel
theorem d_Blocks_head_28 : decode b_Blocks_head 28 = .ok (.getfield 23, 3) := by decide +kernel
theorem d_Blocks_head_31 : decode b_Blocks_head 31 = .ok (.iload_n 1, 1) := by decide +kernel
theorem d_Blocks_head_32 : decode b_Blocks_head 32 = .ok (.iaload, 1) := by decide +kernel
theorem d_Blocks_head_33 : decode b_Blocks_head 33 = .ok (.if_icmp .le 5, 3) := by decide +kernel
theorem d_Blocks_head_36 : decode b_Blocks_head 36 = .ok (.iload_n 2, 1) := by decide +kernel
theorem d_Blocks_head_37 : decode b_Blocks_head 37 = .ok (.istore_n 1, 1) := by decide +kernel
theorem d_Blocks_head_38 : decode b_Blocks_head 38 = .ok (.iinc 2 1, 3) := by decide +kernel
theorem d_Blocks_head_41 : decode b_Blocks_head 41 = .ok (.goto (-37), 3) := by decide +kernel
theorem d_Blocks_head_44 : decode b_Blocks_head 44 = .ok (.iload_n 1, 1) := by decide +kernel
theorem d_Blocks_head_45 : decode b_Blocks_head 45 = .ok (.ireturn, 1) := by decide +kernel
theorem d_Blocks_numberOf_0 : decode b_Blocks_numberOf 0 = .ok (.aload_n 0, 1) := by decide +kernel
theorem d_Blocks_numberOf_1 : decode b_Blocks_numberOf 1 = .ok (.getfield 11, 3) := by decide +kernel
theorem d_Blocks_numberOf_4 : decode b_Blocks_numberOf 4 = .ok (.iload_n 1, 1) := by decide +kernel
theorem d_Blocks_numberOf_5 : decode b_Blocks_numberOf 5 = .ok (.aaload, 1) := by decide +kernel
theorem d_Blocks_numberOf_6 : decode b_Blocks_numberOf 6 = .ok (.iconst 1, 1) := by decide +kernel
theorem d_Blocks_numberOf_7 : decode b_Blocks_numberOf 7 = .ok (.iaload, 1) := by decide +kernel
theorem d_Blocks_numberOf_8 : decode b_Blocks_numberOf 8 = .ok (.ireturn, 1) := by decide +kernel
theorem d_Bytes_endList_0 : decode b_Bytes_endList 0 = .ok (.iload_n 1, 1) := by decide +kernel
theorem d_Bytes_endList_1 : decode b_Bytes_endList 1 = .ok (.ifCond .lt 29, 3) := by decide +kernel
theorem d_Bytes_endList_4 : decode b_Bytes_endList 4 = .ok (.iload_n 1, 1) := by decide +kernel
theorem d_Bytes_endList_5 : decode b_Bytes_endList 5 = .ok (.aload_n 0, 1) := by decide +kernel
theorem d_Bytes_endList_6 : decode b_Bytes_endList 6 = .ok (.getfield 15, 3) := by decide +kernel
theorem d_Bytes_endList_9 : decode b_Bytes_endList 9 = .ok (.if_icmp .ge 21, 3) := by decide +kernel
theorem d_Bytes_endList_12 : decode b_Bytes_endList 12 = .ok (.aload_n 0, 1) := by decide +kernel
theorem d_Bytes_endList_13 : decode b_Bytes_endList 13 = .ok (.getfield 9, 3) := by decide +kernel
theorem d_Bytes_endList_16 : decode b_Bytes_endList 16 = .ok (.iload_n 1, 1) := by decide +kernel
theorem d_Bytes_endList_17 : decode b_Bytes_endList 17 = .ok (.sipush 192, 3) := by decide +kernel
theorem d_Bytes_endList_20 : decode b_Bytes_endList 20 = .ok (.aload_n 0, 1) := by decide +kernel
theorem d_Bytes_endList_21 : decode b_Bytes_endList 21 = .ok (.getfield 15, 3) := by decide +kernel
theorem d_Bytes_endList_24 : decode b_Bytes_endList 24 = .ok (.iadd, 1) := by decide +kernel
theorem d_Bytes_endList_25 : decode b_Bytes_endList 25 = .ok (.iload_n 1, 1) := by decide +kernel
theorem d_Bytes_endList_26 : decode b_Bytes_endList 26 = .ok (.isub, 1) := by decide +kernel
theorem d_Bytes_endList_27 : decode b_Bytes_endList 27 = .ok (.iconst 1, 1) := by decide +kernel
theorem d_Bytes_endList_28 : decode b_Bytes_endList 28 = .ok (.isub, 1) := by decide +kernel
theorem d_Bytes_endList_29 : decode b_Bytes_endList 29 = .ok (.iastore, 1) := by decide +kernel
theorem d_Bytes_endList_30 : decode b_Bytes_endList 30 = .ok (.return_, 1) := by decide +kernel
theorem d_Bytes_copyFrom_0 : decode b_Bytes_copyFrom 0 = .ok (.aload_n 1, 1) := by decide +kernel
theorem d_Bytes_copyFrom_1 : decode b_Bytes_copyFrom 1 = .ok (.getfield 9, 3) := by decide +kernel
theorem d_Bytes_copyFrom_4 : decode b_Bytes_copyFrom 4 = .ok (.iconst 0, 1) := by decide +kernel
theorem d_Bytes_copyFrom_5 : decode b_Bytes_copyFrom 5 = .ok (.aload_n 0, 1) := by decide +kernel
theorem d_Bytes_copyFrom_6 : decode b_Bytes_copyFrom 6 = .ok (.getfield 9, 3) := by decide +kernel
theorem d_Bytes_copyFrom_9 : decode b_Bytes_copyFrom 9 = .ok (.iconst 0, 1) := by decide +kernel
theorem d_Bytes_copyFrom_10 : decode b_Bytes_copyFrom 10 = .ok (.bipush 56, 2) := by decide +kernel
theorem d_Bytes_copyFrom_12 : decode b_Bytes_copyFrom 12 = .ok (.invokestatic 19, 3) := by decide +kernel
theorem d_Bytes_copyFrom_15 : decode b_Bytes_copyFrom 15 = .ok (.aload_n 0, 1) := by decide +kernel
theorem d_Bytes_copyFrom_16 : decode b_Bytes_copyFrom 16 = .ok (.aload_n 1, 1) := by decide +kernel
theorem d_Bytes_copyFrom_17 : decode b_Bytes_copyFrom 17 = .ok (.getfield 15, 3) := by decide +kernel
theorem d_Bytes_copyFrom_20 : decode b_Bytes_copyFrom 20 = .ok (.putfield 15, 3) := by decide +kernel
theorem d_Bytes_copyFrom_23 : decode b_Bytes_copyFrom 23 = .ok (.return_, 1) := by decide +kernel
theorem d_Peer_addToOutbox_0 : decode b_Peer_addToOutbox 0 = .ok (.aload_n 0, 1) := by decide +kernel
theorem d_Peer_addToOutbox_1 : decode b_Peer_addToOutbox 1 = .ok (.getfield 31, 3) := by decide +kernel
theorem d_Peer_addToOutbox_4 : decode b_Peer_addToOutbox 4 = .ok (.iconst 4, 1) := by decide +kernel
theorem d_Peer_addToOutbox_5 : decode b_Peer_addToOutbox 5 = .ok (.if_icmp .ge 26, 3) := by decide +kernel
theorem d_Peer_addToOutbox_8 : decode b_Peer_addToOutbox 8 = .ok (.aload_n 0, 1) := by decide +kernel
theorem d_Peer_addToOutbox_9 : decode b_Peer_addToOutbox 9 = .ok (.getfield 17, 3) := by decide +kernel
theorem d_Peer_addToOutbox_12 : decode b_Peer_addToOutbox 12 = .ok (.aload_n 0, 1) := by decide +kernel
theorem d_Peer_addToOutbox_13 : decode b_Peer_addToOutbox 13 = .ok (.getfield 31, 3) := by decide +kernel
theorem d_Peer_addToOutbox_16 : decode b_Peer_addToOutbox 16 = .ok (.aaload, 1) := by decide +kernel
theorem d_Peer_addToOutbox_17 : decode b_Peer_addToOutbox 17 = .ok (.aload_n 1, 1) := by decide +kernel
theorem d_Peer_addToOutbox_18 : decode b_Peer_addToOutbox 18 = .ok (.invokevirtual 59, 3) := by decide +kernel
theorem d_Peer_addToOutbox_21 : decode b_Peer_addToOutbox 21 = .ok (.aload_n 0, 1) := by decide +kernel
theorem d_Peer_addToOutbox_22 : decode b_Peer_addToOutbox 22 = .ok (.dup, 1) := by decide +kernel
theorem d_Peer_addToOutbox_23 : decode b_Peer_addToOutbox 23 = .ok (.getfield 31, 3) := by decide +kernel
theorem d_Peer_addToOutbox_26 : decode b_Peer_addToOutbox 26 = .ok (.iconst 1, 1) := by decide +kernel
theorem d_Peer_addToOutbox_27 : decode b_Peer_addToOutbox 27 = .ok (.iadd, 1) := by decide +kernel
theorem d_Peer_addToOutbox_28 : decode b_Peer_addToOutbox 28 = .ok (.putfield 31, 3) := by decide +kernel
theorem d_Peer_addToOutbox_31 : decode b_Peer_addToOutbox 31 = .ok (.return_, 1) := by decide +kernel
theorem d_CP_sendDraft_0 : decode b_CP_sendDraft 0 = .ok (.aload_n 0, 1) := by decide +kernel
theorem d_CP_sendDraft_1 : decode b_CP_sendDraft 1 = .ok (.getfield 16, 3) := by decide +kernel
theorem d_CP_sendDraft_4 : decode b_CP_sendDraft 4 = .ok (.iconst 0, 1) := by decide +kernel
theorem d_CP_sendDraft_5 : decode b_CP_sendDraft 5 = .ok (.invokevirtual 269, 3) := by decide +kernel
theorem d_CP_sendDraft_8 : decode b_CP_sendDraft 8 = .ok (.aload_n 1, 1) := by decide +kernel
theorem d_CP_sendDraft_9 : decode b_CP_sendDraft 9 = .ok (.aload_n 0, 1) := by decide +kernel
theorem d_CP_sendDraft_10 : decode b_CP_sendDraft 10 = .ok (.getfield 16, 3) := by decide +kernel
theorem d_CP_sendDraft_13 : decode b_CP_sendDraft 13 = .ok (.invokevirtual 284, 3) := by decide +kernel
theorem d_CP_sendDraft_16 : decode b_CP_sendDraft 16 = .ok (.return_, 1) := by decide +kernel
theorem d_CP_sendHello_0 : decode b_CP_sendHello 0 = .ok (.aload_n 0, 1) := by decide +kernel
theorem d_CP_sendHello_1 : decode b_CP_sendHello 1 = .ok (.getfield 16, 3) := by decide +kernel
theorem d_CP_sendHello_4 : decode b_CP_sendHello 4 = .ok (.iconst 0, 1) := by decide +kernel
theorem d_CP_sendHello_5 : decode b_CP_sendHello 5 = .ok (.invokevirtual 247, 3) := by decide +kernel
theorem d_CP_sendHello_8 : decode b_CP_sendHello 8 = .ok (.aload_n 0, 1) := by decide +kernel
theorem d_CP_sendHello_9 : decode b_CP_sendHello 9 = .ok (.getfield 16, 3) := by decide +kernel
theorem d_CP_sendHello_12 : decode b_CP_sendHello 12 = .ok (.aload_n 0, 1) := by decide +kernel
theorem d_CP_sendHello_13 : decode b_CP_sendHello 13 = .ok (.getfield 52, 3) := by decide +kernel
theorem d_CP_sendHello_16 : decode b_CP_sendHello 16 = .ok (.invokevirtual 250, 3) := by decide +kernel
theorem d_CP_sendHello_19 : decode b_CP_sendHello 19 = .ok (.aload_n 0, 1) := by decide +kernel
theorem d_CP_sendHello_20 : decode b_CP_sendHello 20 = .ok (.getfield 16, 3) := by decide +kernel
theorem d_CP_sendHello_23 : decode b_CP_sendHello 23 = .ok (.aload_n 0, 1) := by decide +kernel
theorem d_CP_sendHello_24 : decode b_CP_sendHello 24 = .ok (.getfield 29, 3) := by decide +kernel
theorem d_CP_sendHello_27 : decode b_CP_sendHello 27 = .ok (.aload_n 0, 1) := by decide +kernel
theorem d_CP_sendHello_28 : decode b_CP_sendHello 28 = .ok (.getfield 29, 3) := by decide +kernel
theorem d_CP_sendHello_31 : decode b_CP_sendHello 31 = .ok (.invokevirtual 133, 3) := by decide +kernel
theorem d_CP_sendHello_34 : decode b_CP_sendHello 34 = .ok (.invokevirtual 139, 3) := by decide +kernel
theorem d_CP_sendHello_37 : decode b_CP_sendHello 37 = .ok (.invokevirtual 250, 3) := by decide +kernel
theorem d_CP_sendHello_40 : decode b_CP_sendHello 40 = .ok (.aload_n 0, 1) := by decide +kernel
theorem d_CP_sendHello_41 : decode b_CP_sendHello 41 = .ok (.aload_n 1, 1) := by decide +kernel
theorem d_CP_sendHello_42 : decode b_CP_sendHello 42 = .ok (.invokevirtual 253, 3) := by decide +kernel
theorem d_CP_sendHello_45 : decode b_CP_sendHello 45 = .ok (.return_, 1) := by decide +kernel
theorem d_CP_open_0 : decode b_CP_open 0 = .ok (.iload_n 1, 1) := by decide +kernel
theorem d_CP_open_1 : decode b_CP_open 1 = .ok (.invokestatic 63, 3) := by decide +kernel
theorem d_CP_open_4 : decode b_CP_open 4 = .ok (.ifCond .eq 15, 3) := by decide +kernel
theorem d_CP_open_7 : decode b_CP_open 7 = .ok (.aload_n 0, 1) := by decide +kernel
theorem d_CP_open_8 : decode b_CP_open 8 = .ok (.getfield 35, 3) := by decide +kernel
theorem d_CP_open_11 : decode b_CP_open 11 = .ok (.iload_n 1, 1) := by decide +kernel
theorem d_CP_open_12 : decode b_CP_open 12 = .ok (.aaload, 1) := by decide +kernel
theorem d_CP_open_13 : decode b_CP_open 13 = .ok (.getfield 67, 3) := by decide +kernel
theorem d_CP_open_16 : decode b_CP_open 16 = .ok (.ifCond .eq 5, 3) := by decide +kernel
theorem d_CP_open_19 : decode b_CP_open 19 = .ok (.iconst 0, 1) := by decide +kernel
theorem d_CP_open_20 : decode b_CP_open 20 = .ok (.ireturn, 1) := by decide +kernel
theorem d_CP_open_21 : decode b_CP_open 21 = .ok (.aload_n 0, 1) := by decide +kernel
theorem d_CP_open_22 : decode b_CP_open 22 = .ok (.getfield 35, 3) := by decide +kernel
theorem d_CP_open_25 : decode b_CP_open 25 = .ok (.iload_n 1, 1) := by decide +kernel
theorem d_CP_open_26 : decode b_CP_open 26 = .ok (.aaload, 1) := by decide +kernel
theorem d_CP_open_27 : decode b_CP_open 27 = .ok (.invokevirtual 70, 3) := by decide +kernel
theorem d_CP_open_30 : decode b_CP_open 30 = .ok (.aload_n 0, 1) := by decide +kernel
theorem d_CP_open_31 : decode b_CP_open 31 = .ok (.aload_n 0, 1) := by decide +kernel
theorem d_CP_open_32 : decode b_CP_open 32 = .ok (.getfield 35, 3) := by decide +kernel
theorem d_CP_open_35 : decode b_CP_open 35 = .ok (.iload_n 1, 1) := by decide +kernel
theorem d_CP_open_36 : decode b_CP_open 36 = .ok (.aaload, 1) := by decide +kernel
theorem d_CP_open_37 : decode b_CP_open 37 = .ok (.invokevirtual 73, 3) := by decide +kernel
theorem d_CP_open_40 : decode b_CP_open 40 = .ok (.iconst 1, 1) := by decide +kernel
theorem d_CP_open_41 : decode b_CP_open 41 = .ok (.ireturn, 1) := by decide +kernel
theorem d_Peer_isTalking_0 : decode b_Peer_isTalking 0 = .ok (.aload_n 0, 1) := by decide +kernel
theorem d_Peer_isTalking_1 : decode b_Peer_isTalking 1 = .ok (.getfield 9, 3) := by decide +kernel
theorem d_Peer_isTalking_4 : decode b_Peer_isTalking 4 = .ok (.iconst 1, 1) := by decide +kernel
theorem d_Peer_isTalking_5 : decode b_Peer_isTalking 5 = .ok (.if_icmp .eq 11, 3) := by decide +kernel
theorem d_Peer_isTalking_8 : decode b_Peer_isTalking 8 = .ok (.aload_n 0, 1) := by decide +kernel
theorem d_Peer_isTalking_9 : decode b_Peer_isTalking 9 = .ok (.getfield 9, 3) := by decide +kernel
theorem d_Peer_isTalking_12 : decode b_Peer_isTalking 12 = .ok (.iconst 2, 1) := by decide +kernel
theorem d_Peer_isTalking_13 : decode b_Peer_isTalking 13 = .ok (.if_icmp .ne 7, 3) := by decide +kernel
theorem d_Peer_isTalking_16 : decode b_Peer_isTalking 16 = .ok (.iconst 1, 1) := by decide +kernel
theorem d_Peer_isTalking_17 : decode b_Peer_isTalking 17 = .ok (.goto 4, 3) := by decide +kernel
theorem d_Peer_isTalking_20 : decode b_Peer_isTalking 20 = .ok (.iconst 0, 1) := by decide +kernel
theorem d_Peer_isTalking_21 : decode b_Peer_isTalking 21 = .ok (.ireturn, 1) := by decide +kernel
theorem d_Peer_dropRequest_0 : decode b_Peer_dropRequest 0 = .ok (.aload_n 0, 1) := by decide +kernel
theorem d_Peer_dropRequest_1 : decode b_Peer_dropRequest 1 = .ok (.iconst 0, 1) := by decide +kernel
theorem d_Peer_dropRequest_2 : decode b_Peer_dropRequest 2 = .ok (.putfield 22, 3) := by decide +kernel
theorem d_Peer_dropRequest_5 : decode b_Peer_dropRequest 5 = .ok (.return_, 1) := by decide +kernel
theorem d_Peer_leave_0 : decode b_Peer_leave 0 = .ok (.aload_n 0, 1) := by decide +kernel
theorem d_Peer_leave_1 : decode b_Peer_leave 1 = .ok (.iload_n 1, 1) := by decide +kernel
theorem d_Peer_leave_2 : decode b_Peer_leave 2 = .ok (.putfield 9, 3) := by decide +kernel
theorem d_Peer_leave_5 : decode b_Peer_leave 5 = .ok (.aload_n 0, 1) := by decide +kernel
theorem d_Peer_leave_6 : decode b_Peer_leave 6 = .ok (.iconst 0, 1) := by decide +kernel
theorem d_Peer_leave_7 : decode b_Peer_leave 7 = .ok (.putfield 31, 3) := by decide +kernel
theorem d_Peer_leave_10 : decode b_Peer_leave 10 = .ok (.aload_n 0, 1) := by decide +kernel
theorem d_Peer_leave_11 : decode b_Peer_leave 11 = .ok (.invokevirtual 34, 3) := by decide +kernel
theorem d_Peer_leave_14 : decode b_Peer_leave 14 = .ok (.return_, 1) := by decide +kernel
theorem d_CP_close_0 : decode b_CP_close 0 = .ok (.iload_n 1, 1) := by decide +kernel
theorem d_CP_close_1 : decode b_CP_close 1 = .ok (.invokestatic 63, 3) := by decide +kernel
theorem d_CP_close_4 : decode b_CP_close 4 = .ok (.ifCond .eq 15, 3) := by decide +kernel
theorem d_CP_close_7 : decode b_CP_close 7 = .ok (.aload_n 0, 1) := by decide +kernel
theorem d_CP_close_8 : decode b_CP_close 8 = .ok (.getfield 35, 3) := by decide +kernel
theorem d_CP_close_11 : decode b_CP_close 11 = .ok (.iload_n 1, 1) := by decide +kernel
theorem d_CP_close_12 : decode b_CP_close 12 = .ok (.aaload, 1) := by decide +kernel
theorem d_CP_close_13 : decode b_CP_close 13 = .ok (.invokevirtual 77, 3) := by decide +kernel
theorem d_CP_close_16 : decode b_CP_close 16 = .ok (.ifCond .ne 5, 3) := by decide +kernel
theorem d_CP_close_19 : decode b_CP_close 19 = .ok (.iconst 0, 1) := by decide +kernel
theorem d_CP_close_20 : decode b_CP_close 20 = .ok (.ireturn, 1) := by decide +kernel
theorem d_CP_close_21 : decode b_CP_close 21 = .ok (.aload_n 0, 1) := by decide +kernel
theorem d_CP_close_22 : decode b_CP_close 22 = .ok (.getfield 35, 3) := by decide +kernel
theorem d_CP_close_25 : decode b_CP_close 25 = .ok (.iload_n 1, 1) := by decide +kernel
theorem d_CP_close_26 : decode b_CP_close 26 = .ok (.aaload, 1) := by decide +kernel
theorem d_CP_close_27 : decode b_CP_close 27 = .ok (.iconst 0, 1) := by decide +kernel
theorem d_CP_close_28 : decode b_CP_close 28 = .ok (.invokevirtual 81, 3) := by decide +kernel
theorem d_CP_close_31 : decode b_CP_close 31 = .ok (.iconst 1, 1) := by decide +kernel
theorem d_CP_close_32 : decode b_CP_close 32 = .ok (.ireturn, 1) := by decide +kernel
theorem d_CP_put_0 : decode b_CP_put 0 = .ok (.iload_n 1, 1) := by decide +kernel
theorem d_CP_put_1 : decode b_CP_put 1 = .ok (.iconst 1, 1) := by decide +kernel
theorem d_CP_put_2 : decode b_CP_put 2 = .ok (.if_icmp .lt 23, 3) := by decide +kernel
theorem d_CP_put_5 : decode b_CP_put 5 = .ok (.iload_n 1, 1) := by decide +kernel
theorem d_CP_put_6 : decode b_CP_put 6 = .ok (.bipush 8, 2) := by decide +kernel
theorem d_CP_put_8 : decode b_CP_put 8 = .ok (.if_icmp .gt 17, 3) := by decide +kernel
theorem d_CP_put_11 : decode b_CP_put 11 = .ok (.aload_n 0, 1) := by decide +kernel
theorem d_CP_put_12 : decode b_CP_put 12 = .ok (.getfield 10, 3) := by decide +kernel
theorem d_CP_put_15 : decode b_CP_put 15 = .ok (.getfield 85, 3) := by decide +kernel
theorem d_CP_put_18 : decode b_CP_put 18 = .ok (.iload_n 1, 1) := by decide +kernel
theorem d_CP_put_19 : decode b_CP_put 19 = .ok (.iadd, 1) := by decide +kernel
theorem d_CP_put_20 : decode b_CP_put 20 = .ok (.bipush 56, 2) := by decide +kernel
theorem d_CP_put_22 : decode b_CP_put 22 = .ok (.if_icmp .le 5, 3) := by decide +kernel
theorem d_CP_put_25 : decode b_CP_put 25 = .ok (.iconst 0, 1) := by decide +kernel
theorem d_CP_put_26 : decode b_CP_put 26 = .ok (.ireturn, 1) := by decide +kernel
theorem d_CP_put_27 : decode b_CP_put 27 = .ok (.iload_n 1, 1) := by decide +kernel
theorem d_CP_put_28 : decode b_CP_put 28 = .ok (.iconst 1, 1) := by decide +kernel
theorem d_CP_put_29 : decode b_CP_put 29 = .ok (.isub, 1) := by decide +kernel
theorem d_CP_put_30 : decode b_CP_put 30 = .ok (.istore 4, 2) := by decide +kernel
theorem d_CP_put_32 : decode b_CP_put 32 = .ok (.iload 4, 2) := by decide +kernel
theorem d_CP_put_34 : decode b_CP_put 34 = .ok (.ifCond .lt 28, 3) := by decide +kernel
theorem d_CP_put_37 : decode b_CP_put 37 = .ok (.aload_n 0, 1) := by decide +kernel
theorem d_CP_put_38 : decode b_CP_put 38 = .ok (.getfield 10, 3) := by decide +kernel
theorem d_CP_put_41 : decode b_CP_put 41 = .ok (.lload_n 2, 1) := by decide +kernel
theorem d_CP_put_42 : decode b_CP_put 42 = .ok (.bipush 8, 2) := by decide +kernel
theorem d_CP_put_44 : decode b_CP_put 44 = .ok (.iload 4, 2) := by decide +kernel
theorem d_CP_put_46 : decode b_CP_put 46 = .ok (.imul, 1) := by decide +kernel
theorem d_CP_put_47 : decode b_CP_put 47 = .ok (.lushr, 1) := by decide +kernel
theorem d_CP_put_48 : decode b_CP_put 48 = .ok (.l2i, 1) := by decide +kernel
theorem d_CP_put_49 : decode b_CP_put 49 = .ok (.sipush 255, 3) := by decide +kernel
theorem d_CP_put_52 : decode b_CP_put 52 = .ok (.iand, 1) := by decide +kernel
theorem d_CP_put_53 : decode b_CP_put 53 = .ok (.invokevirtual 88, 3) := by decide +kernel
theorem d_CP_put_56 : decode b_CP_put 56 = .ok (.iinc 4 (-1), 3) := by decide +kernel
theorem d_CP_put_59 : decode b_CP_put 59 = .ok (.goto (-27), 3) := by decide +kernel
theorem d_CP_put_62 : decode b_CP_put 62 = .ok (.iconst 1, 1) := by decide +kernel
theorem d_CP_put_63 : decode b_CP_put 63 = .ok (.ireturn, 1) := by decide +kernel
theorem d_CP_clear_0 : decode b_CP_clear 0 = .ok (.aload_n 0, 1) := by decide +kernel
theorem d_CP_clear_1 : decode b_CP_clear 1 = .ok (.getfield 10, 3) := by decide +kernel
theorem d_CP_clear_4 : decode b_CP_clear 4 = .ok (.iconst 0, 1) := by decide +kernel
theorem d_CP_clear_5 : decode b_CP_clear 5 = .ok (.putfield 85, 3) := by decide +kernel
theorem d_CP_clear_8 : decode b_CP_clear 8 = .ok (.return_, 1) := by decide +kernel
theorem d_Bytes_at_0 : decode b_Bytes_at 0 = .ok (.iload_n 1, 1) := by decide +kernel
theorem d_Bytes_at_1 : decode b_Bytes_at 1 = .ok (.ifCond .lt 20, 3) := by decide +kernel
theorem d_Bytes_at_4 : decode b_Bytes_at 4 = .ok (.iload_n 1, 1) := by decide +kernel
theorem d_Bytes_at_5 : decode b_Bytes_at 5 = .ok (.aload_n 0, 1) := by decide +kernel
theorem d_Bytes_at_6 : decode b_Bytes_at 6 = .ok (.getfield 15, 3) := by decide +kernel
theorem d_Bytes_at_9 : decode b_Bytes_at 9 = .ok (.if_icmp .ge 12, 3) := by decide +kernel
theorem d_Bytes_at_12 : decode b_Bytes_at 12 = .ok (.aload_n 0, 1) := by decide +kernel
theorem d_Bytes_at_13 : decode b_Bytes_at 13 = .ok (.getfield 9, 3) := by decide +kernel
theorem d_Bytes_at_16 : decode b_Bytes_at 16 = .ok (.iload_n 1, 1) := by decide +kernel
theorem d_Bytes_at_17 : decode b_Bytes_at 17 = .ok (.iaload, 1) := by decide +kernel
theorem d_Bytes_at_18 : decode b_Bytes_at 18 = .ok (.goto 4, 3) := by decide +kernel
theorem d_Bytes_at_21 : decode b_Bytes_at 21 = .ok (.iconst (-1), 1) := by decide +kernel
theorem d_Bytes_at_22 : decode b_Bytes_at 22 = .ok (.ireturn, 1) := by decide +kernel
theorem d_CP_wire_0 : decode b_CP_wire 0 = .ok (.iload_n 1, 1) := by decide +kernel
theorem d_CP_wire_1 : decode b_CP_wire 1 = .ok (.iconst (-1), 1) := by decide +kernel
theorem d_CP_wire_2 : decode b_CP_wire 2 = .ok (.if_icmp .ne 13, 3) := by decide +kernel
theorem d_CP_wire_5 : decode b_CP_wire 5 = .ok (.aload_n 0, 1) := by decide +kernel
theorem d_CP_wire_6 : decode b_CP_wire 6 = .ok (.getfield 10, 3) := by decide +kernel
theorem d_CP_wire_9 : decode b_CP_wire 9 = .ok (.getfield 85, 3) := by decide +kernel
theorem d_CP_wire_12 : decode b_CP_wire 12 = .ok (.goto 11, 3) := by decide +kernel
theorem d_CP_wire_15 : decode b_CP_wire 15 = .ok (.aload_n 0, 1) := by decide +kernel
theorem d_CP_wire_16 : decode b_CP_wire 16 = .ok (.getfield 10, 3) := by decide +kernel
theorem d_CP_wire_19 : decode b_CP_wire 19 = .ok (.iload_n 1, 1) := by decide +kernel
theorem d_CP_wire_20 : decode b_CP_wire 20 = .ok (.invokevirtual 91, 3) := by decide +kernel
theorem d_CP_wire_23 : decode b_CP_wire 23 = .ok (.ireturn, 1) := by decide +kernel
theorem d_Message_enterList_0 : decode b_Message_enterList 0 = .ok (.aload_n 0, 1) := by decide +kernel
theorem d_Message_enterList_1 : decode b_Message_enterList 1 = .ok (.getfield 23, 3) := by decide +kernel
theorem d_Message_enterList_4 : decode b_Message_enterList 4 = .ok (.aload_n 0, 1) := by decide +kernel
theorem d_Message_enterList_5 : decode b_Message_enterList 5 = .ok (.getfield 31, 3) := by decide +kernel
theorem d_Message_enterList_8 : decode b_Message_enterList 8 = .ok (.invokevirtual 83, 3) := by decide +kernel
theorem d_Message_enterList_11 : decode b_Message_enterList 11 = .ok (.sipush 192, 3) := by decide +kernel
theorem d_Message_enterList_14 : decode b_Message_enterList 14 = .ok (.isub, 1) := by decide +kernel
theorem d_Message_enterList_15 : decode b_Message_enterList 15 = .ok (.istore_n 2, 1) := by decide +kernel
theorem d_Message_enterList_16 : decode b_Message_enterList 16 = .ok (.iload_n 2, 1) := by decide +kernel
theorem d_Message_enterList_17 : decode b_Message_enterList 17 = .ok (.ifCond .lt 19, 3) := by decide +kernel
theorem d_Message_enterList_20 : decode b_Message_enterList 20 = .ok (.iload_n 2, 1) := by decide +kernel
theorem d_Message_enterList_21 : decode b_Message_enterList 21 = .ok (.bipush 55, 2) := by decide +kernel
theorem d_Message_enterList_23 : decode b_Message_enterList 23 = .ok (.if_icmp .gt 13, 3) := by decide +kernel
theorem d_Message_enterList_26 : decode b_Message_enterList 26 = .ok (.aload_n 0, 1) := by decide +kernel
theorem d_Message_enterList_27 : decode b_Message_enterList 27 = .ok (.getfield 31, 3) := by decide +kernel
theorem d_Message_enterList_30 : decode b_Message_enterList 30 = .ok (.iload_n 2, 1) := by decide +kernel
theorem d_Message_enterList_31 : decode b_Message_enterList 31 = .ok (.iadd, 1) := by decide +kernel
theorem d_Message_enterList_32 : decode b_Message_enterList 32 = .ok (.iload_n 1, 1) := by decide +kernel
theorem d_Message_enterList_33 : decode b_Message_enterList 33 = .ok (.if_icmp .lt 5, 3) := by decide +kernel
theorem d_Message_enterList_36 : decode b_Message_enterList 36 = .ok (.iconst (-1), 1) := by decide +kernel
theorem d_Message_enterList_37 : decode b_Message_enterList 37 = .ok (.ireturn, 1) := by decide +kernel
theorem d_Message_enterList_38 : decode b_Message_enterList 38 = .ok (.aload_n 0, 1) := by decide +kernel
theorem d_Message_enterList_39 : decode b_Message_enterList 39 = .ok (.dup, 1) := by decide +kernel
theorem d_Message_enterList_40 : decode b_Message_enterList 40 = .ok (.getfield 31, 3) := by decide +kernel
theorem d_Message_enterList_43 : decode b_Message_enterList 43 = .ok (.iconst 1, 1) := by decide +kernel
theorem d_Message_enterList_44 : decode b_Message_enterList 44 = .ok (.iadd, 1) := by decide +kernel
theorem d_Message_enterList_45 : decode b_Message_enterList 45 = .ok (.putfield 31, 3) := by decide +kernel
theorem d_Message_enterList_48 : decode b_Message_enterList 48 = .ok (.aload_n 0, 1) := by decide +kernel
theorem d_Message_enterList_49 : decode b_Message_enterList 49 = .ok (.getfield 31, 3) := by decide +kernel
theorem d_Message_enterList_52 : decode b_Message_enterList 52 = .ok (.iload_n 2, 1) := by decide +kernel
theorem d_Message_enterList_53 : decode b_Message_enterList 53 = .ok (.iadd, 1) := by decide +kernel
theorem d_Message_enterList_54 : decode b_Message_enterList 54 = .ok (.ireturn, 1) := by decide +kernel
theorem d_Message_nextNumber_0 : decode b_Message_nextNumber 0 = .ok (.aload_n 0, 1) := by decide +kernel
theorem d_Message_nextNumber_1 : decode b_Message_nextNumber 1 = .ok (.getfield 23, 3) := by decide +kernel
theorem d_Message_nextNumber_4 : decode b_Message_nextNumber 4 = .ok (.aload_n 0, 1) := by decide +kernel
theorem d_Message_nextNumber_5 : decode b_Message_nextNumber 5 = .ok (.getfield 31, 3) := by decide +kernel
theorem d_Message_nextNumber_8 : decode b_Message_nextNumber 8 = .ok (.invokevirtual 83, 3) := by decide +kernel
theorem d_Message_nextNumber_11 : decode b_Message_nextNumber 11 = .ok (.istore_n 2, 1) := by decide +kernel
theorem d_Message_nextNumber_12 : decode b_Message_nextNumber 12 = .ok (.iload_n 2, 1) := by decide +kernel
theorem d_Message_nextNumber_13 : decode b_Message_nextNumber 13 = .ok (.ifCond .le 30, 3) := by decide +kernel
theorem d_Message_nextNumber_16 : decode b_Message_nextNumber 16 = .ok (.iload_n 2, 1) := by decide +kernel
theorem d_Message_nextNumber_17 : decode b_Message_nextNumber 17 = .ok (.sipush 128, 3) := by decide +kernel
theorem d_Message_nextNumber_20 : decode b_Message_nextNumber 20 = .ok (.if_icmp .ge 23, 3) := by decide +kernel
theorem d_Message_nextNumber_23 : decode b_Message_nextNumber 23 = .ok (.aload_n 0, 1) := by decide +kernel
theorem d_Message_nextNumber_24 : decode b_Message_nextNumber 24 = .ok (.getfield 31, 3) := by decide +kernel
theorem d_Message_nextNumber_27 : decode b_Message_nextNumber 27 = .ok (.iload_n 1, 1) := by decide +kernel
theorem d_Message_nextNumber_28 : decode b_Message_nextNumber 28 = .ok (.if_icmp .ge 15, 3) := by decide +kernel
theorem d_Message_nextNumber_31 : decode b_Message_nextNumber 31 = .ok (.aload_n 0, 1) := by decide +kernel
theorem d_Message_nextNumber_32 : decode b_Message_nextNumber 32 = .ok (.dup, 1) := by decide +kernel
theorem d_Message_nextNumber_33 : decode b_Message_nextNumber 33 = .ok (.getfield 31, 3) := by decide +kernel
theorem d_Message_nextNumber_36 : decode b_Message_nextNumber 36 = .ok (.iconst 1, 1) := by decide +kernel
theorem d_Message_nextNumber_37 : decode b_Message_nextNumber 37 = .ok (.iadd, 1) := by decide +kernel
theorem d_Message_nextNumber_38 : decode b_Message_nextNumber 38 = .ok (.putfield 31, 3) := by decide +kernel
theorem d_Message_nextNumber_41 : decode b_Message_nextNumber 41 = .ok (.iload_n 2, 1) := by decide +kernel
theorem d_Message_nextNumber_42 : decode b_Message_nextNumber 42 = .ok (.ireturn, 1) := by decide +kernel
theorem d_Message_nextNumber_43 : decode b_Message_nextNumber 43 = .ok (.iload_n 2, 1) := by decide +kernel
theorem d_Message_nextNumber_44 : decode b_Message_nextNumber 44 = .ok (.sipush 128, 3) := by decide +kernel
theorem d_Message_nextNumber_47 : decode b_Message_nextNumber 47 = .ok (.isub, 1) := by decide +kernel
theorem d_Message_nextNumber_48 : decode b_Message_nextNumber 48 = .ok (.istore_n 3, 1) := by decide +kernel
theorem d_Message_nextNumber_49 : decode b_Message_nextNumber 49 = .ok (.iload_n 3, 1) := by decide +kernel
theorem d_Message_nextNumber_50 : decode b_Message_nextNumber 50 = .ok (.ifCond .lt 18, 3) := by decide +kernel
theorem d_Message_nextNumber_53 : decode b_Message_nextNumber 53 = .ok (.iload_n 3, 1) := by decide +kernel
theorem d_Message_nextNumber_54 : decode b_Message_nextNumber 54 = .ok (.iconst 4, 1) := by decide +kernel
theorem d_Message_nextNumber_55 : decode b_Message_nextNumber 55 = .ok (.if_icmp .gt 13, 3) := by decide +kernel
theorem d_Message_nextNumber_58 : decode b_Message_nextNumber 58 = .ok (.aload_n 0, 1) := by decide +kernel
theorem d_Message_nextNumber_59 : decode b_Message_nextNumber 59 = .ok (.getfield 31, 3) := by decide +kernel
theorem d_Message_nextNumber_62 : decode b_Message_nextNumber 62 = .ok (.iload_n 3, 1) := by decide +kernel
theorem d_Message_nextNumber_63 : decode b_Message_nextNumber 63 = .ok (.iadd, 1) := by decide +kernel
theorem d_Message_nextNumber_64 : decode b_Message_nextNumber 64 = .ok (.iload_n 1, 1) := by decide +kernel
theorem d_Message_nextNumber_65 : decode b_Message_nextNumber 65 = .ok (.if_icmp .lt 5, 3) := by decide +kernel
theorem d_Message_nextNumber_68 : decode b_Message_nextNumber 68 = .ok (.iconst (-1), 1) := by decide +kernel
theorem d_Message_nextNumber_69 : decode b_Message_nextNumber 69 = .ok (.ireturn, 1) := by decide +kernel
theorem d_Message_nextNumber_70 : decode b_Message_nextNumber 70 = .ok (.lconst 0, 1) := by decide +kernel
theorem d_Message_nextNumber_71 : decode b_Message_nextNumber 71 = .ok (.lstore 4, 2) := by decide +kernel
theorem d_Message_nextNumber_73 : decode b_Message_nextNumber 73 = .ok (.iconst 1, 1) := by decide +kernel
theorem d_Message_nextNumber_74 : decode b_Message_nextNumber 74 = .ok (.istore 6, 2) := by decide +kernel
theorem d_Message_nextNumber_76 : decode b_Message_nextNumber 76 = .ok (.iload 6, 2) := by decide +kernel
theorem d_Message_nextNumber_78 : decode b_Message_nextNumber 78 = .ok (.iload_n 3, 1) := by decide +kernel
theorem d_Message_nextNumber_79 : decode b_Message_nextNumber 79 = .ok (.if_icmp .gt 33, 3) := by decide +kernel
theorem d_Message_nextNumber_82 : decode b_Message_nextNumber 82 = .ok (.lload 4, 2) := by decide +kernel
theorem d_Message_nextNumber_84 : decode b_Message_nextNumber 84 = .ok (.ldc2_w 85, 3) := by decide +kernel
theorem d_Message_nextNumber_87 : decode b_Message_nextNumber 87 = .ok (.lmul, 1) := by decide +kernel
theorem d_Message_nextNumber_88 : decode b_Message_nextNumber 88 = .ok (.aload_n 0, 1) := by decide +kernel
theorem d_Message_nextNumber_89 : decode b_Message_nextNumber 89 = .ok (.getfield 23, 3) := by decide +kernel
theorem d_Message_nextNumber_92 : decode b_Message_nextNumber 92 = .ok (.aload_n 0, 1) := by decide +kernel
theorem d_Message_nextNumber_93 : decode b_Message_nextNumber 93 = .ok (.getfield 31, 3) := by decide +kernel
theorem d_Message_nextNumber_96 : decode b_Message_nextNumber 96 = .ok (.iload 6, 2) := by decide +kernel
theorem d_Message_nextNumber_98 : decode b_Message_nextNumber 98 = .ok (.iadd, 1) := by decide +kernel
theorem d_Message_nextNumber_99 : decode b_Message_nextNumber 99 = .ok (.invokevirtual 83, 3) := by decide +kernel
theorem d_Message_nextNumber_102 : decode b_Message_nextNumber 102 = .ok (.i2l, 1) := by decide +kernel
theorem d_Message_nextNumber_103 : decode b_Message_nextNumber 103 = .ok (.ladd, 1) := by decide +kernel
theorem d_Message_nextNumber_104 : decode b_Message_nextNumber 104 = .ok (.lstore 4, 2) := by decide +kernel
theorem d_Message_nextNumber_106 : decode b_Message_nextNumber 106 = .ok (.iinc 6 1, 3) := by decide +kernel
theorem d_Message_nextNumber_109 : decode b_Message_nextNumber 109 = .ok (.goto (-33), 3) := by decide +kernel
theorem d_Message_nextNumber_112 : decode b_Message_nextNumber 112 = .ok (.lload 4, 2) := by decide +kernel
theorem d_Message_nextNumber_114 : decode b_Message_nextNumber 114 = .ok (.ldc2_w 87, 3) := by decide +kernel
theorem d_Message_nextNumber_117 : decode b_Message_nextNumber 117 = .ok (.lcmp, 1) := by decide +kernel
theorem d_Message_nextNumber_118 : decode b_Message_nextNumber 118 = .ok (.ifCond .gt 15, 3) := by decide +kernel
theorem d_Message_nextNumber_121 : decode b_Message_nextNumber 121 = .ok (.lload 4, 2) := by decide +kernel
theorem d_Message_nextNumber_123 : decode b_Message_nextNumber 123 = .ok (.l2i, 1) := by decide +kernel
theorem d_Message_nextNumber_124 : decode b_Message_nextNumber 124 = .ok (.invokestatic 89, 3) := by decide +kernel
theorem d_Message_nextNumber_127 : decode b_Message_nextNumber 127 = .ok (.iconst 1, 1) := by decide +kernel
theorem d_Message_nextNumber_128 : decode b_Message_nextNumber 128 = .ok (.iload_n 3, 1) := by decide +kernel
theorem d_Message_nextNumber_129 : decode b_Message_nextNumber 129 = .ok (.iadd, 1) := by decide +kernel
theorem d_Message_nextNumber_130 : decode b_Message_nextNumber 130 = .ok (.if_icmp .eq 5, 3) := by decide +kernel
theorem d_Message_nextNumber_133 : decode b_Message_nextNumber 133 = .ok (.iconst (-1), 1) := by decide +kernel
theorem d_Message_nextNumber_134 : decode b_Message_nextNumber 134 = .ok (.ireturn, 1) := by decide +kernel
theorem d_Message_nextNumber_135 : decode b_Message_nextNumber 135 = .ok (.aload_n 0, 1) := by decide +kernel
theorem d_Message_nextNumber_136 : decode b_Message_nextNumber 136 = .ok (.dup, 1) := by decide +kernel
theorem d_Message_nextNumber_137 : decode b_Message_nextNumber 137 = .ok (.getfield 31, 3) := by decide +kernel
theorem d_Message_nextNumber_140 : decode b_Message_nextNumber 140 = .ok (.iconst 1, 1) := by decide +kernel
theorem d_Message_nextNumber_141 : decode b_Message_nextNumber 141 = .ok (.iload_n 3, 1) := by decide +kernel
theorem d_Message_nextNumber_142 : decode b_Message_nextNumber 142 = .ok (.iadd, 1) := by decide +kernel
theorem d_Message_nextNumber_143 : decode b_Message_nextNumber 143 = .ok (.iadd, 1) := by decide +kernel
theorem d_Message_nextNumber_144 : decode b_Message_nextNumber 144 = .ok (.putfield 31, 3) := by decide +kernel
theorem d_Message_nextNumber_147 : decode b_Message_nextNumber 147 = .ok (.lload 4, 2) := by decide +kernel
theorem d_Message_nextNumber_149 : decode b_Message_nextNumber 149 = .ok (.l2i, 1) := by decide +kernel
theorem d_Message_nextNumber_150 : decode b_Message_nextNumber 150 = .ok (.ireturn, 1) := by decide +kernel
theorem d_Message_parseHeader_0 : decode b_Message_parseHeader 0 = .ok (.aload_n 0, 1) := by decide +kernel
theorem d_Message_parseHeader_1 : decode b_Message_parseHeader 1 = .ok (.iload_n 2, 1) := by decide +kernel
theorem d_Message_parseHeader_2 : decode b_Message_parseHeader 2 = .ok (.invokevirtual 38, 3) := by decide +kernel
theorem d_Message_parseHeader_5 : decode b_Message_parseHeader 5 = .ok (.istore_n 3, 1) := by decide +kernel
theorem d_Message_parseHeader_6 : decode b_Message_parseHeader 6 = .ok (.iconst 0, 1) := by decide +kernel
theorem d_Message_parseHeader_7 : decode b_Message_parseHeader 7 = .ok (.istore 4, 2) := by decide +kernel
theorem d_Message_parseHeader_9 : decode b_Message_parseHeader 9 = .ok (.iload 4, 2) := by decide +kernel
theorem d_Message_parseHeader_11 : decode b_Message_parseHeader 11 = .ok (.iconst 5, 1) := by decide +kernel
theorem d_Message_parseHeader_12 : decode b_Message_parseHeader 12 = .ok (.if_icmp .ge 28, 3) := by decide +kernel
theorem d_Message_parseHeader_15 : decode b_Message_parseHeader 15 = .ok (.aload_n 1, 1) := by decide +kernel
theorem d_Message_parseHeader_16 : decode b_Message_parseHeader 16 = .ok (.iload 4, 2) := by decide +kernel
theorem d_Message_parseHeader_18 : decode b_Message_parseHeader 18 = .ok (.aload_n 0, 1) := by decide +kernel
theorem d_Message_parseHeader_19 : decode b_Message_parseHeader 19 = .ok (.iload_n 3, 1) := by decide +kernel
theorem d_Message_parseHeader_20 : decode b_Message_parseHeader 20 = .ok (.invokevirtual 42, 3) := by decide +kernel
theorem d_Message_parseHeader_23 : decode b_Message_parseHeader 23 = .ok (.iastore, 1) := by decide +kernel
theorem d_Message_parseHeader_24 : decode b_Message_parseHeader 24 = .ok (.aload_n 1, 1) := by decide +kernel
theorem d_Message_parseHeader_25 : decode b_Message_parseHeader 25 = .ok (.iload 4, 2) := by decide +kernel
theorem d_Message_parseHeader_27 : decode b_Message_parseHeader 27 = .ok (.iaload, 1) := by decide +kernel
theorem d_Message_parseHeader_28 : decode b_Message_parseHeader 28 = .ok (.iconst (-1), 1) := by decide +kernel
theorem d_Message_parseHeader_29 : decode b_Message_parseHeader 29 = .ok (.if_icmp .ne 5, 3) := by decide +kernel
theorem d_Message_parseHeader_32 : decode b_Message_parseHeader 32 = .ok (.iconst 0, 1) := by decide +kernel
theorem d_Message_parseHeader_33 : decode b_Message_parseHeader 33 = .ok (.ireturn, 1) := by decide +kernel
theorem d_Message_parseHeader_34 : decode b_Message_parseHeader 34 = .ok (.iinc 4 1, 3) := by decide +kernel
theorem d_Message_parseHeader_37 : decode b_Message_parseHeader 37 = .ok (.goto (-28), 3) := by decide +kernel
theorem d_Message_parseHeader_40 : decode b_Message_parseHeader 40 = .ok (.aload_n 0, 1) := by decide +kernel
theorem d_Message_parseHeader_41 : decode b_Message_parseHeader 41 = .ok (.getfield 31, 3) := by decide +kernel
theorem d_Message_parseHeader_44 : decode b_Message_parseHeader 44 = .ok (.iload_n 3, 1) := by decide +kernel
theorem d_Message_parseHeader_45 : decode b_Message_parseHeader 45 = .ok (.if_icmp .ne 7, 3) := by decide +kernel
theorem d_Message_parseHeader_48 : decode b_Message_parseHeader 48 = .ok (.iconst 1, 1) := by decide +kernel
theorem d_Message_parseHeader_49 : decode b_Message_parseHeader 49 = .ok (.goto 4, 3) := by decide +kernel
theorem d_Message_parseHeader_52 : decode b_Message_parseHeader 52 = .ok (.iconst 0, 1) := by decide +kernel
theorem d_Message_parseHeader_53 : decode b_Message_parseHeader 53 = .ok (.ireturn, 1) := by decide +kernel
theorem d_Message_parseHeaders_0 : decode b_Message_parseHeaders 0 = .ok (.aload_n 0, 1) := by decide +kernel
theorem d_Message_parseHeaders_1 : decode b_Message_parseHeaders 1 = .ok (.iload_n 1, 1) := by decide +kernel
theorem d_Message_parseHeaders_2 : decode b_Message_parseHeaders 2 = .ok (.invokevirtual 38, 3) := by decide +kernel
theorem d_Message_parseHeaders_5 : decode b_Message_parseHeaders 5 = .ok (.istore_n 2, 1) := by decide +kernel
theorem d_Message_parseHeaders_6 : decode b_Message_parseHeaders 6 = .ok (.aload_n 0, 1) := by decide +kernel
theorem d_Message_parseHeaders_7 : decode b_Message_parseHeaders 7 = .ok (.iconst 0, 1) := by decide +kernel
theorem d_Message_parseHeaders_8 : decode b_Message_parseHeaders 8 = .ok (.putfield 76, 3) := by decide +kernel
theorem d_Message_parseHeaders_11 : decode b_Message_parseHeaders 11 = .ok (.aload_n 0, 1) := by decide +kernel
theorem d_Message_parseHeaders_12 : decode b_Message_parseHeaders 12 = .ok (.getfield 76, 3) := by decide +kernel
theorem d_Message_parseHeaders_15 : decode b_Message_parseHeaders 15 = .ok (.bipush 8, 2) := by decide +kernel
theorem d_Message_parseHeaders_17 : decode b_Message_parseHeaders 17 = .ok (.if_icmp .ge 43, 3) := by decide +kernel
theorem d_Message_parseHeaders_20 : decode b_Message_parseHeaders 20 = .ok (.aload_n 0, 1) := by decide +kernel
theorem d_Message_parseHeaders_21 : decode b_Message_parseHeaders 21 = .ok (.getfield 31, 3) := by decide +kernel
theorem d_Message_parseHeaders_24 : decode b_Message_parseHeaders 24 = .ok (.iload_n 2, 1) := by decide +kernel
theorem d_Message_parseHeaders_25 : decode b_Message_parseHeaders 25 = .ok (.if_icmp .ge 35, 3) := by decide +kernel
theorem d_Message_parseHeaders_28 : decode b_Message_parseHeaders 28 = .ok (.aload_n 0, 1) := by decide +kernel
theorem d_Message_parseHeaders_29 : decode b_Message_parseHeaders 29 = .ok (.aload_n 0, 1) := by decide +kernel
theorem d_Message_parseHeaders_30 : decode b_Message_parseHeaders 30 = .ok (.getfield 11, 3) := by decide +kernel
theorem d_Message_parseHeaders_33 : decode b_Message_parseHeaders 33 = .ok (.aload_n 0, 1) := by decide +kernel
theorem d_Message_parseHeaders_34 : decode b_Message_parseHeaders 34 = .ok (.getfield 76, 3) := by decide +kernel
theorem d_Message_parseHeaders_37 : decode b_Message_parseHeaders 37 = .ok (.aaload, 1) := by decide +kernel
theorem d_Message_parseHeaders_38 : decode b_Message_parseHeaders 38 = .ok (.iload_n 2, 1) := by decide +kernel
theorem d_Message_parseHeaders_39 : decode b_Message_parseHeaders 39 = .ok (.invokevirtual 79, 3) := by decide +kernel
theorem d_Message_parseHeaders_42 : decode b_Message_parseHeaders 42 = .ok (.ifCond .ne 5, 3) := by decide +kernel
theorem d_Message_parseHeaders_45 : decode b_Message_parseHeaders 45 = .ok (.iconst 0, 1) := by decide +kernel
theorem d_Message_parseHeaders_46 : decode b_Message_parseHeaders 46 = .ok (.ireturn, 1) := by decide +kernel
theorem d_Message_parseHeaders_47 : decode b_Message_parseHeaders 47 = .ok (.aload_n 0, 1) := by decide +kernel
theorem d_Message_parseHeaders_48 : decode b_Message_parseHeaders 48 = .ok (.dup, 1) := by decide +kernel
theorem d_Message_parseHeaders_49 : decode b_Message_parseHeaders 49 = .ok (.getfield 76, 3) := by decide +kernel
theorem d_Message_parseHeaders_52 : decode b_Message_parseHeaders 52 = .ok (.iconst 1, 1) := by decide +kernel
theorem d_Message_parseHeaders_53 : decode b_Message_parseHeaders 53 = .ok (.iadd, 1) := by decide +kernel
theorem d_Message_parseHeaders_54 : decode b_Message_parseHeaders 54 = .ok (.putfield 76, 3) := by decide +kernel
theorem d_Message_parseHeaders_57 : decode b_Message_parseHeaders 57 = .ok (.goto (-46), 3) := by decide +kernel
theorem d_Message_parseHeaders_60 : decode b_Message_parseHeaders 60 = .ok (.aload_n 0, 1) := by decide +kernel
theorem d_Message_parseHeaders_61 : decode b_Message_parseHeaders 61 = .ok (.getfield 31, 3) := by decide +kernel
theorem d_Message_parseHeaders_64 : decode b_Message_parseHeaders 64 = .ok (.iload_n 2, 1) := by decide +kernel
theorem d_Message_parseHeaders_65 : decode b_Message_parseHeaders 65 = .ok (.if_icmp .ne 7, 3) := by decide +kernel
theorem d_Message_parseHeaders_68 : decode b_Message_parseHeaders 68 = .ok (.iconst 1, 1) := by decide +kernel
theorem d_Message_parseHeaders_69 : decode b_Message_parseHeaders 69 = .ok (.goto 4, 3) := by decide +kernel
theorem d_Message_parseHeaders_72 : decode b_Message_parseHeaders 72 = .ok (.iconst 0, 1) := by decide +kernel
theorem d_Message_parseHeaders_73 : decode b_Message_parseHeaders 73 = .ok (.ireturn, 1) := by decide +kernel
theorem d_Message_parseBody_0 : decode b_Message_parseBody 0 = .ok (.aload_n 0, 1) := by decide +kernel
theorem d_Message_parseBody_1 : decode b_Message_parseBody 1 = .ok (.iload_n 1, 1) := by decide +kernel
theorem d_Message_parseBody_2 : decode b_Message_parseBody 2 = .ok (.invokevirtual 38, 3) := by decide +kernel
theorem d_Message_parseBody_5 : decode b_Message_parseBody 5 = .ok (.istore_n 2, 1) := by decide +kernel
theorem d_Message_parseBody_6 : decode b_Message_parseBody 6 = .ok (.aload_n 0, 1) := by decide +kernel
theorem d_Message_parseBody_7 : decode b_Message_parseBody 7 = .ok (.iconst 0, 1) := by decide +kernel
theorem d_Message_parseBody_8 : decode b_Message_parseBody 8 = .ok (.putfield 76, 3) := by decide +kernel
theorem d_Message_parseBody_11 : decode b_Message_parseBody 11 = .ok (.aload_n 0, 1) := by decide +kernel
theorem d_Message_parseBody_12 : decode b_Message_parseBody 12 = .ok (.getfield 76, 3) := by decide +kernel
theorem d_Message_parseBody_15 : decode b_Message_parseBody 15 = .ok (.bipush 8, 2) := by decide +kernel
theorem d_Message_parseBody_17 : decode b_Message_parseBody 17 = .ok (.if_icmp .ge 53, 3) := by decide +kernel
theorem d_Message_parseBody_20 : decode b_Message_parseBody 20 = .ok (.aload_n 0, 1) := by decide +kernel
theorem d_Message_parseBody_21 : decode b_Message_parseBody 21 = .ok (.getfield 31, 3) := by decide +kernel
theorem d_Message_parseBody_24 : decode b_Message_parseBody 24 = .ok (.iload_n 2, 1) := by decide +kernel
theorem d_Message_parseBody_25 : decode b_Message_parseBody 25 = .ok (.if_icmp .ge 45, 3) := by decide +kernel
theorem d_Message_parseBody_28 : decode b_Message_parseBody 28 = .ok (.aload_n 0, 1) := by decide +kernel
theorem d_Message_parseBody_29 : decode b_Message_parseBody 29 = .ok (.getfield 16, 3) := by decide +kernel
theorem d_Message_parseBody_32 : decode b_Message_parseBody 32 = .ok (.aload_n 0, 1) := by decide +kernel
theorem d_Message_parseBody_33 : decode b_Message_parseBody 33 = .ok (.getfield 76, 3) := by decide +kernel
theorem d_Message_parseBody_36 : decode b_Message_parseBody 36 = .ok (.aload_n 0, 1) := by decide +kernel
theorem d_Message_parseBody_37 : decode b_Message_parseBody 37 = .ok (.iload_n 2, 1) := by decide +kernel
theorem d_Message_parseBody_38 : decode b_Message_parseBody 38 = .ok (.invokevirtual 42, 3) := by decide +kernel
theorem d_Message_parseBody_41 : decode b_Message_parseBody 41 = .ok (.iastore, 1) := by decide +kernel
theorem d_Message_parseBody_42 : decode b_Message_parseBody 42 = .ok (.aload_n 0, 1) := by decide +kernel
theorem d_Message_parseBody_43 : decode b_Message_parseBody 43 = .ok (.getfield 16, 3) := by decide +kernel
theorem d_Message_parseBody_46 : decode b_Message_parseBody 46 = .ok (.aload_n 0, 1) := by decide +kernel
theorem d_Message_parseBody_47 : decode b_Message_parseBody 47 = .ok (.getfield 76, 3) := by decide +kernel
theorem d_Message_parseBody_50 : decode b_Message_parseBody 50 = .ok (.iaload, 1) := by decide +kernel
theorem d_Message_parseBody_51 : decode b_Message_parseBody 51 = .ok (.iconst (-1), 1) := by decide +kernel
theorem d_Message_parseBody_52 : decode b_Message_parseBody 52 = .ok (.if_icmp .ne 5, 3) := by decide +kernel
theorem d_Message_parseBody_55 : decode b_Message_parseBody 55 = .ok (.iconst 0, 1) := by decide +kernel
theorem d_Message_parseBody_56 : decode b_Message_parseBody 56 = .ok (.ireturn, 1) := by decide +kernel
theorem d_Message_parseBody_57 : decode b_Message_parseBody 57 = .ok (.aload_n 0, 1) := by decide +kernel
theorem d_Message_parseBody_58 : decode b_Message_parseBody 58 = .ok (.dup, 1) := by decide +kernel
theorem d_Message_parseBody_59 : decode b_Message_parseBody 59 = .ok (.getfield 76, 3) := by decide +kernel
theorem d_Message_parseBody_62 : decode b_Message_parseBody 62 = .ok (.iconst 1, 1) := by decide +kernel
theorem d_Message_parseBody_63 : decode b_Message_parseBody 63 = .ok (.iadd, 1) := by decide +kernel
theorem d_Message_parseBody_64 : decode b_Message_parseBody 64 = .ok (.putfield 76, 3) := by decide +kernel
theorem d_Message_parseBody_67 : decode b_Message_parseBody 67 = .ok (.goto (-56), 3) := by decide +kernel
theorem d_Message_parseBody_70 : decode b_Message_parseBody 70 = .ok (.aload_n 0, 1) := by decide +kernel
theorem d_Message_parseBody_71 : decode b_Message_parseBody 71 = .ok (.getfield 31, 3) := by decide +kernel
theorem d_Message_parseBody_74 : decode b_Message_parseBody 74 = .ok (.iload_n 2, 1) := by decide +kernel
theorem d_Message_parseBody_75 : decode b_Message_parseBody 75 = .ok (.if_icmp .ne 7, 3) := by decide +kernel
theorem d_Message_parseBody_78 : decode b_Message_parseBody 78 = .ok (.iconst 1, 1) := by decide +kernel
theorem d_Message_parseBody_79 : decode b_Message_parseBody 79 = .ok (.goto 4, 3) := by decide +kernel
theorem d_Message_parseBody_82 : decode b_Message_parseBody 82 = .ok (.iconst 0, 1) := by decide +kernel
theorem d_Message_parseBody_83 : decode b_Message_parseBody 83 = .ok (.ireturn, 1) := by decide +kernel
theorem d_Message_parseFields_0 : decode b_Message_parseFields 0 = .ok (.aload_n 0, 1) := by decide +kernel
theorem d_Message_parseFields_1 : decode b_Message_parseFields 1 = .ok (.getfield 45, 3) := by decide +kernel
theorem d_Message_parseFields_4 : decode b_Message_parseFields 4 = .ok (.tableswitch 241 0 5 #[40, 80, 137, 168, 208, 239], 40) := by decide +kernel
theorem d_Message_parseFields_44 : decode b_Message_parseFields 44 = .ok (.aload_n 0, 1) := by decide +kernel
theorem d_Message_parseFields_45 : decode b_Message_parseFields 45 = .ok (.aload_n 0, 1) := by decide +kernel
theorem d_Message_parseFields_46 : decode b_Message_parseFields 46 = .ok (.iload_n 1, 1) := by decide +kernel
theorem d_Message_parseFields_47 : decode b_Message_parseFields 47 = .ok (.invokevirtual 42, 3) := by decide +kernel
theorem d_Message_parseFields_50 : decode b_Message_parseFields 50 = .ok (.putfield 52, 3) := by decide +kernel
theorem d_Message_parseFields_53 : decode b_Message_parseFields 53 = .ok (.aload_n 0, 1) := by decide +kernel
theorem d_Message_parseFields_54 : decode b_Message_parseFields 54 = .ok (.aload_n 0, 1) := by decide +kernel
theorem d_Message_parseFields_55 : decode b_Message_parseFields 55 = .ok (.iload_n 1, 1) := by decide +kernel
theorem d_Message_parseFields_56 : decode b_Message_parseFields 56 = .ok (.invokevirtual 42, 3) := by decide +kernel
theorem d_Message_parseFields_59 : decode b_Message_parseFields 59 = .ok (.putfield 55, 3) := by decide +kernel
theorem d_Message_parseFields_62 : decode b_Message_parseFields 62 = .ok (.aload_n 0, 1) := by decide +kernel
theorem d_Message_parseFields_63 : decode b_Message_parseFields 63 = .ok (.getfield 52, 3) := by decide +kernel
theorem d_Message_parseFields_66 : decode b_Message_parseFields 66 = .ok (.iconst (-1), 1) := by decide +kernel
theorem d_Message_parseFields_67 : decode b_Message_parseFields 67 = .ok (.if_icmp .eq 15, 3) := by decide +kernel
theorem d_Message_parseFields_70 : decode b_Message_parseFields 70 = .ok (.aload_n 0, 1) := by decide +kernel
theorem d_Message_parseFields_71 : decode b_Message_parseFields 71 = .ok (.getfield 55, 3) := by decide +kernel
theorem d_Message_parseFields_74 : decode b_Message_parseFields 74 = .ok (.iconst (-1), 1) := by decide +kernel
theorem d_Message_parseFields_75 : decode b_Message_parseFields 75 = .ok (.if_icmp .eq 7, 3) := by decide +kernel
theorem d_Message_parseFields_78 : decode b_Message_parseFields 78 = .ok (.iconst 1, 1) := by decide +kernel
theorem d_Message_parseFields_79 : decode b_Message_parseFields 79 = .ok (.goto 4, 3) := by decide +kernel
theorem d_Message_parseFields_82 : decode b_Message_parseFields 82 = .ok (.iconst 0, 1) := by decide +kernel
theorem d_Message_parseFields_83 : decode b_Message_parseFields 83 = .ok (.ireturn, 1) := by decide +kernel
theorem d_Message_parseFields_84 : decode b_Message_parseFields 84 = .ok (.aload_n 0, 1) := by decide +kernel
theorem d_Message_parseFields_85 : decode b_Message_parseFields 85 = .ok (.aload_n 0, 1) := by decide +kernel
theorem d_Message_parseFields_86 : decode b_Message_parseFields 86 = .ok (.iload_n 1, 1) := by decide +kernel
theorem d_Message_parseFields_87 : decode b_Message_parseFields 87 = .ok (.invokevirtual 42, 3) := by decide +kernel
theorem d_Message_parseFields_90 : decode b_Message_parseFields 90 = .ok (.putfield 58, 3) := by decide +kernel
theorem d_Message_parseFields_93 : decode b_Message_parseFields 93 = .ok (.aload_n 0, 1) := by decide +kernel
theorem d_Message_parseFields_94 : decode b_Message_parseFields 94 = .ok (.aload_n 0, 1) := by decide +kernel
theorem d_Message_parseFields_95 : decode b_Message_parseFields 95 = .ok (.iload_n 1, 1) := by decide +kernel
theorem d_Message_parseFields_96 : decode b_Message_parseFields 96 = .ok (.invokevirtual 42, 3) := by decide +kernel
theorem d_Message_parseFields_99 : decode b_Message_parseFields 99 = .ok (.putfield 61, 3) := by decide +kernel
theorem d_Message_parseFields_102 : decode b_Message_parseFields 102 = .ok (.aload_n 0, 1) := by decide +kernel
theorem d_Message_parseFields_103 : decode b_Message_parseFields 103 = .ok (.aload_n 0, 1) := by decide +kernel
theorem d_Message_parseFields_104 : decode b_Message_parseFields 104 = .ok (.iload_n 1, 1) := by decide +kernel
theorem d_Message_parseFields_105 : decode b_Message_parseFields 105 = .ok (.invokevirtual 42, 3) := by decide +kernel
theorem d_Message_parseFields_108 : decode b_Message_parseFields 108 = .ok (.putfield 64, 3) := by decide +kernel
theorem d_Message_parseFields_111 : decode b_Message_parseFields 111 = .ok (.aload_n 0, 1) := by decide +kernel
theorem d_Message_parseFields_112 : decode b_Message_parseFields 112 = .ok (.getfield 58, 3) := by decide +kernel
theorem d_Message_parseFields_115 : decode b_Message_parseFields 115 = .ok (.iconst (-1), 1) := by decide +kernel
theorem d_Message_parseFields_116 : decode b_Message_parseFields 116 = .ok (.if_icmp .eq 23, 3) := by decide +kernel
theorem d_Message_parseFields_119 : decode b_Message_parseFields 119 = .ok (.aload_n 0, 1) := by decide +kernel
theorem d_Message_parseFields_120 : decode b_Message_parseFields 120 = .ok (.getfield 61, 3) := by decide +kernel
theorem d_Message_parseFields_123 : decode b_Message_parseFields 123 = .ok (.iconst (-1), 1) := by decide +kernel
theorem d_Message_parseFields_124 : decode b_Message_parseFields 124 = .ok (.if_icmp .eq 15, 3) := by decide +kernel
theorem d_Message_parseFields_127 : decode b_Message_parseFields 127 = .ok (.aload_n 0, 1) := by decide +kernel
theorem d_Message_parseFields_128 : decode b_Message_parseFields 128 = .ok (.getfield 64, 3) := by decide +kernel
theorem d_Message_parseFields_131 : decode b_Message_parseFields 131 = .ok (.iconst (-1), 1) := by decide +kernel
theorem d_Message_parseFields_132 : decode b_Message_parseFields 132 = .ok (.if_icmp .eq 7, 3) := by decide +kernel
theorem d_Message_parseFields_135 : decode b_Message_parseFields 135 = .ok (.iconst 1, 1) := by decide +kernel
theorem d_Message_parseFields_136 : decode b_Message_parseFields 136 = .ok (.goto 4, 3) := by decide +kernel
theorem d_Message_parseFields_139 : decode b_Message_parseFields 139 = .ok (.iconst 0, 1) := by decide +kernel
theorem d_Message_parseFields_140 : decode b_Message_parseFields 140 = .ok (.ireturn, 1) := by decide +kernel
theorem d_Message_parseFields_141 : decode b_Message_parseFields 141 = .ok (.aload_n 0, 1) := by decide +kernel
theorem d_Message_parseFields_142 : decode b_Message_parseFields 142 = .ok (.aload_n 0, 1) := by decide +kernel
theorem d_Message_parseFields_143 : decode b_Message_parseFields 143 = .ok (.iload_n 1, 1) := by decide +kernel
theorem d_Message_parseFields_144 : decode b_Message_parseFields 144 = .ok (.invokevirtual 42, 3) := by decide +kernel
theorem d_Message_parseFields_147 : decode b_Message_parseFields 147 = .ok (.putfield 58, 3) := by decide +kernel
theorem d_Message_parseFields_150 : decode b_Message_parseFields 150 = .ok (.aload_n 0, 1) := by decide +kernel
theorem d_Message_parseFields_151 : decode b_Message_parseFields 151 = .ok (.getfield 58, 3) := by decide +kernel
theorem d_Message_parseFields_154 : decode b_Message_parseFields 154 = .ok (.iconst (-1), 1) := by decide +kernel
theorem d_Message_parseFields_155 : decode b_Message_parseFields 155 = .ok (.if_icmp .eq 15, 3) := by decide +kernel
theorem d_Message_parseFields_158 : decode b_Message_parseFields 158 = .ok (.aload_n 0, 1) := by decide +kernel
theorem d_Message_parseFields_159 : decode b_Message_parseFields 159 = .ok (.iload_n 1, 1) := by decide +kernel
theorem d_Message_parseFields_160 : decode b_Message_parseFields 160 = .ok (.invokevirtual 67, 3) := by decide +kernel
theorem d_Message_parseFields_163 : decode b_Message_parseFields 163 = .ok (.ifCond .eq 7, 3) := by decide +kernel
theorem d_Message_parseFields_166 : decode b_Message_parseFields 166 = .ok (.iconst 1, 1) := by decide +kernel
theorem d_Message_parseFields_167 : decode b_Message_parseFields 167 = .ok (.goto 4, 3) := by decide +kernel
theorem d_Message_parseFields_170 : decode b_Message_parseFields 170 = .ok (.iconst 0, 1) := by decide +kernel
theorem d_Message_parseFields_171 : decode b_Message_parseFields 171 = .ok (.ireturn, 1) := by decide +kernel
theorem d_Message_parseFields_172 : decode b_Message_parseFields 172 = .ok (.aload_n 0, 1) := by decide +kernel
theorem d_Message_parseFields_173 : decode b_Message_parseFields 173 = .ok (.aload_n 0, 1) := by decide +kernel
theorem d_Message_parseFields_174 : decode b_Message_parseFields 174 = .ok (.iload_n 1, 1) := by decide +kernel
theorem d_Message_parseFields_175 : decode b_Message_parseFields 175 = .ok (.invokevirtual 42, 3) := by decide +kernel
theorem d_Message_parseFields_178 : decode b_Message_parseFields 178 = .ok (.putfield 58, 3) := by decide +kernel
theorem d_Message_parseFields_181 : decode b_Message_parseFields 181 = .ok (.aload_n 0, 1) := by decide +kernel
theorem d_Message_parseFields_182 : decode b_Message_parseFields 182 = .ok (.aload_n 0, 1) := by decide +kernel
theorem d_Message_parseFields_183 : decode b_Message_parseFields 183 = .ok (.iload_n 1, 1) := by decide +kernel
theorem d_Message_parseFields_184 : decode b_Message_parseFields 184 = .ok (.invokevirtual 42, 3) := by decide +kernel
theorem d_Message_parseFields_187 : decode b_Message_parseFields 187 = .ok (.putfield 70, 3) := by decide +kernel
theorem d_Message_parseFields_190 : decode b_Message_parseFields 190 = .ok (.aload_n 0, 1) := by decide +kernel
theorem d_Message_parseFields_191 : decode b_Message_parseFields 191 = .ok (.getfield 58, 3) := by decide +kernel
theorem d_Message_parseFields_194 : decode b_Message_parseFields 194 = .ok (.iconst (-1), 1) := by decide +kernel
theorem d_Message_parseFields_195 : decode b_Message_parseFields 195 = .ok (.if_icmp .eq 15, 3) := by decide +kernel
theorem d_Message_parseFields_198 : decode b_Message_parseFields 198 = .ok (.aload_n 0, 1) := by decide +kernel
theorem d_Message_parseFields_199 : decode b_Message_parseFields 199 = .ok (.getfield 70, 3) := by decide +kernel
theorem d_Message_parseFields_202 : decode b_Message_parseFields 202 = .ok (.iconst (-1), 1) := by decide +kernel
theorem d_Message_parseFields_203 : decode b_Message_parseFields 203 = .ok (.if_icmp .eq 7, 3) := by decide +kernel
theorem d_Message_parseFields_206 : decode b_Message_parseFields 206 = .ok (.iconst 1, 1) := by decide +kernel
theorem d_Message_parseFields_207 : decode b_Message_parseFields 207 = .ok (.goto 4, 3) := by decide +kernel
theorem d_Message_parseFields_210 : decode b_Message_parseFields 210 = .ok (.iconst 0, 1) := by decide +kernel
theorem d_Message_parseFields_211 : decode b_Message_parseFields 211 = .ok (.ireturn, 1) := by decide +kernel
theorem d_Message_parseFields_212 : decode b_Message_parseFields 212 = .ok (.aload_n 0, 1) := by decide +kernel
theorem d_Message_parseFields_213 : decode b_Message_parseFields 213 = .ok (.aload_n 0, 1) := by decide +kernel
theorem d_Message_parseFields_214 : decode b_Message_parseFields 214 = .ok (.iload_n 1, 1) := by decide +kernel
theorem d_Message_parseFields_215 : decode b_Message_parseFields 215 = .ok (.invokevirtual 42, 3) := by decide +kernel
theorem d_Message_parseFields_218 : decode b_Message_parseFields 218 = .ok (.putfield 58, 3) := by decide +kernel
theorem d_Message_parseFields_221 : decode b_Message_parseFields 221 = .ok (.aload_n 0, 1) := by decide +kernel
theorem d_Message_parseFields_222 : decode b_Message_parseFields 222 = .ok (.getfield 58, 3) := by decide +kernel
theorem d_Message_parseFields_225 : decode b_Message_parseFields 225 = .ok (.iconst (-1), 1) := by decide +kernel
theorem d_Message_parseFields_226 : decode b_Message_parseFields 226 = .ok (.if_icmp .eq 15, 3) := by decide +kernel
theorem d_Message_parseFields_229 : decode b_Message_parseFields 229 = .ok (.aload_n 0, 1) := by decide +kernel
theorem d_Message_parseFields_230 : decode b_Message_parseFields 230 = .ok (.iload_n 1, 1) := by decide +kernel
theorem d_Message_parseFields_231 : decode b_Message_parseFields 231 = .ok (.invokevirtual 73, 3) := by decide +kernel
theorem d_Message_parseFields_234 : decode b_Message_parseFields 234 = .ok (.ifCond .eq 7, 3) := by decide +kernel
theorem d_Message_parseFields_237 : decode b_Message_parseFields 237 = .ok (.iconst 1, 1) := by decide +kernel
theorem d_Message_parseFields_238 : decode b_Message_parseFields 238 = .ok (.goto 4, 3) := by decide +kernel
theorem d_Message_parseFields_241 : decode b_Message_parseFields 241 = .ok (.iconst 0, 1) := by decide +kernel
theorem d_Message_parseFields_242 : decode b_Message_parseFields 242 = .ok (.ireturn, 1) := by decide +kernel
theorem d_Message_parseFields_243 : decode b_Message_parseFields 243 = .ok (.iconst 1, 1) := by decide +kernel
theorem d_Message_parseFields_244 : decode b_Message_parseFields 244 = .ok (.ireturn, 1) := by decide +kernel
theorem d_Message_parseFields_245 : decode b_Message_parseFields 245 = .ok (.iconst 0, 1) := by decide +kernel
theorem d_Message_parseFields_246 : decode b_Message_parseFields 246 = .ok (.ireturn, 1) := by decide +kernel
theorem d_Message_parse_0 : decode b_Message_parse 0 = .ok (.aload_n 0, 1) := by decide +kernel
theorem d_Message_parse_1 : decode b_Message_parse 1 = .ok (.getfield 23, 3) := by decide +kernel
theorem d_Message_parse_4 : decode b_Message_parse 4 = .ok (.aload_n 1, 1) := by decide +kernel
theorem d_Message_parse_5 : decode b_Message_parse 5 = .ok (.invokevirtual 27, 3) := by decide +kernel
theorem d_Message_parse_8 : decode b_Message_parse 8 = .ok (.aload_n 0, 1) := by decide +kernel
theorem d_Message_parse_9 : decode b_Message_parse 9 = .ok (.iconst 0, 1) := by decide +kernel
theorem d_Message_parse_10 : decode b_Message_parse 10 = .ok (.putfield 31, 3) := by decide +kernel
theorem d_Message_parse_13 : decode b_Message_parse 13 = .ok (.aload_n 0, 1) := by decide +kernel
theorem d_Message_parse_14 : decode b_Message_parse 14 = .ok (.aload_n 0, 1) := by decide +kernel
theorem d_Message_parse_15 : decode b_Message_parse 15 = .ok (.getfield 23, 3) := by decide +kernel
theorem d_Message_parse_18 : decode b_Message_parse 18 = .ok (.getfield 35, 3) := by decide +kernel
theorem d_Message_parse_21 : decode b_Message_parse 21 = .ok (.invokevirtual 38, 3) := by decide +kernel
theorem d_Message_parse_24 : decode b_Message_parse 24 = .ok (.istore_n 2, 1) := by decide +kernel
theorem d_Message_parse_25 : decode b_Message_parse 25 = .ok (.iload_n 2, 1) := by decide +kernel
theorem d_Message_parse_26 : decode b_Message_parse 26 = .ok (.aload_n 0, 1) := by decide +kernel
theorem d_Message_parse_27 : decode b_Message_parse 27 = .ok (.getfield 23, 3) := by decide +kernel
theorem d_Message_parse_30 : decode b_Message_parse 30 = .ok (.getfield 35, 3) := by decide +kernel
theorem d_Message_parse_33 : decode b_Message_parse 33 = .ok (.if_icmp .eq 5, 3) := by decide +kernel
theorem d_Message_parse_36 : decode b_Message_parse 36 = .ok (.iconst 0, 1) := by decide +kernel
theorem d_Message_parse_37 : decode b_Message_parse 37 = .ok (.ireturn, 1) := by decide +kernel
theorem d_Message_parse_38 : decode b_Message_parse 38 = .ok (.aload_n 0, 1) := by decide +kernel
theorem d_Message_parse_39 : decode b_Message_parse 39 = .ok (.aload_n 0, 1) := by decide +kernel
theorem d_Message_parse_40 : decode b_Message_parse 40 = .ok (.iload_n 2, 1) := by decide +kernel
theorem d_Message_parse_41 : decode b_Message_parse 41 = .ok (.invokevirtual 42, 3) := by decide +kernel
theorem d_Message_parse_44 : decode b_Message_parse 44 = .ok (.putfield 45, 3) := by decide +kernel
theorem d_Message_parse_47 : decode b_Message_parse 47 = .ok (.aload_n 0, 1) := by decide +kernel
theorem d_Message_parse_48 : decode b_Message_parse 48 = .ok (.iload_n 2, 1) := by decide +kernel
theorem d_Message_parse_49 : decode b_Message_parse 49 = .ok (.invokevirtual 48, 3) := by decide +kernel
theorem d_Message_parse_52 : decode b_Message_parse 52 = .ok (.ifCond .eq 15, 3) := by decide +kernel
theorem d_Message_parse_55 : decode b_Message_parse 55 = .ok (.aload_n 0, 1) := by decide +kernel
theorem d_Message_parse_56 : decode b_Message_parse 56 = .ok (.getfield 31, 3) := by decide +kernel
theorem d_Message_parse_59 : decode b_Message_parse 59 = .ok (.iload_n 2, 1) := by decide +kernel
theorem d_Message_parse_60 : decode b_Message_parse 60 = .ok (.if_icmp .ne 7, 3) := by decide +kernel
theorem d_Message_parse_63 : decode b_Message_parse 63 = .ok (.iconst 1, 1) := by decide +kernel
theorem d_Message_parse_64 : decode b_Message_parse 64 = .ok (.goto 4, 3) := by decide +kernel
theorem d_Message_parse_67 : decode b_Message_parse 67 = .ok (.iconst 0, 1) := by decide +kernel
theorem d_Message_parse_68 : decode b_Message_parse 68 = .ok (.ireturn, 1) := by decide +kernel
theorem d_Peer_fault_0 : decode b_Peer_fault 0 = .ok (.aload_n 0, 1) := by decide +kernel
theorem d_Peer_fault_1 : decode b_Peer_fault 1 = .ok (.dup, 1) := by decide +kernel
theorem d_Peer_fault_2 : decode b_Peer_fault 2 = .ok (.getfield 37, 3) := by decide +kernel
theorem d_Peer_fault_5 : decode b_Peer_fault 5 = .ok (.iload_n 1, 1) := by decide +kernel
theorem d_Peer_fault_6 : decode b_Peer_fault 6 = .ok (.isub, 1) := by decide +kernel
theorem d_Peer_fault_7 : decode b_Peer_fault 7 = .ok (.putfield 37, 3) := by decide +kernel
theorem d_Peer_fault_10 : decode b_Peer_fault 10 = .ok (.aload_n 0, 1) := by decide +kernel
theorem d_Peer_fault_11 : decode b_Peer_fault 11 = .ok (.getfield 37, 3) := by decide +kernel
theorem d_Peer_fault_14 : decode b_Peer_fault 14 = .ok (.bipush (-3), 2) := by decide +kernel
theorem d_Peer_fault_16 : decode b_Peer_fault 16 = .ok (.if_icmp .ge 8, 3) := by decide +kernel
theorem d_Peer_fault_19 : decode b_Peer_fault 19 = .ok (.aload_n 0, 1) := by decide +kernel
theorem d_Peer_fault_20 : decode b_Peer_fault 20 = .ok (.iconst 3, 1) := by decide +kernel
theorem d_Peer_fault_21 : decode b_Peer_fault 21 = .ok (.invokevirtual 40, 3) := by decide +kernel
theorem d_Peer_fault_24 : decode b_Peer_fault 24 = .ok (.return_, 1) := by decide +kernel
theorem d_CP_greet_0 : decode b_CP_greet 0 = .ok (.aload_n 0, 1) := by decide +kernel
theorem d_CP_greet_1 : decode b_CP_greet 1 = .ok (.getfield 22, 3) := by decide +kernel
theorem d_CP_greet_4 : decode b_CP_greet 4 = .ok (.getfield 199, 3) := by decide +kernel
theorem d_CP_greet_7 : decode b_CP_greet 7 = .ok (.aload_n 0, 1) := by decide +kernel
theorem d_CP_greet_8 : decode b_CP_greet 8 = .ok (.getfield 52, 3) := by decide +kernel
theorem d_CP_greet_11 : decode b_CP_greet 11 = .ok (.if_icmp .ne 22, 3) := by decide +kernel
theorem d_CP_greet_14 : decode b_CP_greet 14 = .ok (.aload_n 1, 1) := by decide +kernel
theorem d_CP_greet_15 : decode b_CP_greet 15 = .ok (.iconst 2, 1) := by decide +kernel
theorem d_CP_greet_16 : decode b_CP_greet 16 = .ok (.putfield 67, 3) := by decide +kernel
theorem d_CP_greet_19 : decode b_CP_greet 19 = .ok (.aload_n 1, 1) := by decide +kernel
theorem d_CP_greet_20 : decode b_CP_greet 20 = .ok (.aload_n 0, 1) := by decide +kernel
theorem d_CP_greet_21 : decode b_CP_greet 21 = .ok (.getfield 22, 3) := by decide +kernel
theorem d_CP_greet_24 : decode b_CP_greet 24 = .ok (.getfield 200, 3) := by decide +kernel
theorem d_CP_greet_27 : decode b_CP_greet 27 = .ok (.putfield 203, 3) := by decide +kernel
theorem d_CP_greet_30 : decode b_CP_greet 30 = .ok (.goto 8, 3) := by decide +kernel
theorem d_CP_greet_33 : decode b_CP_greet 33 = .ok (.aload_n 1, 1) := by decide +kernel
theorem d_CP_greet_34 : decode b_CP_greet 34 = .ok (.iconst 0, 1) := by decide +kernel
theorem d_CP_greet_35 : decode b_CP_greet 35 = .ok (.invokevirtual 81, 3) := by decide +kernel
theorem d_CP_greet_38 : decode b_CP_greet 38 = .ok (.return_, 1) := by decide +kernel
theorem d_CP_readGreeting_0 : decode b_CP_readGreeting 0 = .ok (.aload_n 0, 1) := by decide +kernel
theorem d_CP_readGreeting_1 : decode b_CP_readGreeting 1 = .ok (.getfield 22, 3) := by decide +kernel
theorem d_CP_readGreeting_4 : decode b_CP_readGreeting 4 = .ok (.getfield 109, 3) := by decide +kernel
theorem d_CP_readGreeting_7 : decode b_CP_readGreeting 7 = .ok (.lookupswitch 39 #[(0, 25), (5, 32)], 25) := by decide +kernel
theorem d_CP_readGreeting_32 : decode b_CP_readGreeting 32 = .ok (.aload_n 0, 1) := by decide +kernel
theorem d_CP_readGreeting_33 : decode b_CP_readGreeting 33 = .ok (.aload_n 1, 1) := by decide +kernel
theorem d_CP_readGreeting_34 : decode b_CP_readGreeting 34 = .ok (.invokevirtual 196, 3) := by decide +kernel
theorem d_CP_readGreeting_37 : decode b_CP_readGreeting 37 = .ok (.iconst 0, 1) := by decide +kernel
theorem d_CP_readGreeting_38 : decode b_CP_readGreeting 38 = .ok (.ireturn, 1) := by decide +kernel
theorem d_CP_readGreeting_39 : decode b_CP_readGreeting 39 = .ok (.aload_n 1, 1) := by decide +kernel
theorem d_CP_readGreeting_40 : decode b_CP_readGreeting 40 = .ok (.iconst 0, 1) := by decide +kernel
theorem d_CP_readGreeting_41 : decode b_CP_readGreeting 41 = .ok (.invokevirtual 81, 3) := by decide +kernel
theorem d_CP_readGreeting_44 : decode b_CP_readGreeting 44 = .ok (.iconst 0, 1) := by decide +kernel
theorem d_CP_readGreeting_45 : decode b_CP_readGreeting 45 = .ok (.ireturn, 1) := by decide +kernel
theorem d_CP_readGreeting_46 : decode b_CP_readGreeting 46 = .ok (.iconst 2, 1) := by decide +kernel
theorem d_CP_readGreeting_47 : decode b_CP_readGreeting 47 = .ok (.ireturn, 1) := by decide +kernel
theorem d_Blocks_ancestor_0 : decode b_Blocks_ancestor 0 = .ok (.iload_n 1, 1) := by decide +kernel
theorem d_Blocks_ancestor_1 : decode b_Blocks_ancestor 1 = .ok (.istore_n 3, 1) := by decide +kernel
theorem d_Blocks_ancestor_2 : decode b_Blocks_ancestor 2 = .ok (.aload_n 0, 1) := by decide +kernel
theorem d_Blocks_ancestor_3 : decode b_Blocks_ancestor 3 = .ok (.iload_n 1, 1) := by decide +kernel
theorem d_Blocks_ancestor_4 : decode b_Blocks_ancestor 4 = .ok (.invokevirtual 52, 3) := by decide +kernel
theorem d_Blocks_ancestor_7 : decode b_Blocks_ancestor 7 = .ok (.iload_n 2, 1) := by decide +kernel
theorem d_Blocks_ancestor_8 : decode b_Blocks_ancestor 8 = .ok (.isub, 1) := by decide +kernel
theorem d_Blocks_ancestor_9 : decode b_Blocks_ancestor 9 = .ok (.istore 4, 2) := by decide +kernel
theorem d_Blocks_ancestor_11 : decode b_Blocks_ancestor 11 = .ok (.iload 4, 2) := by decide +kernel
theorem d_Blocks_ancestor_13 : decode b_Blocks_ancestor 13 = .ok (.ifCond .le 16, 3) := by decide +kernel
theorem d_Blocks_ancestor_16 : decode b_Blocks_ancestor 16 = .ok (.aload_n 0, 1) := by decide +kernel
theorem d_Blocks_ancestor_17 : decode b_Blocks_ancestor 17 = .ok (.getfield 20, 3) := by decide +kernel
theorem d_Blocks_ancestor_20 : decode b_Blocks_ancestor 20 = .ok (.iload_n 3, 1) := by decide +kernel
theorem d_Blocks_ancestor_21 : decode b_Blocks_ancestor 21 = .ok (.iaload, 1) := by decide +kernel
theorem d_Blocks_ancestor_22 : decode b_Blocks_ancestor 22 = .ok (.istore_n 3, 1) := by decide +kernel
theorem d_Blocks_ancestor_23 : decode b_Blocks_ancestor 23 = .ok (.iinc 4 (-1), 3) := by decide +kernel
theorem d_Blocks_ancestor_26 : decode b_Blocks_ancestor 26 = .ok (.goto (-15), 3) := by decide +kernel
theorem d_Blocks_ancestor_29 : decode b_Blocks_ancestor 29 = .ok (.iload_n 3, 1) := by decide +kernel
theorem d_Blocks_ancestor_30 : decode b_Blocks_ancestor 30 = .ok (.ireturn, 1) := by decide +kernel
theorem d_Bytes_addHeader_0 : decode b_Bytes_addHeader 0 = .ok (.aload_n 0, 1) := by decide +kernel
theorem d_Bytes_addHeader_1 : decode b_Bytes_addHeader 1 = .ok (.invokevirtual 25, 3) := by decide +kernel
theorem d_Bytes_addHeader_4 : decode b_Bytes_addHeader 4 = .ok (.istore_n 2, 1) := by decide +kernel
theorem d_Bytes_addHeader_5 : decode b_Bytes_addHeader 5 = .ok (.iconst 0, 1) := by decide +kernel
theorem d_Bytes_addHeader_6 : decode b_Bytes_addHeader 6 = .ok (.istore_n 3, 1) := by decide +kernel
theorem d_Bytes_addHeader_7 : decode b_Bytes_addHeader 7 = .ok (.iload_n 3, 1) := by decide +kernel
theorem d_Bytes_addHeader_8 : decode b_Bytes_addHeader 8 = .ok (.iconst 5, 1) := by decide +kernel
theorem d_Bytes_addHeader_9 : decode b_Bytes_addHeader 9 = .ok (.if_icmp .ge 16, 3) := by decide +kernel
theorem d_Bytes_addHeader_12 : decode b_Bytes_addHeader 12 = .ok (.aload_n 0, 1) := by decide +kernel
theorem d_Bytes_addHeader_13 : decode b_Bytes_addHeader 13 = .ok (.aload_n 1, 1) := by decide +kernel
theorem d_Bytes_addHeader_14 : decode b_Bytes_addHeader 14 = .ok (.iload_n 3, 1) := by decide +kernel
theorem d_Bytes_addHeader_15 : decode b_Bytes_addHeader 15 = .ok (.iaload, 1) := by decide +kernel
theorem d_Bytes_addHeader_16 : decode b_Bytes_addHeader 16 = .ok (.invokevirtual 29, 3) := by decide +kernel
theorem d_Bytes_addHeader_19 : decode b_Bytes_addHeader 19 = .ok (.iinc 3 1, 3) := by decide +kernel
theorem d_Bytes_addHeader_22 : decode b_Bytes_addHeader 22 = .ok (.goto (-15), 3) := by decide +kernel
theorem d_Bytes_addHeader_25 : decode b_Bytes_addHeader 25 = .ok (.aload_n 0, 1) := by decide +kernel
theorem d_Bytes_addHeader_26 : decode b_Bytes_addHeader 26 = .ok (.iload_n 2, 1) := by decide +kernel
theorem d_Bytes_addHeader_27 : decode b_Bytes_addHeader 27 = .ok (.invokevirtual 36, 3) := by decide +kernel
theorem d_Bytes_addHeader_30 : decode b_Bytes_addHeader 30 = .ok (.return_, 1) := by decide +kernel
theorem d_CP_sendHeaders_0 : decode b_CP_sendHeaders 0 = .ok (.aload_n 0, 1) := by decide +kernel
theorem d_CP_sendHeaders_1 : decode b_CP_sendHeaders 1 = .ok (.getfield 16, 3) := by decide +kernel
theorem d_CP_sendHeaders_4 : decode b_CP_sendHeaders 4 = .ok (.iconst 2, 1) := by decide +kernel
theorem d_CP_sendHeaders_5 : decode b_CP_sendHeaders 5 = .ok (.invokevirtual 247, 3) := by decide +kernel
theorem d_CP_sendHeaders_8 : decode b_CP_sendHeaders 8 = .ok (.aload_n 0, 1) := by decide +kernel
theorem d_CP_sendHeaders_9 : decode b_CP_sendHeaders 9 = .ok (.getfield 16, 3) := by decide +kernel
theorem d_CP_sendHeaders_12 : decode b_CP_sendHeaders 12 = .ok (.aload_n 0, 1) := by decide +kernel
theorem d_CP_sendHeaders_13 : decode b_CP_sendHeaders 13 = .ok (.getfield 22, 3) := by decide +kernel
theorem d_CP_sendHeaders_16 : decode b_CP_sendHeaders 16 = .ok (.getfield 216, 3) := by decide +kernel
theorem d_CP_sendHeaders_19 : decode b_CP_sendHeaders 19 = .ok (.invokevirtual 250, 3) := by decide +kernel
theorem d_CP_sendHeaders_22 : decode b_CP_sendHeaders 22 = .ok (.aload_n 0, 1) := by decide +kernel
theorem d_CP_sendHeaders_23 : decode b_CP_sendHeaders 23 = .ok (.getfield 16, 3) := by decide +kernel
theorem d_CP_sendHeaders_26 : decode b_CP_sendHeaders 26 = .ok (.invokevirtual 256, 3) := by decide +kernel
theorem d_CP_sendHeaders_29 : decode b_CP_sendHeaders 29 = .ok (.istore_n 2, 1) := by decide +kernel
theorem d_CP_sendHeaders_30 : decode b_CP_sendHeaders 30 = .ok (.aload_n 0, 1) := by decide +kernel
theorem d_CP_sendHeaders_31 : decode b_CP_sendHeaders 31 = .ok (.getfield 29, 3) := by decide +kernel
theorem d_CP_sendHeaders_34 : decode b_CP_sendHeaders 34 = .ok (.invokevirtual 133, 3) := by decide +kernel
theorem d_CP_sendHeaders_37 : decode b_CP_sendHeaders 37 = .ok (.istore_n 3, 1) := by decide +kernel
theorem d_CP_sendHeaders_38 : decode b_CP_sendHeaders 38 = .ok (.aload_n 0, 1) := by decide +kernel
theorem d_CP_sendHeaders_39 : decode b_CP_sendHeaders 39 = .ok (.getfield 22, 3) := by decide +kernel
theorem d_CP_sendHeaders_42 : decode b_CP_sendHeaders 42 = .ok (.getfield 259, 3) := by decide +kernel
theorem d_CP_sendHeaders_45 : decode b_CP_sendHeaders 45 = .ok (.iconst 2, 1) := by decide +kernel
theorem d_CP_sendHeaders_46 : decode b_CP_sendHeaders 46 = .ok (.invokestatic 56, 3) := by decide +kernel
theorem d_CP_sendHeaders_49 : decode b_CP_sendHeaders 49 = .ok (.istore 4, 2) := by decide +kernel
theorem d_CP_sendHeaders_51 : decode b_CP_sendHeaders 51 = .ok (.aload_n 0, 1) := by decide +kernel
theorem d_CP_sendHeaders_52 : decode b_CP_sendHeaders 52 = .ok (.getfield 29, 3) := by decide +kernel
theorem d_CP_sendHeaders_55 : decode b_CP_sendHeaders 55 = .ok (.iload_n 3, 1) := by decide +kernel
theorem d_CP_sendHeaders_56 : decode b_CP_sendHeaders 56 = .ok (.invokevirtual 139, 3) := by decide +kernel
theorem d_CP_sendHeaders_59 : decode b_CP_sendHeaders 59 = .ok (.aload_n 0, 1) := by decide +kernel
theorem d_CP_sendHeaders_60 : decode b_CP_sendHeaders 60 = .ok (.getfield 22, 3) := by decide +kernel
theorem d_CP_sendHeaders_63 : decode b_CP_sendHeaders 63 = .ok (.getfield 260, 3) := by decide +kernel
theorem d_CP_sendHeaders_66 : decode b_CP_sendHeaders 66 = .ok (.isub, 1) := by decide +kernel
theorem d_CP_sendHeaders_67 : decode b_CP_sendHeaders 67 = .ok (.iconst 1, 1) := by decide +kernel
theorem d_CP_sendHeaders_68 : decode b_CP_sendHeaders 68 = .ok (.iadd, 1) := by decide +kernel
theorem d_CP_sendHeaders_69 : decode b_CP_sendHeaders 69 = .ok (.istore 5, 2) := by decide +kernel
theorem d_CP_sendHeaders_71 : decode b_CP_sendHeaders 71 = .ok (.iconst 0, 1) := by decide +kernel
theorem d_CP_sendHeaders_72 : decode b_CP_sendHeaders 72 = .ok (.istore 6, 2) := by decide +kernel
theorem d_CP_sendHeaders_74 : decode b_CP_sendHeaders 74 = .ok (.iload 6, 2) := by decide +kernel
theorem d_CP_sendHeaders_76 : decode b_CP_sendHeaders 76 = .ok (.iload 4, 2) := by decide +kernel
theorem d_CP_sendHeaders_78 : decode b_CP_sendHeaders 78 = .ok (.if_icmp .ge 53, 3) := by decide +kernel
theorem d_CP_sendHeaders_81 : decode b_CP_sendHeaders 81 = .ok (.iload 6, 2) := by decide +kernel
theorem d_CP_sendHeaders_83 : decode b_CP_sendHeaders 83 = .ok (.iload 5, 2) := by decide +kernel
theorem d_CP_sendHeaders_85 : decode b_CP_sendHeaders 85 = .ok (.if_icmp .ge 46, 3) := by decide +kernel
theorem d_CP_sendHeaders_88 : decode b_CP_sendHeaders 88 = .ok (.aload_n 0, 1) := by decide +kernel
theorem d_CP_sendHeaders_89 : decode b_CP_sendHeaders 89 = .ok (.getfield 29, 3) := by decide +kernel
theorem d_CP_sendHeaders_92 : decode b_CP_sendHeaders 92 = .ok (.iload_n 3, 1) := by decide +kernel
theorem d_CP_sendHeaders_93 : decode b_CP_sendHeaders 93 = .ok (.aload_n 0, 1) := by decide +kernel
theorem d_CP_sendHeaders_94 : decode b_CP_sendHeaders 94 = .ok (.getfield 22, 3) := by decide +kernel
theorem d_CP_sendHeaders_97 : decode b_CP_sendHeaders 97 = .ok (.getfield 260, 3) := by decide +kernel
theorem d_CP_sendHeaders_100 : decode b_CP_sendHeaders 100 = .ok (.iload 6, 2) := by decide +kernel
theorem d_CP_sendHeaders_102 : decode b_CP_sendHeaders 102 = .ok (.iadd, 1) := by decide +kernel
theorem d_CP_sendHeaders_103 : decode b_CP_sendHeaders 103 = .ok (.invokevirtual 263, 3) := by decide +kernel
theorem d_CP_sendHeaders_106 : decode b_CP_sendHeaders 106 = .ok (.istore 7, 2) := by decide +kernel
theorem d_CP_sendHeaders_108 : decode b_CP_sendHeaders 108 = .ok (.aload_n 0, 1) := by decide +kernel
theorem d_CP_sendHeaders_109 : decode b_CP_sendHeaders 109 = .ok (.getfield 16, 3) := by decide +kernel
theorem d_CP_sendHeaders_112 : decode b_CP_sendHeaders 112 = .ok (.aload_n 0, 1) := by decide +kernel
theorem d_CP_sendHeaders_113 : decode b_CP_sendHeaders 113 = .ok (.getfield 29, 3) := by decide +kernel
theorem d_CP_sendHeaders_116 : decode b_CP_sendHeaders 116 = .ok (.getfield 246, 3) := by decide +kernel
theorem d_CP_sendHeaders_119 : decode b_CP_sendHeaders 119 = .ok (.iload 7, 2) := by decide +kernel
theorem d_CP_sendHeaders_121 : decode b_CP_sendHeaders 121 = .ok (.aaload, 1) := by decide +kernel
theorem d_CP_sendHeaders_122 : decode b_CP_sendHeaders 122 = .ok (.invokevirtual 266, 3) := by decide +kernel
theorem d_CP_sendHeaders_125 : decode b_CP_sendHeaders 125 = .ok (.iinc 6 1, 3) := by decide +kernel
theorem d_CP_sendHeaders_128 : decode b_CP_sendHeaders 128 = .ok (.goto (-54), 3) := by decide +kernel
theorem d_CP_sendHeaders_131 : decode b_CP_sendHeaders 131 = .ok (.aload_n 0, 1) := by decide +kernel
theorem d_CP_sendHeaders_132 : decode b_CP_sendHeaders 132 = .ok (.getfield 16, 3) := by decide +kernel
theorem d_CP_sendHeaders_135 : decode b_CP_sendHeaders 135 = .ok (.iload_n 2, 1) := by decide +kernel
theorem d_CP_sendHeaders_136 : decode b_CP_sendHeaders 136 = .ok (.invokevirtual 269, 3) := by decide +kernel
theorem d_CP_sendHeaders_139 : decode b_CP_sendHeaders 139 = .ok (.aload_n 0, 1) := by decide +kernel
theorem d_CP_sendHeaders_140 : decode b_CP_sendHeaders 140 = .ok (.aload_n 1, 1) := by decide +kernel
theorem d_CP_sendHeaders_141 : decode b_CP_sendHeaders 141 = .ok (.invokevirtual 253, 3) := by decide +kernel
theorem d_CP_sendHeaders_144 : decode b_CP_sendHeaders 144 = .ok (.return_, 1) := by decide +kernel
theorem d_Peer_wasAsked_0 : decode b_Peer_wasAsked 0 = .ok (.aload_n 0, 1) := by decide +kernel
theorem d_Peer_wasAsked_1 : decode b_Peer_wasAsked 1 = .ok (.getfield 22, 3) := by decide +kernel
theorem d_Peer_wasAsked_4 : decode b_Peer_wasAsked 4 = .ok (.ifCond .eq 23, 3) := by decide +kernel
theorem d_Peer_wasAsked_7 : decode b_Peer_wasAsked 7 = .ok (.aload_n 0, 1) := by decide +kernel
theorem d_Peer_wasAsked_8 : decode b_Peer_wasAsked 8 = .ok (.getfield 22, 3) := by decide +kernel
theorem d_Peer_wasAsked_11 : decode b_Peer_wasAsked 11 = .ok (.iload_n 2, 1) := by decide +kernel
theorem d_Peer_wasAsked_12 : decode b_Peer_wasAsked 12 = .ok (.if_icmp .ne 15, 3) := by decide +kernel
theorem d_Peer_wasAsked_15 : decode b_Peer_wasAsked 15 = .ok (.aload_n 0, 1) := by decide +kernel
theorem d_Peer_wasAsked_16 : decode b_Peer_wasAsked 16 = .ok (.getfield 50, 3) := by decide +kernel
theorem d_Peer_wasAsked_19 : decode b_Peer_wasAsked 19 = .ok (.iload_n 1, 1) := by decide +kernel
theorem d_Peer_wasAsked_20 : decode b_Peer_wasAsked 20 = .ok (.if_icmp .ne 7, 3) := by decide +kernel
theorem d_Peer_wasAsked_23 : decode b_Peer_wasAsked 23 = .ok (.iconst 1, 1) := by decide +kernel
theorem d_Peer_wasAsked_24 : decode b_Peer_wasAsked 24 = .ok (.goto 4, 3) := by decide +kernel
theorem d_Peer_wasAsked_27 : decode b_Peer_wasAsked 27 = .ok (.iconst 0, 1) := by decide +kernel
theorem d_Peer_wasAsked_28 : decode b_Peer_wasAsked 28 = .ok (.ireturn, 1) := by decide +kernel
theorem d_CP_mix_0 : decode b_CP_mix 0 = .ok (.iload_n 0, 1) := by decide +kernel
theorem d_CP_mix_1 : decode b_CP_mix 1 = .ok (.istore_n 3, 1) := by decide +kernel
theorem d_CP_mix_2 : decode b_CP_mix 2 = .ok (.iconst 0, 1) := by decide +kernel
theorem d_CP_mix_3 : decode b_CP_mix 3 = .ok (.istore 4, 2) := by decide +kernel
theorem d_CP_mix_5 : decode b_CP_mix 5 = .ok (.iload 4, 2) := by decide +kernel
theorem d_CP_mix_7 : decode b_CP_mix 7 = .ok (.iload_n 2, 1) := by decide +kernel
theorem d_CP_mix_8 : decode b_CP_mix 8 = .ok (.if_icmp .ge 39, 3) := by decide +kernel
theorem d_CP_mix_11 : decode b_CP_mix 11 = .ok (.iload 4, 2) := by decide +kernel
theorem d_CP_mix_13 : decode b_CP_mix 13 = .ok (.aload_n 1, 1) := by decide +kernel
theorem d_CP_mix_14 : decode b_CP_mix 14 = .ok (.arraylength, 1) := by decide +kernel
theorem d_CP_mix_15 : decode b_CP_mix 15 = .ok (.if_icmp .ge 32, 3) := by decide +kernel
theorem d_CP_mix_18 : decode b_CP_mix 18 = .ok (.iload_n 3, 1) := by decide +kernel
theorem d_CP_mix_19 : decode b_CP_mix 19 = .ok (.aload_n 1, 1) := by decide +kernel
theorem d_CP_mix_20 : decode b_CP_mix 20 = .ok (.iload 4, 2) := by decide +kernel
theorem d_CP_mix_22 : decode b_CP_mix 22 = .ok (.iaload, 1) := by decide +kernel
theorem d_CP_mix_23 : decode b_CP_mix 23 = .ok (.ixor, 1) := by decide +kernel
theorem d_CP_mix_24 : decode b_CP_mix 24 = .ok (.ldc 194, 2) := by decide +kernel
theorem d_CP_mix_26 : decode b_CP_mix 26 = .ok (.imul, 1) := by decide +kernel
theorem d_CP_mix_27 : decode b_CP_mix 27 = .ok (.istore 5, 2) := by decide +kernel
theorem d_CP_mix_29 : decode b_CP_mix 29 = .ok (.iload 5, 2) := by decide +kernel
theorem d_CP_mix_31 : decode b_CP_mix 31 = .ok (.iload 5, 2) := by decide +kernel
theorem d_CP_mix_33 : decode b_CP_mix 33 = .ok (.bipush 15, 2) := by decide +kernel
theorem d_CP_mix_35 : decode b_CP_mix 35 = .ok (.iushr, 1) := by decide +kernel
theorem d_CP_mix_36 : decode b_CP_mix 36 = .ok (.ixor, 1) := by decide +kernel
theorem d_CP_mix_37 : decode b_CP_mix 37 = .ok (.ldc 195, 2) := by decide +kernel
theorem d_CP_mix_39 : decode b_CP_mix 39 = .ok (.iand, 1) := by decide +kernel
theorem d_CP_mix_40 : decode b_CP_mix 40 = .ok (.istore_n 3, 1) := by decide +kernel
theorem d_CP_mix_41 : decode b_CP_mix 41 = .ok (.iinc 4 1, 3) := by decide +kernel
theorem d_CP_mix_44 : decode b_CP_mix 44 = .ok (.goto (-39), 3) := by decide +kernel
theorem d_CP_mix_47 : decode b_CP_mix 47 = .ok (.iload_n 3, 1) := by decide +kernel
theorem d_CP_mix_48 : decode b_CP_mix 48 = .ok (.ireturn, 1) := by decide +kernel
theorem d_CP_hashOf_0 : decode b_CP_hashOf 0 = .ok (.bipush 7, 2) := by decide +kernel
theorem d_CP_hashOf_2 : decode b_CP_hashOf 2 = .ok (.aload_n 0, 1) := by decide +kernel
theorem d_CP_hashOf_3 : decode b_CP_hashOf 3 = .ok (.iconst 5, 1) := by decide +kernel
theorem d_CP_hashOf_4 : decode b_CP_hashOf 4 = .ok (.invokestatic 190, 3) := by decide +kernel
theorem d_CP_hashOf_7 : decode b_CP_hashOf 7 = .ok (.ireturn, 1) := by decide +kernel
theorem d_Blocks_find_0 : decode b_Blocks_find 0 = .ok (.iconst 0, 1) := by decide +kernel
theorem d_Blocks_find_1 : decode b_Blocks_find 1 = .ok (.istore_n 2, 1) := by decide +kernel
theorem d_Blocks_find_2 : decode b_Blocks_find 2 = .ok (.iload_n 2, 1) := by decide +kernel
theorem d_Blocks_find_3 : decode b_Blocks_find 3 = .ok (.aload_n 0, 1) := by decide +kernel
theorem d_Blocks_find_4 : decode b_Blocks_find 4 = .ok (.getfield 40, 3) := by decide +kernel
theorem d_Blocks_find_7 : decode b_Blocks_find 7 = .ok (.if_icmp .ge 21, 3) := by decide +kernel
theorem d_Blocks_find_10 : decode b_Blocks_find 10 = .ok (.aload_n 0, 1) := by decide +kernel
theorem d_Blocks_find_11 : decode b_Blocks_find 11 = .ok (.getfield 16, 3) := by decide +kernel
theorem d_Blocks_find_14 : decode b_Blocks_find 14 = .ok (.iload_n 2, 1) := by decide +kernel
theorem d_Blocks_find_15 : decode b_Blocks_find 15 = .ok (.iaload, 1) := by decide +kernel
theorem d_Blocks_find_16 : decode b_Blocks_find 16 = .ok (.iload_n 1, 1) := by decide +kernel
theorem d_Blocks_find_17 : decode b_Blocks_find 17 = .ok (.if_icmp .ne 5, 3) := by decide +kernel
theorem d_Blocks_find_20 : decode b_Blocks_find 20 = .ok (.iload_n 2, 1) := by decide +kernel
theorem d_Blocks_find_21 : decode b_Blocks_find 21 = .ok (.ireturn, 1) := by decide +kernel
theorem d_Blocks_find_22 : decode b_Blocks_find 22 = .ok (.iinc 2 1, 3) := by decide +kernel
theorem d_Blocks_find_25 : decode b_Blocks_find 25 = .ok (.goto (-23), 3) := by decide +kernel
theorem d_Blocks_find_28 : decode b_Blocks_find 28 = .ok (.iconst (-1), 1) := by decide +kernel
theorem d_Blocks_find_29 : decode b_Blocks_find 29 = .ok (.ireturn, 1) := by decide +kernel
theorem d_Blocks_isKnown_0 : decode b_Blocks_isKnown 0 = .ok (.aload_n 0, 1) := by decide +kernel
theorem d_Blocks_isKnown_1 : decode b_Blocks_isKnown 1 = .ok (.iload_n 1, 1) := by decide +kernel
theorem d_Blocks_isKnown_2 : decode b_Blocks_isKnown 2 = .ok (.invokevirtual 48, 3) := by decide +kernel
theorem d_Blocks_isKnown_5 : decode b_Blocks_isKnown 5 = .ok (.iconst (-1), 1) := by decide +kernel
theorem d_Blocks_isKnown_6 : decode b_Blocks_isKnown 6 = .ok (.if_icmp .eq 7, 3) := by decide +kernel
theorem d_Blocks_isKnown_9 : decode b_Blocks_isKnown 9 = .ok (.iconst 1, 1) := by decide +kernel
theorem d_Blocks_isKnown_10 : decode b_Blocks_isKnown 10 = .ok (.goto 4, 3) := by decide +kernel
theorem d_Blocks_isKnown_13 : decode b_Blocks_isKnown 13 = .ok (.iconst 0, 1) := by decide +kernel
theorem d_Blocks_isKnown_14 : decode b_Blocks_isKnown 14 = .ok (.ireturn, 1) := by decide +kernel
theorem d_Blocks_isGood_0 : decode b_Blocks_isGood 0 = .ok (.aload_n 0, 1) := by decide +kernel
theorem d_Blocks_isGood_1 : decode b_Blocks_isGood 1 = .ok (.aload_n 1, 1) := by decide +kernel
theorem d_Blocks_isGood_2 : decode b_Blocks_isGood 2 = .ok (.iconst 0, 1) := by decide +kernel
theorem d_Blocks_isGood_3 : decode b_Blocks_isGood 3 = .ok (.iaload, 1) := by decide +kernel
theorem d_Blocks_isGood_4 : decode b_Blocks_isGood 4 = .ok (.invokevirtual 48, 3) := by decide +kernel
theorem d_Blocks_isGood_7 : decode b_Blocks_isGood 7 = .ok (.istore_n 2, 1) := by decide +kernel
theorem d_Blocks_isGood_8 : decode b_Blocks_isGood 8 = .ok (.iload_n 2, 1) := by decide +kernel
theorem d_Blocks_isGood_9 : decode b_Blocks_isGood 9 = .ok (.iconst (-1), 1) := by decide +kernel
theorem d_Blocks_isGood_10 : decode b_Blocks_isGood 10 = .ok (.if_icmp .ne 5, 3) := by decide +kernel
theorem d_Blocks_isGood_13 : decode b_Blocks_isGood 13 = .ok (.iconst 0, 1) := by decide +kernel
theorem d_Blocks_isGood_14 : decode b_Blocks_isGood 14 = .ok (.ireturn, 1) := by decide +kernel
theorem d_Blocks_isGood_15 : decode b_Blocks_isGood 15 = .ok (.aload_n 1, 1) := by decide +kernel
theorem d_Blocks_isGood_16 : decode b_Blocks_isGood 16 = .ok (.iconst 3, 1) := by decide +kernel
theorem d_Blocks_isGood_17 : decode b_Blocks_isGood 17 = .ok (.iaload, 1) := by decide +kernel
theorem d_Blocks_isGood_18 : decode b_Blocks_isGood 18 = .ok (.istore_n 3, 1) := by decide +kernel
theorem d_Blocks_isGood_19 : decode b_Blocks_isGood 19 = .ok (.aload_n 0, 1) := by decide +kernel
theorem d_Blocks_isGood_20 : decode b_Blocks_isGood 20 = .ok (.getfield 11, 3) := by decide +kernel
theorem d_Blocks_isGood_23 : decode b_Blocks_isGood 23 = .ok (.iload_n 2, 1) := by decide +kernel
theorem d_Blocks_isGood_24 : decode b_Blocks_isGood 24 = .ok (.aaload, 1) := by decide +kernel
theorem d_Blocks_isGood_25 : decode b_Blocks_isGood 25 = .ok (.iconst 3, 1) := by decide +kernel
theorem d_Blocks_isGood_26 : decode b_Blocks_isGood 26 = .ok (.iaload, 1) := by decide +kernel
theorem d_Blocks_isGood_27 : decode b_Blocks_isGood 27 = .ok (.istore 4, 2) := by decide +kernel
theorem d_Blocks_isGood_29 : decode b_Blocks_isGood 29 = .ok (.aload_n 1, 1) := by decide +kernel
theorem d_Blocks_isGood_30 : decode b_Blocks_isGood 30 = .ok (.iconst 1, 1) := by decide +kernel
theorem d_Blocks_isGood_31 : decode b_Blocks_isGood 31 = .ok (.iaload, 1) := by decide +kernel
theorem d_Blocks_isGood_32 : decode b_Blocks_isGood 32 = .ok (.aload_n 0, 1) := by decide +kernel
theorem d_Blocks_isGood_33 : decode b_Blocks_isGood 33 = .ok (.iload_n 2, 1) := by decide +kernel
theorem d_Blocks_isGood_34 : decode b_Blocks_isGood 34 = .ok (.invokevirtual 52, 3) := by decide +kernel
theorem d_Blocks_isGood_37 : decode b_Blocks_isGood 37 = .ok (.iconst 1, 1) := by decide +kernel
theorem d_Blocks_isGood_38 : decode b_Blocks_isGood 38 = .ok (.iadd, 1) := by decide +kernel
theorem d_Blocks_isGood_39 : decode b_Blocks_isGood 39 = .ok (.if_icmp .ne 48, 3) := by decide +kernel
theorem d_Blocks_isGood_42 : decode b_Blocks_isGood 42 = .ok (.aload_n 1, 1) := by decide +kernel
theorem d_Blocks_isGood_43 : decode b_Blocks_isGood 43 = .ok (.iconst 2, 1) := by decide +kernel
theorem d_Blocks_isGood_44 : decode b_Blocks_isGood 44 = .ok (.iaload, 1) := by decide +kernel
theorem d_Blocks_isGood_45 : decode b_Blocks_isGood 45 = .ok (.aload_n 0, 1) := by decide +kernel
theorem d_Blocks_isGood_46 : decode b_Blocks_isGood 46 = .ok (.getfield 11, 3) := by decide +kernel
theorem d_Blocks_isGood_49 : decode b_Blocks_isGood 49 = .ok (.iload_n 2, 1) := by decide +kernel
theorem d_Blocks_isGood_50 : decode b_Blocks_isGood 50 = .ok (.aaload, 1) := by decide +kernel
theorem d_Blocks_isGood_51 : decode b_Blocks_isGood 51 = .ok (.iconst 2, 1) := by decide +kernel
theorem d_Blocks_isGood_52 : decode b_Blocks_isGood 52 = .ok (.iaload, 1) := by decide +kernel
theorem d_Blocks_isGood_53 : decode b_Blocks_isGood 53 = .ok (.if_icmp .le 34, 3) := by decide +kernel
theorem d_Blocks_isGood_56 : decode b_Blocks_isGood 56 = .ok (.iload_n 3, 1) := by decide +kernel
theorem d_Blocks_isGood_57 : decode b_Blocks_isGood 57 = .ok (.iconst 1, 1) := by decide +kernel
theorem d_Blocks_isGood_58 : decode b_Blocks_isGood 58 = .ok (.if_icmp .lt 29, 3) := by decide +kernel
theorem d_Blocks_isGood_61 : decode b_Blocks_isGood 61 = .ok (.iload_n 3, 1) := by decide +kernel
theorem d_Blocks_isGood_62 : decode b_Blocks_isGood 62 = .ok (.bipush 99, 2) := by decide +kernel
theorem d_Blocks_isGood_64 : decode b_Blocks_isGood 64 = .ok (.if_icmp .gt 23, 3) := by decide +kernel
theorem d_Blocks_isGood_67 : decode b_Blocks_isGood 67 = .ok (.iload_n 3, 1) := by decide +kernel
theorem d_Blocks_isGood_68 : decode b_Blocks_isGood 68 = .ok (.iload 4, 2) := by decide +kernel
theorem d_Blocks_isGood_70 : decode b_Blocks_isGood 70 = .ok (.isub, 1) := by decide +kernel
theorem d_Blocks_isGood_71 : decode b_Blocks_isGood 71 = .ok (.invokestatic 55, 3) := by decide +kernel
theorem d_Blocks_isGood_74 : decode b_Blocks_isGood 74 = .ok (.iload 4, 2) := by decide +kernel
theorem d_Blocks_isGood_76 : decode b_Blocks_isGood 76 = .ok (.iconst 4, 1) := by decide +kernel
theorem d_Blocks_isGood_77 : decode b_Blocks_isGood 77 = .ok (.idiv, 1) := by decide +kernel
theorem d_Blocks_isGood_78 : decode b_Blocks_isGood 78 = .ok (.iconst 1, 1) := by decide +kernel
theorem d_Blocks_isGood_79 : decode b_Blocks_isGood 79 = .ok (.iadd, 1) := by decide +kernel
theorem d_Blocks_isGood_80 : decode b_Blocks_isGood 80 = .ok (.if_icmp .gt 7, 3) := by decide +kernel
theorem d_Blocks_isGood_83 : decode b_Blocks_isGood 83 = .ok (.iconst 1, 1) := by decide +kernel
theorem d_Blocks_isGood_84 : decode b_Blocks_isGood 84 = .ok (.goto 4, 3) := by decide +kernel
theorem d_Blocks_isGood_87 : decode b_Blocks_isGood 87 = .ok (.iconst 0, 1) := by decide +kernel
theorem d_Blocks_isGood_88 : decode b_Blocks_isGood 88 = .ok (.ireturn, 1) := by decide +kernel
theorem d_Blocks_isFull_0 : decode b_Blocks_isFull 0 = .ok (.aload_n 0, 1) := by decide +kernel
theorem d_Blocks_isFull_1 : decode b_Blocks_isFull 1 = .ok (.getfield 40, 3) := by decide +kernel
theorem d_Blocks_isFull_4 : decode b_Blocks_isFull 4 = .ok (.bipush 20, 2) := by decide +kernel
theorem d_Blocks_isFull_6 : decode b_Blocks_isFull 6 = .ok (.if_icmp .lt 7, 3) := by decide +kernel
theorem d_Blocks_isFull_9 : decode b_Blocks_isFull 9 = .ok (.iconst 1, 1) := by decide +kernel
theorem d_Blocks_isFull_10 : decode b_Blocks_isFull 10 = .ok (.goto 4, 3) := by decide +kernel
theorem d_Blocks_isFull_13 : decode b_Blocks_isFull 13 = .ok (.iconst 0, 1) := by decide +kernel
theorem d_Blocks_isFull_14 : decode b_Blocks_isFull 14 = .ok (.ireturn, 1) := by decide +kernel
theorem d_Blocks_append_0 : decode b_Blocks_append 0 = .ok (.aload_n 0, 1) := by decide +kernel
theorem d_Blocks_append_1 : decode b_Blocks_append 1 = .ok (.aload_n 1, 1) := by decide +kernel
theorem d_Blocks_append_2 : decode b_Blocks_append 2 = .ok (.iconst 0, 1) := by decide +kernel
theorem d_Blocks_append_3 : decode b_Blocks_append 3 = .ok (.iaload, 1) := by decide +kernel
theorem d_Blocks_append_4 : decode b_Blocks_append 4 = .ok (.invokevirtual 48, 3) := by decide +kernel
theorem d_Blocks_append_7 : decode b_Blocks_append 7 = .ok (.istore_n 2, 1) := by decide +kernel
theorem d_Blocks_append_8 : decode b_Blocks_append 8 = .ok (.aload_n 0, 1) := by decide +kernel
theorem d_Blocks_append_9 : decode b_Blocks_append 9 = .ok (.invokevirtual 60, 3) := by decide +kernel
theorem d_Blocks_append_12 : decode b_Blocks_append 12 = .ok (.ifCond .ne 8, 3) := by decide +kernel
theorem d_Blocks_append_15 : decode b_Blocks_append 15 = .ok (.iload_n 2, 1) := by decide +kernel
theorem d_Blocks_append_16 : decode b_Blocks_append 16 = .ok (.iconst (-1), 1) := by decide +kernel
theorem d_Blocks_append_17 : decode b_Blocks_append 17 = .ok (.if_icmp .ne 4, 3) := by decide +kernel
theorem d_Blocks_append_20 : decode b_Blocks_append 20 = .ok (.return_, 1) := by decide +kernel
theorem d_Blocks_append_21 : decode b_Blocks_append 21 = .ok (.aload_n 1, 1) := by decide +kernel
theorem d_Blocks_append_22 : decode b_Blocks_append 22 = .ok (.iconst 0, 1) := by decide +kernel
theorem d_Blocks_append_23 : decode b_Blocks_append 23 = .ok (.aload_n 0, 1) := by decide +kernel
theorem d_Blocks_append_24 : decode b_Blocks_append 24 = .ok (.getfield 11, 3) := by decide +kernel
theorem d_Blocks_append_27 : decode b_Blocks_append 27 = .ok (.aload_n 0, 1) := by decide +kernel
theorem d_Blocks_append_28 : decode b_Blocks_append 28 = .ok (.getfield 40, 3) := by decide +kernel
theorem d_Blocks_append_31 : decode b_Blocks_append 31 = .ok (.aaload, 1) := by decide +kernel
theorem d_Blocks_append_32 : decode b_Blocks_append 32 = .ok (.iconst 0, 1) := by decide +kernel
theorem d_Blocks_append_33 : decode b_Blocks_append 33 = .ok (.iconst 5, 1) := by decide +kernel
theorem d_Blocks_append_34 : decode b_Blocks_append 34 = .ok (.invokestatic 64, 3) := by decide +kernel
theorem d_Blocks_append_37 : decode b_Blocks_append 37 = .ok (.aload_n 0, 1) := by decide +kernel
theorem d_Blocks_append_38 : decode b_Blocks_append 38 = .ok (.getfield 16, 3) := by decide +kernel
theorem d_Blocks_append_41 : decode b_Blocks_append 41 = .ok (.aload_n 0, 1) := by decide +kernel
theorem d_Blocks_append_42 : decode b_Blocks_append 42 = .ok (.getfield 40, 3) := by decide +kernel
theorem d_Blocks_append_45 : decode b_Blocks_append 45 = .ok (.aload_n 1, 1) := by decide +kernel
theorem d_Blocks_append_46 : decode b_Blocks_append 46 = .ok (.invokestatic 36, 3) := by decide +kernel
theorem d_Blocks_append_49 : decode b_Blocks_append 49 = .ok (.iastore, 1) := by decide +kernel
theorem d_Blocks_append_50 : decode b_Blocks_append 50 = .ok (.aload_n 0, 1) := by decide +kernel
theorem d_Blocks_append_51 : decode b_Blocks_append 51 = .ok (.getfield 20, 3) := by decide +kernel
theorem d_Blocks_append_54 : decode b_Blocks_append 54 = .ok (.aload_n 0, 1) := by decide +kernel
theorem d_Blocks_append_55 : decode b_Blocks_append 55 = .ok (.getfield 40, 3) := by decide +kernel
theorem d_Blocks_append_58 : decode b_Blocks_append 58 = .ok (.iload_n 2, 1) := by decide +kernel
theorem d_Blocks_append_59 : decode b_Blocks_append 59 = .ok (.iastore, 1) := by decide +kernel
theorem d_Blocks_append_60 : decode b_Blocks_append 60 = .ok (.aload_n 0, 1) := by decide +kernel
theorem d_Blocks_append_61 : decode b_Blocks_append 61 = .ok (.getfield 23, 3) := by decide +kernel
theorem d_Blocks_append_64 : decode b_Blocks_append 64 = .ok (.aload_n 0, 1) := by decide +kernel
theorem d_Blocks_append_65 : decode b_Blocks_append 65 = .ok (.getfield 40, 3) := by decide +kernel
theorem d_Blocks_append_68 : decode b_Blocks_append 68 = .ok (.aload_n 0, 1) := by decide +kernel
theorem d_Blocks_append_69 : decode b_Blocks_append 69 = .ok (.getfield 23, 3) := by decide +kernel
theorem d_Blocks_append_72 : decode b_Blocks_append 72 = .ok (.iload_n 2, 1) := by decide +kernel
theorem d_Blocks_append_73 : decode b_Blocks_append 73 = .ok (.iaload, 1) := by decide +kernel
theorem d_Blocks_append_74 : decode b_Blocks_append 74 = .ok (.aload_n 1, 1) := by decide +kernel
theorem d_Blocks_append_75 : decode b_Blocks_append 75 = .ok (.iconst 3, 1) := by decide +kernel
theorem d_Blocks_append_76 : decode b_Blocks_append 76 = .ok (.iaload, 1) := by decide +kernel
theorem d_Blocks_append_77 : decode b_Blocks_append 77 = .ok (.iadd, 1) := by decide +kernel
theorem d_Blocks_append_78 : decode b_Blocks_append 78 = .ok (.iastore, 1) := by decide +kernel
theorem d_Blocks_append_79 : decode b_Blocks_append 79 = .ok (.aload_n 0, 1) := by decide +kernel
theorem d_Blocks_append_80 : decode b_Blocks_append 80 = .ok (.getfield 29, 3) := by decide +kernel
theorem d_Blocks_append_83 : decode b_Blocks_append 83 = .ok (.aload_n 0, 1) := by decide +kernel
theorem d_Blocks_append_84 : decode b_Blocks_append 84 = .ok (.getfield 40, 3) := by decide +kernel
theorem d_Blocks_append_87 : decode b_Blocks_append 87 = .ok (.iconst (-1), 1) := by decide +kernel
theorem d_Blocks_append_88 : decode b_Blocks_append 88 = .ok (.iastore, 1) := by decide +kernel
theorem d_Blocks_append_89 : decode b_Blocks_append 89 = .ok (.aload_n 0, 1) := by decide +kernel
theorem d_Blocks_append_90 : decode b_Blocks_append 90 = .ok (.dup, 1) := by decide +kernel
theorem d_Blocks_append_91 : decode b_Blocks_append 91 = .ok (.getfield 40, 3) := by decide +kernel
theorem d_Blocks_append_94 : decode b_Blocks_append 94 = .ok (.iconst 1, 1) := by decide +kernel
theorem d_Blocks_append_95 : decode b_Blocks_append 95 = .ok (.iadd, 1) := by decide +kernel
theorem d_Blocks_append_96 : decode b_Blocks_append 96 = .ok (.putfield 40, 3) := by decide +kernel
theorem d_Blocks_append_99 : decode b_Blocks_append 99 = .ok (.return_, 1) := by decide +kernel
theorem d_CP_takeHeaders_0 : decode b_CP_takeHeaders 0 = .ok (.iconst 0, 1) := by decide +kernel
theorem d_CP_takeHeaders_1 : decode b_CP_takeHeaders 1 = .ok (.istore_n 1, 1) := by decide +kernel
theorem d_CP_takeHeaders_2 : decode b_CP_takeHeaders 2 = .ok (.iload_n 1, 1) := by decide +kernel
theorem d_CP_takeHeaders_3 : decode b_CP_takeHeaders 3 = .ok (.aload_n 0, 1) := by decide +kernel
theorem d_CP_takeHeaders_4 : decode b_CP_takeHeaders 4 = .ok (.getfield 22, 3) := by decide +kernel
theorem d_CP_takeHeaders_7 : decode b_CP_takeHeaders 7 = .ok (.getfield 228, 3) := by decide +kernel
theorem d_CP_takeHeaders_10 : decode b_CP_takeHeaders 10 = .ok (.if_icmp .ge 103, 3) := by decide +kernel
theorem d_CP_takeHeaders_13 : decode b_CP_takeHeaders 13 = .ok (.aload_n 0, 1) := by decide +kernel
theorem d_CP_takeHeaders_14 : decode b_CP_takeHeaders 14 = .ok (.getfield 22, 3) := by decide +kernel
theorem d_CP_takeHeaders_17 : decode b_CP_takeHeaders 17 = .ok (.getfield 231, 3) := by decide +kernel
theorem d_CP_takeHeaders_20 : decode b_CP_takeHeaders 20 = .ok (.iload_n 1, 1) := by decide +kernel
theorem d_CP_takeHeaders_21 : decode b_CP_takeHeaders 21 = .ok (.aaload, 1) := by decide +kernel
theorem d_CP_takeHeaders_22 : decode b_CP_takeHeaders 22 = .ok (.astore_n 2, 1) := by decide +kernel
theorem d_CP_takeHeaders_23 : decode b_CP_takeHeaders 23 = .ok (.aload_n 0, 1) := by decide +kernel
theorem d_CP_takeHeaders_24 : decode b_CP_takeHeaders 24 = .ok (.getfield 29, 3) := by decide +kernel
theorem d_CP_takeHeaders_27 : decode b_CP_takeHeaders 27 = .ok (.aload_n 2, 1) := by decide +kernel
theorem d_CP_takeHeaders_28 : decode b_CP_takeHeaders 28 = .ok (.invokestatic 150, 3) := by decide +kernel
theorem d_CP_takeHeaders_31 : decode b_CP_takeHeaders 31 = .ok (.invokevirtual 154, 3) := by decide +kernel
theorem d_CP_takeHeaders_34 : decode b_CP_takeHeaders 34 = .ok (.ifCond .eq 6, 3) := by decide +kernel
theorem d_CP_takeHeaders_37 : decode b_CP_takeHeaders 37 = .ok (.goto 70, 3) := by decide +kernel
theorem d_CP_takeHeaders_40 : decode b_CP_takeHeaders 40 = .ok (.iload_n 1, 1) := by decide +kernel
theorem d_CP_takeHeaders_41 : decode b_CP_takeHeaders 41 = .ok (.ifCond .eq 23, 3) := by decide +kernel
theorem d_CP_takeHeaders_44 : decode b_CP_takeHeaders 44 = .ok (.aload_n 2, 1) := by decide +kernel
theorem d_CP_takeHeaders_45 : decode b_CP_takeHeaders 45 = .ok (.iconst 0, 1) := by decide +kernel
theorem d_CP_takeHeaders_46 : decode b_CP_takeHeaders 46 = .ok (.iaload, 1) := by decide +kernel
theorem d_CP_takeHeaders_47 : decode b_CP_takeHeaders 47 = .ok (.aload_n 0, 1) := by decide +kernel
theorem d_CP_takeHeaders_48 : decode b_CP_takeHeaders 48 = .ok (.getfield 22, 3) := by decide +kernel
theorem d_CP_takeHeaders_51 : decode b_CP_takeHeaders 51 = .ok (.getfield 231, 3) := by decide +kernel
theorem d_CP_takeHeaders_54 : decode b_CP_takeHeaders 54 = .ok (.iload_n 1, 1) := by decide +kernel
theorem d_CP_takeHeaders_55 : decode b_CP_takeHeaders 55 = .ok (.iconst 1, 1) := by decide +kernel
theorem d_CP_takeHeaders_56 : decode b_CP_takeHeaders 56 = .ok (.isub, 1) := by decide +kernel
theorem d_CP_takeHeaders_57 : decode b_CP_takeHeaders 57 = .ok (.aaload, 1) := by decide +kernel
theorem d_CP_takeHeaders_58 : decode b_CP_takeHeaders 58 = .ok (.invokestatic 150, 3) := by decide +kernel
theorem d_CP_takeHeaders_61 : decode b_CP_takeHeaders 61 = .ok (.if_icmp .ne 7, 3) := by decide +kernel
theorem d_CP_takeHeaders_64 : decode b_CP_takeHeaders 64 = .ok (.iconst 1, 1) := by decide +kernel
theorem d_CP_takeHeaders_65 : decode b_CP_takeHeaders 65 = .ok (.goto 4, 3) := by decide +kernel
theorem d_CP_takeHeaders_68 : decode b_CP_takeHeaders 68 = .ok (.iconst 0, 1) := by decide +kernel
theorem d_CP_takeHeaders_69 : decode b_CP_takeHeaders 69 = .ok (.istore_n 3, 1) := by decide +kernel
theorem d_CP_takeHeaders_70 : decode b_CP_takeHeaders 70 = .ok (.iload_n 3, 1) := by decide +kernel
theorem d_CP_takeHeaders_71 : decode b_CP_takeHeaders 71 = .ok (.ifCond .eq 14, 3) := by decide +kernel
theorem d_CP_takeHeaders_74 : decode b_CP_takeHeaders 74 = .ok (.aload_n 0, 1) := by decide +kernel
theorem d_CP_takeHeaders_75 : decode b_CP_takeHeaders 75 = .ok (.getfield 29, 3) := by decide +kernel
theorem d_CP_takeHeaders_78 : decode b_CP_takeHeaders 78 = .ok (.aload_n 2, 1) := by decide +kernel
theorem d_CP_takeHeaders_79 : decode b_CP_takeHeaders 79 = .ok (.invokevirtual 146, 3) := by decide +kernel
theorem d_CP_takeHeaders_82 : decode b_CP_takeHeaders 82 = .ok (.ifCond .ne 5, 3) := by decide +kernel
theorem d_CP_takeHeaders_85 : decode b_CP_takeHeaders 85 = .ok (.iconst 0, 1) := by decide +kernel
theorem d_CP_takeHeaders_86 : decode b_CP_takeHeaders 86 = .ok (.ireturn, 1) := by decide +kernel
theorem d_CP_takeHeaders_87 : decode b_CP_takeHeaders 87 = .ok (.aload_n 0, 1) := by decide +kernel
theorem d_CP_takeHeaders_88 : decode b_CP_takeHeaders 88 = .ok (.getfield 29, 3) := by decide +kernel
theorem d_CP_takeHeaders_91 : decode b_CP_takeHeaders 91 = .ok (.invokevirtual 157, 3) := by decide +kernel
theorem d_CP_takeHeaders_94 : decode b_CP_takeHeaders 94 = .ok (.ifCond .eq 5, 3) := by decide +kernel
theorem d_CP_takeHeaders_97 : decode b_CP_takeHeaders 97 = .ok (.iconst 1, 1) := by decide +kernel
theorem d_CP_takeHeaders_98 : decode b_CP_takeHeaders 98 = .ok (.ireturn, 1) := by decide +kernel
theorem d_CP_takeHeaders_99 : decode b_CP_takeHeaders 99 = .ok (.aload_n 0, 1) := by decide +kernel
theorem d_CP_takeHeaders_100 : decode b_CP_takeHeaders 100 = .ok (.getfield 29, 3) := by decide +kernel
theorem d_CP_takeHeaders_103 : decode b_CP_takeHeaders 103 = .ok (.aload_n 2, 1) := by decide +kernel
theorem d_CP_takeHeaders_104 : decode b_CP_takeHeaders 104 = .ok (.invokevirtual 163, 3) := by decide +kernel
theorem d_CP_takeHeaders_107 : decode b_CP_takeHeaders 107 = .ok (.iinc 1 1, 3) := by decide +kernel
theorem d_CP_takeHeaders_110 : decode b_CP_takeHeaders 110 = .ok (.goto (-108), 3) := by decide +kernel
theorem d_CP_takeHeaders_113 : decode b_CP_takeHeaders 113 = .ok (.iconst 1, 1) := by decide +kernel
theorem d_CP_takeHeaders_114 : decode b_CP_takeHeaders 114 = .ok (.ireturn, 1) := by decide +kernel
theorem d_Peer_merit_0 : decode b_Peer_merit 0 = .ok (.aload_n 0, 1) := by decide +kernel
theorem d_Peer_merit_1 : decode b_Peer_merit 1 = .ok (.aload_n 0, 1) := by decide +kernel
theorem d_Peer_merit_2 : decode b_Peer_merit 2 = .ok (.getfield 37, 3) := by decide +kernel
theorem d_Peer_merit_5 : decode b_Peer_merit 5 = .ok (.iconst 1, 1) := by decide +kernel
theorem d_Peer_merit_6 : decode b_Peer_merit 6 = .ok (.iadd, 1) := by decide +kernel
theorem d_Peer_merit_7 : decode b_Peer_merit 7 = .ok (.iconst 3, 1) := by decide +kernel
theorem d_Peer_merit_8 : decode b_Peer_merit 8 = .ok (.invokestatic 44, 3) := by decide +kernel
theorem d_Peer_merit_11 : decode b_Peer_merit 11 = .ok (.putfield 37, 3) := by decide +kernel
theorem d_Peer_merit_14 : decode b_Peer_merit 14 = .ok (.return_, 1) := by decide +kernel
theorem d_CP_readHeaders_0 : decode b_CP_readHeaders 0 = .ok (.aload_n 1, 1) := by decide +kernel
theorem d_CP_readHeaders_1 : decode b_CP_readHeaders 1 = .ok (.iconst 1, 1) := by decide +kernel
theorem d_CP_readHeaders_2 : decode b_CP_readHeaders 2 = .ok (.aload_n 0, 1) := by decide +kernel
theorem d_CP_readHeaders_3 : decode b_CP_readHeaders 3 = .ok (.getfield 22, 3) := by decide +kernel
theorem d_CP_readHeaders_6 : decode b_CP_readHeaders 6 = .ok (.getfield 216, 3) := by decide +kernel
theorem d_CP_readHeaders_9 : decode b_CP_readHeaders 9 = .ok (.invokevirtual 219, 3) := by decide +kernel
theorem d_CP_readHeaders_12 : decode b_CP_readHeaders 12 = .ok (.ifCond .ne 5, 3) := by decide +kernel
theorem d_CP_readHeaders_15 : decode b_CP_readHeaders 15 = .ok (.iconst 1, 1) := by decide +kernel
theorem d_CP_readHeaders_16 : decode b_CP_readHeaders 16 = .ok (.ireturn, 1) := by decide +kernel
theorem d_CP_readHeaders_17 : decode b_CP_readHeaders 17 = .ok (.aload_n 1, 1) := by decide +kernel
theorem d_CP_readHeaders_18 : decode b_CP_readHeaders 18 = .ok (.getfield 222, 3) := by decide +kernel
theorem d_CP_readHeaders_21 : decode b_CP_readHeaders 21 = .ok (.istore_n 2, 1) := by decide +kernel
theorem d_CP_readHeaders_22 : decode b_CP_readHeaders 22 = .ok (.aload_n 1, 1) := by decide +kernel
theorem d_CP_readHeaders_23 : decode b_CP_readHeaders 23 = .ok (.invokevirtual 225, 3) := by decide +kernel
theorem d_CP_readHeaders_26 : decode b_CP_readHeaders 26 = .ok (.aload_n 0, 1) := by decide +kernel
theorem d_CP_readHeaders_27 : decode b_CP_readHeaders 27 = .ok (.getfield 22, 3) := by decide +kernel
theorem d_CP_readHeaders_30 : decode b_CP_readHeaders 30 = .ok (.getfield 228, 3) := by decide +kernel
theorem d_CP_readHeaders_33 : decode b_CP_readHeaders 33 = .ok (.ifCond .ne 12, 3) := by decide +kernel
theorem d_CP_readHeaders_36 : decode b_CP_readHeaders 36 = .ok (.aload_n 1, 1) := by decide +kernel
theorem d_CP_readHeaders_37 : decode b_CP_readHeaders 37 = .ok (.iload_n 2, 1) := by decide +kernel
theorem d_CP_readHeaders_38 : decode b_CP_readHeaders 38 = .ok (.iconst 1, 1) := by decide +kernel
theorem d_CP_readHeaders_39 : decode b_CP_readHeaders 39 = .ok (.isub, 1) := by decide +kernel
theorem d_CP_readHeaders_40 : decode b_CP_readHeaders 40 = .ok (.putfield 203, 3) := by decide +kernel
theorem d_CP_readHeaders_43 : decode b_CP_readHeaders 43 = .ok (.iconst 0, 1) := by decide +kernel
theorem d_CP_readHeaders_44 : decode b_CP_readHeaders 44 = .ok (.ireturn, 1) := by decide +kernel
theorem d_CP_readHeaders_45 : decode b_CP_readHeaders 45 = .ok (.aload_n 0, 1) := by decide +kernel
theorem d_CP_readHeaders_46 : decode b_CP_readHeaders 46 = .ok (.getfield 22, 3) := by decide +kernel
theorem d_CP_readHeaders_49 : decode b_CP_readHeaders 49 = .ok (.getfield 231, 3) := by decide +kernel
theorem d_CP_readHeaders_52 : decode b_CP_readHeaders 52 = .ok (.iconst 0, 1) := by decide +kernel
theorem d_CP_readHeaders_53 : decode b_CP_readHeaders 53 = .ok (.aaload, 1) := by decide +kernel
theorem d_CP_readHeaders_54 : decode b_CP_readHeaders 54 = .ok (.astore_n 3, 1) := by decide +kernel
theorem d_CP_readHeaders_55 : decode b_CP_readHeaders 55 = .ok (.aload_n 3, 1) := by decide +kernel
theorem d_CP_readHeaders_56 : decode b_CP_readHeaders 56 = .ok (.iconst 1, 1) := by decide +kernel
theorem d_CP_readHeaders_57 : decode b_CP_readHeaders 57 = .ok (.iaload, 1) := by decide +kernel
theorem d_CP_readHeaders_58 : decode b_CP_readHeaders 58 = .ok (.iload_n 2, 1) := by decide +kernel
theorem d_CP_readHeaders_59 : decode b_CP_readHeaders 59 = .ok (.if_icmp .eq 5, 3) := by decide +kernel
theorem d_CP_readHeaders_62 : decode b_CP_readHeaders 62 = .ok (.iconst 2, 1) := by decide +kernel
theorem d_CP_readHeaders_63 : decode b_CP_readHeaders 63 = .ok (.ireturn, 1) := by decide +kernel
theorem d_CP_readHeaders_64 : decode b_CP_readHeaders 64 = .ok (.aload_n 0, 1) := by decide +kernel
theorem d_CP_readHeaders_65 : decode b_CP_readHeaders 65 = .ok (.getfield 29, 3) := by decide +kernel
theorem d_CP_readHeaders_68 : decode b_CP_readHeaders 68 = .ok (.aload_n 3, 1) := by decide +kernel
theorem d_CP_readHeaders_69 : decode b_CP_readHeaders 69 = .ok (.invokestatic 150, 3) := by decide +kernel
theorem d_CP_readHeaders_72 : decode b_CP_readHeaders 72 = .ok (.invokevirtual 154, 3) := by decide +kernel
theorem d_CP_readHeaders_75 : decode b_CP_readHeaders 75 = .ok (.ifCond .ne 28, 3) := by decide +kernel
theorem d_CP_readHeaders_78 : decode b_CP_readHeaders 78 = .ok (.aload_n 0, 1) := by decide +kernel
theorem d_CP_readHeaders_79 : decode b_CP_readHeaders 79 = .ok (.getfield 29, 3) := by decide +kernel
theorem d_CP_readHeaders_82 : decode b_CP_readHeaders 82 = .ok (.aload_n 3, 1) := by decide +kernel
theorem d_CP_readHeaders_83 : decode b_CP_readHeaders 83 = .ok (.iconst 0, 1) := by decide +kernel
theorem d_CP_readHeaders_84 : decode b_CP_readHeaders 84 = .ok (.iaload, 1) := by decide +kernel
theorem d_CP_readHeaders_85 : decode b_CP_readHeaders 85 = .ok (.invokevirtual 154, 3) := by decide +kernel
theorem d_CP_readHeaders_88 : decode b_CP_readHeaders 88 = .ok (.ifCond .ne 15, 3) := by decide +kernel
theorem d_CP_readHeaders_91 : decode b_CP_readHeaders 91 = .ok (.aload_n 1, 1) := by decide +kernel
theorem d_CP_readHeaders_92 : decode b_CP_readHeaders 92 = .ok (.dup, 1) := by decide +kernel
theorem d_CP_readHeaders_93 : decode b_CP_readHeaders 93 = .ok (.getfield 234, 3) := by decide +kernel
theorem d_CP_readHeaders_96 : decode b_CP_readHeaders 96 = .ok (.iconst 1, 1) := by decide +kernel
theorem d_CP_readHeaders_97 : decode b_CP_readHeaders 97 = .ok (.iadd, 1) := by decide +kernel
theorem d_CP_readHeaders_98 : decode b_CP_readHeaders 98 = .ok (.putfield 234, 3) := by decide +kernel
theorem d_CP_readHeaders_101 : decode b_CP_readHeaders 101 = .ok (.iconst 0, 1) := by decide +kernel
theorem d_CP_readHeaders_102 : decode b_CP_readHeaders 102 = .ok (.ireturn, 1) := by decide +kernel
theorem d_CP_readHeaders_103 : decode b_CP_readHeaders 103 = .ok (.aload_n 0, 1) := by decide +kernel
theorem d_CP_readHeaders_104 : decode b_CP_readHeaders 104 = .ok (.invokevirtual 237, 3) := by decide +kernel
theorem d_CP_readHeaders_107 : decode b_CP_readHeaders 107 = .ok (.ifCond .ne 5, 3) := by decide +kernel
theorem d_CP_readHeaders_110 : decode b_CP_readHeaders 110 = .ok (.iconst 2, 1) := by decide +kernel
theorem d_CP_readHeaders_111 : decode b_CP_readHeaders 111 = .ok (.ireturn, 1) := by decide +kernel
theorem d_CP_readHeaders_112 : decode b_CP_readHeaders 112 = .ok (.aload_n 1, 1) := by decide +kernel
theorem d_CP_readHeaders_113 : decode b_CP_readHeaders 113 = .ok (.iconst 0, 1) := by decide +kernel
theorem d_CP_readHeaders_114 : decode b_CP_readHeaders 114 = .ok (.putfield 234, 3) := by decide +kernel
theorem d_CP_readHeaders_117 : decode b_CP_readHeaders 117 = .ok (.aload_n 1, 1) := by decide +kernel
theorem d_CP_readHeaders_118 : decode b_CP_readHeaders 118 = .ok (.invokevirtual 240, 3) := by decide +kernel
theorem d_CP_readHeaders_121 : decode b_CP_readHeaders 121 = .ok (.iconst 0, 1) := by decide +kernel
theorem d_CP_readHeaders_122 : decode b_CP_readHeaders 122 = .ok (.ireturn, 1) := by decide +kernel
theorem d_Blocks_hasBody_0 : decode b_Blocks_hasBody 0 = .ok (.aload_n 0, 1) := by decide +kernel
theorem d_Blocks_hasBody_1 : decode b_Blocks_hasBody 1 = .ok (.getfield 29, 3) := by decide +kernel
theorem d_Blocks_hasBody_4 : decode b_Blocks_hasBody 4 = .ok (.iload_n 1, 1) := by decide +kernel
theorem d_Blocks_hasBody_5 : decode b_Blocks_hasBody 5 = .ok (.iaload, 1) := by decide +kernel
theorem d_Blocks_hasBody_6 : decode b_Blocks_hasBody 6 = .ok (.iconst (-1), 1) := by decide +kernel
theorem d_Blocks_hasBody_7 : decode b_Blocks_hasBody 7 = .ok (.if_icmp .eq 7, 3) := by decide +kernel
theorem d_Blocks_hasBody_10 : decode b_Blocks_hasBody 10 = .ok (.iconst 1, 1) := by decide +kernel
theorem d_Blocks_hasBody_11 : decode b_Blocks_hasBody 11 = .ok (.goto 4, 3) := by decide +kernel
theorem d_Blocks_hasBody_14 : decode b_Blocks_hasBody 14 = .ok (.iconst 0, 1) := by decide +kernel
theorem d_Blocks_hasBody_15 : decode b_Blocks_hasBody 15 = .ok (.ireturn, 1) := by decide +kernel
theorem d_CP_sendBody_0 : decode b_CP_sendBody 0 = .ok (.aload_n 0, 1) := by decide +kernel
theorem d_CP_sendBody_1 : decode b_CP_sendBody 1 = .ok (.getfield 29, 3) := by decide +kernel
theorem d_CP_sendBody_4 : decode b_CP_sendBody 4 = .ok (.aload_n 0, 1) := by decide +kernel
theorem d_CP_sendBody_5 : decode b_CP_sendBody 5 = .ok (.getfield 22, 3) := by decide +kernel
theorem d_CP_sendBody_8 : decode b_CP_sendBody 8 = .ok (.getfield 272, 3) := by decide +kernel
theorem d_CP_sendBody_11 : decode b_CP_sendBody 11 = .ok (.invokevirtual 275, 3) := by decide +kernel
theorem d_CP_sendBody_14 : decode b_CP_sendBody 14 = .ok (.istore_n 2, 1) := by decide +kernel
theorem d_CP_sendBody_15 : decode b_CP_sendBody 15 = .ok (.iload_n 2, 1) := by decide +kernel
theorem d_CP_sendBody_16 : decode b_CP_sendBody 16 = .ok (.iconst (-1), 1) := by decide +kernel
theorem d_CP_sendBody_17 : decode b_CP_sendBody 17 = .ok (.if_icmp .eq 14, 3) := by decide +kernel
theorem d_CP_sendBody_20 : decode b_CP_sendBody 20 = .ok (.aload_n 0, 1) := by decide +kernel
theorem d_CP_sendBody_21 : decode b_CP_sendBody 21 = .ok (.getfield 29, 3) := by decide +kernel
theorem d_CP_sendBody_24 : decode b_CP_sendBody 24 = .ok (.iload_n 2, 1) := by decide +kernel
theorem d_CP_sendBody_25 : decode b_CP_sendBody 25 = .ok (.invokevirtual 278, 3) := by decide +kernel
theorem d_CP_sendBody_28 : decode b_CP_sendBody 28 = .ok (.ifCond .ne 4, 3) := by decide +kernel
theorem d_CP_sendBody_31 : decode b_CP_sendBody 31 = .ok (.return_, 1) := by decide +kernel
theorem d_CP_sendBody_32 : decode b_CP_sendBody 32 = .ok (.aload_n 0, 1) := by decide +kernel
theorem d_CP_sendBody_33 : decode b_CP_sendBody 33 = .ok (.getfield 16, 3) := by decide +kernel
theorem d_CP_sendBody_36 : decode b_CP_sendBody 36 = .ok (.iconst 4, 1) := by decide +kernel
theorem d_CP_sendBody_37 : decode b_CP_sendBody 37 = .ok (.invokevirtual 247, 3) := by decide +kernel
theorem d_CP_sendBody_40 : decode b_CP_sendBody 40 = .ok (.aload_n 0, 1) := by decide +kernel
theorem d_CP_sendBody_41 : decode b_CP_sendBody 41 = .ok (.getfield 16, 3) := by decide +kernel
theorem d_CP_sendBody_44 : decode b_CP_sendBody 44 = .ok (.aload_n 0, 1) := by decide +kernel
theorem d_CP_sendBody_45 : decode b_CP_sendBody 45 = .ok (.getfield 22, 3) := by decide +kernel
theorem d_CP_sendBody_48 : decode b_CP_sendBody 48 = .ok (.getfield 216, 3) := by decide +kernel
theorem d_CP_sendBody_51 : decode b_CP_sendBody 51 = .ok (.invokevirtual 250, 3) := by decide +kernel
theorem d_CP_sendBody_54 : decode b_CP_sendBody 54 = .ok (.aload_n 0, 1) := by decide +kernel
theorem d_CP_sendBody_55 : decode b_CP_sendBody 55 = .ok (.getfield 16, 3) := by decide +kernel
theorem d_CP_sendBody_58 : decode b_CP_sendBody 58 = .ok (.invokevirtual 256, 3) := by decide +kernel
theorem d_CP_sendBody_61 : decode b_CP_sendBody 61 = .ok (.istore_n 3, 1) := by decide +kernel
theorem d_CP_sendBody_62 : decode b_CP_sendBody 62 = .ok (.iconst 0, 1) := by decide +kernel
theorem d_CP_sendBody_63 : decode b_CP_sendBody 63 = .ok (.istore 4, 2) := by decide +kernel
theorem d_CP_sendBody_65 : decode b_CP_sendBody 65 = .ok (.iload 4, 2) := by decide +kernel
theorem d_CP_sendBody_67 : decode b_CP_sendBody 67 = .ok (.aload_n 0, 1) := by decide +kernel
theorem d_CP_sendBody_68 : decode b_CP_sendBody 68 = .ok (.getfield 29, 3) := by decide +kernel
theorem d_CP_sendBody_71 : decode b_CP_sendBody 71 = .ok (.getfield 281, 3) := by decide +kernel
theorem d_CP_sendBody_74 : decode b_CP_sendBody 74 = .ok (.iload_n 2, 1) := by decide +kernel
theorem d_CP_sendBody_75 : decode b_CP_sendBody 75 = .ok (.iaload, 1) := by decide +kernel
theorem d_CP_sendBody_76 : decode b_CP_sendBody 76 = .ok (.if_icmp .ge 28, 3) := by decide +kernel
theorem d_CP_sendBody_79 : decode b_CP_sendBody 79 = .ok (.aload_n 0, 1) := by decide +kernel
theorem d_CP_sendBody_80 : decode b_CP_sendBody 80 = .ok (.getfield 16, 3) := by decide +kernel
theorem d_CP_sendBody_83 : decode b_CP_sendBody 83 = .ok (.aload_n 0, 1) := by decide +kernel
theorem d_CP_sendBody_84 : decode b_CP_sendBody 84 = .ok (.getfield 29, 3) := by decide +kernel
theorem d_CP_sendBody_87 : decode b_CP_sendBody 87 = .ok (.getfield 180, 3) := by decide +kernel
theorem d_CP_sendBody_90 : decode b_CP_sendBody 90 = .ok (.iload_n 2, 1) := by decide +kernel
theorem d_CP_sendBody_91 : decode b_CP_sendBody 91 = .ok (.aaload, 1) := by decide +kernel
theorem d_CP_sendBody_92 : decode b_CP_sendBody 92 = .ok (.iload 4, 2) := by decide +kernel
theorem d_CP_sendBody_94 : decode b_CP_sendBody 94 = .ok (.iaload, 1) := by decide +kernel
theorem d_CP_sendBody_95 : decode b_CP_sendBody 95 = .ok (.invokevirtual 250, 3) := by decide +kernel
theorem d_CP_sendBody_98 : decode b_CP_sendBody 98 = .ok (.iinc 4 1, 3) := by decide +kernel
theorem d_CP_sendBody_101 : decode b_CP_sendBody 101 = .ok (.goto (-36), 3) := by decide +kernel
theorem d_CP_sendBody_104 : decode b_CP_sendBody 104 = .ok (.aload_n 0, 1) := by decide +kernel
theorem d_CP_sendBody_105 : decode b_CP_sendBody 105 = .ok (.getfield 16, 3) := by decide +kernel
theorem d_CP_sendBody_108 : decode b_CP_sendBody 108 = .ok (.iload_n 3, 1) := by decide +kernel
theorem d_CP_sendBody_109 : decode b_CP_sendBody 109 = .ok (.invokevirtual 269, 3) := by decide +kernel
theorem d_CP_sendBody_112 : decode b_CP_sendBody 112 = .ok (.aload_n 0, 1) := by decide +kernel
theorem d_CP_sendBody_113 : decode b_CP_sendBody 113 = .ok (.aload_n 1, 1) := by decide +kernel
theorem d_CP_sendBody_114 : decode b_CP_sendBody 114 = .ok (.invokevirtual 253, 3) := by decide +kernel
theorem d_CP_sendBody_117 : decode b_CP_sendBody 117 = .ok (.return_, 1) := by decide +kernel
theorem d_CP_rootOf_0 : decode b_CP_rootOf 0 = .ok (.iload_n 1, 1) := by decide +kernel
theorem d_CP_rootOf_1 : decode b_CP_rootOf 1 = .ok (.aload_n 0, 1) := by decide +kernel
theorem d_CP_rootOf_2 : decode b_CP_rootOf 2 = .ok (.iload_n 1, 1) := by decide +kernel
theorem d_CP_rootOf_3 : decode b_CP_rootOf 3 = .ok (.invokestatic 190, 3) := by decide +kernel
theorem d_CP_rootOf_6 : decode b_CP_rootOf 6 = .ok (.ireturn, 1) := by decide +kernel
theorem d_Blocks_setBody_0 : decode b_Blocks_setBody 0 = .ok (.aload_n 2, 1) := by decide +kernel
theorem d_Blocks_setBody_1 : decode b_Blocks_setBody 1 = .ok (.iconst 0, 1) := by decide +kernel
theorem d_Blocks_setBody_2 : decode b_Blocks_setBody 2 = .ok (.aload_n 0, 1) := by decide +kernel
theorem d_Blocks_setBody_3 : decode b_Blocks_setBody 3 = .ok (.getfield 26, 3) := by decide +kernel
theorem d_Blocks_setBody_6 : decode b_Blocks_setBody 6 = .ok (.iload_n 1, 1) := by decide +kernel
theorem d_Blocks_setBody_7 : decode b_Blocks_setBody 7 = .ok (.aaload, 1) := by decide +kernel
theorem d_Blocks_setBody_8 : decode b_Blocks_setBody 8 = .ok (.iconst 0, 1) := by decide +kernel
theorem d_Blocks_setBody_9 : decode b_Blocks_setBody 9 = .ok (.iload_n 3, 1) := by decide +kernel
theorem d_Blocks_setBody_10 : decode b_Blocks_setBody 10 = .ok (.invokestatic 64, 3) := by decide +kernel
theorem d_Blocks_setBody_13 : decode b_Blocks_setBody 13 = .ok (.aload_n 0, 1) := by decide +kernel
theorem d_Blocks_setBody_14 : decode b_Blocks_setBody 14 = .ok (.getfield 29, 3) := by decide +kernel
theorem d_Blocks_setBody_17 : decode b_Blocks_setBody 17 = .ok (.iload_n 1, 1) := by decide +kernel
theorem d_Blocks_setBody_18 : decode b_Blocks_setBody 18 = .ok (.iload_n 3, 1) := by decide +kernel
theorem d_Blocks_setBody_19 : decode b_Blocks_setBody 19 = .ok (.iastore, 1) := by decide +kernel
theorem d_Blocks_setBody_20 : decode b_Blocks_setBody 20 = .ok (.iload_n 1, 1) := by decide +kernel
theorem d_Blocks_setBody_21 : decode b_Blocks_setBody 21 = .ok (.istore 4, 2) := by decide +kernel
theorem d_Blocks_setBody_23 : decode b_Blocks_setBody 23 = .ok (.iload 4, 2) := by decide +kernel
theorem d_Blocks_setBody_25 : decode b_Blocks_setBody 25 = .ok (.aload_n 0, 1) := by decide +kernel
theorem d_Blocks_setBody_26 : decode b_Blocks_setBody 26 = .ok (.getfield 40, 3) := by decide +kernel
theorem d_Blocks_setBody_29 : decode b_Blocks_setBody 29 = .ok (.if_icmp .ge 45, 3) := by decide +kernel
theorem d_Blocks_setBody_32 : decode b_Blocks_setBody 32 = .ok (.aload_n 0, 1) := by decide +kernel
theorem d_Blocks_setBody_33 : decode b_Blocks_setBody 33 = .ok (.getfield 32, 3) := by decide +kernel
theorem d_Blocks_setBody_36 : decode b_Blocks_setBody 36 = .ok (.iload 4, 2) := by decide +kernel
theorem d_Blocks_setBody_38 : decode b_Blocks_setBody 38 = .ok (.aload_n 0, 1) := by decide +kernel
theorem d_Blocks_setBody_39 : decode b_Blocks_setBody 39 = .ok (.iload 4, 2) := by decide +kernel
theorem d_Blocks_setBody_41 : decode b_Blocks_setBody 41 = .ok (.invokevirtual 70, 3) := by decide +kernel
theorem d_Blocks_setBody_44 : decode b_Blocks_setBody 44 = .ok (.ifCond .eq 22, 3) := by decide +kernel
theorem d_Blocks_setBody_47 : decode b_Blocks_setBody 47 = .ok (.aload_n 0, 1) := by decide +kernel
theorem d_Blocks_setBody_48 : decode b_Blocks_setBody 48 = .ok (.getfield 32, 3) := by decide +kernel
theorem d_Blocks_setBody_51 : decode b_Blocks_setBody 51 = .ok (.aload_n 0, 1) := by decide +kernel
theorem d_Blocks_setBody_52 : decode b_Blocks_setBody 52 = .ok (.getfield 20, 3) := by decide +kernel
theorem d_Blocks_setBody_55 : decode b_Blocks_setBody 55 = .ok (.iload 4, 2) := by decide +kernel
theorem d_Blocks_setBody_57 : decode b_Blocks_setBody 57 = .ok (.iaload, 1) := by decide +kernel
theorem d_Blocks_setBody_58 : decode b_Blocks_setBody 58 = .ok (.baload, 1) := by decide +kernel
theorem d_Blocks_setBody_59 : decode b_Blocks_setBody 59 = .ok (.ifCond .eq 7, 3) := by decide +kernel
theorem d_Blocks_setBody_62 : decode b_Blocks_setBody 62 = .ok (.iconst 1, 1) := by decide +kernel
theorem d_Blocks_setBody_63 : decode b_Blocks_setBody 63 = .ok (.goto 4, 3) := by decide +kernel
theorem d_Blocks_setBody_66 : decode b_Blocks_setBody 66 = .ok (.iconst 0, 1) := by decide +kernel
theorem d_Blocks_setBody_67 : decode b_Blocks_setBody 67 = .ok (.bastore, 1) := by decide +kernel
theorem d_Blocks_setBody_68 : decode b_Blocks_setBody 68 = .ok (.iinc 4 1, 3) := by decide +kernel
theorem d_Blocks_setBody_71 : decode b_Blocks_setBody 71 = .ok (.goto (-48), 3) := by decide +kernel
theorem d_Blocks_setBody_74 : decode b_Blocks_setBody 74 = .ok (.return_, 1) := by decide +kernel
theorem d_CP_readBody_0 : decode b_CP_readBody 0 = .ok (.aload_n 1, 1) := by decide +kernel
theorem d_CP_readBody_1 : decode b_CP_readBody 1 = .ok (.iconst 3, 1) := by decide +kernel
theorem d_CP_readBody_2 : decode b_CP_readBody 2 = .ok (.aload_n 0, 1) := by decide +kernel
theorem d_CP_readBody_3 : decode b_CP_readBody 3 = .ok (.getfield 22, 3) := by decide +kernel
theorem d_CP_readBody_6 : decode b_CP_readBody 6 = .ok (.getfield 216, 3) := by decide +kernel
theorem d_CP_readBody_9 : decode b_CP_readBody 9 = .ok (.invokevirtual 219, 3) := by decide +kernel
theorem d_CP_readBody_12 : decode b_CP_readBody 12 = .ok (.ifCond .ne 5, 3) := by decide +kernel
theorem d_CP_readBody_15 : decode b_CP_readBody 15 = .ok (.iconst 1, 1) := by decide +kernel
theorem d_CP_readBody_16 : decode b_CP_readBody 16 = .ok (.ireturn, 1) := by decide +kernel
theorem d_CP_readBody_17 : decode b_CP_readBody 17 = .ok (.aload_n 1, 1) := by decide +kernel
theorem d_CP_readBody_18 : decode b_CP_readBody 18 = .ok (.getfield 222, 3) := by decide +kernel
theorem d_CP_readBody_21 : decode b_CP_readBody 21 = .ok (.istore_n 2, 1) := by decide +kernel
theorem d_CP_readBody_22 : decode b_CP_readBody 22 = .ok (.aload_n 1, 1) := by decide +kernel
theorem d_CP_readBody_23 : decode b_CP_readBody 23 = .ok (.invokevirtual 225, 3) := by decide +kernel
theorem d_CP_readBody_26 : decode b_CP_readBody 26 = .ok (.aload_n 0, 1) := by decide +kernel
theorem d_CP_readBody_27 : decode b_CP_readBody 27 = .ok (.getfield 22, 3) := by decide +kernel
theorem d_CP_readBody_30 : decode b_CP_readBody 30 = .ok (.getfield 243, 3) := by decide +kernel
theorem d_CP_readBody_33 : decode b_CP_readBody 33 = .ok (.aload_n 0, 1) := by decide +kernel
theorem d_CP_readBody_34 : decode b_CP_readBody 34 = .ok (.getfield 22, 3) := by decide +kernel
theorem d_CP_readBody_37 : decode b_CP_readBody 37 = .ok (.getfield 228, 3) := by decide +kernel
theorem d_CP_readBody_40 : decode b_CP_readBody 40 = .ok (.invokestatic 142, 3) := by decide +kernel
theorem d_CP_readBody_43 : decode b_CP_readBody 43 = .ok (.aload_n 0, 1) := by decide +kernel
theorem d_CP_readBody_44 : decode b_CP_readBody 44 = .ok (.getfield 29, 3) := by decide +kernel
theorem d_CP_readBody_47 : decode b_CP_readBody 47 = .ok (.getfield 246, 3) := by decide +kernel
theorem d_CP_readBody_50 : decode b_CP_readBody 50 = .ok (.iload_n 2, 1) := by decide +kernel
theorem d_CP_readBody_51 : decode b_CP_readBody 51 = .ok (.aaload, 1) := by decide +kernel
theorem d_CP_readBody_52 : decode b_CP_readBody 52 = .ok (.iconst 4, 1) := by decide +kernel
theorem d_CP_readBody_53 : decode b_CP_readBody 53 = .ok (.iaload, 1) := by decide +kernel
theorem d_CP_readBody_54 : decode b_CP_readBody 54 = .ok (.if_icmp .eq 5, 3) := by decide +kernel
theorem d_CP_readBody_57 : decode b_CP_readBody 57 = .ok (.iconst 2, 1) := by decide +kernel
theorem d_CP_readBody_58 : decode b_CP_readBody 58 = .ok (.ireturn, 1) := by decide +kernel
theorem d_CP_readBody_59 : decode b_CP_readBody 59 = .ok (.aload_n 0, 1) := by decide +kernel
theorem d_CP_readBody_60 : decode b_CP_readBody 60 = .ok (.getfield 29, 3) := by decide +kernel
theorem d_CP_readBody_63 : decode b_CP_readBody 63 = .ok (.iload_n 2, 1) := by decide +kernel
theorem d_CP_readBody_64 : decode b_CP_readBody 64 = .ok (.aload_n 0, 1) := by decide +kernel
theorem d_CP_readBody_65 : decode b_CP_readBody 65 = .ok (.getfield 22, 3) := by decide +kernel
theorem d_CP_readBody_68 : decode b_CP_readBody 68 = .ok (.getfield 243, 3) := by decide +kernel
theorem d_CP_readBody_71 : decode b_CP_readBody 71 = .ok (.aload_n 0, 1) := by decide +kernel
theorem d_CP_readBody_72 : decode b_CP_readBody 72 = .ok (.getfield 22, 3) := by decide +kernel
theorem d_CP_readBody_75 : decode b_CP_readBody 75 = .ok (.getfield 228, 3) := by decide +kernel
theorem d_CP_readBody_78 : decode b_CP_readBody 78 = .ok (.invokevirtual 167, 3) := by decide +kernel
theorem d_CP_readBody_81 : decode b_CP_readBody 81 = .ok (.aload_n 1, 1) := by decide +kernel
theorem d_CP_readBody_82 : decode b_CP_readBody 82 = .ok (.invokevirtual 240, 3) := by decide +kernel
theorem d_CP_readBody_85 : decode b_CP_readBody 85 = .ok (.iconst 0, 1) := by decide +kernel
theorem d_CP_readBody_86 : decode b_CP_readBody 86 = .ok (.ireturn, 1) := by decide +kernel
theorem d_CP_readReady_0 : decode b_CP_readReady 0 = .ok (.aload_n 0, 1) := by decide +kernel
theorem d_CP_readReady_1 : decode b_CP_readReady 1 = .ok (.getfield 22, 3) := by decide +kernel
theorem d_CP_readReady_4 : decode b_CP_readReady 4 = .ok (.getfield 109, 3) := by decide +kernel
theorem d_CP_readReady_7 : decode b_CP_readReady 7 = .ok (.tableswitch 66 1 5 #[33, 40, 46, 53, 59], 33) := by decide +kernel
theorem d_CP_readReady_40 : decode b_CP_readReady 40 = .ok (.aload_n 0, 1) := by decide +kernel
theorem d_CP_readReady_41 : decode b_CP_readReady 41 = .ok (.aload_n 1, 1) := by decide +kernel
theorem d_CP_readReady_42 : decode b_CP_readReady 42 = .ok (.invokevirtual 204, 3) := by decide +kernel
theorem d_CP_readReady_45 : decode b_CP_readReady 45 = .ok (.iconst 0, 1) := by decide +kernel
theorem d_CP_readReady_46 : decode b_CP_readReady 46 = .ok (.ireturn, 1) := by decide +kernel
theorem d_CP_readReady_47 : decode b_CP_readReady 47 = .ok (.aload_n 0, 1) := by decide +kernel
theorem d_CP_readReady_48 : decode b_CP_readReady 48 = .ok (.aload_n 1, 1) := by decide +kernel
theorem d_CP_readReady_49 : decode b_CP_readReady 49 = .ok (.invokevirtual 207, 3) := by decide +kernel
theorem d_CP_readReady_52 : decode b_CP_readReady 52 = .ok (.ireturn, 1) := by decide +kernel
theorem d_CP_readReady_53 : decode b_CP_readReady 53 = .ok (.aload_n 0, 1) := by decide +kernel
theorem d_CP_readReady_54 : decode b_CP_readReady 54 = .ok (.aload_n 1, 1) := by decide +kernel
theorem d_CP_readReady_55 : decode b_CP_readReady 55 = .ok (.invokevirtual 210, 3) := by decide +kernel
theorem d_CP_readReady_58 : decode b_CP_readReady 58 = .ok (.iconst 0, 1) := by decide +kernel
theorem d_CP_readReady_59 : decode b_CP_readReady 59 = .ok (.ireturn, 1) := by decide +kernel
theorem d_CP_readReady_60 : decode b_CP_readReady 60 = .ok (.aload_n 0, 1) := by decide +kernel
theorem d_CP_readReady_61 : decode b_CP_readReady 61 = .ok (.aload_n 1, 1) := by decide +kernel
theorem d_CP_readReady_62 : decode b_CP_readReady 62 = .ok (.invokevirtual 213, 3) := by decide +kernel
theorem d_CP_readReady_65 : decode b_CP_readReady 65 = .ok (.ireturn, 1) := by decide +kernel
theorem d_CP_readReady_66 : decode b_CP_readReady 66 = .ok (.aload_n 1, 1) := by decide +kernel
theorem d_CP_readReady_67 : decode b_CP_readReady 67 = .ok (.iconst 0, 1) := by decide +kernel
theorem d_CP_readReady_68 : decode b_CP_readReady 68 = .ok (.invokevirtual 81, 3) := by decide +kernel
theorem d_CP_readReady_71 : decode b_CP_readReady 71 = .ok (.iconst 0, 1) := by decide +kernel
theorem d_CP_readReady_72 : decode b_CP_readReady 72 = .ok (.ireturn, 1) := by decide +kernel
theorem d_CP_readReady_73 : decode b_CP_readReady 73 = .ok (.iconst 2, 1) := by decide +kernel
theorem d_CP_readReady_74 : decode b_CP_readReady 74 = .ok (.ireturn, 1) := by decide +kernel
theorem d_CP_receive_0 : decode b_CP_receive 0 = .ok (.iload_n 1, 1) := by decide +kernel
theorem d_CP_receive_1 : decode b_CP_receive 1 = .ok (.invokestatic 63, 3) := by decide +kernel
theorem d_CP_receive_4 : decode b_CP_receive 4 = .ok (.ifCond .eq 15, 3) := by decide +kernel
theorem d_CP_receive_7 : decode b_CP_receive 7 = .ok (.aload_n 0, 1) := by decide +kernel
theorem d_CP_receive_8 : decode b_CP_receive 8 = .ok (.getfield 35, 3) := by decide +kernel
theorem d_CP_receive_11 : decode b_CP_receive 11 = .ok (.iload_n 1, 1) := by decide +kernel
theorem d_CP_receive_12 : decode b_CP_receive 12 = .ok (.aaload, 1) := by decide +kernel
theorem d_CP_receive_13 : decode b_CP_receive 13 = .ok (.invokevirtual 77, 3) := by decide +kernel
theorem d_CP_receive_16 : decode b_CP_receive 16 = .ok (.ifCond .ne 5, 3) := by decide +kernel
theorem d_CP_receive_19 : decode b_CP_receive 19 = .ok (.iconst (-1), 1) := by decide +kernel
theorem d_CP_receive_20 : decode b_CP_receive 20 = .ok (.ireturn, 1) := by decide +kernel
theorem d_CP_receive_21 : decode b_CP_receive 21 = .ok (.aload_n 0, 1) := by decide +kernel
theorem d_CP_receive_22 : decode b_CP_receive 22 = .ok (.getfield 35, 3) := by decide +kernel
theorem d_CP_receive_25 : decode b_CP_receive 25 = .ok (.iload_n 1, 1) := by decide +kernel
theorem d_CP_receive_26 : decode b_CP_receive 26 = .ok (.aaload, 1) := by decide +kernel
theorem d_CP_receive_27 : decode b_CP_receive 27 = .ok (.astore_n 2, 1) := by decide +kernel
theorem d_CP_receive_28 : decode b_CP_receive 28 = .ok (.aload_n 0, 1) := by decide +kernel
theorem d_CP_receive_29 : decode b_CP_receive 29 = .ok (.getfield 22, 3) := by decide +kernel
theorem d_CP_receive_32 : decode b_CP_receive 32 = .ok (.aload_n 0, 1) := by decide +kernel
theorem d_CP_receive_33 : decode b_CP_receive 33 = .ok (.getfield 10, 3) := by decide +kernel
theorem d_CP_receive_36 : decode b_CP_receive 36 = .ok (.invokevirtual 95, 3) := by decide +kernel
theorem d_CP_receive_39 : decode b_CP_receive 39 = .ok (.ifCond .ne 11, 3) := by decide +kernel
theorem d_CP_receive_42 : decode b_CP_receive 42 = .ok (.aload_n 2, 1) := by decide +kernel
theorem d_CP_receive_43 : decode b_CP_receive 43 = .ok (.iconst 4, 1) := by decide +kernel
theorem d_CP_receive_44 : decode b_CP_receive 44 = .ok (.invokevirtual 99, 3) := by decide +kernel
theorem d_CP_receive_47 : decode b_CP_receive 47 = .ok (.bipush (-2), 2) := by decide +kernel
theorem d_CP_receive_49 : decode b_CP_receive 49 = .ok (.ireturn, 1) := by decide +kernel
theorem d_CP_receive_50 : decode b_CP_receive 50 = .ok (.aload_n 2, 1) := by decide +kernel
theorem d_CP_receive_51 : decode b_CP_receive 51 = .ok (.getfield 67, 3) := by decide +kernel
theorem d_CP_receive_54 : decode b_CP_receive 54 = .ok (.iconst 1, 1) := by decide +kernel
theorem d_CP_receive_55 : decode b_CP_receive 55 = .ok (.if_icmp .ne 11, 3) := by decide +kernel
theorem d_CP_receive_58 : decode b_CP_receive 58 = .ok (.aload_n 0, 1) := by decide +kernel
theorem d_CP_receive_59 : decode b_CP_receive 59 = .ok (.aload_n 2, 1) := by decide +kernel
theorem d_CP_receive_60 : decode b_CP_receive 60 = .ok (.invokevirtual 102, 3) := by decide +kernel
theorem d_CP_receive_63 : decode b_CP_receive 63 = .ok (.goto 8, 3) := by decide +kernel
theorem d_CP_receive_66 : decode b_CP_receive 66 = .ok (.aload_n 0, 1) := by decide +kernel
theorem d_CP_receive_67 : decode b_CP_receive 67 = .ok (.aload_n 2, 1) := by decide +kernel
theorem d_CP_receive_68 : decode b_CP_receive 68 = .ok (.invokevirtual 106, 3) := by decide +kernel
theorem d_CP_receive_71 : decode b_CP_receive 71 = .ok (.istore_n 3, 1) := by decide +kernel
theorem d_CP_receive_72 : decode b_CP_receive 72 = .ok (.iload_n 3, 1) := by decide +kernel
theorem d_CP_receive_73 : decode b_CP_receive 73 = .ok (.ifCond .ne 11, 3) := by decide +kernel
theorem d_CP_receive_76 : decode b_CP_receive 76 = .ok (.aload_n 0, 1) := by decide +kernel
theorem d_CP_receive_77 : decode b_CP_receive 77 = .ok (.getfield 22, 3) := by decide +kernel
theorem d_CP_receive_80 : decode b_CP_receive 80 = .ok (.getfield 109, 3) := by decide +kernel
theorem d_CP_receive_83 : decode b_CP_receive 83 = .ok (.ireturn, 1) := by decide +kernel
theorem d_CP_receive_84 : decode b_CP_receive 84 = .ok (.aload_n 2, 1) := by decide +kernel
theorem d_CP_receive_85 : decode b_CP_receive 85 = .ok (.iload_n 3, 1) := by decide +kernel
theorem d_CP_receive_86 : decode b_CP_receive 86 = .ok (.invokevirtual 99, 3) := by decide +kernel
theorem d_CP_receive_89 : decode b_CP_receive 89 = .ok (.bipush (-3), 2) := by decide +kernel
theorem d_CP_receive_91 : decode b_CP_receive 91 = .ok (.ireturn, 1) := by decide +kernel
theorem d_Peer_moveFirstTo_0 : decode b_Peer_moveFirstTo 0 = .ok (.aload_n 0, 1) := by decide +kernel
theorem d_Peer_moveFirstTo_1 : decode b_Peer_moveFirstTo 1 = .ok (.getfield 17, 3) := by decide +kernel
theorem d_Peer_moveFirstTo_4 : decode b_Peer_moveFirstTo 4 = .ok (.iconst 0, 1) := by decide +kernel
theorem d_Peer_moveFirstTo_5 : decode b_Peer_moveFirstTo 5 = .ok (.aaload, 1) := by decide +kernel
theorem d_Peer_moveFirstTo_6 : decode b_Peer_moveFirstTo 6 = .ok (.astore_n 2, 1) := by decide +kernel
theorem d_Peer_moveFirstTo_7 : decode b_Peer_moveFirstTo 7 = .ok (.aload_n 1, 1) := by decide +kernel
theorem d_Peer_moveFirstTo_8 : decode b_Peer_moveFirstTo 8 = .ok (.aload_n 2, 1) := by decide +kernel
theorem d_Peer_moveFirstTo_9 : decode b_Peer_moveFirstTo 9 = .ok (.invokevirtual 59, 3) := by decide +kernel
theorem d_Peer_moveFirstTo_12 : decode b_Peer_moveFirstTo 12 = .ok (.iconst 1, 1) := by decide +kernel
theorem d_Peer_moveFirstTo_13 : decode b_Peer_moveFirstTo 13 = .ok (.istore_n 3, 1) := by decide +kernel
theorem d_Peer_moveFirstTo_14 : decode b_Peer_moveFirstTo 14 = .ok (.iload_n 3, 1) := by decide +kernel
theorem d_Peer_moveFirstTo_15 : decode b_Peer_moveFirstTo 15 = .ok (.iconst 4, 1) := by decide +kernel
theorem d_Peer_moveFirstTo_16 : decode b_Peer_moveFirstTo 16 = .ok (.if_icmp .ge 23, 3) := by decide +kernel
theorem d_Peer_moveFirstTo_19 : decode b_Peer_moveFirstTo 19 = .ok (.aload_n 0, 1) := by decide +kernel
theorem d_Peer_moveFirstTo_20 : decode b_Peer_moveFirstTo 20 = .ok (.getfield 17, 3) := by decide +kernel
theorem d_Peer_moveFirstTo_23 : decode b_Peer_moveFirstTo 23 = .ok (.iload_n 3, 1) := by decide +kernel
theorem d_Peer_moveFirstTo_24 : decode b_Peer_moveFirstTo 24 = .ok (.iconst 1, 1) := by decide +kernel
theorem d_Peer_moveFirstTo_25 : decode b_Peer_moveFirstTo 25 = .ok (.isub, 1) := by decide +kernel
theorem d_Peer_moveFirstTo_26 : decode b_Peer_moveFirstTo 26 = .ok (.aload_n 0, 1) := by decide +kernel
theorem d_Peer_moveFirstTo_27 : decode b_Peer_moveFirstTo 27 = .ok (.getfield 17, 3) := by decide +kernel
theorem d_Peer_moveFirstTo_30 : decode b_Peer_moveFirstTo 30 = .ok (.iload_n 3, 1) := by decide +kernel
theorem d_Peer_moveFirstTo_31 : decode b_Peer_moveFirstTo 31 = .ok (.aaload, 1) := by decide +kernel
theorem d_Peer_moveFirstTo_32 : decode b_Peer_moveFirstTo 32 = .ok (.aastore, 1) := by decide +kernel
theorem d_Peer_moveFirstTo_33 : decode b_Peer_moveFirstTo 33 = .ok (.iinc 3 1, 3) := by decide +kernel
theorem d_Peer_moveFirstTo_36 : decode b_Peer_moveFirstTo 36 = .ok (.goto (-22), 3) := by decide +kernel
theorem d_Peer_moveFirstTo_39 : decode b_Peer_moveFirstTo 39 = .ok (.aload_n 0, 1) := by decide +kernel
theorem d_Peer_moveFirstTo_40 : decode b_Peer_moveFirstTo 40 = .ok (.getfield 17, 3) := by decide +kernel
theorem d_Peer_moveFirstTo_43 : decode b_Peer_moveFirstTo 43 = .ok (.iconst 3, 1) := by decide +kernel
theorem d_Peer_moveFirstTo_44 : decode b_Peer_moveFirstTo 44 = .ok (.aload_n 2, 1) := by decide +kernel
theorem d_Peer_moveFirstTo_45 : decode b_Peer_moveFirstTo 45 = .ok (.aastore, 1) := by decide +kernel
theorem d_Peer_moveFirstTo_46 : decode b_Peer_moveFirstTo 46 = .ok (.aload_n 0, 1) := by decide +kernel
theorem d_Peer_moveFirstTo_47 : decode b_Peer_moveFirstTo 47 = .ok (.dup, 1) := by decide +kernel
theorem d_Peer_moveFirstTo_48 : decode b_Peer_moveFirstTo 48 = .ok (.getfield 31, 3) := by decide +kernel
theorem d_Peer_moveFirstTo_51 : decode b_Peer_moveFirstTo 51 = .ok (.iconst 1, 1) := by decide +kernel
theorem d_Peer_moveFirstTo_52 : decode b_Peer_moveFirstTo 52 = .ok (.isub, 1) := by decide +kernel
theorem d_Peer_moveFirstTo_53 : decode b_Peer_moveFirstTo 53 = .ok (.putfield 31, 3) := by decide +kernel
theorem d_Peer_moveFirstTo_56 : decode b_Peer_moveFirstTo 56 = .ok (.return_, 1) := by decide +kernel
theorem d_CP_send_0 : decode b_CP_send 0 = .ok (.iload_n 1, 1) := by decide +kernel
theorem d_CP_send_1 : decode b_CP_send 1 = .ok (.invokestatic 63, 3) := by decide +kernel
theorem d_CP_send_4 : decode b_CP_send 4 = .ok (.ifCond .eq 15, 3) := by decide +kernel
theorem d_CP_send_7 : decode b_CP_send 7 = .ok (.aload_n 0, 1) := by decide +kernel
theorem d_CP_send_8 : decode b_CP_send 8 = .ok (.getfield 35, 3) := by decide +kernel
theorem d_CP_send_11 : decode b_CP_send 11 = .ok (.iload_n 1, 1) := by decide +kernel
theorem d_CP_send_12 : decode b_CP_send 12 = .ok (.aaload, 1) := by decide +kernel
theorem d_CP_send_13 : decode b_CP_send 13 = .ok (.getfield 112, 3) := by decide +kernel
theorem d_CP_send_16 : decode b_CP_send 16 = .ok (.ifCond .ne 5, 3) := by decide +kernel
theorem d_CP_send_19 : decode b_CP_send 19 = .ok (.iconst (-1), 1) := by decide +kernel
theorem d_CP_send_20 : decode b_CP_send 20 = .ok (.ireturn, 1) := by decide +kernel
theorem d_CP_send_21 : decode b_CP_send 21 = .ok (.aload_n 0, 1) := by decide +kernel
theorem d_CP_send_22 : decode b_CP_send 22 = .ok (.getfield 35, 3) := by decide +kernel
theorem d_CP_send_25 : decode b_CP_send 25 = .ok (.iload_n 1, 1) := by decide +kernel
theorem d_CP_send_26 : decode b_CP_send 26 = .ok (.aaload, 1) := by decide +kernel
theorem d_CP_send_27 : decode b_CP_send 27 = .ok (.aload_n 0, 1) := by decide +kernel
theorem d_CP_send_28 : decode b_CP_send 28 = .ok (.getfield 10, 3) := by decide +kernel
theorem d_CP_send_31 : decode b_CP_send 31 = .ok (.invokevirtual 115, 3) := by decide +kernel
theorem d_CP_send_34 : decode b_CP_send 34 = .ok (.aload_n 0, 1) := by decide +kernel
theorem d_CP_send_35 : decode b_CP_send 35 = .ok (.getfield 10, 3) := by decide +kernel
theorem d_CP_send_38 : decode b_CP_send 38 = .ok (.getfield 85, 3) := by decide +kernel
theorem d_CP_send_41 : decode b_CP_send 41 = .ok (.ireturn, 1) := by decide +kernel
theorem d_Peer_isIdle_0 : decode b_Peer_isIdle 0 = .ok (.aload_n 0, 1) := by decide +kernel
theorem d_Peer_isIdle_1 : decode b_Peer_isIdle 1 = .ok (.getfield 9, 3) := by decide +kernel
theorem d_Peer_isIdle_4 : decode b_Peer_isIdle 4 = .ok (.iconst 2, 1) := by decide +kernel
theorem d_Peer_isIdle_5 : decode b_Peer_isIdle 5 = .ok (.if_icmp .ne 14, 3) := by decide +kernel
theorem d_Peer_isIdle_8 : decode b_Peer_isIdle 8 = .ok (.aload_n 0, 1) := by decide +kernel
theorem d_Peer_isIdle_9 : decode b_Peer_isIdle 9 = .ok (.getfield 22, 3) := by decide +kernel
theorem d_Peer_isIdle_12 : decode b_Peer_isIdle 12 = .ok (.ifCond .ne 7, 3) := by decide +kernel
theorem d_Peer_isIdle_15 : decode b_Peer_isIdle 15 = .ok (.iconst 1, 1) := by decide +kernel
theorem d_Peer_isIdle_16 : decode b_Peer_isIdle 16 = .ok (.goto 4, 3) := by decide +kernel
theorem d_Peer_isIdle_19 : decode b_Peer_isIdle 19 = .ok (.iconst 0, 1) := by decide +kernel
theorem d_Peer_isIdle_20 : decode b_Peer_isIdle 20 = .ok (.ireturn, 1) := by decide +kernel
theorem d_Blocks_heaviest_0 : decode b_Blocks_heaviest 0 = .ok (.iconst 0, 1) := by decide +kernel
theorem d_Blocks_heaviest_1 : decode b_Blocks_heaviest 1 = .ok (.istore_n 1, 1) := by decide +kernel
theorem d_Blocks_heaviest_2 : decode b_Blocks_heaviest 2 = .ok (.iconst 1, 1) := by decide +kernel
theorem d_Blocks_heaviest_3 : decode b_Blocks_heaviest 3 = .ok (.istore_n 2, 1) := by decide +kernel
theorem d_Blocks_heaviest_4 : decode b_Blocks_heaviest 4 = .ok (.iload_n 2, 1) := by decide +kernel
theorem d_Blocks_heaviest_5 : decode b_Blocks_heaviest 5 = .ok (.aload_n 0, 1) := by decide +kernel
theorem d_Blocks_heaviest_6 : decode b_Blocks_heaviest 6 = .ok (.getfield 40, 3) := by decide +kernel
theorem d_Blocks_heaviest_9 : decode b_Blocks_heaviest 9 = .ok (.if_icmp .ge 26, 3) := by decide +kernel
theorem d_Blocks_heaviest_12 : decode b_Blocks_heaviest 12 = .ok (.aload_n 0, 1) := by decide +kernel
theorem d_Blocks_heaviest_13 : decode b_Blocks_heaviest 13 = .ok (.getfield 23, 3) := by decide +kernel
theorem d_Blocks_heaviest_16 : decode b_Blocks_heaviest 16 = .ok (.iload_n 2, 1) := by decide +kernel
theorem d_Blocks_heaviest_17 : decode b_Blocks_heaviest 17 = .ok (.iaload, 1) := by decide +kernel
theorem d_Blocks_heaviest_18 : decode b_Blocks_heaviest 18 = .ok (.aload_n 0, 1) := by decide +kernel
theorem d_Blocks_heaviest_19 : decode b_Blocks_heaviest 19 = .ok (.getfield 23, 3) := by decide +kernel
theorem d_Blocks_heaviest_22 : decode b_Blocks_heaviest 22 = .ok (.iload_n 1, 1) := by decide +kernel
theorem d_Blocks_heaviest_23 : decode b_Blocks_heaviest 23 = .ok (.iaload, 1) := by decide +kernel
theorem d_Blocks_heaviest_24 : decode b_Blocks_heaviest 24 = .ok (.if_icmp .le 5, 3) := by decide +kernel
theorem d_Blocks_heaviest_27 : decode b_Blocks_heaviest 27 = .ok (.iload_n 2, 1) := by decide +kernel
theorem d_Blocks_heaviest_28 : decode b_Blocks_heaviest 28 = .ok (.istore_n 1, 1) := by decide +kernel
theorem d_Blocks_heaviest_29 : decode b_Blocks_heaviest 29 = .ok (.iinc 2 1, 3) := by decide +kernel
theorem d_Blocks_heaviest_32 : decode b_Blocks_heaviest 32 = .ok (.goto (-28), 3) := by decide +kernel
theorem d_Blocks_heaviest_35 : decode b_Blocks_heaviest 35 = .ok (.iload_n 1, 1) := by decide +kernel
theorem d_Blocks_heaviest_36 : decode b_Blocks_heaviest 36 = .ok (.ireturn, 1) := by decide +kernel
theorem d_Peer_isAskedForBody_0 : decode b_Peer_isAskedForBody 0 = .ok (.aload_n 0, 1) := by decide +kernel
theorem d_Peer_isAskedForBody_1 : decode b_Peer_isAskedForBody 1 = .ok (.getfield 22, 3) := by decide +kernel
theorem d_Peer_isAskedForBody_4 : decode b_Peer_isAskedForBody 4 = .ok (.ifCond .eq 23, 3) := by decide +kernel
theorem d_Peer_isAskedForBody_7 : decode b_Peer_isAskedForBody 7 = .ok (.aload_n 0, 1) := by decide +kernel
theorem d_Peer_isAskedForBody_8 : decode b_Peer_isAskedForBody 8 = .ok (.getfield 50, 3) := by decide +kernel
theorem d_Peer_isAskedForBody_11 : decode b_Peer_isAskedForBody 11 = .ok (.iconst 3, 1) := by decide +kernel
theorem d_Peer_isAskedForBody_12 : decode b_Peer_isAskedForBody 12 = .ok (.if_icmp .ne 15, 3) := by decide +kernel
theorem d_Peer_isAskedForBody_15 : decode b_Peer_isAskedForBody 15 = .ok (.aload_n 0, 1) := by decide +kernel
theorem d_Peer_isAskedForBody_16 : decode b_Peer_isAskedForBody 16 = .ok (.getfield 53, 3) := by decide +kernel
theorem d_Peer_isAskedForBody_19 : decode b_Peer_isAskedForBody 19 = .ok (.iload_n 1, 1) := by decide +kernel
theorem d_Peer_isAskedForBody_20 : decode b_Peer_isAskedForBody 20 = .ok (.if_icmp .ne 7, 3) := by decide +kernel
theorem d_Peer_isAskedForBody_23 : decode b_Peer_isAskedForBody 23 = .ok (.iconst 1, 1) := by decide +kernel
theorem d_Peer_isAskedForBody_24 : decode b_Peer_isAskedForBody 24 = .ok (.goto 4, 3) := by decide +kernel
theorem d_Peer_isAskedForBody_27 : decode b_Peer_isAskedForBody 27 = .ok (.iconst 0, 1) := by decide +kernel
theorem d_Peer_isAskedForBody_28 : decode b_Peer_isAskedForBody 28 = .ok (.ireturn, 1) := by decide +kernel
theorem d_CP_isBodyAsked_0 : decode b_CP_isBodyAsked 0 = .ok (.iconst 0, 1) := by decide +kernel
theorem d_CP_isBodyAsked_1 : decode b_CP_isBodyAsked 1 = .ok (.istore_n 2, 1) := by decide +kernel
theorem d_CP_isBodyAsked_2 : decode b_CP_isBodyAsked 2 = .ok (.iload_n 2, 1) := by decide +kernel
theorem d_CP_isBodyAsked_3 : decode b_CP_isBodyAsked 3 = .ok (.iconst 4, 1) := by decide +kernel
theorem d_CP_isBodyAsked_4 : decode b_CP_isBodyAsked 4 = .ok (.if_icmp .ge 24, 3) := by decide +kernel
theorem d_CP_isBodyAsked_7 : decode b_CP_isBodyAsked 7 = .ok (.aload_n 0, 1) := by decide +kernel
theorem d_CP_isBodyAsked_8 : decode b_CP_isBodyAsked 8 = .ok (.getfield 35, 3) := by decide +kernel
theorem d_CP_isBodyAsked_11 : decode b_CP_isBodyAsked 11 = .ok (.iload_n 2, 1) := by decide +kernel
theorem d_CP_isBodyAsked_12 : decode b_CP_isBodyAsked 12 = .ok (.aaload, 1) := by decide +kernel
theorem d_CP_isBodyAsked_13 : decode b_CP_isBodyAsked 13 = .ok (.iload_n 1, 1) := by decide +kernel
theorem d_CP_isBodyAsked_14 : decode b_CP_isBodyAsked 14 = .ok (.invokevirtual 307, 3) := by decide +kernel
theorem d_CP_isBodyAsked_17 : decode b_CP_isBodyAsked 17 = .ok (.ifCond .eq 5, 3) := by decide +kernel
theorem d_CP_isBodyAsked_20 : decode b_CP_isBodyAsked 20 = .ok (.iconst 1, 1) := by decide +kernel
theorem d_CP_isBodyAsked_21 : decode b_CP_isBodyAsked 21 = .ok (.ireturn, 1) := by decide +kernel
theorem d_CP_isBodyAsked_22 : decode b_CP_isBodyAsked 22 = .ok (.iinc 2 1, 3) := by decide +kernel
theorem d_CP_isBodyAsked_25 : decode b_CP_isBodyAsked 25 = .ok (.goto (-23), 3) := by decide +kernel
theorem d_CP_isBodyAsked_28 : decode b_CP_isBodyAsked 28 = .ok (.iconst 0, 1) := by decide +kernel
theorem d_CP_isBodyAsked_29 : decode b_CP_isBodyAsked 29 = .ok (.ireturn, 1) := by decide +kernel
theorem d_CP_wantedBlock_0 : decode b_CP_wantedBlock 0 = .ok (.iconst (-1), 1) := by decide +kernel
theorem d_CP_wantedBlock_1 : decode b_CP_wantedBlock 1 = .ok (.istore_n 1, 1) := by decide +kernel
theorem d_CP_wantedBlock_2 : decode b_CP_wantedBlock 2 = .ok (.aload_n 0, 1) := by decide +kernel
theorem d_CP_wantedBlock_3 : decode b_CP_wantedBlock 3 = .ok (.getfield 29, 3) := by decide +kernel
theorem d_CP_wantedBlock_6 : decode b_CP_wantedBlock 6 = .ok (.invokevirtual 184, 3) := by decide +kernel
theorem d_CP_wantedBlock_9 : decode b_CP_wantedBlock 9 = .ok (.istore_n 2, 1) := by decide +kernel
theorem d_CP_wantedBlock_10 : decode b_CP_wantedBlock 10 = .ok (.aload_n 0, 1) := by decide +kernel
theorem d_CP_wantedBlock_11 : decode b_CP_wantedBlock 11 = .ok (.getfield 29, 3) := by decide +kernel
theorem d_CP_wantedBlock_14 : decode b_CP_wantedBlock 14 = .ok (.iload_n 2, 1) := by decide +kernel
theorem d_CP_wantedBlock_15 : decode b_CP_wantedBlock 15 = .ok (.invokevirtual 139, 3) := by decide +kernel
theorem d_CP_wantedBlock_18 : decode b_CP_wantedBlock 18 = .ok (.istore_n 3, 1) := by decide +kernel
theorem d_CP_wantedBlock_19 : decode b_CP_wantedBlock 19 = .ok (.iload_n 3, 1) := by decide +kernel
theorem d_CP_wantedBlock_20 : decode b_CP_wantedBlock 20 = .ok (.ifCond .le 40, 3) := by decide +kernel
theorem d_CP_wantedBlock_23 : decode b_CP_wantedBlock 23 = .ok (.aload_n 0, 1) := by decide +kernel
theorem d_CP_wantedBlock_24 : decode b_CP_wantedBlock 24 = .ok (.getfield 29, 3) := by decide +kernel
theorem d_CP_wantedBlock_27 : decode b_CP_wantedBlock 27 = .ok (.iload_n 2, 1) := by decide +kernel
theorem d_CP_wantedBlock_28 : decode b_CP_wantedBlock 28 = .ok (.invokevirtual 278, 3) := by decide +kernel
theorem d_CP_wantedBlock_31 : decode b_CP_wantedBlock 31 = .ok (.ifCond .ne 13, 3) := by decide +kernel
theorem d_CP_wantedBlock_34 : decode b_CP_wantedBlock 34 = .ok (.aload_n 0, 1) := by decide +kernel
theorem d_CP_wantedBlock_35 : decode b_CP_wantedBlock 35 = .ok (.iload_n 2, 1) := by decide +kernel
theorem d_CP_wantedBlock_36 : decode b_CP_wantedBlock 36 = .ok (.invokevirtual 301, 3) := by decide +kernel
theorem d_CP_wantedBlock_39 : decode b_CP_wantedBlock 39 = .ok (.ifCond .ne 5, 3) := by decide +kernel
theorem d_CP_wantedBlock_42 : decode b_CP_wantedBlock 42 = .ok (.iload_n 2, 1) := by decide +kernel
theorem d_CP_wantedBlock_43 : decode b_CP_wantedBlock 43 = .ok (.istore_n 1, 1) := by decide +kernel
theorem d_CP_wantedBlock_44 : decode b_CP_wantedBlock 44 = .ok (.aload_n 0, 1) := by decide +kernel
theorem d_CP_wantedBlock_45 : decode b_CP_wantedBlock 45 = .ok (.getfield 29, 3) := by decide +kernel
theorem d_CP_wantedBlock_48 : decode b_CP_wantedBlock 48 = .ok (.getfield 304, 3) := by decide +kernel
theorem d_CP_wantedBlock_51 : decode b_CP_wantedBlock 51 = .ok (.iload_n 2, 1) := by decide +kernel
theorem d_CP_wantedBlock_52 : decode b_CP_wantedBlock 52 = .ok (.iaload, 1) := by decide +kernel
theorem d_CP_wantedBlock_53 : decode b_CP_wantedBlock 53 = .ok (.istore_n 2, 1) := by decide +kernel
theorem d_CP_wantedBlock_54 : decode b_CP_wantedBlock 54 = .ok (.iinc 3 (-1), 3) := by decide +kernel
theorem d_CP_wantedBlock_57 : decode b_CP_wantedBlock 57 = .ok (.goto (-38), 3) := by decide +kernel
theorem d_CP_wantedBlock_60 : decode b_CP_wantedBlock 60 = .ok (.iload_n 1, 1) := by decide +kernel
theorem d_CP_wantedBlock_61 : decode b_CP_wantedBlock 61 = .ok (.ireturn, 1) := by decide +kernel
theorem d_Peer_setRequest_0 : decode b_Peer_setRequest 0 = .ok (.aload_n 0, 1) := by decide +kernel
theorem d_Peer_setRequest_1 : decode b_Peer_setRequest 1 = .ok (.iload_n 1, 1) := by decide +kernel
theorem d_Peer_setRequest_2 : decode b_Peer_setRequest 2 = .ok (.putfield 50, 3) := by decide +kernel
theorem d_Peer_setRequest_5 : decode b_Peer_setRequest 5 = .ok (.aload_n 0, 1) := by decide +kernel
theorem d_Peer_setRequest_6 : decode b_Peer_setRequest 6 = .ok (.iload_n 2, 1) := by decide +kernel
theorem d_Peer_setRequest_7 : decode b_Peer_setRequest 7 = .ok (.putfield 22, 3) := by decide +kernel
theorem d_Peer_setRequest_10 : decode b_Peer_setRequest 10 = .ok (.aload_n 0, 1) := by decide +kernel
theorem d_Peer_setRequest_11 : decode b_Peer_setRequest 11 = .ok (.iload_n 3, 1) := by decide +kernel
theorem d_Peer_setRequest_12 : decode b_Peer_setRequest 12 = .ok (.putfield 53, 3) := by decide +kernel
theorem d_Peer_setRequest_15 : decode b_Peer_setRequest 15 = .ok (.aload_n 0, 1) := by decide +kernel
theorem d_Peer_setRequest_16 : decode b_Peer_setRequest 16 = .ok (.iload 4, 2) := by decide +kernel
theorem d_Peer_setRequest_18 : decode b_Peer_setRequest 18 = .ok (.putfield 56, 3) := by decide +kernel
theorem d_Peer_setRequest_21 : decode b_Peer_setRequest 21 = .ok (.return_, 1) := by decide +kernel
theorem d_CP_askForBody_0 : decode b_CP_askForBody 0 = .ok (.aload_n 0, 1) := by decide +kernel
theorem d_CP_askForBody_1 : decode b_CP_askForBody 1 = .ok (.dup, 1) := by decide +kernel
theorem d_CP_askForBody_2 : decode b_CP_askForBody 2 = .ok (.getfield 187, 3) := by decide +kernel
theorem d_CP_askForBody_5 : decode b_CP_askForBody 5 = .ok (.iconst 1, 1) := by decide +kernel
theorem d_CP_askForBody_6 : decode b_CP_askForBody 6 = .ok (.iadd, 1) := by decide +kernel
theorem d_CP_askForBody_7 : decode b_CP_askForBody 7 = .ok (.putfield 187, 3) := by decide +kernel
theorem d_CP_askForBody_10 : decode b_CP_askForBody 10 = .ok (.aload_n 1, 1) := by decide +kernel
theorem d_CP_askForBody_11 : decode b_CP_askForBody 11 = .ok (.iconst 3, 1) := by decide +kernel
theorem d_CP_askForBody_12 : decode b_CP_askForBody 12 = .ok (.aload_n 0, 1) := by decide +kernel
theorem d_CP_askForBody_13 : decode b_CP_askForBody 13 = .ok (.getfield 187, 3) := by decide +kernel
theorem d_CP_askForBody_16 : decode b_CP_askForBody 16 = .ok (.iload_n 2, 1) := by decide +kernel
theorem d_CP_askForBody_17 : decode b_CP_askForBody 17 = .ok (.aload_n 0, 1) := by decide +kernel
theorem d_CP_askForBody_18 : decode b_CP_askForBody 18 = .ok (.getfield 126, 3) := by decide +kernel
theorem d_CP_askForBody_21 : decode b_CP_askForBody 21 = .ok (.aload_n 0, 1) := by decide +kernel
theorem d_CP_askForBody_22 : decode b_CP_askForBody 22 = .ok (.getfield 59, 3) := by decide +kernel
theorem d_CP_askForBody_25 : decode b_CP_askForBody 25 = .ok (.iadd, 1) := by decide +kernel
theorem d_CP_askForBody_26 : decode b_CP_askForBody 26 = .ok (.invokevirtual 297, 3) := by decide +kernel
theorem d_CP_askForBody_29 : decode b_CP_askForBody 29 = .ok (.aload_n 0, 1) := by decide +kernel
theorem d_CP_askForBody_30 : decode b_CP_askForBody 30 = .ok (.getfield 16, 3) := by decide +kernel
theorem d_CP_askForBody_33 : decode b_CP_askForBody 33 = .ok (.iconst 3, 1) := by decide +kernel
theorem d_CP_askForBody_34 : decode b_CP_askForBody 34 = .ok (.invokevirtual 247, 3) := by decide +kernel
theorem d_CP_askForBody_37 : decode b_CP_askForBody 37 = .ok (.aload_n 0, 1) := by decide +kernel
theorem d_CP_askForBody_38 : decode b_CP_askForBody 38 = .ok (.getfield 16, 3) := by decide +kernel
theorem d_CP_askForBody_41 : decode b_CP_askForBody 41 = .ok (.aload_n 0, 1) := by decide +kernel
theorem d_CP_askForBody_42 : decode b_CP_askForBody 42 = .ok (.getfield 187, 3) := by decide +kernel
theorem d_CP_askForBody_45 : decode b_CP_askForBody 45 = .ok (.invokevirtual 250, 3) := by decide +kernel
theorem d_CP_askForBody_48 : decode b_CP_askForBody 48 = .ok (.aload_n 0, 1) := by decide +kernel
theorem d_CP_askForBody_49 : decode b_CP_askForBody 49 = .ok (.getfield 16, 3) := by decide +kernel
theorem d_CP_askForBody_52 : decode b_CP_askForBody 52 = .ok (.aload_n 0, 1) := by decide +kernel
theorem d_CP_askForBody_53 : decode b_CP_askForBody 53 = .ok (.getfield 29, 3) := by decide +kernel
theorem d_CP_askForBody_56 : decode b_CP_askForBody 56 = .ok (.getfield 136, 3) := by decide +kernel
theorem d_CP_askForBody_59 : decode b_CP_askForBody 59 = .ok (.iload_n 2, 1) := by decide +kernel
theorem d_CP_askForBody_60 : decode b_CP_askForBody 60 = .ok (.iaload, 1) := by decide +kernel
theorem d_CP_askForBody_61 : decode b_CP_askForBody 61 = .ok (.invokevirtual 250, 3) := by decide +kernel
theorem d_CP_askForBody_64 : decode b_CP_askForBody 64 = .ok (.aload_n 0, 1) := by decide +kernel
theorem d_CP_askForBody_65 : decode b_CP_askForBody 65 = .ok (.aload_n 1, 1) := by decide +kernel
theorem d_CP_askForBody_66 : decode b_CP_askForBody 66 = .ok (.invokevirtual 253, 3) := by decide +kernel
theorem d_CP_askForBody_69 : decode b_CP_askForBody 69 = .ok (.return_, 1) := by decide +kernel
theorem d_CP_askForHeaders_0 : decode b_CP_askForHeaders 0 = .ok (.aload_n 0, 1) := by decide +kernel
theorem d_CP_askForHeaders_1 : decode b_CP_askForHeaders 1 = .ok (.dup, 1) := by decide +kernel
theorem d_CP_askForHeaders_2 : decode b_CP_askForHeaders 2 = .ok (.getfield 187, 3) := by decide +kernel
theorem d_CP_askForHeaders_5 : decode b_CP_askForHeaders 5 = .ok (.iconst 1, 1) := by decide +kernel
theorem d_CP_askForHeaders_6 : decode b_CP_askForHeaders 6 = .ok (.iadd, 1) := by decide +kernel
theorem d_CP_askForHeaders_7 : decode b_CP_askForHeaders 7 = .ok (.putfield 187, 3) := by decide +kernel
theorem d_CP_askForHeaders_10 : decode b_CP_askForHeaders 10 = .ok (.aload_n 1, 1) := by decide +kernel
theorem d_CP_askForHeaders_11 : decode b_CP_askForHeaders 11 = .ok (.iconst 1, 1) := by decide +kernel
theorem d_CP_askForHeaders_12 : decode b_CP_askForHeaders 12 = .ok (.aload_n 0, 1) := by decide +kernel
theorem d_CP_askForHeaders_13 : decode b_CP_askForHeaders 13 = .ok (.getfield 187, 3) := by decide +kernel
theorem d_CP_askForHeaders_16 : decode b_CP_askForHeaders 16 = .ok (.iload_n 2, 1) := by decide +kernel
theorem d_CP_askForHeaders_17 : decode b_CP_askForHeaders 17 = .ok (.aload_n 0, 1) := by decide +kernel
theorem d_CP_askForHeaders_18 : decode b_CP_askForHeaders 18 = .ok (.getfield 126, 3) := by decide +kernel
theorem d_CP_askForHeaders_21 : decode b_CP_askForHeaders 21 = .ok (.aload_n 0, 1) := by decide +kernel
theorem d_CP_askForHeaders_22 : decode b_CP_askForHeaders 22 = .ok (.getfield 59, 3) := by decide +kernel
theorem d_CP_askForHeaders_25 : decode b_CP_askForHeaders 25 = .ok (.iadd, 1) := by decide +kernel
theorem d_CP_askForHeaders_26 : decode b_CP_askForHeaders 26 = .ok (.invokevirtual 297, 3) := by decide +kernel
theorem d_CP_askForHeaders_29 : decode b_CP_askForHeaders 29 = .ok (.aload_n 0, 1) := by decide +kernel
theorem d_CP_askForHeaders_30 : decode b_CP_askForHeaders 30 = .ok (.getfield 16, 3) := by decide +kernel
theorem d_CP_askForHeaders_33 : decode b_CP_askForHeaders 33 = .ok (.iconst 1, 1) := by decide +kernel
theorem d_CP_askForHeaders_34 : decode b_CP_askForHeaders 34 = .ok (.invokevirtual 247, 3) := by decide +kernel
theorem d_CP_askForHeaders_37 : decode b_CP_askForHeaders 37 = .ok (.aload_n 0, 1) := by decide +kernel
theorem d_CP_askForHeaders_38 : decode b_CP_askForHeaders 38 = .ok (.getfield 16, 3) := by decide +kernel
theorem d_CP_askForHeaders_41 : decode b_CP_askForHeaders 41 = .ok (.aload_n 0, 1) := by decide +kernel
theorem d_CP_askForHeaders_42 : decode b_CP_askForHeaders 42 = .ok (.getfield 187, 3) := by decide +kernel
theorem d_CP_askForHeaders_45 : decode b_CP_askForHeaders 45 = .ok (.invokevirtual 250, 3) := by decide +kernel
theorem d_CP_askForHeaders_48 : decode b_CP_askForHeaders 48 = .ok (.aload_n 0, 1) := by decide +kernel
theorem d_CP_askForHeaders_49 : decode b_CP_askForHeaders 49 = .ok (.getfield 16, 3) := by decide +kernel
theorem d_CP_askForHeaders_52 : decode b_CP_askForHeaders 52 = .ok (.iload_n 2, 1) := by decide +kernel
theorem d_CP_askForHeaders_53 : decode b_CP_askForHeaders 53 = .ok (.invokevirtual 250, 3) := by decide +kernel
theorem d_CP_askForHeaders_56 : decode b_CP_askForHeaders 56 = .ok (.aload_n 0, 1) := by decide +kernel
theorem d_CP_askForHeaders_57 : decode b_CP_askForHeaders 57 = .ok (.getfield 16, 3) := by decide +kernel
theorem d_CP_askForHeaders_60 : decode b_CP_askForHeaders 60 = .ok (.iconst 2, 1) := by decide +kernel
theorem d_CP_askForHeaders_61 : decode b_CP_askForHeaders 61 = .ok (.invokevirtual 250, 3) := by decide +kernel
theorem d_CP_askForHeaders_64 : decode b_CP_askForHeaders 64 = .ok (.aload_n 0, 1) := by decide +kernel
theorem d_CP_askForHeaders_65 : decode b_CP_askForHeaders 65 = .ok (.aload_n 1, 1) := by decide +kernel
theorem d_CP_askForHeaders_66 : decode b_CP_askForHeaders 66 = .ok (.invokevirtual 253, 3) := by decide +kernel
theorem d_CP_askForHeaders_69 : decode b_CP_askForHeaders 69 = .ok (.return_, 1) := by decide +kernel
theorem d_CP_ask_0 : decode b_CP_ask 0 = .ok (.aload_n 0, 1) := by decide +kernel
theorem d_CP_ask_1 : decode b_CP_ask 1 = .ok (.invokevirtual 287, 3) := by decide +kernel
theorem d_CP_ask_4 : decode b_CP_ask 4 = .ok (.istore_n 2, 1) := by decide +kernel
theorem d_CP_ask_5 : decode b_CP_ask 5 = .ok (.iload_n 2, 1) := by decide +kernel
theorem d_CP_ask_6 : decode b_CP_ask 6 = .ok (.iconst (-1), 1) := by decide +kernel
theorem d_CP_ask_7 : decode b_CP_ask 7 = .ok (.if_icmp .eq 11, 3) := by decide +kernel
theorem d_CP_ask_10 : decode b_CP_ask 10 = .ok (.aload_n 0, 1) := by decide +kernel
theorem d_CP_ask_11 : decode b_CP_ask 11 = .ok (.aload_n 1, 1) := by decide +kernel
theorem d_CP_ask_12 : decode b_CP_ask 12 = .ok (.iload_n 2, 1) := by decide +kernel
theorem d_CP_ask_13 : decode b_CP_ask 13 = .ok (.invokevirtual 290, 3) := by decide +kernel
theorem d_CP_ask_16 : decode b_CP_ask 16 = .ok (.iconst 1, 1) := by decide +kernel
theorem d_CP_ask_17 : decode b_CP_ask 17 = .ok (.ireturn, 1) := by decide +kernel
theorem d_CP_ask_18 : decode b_CP_ask 18 = .ok (.aload_n 0, 1) := by decide +kernel
theorem d_CP_ask_19 : decode b_CP_ask 19 = .ok (.getfield 29, 3) := by decide +kernel
theorem d_CP_ask_22 : decode b_CP_ask 22 = .ok (.aload_n 0, 1) := by decide +kernel
theorem d_CP_ask_23 : decode b_CP_ask 23 = .ok (.getfield 29, 3) := by decide +kernel
theorem d_CP_ask_26 : decode b_CP_ask 26 = .ok (.invokevirtual 184, 3) := by decide +kernel
theorem d_CP_ask_29 : decode b_CP_ask 29 = .ok (.invokevirtual 139, 3) := by decide +kernel
theorem d_CP_ask_32 : decode b_CP_ask 32 = .ok (.iconst 1, 1) := by decide +kernel
theorem d_CP_ask_33 : decode b_CP_ask 33 = .ok (.iadd, 1) := by decide +kernel
theorem d_CP_ask_34 : decode b_CP_ask 34 = .ok (.aload_n 1, 1) := by decide +kernel
theorem d_CP_ask_35 : decode b_CP_ask 35 = .ok (.getfield 234, 3) := by decide +kernel
theorem d_CP_ask_38 : decode b_CP_ask 38 = .ok (.isub, 1) := by decide +kernel
theorem d_CP_ask_39 : decode b_CP_ask 39 = .ok (.iconst 1, 1) := by decide +kernel
theorem d_CP_ask_40 : decode b_CP_ask 40 = .ok (.invokestatic 46, 3) := by decide +kernel
theorem d_CP_ask_43 : decode b_CP_ask 43 = .ok (.istore_n 3, 1) := by decide +kernel
theorem d_CP_ask_44 : decode b_CP_ask 44 = .ok (.aload_n 0, 1) := by decide +kernel
theorem d_CP_ask_45 : decode b_CP_ask 45 = .ok (.getfield 29, 3) := by decide +kernel
theorem d_CP_ask_48 : decode b_CP_ask 48 = .ok (.invokevirtual 157, 3) := by decide +kernel
theorem d_CP_ask_51 : decode b_CP_ask 51 = .ok (.ifCond .ne 11, 3) := by decide +kernel
theorem d_CP_ask_54 : decode b_CP_ask 54 = .ok (.aload_n 1, 1) := by decide +kernel
theorem d_CP_ask_55 : decode b_CP_ask 55 = .ok (.getfield 203, 3) := by decide +kernel
theorem d_CP_ask_58 : decode b_CP_ask 58 = .ok (.iload_n 3, 1) := by decide +kernel
theorem d_CP_ask_59 : decode b_CP_ask 59 = .ok (.if_icmp .ge 5, 3) := by decide +kernel
theorem d_CP_ask_62 : decode b_CP_ask 62 = .ok (.iconst 0, 1) := by decide +kernel
theorem d_CP_ask_63 : decode b_CP_ask 63 = .ok (.ireturn, 1) := by decide +kernel
theorem d_CP_ask_64 : decode b_CP_ask 64 = .ok (.aload_n 0, 1) := by decide +kernel
theorem d_CP_ask_65 : decode b_CP_ask 65 = .ok (.aload_n 1, 1) := by decide +kernel
theorem d_CP_ask_66 : decode b_CP_ask 66 = .ok (.iload_n 3, 1) := by decide +kernel
theorem d_CP_ask_67 : decode b_CP_ask 67 = .ok (.invokevirtual 294, 3) := by decide +kernel
theorem d_CP_ask_70 : decode b_CP_ask 70 = .ok (.iconst 1, 1) := by decide +kernel
theorem d_CP_ask_71 : decode b_CP_ask 71 = .ok (.ireturn, 1) := by decide +kernel
theorem d_CP_work_0 : decode b_CP_work 0 = .ok (.iconst 0, 1) := by decide +kernel
theorem d_CP_work_1 : decode b_CP_work 1 = .ok (.istore_n 1, 1) := by decide +kernel
theorem d_CP_work_2 : decode b_CP_work 2 = .ok (.iconst 0, 1) := by decide +kernel
theorem d_CP_work_3 : decode b_CP_work 3 = .ok (.istore_n 2, 1) := by decide +kernel
theorem d_CP_work_4 : decode b_CP_work 4 = .ok (.iload_n 2, 1) := by decide +kernel
theorem d_CP_work_5 : decode b_CP_work 5 = .ok (.iconst 4, 1) := by decide +kernel
theorem d_CP_work_6 : decode b_CP_work 6 = .ok (.if_icmp .ge 37, 3) := by decide +kernel
theorem d_CP_work_9 : decode b_CP_work 9 = .ok (.aload_n 0, 1) := by decide +kernel
theorem d_CP_work_10 : decode b_CP_work 10 = .ok (.getfield 35, 3) := by decide +kernel
theorem d_CP_work_13 : decode b_CP_work 13 = .ok (.iload_n 2, 1) := by decide +kernel
theorem d_CP_work_14 : decode b_CP_work 14 = .ok (.aaload, 1) := by decide +kernel
theorem d_CP_work_15 : decode b_CP_work 15 = .ok (.invokevirtual 119, 3) := by decide +kernel
theorem d_CP_work_18 : decode b_CP_work 18 = .ok (.ifCond .eq 19, 3) := by decide +kernel
theorem d_CP_work_21 : decode b_CP_work 21 = .ok (.aload_n 0, 1) := by decide +kernel
theorem d_CP_work_22 : decode b_CP_work 22 = .ok (.aload_n 0, 1) := by decide +kernel
theorem d_CP_work_23 : decode b_CP_work 23 = .ok (.getfield 35, 3) := by decide +kernel
theorem d_CP_work_26 : decode b_CP_work 26 = .ok (.iload_n 2, 1) := by decide +kernel
theorem d_CP_work_27 : decode b_CP_work 27 = .ok (.aaload, 1) := by decide +kernel
theorem d_CP_work_28 : decode b_CP_work 28 = .ok (.invokevirtual 122, 3) := by decide +kernel
theorem d_CP_work_31 : decode b_CP_work 31 = .ok (.ifCond .eq 6, 3) := by decide +kernel
theorem d_CP_work_34 : decode b_CP_work 34 = .ok (.iinc 1 1, 3) := by decide +kernel
theorem d_CP_work_37 : decode b_CP_work 37 = .ok (.iinc 2 1, 3) := by decide +kernel
theorem d_CP_work_40 : decode b_CP_work 40 = .ok (.goto (-36), 3) := by decide +kernel
theorem d_CP_work_43 : decode b_CP_work 43 = .ok (.iload_n 1, 1) := by decide +kernel
theorem d_CP_work_44 : decode b_CP_work 44 = .ok (.ireturn, 1) := by decide +kernel
theorem d_Peer_isLate_0 : decode b_Peer_isLate 0 = .ok (.aload_n 0, 1) := by decide +kernel
theorem d_Peer_isLate_1 : decode b_Peer_isLate 1 = .ok (.getfield 22, 3) := by decide +kernel
theorem d_Peer_isLate_4 : decode b_Peer_isLate 4 = .ok (.ifCond .eq 15, 3) := by decide +kernel
theorem d_Peer_isLate_7 : decode b_Peer_isLate 7 = .ok (.aload_n 0, 1) := by decide +kernel
theorem d_Peer_isLate_8 : decode b_Peer_isLate 8 = .ok (.getfield 56, 3) := by decide +kernel
theorem d_Peer_isLate_11 : decode b_Peer_isLate 11 = .ok (.iload_n 1, 1) := by decide +kernel
theorem d_Peer_isLate_12 : decode b_Peer_isLate 12 = .ok (.if_icmp .ge 7, 3) := by decide +kernel
theorem d_Peer_isLate_15 : decode b_Peer_isLate 15 = .ok (.iconst 1, 1) := by decide +kernel
theorem d_Peer_isLate_16 : decode b_Peer_isLate 16 = .ok (.goto 4, 3) := by decide +kernel
theorem d_Peer_isLate_19 : decode b_Peer_isLate 19 = .ok (.iconst 0, 1) := by decide +kernel
theorem d_Peer_isLate_20 : decode b_Peer_isLate 20 = .ok (.ireturn, 1) := by decide +kernel
theorem d_CP_loseLateRequests_0 : decode b_CP_loseLateRequests 0 = .ok (.iconst 0, 1) := by decide +kernel
theorem d_CP_loseLateRequests_1 : decode b_CP_loseLateRequests 1 = .ok (.istore_n 1, 1) := by decide +kernel
theorem d_CP_loseLateRequests_2 : decode b_CP_loseLateRequests 2 = .ok (.iconst 0, 1) := by decide +kernel
theorem d_CP_loseLateRequests_3 : decode b_CP_loseLateRequests 3 = .ok (.istore_n 2, 1) := by decide +kernel
theorem d_CP_loseLateRequests_4 : decode b_CP_loseLateRequests 4 = .ok (.iload_n 2, 1) := by decide +kernel
theorem d_CP_loseLateRequests_5 : decode b_CP_loseLateRequests 5 = .ok (.iconst 4, 1) := by decide +kernel
theorem d_CP_loseLateRequests_6 : decode b_CP_loseLateRequests 6 = .ok (.if_icmp .ge 47, 3) := by decide +kernel
theorem d_CP_loseLateRequests_9 : decode b_CP_loseLateRequests 9 = .ok (.aload_n 0, 1) := by decide +kernel
theorem d_CP_loseLateRequests_10 : decode b_CP_loseLateRequests 10 = .ok (.getfield 35, 3) := by decide +kernel
theorem d_CP_loseLateRequests_13 : decode b_CP_loseLateRequests 13 = .ok (.iload_n 2, 1) := by decide +kernel
theorem d_CP_loseLateRequests_14 : decode b_CP_loseLateRequests 14 = .ok (.aaload, 1) := by decide +kernel
theorem d_CP_loseLateRequests_15 : decode b_CP_loseLateRequests 15 = .ok (.aload_n 0, 1) := by decide +kernel
theorem d_CP_loseLateRequests_16 : decode b_CP_loseLateRequests 16 = .ok (.getfield 126, 3) := by decide +kernel
theorem d_CP_loseLateRequests_19 : decode b_CP_loseLateRequests 19 = .ok (.invokevirtual 310, 3) := by decide +kernel
theorem d_CP_loseLateRequests_22 : decode b_CP_loseLateRequests 22 = .ok (.ifCond .eq 25, 3) := by decide +kernel
theorem d_CP_loseLateRequests_25 : decode b_CP_loseLateRequests 25 = .ok (.aload_n 0, 1) := by decide +kernel
theorem d_CP_loseLateRequests_26 : decode b_CP_loseLateRequests 26 = .ok (.getfield 35, 3) := by decide +kernel
theorem d_CP_loseLateRequests_29 : decode b_CP_loseLateRequests 29 = .ok (.iload_n 2, 1) := by decide +kernel
theorem d_CP_loseLateRequests_30 : decode b_CP_loseLateRequests 30 = .ok (.aaload, 1) := by decide +kernel
theorem d_CP_loseLateRequests_31 : decode b_CP_loseLateRequests 31 = .ok (.invokevirtual 225, 3) := by decide +kernel
theorem d_CP_loseLateRequests_34 : decode b_CP_loseLateRequests 34 = .ok (.aload_n 0, 1) := by decide +kernel
theorem d_CP_loseLateRequests_35 : decode b_CP_loseLateRequests 35 = .ok (.getfield 35, 3) := by decide +kernel
theorem d_CP_loseLateRequests_38 : decode b_CP_loseLateRequests 38 = .ok (.iload_n 2, 1) := by decide +kernel
theorem d_CP_loseLateRequests_39 : decode b_CP_loseLateRequests 39 = .ok (.aaload, 1) := by decide +kernel
theorem d_CP_loseLateRequests_40 : decode b_CP_loseLateRequests 40 = .ok (.iconst 1, 1) := by decide +kernel
theorem d_CP_loseLateRequests_41 : decode b_CP_loseLateRequests 41 = .ok (.invokevirtual 99, 3) := by decide +kernel
theorem d_CP_loseLateRequests_44 : decode b_CP_loseLateRequests 44 = .ok (.iinc 1 1, 3) := by decide +kernel
theorem d_CP_loseLateRequests_47 : decode b_CP_loseLateRequests 47 = .ok (.iinc 2 1, 3) := by decide +kernel
theorem d_CP_loseLateRequests_50 : decode b_CP_loseLateRequests 50 = .ok (.goto (-46), 3) := by decide +kernel
theorem d_CP_loseLateRequests_53 : decode b_CP_loseLateRequests 53 = .ok (.iload_n 1, 1) := by decide +kernel
theorem d_CP_loseLateRequests_54 : decode b_CP_loseLateRequests 54 = .ok (.ireturn, 1) := by decide +kernel
theorem d_CP_tick_0 : decode b_CP_tick 0 = .ok (.iload_n 1, 1) := by decide +kernel
theorem d_CP_tick_1 : decode b_CP_tick 1 = .ok (.ifCond .lt 9, 3) := by decide +kernel
theorem d_CP_tick_4 : decode b_CP_tick 4 = .ok (.iload_n 1, 1) := by decide +kernel
theorem d_CP_tick_5 : decode b_CP_tick 5 = .ok (.bipush 50, 2) := by decide +kernel
theorem d_CP_tick_7 : decode b_CP_tick 7 = .ok (.if_icmp .le 5, 3) := by decide +kernel
theorem d_CP_tick_10 : decode b_CP_tick 10 = .ok (.iconst (-1), 1) := by decide +kernel
theorem d_CP_tick_11 : decode b_CP_tick 11 = .ok (.ireturn, 1) := by decide +kernel
theorem d_CP_tick_12 : decode b_CP_tick 12 = .ok (.iconst 0, 1) := by decide +kernel
theorem d_CP_tick_13 : decode b_CP_tick 13 = .ok (.istore_n 2, 1) := by decide +kernel
theorem d_CP_tick_14 : decode b_CP_tick 14 = .ok (.iconst 0, 1) := by decide +kernel
theorem d_CP_tick_15 : decode b_CP_tick 15 = .ok (.istore_n 3, 1) := by decide +kernel
theorem d_CP_tick_16 : decode b_CP_tick 16 = .ok (.iload_n 3, 1) := by decide +kernel
theorem d_CP_tick_17 : decode b_CP_tick 17 = .ok (.iload_n 1, 1) := by decide +kernel
theorem d_CP_tick_18 : decode b_CP_tick 18 = .ok (.if_icmp .ge 26, 3) := by decide +kernel
theorem d_CP_tick_21 : decode b_CP_tick 21 = .ok (.aload_n 0, 1) := by decide +kernel
theorem d_CP_tick_22 : decode b_CP_tick 22 = .ok (.dup, 1) := by decide +kernel
theorem d_CP_tick_23 : decode b_CP_tick 23 = .ok (.getfield 126, 3) := by decide +kernel
theorem d_CP_tick_26 : decode b_CP_tick 26 = .ok (.iconst 1, 1) := by decide +kernel
theorem d_CP_tick_27 : decode b_CP_tick 27 = .ok (.iadd, 1) := by decide +kernel
theorem d_CP_tick_28 : decode b_CP_tick 28 = .ok (.putfield 126, 3) := by decide +kernel
theorem d_CP_tick_31 : decode b_CP_tick 31 = .ok (.iload_n 2, 1) := by decide +kernel
theorem d_CP_tick_32 : decode b_CP_tick 32 = .ok (.aload_n 0, 1) := by decide +kernel
theorem d_CP_tick_33 : decode b_CP_tick 33 = .ok (.invokevirtual 129, 3) := by decide +kernel
theorem d_CP_tick_36 : decode b_CP_tick 36 = .ok (.iadd, 1) := by decide +kernel
theorem d_CP_tick_37 : decode b_CP_tick 37 = .ok (.istore_n 2, 1) := by decide +kernel
theorem d_CP_tick_38 : decode b_CP_tick 38 = .ok (.iinc 3 1, 3) := by decide +kernel
theorem d_CP_tick_41 : decode b_CP_tick 41 = .ok (.goto (-25), 3) := by decide +kernel
theorem d_CP_tick_44 : decode b_CP_tick 44 = .ok (.iload_n 2, 1) := by decide +kernel
theorem d_CP_tick_45 : decode b_CP_tick 45 = .ok (.ireturn, 1) := by decide +kernel
theorem d_CP_seal_0 : decode b_CP_seal 0 = .ok (.aload_n 0, 1) := by decide +kernel
theorem d_CP_seal_1 : decode b_CP_seal 1 = .ok (.getfield 29, 3) := by decide +kernel
theorem d_CP_seal_4 : decode b_CP_seal 4 = .ok (.invokevirtual 133, 3) := by decide +kernel
theorem d_CP_seal_7 : decode b_CP_seal 7 = .ok (.istore 4, 2) := by decide +kernel
theorem d_CP_seal_9 : decode b_CP_seal 9 = .ok (.iload_n 3, 1) := by decide +kernel
theorem d_CP_seal_10 : decode b_CP_seal 10 = .ok (.ifCond .ge 7, 3) := by decide +kernel
theorem d_CP_seal_13 : decode b_CP_seal 13 = .ok (.iconst 0, 1) := by decide +kernel
theorem d_CP_seal_14 : decode b_CP_seal 14 = .ok (.goto 4, 3) := by decide +kernel
theorem d_CP_seal_17 : decode b_CP_seal 17 = .ok (.iconst 1, 1) := by decide +kernel
theorem d_CP_seal_18 : decode b_CP_seal 18 = .ok (.istore 5, 2) := by decide +kernel
theorem d_CP_seal_20 : decode b_CP_seal 20 = .ok (.aload_n 0, 1) := by decide +kernel
theorem d_CP_seal_21 : decode b_CP_seal 21 = .ok (.getfield 43, 3) := by decide +kernel
theorem d_CP_seal_24 : decode b_CP_seal 24 = .ok (.iconst 0, 1) := by decide +kernel
theorem d_CP_seal_25 : decode b_CP_seal 25 = .ok (.iload_n 3, 1) := by decide +kernel
theorem d_CP_seal_26 : decode b_CP_seal 26 = .ok (.iastore, 1) := by decide +kernel
theorem d_CP_seal_27 : decode b_CP_seal 27 = .ok (.aload_n 0, 1) := by decide +kernel
theorem d_CP_seal_28 : decode b_CP_seal 28 = .ok (.getfield 39, 3) := by decide +kernel
theorem d_CP_seal_31 : decode b_CP_seal 31 = .ok (.iconst 0, 1) := by decide +kernel
theorem d_CP_seal_32 : decode b_CP_seal 32 = .ok (.aload_n 0, 1) := by decide +kernel
theorem d_CP_seal_33 : decode b_CP_seal 33 = .ok (.getfield 29, 3) := by decide +kernel
theorem d_CP_seal_36 : decode b_CP_seal 36 = .ok (.getfield 136, 3) := by decide +kernel
theorem d_CP_seal_39 : decode b_CP_seal 39 = .ok (.iload 4, 2) := by decide +kernel
theorem d_CP_seal_41 : decode b_CP_seal 41 = .ok (.iaload, 1) := by decide +kernel
theorem d_CP_seal_42 : decode b_CP_seal 42 = .ok (.iastore, 1) := by decide +kernel
theorem d_CP_seal_43 : decode b_CP_seal 43 = .ok (.aload_n 0, 1) := by decide +kernel
theorem d_CP_seal_44 : decode b_CP_seal 44 = .ok (.getfield 39, 3) := by decide +kernel
theorem d_CP_seal_47 : decode b_CP_seal 47 = .ok (.iconst 1, 1) := by decide +kernel
theorem d_CP_seal_48 : decode b_CP_seal 48 = .ok (.aload_n 0, 1) := by decide +kernel
theorem d_CP_seal_49 : decode b_CP_seal 49 = .ok (.getfield 29, 3) := by decide +kernel
theorem d_CP_seal_52 : decode b_CP_seal 52 = .ok (.iload 4, 2) := by decide +kernel
theorem d_CP_seal_54 : decode b_CP_seal 54 = .ok (.invokevirtual 139, 3) := by decide +kernel
theorem d_CP_seal_57 : decode b_CP_seal 57 = .ok (.iconst 1, 1) := by decide +kernel
theorem d_CP_seal_58 : decode b_CP_seal 58 = .ok (.iadd, 1) := by decide +kernel
theorem d_CP_seal_59 : decode b_CP_seal 59 = .ok (.iastore, 1) := by decide +kernel
theorem d_CP_seal_60 : decode b_CP_seal 60 = .ok (.aload_n 0, 1) := by decide +kernel
theorem d_CP_seal_61 : decode b_CP_seal 61 = .ok (.getfield 39, 3) := by decide +kernel
theorem d_CP_seal_64 : decode b_CP_seal 64 = .ok (.iconst 2, 1) := by decide +kernel
theorem d_CP_seal_65 : decode b_CP_seal 65 = .ok (.iload_n 1, 1) := by decide +kernel
theorem d_CP_seal_66 : decode b_CP_seal 66 = .ok (.iastore, 1) := by decide +kernel
theorem d_CP_seal_67 : decode b_CP_seal 67 = .ok (.aload_n 0, 1) := by decide +kernel
theorem d_CP_seal_68 : decode b_CP_seal 68 = .ok (.getfield 39, 3) := by decide +kernel
theorem d_CP_seal_71 : decode b_CP_seal 71 = .ok (.iconst 3, 1) := by decide +kernel
theorem d_CP_seal_72 : decode b_CP_seal 72 = .ok (.iload_n 2, 1) := by decide +kernel
theorem d_CP_seal_73 : decode b_CP_seal 73 = .ok (.iastore, 1) := by decide +kernel
theorem d_CP_seal_74 : decode b_CP_seal 74 = .ok (.aload_n 0, 1) := by decide +kernel
theorem d_CP_seal_75 : decode b_CP_seal 75 = .ok (.getfield 39, 3) := by decide +kernel
theorem d_CP_seal_78 : decode b_CP_seal 78 = .ok (.iconst 4, 1) := by decide +kernel
theorem d_CP_seal_79 : decode b_CP_seal 79 = .ok (.aload_n 0, 1) := by decide +kernel
theorem d_CP_seal_80 : decode b_CP_seal 80 = .ok (.getfield 43, 3) := by decide +kernel
theorem d_CP_seal_83 : decode b_CP_seal 83 = .ok (.iload 5, 2) := by decide +kernel
theorem d_CP_seal_85 : decode b_CP_seal 85 = .ok (.invokestatic 142, 3) := by decide +kernel
theorem d_CP_seal_88 : decode b_CP_seal 88 = .ok (.iastore, 1) := by decide +kernel
theorem d_CP_seal_89 : decode b_CP_seal 89 = .ok (.aload_n 0, 1) := by decide +kernel
theorem d_CP_seal_90 : decode b_CP_seal 90 = .ok (.getfield 29, 3) := by decide +kernel
theorem d_CP_seal_93 : decode b_CP_seal 93 = .ok (.aload_n 0, 1) := by decide +kernel
theorem d_CP_seal_94 : decode b_CP_seal 94 = .ok (.getfield 39, 3) := by decide +kernel
theorem d_CP_seal_97 : decode b_CP_seal 97 = .ok (.invokevirtual 146, 3) := by decide +kernel
theorem d_CP_seal_100 : decode b_CP_seal 100 = .ok (.ifCond .eq 30, 3) := by decide +kernel
theorem d_CP_seal_103 : decode b_CP_seal 103 = .ok (.aload_n 0, 1) := by decide +kernel
theorem d_CP_seal_104 : decode b_CP_seal 104 = .ok (.getfield 29, 3) := by decide +kernel
theorem d_CP_seal_107 : decode b_CP_seal 107 = .ok (.aload_n 0, 1) := by decide +kernel
theorem d_CP_seal_108 : decode b_CP_seal 108 = .ok (.getfield 39, 3) := by decide +kernel
theorem d_CP_seal_111 : decode b_CP_seal 111 = .ok (.invokestatic 150, 3) := by decide +kernel
theorem d_CP_seal_114 : decode b_CP_seal 114 = .ok (.invokevirtual 154, 3) := by decide +kernel
theorem d_CP_seal_117 : decode b_CP_seal 117 = .ok (.ifCond .ne 13, 3) := by decide +kernel
theorem d_CP_seal_120 : decode b_CP_seal 120 = .ok (.aload_n 0, 1) := by decide +kernel
theorem d_CP_seal_121 : decode b_CP_seal 121 = .ok (.getfield 29, 3) := by decide +kernel
theorem d_CP_seal_124 : decode b_CP_seal 124 = .ok (.invokevirtual 157, 3) := by decide +kernel
theorem d_CP_seal_127 : decode b_CP_seal 127 = .ok (.ifCond .eq 5, 3) := by decide +kernel
theorem d_CP_seal_130 : decode b_CP_seal 130 = .ok (.iconst (-1), 1) := by decide +kernel
theorem d_CP_seal_131 : decode b_CP_seal 131 = .ok (.ireturn, 1) := by decide +kernel
theorem d_CP_seal_132 : decode b_CP_seal 132 = .ok (.aload_n 0, 1) := by decide +kernel
theorem d_CP_seal_133 : decode b_CP_seal 133 = .ok (.getfield 29, 3) := by decide +kernel
theorem d_CP_seal_136 : decode b_CP_seal 136 = .ok (.getfield 160, 3) := by decide +kernel
theorem d_CP_seal_139 : decode b_CP_seal 139 = .ok (.istore 6, 2) := by decide +kernel
theorem d_CP_seal_141 : decode b_CP_seal 141 = .ok (.aload_n 0, 1) := by decide +kernel
theorem d_CP_seal_142 : decode b_CP_seal 142 = .ok (.getfield 29, 3) := by decide +kernel
theorem d_CP_seal_145 : decode b_CP_seal 145 = .ok (.aload_n 0, 1) := by decide +kernel
theorem d_CP_seal_146 : decode b_CP_seal 146 = .ok (.getfield 39, 3) := by decide +kernel
theorem d_CP_seal_149 : decode b_CP_seal 149 = .ok (.invokevirtual 163, 3) := by decide +kernel
theorem d_CP_seal_152 : decode b_CP_seal 152 = .ok (.aload_n 0, 1) := by decide +kernel
theorem d_CP_seal_153 : decode b_CP_seal 153 = .ok (.getfield 29, 3) := by decide +kernel
theorem d_CP_seal_156 : decode b_CP_seal 156 = .ok (.iload 6, 2) := by decide +kernel
theorem d_CP_seal_158 : decode b_CP_seal 158 = .ok (.aload_n 0, 1) := by decide +kernel
theorem d_CP_seal_159 : decode b_CP_seal 159 = .ok (.getfield 43, 3) := by decide +kernel
theorem d_CP_seal_162 : decode b_CP_seal 162 = .ok (.iload 5, 2) := by decide +kernel
theorem d_CP_seal_164 : decode b_CP_seal 164 = .ok (.invokevirtual 167, 3) := by decide +kernel
theorem d_CP_seal_167 : decode b_CP_seal 167 = .ok (.iload 6, 2) := by decide +kernel
theorem d_CP_seal_169 : decode b_CP_seal 169 = .ok (.ireturn, 1) := by decide +kernel
theorem d_Peer_look_0 : decode b_Peer_look 0 = .ok (.iload_n 1, 1) := by decide +kernel
theorem d_Peer_look_1 : decode b_Peer_look 1 = .ok (.tableswitch 69 0 5 #[39, 44, 49, 54, 59, 64], 39) := by decide +kernel
theorem d_Peer_look_40 : decode b_Peer_look 40 = .ok (.aload_n 0, 1) := by decide +kernel
theorem d_Peer_look_41 : decode b_Peer_look 41 = .ok (.getfield 9, 3) := by decide +kernel
theorem d_Peer_look_44 : decode b_Peer_look 44 = .ok (.ireturn, 1) := by decide +kernel
theorem d_Peer_look_45 : decode b_Peer_look 45 = .ok (.aload_n 0, 1) := by decide +kernel
theorem d_Peer_look_46 : decode b_Peer_look 46 = .ok (.getfield 37, 3) := by decide +kernel
theorem d_Peer_look_49 : decode b_Peer_look 49 = .ok (.ireturn, 1) := by decide +kernel
theorem d_Peer_look_50 : decode b_Peer_look 50 = .ok (.aload_n 0, 1) := by decide +kernel
theorem d_Peer_look_51 : decode b_Peer_look 51 = .ok (.getfield 25, 3) := by decide +kernel
theorem d_Peer_look_54 : decode b_Peer_look 54 = .ok (.ireturn, 1) := by decide +kernel
theorem d_Peer_look_55 : decode b_Peer_look 55 = .ok (.aload_n 0, 1) := by decide +kernel
theorem d_Peer_look_56 : decode b_Peer_look 56 = .ok (.getfield 28, 3) := by decide +kernel
theorem d_Peer_look_59 : decode b_Peer_look 59 = .ok (.ireturn, 1) := by decide +kernel
theorem d_Peer_look_60 : decode b_Peer_look 60 = .ok (.aload_n 0, 1) := by decide +kernel
theorem d_Peer_look_61 : decode b_Peer_look 61 = .ok (.getfield 22, 3) := by decide +kernel
theorem d_Peer_look_64 : decode b_Peer_look 64 = .ok (.ireturn, 1) := by decide +kernel
theorem d_Peer_look_65 : decode b_Peer_look 65 = .ok (.aload_n 0, 1) := by decide +kernel
theorem d_Peer_look_66 : decode b_Peer_look 66 = .ok (.getfield 31, 3) := by decide +kernel
theorem d_Peer_look_69 : decode b_Peer_look 69 = .ok (.ireturn, 1) := by decide +kernel
theorem d_Peer_look_70 : decode b_Peer_look 70 = .ok (.iconst 0, 1) := by decide +kernel
theorem d_Peer_look_71 : decode b_Peer_look 71 = .ok (.ireturn, 1) := by decide +kernel
theorem d_CP_peer_0 : decode b_CP_peer 0 = .ok (.iload_n 1, 1) := by decide +kernel
theorem d_CP_peer_1 : decode b_CP_peer 1 = .ok (.invokestatic 63, 3) := by decide +kernel
theorem d_CP_peer_4 : decode b_CP_peer 4 = .ok (.ifCond .eq 16, 3) := by decide +kernel
theorem d_CP_peer_7 : decode b_CP_peer 7 = .ok (.aload_n 0, 1) := by decide +kernel
theorem d_CP_peer_8 : decode b_CP_peer 8 = .ok (.getfield 35, 3) := by decide +kernel
theorem d_CP_peer_11 : decode b_CP_peer 11 = .ok (.iload_n 1, 1) := by decide +kernel
theorem d_CP_peer_12 : decode b_CP_peer 12 = .ok (.aaload, 1) := by decide +kernel
theorem d_CP_peer_13 : decode b_CP_peer 13 = .ok (.iload_n 2, 1) := by decide +kernel
theorem d_CP_peer_14 : decode b_CP_peer 14 = .ok (.invokevirtual 171, 3) := by decide +kernel
theorem d_CP_peer_17 : decode b_CP_peer 17 = .ok (.goto 4, 3) := by decide +kernel
theorem d_CP_peer_20 : decode b_CP_peer 20 = .ok (.iconst 0, 1) := by decide +kernel
theorem d_CP_peer_21 : decode b_CP_peer 21 = .ok (.ireturn, 1) := by decide +kernel
theorem d_Blocks_isBlock_0 : decode b_Blocks_isBlock 0 = .ok (.iload_n 1, 1) := by decide +kernel
theorem d_Blocks_isBlock_1 : decode b_Blocks_isBlock 1 = .ok (.ifCond .lt 15, 3) := by decide +kernel
theorem d_Blocks_isBlock_4 : decode b_Blocks_isBlock 4 = .ok (.iload_n 1, 1) := by decide +kernel
theorem d_Blocks_isBlock_5 : decode b_Blocks_isBlock 5 = .ok (.aload_n 0, 1) := by decide +kernel
theorem d_Blocks_isBlock_6 : decode b_Blocks_isBlock 6 = .ok (.getfield 40, 3) := by decide +kernel
theorem d_Blocks_isBlock_9 : decode b_Blocks_isBlock 9 = .ok (.if_icmp .ge 7, 3) := by decide +kernel
theorem d_Blocks_isBlock_12 : decode b_Blocks_isBlock 12 = .ok (.iconst 1, 1) := by decide +kernel
theorem d_Blocks_isBlock_13 : decode b_Blocks_isBlock 13 = .ok (.goto 4, 3) := by decide +kernel
theorem d_Blocks_isBlock_16 : decode b_Blocks_isBlock 16 = .ok (.iconst 0, 1) := by decide +kernel
theorem d_Blocks_isBlock_17 : decode b_Blocks_isBlock 17 = .ok (.ireturn, 1) := by decide +kernel
theorem d_Blocks_look_0 : decode b_Blocks_look 0 = .ok (.aload_n 0, 1) := by decide +kernel
theorem d_Blocks_look_1 : decode b_Blocks_look 1 = .ok (.iload_n 1, 1) := by decide +kernel
theorem d_Blocks_look_2 : decode b_Blocks_look 2 = .ok (.invokevirtual 44, 3) := by decide +kernel
theorem d_Blocks_look_5 : decode b_Blocks_look 5 = .ok (.ifCond .ne 5, 3) := by decide +kernel
theorem d_Blocks_look_8 : decode b_Blocks_look 8 = .ok (.iconst (-1), 1) := by decide +kernel
theorem d_Blocks_look_9 : decode b_Blocks_look 9 = .ok (.ireturn, 1) := by decide +kernel
theorem d_Blocks_look_10 : decode b_Blocks_look 10 = .ok (.iload_n 2, 1) := by decide +kernel
theorem d_Blocks_look_11 : decode b_Blocks_look 11 = .ok (.tableswitch 94 0 8 #[49, 49, 49, 49, 49, 58, 65, 72, 79], 49) := by decide +kernel
theorem d_Blocks_look_60 : decode b_Blocks_look 60 = .ok (.aload_n 0, 1) := by decide +kernel
theorem d_Blocks_look_61 : decode b_Blocks_look 61 = .ok (.getfield 11, 3) := by decide +kernel
theorem d_Blocks_look_64 : decode b_Blocks_look 64 = .ok (.iload_n 1, 1) := by decide +kernel
theorem d_Blocks_look_65 : decode b_Blocks_look 65 = .ok (.aaload, 1) := by decide +kernel
theorem d_Blocks_look_66 : decode b_Blocks_look 66 = .ok (.iload_n 2, 1) := by decide +kernel
theorem d_Blocks_look_67 : decode b_Blocks_look 67 = .ok (.iaload, 1) := by decide +kernel
theorem d_Blocks_look_68 : decode b_Blocks_look 68 = .ok (.ireturn, 1) := by decide +kernel
theorem d_Blocks_look_69 : decode b_Blocks_look 69 = .ok (.aload_n 0, 1) := by decide +kernel
theorem d_Blocks_look_70 : decode b_Blocks_look 70 = .ok (.getfield 16, 3) := by decide +kernel
theorem d_Blocks_look_73 : decode b_Blocks_look 73 = .ok (.iload_n 1, 1) := by decide +kernel
theorem d_Blocks_look_74 : decode b_Blocks_look 74 = .ok (.iaload, 1) := by decide +kernel
theorem d_Blocks_look_75 : decode b_Blocks_look 75 = .ok (.ireturn, 1) := by decide +kernel
theorem d_Blocks_look_76 : decode b_Blocks_look 76 = .ok (.aload_n 0, 1) := by decide +kernel
theorem d_Blocks_look_77 : decode b_Blocks_look 77 = .ok (.getfield 23, 3) := by decide +kernel
theorem d_Blocks_look_80 : decode b_Blocks_look 80 = .ok (.iload_n 1, 1) := by decide +kernel
theorem d_Blocks_look_81 : decode b_Blocks_look 81 = .ok (.iaload, 1) := by decide +kernel
theorem d_Blocks_look_82 : decode b_Blocks_look 82 = .ok (.ireturn, 1) := by decide +kernel
theorem d_Blocks_look_83 : decode b_Blocks_look 83 = .ok (.aload_n 0, 1) := by decide +kernel
theorem d_Blocks_look_84 : decode b_Blocks_look 84 = .ok (.getfield 29, 3) := by decide +kernel
theorem d_Blocks_look_87 : decode b_Blocks_look 87 = .ok (.iload_n 1, 1) := by decide +kernel
theorem d_Blocks_look_88 : decode b_Blocks_look 88 = .ok (.iaload, 1) := by decide +kernel
theorem d_Blocks_look_89 : decode b_Blocks_look 89 = .ok (.ireturn, 1) := by decide +kernel
theorem d_Blocks_look_90 : decode b_Blocks_look 90 = .ok (.aload_n 0, 1) := by decide +kernel
theorem d_Blocks_look_91 : decode b_Blocks_look 91 = .ok (.getfield 32, 3) := by decide +kernel
theorem d_Blocks_look_94 : decode b_Blocks_look 94 = .ok (.iload_n 1, 1) := by decide +kernel
theorem d_Blocks_look_95 : decode b_Blocks_look 95 = .ok (.baload, 1) := by decide +kernel
theorem d_Blocks_look_96 : decode b_Blocks_look 96 = .ok (.ifCond .eq 7, 3) := by decide +kernel
theorem d_Blocks_look_99 : decode b_Blocks_look 99 = .ok (.iconst 1, 1) := by decide +kernel
theorem d_Blocks_look_100 : decode b_Blocks_look 100 = .ok (.goto 4, 3) := by decide +kernel
theorem d_Blocks_look_103 : decode b_Blocks_look 103 = .ok (.iconst 0, 1) := by decide +kernel
theorem d_Blocks_look_104 : decode b_Blocks_look 104 = .ok (.ireturn, 1) := by decide +kernel
theorem d_Blocks_look_105 : decode b_Blocks_look 105 = .ok (.iconst (-1), 1) := by decide +kernel
theorem d_Blocks_look_106 : decode b_Blocks_look 106 = .ok (.ireturn, 1) := by decide +kernel
theorem d_CP_block_0 : decode b_CP_block 0 = .ok (.aload_n 0, 1) := by decide +kernel
theorem d_CP_block_1 : decode b_CP_block 1 = .ok (.getfield 29, 3) := by decide +kernel
theorem d_CP_block_4 : decode b_CP_block 4 = .ok (.iload_n 1, 1) := by decide +kernel
theorem d_CP_block_5 : decode b_CP_block 5 = .ok (.iload_n 2, 1) := by decide +kernel
theorem d_CP_block_6 : decode b_CP_block 6 = .ok (.invokevirtual 174, 3) := by decide +kernel
theorem d_CP_block_9 : decode b_CP_block 9 = .ok (.ireturn, 1) := by decide +kernel
theorem d_Blocks_hasInBody_0 : decode b_Blocks_hasInBody 0 = .ok (.aload_n 0, 1) := by decide +kernel
theorem d_Blocks_hasInBody_1 : decode b_Blocks_hasInBody 1 = .ok (.iload_n 1, 1) := by decide +kernel
theorem d_Blocks_hasInBody_2 : decode b_Blocks_hasInBody 2 = .ok (.invokevirtual 44, 3) := by decide +kernel
theorem d_Blocks_hasInBody_5 : decode b_Blocks_hasInBody 5 = .ok (.ifCond .eq 21, 3) := by decide +kernel
theorem d_Blocks_hasInBody_8 : decode b_Blocks_hasInBody 8 = .ok (.iload_n 2, 1) := by decide +kernel
theorem d_Blocks_hasInBody_9 : decode b_Blocks_hasInBody 9 = .ok (.ifCond .lt 17, 3) := by decide +kernel
theorem d_Blocks_hasInBody_12 : decode b_Blocks_hasInBody 12 = .ok (.iload_n 2, 1) := by decide +kernel
theorem d_Blocks_hasInBody_13 : decode b_Blocks_hasInBody 13 = .ok (.aload_n 0, 1) := by decide +kernel
theorem d_Blocks_hasInBody_14 : decode b_Blocks_hasInBody 14 = .ok (.getfield 29, 3) := by decide +kernel
theorem d_Blocks_hasInBody_17 : decode b_Blocks_hasInBody 17 = .ok (.iload_n 1, 1) := by decide +kernel
theorem d_Blocks_hasInBody_18 : decode b_Blocks_hasInBody 18 = .ok (.iaload, 1) := by decide +kernel
theorem d_Blocks_hasInBody_19 : decode b_Blocks_hasInBody 19 = .ok (.if_icmp .ge 7, 3) := by decide +kernel
theorem d_Blocks_hasInBody_22 : decode b_Blocks_hasInBody 22 = .ok (.iconst 1, 1) := by decide +kernel
theorem d_Blocks_hasInBody_23 : decode b_Blocks_hasInBody 23 = .ok (.goto 4, 3) := by decide +kernel
theorem d_Blocks_hasInBody_26 : decode b_Blocks_hasInBody 26 = .ok (.iconst 0, 1) := by decide +kernel
theorem d_Blocks_hasInBody_27 : decode b_Blocks_hasInBody 27 = .ok (.ireturn, 1) := by decide +kernel
theorem d_CP_tx_0 : decode b_CP_tx 0 = .ok (.aload_n 0, 1) := by decide +kernel
theorem d_CP_tx_1 : decode b_CP_tx 1 = .ok (.getfield 29, 3) := by decide +kernel
theorem d_CP_tx_4 : decode b_CP_tx 4 = .ok (.iload_n 1, 1) := by decide +kernel
theorem d_CP_tx_5 : decode b_CP_tx 5 = .ok (.iload_n 2, 1) := by decide +kernel
theorem d_CP_tx_6 : decode b_CP_tx 6 = .ok (.invokevirtual 176, 3) := by decide +kernel
theorem d_CP_tx_9 : decode b_CP_tx 9 = .ok (.ifCond .eq 17, 3) := by decide +kernel
theorem d_CP_tx_12 : decode b_CP_tx 12 = .ok (.aload_n 0, 1) := by decide +kernel
theorem d_CP_tx_13 : decode b_CP_tx 13 = .ok (.getfield 29, 3) := by decide +kernel
theorem d_CP_tx_16 : decode b_CP_tx 16 = .ok (.getfield 180, 3) := by decide +kernel
theorem d_CP_tx_19 : decode b_CP_tx 19 = .ok (.iload_n 1, 1) := by decide +kernel
theorem d_CP_tx_20 : decode b_CP_tx 20 = .ok (.aaload, 1) := by decide +kernel
theorem d_CP_tx_21 : decode b_CP_tx 21 = .ok (.iload_n 2, 1) := by decide +kernel
theorem d_CP_tx_22 : decode b_CP_tx 22 = .ok (.iaload, 1) := by decide +kernel
theorem d_CP_tx_23 : decode b_CP_tx 23 = .ok (.goto 4, 3) := by decide +kernel
theorem d_CP_tx_26 : decode b_CP_tx 26 = .ok (.iconst (-1), 1) := by decide +kernel
theorem d_CP_tx_27 : decode b_CP_tx 27 = .ok (.ireturn, 1) := by decide +kernel
theorem d_CP_state_0 : decode b_CP_state 0 = .ok (.iload_n 1, 1) := by decide +kernel
theorem d_CP_state_1 : decode b_CP_state 1 = .ok (.tableswitch 69 0 4 #[35, 43, 51, 59, 64], 35) := by decide +kernel
theorem d_CP_state_36 : decode b_CP_state 36 = .ok (.aload_n 0, 1) := by decide +kernel
theorem d_CP_state_37 : decode b_CP_state 37 = .ok (.getfield 29, 3) := by decide +kernel
theorem d_CP_state_40 : decode b_CP_state 40 = .ok (.getfield 160, 3) := by decide +kernel
theorem d_CP_state_43 : decode b_CP_state 43 = .ok (.ireturn, 1) := by decide +kernel
theorem d_CP_state_44 : decode b_CP_state 44 = .ok (.aload_n 0, 1) := by decide +kernel
theorem d_CP_state_45 : decode b_CP_state 45 = .ok (.getfield 29, 3) := by decide +kernel
theorem d_CP_state_48 : decode b_CP_state 48 = .ok (.invokevirtual 184, 3) := by decide +kernel
theorem d_CP_state_51 : decode b_CP_state 51 = .ok (.ireturn, 1) := by decide +kernel
theorem d_CP_state_52 : decode b_CP_state 52 = .ok (.aload_n 0, 1) := by decide +kernel
theorem d_CP_state_53 : decode b_CP_state 53 = .ok (.getfield 29, 3) := by decide +kernel
theorem d_CP_state_56 : decode b_CP_state 56 = .ok (.invokevirtual 133, 3) := by decide +kernel
theorem d_CP_state_59 : decode b_CP_state 59 = .ok (.ireturn, 1) := by decide +kernel
theorem d_CP_state_60 : decode b_CP_state 60 = .ok (.aload_n 0, 1) := by decide +kernel
theorem d_CP_state_61 : decode b_CP_state 61 = .ok (.getfield 126, 3) := by decide +kernel
theorem d_CP_state_64 : decode b_CP_state 64 = .ok (.ireturn, 1) := by decide +kernel
theorem d_CP_state_65 : decode b_CP_state 65 = .ok (.aload_n 0, 1) := by decide +kernel
theorem d_CP_state_66 : decode b_CP_state 66 = .ok (.getfield 187, 3) := by decide +kernel
theorem d_CP_state_69 : decode b_CP_state 69 = .ok (.ireturn, 1) := by decide +kernel
theorem d_CP_state_70 : decode b_CP_state 70 = .ok (.iconst (-1), 1) := by decide +kernel
theorem d_CP_state_71 : decode b_CP_state 71 = .ok (.ireturn, 1) := by decide +kernel
