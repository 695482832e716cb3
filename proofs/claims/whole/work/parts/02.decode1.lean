theorem dX0_init_0 : decode cX0_init 0 = .ok (.aload_n 0, 1) := by decide +kernel
theorem dX0_init_1 : decode cX0_init 1 = .ok (.invokespecial 3, 3) := by decide +kernel
theorem dX0_init_4 : decode cX0_init 4 = .ok (.aload_n 0, 1) := by decide +kernel
theorem dX0_init_5 : decode cX0_init 5 = .ok (.iconst 0, 1) := by decide +kernel
theorem dX0_init_6 : decode cX0_init 6 = .ok (.putfield 9, 3) := by decide +kernel
theorem dX0_init_9 : decode cX0_init 9 = .ok (.aload_n 0, 1) := by decide +kernel
theorem dX0_init_10 : decode cX0_init 10 = .ok (.iconst 1, 1) := by decide +kernel
theorem dX0_init_11 : decode cX0_init 11 = .ok (.putfield 15, 3) := by decide +kernel
theorem dX0_init_14 : decode cX0_init 14 = .ok (.aload_n 0, 1) := by decide +kernel
theorem dX0_init_15 : decode cX0_init 15 = .ok (.iconst 0, 1) := by decide +kernel
theorem dX0_init_16 : decode cX0_init 16 = .ok (.putfield 18, 3) := by decide +kernel
theorem dX0_init_19 : decode cX0_init 19 = .ok (.aload_n 0, 1) := by decide +kernel
theorem dX0_init_20 : decode cX0_init 20 = .ok (.iconst 0, 1) := by decide +kernel
theorem dX0_init_21 : decode cX0_init 21 = .ok (.putfield 22, 3) := by decide +kernel
theorem dX0_init_24 : decode cX0_init 24 = .ok (.aload_n 0, 1) := by decide +kernel
theorem dX0_init_25 : decode cX0_init 25 = .ok (.iconst 0, 1) := by decide +kernel
theorem dX0_init_26 : decode cX0_init 26 = .ok (.putfield 25, 3) := by decide +kernel
theorem dX0_init_29 : decode cX0_init 29 = .ok (.aload_n 0, 1) := by decide +kernel
theorem dX0_init_30 : decode cX0_init 30 = .ok (.iload_n 1, 1) := by decide +kernel
theorem dX0_init_31 : decode cX0_init 31 = .ok (.putfield 28, 3) := by decide +kernel
theorem dX0_init_34 : decode cX0_init 34 = .ok (.aload_n 0, 1) := by decide +kernel
theorem dX0_init_35 : decode cX0_init 35 = .ok (.aload_n 2, 1) := by decide +kernel
theorem dX0_init_36 : decode cX0_init 36 = .ok (.putfield 31, 3) := by decide +kernel
theorem dX0_init_39 : decode cX0_init 39 = .ok (.aload_n 0, 1) := by decide +kernel
theorem dX0_init_40 : decode cX0_init 40 = .ok (.aload_n 3, 1) := by decide +kernel
theorem dX0_init_41 : decode cX0_init 41 = .ok (.putfield 35, 3) := by decide +kernel
theorem dX0_init_44 : decode cX0_init 44 = .ok (.aload_n 0, 1) := by decide +kernel
theorem dX0_init_45 : decode cX0_init 45 = .ok (.iload 4, 2) := by decide +kernel
theorem dX0_init_47 : decode cX0_init 47 = .ok (.putfield 39, 3) := by decide +kernel
theorem dX0_init_50 : decode cX0_init 50 = .ok (.aload_n 0, 1) := by decide +kernel
theorem dX0_init_51 : decode cX0_init 51 = .ok (.iload 4, 2) := by decide +kernel
theorem dX0_init_53 : decode cX0_init 53 = .ok (.putfield 42, 3) := by decide +kernel
theorem dX0_init_56 : decode cX0_init 56 = .ok (.return_, 1) := by decide +kernel
theorem dX0_takeVote_0 : decode cX0_takeVote 0 = .ok (.iconst 1, 1) := by decide +kernel
theorem dX0_takeVote_1 : decode cX0_takeVote 1 = .ok (.iload_n 1, 1) := by decide +kernel
theorem dX0_takeVote_2 : decode cX0_takeVote 2 = .ok (.ishl, 1) := by decide +kernel
theorem dX0_takeVote_3 : decode cX0_takeVote 3 = .ok (.istore_n 3, 1) := by decide +kernel
theorem dX0_takeVote_4 : decode cX0_takeVote 4 = .ok (.aload_n 0, 1) := by decide +kernel
theorem dX0_takeVote_5 : decode cX0_takeVote 5 = .ok (.iload_n 2, 1) := by decide +kernel
theorem dX0_takeVote_6 : decode cX0_takeVote 6 = .ok (.ifCond .eq 12, 3) := by decide +kernel
theorem dX0_takeVote_9 : decode cX0_takeVote 9 = .ok (.aload_n 0, 1) := by decide +kernel
theorem dX0_takeVote_10 : decode cX0_takeVote 10 = .ok (.getfield 22, 3) := by decide +kernel
theorem dX0_takeVote_13 : decode cX0_takeVote 13 = .ok (.iload_n 3, 1) := by decide +kernel
theorem dX0_takeVote_14 : decode cX0_takeVote 14 = .ok (.ior, 1) := by decide +kernel
theorem dX0_takeVote_15 : decode cX0_takeVote 15 = .ok (.goto 11, 3) := by decide +kernel
theorem dX0_takeVote_18 : decode cX0_takeVote 18 = .ok (.aload_n 0, 1) := by decide +kernel
theorem dX0_takeVote_19 : decode cX0_takeVote 19 = .ok (.getfield 22, 3) := by decide +kernel
theorem dX0_takeVote_22 : decode cX0_takeVote 22 = .ok (.iload_n 3, 1) := by decide +kernel
theorem dX0_takeVote_23 : decode cX0_takeVote 23 = .ok (.iconst (-1), 1) := by decide +kernel
theorem dX0_takeVote_24 : decode cX0_takeVote 24 = .ok (.ixor, 1) := by decide +kernel
theorem dX0_takeVote_25 : decode cX0_takeVote 25 = .ok (.iand, 1) := by decide +kernel
theorem dX0_takeVote_26 : decode cX0_takeVote 26 = .ok (.putfield 22, 3) := by decide +kernel
theorem dX0_takeVote_29 : decode cX0_takeVote 29 = .ok (.aload_n 0, 1) := by decide +kernel
theorem dX0_takeVote_30 : decode cX0_takeVote 30 = .ok (.iload_n 2, 1) := by decide +kernel
theorem dX0_takeVote_31 : decode cX0_takeVote 31 = .ok (.ifCond .eq 14, 3) := by decide +kernel
theorem dX0_takeVote_34 : decode cX0_takeVote 34 = .ok (.aload_n 0, 1) := by decide +kernel
theorem dX0_takeVote_35 : decode cX0_takeVote 35 = .ok (.getfield 25, 3) := by decide +kernel
theorem dX0_takeVote_38 : decode cX0_takeVote 38 = .ok (.iload_n 3, 1) := by decide +kernel
theorem dX0_takeVote_39 : decode cX0_takeVote 39 = .ok (.iconst (-1), 1) := by decide +kernel
theorem dX0_takeVote_40 : decode cX0_takeVote 40 = .ok (.ixor, 1) := by decide +kernel
theorem dX0_takeVote_41 : decode cX0_takeVote 41 = .ok (.iand, 1) := by decide +kernel
theorem dX0_takeVote_42 : decode cX0_takeVote 42 = .ok (.goto 9, 3) := by decide +kernel
theorem dX0_takeVote_45 : decode cX0_takeVote 45 = .ok (.aload_n 0, 1) := by decide +kernel
theorem dX0_takeVote_46 : decode cX0_takeVote 46 = .ok (.getfield 25, 3) := by decide +kernel
theorem dX0_takeVote_49 : decode cX0_takeVote 49 = .ok (.iload_n 3, 1) := by decide +kernel
theorem dX0_takeVote_50 : decode cX0_takeVote 50 = .ok (.ior, 1) := by decide +kernel
theorem dX0_takeVote_51 : decode cX0_takeVote 51 = .ok (.putfield 25, 3) := by decide +kernel
theorem dX0_takeVote_54 : decode cX0_takeVote 54 = .ok (.return_, 1) := by decide +kernel
theorem dX0_votesFor_0 : decode cX0_votesFor 0 = .ok (.aload_n 0, 1) := by decide +kernel
theorem dX0_votesFor_1 : decode cX0_votesFor 1 = .ok (.getfield 22, 3) := by decide +kernel
theorem dX0_votesFor_4 : decode cX0_votesFor 4 = .ok (.invokestatic 45, 3) := by decide +kernel
theorem dX0_votesFor_7 : decode cX0_votesFor 7 = .ok (.ireturn, 1) := by decide +kernel
theorem dX0_votesAgainst_0 : decode cX0_votesAgainst 0 = .ok (.aload_n 0, 1) := by decide +kernel
theorem dX0_votesAgainst_1 : decode cX0_votesAgainst 1 = .ok (.getfield 25, 3) := by decide +kernel
theorem dX0_votesAgainst_4 : decode cX0_votesAgainst 4 = .ok (.invokestatic 45, 3) := by decide +kernel
theorem dX0_votesAgainst_7 : decode cX0_votesAgainst 7 = .ok (.ireturn, 1) := by decide +kernel
theorem dX0_isWon_0 : decode cX0_isWon 0 = .ok (.aload_n 0, 1) := by decide +kernel
theorem dX0_isWon_1 : decode cX0_isWon 1 = .ok (.getfield 15, 3) := by decide +kernel
theorem dX0_isWon_4 : decode cX0_isWon 4 = .ok (.iconst 1, 1) := by decide +kernel
theorem dX0_isWon_5 : decode cX0_isWon 5 = .ok (.if_icmp .ne 19, 3) := by decide +kernel
theorem dX0_isWon_8 : decode cX0_isWon 8 = .ok (.aload_n 0, 1) := by decide +kernel
theorem dX0_isWon_9 : decode cX0_isWon 9 = .ok (.invokevirtual 51, 3) := by decide +kernel
theorem dX0_isWon_12 : decode cX0_isWon 12 = .ok (.iconst 5, 1) := by decide +kernel
theorem dX0_isWon_13 : decode cX0_isWon 13 = .ok (.if_icmp .lt 7, 3) := by decide +kernel
theorem dX0_isWon_16 : decode cX0_isWon 16 = .ok (.iconst 1, 1) := by decide +kernel
theorem dX0_isWon_17 : decode cX0_isWon 17 = .ok (.goto 23, 3) := by decide +kernel
theorem dX0_isWon_20 : decode cX0_isWon 20 = .ok (.iconst 0, 1) := by decide +kernel
theorem dX0_isWon_21 : decode cX0_isWon 21 = .ok (.goto 19, 3) := by decide +kernel
theorem dX0_isWon_24 : decode cX0_isWon 24 = .ok (.aload_n 0, 1) := by decide +kernel
theorem dX0_isWon_25 : decode cX0_isWon 25 = .ok (.invokevirtual 51, 3) := by decide +kernel
theorem dX0_isWon_28 : decode cX0_isWon 28 = .ok (.aload_n 0, 1) := by decide +kernel
theorem dX0_isWon_29 : decode cX0_isWon 29 = .ok (.invokevirtual 55, 3) := by decide +kernel
theorem dX0_isWon_32 : decode cX0_isWon 32 = .ok (.if_icmp .le 7, 3) := by decide +kernel
theorem dX0_isWon_35 : decode cX0_isWon 35 = .ok (.iconst 1, 1) := by decide +kernel
theorem dX0_isWon_36 : decode cX0_isWon 36 = .ok (.goto 4, 3) := by decide +kernel
theorem dX0_isWon_39 : decode cX0_isWon 39 = .ok (.iconst 0, 1) := by decide +kernel
theorem dX0_isWon_40 : decode cX0_isWon 40 = .ok (.ireturn, 1) := by decide +kernel
theorem dX0_isLost_0 : decode cX0_isLost 0 = .ok (.aload_n 0, 1) := by decide +kernel
theorem dX0_isLost_1 : decode cX0_isLost 1 = .ok (.getfield 15, 3) := by decide +kernel
theorem dX0_isLost_4 : decode cX0_isLost 4 = .ok (.iconst 1, 1) := by decide +kernel
theorem dX0_isLost_5 : decode cX0_isLost 5 = .ok (.if_icmp .ne 19, 3) := by decide +kernel
theorem dX0_isLost_8 : decode cX0_isLost 8 = .ok (.aload_n 0, 1) := by decide +kernel
theorem dX0_isLost_9 : decode cX0_isLost 9 = .ok (.invokevirtual 55, 3) := by decide +kernel
theorem dX0_isLost_12 : decode cX0_isLost 12 = .ok (.iconst 5, 1) := by decide +kernel
theorem dX0_isLost_13 : decode cX0_isLost 13 = .ok (.if_icmp .lt 7, 3) := by decide +kernel
theorem dX0_isLost_16 : decode cX0_isLost 16 = .ok (.iconst 1, 1) := by decide +kernel
theorem dX0_isLost_17 : decode cX0_isLost 17 = .ok (.goto 19, 3) := by decide +kernel
theorem dX0_isLost_20 : decode cX0_isLost 20 = .ok (.iconst 0, 1) := by decide +kernel
theorem dX0_isLost_21 : decode cX0_isLost 21 = .ok (.goto 15, 3) := by decide +kernel
theorem dX0_isLost_24 : decode cX0_isLost 24 = .ok (.aload_n 0, 1) := by decide +kernel
theorem dX0_isLost_25 : decode cX0_isLost 25 = .ok (.invokevirtual 58, 3) := by decide +kernel
theorem dX0_isLost_28 : decode cX0_isLost 28 = .ok (.ifCond .ne 7, 3) := by decide +kernel
theorem dX0_isLost_31 : decode cX0_isLost 31 = .ok (.iconst 1, 1) := by decide +kernel
theorem dX0_isLost_32 : decode cX0_isLost 32 = .ok (.goto 4, 3) := by decide +kernel
theorem dX0_isLost_35 : decode cX0_isLost 35 = .ok (.iconst 0, 1) := by decide +kernel
theorem dX0_isLost_36 : decode cX0_isLost 36 = .ok (.ireturn, 1) := by decide +kernel
theorem dX0_beginRoundTwo_0 : decode cX0_beginRoundTwo 0 = .ok (.aload_n 0, 1) := by decide +kernel
theorem dX0_beginRoundTwo_1 : decode cX0_beginRoundTwo 1 = .ok (.iconst 2, 1) := by decide +kernel
theorem dX0_beginRoundTwo_2 : decode cX0_beginRoundTwo 2 = .ok (.putfield 15, 3) := by decide +kernel
theorem dX0_beginRoundTwo_5 : decode cX0_beginRoundTwo 5 = .ok (.aload_n 0, 1) := by decide +kernel
theorem dX0_beginRoundTwo_6 : decode cX0_beginRoundTwo 6 = .ok (.iconst 0, 1) := by decide +kernel
theorem dX0_beginRoundTwo_7 : decode cX0_beginRoundTwo 7 = .ok (.putfield 22, 3) := by decide +kernel
theorem dX0_beginRoundTwo_10 : decode cX0_beginRoundTwo 10 = .ok (.aload_n 0, 1) := by decide +kernel
theorem dX0_beginRoundTwo_11 : decode cX0_beginRoundTwo 11 = .ok (.iconst 0, 1) := by decide +kernel
theorem dX0_beginRoundTwo_12 : decode cX0_beginRoundTwo 12 = .ok (.putfield 25, 3) := by decide +kernel
theorem dX0_beginRoundTwo_15 : decode cX0_beginRoundTwo 15 = .ok (.return_, 1) := by decide +kernel
theorem dX1_init_0 : decode cX1_init 0 = .ok (.aload_n 0, 1) := by decide +kernel
theorem dX1_init_1 : decode cX1_init 1 = .ok (.invokespecial 3, 3) := by decide +kernel
theorem dX1_init_4 : decode cX1_init 4 = .ok (.aload_n 0, 1) := by decide +kernel
theorem dX1_init_5 : decode cX1_init 5 = .ok (.iconst 0, 1) := by decide +kernel
theorem dX1_init_6 : decode cX1_init 6 = .ok (.putfield 9, 3) := by decide +kernel
theorem dX1_init_9 : decode cX1_init 9 = .ok (.aload_n 0, 1) := by decide +kernel
theorem dX1_init_10 : decode cX1_init 10 = .ok (.iconst 0, 1) := by decide +kernel
theorem dX1_init_11 : decode cX1_init 11 = .ok (.putfield 15, 3) := by decide +kernel
theorem dX1_init_14 : decode cX1_init 14 = .ok (.aload_n 0, 1) := by decide +kernel
theorem dX1_init_15 : decode cX1_init 15 = .ok (.iconst 0, 1) := by decide +kernel
theorem dX1_init_16 : decode cX1_init 16 = .ok (.putfield 18, 3) := by decide +kernel
theorem dX1_init_19 : decode cX1_init 19 = .ok (.aload_n 0, 1) := by decide +kernel
theorem dX1_init_20 : decode cX1_init 20 = .ok (.aload_n 1, 1) := by decide +kernel
theorem dX1_init_21 : decode cX1_init 21 = .ok (.putfield 22, 3) := by decide +kernel
theorem dX1_init_24 : decode cX1_init 24 = .ok (.aload_n 0, 1) := by decide +kernel
theorem dX1_init_25 : decode cX1_init 25 = .ok (.aload_n 2, 1) := by decide +kernel
theorem dX1_init_26 : decode cX1_init 26 = .ok (.putfield 26, 3) := by decide +kernel
theorem dX1_init_29 : decode cX1_init 29 = .ok (.aload_n 0, 1) := by decide +kernel
theorem dX1_init_30 : decode cX1_init 30 = .ok (.iload_n 3, 1) := by decide +kernel
theorem dX1_init_31 : decode cX1_init 31 = .ok (.putfield 30, 3) := by decide +kernel
theorem dX1_init_34 : decode cX1_init 34 = .ok (.aload_n 0, 1) := by decide +kernel
theorem dX1_init_35 : decode cX1_init 35 = .ok (.aload 4, 2) := by decide +kernel
theorem dX1_init_37 : decode cX1_init 37 = .ok (.putfield 33, 3) := by decide +kernel
theorem dX1_init_40 : decode cX1_init 40 = .ok (.aload_n 0, 1) := by decide +kernel
theorem dX1_init_41 : decode cX1_init 41 = .ok (.iload 5, 2) := by decide +kernel
theorem dX1_init_43 : decode cX1_init 43 = .ok (.putfield 37, 3) := by decide +kernel
theorem dX1_init_46 : decode cX1_init 46 = .ok (.return_, 1) := by decide +kernel
theorem dX1_binds_0 : decode cX1_binds 0 = .ok (.aload_n 0, 1) := by decide +kernel
theorem dX1_binds_1 : decode cX1_binds 1 = .ok (.getfield 15, 3) := by decide +kernel
theorem dX1_binds_4 : decode cX1_binds 4 = .ok (.iconst 2, 1) := by decide +kernel
theorem dX1_binds_5 : decode cX1_binds 5 = .ok (.if_icmp .ne 10, 3) := by decide +kernel
theorem dX1_binds_8 : decode cX1_binds 8 = .ok (.aload_n 0, 1) := by decide +kernel
theorem dX1_binds_9 : decode cX1_binds 9 = .ok (.getfield 9, 3) := by decide +kernel
theorem dX1_binds_12 : decode cX1_binds 12 = .ok (.goto 7, 3) := by decide +kernel
theorem dX1_binds_15 : decode cX1_binds 15 = .ok (.aload_n 0, 1) := by decide +kernel
theorem dX1_binds_16 : decode cX1_binds 16 = .ok (.getfield 30, 3) := by decide +kernel
theorem dX1_binds_19 : decode cX1_binds 19 = .ok (.ireturn, 1) := by decide +kernel
theorem dX1_isOverdue_0 : decode cX1_isOverdue 0 = .ok (.aload_n 0, 1) := by decide +kernel
theorem dX1_isOverdue_1 : decode cX1_isOverdue 1 = .ok (.getfield 15, 3) := by decide +kernel
theorem dX1_isOverdue_4 : decode cX1_isOverdue 4 = .ok (.ifCond .ne 22, 3) := by decide +kernel
theorem dX1_isOverdue_7 : decode cX1_isOverdue 7 = .ok (.aload_n 0, 1) := by decide +kernel
theorem dX1_isOverdue_8 : decode cX1_isOverdue 8 = .ok (.getfield 18, 3) := by decide +kernel
theorem dX1_isOverdue_11 : decode cX1_isOverdue 11 = .ok (.ifCond .ne 15, 3) := by decide +kernel
theorem dX1_isOverdue_14 : decode cX1_isOverdue 14 = .ok (.aload_n 0, 1) := by decide +kernel
theorem dX1_isOverdue_15 : decode cX1_isOverdue 15 = .ok (.getfield 37, 3) := by decide +kernel
theorem dX1_isOverdue_18 : decode cX1_isOverdue 18 = .ok (.iload_n 1, 1) := by decide +kernel
theorem dX1_isOverdue_19 : decode cX1_isOverdue 19 = .ok (.if_icmp .ge 7, 3) := by decide +kernel
theorem dX1_isOverdue_22 : decode cX1_isOverdue 22 = .ok (.iconst 1, 1) := by decide +kernel
theorem dX1_isOverdue_23 : decode cX1_isOverdue 23 = .ok (.goto 4, 3) := by decide +kernel
theorem dX1_isOverdue_26 : decode cX1_isOverdue 26 = .ok (.iconst 0, 1) := by decide +kernel
theorem dX1_isOverdue_27 : decode cX1_isOverdue 27 = .ok (.ireturn, 1) := by decide +kernel
theorem dX1_hangsOnFallen_0 : decode cX1_hangsOnFallen 0 = .ok (.aload_n 0, 1) := by decide +kernel
theorem dX1_hangsOnFallen_1 : decode cX1_hangsOnFallen 1 = .ok (.getfield 33, 3) := by decide +kernel
theorem dX1_hangsOnFallen_4 : decode cX1_hangsOnFallen 4 = .ok (.ifnull 18, 3) := by decide +kernel
theorem dX1_hangsOnFallen_7 : decode cX1_hangsOnFallen 7 = .ok (.aload_n 0, 1) := by decide +kernel
theorem dX1_hangsOnFallen_8 : decode cX1_hangsOnFallen 8 = .ok (.getfield 33, 3) := by decide +kernel
theorem dX1_hangsOnFallen_11 : decode cX1_hangsOnFallen 11 = .ok (.getfield 40, 3) := by decide +kernel
theorem dX1_hangsOnFallen_14 : decode cX1_hangsOnFallen 14 = .ok (.iconst 2, 1) := by decide +kernel
theorem dX1_hangsOnFallen_15 : decode cX1_hangsOnFallen 15 = .ok (.if_icmp .ne 7, 3) := by decide +kernel
theorem dX1_hangsOnFallen_18 : decode cX1_hangsOnFallen 18 = .ok (.iconst 1, 1) := by decide +kernel
theorem dX1_hangsOnFallen_19 : decode cX1_hangsOnFallen 19 = .ok (.goto 4, 3) := by decide +kernel
theorem dX1_hangsOnFallen_22 : decode cX1_hangsOnFallen 22 = .ok (.iconst 0, 1) := by decide +kernel
theorem dX1_hangsOnFallen_23 : decode cX1_hangsOnFallen 23 = .ok (.ireturn, 1) := by decide +kernel
theorem dX1_withdraw_0 : decode cX1_withdraw 0 = .ok (.aload_n 0, 1) := by decide +kernel
theorem dX1_withdraw_1 : decode cX1_withdraw 1 = .ok (.iconst 2, 1) := by decide +kernel
theorem dX1_withdraw_2 : decode cX1_withdraw 2 = .ok (.putfield 15, 3) := by decide +kernel
theorem dX1_withdraw_5 : decode cX1_withdraw 5 = .ok (.aload_n 0, 1) := by decide +kernel
theorem dX1_withdraw_6 : decode cX1_withdraw 6 = .ok (.getfield 26, 3) := by decide +kernel
theorem dX1_withdraw_9 : decode cX1_withdraw 9 = .ok (.dup, 1) := by decide +kernel
theorem dX1_withdraw_10 : decode cX1_withdraw 10 = .ok (.getfield 43, 3) := by decide +kernel
theorem dX1_withdraw_13 : decode cX1_withdraw 13 = .ok (.aload_n 0, 1) := by decide +kernel
theorem dX1_withdraw_14 : decode cX1_withdraw 14 = .ok (.getfield 9, 3) := by decide +kernel
theorem dX1_withdraw_17 : decode cX1_withdraw 17 = .ok (.iadd, 1) := by decide +kernel
theorem dX1_withdraw_18 : decode cX1_withdraw 18 = .ok (.putfield 43, 3) := by decide +kernel
theorem dX1_withdraw_21 : decode cX1_withdraw 21 = .ok (.return_, 1) := by decide +kernel
theorem dX1_cut_0 : decode cX1_cut 0 = .ok (.aload_n 0, 1) := by decide +kernel
theorem dX1_cut_1 : decode cX1_cut 1 = .ok (.iconst 1, 1) := by decide +kernel
theorem dX1_cut_2 : decode cX1_cut 2 = .ok (.putfield 15, 3) := by decide +kernel
theorem dX1_cut_5 : decode cX1_cut 5 = .ok (.aload_n 0, 1) := by decide +kernel
theorem dX1_cut_6 : decode cX1_cut 6 = .ok (.aload_n 0, 1) := by decide +kernel
theorem dX1_cut_7 : decode cX1_cut 7 = .ok (.getfield 9, 3) := by decide +kernel
theorem dX1_cut_10 : decode cX1_cut 10 = .ok (.putfield 30, 3) := by decide +kernel
theorem dX1_cut_13 : decode cX1_cut 13 = .ok (.return_, 1) := by decide +kernel
theorem dX1_clawBack_0 : decode cX1_clawBack 0 = .ok (.aload_n 0, 1) := by decide +kernel
theorem dX1_clawBack_1 : decode cX1_clawBack 1 = .ok (.dup, 1) := by decide +kernel
theorem dX1_clawBack_2 : decode cX1_clawBack 2 = .ok (.getfield 9, 3) := by decide +kernel
theorem dX1_clawBack_5 : decode cX1_clawBack 5 = .ok (.iload_n 1, 1) := by decide +kernel
theorem dX1_clawBack_6 : decode cX1_clawBack 6 = .ok (.isub, 1) := by decide +kernel
theorem dX1_clawBack_7 : decode cX1_clawBack 7 = .ok (.putfield 9, 3) := by decide +kernel
theorem dX1_clawBack_10 : decode cX1_clawBack 10 = .ok (.aload_n 0, 1) := by decide +kernel
theorem dX1_clawBack_11 : decode cX1_clawBack 11 = .ok (.invokevirtual 48, 3) := by decide +kernel
theorem dX1_clawBack_14 : decode cX1_clawBack 14 = .ok (.aload_n 0, 1) := by decide +kernel
theorem dX1_clawBack_15 : decode cX1_clawBack 15 = .ok (.getfield 26, 3) := by decide +kernel
theorem dX1_clawBack_18 : decode cX1_clawBack 18 = .ok (.dup, 1) := by decide +kernel
theorem dX1_clawBack_19 : decode cX1_clawBack 19 = .ok (.getfield 43, 3) := by decide +kernel
theorem dX1_clawBack_22 : decode cX1_clawBack 22 = .ok (.iload_n 1, 1) := by decide +kernel
theorem dX1_clawBack_23 : decode cX1_clawBack 23 = .ok (.iadd, 1) := by decide +kernel
theorem dX1_clawBack_24 : decode cX1_clawBack 24 = .ok (.putfield 43, 3) := by decide +kernel
theorem dX1_clawBack_27 : decode cX1_clawBack 27 = .ok (.aload_n 0, 1) := by decide +kernel
theorem dX1_clawBack_28 : decode cX1_clawBack 28 = .ok (.getfield 22, 3) := by decide +kernel
theorem dX1_clawBack_31 : decode cX1_clawBack 31 = .ok (.dup, 1) := by decide +kernel
theorem dX1_clawBack_32 : decode cX1_clawBack 32 = .ok (.getfield 51, 3) := by decide +kernel
theorem dX1_clawBack_35 : decode cX1_clawBack 35 = .ok (.iload_n 1, 1) := by decide +kernel
theorem dX1_clawBack_36 : decode cX1_clawBack 36 = .ok (.iadd, 1) := by decide +kernel
theorem dX1_clawBack_37 : decode cX1_clawBack 37 = .ok (.putfield 51, 3) := by decide +kernel
theorem dX1_clawBack_40 : decode cX1_clawBack 40 = .ok (.return_, 1) := by decide +kernel
theorem dX2_init_0 : decode cX2_init 0 = .ok (.aload_n 0, 1) := by decide +kernel
theorem dX2_init_1 : decode cX2_init 1 = .ok (.invokespecial 1, 3) := by decide +kernel
theorem dX2_init_4 : decode cX2_init 4 = .ok (.aload_n 0, 1) := by decide +kernel
theorem dX2_init_5 : decode cX2_init 5 = .ok (.iconst 0, 1) := by decide +kernel
theorem dX2_init_6 : decode cX2_init 6 = .ok (.putfield 7, 3) := by decide +kernel
theorem dX2_init_9 : decode cX2_init 9 = .ok (.aload_n 0, 1) := by decide +kernel
theorem dX2_init_10 : decode cX2_init 10 = .ok (.iconst 0, 1) := by decide +kernel
theorem dX2_init_11 : decode cX2_init 11 = .ok (.putfield 13, 3) := by decide +kernel
theorem dX2_init_14 : decode cX2_init 14 = .ok (.aload_n 0, 1) := by decide +kernel
theorem dX2_init_15 : decode cX2_init 15 = .ok (.iconst 0, 1) := by decide +kernel
theorem dX2_init_16 : decode cX2_init 16 = .ok (.putfield 16, 3) := by decide +kernel
theorem dX2_init_19 : decode cX2_init 19 = .ok (.aload_n 0, 1) := by decide +kernel
theorem dX2_init_20 : decode cX2_init 20 = .ok (.iconst 0, 1) := by decide +kernel
theorem dX2_init_21 : decode cX2_init 21 = .ok (.putfield 19, 3) := by decide +kernel
theorem dX2_init_24 : decode cX2_init 24 = .ok (.aload_n 0, 1) := by decide +kernel
theorem dX2_init_25 : decode cX2_init 25 = .ok (.iload_n 1, 1) := by decide +kernel
theorem dX2_init_26 : decode cX2_init 26 = .ok (.putfield 22, 3) := by decide +kernel
theorem dX2_init_29 : decode cX2_init 29 = .ok (.aload_n 0, 1) := by decide +kernel
theorem dX2_init_30 : decode cX2_init 30 = .ok (.aload_n 2, 1) := by decide +kernel
theorem dX2_init_31 : decode cX2_init 31 = .ok (.putfield 25, 3) := by decide +kernel
theorem dX2_init_34 : decode cX2_init 34 = .ok (.aload_n 0, 1) := by decide +kernel
theorem dX2_init_35 : decode cX2_init 35 = .ok (.iload_n 3, 1) := by decide +kernel
theorem dX2_init_36 : decode cX2_init 36 = .ok (.putfield 29, 3) := by decide +kernel
theorem dX2_init_39 : decode cX2_init 39 = .ok (.return_, 1) := by decide +kernel
theorem dX2_stands_0 : decode cX2_stands 0 = .ok (.aload_n 0, 1) := by decide +kernel
theorem dX2_stands_1 : decode cX2_stands 1 = .ok (.aload_n 0, 1) := by decide +kernel
theorem dX2_stands_2 : decode cX2_stands 2 = .ok (.getfield 7, 3) := by decide +kernel
theorem dX2_stands_5 : decode cX2_stands 5 = .ok (.invokevirtual 32, 3) := by decide +kernel
theorem dX2_stands_8 : decode cX2_stands 8 = .ok (.ireturn, 1) := by decide +kernel
theorem dX2_standsWith_0 : decode cX2_standsWith 0 = .ok (.aload_n 0, 1) := by decide +kernel
theorem dX2_standsWith_1 : decode cX2_standsWith 1 = .ok (.getfield 29, 3) := by decide +kernel
theorem dX2_standsWith_4 : decode cX2_standsWith 4 = .ok (.iload_n 1, 1) := by decide +kernel
theorem dX2_standsWith_5 : decode cX2_standsWith 5 = .ok (.iadd, 1) := by decide +kernel
theorem dX2_standsWith_6 : decode cX2_standsWith 6 = .ok (.aload_n 0, 1) := by decide +kernel
theorem dX2_standsWith_7 : decode cX2_standsWith 7 = .ok (.getfield 19, 3) := by decide +kernel
theorem dX2_standsWith_10 : decode cX2_standsWith 10 = .ok (.iadd, 1) := by decide +kernel
theorem dX2_standsWith_11 : decode cX2_standsWith 11 = .ok (.aload_n 0, 1) := by decide +kernel
theorem dX2_standsWith_12 : decode cX2_standsWith 12 = .ok (.getfield 16, 3) := by decide +kernel
theorem dX2_standsWith_15 : decode cX2_standsWith 15 = .ok (.isub, 1) := by decide +kernel
theorem dX2_standsWith_16 : decode cX2_standsWith 16 = .ok (.ireturn, 1) := by decide +kernel
theorem dX3_init_0 : decode cX3_init 0 = .ok (.aload_n 0, 1) := by decide +kernel
theorem dX3_init_1 : decode cX3_init 1 = .ok (.invokespecial 1, 3) := by decide +kernel
theorem dX3_init_4 : decode cX3_init 4 = .ok (.aload_n 0, 1) := by decide +kernel
theorem dX3_init_5 : decode cX3_init 5 = .ok (.iconst 0, 1) := by decide +kernel
theorem dX3_init_6 : decode cX3_init 6 = .ok (.putfield 7, 3) := by decide +kernel
theorem dX3_init_9 : decode cX3_init 9 = .ok (.aload_n 0, 1) := by decide +kernel
theorem dX3_init_10 : decode cX3_init 10 = .ok (.iload_n 1, 1) := by decide +kernel
theorem dX3_init_11 : decode cX3_init 11 = .ok (.putfield 13, 3) := by decide +kernel
theorem dX3_init_14 : decode cX3_init 14 = .ok (.return_, 1) := by decide +kernel
theorem dX4_init_0 : decode cX4_init 0 = .ok (.aload_n 0, 1) := by decide +kernel
theorem dX4_init_1 : decode cX4_init 1 = .ok (.invokespecial 1, 3) := by decide +kernel
theorem dX4_init_4 : decode cX4_init 4 = .ok (.aload_n 0, 1) := by decide +kernel
theorem dX4_init_5 : decode cX4_init 5 = .ok (.iconst 0, 1) := by decide +kernel
theorem dX4_init_6 : decode cX4_init 6 = .ok (.putfield 7, 3) := by decide +kernel
theorem dX4_init_9 : decode cX4_init 9 = .ok (.aload_n 0, 1) := by decide +kernel
theorem dX4_init_10 : decode cX4_init 10 = .ok (.iconst 0, 1) := by decide +kernel
theorem dX4_init_11 : decode cX4_init 11 = .ok (.putfield 13, 3) := by decide +kernel
theorem dX4_init_14 : decode cX4_init 14 = .ok (.aload_n 0, 1) := by decide +kernel
theorem dX4_init_15 : decode cX4_init 15 = .ok (.iload_n 1, 1) := by decide +kernel
theorem dX4_init_16 : decode cX4_init 16 = .ok (.putfield 16, 3) := by decide +kernel
theorem dX4_init_19 : decode cX4_init 19 = .ok (.return_, 1) := by decide +kernel
theorem dX4_unpaid_0 : decode cX4_unpaid 0 = .ok (.aload_n 0, 1) := by decide +kernel
theorem dX4_unpaid_1 : decode cX4_unpaid 1 = .ok (.getfield 7, 3) := by decide +kernel
theorem dX4_unpaid_4 : decode cX4_unpaid 4 = .ok (.aload_n 0, 1) := by decide +kernel
theorem dX4_unpaid_5 : decode cX4_unpaid 5 = .ok (.getfield 13, 3) := by decide +kernel
theorem dX4_unpaid_8 : decode cX4_unpaid 8 = .ok (.isub, 1) := by decide +kernel
theorem dX4_unpaid_9 : decode cX4_unpaid 9 = .ok (.ireturn, 1) := by decide +kernel
theorem dX5_init_0 : decode cX5_init 0 = .ok (.aload_n 0, 1) := by decide +kernel
theorem dX5_init_1 : decode cX5_init 1 = .ok (.invokespecial 1, 3) := by decide +kernel
theorem dX5_init_4 : decode cX5_init 4 = .ok (.aload_n 0, 1) := by decide +kernel
theorem dX5_init_5 : decode cX5_init 5 = .ok (.new 7, 3) := by decide +kernel
theorem dX5_init_8 : decode cX5_init 8 = .ok (.dup, 1) := by decide +kernel
theorem dX5_init_9 : decode cX5_init 9 = .ok (.invokespecial 9, 3) := by decide +kernel
theorem dX5_init_12 : decode cX5_init 12 = .ok (.putfield 10, 3) := by decide +kernel
theorem dX5_init_15 : decode cX5_init 15 = .ok (.aload_n 0, 1) := by decide +kernel
theorem dX5_init_16 : decode cX5_init 16 = .ok (.new 7, 3) := by decide +kernel
theorem dX5_init_19 : decode cX5_init 19 = .ok (.dup, 1) := by decide +kernel
theorem dX5_init_20 : decode cX5_init 20 = .ok (.invokespecial 9, 3) := by decide +kernel
theorem dX5_init_23 : decode cX5_init 23 = .ok (.putfield 16, 3) := by decide +kernel
theorem dX5_init_26 : decode cX5_init 26 = .ok (.aload_n 0, 1) := by decide +kernel
theorem dX5_init_27 : decode cX5_init 27 = .ok (.new 7, 3) := by decide +kernel
theorem dX5_init_30 : decode cX5_init 30 = .ok (.dup, 1) := by decide +kernel
theorem dX5_init_31 : decode cX5_init 31 = .ok (.invokespecial 9, 3) := by decide +kernel
theorem dX5_init_34 : decode cX5_init 34 = .ok (.putfield 19, 3) := by decide +kernel
theorem dX5_init_37 : decode cX5_init 37 = .ok (.aload_n 0, 1) := by decide +kernel
theorem dX5_init_38 : decode cX5_init 38 = .ok (.new 7, 3) := by decide +kernel
theorem dX5_init_41 : decode cX5_init 41 = .ok (.dup, 1) := by decide +kernel
theorem dX5_init_42 : decode cX5_init 42 = .ok (.invokespecial 9, 3) := by decide +kernel
theorem dX5_init_45 : decode cX5_init 45 = .ok (.putfield 22, 3) := by decide +kernel
theorem dX5_init_48 : decode cX5_init 48 = .ok (.aload_n 0, 1) := by decide +kernel
theorem dX5_init_49 : decode cX5_init 49 = .ok (.new 7, 3) := by decide +kernel
theorem dX5_init_52 : decode cX5_init 52 = .ok (.dup, 1) := by decide +kernel
theorem dX5_init_53 : decode cX5_init 53 = .ok (.invokespecial 9, 3) := by decide +kernel
theorem dX5_init_56 : decode cX5_init 56 = .ok (.putfield 25, 3) := by decide +kernel
theorem dX5_init_59 : decode cX5_init 59 = .ok (.aload_n 0, 1) := by decide +kernel
theorem dX5_init_60 : decode cX5_init 60 = .ok (.iconst 0, 1) := by decide +kernel
theorem dX5_init_61 : decode cX5_init 61 = .ok (.putfield 28, 3) := by decide +kernel
theorem dX5_init_64 : decode cX5_init 64 = .ok (.aload_n 0, 1) := by decide +kernel
theorem dX5_init_65 : decode cX5_init 65 = .ok (.iconst 5, 1) := by decide +kernel
theorem dX5_init_66 : decode cX5_init 66 = .ok (.putfield 32, 3) := by decide +kernel
theorem dX5_init_69 : decode cX5_init 69 = .ok (.aload_n 0, 1) := by decide +kernel
theorem dX5_init_70 : decode cX5_init 70 = .ok (.iconst 0, 1) := by decide +kernel
theorem dX5_init_71 : decode cX5_init 71 = .ok (.putfield 35, 3) := by decide +kernel
theorem dX5_init_74 : decode cX5_init 74 = .ok (.iconst 0, 1) := by decide +kernel
theorem dX5_init_75 : decode cX5_init 75 = .ok (.istore_n 1, 1) := by decide +kernel
theorem dX5_init_76 : decode cX5_init 76 = .ok (.iload_n 1, 1) := by decide +kernel
theorem dX5_init_77 : decode cX5_init 77 = .ok (.iconst 4, 1) := by decide +kernel
theorem dX5_init_78 : decode cX5_init 78 = .ok (.if_icmp .ge 25, 3) := by decide +kernel
theorem dX5_init_81 : decode cX5_init 81 = .ok (.aload_n 0, 1) := by decide +kernel
theorem dX5_init_82 : decode cX5_init 82 = .ok (.getfield 10, 3) := by decide +kernel
theorem dX5_init_85 : decode cX5_init 85 = .ok (.new 38, 3) := by decide +kernel
theorem dX5_init_88 : decode cX5_init 88 = .ok (.dup, 1) := by decide +kernel
theorem dX5_init_89 : decode cX5_init 89 = .ok (.iload_n 1, 1) := by decide +kernel
theorem dX5_init_90 : decode cX5_init 90 = .ok (.invokespecial 40, 3) := by decide +kernel
theorem dX5_init_93 : decode cX5_init 93 = .ok (.invokevirtual 43, 3) := by decide +kernel
theorem dX5_init_96 : decode cX5_init 96 = .ok (.pop, 1) := by decide +kernel
theorem dX5_init_97 : decode cX5_init 97 = .ok (.iinc 1 1, 3) := by decide +kernel
theorem dX5_init_100 : decode cX5_init 100 = .ok (.goto (-24), 3) := by decide +kernel
theorem dX5_init_103 : decode cX5_init 103 = .ok (.iconst 0, 1) := by decide +kernel
theorem dX5_init_104 : decode cX5_init 104 = .ok (.istore_n 1, 1) := by decide +kernel
theorem dX5_init_105 : decode cX5_init 105 = .ok (.iload_n 1, 1) := by decide +kernel
theorem dX5_init_106 : decode cX5_init 106 = .ok (.bipush 8, 2) := by decide +kernel
theorem dX5_init_108 : decode cX5_init 108 = .ok (.if_icmp .ge 25, 3) := by decide +kernel
theorem dX5_init_111 : decode cX5_init 111 = .ok (.aload_n 0, 1) := by decide +kernel
theorem dX5_init_112 : decode cX5_init 112 = .ok (.getfield 16, 3) := by decide +kernel
theorem dX5_init_115 : decode cX5_init 115 = .ok (.new 47, 3) := by decide +kernel
theorem dX5_init_118 : decode cX5_init 118 = .ok (.dup, 1) := by decide +kernel
theorem dX5_init_119 : decode cX5_init 119 = .ok (.iload_n 1, 1) := by decide +kernel
theorem dX5_init_120 : decode cX5_init 120 = .ok (.invokespecial 49, 3) := by decide +kernel
theorem dX5_init_123 : decode cX5_init 123 = .ok (.invokevirtual 43, 3) := by decide +kernel
theorem dX5_init_126 : decode cX5_init 126 = .ok (.pop, 1) := by decide +kernel
theorem dX5_init_127 : decode cX5_init 127 = .ok (.iinc 1 1, 3) := by decide +kernel
theorem dX5_init_130 : decode cX5_init 130 = .ok (.goto (-25), 3) := by decide +kernel
theorem dX5_init_133 : decode cX5_init 133 = .ok (.return_, 1) := by decide +kernel
theorem dX5_line_0 : decode cX5_line 0 = .ok (.aload_n 0, 1) := by decide +kernel
theorem dX5_line_1 : decode cX5_line 1 = .ok (.iload_n 1, 1) := by decide +kernel
theorem dX5_line_2 : decode cX5_line 2 = .ok (.invokevirtual 50, 3) := by decide +kernel
theorem dX5_line_5 : decode cX5_line 5 = .ok (.astore_n 3, 1) := by decide +kernel
theorem dX5_line_6 : decode cX5_line 6 = .ok (.iload_n 2, 1) := by decide +kernel
theorem dX5_line_7 : decode cX5_line 7 = .ok (.iconst 0, 1) := by decide +kernel
theorem dX5_line_8 : decode cX5_line 8 = .ok (.ldc 54, 2) := by decide +kernel
theorem dX5_line_10 : decode cX5_line 10 = .ok (.invokestatic 55, 3) := by decide +kernel
theorem dX5_line_13 : decode cX5_line 13 = .ok (.aload_n 0, 1) := by decide +kernel
theorem dX5_line_14 : decode cX5_line 14 = .ok (.getfield 19, 3) := by decide +kernel
theorem dX5_line_17 : decode cX5_line 17 = .ok (.invokevirtual 59, 3) := by decide +kernel
theorem dX5_line_20 : decode cX5_line 20 = .ok (.istore 4, 2) := by decide +kernel
theorem dX5_line_22 : decode cX5_line 22 = .ok (.iload 4, 2) := by decide +kernel
theorem dX5_line_24 : decode cX5_line 24 = .ok (.bipush 10, 2) := by decide +kernel
theorem dX5_line_26 : decode cX5_line 26 = .ok (.if_icmp .lt 13, 3) := by decide +kernel
theorem dX5_line_29 : decode cX5_line 29 = .ok (.new 63, 3) := by decide +kernel
theorem dX5_line_32 : decode cX5_line 32 = .ok (.dup, 1) := by decide +kernel
theorem dX5_line_33 : decode cX5_line 33 = .ok (.ldc 65, 2) := by decide +kernel
theorem dX5_line_35 : decode cX5_line 35 = .ok (.invokespecial 67, 3) := by decide +kernel
theorem dX5_line_38 : decode cX5_line 38 = .ok (.athrow, 1) := by decide +kernel
theorem dX5_line_39 : decode cX5_line 39 = .ok (.aload_n 0, 1) := by decide +kernel
theorem dX5_line_40 : decode cX5_line 40 = .ok (.getfield 19, 3) := by decide +kernel
theorem dX5_line_43 : decode cX5_line 43 = .ok (.new 70, 3) := by decide +kernel
theorem dX5_line_46 : decode cX5_line 46 = .ok (.dup, 1) := by decide +kernel
theorem dX5_line_47 : decode cX5_line 47 = .ok (.iload 4, 2) := by decide +kernel
theorem dX5_line_49 : decode cX5_line 49 = .ok (.aload_n 3, 1) := by decide +kernel
theorem dX5_line_50 : decode cX5_line 50 = .ok (.iload_n 2, 1) := by decide +kernel
theorem dX5_line_51 : decode cX5_line 51 = .ok (.invokespecial 72, 3) := by decide +kernel
theorem dX5_line_54 : decode cX5_line 54 = .ok (.invokevirtual 43, 3) := by decide +kernel
theorem dX5_line_57 : decode cX5_line 57 = .ok (.pop, 1) := by decide +kernel
theorem dX5_line_58 : decode cX5_line 58 = .ok (.iload 4, 2) := by decide +kernel
theorem dX5_line_60 : decode cX5_line 60 = .ok (.ireturn, 1) := by decide +kernel
theorem dX5_income_0 : decode cX5_income 0 = .ok (.aload_n 0, 1) := by decide +kernel
theorem dX5_income_1 : decode cX5_income 1 = .ok (.iload_n 1, 1) := by decide +kernel
theorem dX5_income_2 : decode cX5_income 2 = .ok (.invokevirtual 50, 3) := by decide +kernel
theorem dX5_income_5 : decode cX5_income 5 = .ok (.astore_n 3, 1) := by decide +kernel
theorem dX5_income_6 : decode cX5_income 6 = .ok (.iload_n 2, 1) := by decide +kernel
theorem dX5_income_7 : decode cX5_income 7 = .ok (.iconst 1, 1) := by decide +kernel
theorem dX5_income_8 : decode cX5_income 8 = .ok (.ldc 54, 2) := by decide +kernel
theorem dX5_income_10 : decode cX5_income 10 = .ok (.invokestatic 55, 3) := by decide +kernel
theorem dX5_income_13 : decode cX5_income 13 = .ok (.aload_n 3, 1) := by decide +kernel
theorem dX5_income_14 : decode cX5_income 14 = .ok (.dup, 1) := by decide +kernel
theorem dX5_income_15 : decode cX5_income 15 = .ok (.getfield 75, 3) := by decide +kernel
theorem dX5_income_18 : decode cX5_income 18 = .ok (.iload_n 2, 1) := by decide +kernel
theorem dX5_income_19 : decode cX5_income 19 = .ok (.iadd, 1) := by decide +kernel
theorem dX5_income_20 : decode cX5_income 20 = .ok (.putfield 75, 3) := by decide +kernel
theorem dX5_income_23 : decode cX5_income 23 = .ok (.aload_n 3, 1) := by decide +kernel
theorem dX5_income_24 : decode cX5_income 24 = .ok (.getfield 75, 3) := by decide +kernel
theorem dX5_income_27 : decode cX5_income 27 = .ok (.ireturn, 1) := by decide +kernel
theorem dX5_amend_0 : decode cX5_amend 0 = .ok (.aload_n 0, 1) := by decide +kernel
theorem dX5_amend_1 : decode cX5_amend 1 = .ok (.iload_n 1, 1) := by decide +kernel
theorem dX5_amend_2 : decode cX5_amend 2 = .ok (.invokevirtual 78, 3) := by decide +kernel
theorem dX5_amend_5 : decode cX5_amend 5 = .ok (.astore_n 3, 1) := by decide +kernel
theorem dX5_amend_6 : decode cX5_amend 6 = .ok (.iload_n 2, 1) := by decide +kernel
theorem dX5_amend_7 : decode cX5_amend 7 = .ok (.invokestatic 82, 3) := by decide +kernel
theorem dX5_amend_10 : decode cX5_amend 10 = .ok (.aload_n 0, 1) := by decide +kernel
theorem dX5_amend_11 : decode cX5_amend 11 = .ok (.invokevirtual 85, 3) := by decide +kernel
theorem dX5_amend_14 : decode cX5_amend 14 = .ok (.aload_n 0, 1) := by decide +kernel
theorem dX5_amend_15 : decode cX5_amend 15 = .ok (.aconst_null, 1) := by decide +kernel
theorem dX5_amend_16 : decode cX5_amend 16 = .ok (.aload_n 3, 1) := by decide +kernel
theorem dX5_amend_17 : decode cX5_amend 17 = .ok (.iload_n 2, 1) := by decide +kernel
theorem dX5_amend_18 : decode cX5_amend 18 = .ok (.invokevirtual 88, 3) := by decide +kernel
theorem dX5_amend_21 : decode cX5_amend 21 = .ok (.ireturn, 1) := by decide +kernel
theorem dX5_amendOn_0 : decode cX5_amendOn 0 = .ok (.aload_n 0, 1) := by decide +kernel
theorem dX5_amendOn_1 : decode cX5_amendOn 1 = .ok (.iload_n 1, 1) := by decide +kernel
theorem dX5_amendOn_2 : decode cX5_amendOn 2 = .ok (.invokevirtual 92, 3) := by decide +kernel
theorem dX5_amendOn_5 : decode cX5_amendOn 5 = .ok (.astore_n 3, 1) := by decide +kernel
theorem dX5_amendOn_6 : decode cX5_amendOn 6 = .ok (.iload_n 2, 1) := by decide +kernel
theorem dX5_amendOn_7 : decode cX5_amendOn 7 = .ok (.invokestatic 82, 3) := by decide +kernel
theorem dX5_amendOn_10 : decode cX5_amendOn 10 = .ok (.aload_n 3, 1) := by decide +kernel
theorem dX5_amendOn_11 : decode cX5_amendOn 11 = .ok (.invokestatic 96, 3) := by decide +kernel
theorem dX5_amendOn_14 : decode cX5_amendOn 14 = .ok (.aload_n 0, 1) := by decide +kernel
theorem dX5_amendOn_15 : decode cX5_amendOn 15 = .ok (.invokevirtual 85, 3) := by decide +kernel
theorem dX5_amendOn_18 : decode cX5_amendOn 18 = .ok (.aload_n 0, 1) := by decide +kernel
theorem dX5_amendOn_19 : decode cX5_amendOn 19 = .ok (.aload_n 3, 1) := by decide +kernel
theorem dX5_amendOn_20 : decode cX5_amendOn 20 = .ok (.aload_n 3, 1) := by decide +kernel
theorem dX5_amendOn_21 : decode cX5_amendOn 21 = .ok (.getfield 100, 3) := by decide +kernel
theorem dX5_amendOn_24 : decode cX5_amendOn 24 = .ok (.iload_n 2, 1) := by decide +kernel
theorem dX5_amendOn_25 : decode cX5_amendOn 25 = .ok (.invokevirtual 88, 3) := by decide +kernel
theorem dX5_amendOn_28 : decode cX5_amendOn 28 = .ok (.ireturn, 1) := by decide +kernel
theorem dX5_vote_0 : decode cX5_vote 0 = .ok (.iload_n 1, 1) := by decide +kernel
theorem dX5_vote_1 : decode cX5_vote 1 = .ok (.ifCond .lt 9, 3) := by decide +kernel
theorem dX5_vote_4 : decode cX5_vote 4 = .ok (.iload_n 1, 1) := by decide +kernel
theorem dX5_vote_5 : decode cX5_vote 5 = .ok (.bipush 9, 2) := by decide +kernel
theorem dX5_vote_7 : decode cX5_vote 7 = .ok (.if_icmp .lt 13, 3) := by decide +kernel
theorem dX5_vote_10 : decode cX5_vote 10 = .ok (.new 106, 3) := by decide +kernel
theorem dX5_vote_13 : decode cX5_vote 13 = .ok (.dup, 1) := by decide +kernel
theorem dX5_vote_14 : decode cX5_vote 14 = .ok (.ldc 108, 2) := by decide +kernel
theorem dX5_vote_16 : decode cX5_vote 16 = .ok (.invokespecial 110, 3) := by decide +kernel
theorem dX5_vote_19 : decode cX5_vote 19 = .ok (.athrow, 1) := by decide +kernel
theorem dX5_vote_20 : decode cX5_vote 20 = .ok (.aload_n 0, 1) := by decide +kernel
theorem dX5_vote_21 : decode cX5_vote 21 = .ok (.iload_n 2, 1) := by decide +kernel
theorem dX5_vote_22 : decode cX5_vote 22 = .ok (.invokevirtual 92, 3) := by decide +kernel
theorem dX5_vote_25 : decode cX5_vote 25 = .ok (.astore 4, 2) := by decide +kernel
theorem dX5_vote_27 : decode cX5_vote 27 = .ok (.aload 4, 2) := by decide +kernel
theorem dX5_vote_29 : decode cX5_vote 29 = .ok (.invokestatic 96, 3) := by decide +kernel
theorem dX5_vote_32 : decode cX5_vote 32 = .ok (.aload 4, 2) := by decide +kernel
theorem dX5_vote_34 : decode cX5_vote 34 = .ok (.iload_n 1, 1) := by decide +kernel
theorem dX5_vote_35 : decode cX5_vote 35 = .ok (.iload_n 3, 1) := by decide +kernel
theorem dX5_vote_36 : decode cX5_vote 36 = .ok (.invokevirtual 111, 3) := by decide +kernel
theorem dX5_vote_39 : decode cX5_vote 39 = .ok (.aload 4, 2) := by decide +kernel
theorem dX5_vote_41 : decode cX5_vote 41 = .ok (.invokevirtual 115, 3) := by decide +kernel
theorem dX5_vote_44 : decode cX5_vote 44 = .ok (.ireturn, 1) := by decide +kernel
theorem dX5_decide_0 : decode cX5_decide 0 = .ok (.aload_n 0, 1) := by decide +kernel
theorem dX5_decide_1 : decode cX5_decide 1 = .ok (.iload_n 1, 1) := by decide +kernel
theorem dX5_decide_2 : decode cX5_decide 2 = .ok (.invokevirtual 92, 3) := by decide +kernel
theorem dX5_decide_5 : decode cX5_decide 5 = .ok (.astore_n 2, 1) := by decide +kernel
theorem dX5_decide_6 : decode cX5_decide 6 = .ok (.aload_n 2, 1) := by decide +kernel
theorem dX5_decide_7 : decode cX5_decide 7 = .ok (.invokestatic 96, 3) := by decide +kernel
theorem dX5_decide_10 : decode cX5_decide 10 = .ok (.aload_n 0, 1) := by decide +kernel
theorem dX5_decide_11 : decode cX5_decide 11 = .ok (.aload_n 2, 1) := by decide +kernel
theorem dX5_decide_12 : decode cX5_decide 12 = .ok (.invokevirtual 118, 3) := by decide +kernel
theorem dX5_decide_15 : decode cX5_decide 15 = .ok (.ifCond .eq 13, 3) := by decide +kernel
theorem dX5_decide_18 : decode cX5_decide 18 = .ok (.new 63, 3) := by decide +kernel
theorem dX5_decide_21 : decode cX5_decide 21 = .ok (.dup, 1) := by decide +kernel
theorem dX5_decide_22 : decode cX5_decide 22 = .ok (.ldc 122, 2) := by decide +kernel
theorem dX5_decide_24 : decode cX5_decide 24 = .ok (.invokespecial 67, 3) := by decide +kernel
theorem dX5_decide_27 : decode cX5_decide 27 = .ok (.athrow, 1) := by decide +kernel
theorem dX5_decide_28 : decode cX5_decide 28 = .ok (.aload_n 2, 1) := by decide +kernel
theorem dX5_decide_29 : decode cX5_decide 29 = .ok (.invokevirtual 124, 3) := by decide +kernel
theorem dX5_decide_32 : decode cX5_decide 32 = .ok (.ifCond .eq 11, 3) := by decide +kernel
theorem dX5_decide_35 : decode cX5_decide 35 = .ok (.aload_n 0, 1) := by decide +kernel
theorem dX5_decide_36 : decode cX5_decide 36 = .ok (.aload_n 2, 1) := by decide +kernel
theorem dX5_decide_37 : decode cX5_decide 37 = .ok (.invokevirtual 128, 3) := by decide +kernel
theorem dX5_decide_40 : decode cX5_decide 40 = .ok (.goto 23, 3) := by decide +kernel
theorem dX5_decide_43 : decode cX5_decide 43 = .ok (.aload_n 2, 1) := by decide +kernel
theorem dX5_decide_44 : decode cX5_decide 44 = .ok (.invokevirtual 131, 3) := by decide +kernel
theorem dX5_decide_47 : decode cX5_decide 47 = .ok (.ifCond .eq 12, 3) := by decide +kernel
theorem dX5_decide_50 : decode cX5_decide 50 = .ok (.aload_n 0, 1) := by decide +kernel
theorem dX5_decide_51 : decode cX5_decide 51 = .ok (.aload_n 2, 1) := by decide +kernel
theorem dX5_decide_52 : decode cX5_decide 52 = .ok (.invokevirtual 134, 3) := by decide +kernel
theorem dX5_decide_55 : decode cX5_decide 55 = .ok (.pop, 1) := by decide +kernel
theorem dX5_decide_56 : decode cX5_decide 56 = .ok (.goto 7, 3) := by decide +kernel
theorem dX5_decide_59 : decode cX5_decide 59 = .ok (.aload_n 2, 1) := by decide +kernel
theorem dX5_decide_60 : decode cX5_decide 60 = .ok (.invokevirtual 138, 3) := by decide +kernel
theorem dX5_decide_63 : decode cX5_decide 63 = .ok (.aload_n 2, 1) := by decide +kernel
theorem dX5_decide_64 : decode cX5_decide 64 = .ok (.getfield 141, 3) := by decide +kernel
theorem dX5_decide_67 : decode cX5_decide 67 = .ok (.ireturn, 1) := by decide +kernel
theorem dX5_strike_0 : decode cX5_strike 0 = .ok (.aload_n 0, 1) := by decide +kernel
theorem dX5_strike_1 : decode cX5_strike 1 = .ok (.iload_n 1, 1) := by decide +kernel
theorem dX5_strike_2 : decode cX5_strike 2 = .ok (.invokevirtual 92, 3) := by decide +kernel
theorem dX5_strike_5 : decode cX5_strike 5 = .ok (.astore_n 2, 1) := by decide +kernel
theorem dX5_strike_6 : decode cX5_strike 6 = .ok (.aload_n 2, 1) := by decide +kernel
theorem dX5_strike_7 : decode cX5_strike 7 = .ok (.invokestatic 144, 3) := by decide +kernel
theorem dX5_strike_10 : decode cX5_strike 10 = .ok (.aload_n 2, 1) := by decide +kernel
theorem dX5_strike_11 : decode cX5_strike 11 = .ok (.iconst 1, 1) := by decide +kernel
theorem dX5_strike_12 : decode cX5_strike 12 = .ok (.putfield 147, 3) := by decide +kernel
theorem dX5_strike_15 : decode cX5_strike 15 = .ok (.aload_n 0, 1) := by decide +kernel
theorem dX5_strike_16 : decode cX5_strike 16 = .ok (.aload_n 2, 1) := by decide +kernel
theorem dX5_strike_17 : decode cX5_strike 17 = .ok (.invokevirtual 134, 3) := by decide +kernel
theorem dX5_strike_20 : decode cX5_strike 20 = .ok (.ireturn, 1) := by decide +kernel
theorem dX5_grant_0 : decode cX5_grant 0 = .ok (.aload_n 0, 1) := by decide +kernel
theorem dX5_grant_1 : decode cX5_grant 1 = .ok (.iload_n 1, 1) := by decide +kernel
theorem dX5_grant_2 : decode cX5_grant 2 = .ok (.invokevirtual 78, 3) := by decide +kernel
theorem dX5_grant_5 : decode cX5_grant 5 = .ok (.astore 6, 2) := by decide +kernel
theorem dX5_grant_7 : decode cX5_grant 7 = .ok (.aload_n 0, 1) := by decide +kernel
theorem dX5_grant_8 : decode cX5_grant 8 = .ok (.iload_n 2, 1) := by decide +kernel
theorem dX5_grant_9 : decode cX5_grant 9 = .ok (.invokevirtual 151, 3) := by decide +kernel
theorem dX5_grant_12 : decode cX5_grant 12 = .ok (.astore 7, 2) := by decide +kernel
theorem dX5_grant_14 : decode cX5_grant 14 = .ok (.iload 4, 2) := by decide +kernel
theorem dX5_grant_16 : decode cX5_grant 16 = .ok (.iconst (-1), 1) := by decide +kernel
theorem dX5_grant_17 : decode cX5_grant 17 = .ok (.if_icmp .ne 7, 3) := by decide +kernel
theorem dX5_grant_20 : decode cX5_grant 20 = .ok (.aconst_null, 1) := by decide +kernel
theorem dX5_grant_21 : decode cX5_grant 21 = .ok (.goto 9, 3) := by decide +kernel
theorem dX5_grant_24 : decode cX5_grant 24 = .ok (.aload_n 0, 1) := by decide +kernel
theorem dX5_grant_25 : decode cX5_grant 25 = .ok (.iload 4, 2) := by decide +kernel
theorem dX5_grant_27 : decode cX5_grant 27 = .ok (.invokevirtual 92, 3) := by decide +kernel
theorem dX5_grant_30 : decode cX5_grant 30 = .ok (.astore 8, 2) := by decide +kernel
theorem dX5_grant_32 : decode cX5_grant 32 = .ok (.iload_n 3, 1) := by decide +kernel
theorem dX5_grant_33 : decode cX5_grant 33 = .ok (.iconst 1, 1) := by decide +kernel
theorem dX5_grant_34 : decode cX5_grant 34 = .ok (.ldc 155, 2) := by decide +kernel
theorem dX5_grant_36 : decode cX5_grant 36 = .ok (.invokestatic 55, 3) := by decide +kernel
theorem dX5_grant_39 : decode cX5_grant 39 = .ok (.iload 5, 2) := by decide +kernel
theorem dX5_grant_41 : decode cX5_grant 41 = .ok (.iconst 0, 1) := by decide +kernel
theorem dX5_grant_42 : decode cX5_grant 42 = .ok (.bipush 60, 2) := by decide +kernel
theorem dX5_grant_44 : decode cX5_grant 44 = .ok (.invokestatic 55, 3) := by decide +kernel
theorem dX5_grant_47 : decode cX5_grant 47 = .ok (.aload_n 0, 1) := by decide +kernel
theorem dX5_grant_48 : decode cX5_grant 48 = .ok (.getfield 25, 3) := by decide +kernel
theorem dX5_grant_51 : decode cX5_grant 51 = .ok (.invokevirtual 59, 3) := by decide +kernel
theorem dX5_grant_54 : decode cX5_grant 54 = .ok (.istore 9, 2) := by decide +kernel
theorem dX5_grant_56 : decode cX5_grant 56 = .ok (.iload 9, 2) := by decide +kernel
theorem dX5_grant_58 : decode cX5_grant 58 = .ok (.bipush 40, 2) := by decide +kernel
theorem dX5_grant_60 : decode cX5_grant 60 = .ok (.if_icmp .lt 13, 3) := by decide +kernel
theorem dX5_grant_63 : decode cX5_grant 63 = .ok (.new 63, 3) := by decide +kernel
theorem dX5_grant_66 : decode cX5_grant 66 = .ok (.dup, 1) := by decide +kernel
theorem dX5_grant_67 : decode cX5_grant 67 = .ok (.ldc 156, 2) := by decide +kernel
theorem dX5_grant_69 : decode cX5_grant 69 = .ok (.invokespecial 67, 3) := by decide +kernel
theorem dX5_grant_72 : decode cX5_grant 72 = .ok (.athrow, 1) := by decide +kernel
theorem dX5_grant_73 : decode cX5_grant 73 = .ok (.aload_n 0, 1) := by decide +kernel
theorem dX5_grant_74 : decode cX5_grant 74 = .ok (.aload 6, 2) := by decide +kernel
theorem dX5_grant_76 : decode cX5_grant 76 = .ok (.iload_n 3, 1) := by decide +kernel
theorem dX5_grant_77 : decode cX5_grant 77 = .ok (.invokevirtual 158, 3) := by decide +kernel
theorem dX5_grant_80 : decode cX5_grant 80 = .ok (.aload 8, 2) := by decide +kernel
theorem dX5_grant_82 : decode cX5_grant 82 = .ok (.ifnull 8, 3) := by decide +kernel
theorem dX5_grant_85 : decode cX5_grant 85 = .ok (.aload 8, 2) := by decide +kernel
theorem dX5_grant_87 : decode cX5_grant 87 = .ok (.invokestatic 144, 3) := by decide +kernel
theorem dX5_grant_90 : decode cX5_grant 90 = .ok (.aload_n 0, 1) := by decide +kernel
theorem dX5_grant_91 : decode cX5_grant 91 = .ok (.getfield 25, 3) := by decide +kernel
theorem dX5_grant_94 : decode cX5_grant 94 = .ok (.new 162, 3) := by decide +kernel
theorem dX5_grant_97 : decode cX5_grant 97 = .ok (.dup, 1) := by decide +kernel
theorem dX5_grant_98 : decode cX5_grant 98 = .ok (.aload 6, 2) := by decide +kernel
theorem dX5_grant_100 : decode cX5_grant 100 = .ok (.aload 7, 2) := by decide +kernel
theorem dX5_grant_102 : decode cX5_grant 102 = .ok (.iload_n 3, 1) := by decide +kernel
theorem dX5_grant_103 : decode cX5_grant 103 = .ok (.aload 8, 2) := by decide +kernel
theorem dX5_grant_105 : decode cX5_grant 105 = .ok (.aload_n 0, 1) := by decide +kernel
theorem dX5_grant_106 : decode cX5_grant 106 = .ok (.getfield 35, 3) := by decide +kernel
theorem dX5_grant_109 : decode cX5_grant 109 = .ok (.iload 5, 2) := by decide +kernel
theorem dX5_grant_111 : decode cX5_grant 111 = .ok (.iadd, 1) := by decide +kernel
theorem dX5_grant_112 : decode cX5_grant 112 = .ok (.invokespecial 164, 3) := by decide +kernel
theorem dX5_grant_115 : decode cX5_grant 115 = .ok (.invokevirtual 43, 3) := by decide +kernel
theorem dX5_grant_118 : decode cX5_grant 118 = .ok (.pop, 1) := by decide +kernel
theorem dX5_grant_119 : decode cX5_grant 119 = .ok (.iload 9, 2) := by decide +kernel
theorem dX5_grant_121 : decode cX5_grant 121 = .ok (.ireturn, 1) := by decide +kernel
theorem dX5_pay_0 : decode cX5_pay 0 = .ok (.aload_n 0, 1) := by decide +kernel
theorem dX5_pay_1 : decode cX5_pay 1 = .ok (.iload_n 1, 1) := by decide +kernel
theorem dX5_pay_2 : decode cX5_pay 2 = .ok (.invokevirtual 167, 3) := by decide +kernel
theorem dX5_pay_5 : decode cX5_pay 5 = .ok (.astore_n 3, 1) := by decide +kernel
theorem dX5_pay_6 : decode cX5_pay 6 = .ok (.iload_n 2, 1) := by decide +kernel
theorem dX5_pay_7 : decode cX5_pay 7 = .ok (.iconst 1, 1) := by decide +kernel
theorem dX5_pay_8 : decode cX5_pay 8 = .ok (.ldc 155, 2) := by decide +kernel
theorem dX5_pay_10 : decode cX5_pay 10 = .ok (.invokestatic 55, 3) := by decide +kernel
theorem dX5_pay_13 : decode cX5_pay 13 = .ok (.aload_n 3, 1) := by decide +kernel
theorem dX5_pay_14 : decode cX5_pay 14 = .ok (.getfield 171, 3) := by decide +kernel
theorem dX5_pay_17 : decode cX5_pay 17 = .ok (.ifCond .eq 13, 3) := by decide +kernel
theorem dX5_pay_20 : decode cX5_pay 20 = .ok (.new 63, 3) := by decide +kernel
theorem dX5_pay_23 : decode cX5_pay 23 = .ok (.dup, 1) := by decide +kernel
theorem dX5_pay_24 : decode cX5_pay 24 = .ok (.ldc 172, 2) := by decide +kernel
theorem dX5_pay_26 : decode cX5_pay 26 = .ok (.invokespecial 67, 3) := by decide +kernel
theorem dX5_pay_29 : decode cX5_pay 29 = .ok (.athrow, 1) := by decide +kernel
theorem dX5_pay_30 : decode cX5_pay 30 = .ok (.iload_n 2, 1) := by decide +kernel
theorem dX5_pay_31 : decode cX5_pay 31 = .ok (.aload_n 3, 1) := by decide +kernel
theorem dX5_pay_32 : decode cX5_pay 32 = .ok (.getfield 174, 3) := by decide +kernel
theorem dX5_pay_35 : decode cX5_pay 35 = .ok (.aload_n 3, 1) := by decide +kernel
theorem dX5_pay_36 : decode cX5_pay 36 = .ok (.getfield 177, 3) := by decide +kernel
theorem dX5_pay_39 : decode cX5_pay 39 = .ok (.isub, 1) := by decide +kernel
theorem dX5_pay_40 : decode cX5_pay 40 = .ok (.if_icmp .le 13, 3) := by decide +kernel
theorem dX5_pay_43 : decode cX5_pay 43 = .ok (.new 63, 3) := by decide +kernel
theorem dX5_pay_46 : decode cX5_pay 46 = .ok (.dup, 1) := by decide +kernel
theorem dX5_pay_47 : decode cX5_pay 47 = .ok (.ldc 180, 2) := by decide +kernel
theorem dX5_pay_49 : decode cX5_pay 49 = .ok (.invokespecial 67, 3) := by decide +kernel
theorem dX5_pay_52 : decode cX5_pay 52 = .ok (.athrow, 1) := by decide +kernel
theorem dX5_pay_53 : decode cX5_pay 53 = .ok (.aload_n 3, 1) := by decide +kernel
theorem dX5_pay_54 : decode cX5_pay 54 = .ok (.getfield 182, 3) := by decide +kernel
theorem dX5_pay_57 : decode cX5_pay 57 = .ok (.getfield 183, 3) := by decide +kernel
theorem dX5_pay_60 : decode cX5_pay 60 = .ok (.iload_n 2, 1) := by decide +kernel
theorem dX5_pay_61 : decode cX5_pay 61 = .ok (.invokestatic 187, 3) := by decide +kernel
theorem dX5_pay_64 : decode cX5_pay 64 = .ok (.aload_n 3, 1) := by decide +kernel
theorem dX5_pay_65 : decode cX5_pay 65 = .ok (.dup, 1) := by decide +kernel
theorem dX5_pay_66 : decode cX5_pay 66 = .ok (.getfield 177, 3) := by decide +kernel
theorem dX5_pay_69 : decode cX5_pay 69 = .ok (.iload_n 2, 1) := by decide +kernel
theorem dX5_pay_70 : decode cX5_pay 70 = .ok (.iadd, 1) := by decide +kernel
theorem dX5_pay_71 : decode cX5_pay 71 = .ok (.putfield 177, 3) := by decide +kernel
theorem dX5_pay_74 : decode cX5_pay 74 = .ok (.aload_n 3, 1) := by decide +kernel
theorem dX5_pay_75 : decode cX5_pay 75 = .ok (.getfield 177, 3) := by decide +kernel
theorem dX5_pay_78 : decode cX5_pay 78 = .ok (.ireturn, 1) := by decide +kernel
theorem dX5_report_0 : decode cX5_report 0 = .ok (.aload_n 0, 1) := by decide +kernel
theorem dX5_report_1 : decode cX5_report 1 = .ok (.iload_n 1, 1) := by decide +kernel
theorem dX5_report_2 : decode cX5_report 2 = .ok (.invokevirtual 167, 3) := by decide +kernel
theorem dX5_report_5 : decode cX5_report 5 = .ok (.astore_n 2, 1) := by decide +kernel
theorem dX5_report_6 : decode cX5_report 6 = .ok (.aload_n 2, 1) := by decide +kernel
theorem dX5_report_7 : decode cX5_report 7 = .ok (.invokestatic 191, 3) := by decide +kernel
theorem dX5_report_10 : decode cX5_report 10 = .ok (.aload_n 2, 1) := by decide +kernel
theorem dX5_report_11 : decode cX5_report 11 = .ok (.getfield 195, 3) := by decide +kernel
theorem dX5_report_14 : decode cX5_report 14 = .ok (.ifCond .ne 7, 3) := by decide +kernel
theorem dX5_report_17 : decode cX5_report 17 = .ok (.iconst 1, 1) := by decide +kernel
theorem dX5_report_18 : decode cX5_report 18 = .ok (.goto 4, 3) := by decide +kernel
theorem dX5_report_21 : decode cX5_report 21 = .ok (.iconst 0, 1) := by decide +kernel
theorem dX5_report_22 : decode cX5_report 22 = .ok (.istore_n 3, 1) := by decide +kernel
theorem dX5_report_23 : decode cX5_report 23 = .ok (.aload_n 2, 1) := by decide +kernel
theorem dX5_report_24 : decode cX5_report 24 = .ok (.iconst 1, 1) := by decide +kernel
theorem dX5_report_25 : decode cX5_report 25 = .ok (.putfield 195, 3) := by decide +kernel
theorem dX5_report_28 : decode cX5_report 28 = .ok (.iload_n 3, 1) := by decide +kernel
theorem dX5_report_29 : decode cX5_report 29 = .ok (.ireturn, 1) := by decide +kernel
theorem dX5_spend_0 : decode cX5_spend 0 = .ok (.aload_n 0, 1) := by decide +kernel
theorem dX5_spend_1 : decode cX5_spend 1 = .ok (.iload_n 1, 1) := by decide +kernel
theorem dX5_spend_2 : decode cX5_spend 2 = .ok (.invokevirtual 78, 3) := by decide +kernel
theorem dX5_spend_5 : decode cX5_spend 5 = .ok (.astore_n 3, 1) := by decide +kernel
theorem dX5_spend_6 : decode cX5_spend 6 = .ok (.iload_n 2, 1) := by decide +kernel
theorem dX5_spend_7 : decode cX5_spend 7 = .ok (.iconst 1, 1) := by decide +kernel
theorem dX5_spend_8 : decode cX5_spend 8 = .ok (.ldc 155, 2) := by decide +kernel
theorem dX5_spend_10 : decode cX5_spend 10 = .ok (.invokestatic 55, 3) := by decide +kernel
theorem dX5_spend_13 : decode cX5_spend 13 = .ok (.aload_n 0, 1) := by decide +kernel
theorem dX5_spend_14 : decode cX5_spend 14 = .ok (.aload_n 3, 1) := by decide +kernel
theorem dX5_spend_15 : decode cX5_spend 15 = .ok (.iload_n 2, 1) := by decide +kernel
theorem dX5_spend_16 : decode cX5_spend 16 = .ok (.invokevirtual 158, 3) := by decide +kernel
theorem dX5_spend_19 : decode cX5_spend 19 = .ok (.aload_n 3, 1) := by decide +kernel
theorem dX5_spend_20 : decode cX5_spend 20 = .ok (.getfield 183, 3) := by decide +kernel
theorem dX5_spend_23 : decode cX5_spend 23 = .ok (.iload_n 2, 1) := by decide +kernel
theorem dX5_spend_24 : decode cX5_spend 24 = .ok (.invokestatic 187, 3) := by decide +kernel
theorem dX5_spend_27 : decode cX5_spend 27 = .ok (.aload_n 3, 1) := by decide +kernel
theorem dX5_spend_28 : decode cX5_spend 28 = .ok (.dup, 1) := by decide +kernel
theorem dX5_spend_29 : decode cX5_spend 29 = .ok (.getfield 198, 3) := by decide +kernel
theorem dX5_spend_32 : decode cX5_spend 32 = .ok (.iload_n 2, 1) := by decide +kernel
theorem dX5_spend_33 : decode cX5_spend 33 = .ok (.iadd, 1) := by decide +kernel
theorem dX5_spend_34 : decode cX5_spend 34 = .ok (.putfield 198, 3) := by decide +kernel
theorem dX5_spend_37 : decode cX5_spend 37 = .ok (.aload_n 0, 1) := by decide +kernel
theorem dX5_spend_38 : decode cX5_spend 38 = .ok (.aload_n 3, 1) := by decide +kernel
theorem dX5_spend_39 : decode cX5_spend 39 = .ok (.invokevirtual 201, 3) := by decide +kernel
theorem dX5_spend_42 : decode cX5_spend 42 = .ok (.ireturn, 1) := by decide +kernel
theorem dX5_audit_0 : decode cX5_audit 0 = .ok (.aload_n 0, 1) := by decide +kernel
theorem dX5_audit_1 : decode cX5_audit 1 = .ok (.iload_n 1, 1) := by decide +kernel
theorem dX5_audit_2 : decode cX5_audit 2 = .ok (.invokevirtual 167, 3) := by decide +kernel
theorem dX5_audit_5 : decode cX5_audit 5 = .ok (.astore_n 3, 1) := by decide +kernel
theorem dX5_audit_6 : decode cX5_audit 6 = .ok (.iload_n 2, 1) := by decide +kernel
theorem dX5_audit_7 : decode cX5_audit 7 = .ok (.iconst 1, 1) := by decide +kernel
theorem dX5_audit_8 : decode cX5_audit 8 = .ok (.ldc 155, 2) := by decide +kernel
theorem dX5_audit_10 : decode cX5_audit 10 = .ok (.invokestatic 55, 3) := by decide +kernel
theorem dX5_audit_13 : decode cX5_audit 13 = .ok (.aload_n 3, 1) := by decide +kernel
theorem dX5_audit_14 : decode cX5_audit 14 = .ok (.invokestatic 191, 3) := by decide +kernel
theorem dX5_audit_17 : decode cX5_audit 17 = .ok (.aload_n 3, 1) := by decide +kernel
theorem dX5_audit_18 : decode cX5_audit 18 = .ok (.getfield 177, 3) := by decide +kernel
theorem dX5_audit_21 : decode cX5_audit 21 = .ok (.iload_n 2, 1) := by decide +kernel
theorem dX5_audit_22 : decode cX5_audit 22 = .ok (.if_icmp .ge 13, 3) := by decide +kernel
theorem dX5_audit_25 : decode cX5_audit 25 = .ok (.new 63, 3) := by decide +kernel
theorem dX5_audit_28 : decode cX5_audit 28 = .ok (.dup, 1) := by decide +kernel
theorem dX5_audit_29 : decode cX5_audit 29 = .ok (.ldc 205, 2) := by decide +kernel
theorem dX5_audit_31 : decode cX5_audit 31 = .ok (.invokespecial 67, 3) := by decide +kernel
theorem dX5_audit_34 : decode cX5_audit 34 = .ok (.athrow, 1) := by decide +kernel
theorem dX5_audit_35 : decode cX5_audit 35 = .ok (.aload_n 3, 1) := by decide +kernel
theorem dX5_audit_36 : decode cX5_audit 36 = .ok (.iload_n 2, 1) := by decide +kernel
theorem dX5_audit_37 : decode cX5_audit 37 = .ok (.invokevirtual 207, 3) := by decide +kernel
theorem dX5_audit_40 : decode cX5_audit 40 = .ok (.aload_n 3, 1) := by decide +kernel
theorem dX5_audit_41 : decode cX5_audit 41 = .ok (.getfield 177, 3) := by decide +kernel
theorem dX5_audit_44 : decode cX5_audit 44 = .ok (.ireturn, 1) := by decide +kernel
theorem dX5_repay_0 : decode cX5_repay 0 = .ok (.aload_n 0, 1) := by decide +kernel
theorem dX5_repay_1 : decode cX5_repay 1 = .ok (.iload_n 1, 1) := by decide +kernel
theorem dX5_repay_2 : decode cX5_repay 2 = .ok (.invokevirtual 151, 3) := by decide +kernel
theorem dX5_repay_5 : decode cX5_repay 5 = .ok (.astore_n 3, 1) := by decide +kernel
theorem dX5_repay_6 : decode cX5_repay 6 = .ok (.iload_n 2, 1) := by decide +kernel
theorem dX5_repay_7 : decode cX5_repay 7 = .ok (.iconst 1, 1) := by decide +kernel
theorem dX5_repay_8 : decode cX5_repay 8 = .ok (.ldc 155, 2) := by decide +kernel
theorem dX5_repay_10 : decode cX5_repay 10 = .ok (.invokestatic 55, 3) := by decide +kernel
theorem dX5_repay_13 : decode cX5_repay 13 = .ok (.aload_n 3, 1) := by decide +kernel
theorem dX5_repay_14 : decode cX5_repay 14 = .ok (.getfield 210, 3) := by decide +kernel
theorem dX5_repay_17 : decode cX5_repay 17 = .ok (.iload_n 2, 1) := by decide +kernel
theorem dX5_repay_18 : decode cX5_repay 18 = .ok (.if_icmp .ge 13, 3) := by decide +kernel
theorem dX5_repay_21 : decode cX5_repay 21 = .ok (.new 63, 3) := by decide +kernel
theorem dX5_repay_24 : decode cX5_repay 24 = .ok (.dup, 1) := by decide +kernel
theorem dX5_repay_25 : decode cX5_repay 25 = .ok (.ldc 213, 2) := by decide +kernel
theorem dX5_repay_27 : decode cX5_repay 27 = .ok (.invokespecial 67, 3) := by decide +kernel
theorem dX5_repay_30 : decode cX5_repay 30 = .ok (.athrow, 1) := by decide +kernel
theorem dX5_repay_31 : decode cX5_repay 31 = .ok (.aload_n 3, 1) := by decide +kernel
theorem dX5_repay_32 : decode cX5_repay 32 = .ok (.dup, 1) := by decide +kernel
theorem dX5_repay_33 : decode cX5_repay 33 = .ok (.getfield 210, 3) := by decide +kernel
theorem dX5_repay_36 : decode cX5_repay 36 = .ok (.iload_n 2, 1) := by decide +kernel
theorem dX5_repay_37 : decode cX5_repay 37 = .ok (.isub, 1) := by decide +kernel
theorem dX5_repay_38 : decode cX5_repay 38 = .ok (.putfield 210, 3) := by decide +kernel
theorem dX5_repay_41 : decode cX5_repay 41 = .ok (.aload_n 0, 1) := by decide +kernel
theorem dX5_repay_42 : decode cX5_repay 42 = .ok (.dup, 1) := by decide +kernel
theorem dX5_repay_43 : decode cX5_repay 43 = .ok (.getfield 28, 3) := by decide +kernel
theorem dX5_repay_46 : decode cX5_repay 46 = .ok (.iload_n 2, 1) := by decide +kernel
theorem dX5_repay_47 : decode cX5_repay 47 = .ok (.iadd, 1) := by decide +kernel
theorem dX5_repay_48 : decode cX5_repay 48 = .ok (.putfield 28, 3) := by decide +kernel
theorem dX5_repay_51 : decode cX5_repay 51 = .ok (.aload_n 3, 1) := by decide +kernel
theorem dX5_repay_52 : decode cX5_repay 52 = .ok (.getfield 210, 3) := by decide +kernel
theorem dX5_repay_55 : decode cX5_repay 55 = .ok (.ireturn, 1) := by decide +kernel
theorem dX5_target_0 : decode cX5_target 0 = .ok (.iload_n 1, 1) := by decide +kernel
theorem dX5_target_1 : decode cX5_target 1 = .ok (.iconst 0, 1) := by decide +kernel
theorem dX5_target_2 : decode cX5_target 2 = .ok (.bipush 50, 2) := by decide +kernel
theorem dX5_target_4 : decode cX5_target 4 = .ok (.invokestatic 55, 3) := by decide +kernel
theorem dX5_target_7 : decode cX5_target 7 = .ok (.aload_n 0, 1) := by decide +kernel
theorem dX5_target_8 : decode cX5_target 8 = .ok (.getfield 32, 3) := by decide +kernel
theorem dX5_target_11 : decode cX5_target 11 = .ok (.istore_n 2, 1) := by decide +kernel
theorem dX5_target_12 : decode cX5_target 12 = .ok (.aload_n 0, 1) := by decide +kernel
theorem dX5_target_13 : decode cX5_target 13 = .ok (.iload_n 1, 1) := by decide +kernel
theorem dX5_target_14 : decode cX5_target 14 = .ok (.putfield 32, 3) := by decide +kernel
theorem dX5_target_17 : decode cX5_target 17 = .ok (.iload_n 2, 1) := by decide +kernel
theorem dX5_target_18 : decode cX5_target 18 = .ok (.ireturn, 1) := by decide +kernel
theorem dX5_month_0 : decode cX5_month 0 = .ok (.iload_n 1, 1) := by decide +kernel
theorem dX5_month_1 : decode cX5_month 1 = .ok (.iconst 1, 1) := by decide +kernel
theorem dX5_month_2 : decode cX5_month 2 = .ok (.bipush 24, 2) := by decide +kernel
theorem dX5_month_4 : decode cX5_month 4 = .ok (.invokestatic 55, 3) := by decide +kernel
theorem dX5_month_7 : decode cX5_month 7 = .ok (.iconst 0, 1) := by decide +kernel
theorem dX5_month_8 : decode cX5_month 8 = .ok (.istore_n 2, 1) := by decide +kernel
theorem dX5_month_9 : decode cX5_month 9 = .ok (.iload_n 2, 1) := by decide +kernel
theorem dX5_month_10 : decode cX5_month 10 = .ok (.iload_n 1, 1) := by decide +kernel
theorem dX5_month_11 : decode cX5_month 11 = .ok (.if_icmp .ge 27, 3) := by decide +kernel
theorem dX5_month_14 : decode cX5_month 14 = .ok (.aload_n 0, 1) := by decide +kernel
theorem dX5_month_15 : decode cX5_month 15 = .ok (.dup, 1) := by decide +kernel
theorem dX5_month_16 : decode cX5_month 16 = .ok (.getfield 35, 3) := by decide +kernel
theorem dX5_month_19 : decode cX5_month 19 = .ok (.iconst 1, 1) := by decide +kernel
theorem dX5_month_20 : decode cX5_month 20 = .ok (.iadd, 1) := by decide +kernel
theorem dX5_month_21 : decode cX5_month 21 = .ok (.putfield 35, 3) := by decide +kernel
theorem dX5_month_24 : decode cX5_month 24 = .ok (.aload_n 0, 1) := by decide +kernel
theorem dX5_month_25 : decode cX5_month 25 = .ok (.invokevirtual 215, 3) := by decide +kernel
theorem dX5_month_28 : decode cX5_month 28 = .ok (.aload_n 0, 1) := by decide +kernel
theorem dX5_month_29 : decode cX5_month 29 = .ok (.invokevirtual 218, 3) := by decide +kernel
theorem dX5_month_32 : decode cX5_month 32 = .ok (.iinc 2 1, 3) := by decide +kernel
theorem dX5_month_35 : decode cX5_month 35 = .ok (.goto (-26), 3) := by decide +kernel
theorem dX5_month_38 : decode cX5_month 38 = .ok (.aload_n 0, 1) := by decide +kernel
theorem dX5_month_39 : decode cX5_month 39 = .ok (.getfield 35, 3) := by decide +kernel
theorem dX5_month_42 : decode cX5_month 42 = .ok (.ireturn, 1) := by decide +kernel
theorem dX5_ofLine_0 : decode cX5_ofLine 0 = .ok (.aload_n 0, 1) := by decide +kernel
theorem dX5_ofLine_1 : decode cX5_ofLine 1 = .ok (.iload_n 1, 1) := by decide +kernel
theorem dX5_ofLine_2 : decode cX5_ofLine 2 = .ok (.invokevirtual 78, 3) := by decide +kernel
theorem dX5_ofLine_5 : decode cX5_ofLine 5 = .ok (.astore_n 3, 1) := by decide +kernel
theorem dX5_ofLine_6 : decode cX5_ofLine 6 = .ok (.iload_n 2, 1) := by decide +kernel
theorem dX5_ofLine_7 : decode cX5_ofLine 7 = .ok (.tableswitch 81 0 6 #[41, 46, 51, 57, 63, 68, 73], 41) := by decide +kernel
theorem dX5_ofLine_48 : decode cX5_ofLine 48 = .ok (.aload_n 3, 1) := by decide +kernel
theorem dX5_ofLine_49 : decode cX5_ofLine 49 = .ok (.invokevirtual 221, 3) := by decide +kernel
theorem dX5_ofLine_52 : decode cX5_ofLine 52 = .ok (.ireturn, 1) := by decide +kernel
theorem dX5_ofLine_53 : decode cX5_ofLine 53 = .ok (.aload_n 3, 1) := by decide +kernel
theorem dX5_ofLine_54 : decode cX5_ofLine 54 = .ok (.getfield 198, 3) := by decide +kernel
theorem dX5_ofLine_57 : decode cX5_ofLine 57 = .ok (.ireturn, 1) := by decide +kernel
theorem dX5_ofLine_58 : decode cX5_ofLine 58 = .ok (.aload_n 0, 1) := by decide +kernel
theorem dX5_ofLine_59 : decode cX5_ofLine 59 = .ok (.aload_n 3, 1) := by decide +kernel
theorem dX5_ofLine_60 : decode cX5_ofLine 60 = .ok (.invokevirtual 224, 3) := by decide +kernel
theorem dX5_ofLine_63 : decode cX5_ofLine 63 = .ok (.ireturn, 1) := by decide +kernel
theorem dX5_ofLine_64 : decode cX5_ofLine 64 = .ok (.aload_n 0, 1) := by decide +kernel
theorem dX5_ofLine_65 : decode cX5_ofLine 65 = .ok (.aload_n 3, 1) := by decide +kernel
theorem dX5_ofLine_66 : decode cX5_ofLine 66 = .ok (.invokevirtual 201, 3) := by decide +kernel
theorem dX5_ofLine_69 : decode cX5_ofLine 69 = .ok (.ireturn, 1) := by decide +kernel
theorem dX5_ofLine_70 : decode cX5_ofLine 70 = .ok (.aload_n 3, 1) := by decide +kernel
theorem dX5_ofLine_71 : decode cX5_ofLine 71 = .ok (.getfield 227, 3) := by decide +kernel
theorem dX5_ofLine_74 : decode cX5_ofLine 74 = .ok (.ireturn, 1) := by decide +kernel
theorem dX5_ofLine_75 : decode cX5_ofLine 75 = .ok (.aload_n 3, 1) := by decide +kernel
theorem dX5_ofLine_76 : decode cX5_ofLine 76 = .ok (.getfield 230, 3) := by decide +kernel
theorem dX5_ofLine_79 : decode cX5_ofLine 79 = .ok (.ireturn, 1) := by decide +kernel
theorem dX5_ofLine_80 : decode cX5_ofLine 80 = .ok (.aload_n 3, 1) := by decide +kernel
theorem dX5_ofLine_81 : decode cX5_ofLine 81 = .ok (.getfield 183, 3) := by decide +kernel
theorem dX5_ofLine_84 : decode cX5_ofLine 84 = .ok (.getfield 233, 3) := by decide +kernel
theorem dX5_ofLine_87 : decode cX5_ofLine 87 = .ok (.ireturn, 1) := by decide +kernel
theorem dX5_ofLine_88 : decode cX5_ofLine 88 = .ok (.new 236, 3) := by decide +kernel
theorem dX5_ofLine_91 : decode cX5_ofLine 91 = .ok (.dup, 1) := by decide +kernel
theorem dX5_ofLine_92 : decode cX5_ofLine 92 = .ok (.ldc 238, 2) := by decide +kernel
theorem dX5_ofLine_94 : decode cX5_ofLine 94 = .ok (.invokespecial 240, 3) := by decide +kernel
theorem dX5_ofLine_97 : decode cX5_ofLine 97 = .ok (.athrow, 1) := by decide +kernel
theorem dX5_standsAnew_0 : decode cX5_standsAnew 0 = .ok (.aload_n 0, 1) := by decide +kernel
theorem dX5_standsAnew_1 : decode cX5_standsAnew 1 = .ok (.iload_n 1, 1) := by decide +kernel
theorem dX5_standsAnew_2 : decode cX5_standsAnew 2 = .ok (.invokevirtual 78, 3) := by decide +kernel
theorem dX5_standsAnew_5 : decode cX5_standsAnew 5 = .ok (.astore_n 2, 1) := by decide +kernel
theorem dX5_standsAnew_6 : decode cX5_standsAnew 6 = .ok (.iconst 0, 1) := by decide +kernel
theorem dX5_standsAnew_7 : decode cX5_standsAnew 7 = .ok (.istore_n 3, 1) := by decide +kernel
theorem dX5_standsAnew_8 : decode cX5_standsAnew 8 = .ok (.iconst 0, 1) := by decide +kernel
theorem dX5_standsAnew_9 : decode cX5_standsAnew 9 = .ok (.istore 4, 2) := by decide +kernel
theorem dX5_standsAnew_11 : decode cX5_standsAnew 11 = .ok (.iload 4, 2) := by decide +kernel
theorem dX5_standsAnew_13 : decode cX5_standsAnew 13 = .ok (.aload_n 0, 1) := by decide +kernel
theorem dX5_standsAnew_14 : decode cX5_standsAnew 14 = .ok (.getfield 22, 3) := by decide +kernel
theorem dX5_standsAnew_17 : decode cX5_standsAnew 17 = .ok (.invokevirtual 59, 3) := by decide +kernel
theorem dX5_standsAnew_20 : decode cX5_standsAnew 20 = .ok (.if_icmp .ge 48, 3) := by decide +kernel
theorem dX5_standsAnew_23 : decode cX5_standsAnew 23 = .ok (.aload_n 0, 1) := by decide +kernel
theorem dX5_standsAnew_24 : decode cX5_standsAnew 24 = .ok (.getfield 22, 3) := by decide +kernel
theorem dX5_standsAnew_27 : decode cX5_standsAnew 27 = .ok (.iload 4, 2) := by decide +kernel
theorem dX5_standsAnew_29 : decode cX5_standsAnew 29 = .ok (.invokevirtual 241, 3) := by decide +kernel
theorem dX5_standsAnew_32 : decode cX5_standsAnew 32 = .ok (.checkcast 101, 3) := by decide +kernel
theorem dX5_standsAnew_35 : decode cX5_standsAnew 35 = .ok (.astore 5, 2) := by decide +kernel
theorem dX5_standsAnew_37 : decode cX5_standsAnew 37 = .ok (.aload 5, 2) := by decide +kernel
theorem dX5_standsAnew_39 : decode cX5_standsAnew 39 = .ok (.getfield 100, 3) := by decide +kernel
theorem dX5_standsAnew_42 : decode cX5_standsAnew 42 = .ok (.aload_n 2, 1) := by decide +kernel
theorem dX5_standsAnew_43 : decode cX5_standsAnew 43 = .ok (.if_acmp .ne 19, 3) := by decide +kernel
theorem dX5_standsAnew_46 : decode cX5_standsAnew 46 = .ok (.aload 5, 2) := by decide +kernel
theorem dX5_standsAnew_48 : decode cX5_standsAnew 48 = .ok (.invokestatic 245, 3) := by decide +kernel
theorem dX5_standsAnew_51 : decode cX5_standsAnew 51 = .ok (.ifCond .eq 11, 3) := by decide +kernel
theorem dX5_standsAnew_54 : decode cX5_standsAnew 54 = .ok (.iload_n 3, 1) := by decide +kernel
theorem dX5_standsAnew_55 : decode cX5_standsAnew 55 = .ok (.aload 5, 2) := by decide +kernel
theorem dX5_standsAnew_57 : decode cX5_standsAnew 57 = .ok (.getfield 248, 3) := by decide +kernel
theorem dX5_standsAnew_60 : decode cX5_standsAnew 60 = .ok (.iadd, 1) := by decide +kernel
theorem dX5_standsAnew_61 : decode cX5_standsAnew 61 = .ok (.istore_n 3, 1) := by decide +kernel
theorem dX5_standsAnew_62 : decode cX5_standsAnew 62 = .ok (.iinc 4 1, 3) := by decide +kernel
theorem dX5_standsAnew_65 : decode cX5_standsAnew 65 = .ok (.goto (-54), 3) := by decide +kernel
theorem dX5_standsAnew_68 : decode cX5_standsAnew 68 = .ok (.aload_n 2, 1) := by decide +kernel
theorem dX5_standsAnew_69 : decode cX5_standsAnew 69 = .ok (.iload_n 3, 1) := by decide +kernel
theorem dX5_standsAnew_70 : decode cX5_standsAnew 70 = .ok (.invokevirtual 251, 3) := by decide +kernel
theorem dX5_standsAnew_73 : decode cX5_standsAnew 73 = .ok (.ireturn, 1) := by decide +kernel
theorem dX5_ofAmendment_0 : decode cX5_ofAmendment 0 = .ok (.aload_n 0, 1) := by decide +kernel
theorem dX5_ofAmendment_1 : decode cX5_ofAmendment 1 = .ok (.iload_n 1, 1) := by decide +kernel
theorem dX5_ofAmendment_2 : decode cX5_ofAmendment 2 = .ok (.invokevirtual 92, 3) := by decide +kernel
theorem dX5_ofAmendment_5 : decode cX5_ofAmendment 5 = .ok (.astore_n 3, 1) := by decide +kernel
theorem dX5_ofAmendment_6 : decode cX5_ofAmendment 6 = .ok (.iload_n 2, 1) := by decide +kernel
theorem dX5_ofAmendment_7 : decode cX5_ofAmendment 7 = .ok (.tableswitch 92 0 7 #[45, 50, 55, 60, 65, 70, 78, 86], 45) := by decide +kernel
theorem dX5_ofAmendment_52 : decode cX5_ofAmendment 52 = .ok (.aload_n 3, 1) := by decide +kernel
theorem dX5_ofAmendment_53 : decode cX5_ofAmendment 53 = .ok (.getfield 141, 3) := by decide +kernel
theorem dX5_ofAmendment_56 : decode cX5_ofAmendment 56 = .ok (.ireturn, 1) := by decide +kernel
theorem dX5_ofAmendment_57 : decode cX5_ofAmendment 57 = .ok (.aload_n 3, 1) := by decide +kernel
theorem dX5_ofAmendment_58 : decode cX5_ofAmendment 58 = .ok (.getfield 255, 3) := by decide +kernel
theorem dX5_ofAmendment_61 : decode cX5_ofAmendment 61 = .ok (.ireturn, 1) := by decide +kernel
theorem dX5_ofAmendment_62 : decode cX5_ofAmendment 62 = .ok (.aload_n 3, 1) := by decide +kernel
theorem dX5_ofAmendment_63 : decode cX5_ofAmendment 63 = .ok (.getfield 258, 3) := by decide +kernel
theorem dX5_ofAmendment_66 : decode cX5_ofAmendment 66 = .ok (.ireturn, 1) := by decide +kernel
theorem dX5_ofAmendment_67 : decode cX5_ofAmendment 67 = .ok (.aload_n 3, 1) := by decide +kernel
theorem dX5_ofAmendment_68 : decode cX5_ofAmendment 68 = .ok (.invokevirtual 115, 3) := by decide +kernel
theorem dX5_ofAmendment_71 : decode cX5_ofAmendment 71 = .ok (.ireturn, 1) := by decide +kernel
theorem dX5_ofAmendment_72 : decode cX5_ofAmendment 72 = .ok (.aload_n 3, 1) := by decide +kernel
theorem dX5_ofAmendment_73 : decode cX5_ofAmendment 73 = .ok (.invokevirtual 261, 3) := by decide +kernel
theorem dX5_ofAmendment_76 : decode cX5_ofAmendment 76 = .ok (.ireturn, 1) := by decide +kernel
theorem dX5_ofAmendment_77 : decode cX5_ofAmendment 77 = .ok (.aload_n 3, 1) := by decide +kernel
theorem dX5_ofAmendment_78 : decode cX5_ofAmendment 78 = .ok (.getfield 264, 3) := by decide +kernel
theorem dX5_ofAmendment_81 : decode cX5_ofAmendment 81 = .ok (.invokestatic 268, 3) := by decide +kernel
theorem dX5_ofAmendment_84 : decode cX5_ofAmendment 84 = .ok (.ireturn, 1) := by decide +kernel
theorem dX5_ofAmendment_85 : decode cX5_ofAmendment 85 = .ok (.aload_n 3, 1) := by decide +kernel
theorem dX5_ofAmendment_86 : decode cX5_ofAmendment 86 = .ok (.getfield 100, 3) := by decide +kernel
theorem dX5_ofAmendment_89 : decode cX5_ofAmendment 89 = .ok (.getfield 271, 3) := by decide +kernel
theorem dX5_ofAmendment_92 : decode cX5_ofAmendment 92 = .ok (.ireturn, 1) := by decide +kernel
theorem dX5_ofAmendment_93 : decode cX5_ofAmendment 93 = .ok (.aload_n 0, 1) := by decide +kernel
theorem dX5_ofAmendment_94 : decode cX5_ofAmendment 94 = .ok (.aload_n 3, 1) := by decide +kernel
theorem dX5_ofAmendment_95 : decode cX5_ofAmendment 95 = .ok (.invokevirtual 272, 3) := by decide +kernel
theorem dX5_ofAmendment_98 : decode cX5_ofAmendment 98 = .ok (.ireturn, 1) := by decide +kernel
theorem dX5_ofAmendment_99 : decode cX5_ofAmendment 99 = .ok (.new 236, 3) := by decide +kernel
theorem dX5_ofAmendment_102 : decode cX5_ofAmendment 102 = .ok (.dup, 1) := by decide +kernel
theorem dX5_ofAmendment_103 : decode cX5_ofAmendment 103 = .ok (.ldc 238, 2) := by decide +kernel
theorem dX5_ofAmendment_105 : decode cX5_ofAmendment 105 = .ok (.invokespecial 240, 3) := by decide +kernel
theorem dX5_ofAmendment_108 : decode cX5_ofAmendment 108 = .ok (.athrow, 1) := by decide +kernel
theorem dX5_ofGrant_0 : decode cX5_ofGrant 0 = .ok (.aload_n 0, 1) := by decide +kernel
theorem dX5_ofGrant_1 : decode cX5_ofGrant 1 = .ok (.iload_n 1, 1) := by decide +kernel
theorem dX5_ofGrant_2 : decode cX5_ofGrant 2 = .ok (.invokevirtual 167, 3) := by decide +kernel
theorem dX5_ofGrant_5 : decode cX5_ofGrant 5 = .ok (.astore_n 3, 1) := by decide +kernel
theorem dX5_ofGrant_6 : decode cX5_ofGrant 6 = .ok (.iload_n 2, 1) := by decide +kernel
theorem dX5_ofGrant_7 : decode cX5_ofGrant 7 = .ok (.tableswitch 102 0 7 #[45, 50, 55, 60, 68, 76, 84, 89], 45) := by decide +kernel
theorem dX5_ofGrant_52 : decode cX5_ofGrant 52 = .ok (.aload_n 3, 1) := by decide +kernel
theorem dX5_ofGrant_53 : decode cX5_ofGrant 53 = .ok (.getfield 171, 3) := by decide +kernel
theorem dX5_ofGrant_56 : decode cX5_ofGrant 56 = .ok (.ireturn, 1) := by decide +kernel
theorem dX5_ofGrant_57 : decode cX5_ofGrant 57 = .ok (.aload_n 3, 1) := by decide +kernel
theorem dX5_ofGrant_58 : decode cX5_ofGrant 58 = .ok (.getfield 174, 3) := by decide +kernel
theorem dX5_ofGrant_61 : decode cX5_ofGrant 61 = .ok (.ireturn, 1) := by decide +kernel
theorem dX5_ofGrant_62 : decode cX5_ofGrant 62 = .ok (.aload_n 3, 1) := by decide +kernel
theorem dX5_ofGrant_63 : decode cX5_ofGrant 63 = .ok (.getfield 177, 3) := by decide +kernel
theorem dX5_ofGrant_66 : decode cX5_ofGrant 66 = .ok (.ireturn, 1) := by decide +kernel
theorem dX5_ofGrant_67 : decode cX5_ofGrant 67 = .ok (.aload_n 3, 1) := by decide +kernel
theorem dX5_ofGrant_68 : decode cX5_ofGrant 68 = .ok (.getfield 182, 3) := by decide +kernel
theorem dX5_ofGrant_71 : decode cX5_ofGrant 71 = .ok (.getfield 271, 3) := by decide +kernel
theorem dX5_ofGrant_74 : decode cX5_ofGrant 74 = .ok (.ireturn, 1) := by decide +kernel
theorem dX5_ofGrant_75 : decode cX5_ofGrant 75 = .ok (.aload_n 3, 1) := by decide +kernel
theorem dX5_ofGrant_76 : decode cX5_ofGrant 76 = .ok (.getfield 275, 3) := by decide +kernel
theorem dX5_ofGrant_79 : decode cX5_ofGrant 79 = .ok (.getfield 279, 3) := by decide +kernel
theorem dX5_ofGrant_82 : decode cX5_ofGrant 82 = .ok (.ireturn, 1) := by decide +kernel
theorem dX5_ofGrant_83 : decode cX5_ofGrant 83 = .ok (.aload_n 3, 1) := by decide +kernel
theorem dX5_ofGrant_84 : decode cX5_ofGrant 84 = .ok (.getfield 280, 3) := by decide +kernel
theorem dX5_ofGrant_87 : decode cX5_ofGrant 87 = .ok (.invokestatic 268, 3) := by decide +kernel
theorem dX5_ofGrant_90 : decode cX5_ofGrant 90 = .ok (.ireturn, 1) := by decide +kernel
theorem dX5_ofGrant_91 : decode cX5_ofGrant 91 = .ok (.aload_n 3, 1) := by decide +kernel
theorem dX5_ofGrant_92 : decode cX5_ofGrant 92 = .ok (.getfield 283, 3) := by decide +kernel
theorem dX5_ofGrant_95 : decode cX5_ofGrant 95 = .ok (.ireturn, 1) := by decide +kernel
theorem dX5_ofGrant_96 : decode cX5_ofGrant 96 = .ok (.aload_n 3, 1) := by decide +kernel
theorem dX5_ofGrant_97 : decode cX5_ofGrant 97 = .ok (.getfield 195, 3) := by decide +kernel
theorem dX5_ofGrant_100 : decode cX5_ofGrant 100 = .ok (.ifCond .eq 7, 3) := by decide +kernel
theorem dX5_ofGrant_103 : decode cX5_ofGrant 103 = .ok (.iconst 1, 1) := by decide +kernel
theorem dX5_ofGrant_104 : decode cX5_ofGrant 104 = .ok (.goto 4, 3) := by decide +kernel
theorem dX5_ofGrant_107 : decode cX5_ofGrant 107 = .ok (.iconst 0, 1) := by decide +kernel
theorem dX5_ofGrant_108 : decode cX5_ofGrant 108 = .ok (.ireturn, 1) := by decide +kernel
theorem dX5_ofGrant_109 : decode cX5_ofGrant 109 = .ok (.new 236, 3) := by decide +kernel
theorem dX5_ofGrant_112 : decode cX5_ofGrant 112 = .ok (.dup, 1) := by decide +kernel
theorem dX5_ofGrant_113 : decode cX5_ofGrant 113 = .ok (.ldc 238, 2) := by decide +kernel
theorem dX5_ofGrant_115 : decode cX5_ofGrant 115 = .ok (.invokespecial 240, 3) := by decide +kernel
theorem dX5_ofGrant_118 : decode cX5_ofGrant 118 = .ok (.athrow, 1) := by decide +kernel
theorem dX5_owes_0 : decode cX5_owes 0 = .ok (.aload_n 0, 1) := by decide +kernel
theorem dX5_owes_1 : decode cX5_owes 1 = .ok (.iload_n 1, 1) := by decide +kernel
theorem dX5_owes_2 : decode cX5_owes 2 = .ok (.invokevirtual 151, 3) := by decide +kernel
theorem dX5_owes_5 : decode cX5_owes 5 = .ok (.getfield 210, 3) := by decide +kernel
theorem dX5_owes_8 : decode cX5_owes 8 = .ok (.ireturn, 1) := by decide +kernel
theorem dX5_reserve_0 : decode cX5_reserve 0 = .ok (.aload_n 0, 1) := by decide +kernel
theorem dX5_reserve_1 : decode cX5_reserve 1 = .ok (.getfield 28, 3) := by decide +kernel
theorem dX5_reserve_4 : decode cX5_reserve 4 = .ok (.ireturn, 1) := by decide +kernel
theorem dX5_ofSource_0 : decode cX5_ofSource 0 = .ok (.aload_n 0, 1) := by decide +kernel
theorem dX5_ofSource_1 : decode cX5_ofSource 1 = .ok (.iload_n 1, 1) := by decide +kernel
theorem dX5_ofSource_2 : decode cX5_ofSource 2 = .ok (.invokevirtual 50, 3) := by decide +kernel
theorem dX5_ofSource_5 : decode cX5_ofSource 5 = .ok (.astore_n 3, 1) := by decide +kernel
theorem dX5_ofSource_6 : decode cX5_ofSource 6 = .ok (.iload_n 2, 1) := by decide +kernel
theorem dX5_ofSource_7 : decode cX5_ofSource 7 = .ok (.tableswitch 41 0 2 #[25, 30, 35], 25) := by decide +kernel
theorem dX5_ofSource_32 : decode cX5_ofSource 32 = .ok (.aload_n 3, 1) := by decide +kernel
theorem dX5_ofSource_33 : decode cX5_ofSource 33 = .ok (.getfield 75, 3) := by decide +kernel
theorem dX5_ofSource_36 : decode cX5_ofSource 36 = .ok (.ireturn, 1) := by decide +kernel
theorem dX5_ofSource_37 : decode cX5_ofSource 37 = .ok (.aload_n 3, 1) := by decide +kernel
theorem dX5_ofSource_38 : decode cX5_ofSource 38 = .ok (.getfield 286, 3) := by decide +kernel
theorem dX5_ofSource_41 : decode cX5_ofSource 41 = .ok (.ireturn, 1) := by decide +kernel
theorem dX5_ofSource_42 : decode cX5_ofSource 42 = .ok (.aload_n 0, 1) := by decide +kernel
theorem dX5_ofSource_43 : decode cX5_ofSource 43 = .ok (.aload_n 3, 1) := by decide +kernel
theorem dX5_ofSource_44 : decode cX5_ofSource 44 = .ok (.invokevirtual 287, 3) := by decide +kernel
theorem dX5_ofSource_47 : decode cX5_ofSource 47 = .ok (.ireturn, 1) := by decide +kernel
theorem dX5_ofSource_48 : decode cX5_ofSource 48 = .ok (.new 236, 3) := by decide +kernel
theorem dX5_ofSource_51 : decode cX5_ofSource 51 = .ok (.dup, 1) := by decide +kernel
theorem dX5_ofSource_52 : decode cX5_ofSource 52 = .ok (.ldc 238, 2) := by decide +kernel
theorem dX5_ofSource_54 : decode cX5_ofSource 54 = .ok (.invokespecial 240, 3) := by decide +kernel
theorem dX5_ofSource_57 : decode cX5_ofSource 57 = .ok (.athrow, 1) := by decide +kernel
theorem dX5_sourceAt_0 : decode cX5_sourceAt 0 = .ok (.iload_n 1, 1) := by decide +kernel
theorem dX5_sourceAt_1 : decode cX5_sourceAt 1 = .ok (.ifCond .lt 14, 3) := by decide +kernel
theorem dX5_sourceAt_4 : decode cX5_sourceAt 4 = .ok (.iload_n 1, 1) := by decide +kernel
theorem dX5_sourceAt_5 : decode cX5_sourceAt 5 = .ok (.aload_n 0, 1) := by decide +kernel
theorem dX5_sourceAt_6 : decode cX5_sourceAt 6 = .ok (.getfield 10, 3) := by decide +kernel
theorem dX5_sourceAt_9 : decode cX5_sourceAt 9 = .ok (.invokevirtual 59, 3) := by decide +kernel
theorem dX5_sourceAt_12 : decode cX5_sourceAt 12 = .ok (.if_icmp .lt 14, 3) := by decide +kernel
theorem dX5_sourceAt_15 : decode cX5_sourceAt 15 = .ok (.new 236, 3) := by decide +kernel
theorem dX5_sourceAt_18 : decode cX5_sourceAt 18 = .ok (.dup, 1) := by decide +kernel
theorem dX5_sourceAt_19 : decode cX5_sourceAt 19 = .ok (.ldc_w 291, 3) := by decide +kernel
theorem dX5_sourceAt_22 : decode cX5_sourceAt 22 = .ok (.invokespecial 240, 3) := by decide +kernel
theorem dX5_sourceAt_25 : decode cX5_sourceAt 25 = .ok (.athrow, 1) := by decide +kernel
theorem dX5_sourceAt_26 : decode cX5_sourceAt 26 = .ok (.aload_n 0, 1) := by decide +kernel
theorem dX5_sourceAt_27 : decode cX5_sourceAt 27 = .ok (.getfield 10, 3) := by decide +kernel
theorem dX5_sourceAt_30 : decode cX5_sourceAt 30 = .ok (.iload_n 1, 1) := by decide +kernel
theorem dX5_sourceAt_31 : decode cX5_sourceAt 31 = .ok (.invokevirtual 241, 3) := by decide +kernel
theorem dX5_sourceAt_34 : decode cX5_sourceAt 34 = .ok (.checkcast 38, 3) := by decide +kernel
theorem dX5_sourceAt_37 : decode cX5_sourceAt 37 = .ok (.areturn, 1) := by decide +kernel
theorem dX5_receiverAt_0 : decode cX5_receiverAt 0 = .ok (.iload_n 1, 1) := by decide +kernel
theorem dX5_receiverAt_1 : decode cX5_receiverAt 1 = .ok (.ifCond .lt 14, 3) := by decide +kernel
theorem dX5_receiverAt_4 : decode cX5_receiverAt 4 = .ok (.iload_n 1, 1) := by decide +kernel
theorem dX5_receiverAt_5 : decode cX5_receiverAt 5 = .ok (.aload_n 0, 1) := by decide +kernel
theorem dX5_receiverAt_6 : decode cX5_receiverAt 6 = .ok (.getfield 16, 3) := by decide +kernel
theorem dX5_receiverAt_9 : decode cX5_receiverAt 9 = .ok (.invokevirtual 59, 3) := by decide +kernel
theorem dX5_receiverAt_12 : decode cX5_receiverAt 12 = .ok (.if_icmp .lt 14, 3) := by decide +kernel
theorem dX5_receiverAt_15 : decode cX5_receiverAt 15 = .ok (.new 106, 3) := by decide +kernel
theorem dX5_receiverAt_18 : decode cX5_receiverAt 18 = .ok (.dup, 1) := by decide +kernel
theorem dX5_receiverAt_19 : decode cX5_receiverAt 19 = .ok (.ldc_w 293, 3) := by decide +kernel
theorem dX5_receiverAt_22 : decode cX5_receiverAt 22 = .ok (.invokespecial 110, 3) := by decide +kernel
theorem dX5_receiverAt_25 : decode cX5_receiverAt 25 = .ok (.athrow, 1) := by decide +kernel
theorem dX5_receiverAt_26 : decode cX5_receiverAt 26 = .ok (.aload_n 0, 1) := by decide +kernel
theorem dX5_receiverAt_27 : decode cX5_receiverAt 27 = .ok (.getfield 16, 3) := by decide +kernel
theorem dX5_receiverAt_30 : decode cX5_receiverAt 30 = .ok (.iload_n 1, 1) := by decide +kernel
theorem dX5_receiverAt_31 : decode cX5_receiverAt 31 = .ok (.invokevirtual 241, 3) := by decide +kernel
theorem dX5_receiverAt_34 : decode cX5_receiverAt 34 = .ok (.checkcast 47, 3) := by decide +kernel
theorem dX5_receiverAt_37 : decode cX5_receiverAt 37 = .ok (.areturn, 1) := by decide +kernel
theorem dX5_lineAt_0 : decode cX5_lineAt 0 = .ok (.iload_n 1, 1) := by decide +kernel
theorem dX5_lineAt_1 : decode cX5_lineAt 1 = .ok (.ifCond .lt 14, 3) := by decide +kernel
theorem dX5_lineAt_4 : decode cX5_lineAt 4 = .ok (.iload_n 1, 1) := by decide +kernel
theorem dX5_lineAt_5 : decode cX5_lineAt 5 = .ok (.aload_n 0, 1) := by decide +kernel
theorem dX5_lineAt_6 : decode cX5_lineAt 6 = .ok (.getfield 19, 3) := by decide +kernel
theorem dX5_lineAt_9 : decode cX5_lineAt 9 = .ok (.invokevirtual 59, 3) := by decide +kernel
theorem dX5_lineAt_12 : decode cX5_lineAt 12 = .ok (.if_icmp .lt 14, 3) := by decide +kernel
theorem dX5_lineAt_15 : decode cX5_lineAt 15 = .ok (.new 106, 3) := by decide +kernel
theorem dX5_lineAt_18 : decode cX5_lineAt 18 = .ok (.dup, 1) := by decide +kernel
theorem dX5_lineAt_19 : decode cX5_lineAt 19 = .ok (.ldc_w 295, 3) := by decide +kernel
theorem dX5_lineAt_22 : decode cX5_lineAt 22 = .ok (.invokespecial 110, 3) := by decide +kernel
theorem dX5_lineAt_25 : decode cX5_lineAt 25 = .ok (.athrow, 1) := by decide +kernel
theorem dX5_lineAt_26 : decode cX5_lineAt 26 = .ok (.aload_n 0, 1) := by decide +kernel
theorem dX5_lineAt_27 : decode cX5_lineAt 27 = .ok (.getfield 19, 3) := by decide +kernel
theorem dX5_lineAt_30 : decode cX5_lineAt 30 = .ok (.iload_n 1, 1) := by decide +kernel
theorem dX5_lineAt_31 : decode cX5_lineAt 31 = .ok (.invokevirtual 241, 3) := by decide +kernel
theorem dX5_lineAt_34 : decode cX5_lineAt 34 = .ok (.checkcast 70, 3) := by decide +kernel
theorem dX5_lineAt_37 : decode cX5_lineAt 37 = .ok (.areturn, 1) := by decide +kernel
theorem dX5_amendmentAt_0 : decode cX5_amendmentAt 0 = .ok (.iload_n 1, 1) := by decide +kernel
theorem dX5_amendmentAt_1 : decode cX5_amendmentAt 1 = .ok (.ifCond .lt 14, 3) := by decide +kernel
theorem dX5_amendmentAt_4 : decode cX5_amendmentAt 4 = .ok (.iload_n 1, 1) := by decide +kernel
theorem dX5_amendmentAt_5 : decode cX5_amendmentAt 5 = .ok (.aload_n 0, 1) := by decide +kernel
theorem dX5_amendmentAt_6 : decode cX5_amendmentAt 6 = .ok (.getfield 22, 3) := by decide +kernel
theorem dX5_amendmentAt_9 : decode cX5_amendmentAt 9 = .ok (.invokevirtual 59, 3) := by decide +kernel
theorem dX5_amendmentAt_12 : decode cX5_amendmentAt 12 = .ok (.if_icmp .lt 14, 3) := by decide +kernel
theorem dX5_amendmentAt_15 : decode cX5_amendmentAt 15 = .ok (.new 106, 3) := by decide +kernel
theorem dX5_amendmentAt_18 : decode cX5_amendmentAt 18 = .ok (.dup, 1) := by decide +kernel
theorem dX5_amendmentAt_19 : decode cX5_amendmentAt 19 = .ok (.ldc_w 297, 3) := by decide +kernel
theorem dX5_amendmentAt_22 : decode cX5_amendmentAt 22 = .ok (.invokespecial 110, 3) := by decide +kernel
theorem dX5_amendmentAt_25 : decode cX5_amendmentAt 25 = .ok (.athrow, 1) := by decide +kernel
theorem dX5_amendmentAt_26 : decode cX5_amendmentAt 26 = .ok (.aload_n 0, 1) := by decide +kernel
theorem dX5_amendmentAt_27 : decode cX5_amendmentAt 27 = .ok (.getfield 22, 3) := by decide +kernel
theorem dX5_amendmentAt_30 : decode cX5_amendmentAt 30 = .ok (.iload_n 1, 1) := by decide +kernel
theorem dX5_amendmentAt_31 : decode cX5_amendmentAt 31 = .ok (.invokevirtual 241, 3) := by decide +kernel
theorem dX5_amendmentAt_34 : decode cX5_amendmentAt 34 = .ok (.checkcast 101, 3) := by decide +kernel
theorem dX5_amendmentAt_37 : decode cX5_amendmentAt 37 = .ok (.areturn, 1) := by decide +kernel
theorem dX5_grantAt_0 : decode cX5_grantAt 0 = .ok (.iload_n 1, 1) := by decide +kernel
theorem dX5_grantAt_1 : decode cX5_grantAt 1 = .ok (.ifCond .lt 14, 3) := by decide +kernel
theorem dX5_grantAt_4 : decode cX5_grantAt 4 = .ok (.iload_n 1, 1) := by decide +kernel
theorem dX5_grantAt_5 : decode cX5_grantAt 5 = .ok (.aload_n 0, 1) := by decide +kernel
theorem dX5_grantAt_6 : decode cX5_grantAt 6 = .ok (.getfield 25, 3) := by decide +kernel
theorem dX5_grantAt_9 : decode cX5_grantAt 9 = .ok (.invokevirtual 59, 3) := by decide +kernel
theorem dX5_grantAt_12 : decode cX5_grantAt 12 = .ok (.if_icmp .lt 14, 3) := by decide +kernel
theorem dX5_grantAt_15 : decode cX5_grantAt 15 = .ok (.new 106, 3) := by decide +kernel
theorem dX5_grantAt_18 : decode cX5_grantAt 18 = .ok (.dup, 1) := by decide +kernel
theorem dX5_grantAt_19 : decode cX5_grantAt 19 = .ok (.ldc_w 299, 3) := by decide +kernel
theorem dX5_grantAt_22 : decode cX5_grantAt 22 = .ok (.invokespecial 110, 3) := by decide +kernel
theorem dX5_grantAt_25 : decode cX5_grantAt 25 = .ok (.athrow, 1) := by decide +kernel
theorem dX5_grantAt_26 : decode cX5_grantAt 26 = .ok (.aload_n 0, 1) := by decide +kernel
theorem dX5_grantAt_27 : decode cX5_grantAt 27 = .ok (.getfield 25, 3) := by decide +kernel
theorem dX5_grantAt_30 : decode cX5_grantAt 30 = .ok (.iload_n 1, 1) := by decide +kernel
theorem dX5_grantAt_31 : decode cX5_grantAt 31 = .ok (.invokevirtual 241, 3) := by decide +kernel
theorem dX5_grantAt_34 : decode cX5_grantAt 34 = .ok (.checkcast 162, 3) := by decide +kernel
theorem dX5_grantAt_37 : decode cX5_grantAt 37 = .ok (.areturn, 1) := by decide +kernel
theorem dX5_numberOf_0 : decode cX5_numberOf 0 = .ok (.aload_n 0, 1) := by decide +kernel
theorem dX5_numberOf_1 : decode cX5_numberOf 1 = .ok (.ifnonnull 7, 3) := by decide +kernel
theorem dX5_numberOf_4 : decode cX5_numberOf 4 = .ok (.iconst (-1), 1) := by decide +kernel
theorem dX5_numberOf_5 : decode cX5_numberOf 5 = .ok (.goto 7, 3) := by decide +kernel
theorem dX5_numberOf_8 : decode cX5_numberOf 8 = .ok (.aload_n 0, 1) := by decide +kernel
theorem dX5_numberOf_9 : decode cX5_numberOf 9 = .ok (.getfield 301, 3) := by decide +kernel
theorem dX5_numberOf_12 : decode cX5_numberOf 12 = .ok (.ireturn, 1) := by decide +kernel
theorem dX5_needRange_0 : decode cX5_needRange 0 = .ok (.iload_n 0, 1) := by decide +kernel
theorem dX5_needRange_1 : decode cX5_needRange 1 = .ok (.iload_n 1, 1) := by decide +kernel
theorem dX5_needRange_2 : decode cX5_needRange 2 = .ok (.if_icmp .lt 8, 3) := by decide +kernel
theorem dX5_needRange_5 : decode cX5_needRange 5 = .ok (.iload_n 0, 1) := by decide +kernel
theorem dX5_needRange_6 : decode cX5_needRange 6 = .ok (.iload_n 2, 1) := by decide +kernel
theorem dX5_needRange_7 : decode cX5_needRange 7 = .ok (.if_icmp .le 14, 3) := by decide +kernel
theorem dX5_needRange_10 : decode cX5_needRange 10 = .ok (.new 236, 3) := by decide +kernel
theorem dX5_needRange_13 : decode cX5_needRange 13 = .ok (.dup, 1) := by decide +kernel
theorem dX5_needRange_14 : decode cX5_needRange 14 = .ok (.ldc_w 302, 3) := by decide +kernel
theorem dX5_needRange_17 : decode cX5_needRange 17 = .ok (.invokespecial 240, 3) := by decide +kernel
theorem dX5_needRange_20 : decode cX5_needRange 20 = .ok (.athrow, 1) := by decide +kernel
theorem dX5_needRange_21 : decode cX5_needRange 21 = .ok (.return_, 1) := by decide +kernel
theorem dX5_needMore_0 : decode cX5_needMore 0 = .ok (.iload_n 0, 1) := by decide +kernel
theorem dX5_needMore_1 : decode cX5_needMore 1 = .ok (.ldc_w 304, 3) := by decide +kernel
theorem dX5_needMore_4 : decode cX5_needMore 4 = .ok (.ldc 155, 2) := by decide +kernel
theorem dX5_needMore_6 : decode cX5_needMore 6 = .ok (.invokestatic 55, 3) := by decide +kernel
theorem dX5_needMore_9 : decode cX5_needMore 9 = .ok (.iload_n 0, 1) := by decide +kernel
theorem dX5_needMore_10 : decode cX5_needMore 10 = .ok (.ifCond .ne 14, 3) := by decide +kernel
theorem dX5_needMore_13 : decode cX5_needMore 13 = .ok (.new 236, 3) := by decide +kernel
theorem dX5_needMore_16 : decode cX5_needMore 16 = .ok (.dup, 1) := by decide +kernel
theorem dX5_needMore_17 : decode cX5_needMore 17 = .ok (.ldc_w 305, 3) := by decide +kernel
theorem dX5_needMore_20 : decode cX5_needMore 20 = .ok (.invokespecial 240, 3) := by decide +kernel
theorem dX5_needMore_23 : decode cX5_needMore 23 = .ok (.athrow, 1) := by decide +kernel
theorem dX5_needMore_24 : decode cX5_needMore 24 = .ok (.return_, 1) := by decide +kernel
theorem dX5_needRoomForAmendment_0 : decode cX5_needRoomForAmendment 0 = .ok (.aload_n 0, 1) := by decide +kernel
theorem dX5_needRoomForAmendment_1 : decode cX5_needRoomForAmendment 1 = .ok (.getfield 22, 3) := by decide +kernel
theorem dX5_needRoomForAmendment_4 : decode cX5_needRoomForAmendment 4 = .ok (.invokevirtual 59, 3) := by decide +kernel
theorem dX5_needRoomForAmendment_7 : decode cX5_needRoomForAmendment 7 = .ok (.bipush 40, 2) := by decide +kernel
theorem dX5_needRoomForAmendment_9 : decode cX5_needRoomForAmendment 9 = .ok (.if_icmp .lt 14, 3) := by decide +kernel
theorem dX5_needRoomForAmendment_12 : decode cX5_needRoomForAmendment 12 = .ok (.new 63, 3) := by decide +kernel
theorem dX5_needRoomForAmendment_15 : decode cX5_needRoomForAmendment 15 = .ok (.dup, 1) := by decide +kernel
theorem dX5_needRoomForAmendment_16 : decode cX5_needRoomForAmendment 16 = .ok (.ldc_w 307, 3) := by decide +kernel
theorem dX5_needRoomForAmendment_19 : decode cX5_needRoomForAmendment 19 = .ok (.invokespecial 67, 3) := by decide +kernel
theorem dX5_needRoomForAmendment_22 : decode cX5_needRoomForAmendment 22 = .ok (.athrow, 1) := by decide +kernel
theorem dX5_needRoomForAmendment_23 : decode cX5_needRoomForAmendment 23 = .ok (.return_, 1) := by decide +kernel
theorem dX5_needOpen_0 : decode cX5_needOpen 0 = .ok (.aload_n 0, 1) := by decide +kernel
theorem dX5_needOpen_1 : decode cX5_needOpen 1 = .ok (.getfield 141, 3) := by decide +kernel
theorem dX5_needOpen_4 : decode cX5_needOpen 4 = .ok (.ifCond .eq 14, 3) := by decide +kernel
theorem dX5_needOpen_7 : decode cX5_needOpen 7 = .ok (.new 63, 3) := by decide +kernel
theorem dX5_needOpen_10 : decode cX5_needOpen 10 = .ok (.dup, 1) := by decide +kernel
theorem dX5_needOpen_11 : decode cX5_needOpen 11 = .ok (.ldc_w 309, 3) := by decide +kernel
theorem dX5_needOpen_14 : decode cX5_needOpen 14 = .ok (.invokespecial 67, 3) := by decide +kernel
theorem dX5_needOpen_17 : decode cX5_needOpen 17 = .ok (.athrow, 1) := by decide +kernel
theorem dX5_needOpen_18 : decode cX5_needOpen 18 = .ok (.return_, 1) := by decide +kernel
theorem dX5_needPassed_0 : decode cX5_needPassed 0 = .ok (.aload_n 0, 1) := by decide +kernel
theorem dX5_needPassed_1 : decode cX5_needPassed 1 = .ok (.getfield 141, 3) := by decide +kernel
theorem dX5_needPassed_4 : decode cX5_needPassed 4 = .ok (.iconst 1, 1) := by decide +kernel
theorem dX5_needPassed_5 : decode cX5_needPassed 5 = .ok (.if_icmp .eq 14, 3) := by decide +kernel
theorem dX5_needPassed_8 : decode cX5_needPassed 8 = .ok (.new 63, 3) := by decide +kernel
theorem dX5_needPassed_11 : decode cX5_needPassed 11 = .ok (.dup, 1) := by decide +kernel
theorem dX5_needPassed_12 : decode cX5_needPassed 12 = .ok (.ldc_w 311, 3) := by decide +kernel
theorem dX5_needPassed_15 : decode cX5_needPassed 15 = .ok (.invokespecial 67, 3) := by decide +kernel
theorem dX5_needPassed_18 : decode cX5_needPassed 18 = .ok (.athrow, 1) := by decide +kernel
theorem dX5_needPassed_19 : decode cX5_needPassed 19 = .ok (.return_, 1) := by decide +kernel
theorem dX5_needNotWithdrawn_0 : decode cX5_needNotWithdrawn 0 = .ok (.aload_n 0, 1) := by decide +kernel
theorem dX5_needNotWithdrawn_1 : decode cX5_needNotWithdrawn 1 = .ok (.getfield 171, 3) := by decide +kernel
theorem dX5_needNotWithdrawn_4 : decode cX5_needNotWithdrawn 4 = .ok (.iconst 2, 1) := by decide +kernel
theorem dX5_needNotWithdrawn_5 : decode cX5_needNotWithdrawn 5 = .ok (.if_icmp .ne 14, 3) := by decide +kernel
theorem dX5_needNotWithdrawn_8 : decode cX5_needNotWithdrawn 8 = .ok (.new 63, 3) := by decide +kernel
theorem dX5_needNotWithdrawn_11 : decode cX5_needNotWithdrawn 11 = .ok (.dup, 1) := by decide +kernel
theorem dX5_needNotWithdrawn_12 : decode cX5_needNotWithdrawn 12 = .ok (.ldc_w 313, 3) := by decide +kernel
theorem dX5_needNotWithdrawn_15 : decode cX5_needNotWithdrawn 15 = .ok (.invokespecial 67, 3) := by decide +kernel
theorem dX5_needNotWithdrawn_18 : decode cX5_needNotWithdrawn 18 = .ok (.athrow, 1) := by decide +kernel
theorem dX5_needNotWithdrawn_19 : decode cX5_needNotWithdrawn 19 = .ok (.return_, 1) := by decide +kernel
theorem dX5_needFree_0 : decode cX5_needFree 0 = .ok (.aload_n 0, 1) := by decide +kernel
theorem dX5_needFree_1 : decode cX5_needFree 1 = .ok (.aload_n 1, 1) := by decide +kernel
theorem dX5_needFree_2 : decode cX5_needFree 2 = .ok (.invokevirtual 201, 3) := by decide +kernel
theorem dX5_needFree_5 : decode cX5_needFree 5 = .ok (.iload_n 2, 1) := by decide +kernel
theorem dX5_needFree_6 : decode cX5_needFree 6 = .ok (.if_icmp .ge 14, 3) := by decide +kernel
theorem dX5_needFree_9 : decode cX5_needFree 9 = .ok (.new 63, 3) := by decide +kernel
theorem dX5_needFree_12 : decode cX5_needFree 12 = .ok (.dup, 1) := by decide +kernel
theorem dX5_needFree_13 : decode cX5_needFree 13 = .ok (.ldc_w 315, 3) := by decide +kernel
theorem dX5_needFree_16 : decode cX5_needFree 16 = .ok (.invokespecial 67, 3) := by decide +kernel
theorem dX5_needFree_19 : decode cX5_needFree 19 = .ok (.athrow, 1) := by decide +kernel
theorem dX5_needFree_20 : decode cX5_needFree 20 = .ok (.return_, 1) := by decide +kernel
theorem dX5_payFrom_0 : decode cX5_payFrom 0 = .ok (.aload_n 0, 1) := by decide +kernel
theorem dX5_payFrom_1 : decode cX5_payFrom 1 = .ok (.invokevirtual 317, 3) := by decide +kernel
theorem dX5_payFrom_4 : decode cX5_payFrom 4 = .ok (.iload_n 1, 1) := by decide +kernel
theorem dX5_payFrom_5 : decode cX5_payFrom 5 = .ok (.if_icmp .ge 14, 3) := by decide +kernel
theorem dX5_payFrom_8 : decode cX5_payFrom 8 = .ok (.new 63, 3) := by decide +kernel
theorem dX5_payFrom_11 : decode cX5_payFrom 11 = .ok (.dup, 1) := by decide +kernel
theorem dX5_payFrom_12 : decode cX5_payFrom 12 = .ok (.ldc_w 320, 3) := by decide +kernel
theorem dX5_payFrom_15 : decode cX5_payFrom 15 = .ok (.invokespecial 67, 3) := by decide +kernel
theorem dX5_payFrom_18 : decode cX5_payFrom 18 = .ok (.athrow, 1) := by decide +kernel
theorem dX5_payFrom_19 : decode cX5_payFrom 19 = .ok (.aload_n 0, 1) := by decide +kernel
theorem dX5_payFrom_20 : decode cX5_payFrom 20 = .ok (.dup, 1) := by decide +kernel
theorem dX5_payFrom_21 : decode cX5_payFrom 21 = .ok (.getfield 286, 3) := by decide +kernel
theorem dX5_payFrom_24 : decode cX5_payFrom 24 = .ok (.iload_n 1, 1) := by decide +kernel
theorem dX5_payFrom_25 : decode cX5_payFrom 25 = .ok (.iadd, 1) := by decide +kernel
theorem dX5_payFrom_26 : decode cX5_payFrom 26 = .ok (.putfield 286, 3) := by decide +kernel
theorem dX5_payFrom_29 : decode cX5_payFrom 29 = .ok (.return_, 1) := by decide +kernel
theorem dX5_addAmendment_0 : decode cX5_addAmendment 0 = .ok (.aload_n 0, 1) := by decide +kernel
theorem dX5_addAmendment_1 : decode cX5_addAmendment 1 = .ok (.getfield 22, 3) := by decide +kernel
theorem dX5_addAmendment_4 : decode cX5_addAmendment 4 = .ok (.invokevirtual 59, 3) := by decide +kernel
theorem dX5_addAmendment_7 : decode cX5_addAmendment 7 = .ok (.istore 4, 2) := by decide +kernel
theorem dX5_addAmendment_9 : decode cX5_addAmendment 9 = .ok (.aload_n 0, 1) := by decide +kernel
theorem dX5_addAmendment_10 : decode cX5_addAmendment 10 = .ok (.getfield 22, 3) := by decide +kernel
theorem dX5_addAmendment_13 : decode cX5_addAmendment 13 = .ok (.new 101, 3) := by decide +kernel
theorem dX5_addAmendment_16 : decode cX5_addAmendment 16 = .ok (.dup, 1) := by decide +kernel
theorem dX5_addAmendment_17 : decode cX5_addAmendment 17 = .ok (.iload 4, 2) := by decide +kernel
theorem dX5_addAmendment_19 : decode cX5_addAmendment 19 = .ok (.aload_n 1, 1) := by decide +kernel
theorem dX5_addAmendment_20 : decode cX5_addAmendment 20 = .ok (.aload_n 2, 1) := by decide +kernel
theorem dX5_addAmendment_21 : decode cX5_addAmendment 21 = .ok (.iload_n 3, 1) := by decide +kernel
theorem dX5_addAmendment_22 : decode cX5_addAmendment 22 = .ok (.invokespecial 322, 3) := by decide +kernel
theorem dX5_addAmendment_25 : decode cX5_addAmendment 25 = .ok (.invokevirtual 43, 3) := by decide +kernel
theorem dX5_addAmendment_28 : decode cX5_addAmendment 28 = .ok (.pop, 1) := by decide +kernel
theorem dX5_addAmendment_29 : decode cX5_addAmendment 29 = .ok (.iload 4, 2) := by decide +kernel
theorem dX5_addAmendment_31 : decode cX5_addAmendment 31 = .ok (.ireturn, 1) := by decide +kernel
theorem dX5_countOn_0 : decode cX5_countOn 0 = .ok (.iconst 0, 1) := by decide +kernel
theorem dX5_countOn_1 : decode cX5_countOn 1 = .ok (.istore_n 2, 1) := by decide +kernel
theorem dX5_countOn_2 : decode cX5_countOn 2 = .ok (.iconst 0, 1) := by decide +kernel
theorem dX5_countOn_3 : decode cX5_countOn 3 = .ok (.istore_n 3, 1) := by decide +kernel
theorem dX5_countOn_4 : decode cX5_countOn 4 = .ok (.iload_n 3, 1) := by decide +kernel
theorem dX5_countOn_5 : decode cX5_countOn 5 = .ok (.aload_n 0, 1) := by decide +kernel
theorem dX5_countOn_6 : decode cX5_countOn 6 = .ok (.getfield 22, 3) := by decide +kernel
theorem dX5_countOn_9 : decode cX5_countOn 9 = .ok (.invokevirtual 59, 3) := by decide +kernel
theorem dX5_countOn_12 : decode cX5_countOn 12 = .ok (.if_icmp .ge 30, 3) := by decide +kernel
theorem dX5_countOn_15 : decode cX5_countOn 15 = .ok (.aload_n 0, 1) := by decide +kernel
theorem dX5_countOn_16 : decode cX5_countOn 16 = .ok (.getfield 22, 3) := by decide +kernel
theorem dX5_countOn_19 : decode cX5_countOn 19 = .ok (.iload_n 3, 1) := by decide +kernel
theorem dX5_countOn_20 : decode cX5_countOn 20 = .ok (.invokevirtual 241, 3) := by decide +kernel
theorem dX5_countOn_23 : decode cX5_countOn 23 = .ok (.checkcast 101, 3) := by decide +kernel
theorem dX5_countOn_26 : decode cX5_countOn 26 = .ok (.getfield 264, 3) := by decide +kernel
theorem dX5_countOn_29 : decode cX5_countOn 29 = .ok (.aload_n 1, 1) := by decide +kernel
theorem dX5_countOn_30 : decode cX5_countOn 30 = .ok (.if_acmp .ne 6, 3) := by decide +kernel
theorem dX5_countOn_33 : decode cX5_countOn 33 = .ok (.iinc 2 1, 3) := by decide +kernel
theorem dX5_countOn_36 : decode cX5_countOn 36 = .ok (.iinc 3 1, 3) := by decide +kernel
theorem dX5_countOn_39 : decode cX5_countOn 39 = .ok (.goto (-35), 3) := by decide +kernel
theorem dX5_countOn_42 : decode cX5_countOn 42 = .ok (.iload_n 2, 1) := by decide +kernel
theorem dX5_countOn_43 : decode cX5_countOn 43 = .ok (.ireturn, 1) := by decide +kernel
theorem dX5_isOneOpenOn_0 : decode cX5_isOneOpenOn 0 = .ok (.iconst 0, 1) := by decide +kernel
theorem dX5_isOneOpenOn_1 : decode cX5_isOneOpenOn 1 = .ok (.istore_n 2, 1) := by decide +kernel
theorem dX5_isOneOpenOn_2 : decode cX5_isOneOpenOn 2 = .ok (.iload_n 2, 1) := by decide +kernel
theorem dX5_isOneOpenOn_3 : decode cX5_isOneOpenOn 3 = .ok (.aload_n 0, 1) := by decide +kernel
theorem dX5_isOneOpenOn_4 : decode cX5_isOneOpenOn 4 = .ok (.getfield 22, 3) := by decide +kernel
theorem dX5_isOneOpenOn_7 : decode cX5_isOneOpenOn 7 = .ok (.invokevirtual 59, 3) := by decide +kernel
theorem dX5_isOneOpenOn_10 : decode cX5_isOneOpenOn 10 = .ok (.if_icmp .ge 38, 3) := by decide +kernel
theorem dX5_isOneOpenOn_13 : decode cX5_isOneOpenOn 13 = .ok (.aload_n 0, 1) := by decide +kernel
theorem dX5_isOneOpenOn_14 : decode cX5_isOneOpenOn 14 = .ok (.getfield 22, 3) := by decide +kernel
theorem dX5_isOneOpenOn_17 : decode cX5_isOneOpenOn 17 = .ok (.iload_n 2, 1) := by decide +kernel
theorem dX5_isOneOpenOn_18 : decode cX5_isOneOpenOn 18 = .ok (.invokevirtual 241, 3) := by decide +kernel
theorem dX5_isOneOpenOn_21 : decode cX5_isOneOpenOn 21 = .ok (.checkcast 101, 3) := by decide +kernel
theorem dX5_isOneOpenOn_24 : decode cX5_isOneOpenOn 24 = .ok (.astore_n 3, 1) := by decide +kernel
theorem dX5_isOneOpenOn_25 : decode cX5_isOneOpenOn 25 = .ok (.aload_n 3, 1) := by decide +kernel
theorem dX5_isOneOpenOn_26 : decode cX5_isOneOpenOn 26 = .ok (.getfield 264, 3) := by decide +kernel
theorem dX5_isOneOpenOn_29 : decode cX5_isOneOpenOn 29 = .ok (.aload_n 1, 1) := by decide +kernel
theorem dX5_isOneOpenOn_30 : decode cX5_isOneOpenOn 30 = .ok (.if_acmp .ne 12, 3) := by decide +kernel
theorem dX5_isOneOpenOn_33 : decode cX5_isOneOpenOn 33 = .ok (.aload_n 3, 1) := by decide +kernel
theorem dX5_isOneOpenOn_34 : decode cX5_isOneOpenOn 34 = .ok (.getfield 141, 3) := by decide +kernel
theorem dX5_isOneOpenOn_37 : decode cX5_isOneOpenOn 37 = .ok (.ifCond .ne 5, 3) := by decide +kernel
theorem dX5_isOneOpenOn_40 : decode cX5_isOneOpenOn 40 = .ok (.iconst 1, 1) := by decide +kernel
theorem dX5_isOneOpenOn_41 : decode cX5_isOneOpenOn 41 = .ok (.ireturn, 1) := by decide +kernel
theorem dX5_isOneOpenOn_42 : decode cX5_isOneOpenOn 42 = .ok (.iinc 2 1, 3) := by decide +kernel
theorem dX5_isOneOpenOn_45 : decode cX5_isOneOpenOn 45 = .ok (.goto (-43), 3) := by decide +kernel
theorem dX5_isOneOpenOn_48 : decode cX5_isOneOpenOn 48 = .ok (.iconst 0, 1) := by decide +kernel
theorem dX5_isOneOpenOn_49 : decode cX5_isOneOpenOn 49 = .ok (.ireturn, 1) := by decide +kernel
theorem dX5_makePassed_0 : decode cX5_makePassed 0 = .ok (.aload_n 1, 1) := by decide +kernel
theorem dX5_makePassed_1 : decode cX5_makePassed 1 = .ok (.iconst 1, 1) := by decide +kernel
theorem dX5_makePassed_2 : decode cX5_makePassed 2 = .ok (.putfield 141, 3) := by decide +kernel
theorem dX5_makePassed_5 : decode cX5_makePassed 5 = .ok (.aload_n 0, 1) := by decide +kernel
theorem dX5_makePassed_6 : decode cX5_makePassed 6 = .ok (.invokevirtual 325, 3) := by decide +kernel
theorem dX5_makePassed_9 : decode cX5_makePassed 9 = .ok (.aload_n 1, 1) := by decide +kernel
theorem dX5_makePassed_10 : decode cX5_makePassed 10 = .ok (.getfield 264, 3) := by decide +kernel
theorem dX5_makePassed_13 : decode cX5_makePassed 13 = .ok (.ifnonnull 12, 3) := by decide +kernel
theorem dX5_makePassed_16 : decode cX5_makePassed 16 = .ok (.aload_n 0, 1) := by decide +kernel
theorem dX5_makePassed_17 : decode cX5_makePassed 17 = .ok (.aload_n 1, 1) := by decide +kernel
theorem dX5_makePassed_18 : decode cX5_makePassed 18 = .ok (.getfield 100, 3) := by decide +kernel
theorem dX5_makePassed_21 : decode cX5_makePassed 21 = .ok (.invokevirtual 328, 3) := by decide +kernel
theorem dX5_makePassed_24 : decode cX5_makePassed 24 = .ok (.pop, 1) := by decide +kernel
theorem dX5_makePassed_25 : decode cX5_makePassed 25 = .ok (.return_, 1) := by decide +kernel
theorem dX5_makeFallen_0 : decode cX5_makeFallen 0 = .ok (.aload_n 1, 1) := by decide +kernel
theorem dX5_makeFallen_1 : decode cX5_makeFallen 1 = .ok (.iconst 2, 1) := by decide +kernel
theorem dX5_makeFallen_2 : decode cX5_makeFallen 2 = .ok (.putfield 141, 3) := by decide +kernel
theorem dX5_makeFallen_5 : decode cX5_makeFallen 5 = .ok (.aload_n 0, 1) := by decide +kernel
theorem dX5_makeFallen_6 : decode cX5_makeFallen 6 = .ok (.invokevirtual 331, 3) := by decide +kernel
theorem dX5_makeFallen_9 : decode cX5_makeFallen 9 = .ok (.aload_n 0, 1) := by decide +kernel
theorem dX5_makeFallen_10 : decode cX5_makeFallen 10 = .ok (.invokevirtual 325, 3) := by decide +kernel
theorem dX5_makeFallen_13 : decode cX5_makeFallen 13 = .ok (.aload_n 0, 1) := by decide +kernel
theorem dX5_makeFallen_14 : decode cX5_makeFallen 14 = .ok (.invokevirtual 334, 3) := by decide +kernel
theorem dX5_makeFallen_17 : decode cX5_makeFallen 17 = .ok (.istore_n 2, 1) := by decide +kernel
theorem dX5_makeFallen_18 : decode cX5_makeFallen 18 = .ok (.iload_n 2, 1) := by decide +kernel
theorem dX5_makeFallen_19 : decode cX5_makeFallen 19 = .ok (.aload_n 0, 1) := by decide +kernel
theorem dX5_makeFallen_20 : decode cX5_makeFallen 20 = .ok (.aload_n 1, 1) := by decide +kernel
theorem dX5_makeFallen_21 : decode cX5_makeFallen 21 = .ok (.getfield 100, 3) := by decide +kernel
theorem dX5_makeFallen_24 : decode cX5_makeFallen 24 = .ok (.invokevirtual 328, 3) := by decide +kernel
theorem dX5_makeFallen_27 : decode cX5_makeFallen 27 = .ok (.iadd, 1) := by decide +kernel
theorem dX5_makeFallen_28 : decode cX5_makeFallen 28 = .ok (.ireturn, 1) := by decide +kernel
theorem dX5_fellAllOnFallen_0 : decode cX5_fellAllOnFallen 0 = .ok (.iconst 0, 1) := by decide +kernel
theorem dX5_fellAllOnFallen_1 : decode cX5_fellAllOnFallen 1 = .ok (.istore_n 1, 1) := by decide +kernel
theorem dX5_fellAllOnFallen_2 : decode cX5_fellAllOnFallen 2 = .ok (.iload_n 1, 1) := by decide +kernel
theorem dX5_fellAllOnFallen_3 : decode cX5_fellAllOnFallen 3 = .ok (.aload_n 0, 1) := by decide +kernel
theorem dX5_fellAllOnFallen_4 : decode cX5_fellAllOnFallen 4 = .ok (.getfield 22, 3) := by decide +kernel
theorem dX5_fellAllOnFallen_7 : decode cX5_fellAllOnFallen 7 = .ok (.invokevirtual 59, 3) := by decide +kernel
theorem dX5_fellAllOnFallen_10 : decode cX5_fellAllOnFallen 10 = .ok (.if_icmp .ge 44, 3) := by decide +kernel
theorem dX5_fellAllOnFallen_13 : decode cX5_fellAllOnFallen 13 = .ok (.aload_n 0, 1) := by decide +kernel
theorem dX5_fellAllOnFallen_14 : decode cX5_fellAllOnFallen 14 = .ok (.getfield 22, 3) := by decide +kernel
theorem dX5_fellAllOnFallen_17 : decode cX5_fellAllOnFallen 17 = .ok (.iload_n 1, 1) := by decide +kernel
theorem dX5_fellAllOnFallen_18 : decode cX5_fellAllOnFallen 18 = .ok (.invokevirtual 241, 3) := by decide +kernel
theorem dX5_fellAllOnFallen_21 : decode cX5_fellAllOnFallen 21 = .ok (.checkcast 101, 3) := by decide +kernel
theorem dX5_fellAllOnFallen_24 : decode cX5_fellAllOnFallen 24 = .ok (.astore_n 2, 1) := by decide +kernel
theorem dX5_fellAllOnFallen_25 : decode cX5_fellAllOnFallen 25 = .ok (.aload_n 2, 1) := by decide +kernel
theorem dX5_fellAllOnFallen_26 : decode cX5_fellAllOnFallen 26 = .ok (.getfield 264, 3) := by decide +kernel
theorem dX5_fellAllOnFallen_29 : decode cX5_fellAllOnFallen 29 = .ok (.ifnull 19, 3) := by decide +kernel
theorem dX5_fellAllOnFallen_32 : decode cX5_fellAllOnFallen 32 = .ok (.aload_n 2, 1) := by decide +kernel
theorem dX5_fellAllOnFallen_33 : decode cX5_fellAllOnFallen 33 = .ok (.getfield 264, 3) := by decide +kernel
theorem dX5_fellAllOnFallen_36 : decode cX5_fellAllOnFallen 36 = .ok (.getfield 141, 3) := by decide +kernel
theorem dX5_fellAllOnFallen_39 : decode cX5_fellAllOnFallen 39 = .ok (.iconst 2, 1) := by decide +kernel
theorem dX5_fellAllOnFallen_40 : decode cX5_fellAllOnFallen 40 = .ok (.if_icmp .ne 8, 3) := by decide +kernel
theorem dX5_fellAllOnFallen_43 : decode cX5_fellAllOnFallen 43 = .ok (.aload_n 2, 1) := by decide +kernel
theorem dX5_fellAllOnFallen_44 : decode cX5_fellAllOnFallen 44 = .ok (.iconst 2, 1) := by decide +kernel
theorem dX5_fellAllOnFallen_45 : decode cX5_fellAllOnFallen 45 = .ok (.putfield 141, 3) := by decide +kernel
theorem dX5_fellAllOnFallen_48 : decode cX5_fellAllOnFallen 48 = .ok (.iinc 1 1, 3) := by decide +kernel
theorem dX5_fellAllOnFallen_51 : decode cX5_fellAllOnFallen 51 = .ok (.goto (-49), 3) := by decide +kernel
theorem dX5_fellAllOnFallen_54 : decode cX5_fellAllOnFallen 54 = .ok (.return_, 1) := by decide +kernel
theorem dX5_reckonWhatIsBrought_0 : decode cX5_reckonWhatIsBrought 0 = .ok (.iconst 0, 1) := by decide +kernel
theorem dX5_reckonWhatIsBrought_1 : decode cX5_reckonWhatIsBrought 1 = .ok (.istore_n 1, 1) := by decide +kernel
theorem dX5_reckonWhatIsBrought_2 : decode cX5_reckonWhatIsBrought 2 = .ok (.iload_n 1, 1) := by decide +kernel
theorem dX5_reckonWhatIsBrought_3 : decode cX5_reckonWhatIsBrought 3 = .ok (.aload_n 0, 1) := by decide +kernel
theorem dX5_reckonWhatIsBrought_4 : decode cX5_reckonWhatIsBrought 4 = .ok (.getfield 19, 3) := by decide +kernel
theorem dX5_reckonWhatIsBrought_7 : decode cX5_reckonWhatIsBrought 7 = .ok (.invokevirtual 59, 3) := by decide +kernel
theorem dX5_reckonWhatIsBrought_10 : decode cX5_reckonWhatIsBrought 10 = .ok (.if_icmp .ge 24, 3) := by decide +kernel
theorem dX5_reckonWhatIsBrought_13 : decode cX5_reckonWhatIsBrought 13 = .ok (.aload_n 0, 1) := by decide +kernel
theorem dX5_reckonWhatIsBrought_14 : decode cX5_reckonWhatIsBrought 14 = .ok (.getfield 19, 3) := by decide +kernel
theorem dX5_reckonWhatIsBrought_17 : decode cX5_reckonWhatIsBrought 17 = .ok (.iload_n 1, 1) := by decide +kernel
theorem dX5_reckonWhatIsBrought_18 : decode cX5_reckonWhatIsBrought 18 = .ok (.invokevirtual 241, 3) := by decide +kernel
theorem dX5_reckonWhatIsBrought_21 : decode cX5_reckonWhatIsBrought 21 = .ok (.checkcast 70, 3) := by decide +kernel
theorem dX5_reckonWhatIsBrought_24 : decode cX5_reckonWhatIsBrought 24 = .ok (.iconst 0, 1) := by decide +kernel
theorem dX5_reckonWhatIsBrought_25 : decode cX5_reckonWhatIsBrought 25 = .ok (.putfield 337, 3) := by decide +kernel
theorem dX5_reckonWhatIsBrought_28 : decode cX5_reckonWhatIsBrought 28 = .ok (.iinc 1 1, 3) := by decide +kernel
theorem dX5_reckonWhatIsBrought_31 : decode cX5_reckonWhatIsBrought 31 = .ok (.goto (-29), 3) := by decide +kernel
theorem dX5_reckonWhatIsBrought_34 : decode cX5_reckonWhatIsBrought 34 = .ok (.iconst 0, 1) := by decide +kernel
theorem dX5_reckonWhatIsBrought_35 : decode cX5_reckonWhatIsBrought 35 = .ok (.istore_n 1, 1) := by decide +kernel
theorem dX5_reckonWhatIsBrought_36 : decode cX5_reckonWhatIsBrought 36 = .ok (.iload_n 1, 1) := by decide +kernel
theorem dX5_reckonWhatIsBrought_37 : decode cX5_reckonWhatIsBrought 37 = .ok (.aload_n 0, 1) := by decide +kernel
theorem dX5_reckonWhatIsBrought_38 : decode cX5_reckonWhatIsBrought 38 = .ok (.getfield 22, 3) := by decide +kernel
theorem dX5_reckonWhatIsBrought_41 : decode cX5_reckonWhatIsBrought 41 = .ok (.invokevirtual 59, 3) := by decide +kernel
theorem dX5_reckonWhatIsBrought_44 : decode cX5_reckonWhatIsBrought 44 = .ok (.if_icmp .ge 29, 3) := by decide +kernel
theorem dX5_reckonWhatIsBrought_47 : decode cX5_reckonWhatIsBrought 47 = .ok (.aload_n 0, 1) := by decide +kernel
theorem dX5_reckonWhatIsBrought_48 : decode cX5_reckonWhatIsBrought 48 = .ok (.getfield 22, 3) := by decide +kernel
theorem dX5_reckonWhatIsBrought_51 : decode cX5_reckonWhatIsBrought 51 = .ok (.iload_n 1, 1) := by decide +kernel
theorem dX5_reckonWhatIsBrought_52 : decode cX5_reckonWhatIsBrought 52 = .ok (.invokevirtual 241, 3) := by decide +kernel
theorem dX5_reckonWhatIsBrought_55 : decode cX5_reckonWhatIsBrought 55 = .ok (.checkcast 101, 3) := by decide +kernel
theorem dX5_reckonWhatIsBrought_58 : decode cX5_reckonWhatIsBrought 58 = .ok (.astore_n 2, 1) := by decide +kernel
theorem dX5_reckonWhatIsBrought_59 : decode cX5_reckonWhatIsBrought 59 = .ok (.aload_n 2, 1) := by decide +kernel
theorem dX5_reckonWhatIsBrought_60 : decode cX5_reckonWhatIsBrought 60 = .ok (.aload_n 2, 1) := by decide +kernel
theorem dX5_reckonWhatIsBrought_61 : decode cX5_reckonWhatIsBrought 61 = .ok (.getfield 248, 3) := by decide +kernel
theorem dX5_reckonWhatIsBrought_64 : decode cX5_reckonWhatIsBrought 64 = .ok (.putfield 255, 3) := by decide +kernel
theorem dX5_reckonWhatIsBrought_67 : decode cX5_reckonWhatIsBrought 67 = .ok (.iinc 1 1, 3) := by decide +kernel
theorem dX5_reckonWhatIsBrought_70 : decode cX5_reckonWhatIsBrought 70 = .ok (.goto (-34), 3) := by decide +kernel
theorem dX5_reckonWhatIsBrought_73 : decode cX5_reckonWhatIsBrought 73 = .ok (.aload_n 0, 1) := by decide +kernel
theorem dX5_reckonWhatIsBrought_74 : decode cX5_reckonWhatIsBrought 74 = .ok (.getfield 22, 3) := by decide +kernel
theorem dX5_reckonWhatIsBrought_77 : decode cX5_reckonWhatIsBrought 77 = .ok (.invokevirtual 59, 3) := by decide +kernel
theorem dX5_reckonWhatIsBrought_80 : decode cX5_reckonWhatIsBrought 80 = .ok (.iconst 1, 1) := by decide +kernel
theorem dX5_reckonWhatIsBrought_81 : decode cX5_reckonWhatIsBrought 81 = .ok (.isub, 1) := by decide +kernel
theorem dX5_reckonWhatIsBrought_82 : decode cX5_reckonWhatIsBrought 82 = .ok (.istore_n 1, 1) := by decide +kernel
theorem dX5_reckonWhatIsBrought_83 : decode cX5_reckonWhatIsBrought 83 = .ok (.iload_n 1, 1) := by decide +kernel
theorem dX5_reckonWhatIsBrought_84 : decode cX5_reckonWhatIsBrought 84 = .ok (.ifCond .lt 23, 3) := by decide +kernel
theorem dX5_reckonWhatIsBrought_87 : decode cX5_reckonWhatIsBrought 87 = .ok (.aload_n 0, 1) := by decide +kernel
theorem dX5_reckonWhatIsBrought_88 : decode cX5_reckonWhatIsBrought 88 = .ok (.getfield 22, 3) := by decide +kernel
theorem dX5_reckonWhatIsBrought_91 : decode cX5_reckonWhatIsBrought 91 = .ok (.iload_n 1, 1) := by decide +kernel
theorem dX5_reckonWhatIsBrought_92 : decode cX5_reckonWhatIsBrought 92 = .ok (.invokevirtual 241, 3) := by decide +kernel
theorem dX5_reckonWhatIsBrought_95 : decode cX5_reckonWhatIsBrought 95 = .ok (.checkcast 101, 3) := by decide +kernel
theorem dX5_reckonWhatIsBrought_98 : decode cX5_reckonWhatIsBrought 98 = .ok (.invokestatic 340, 3) := by decide +kernel
theorem dX5_reckonWhatIsBrought_101 : decode cX5_reckonWhatIsBrought 101 = .ok (.iinc 1 (-1), 3) := by decide +kernel
theorem dX5_reckonWhatIsBrought_104 : decode cX5_reckonWhatIsBrought 104 = .ok (.goto (-21), 3) := by decide +kernel
theorem dX5_reckonWhatIsBrought_107 : decode cX5_reckonWhatIsBrought 107 = .ok (.return_, 1) := by decide +kernel
theorem dX5_passOn_0 : decode cX5_passOn 0 = .ok (.aload_n 0, 1) := by decide +kernel
theorem dX5_passOn_1 : decode cX5_passOn 1 = .ok (.getfield 141, 3) := by decide +kernel
theorem dX5_passOn_4 : decode cX5_passOn 4 = .ok (.iconst 1, 1) := by decide +kernel
theorem dX5_passOn_5 : decode cX5_passOn 5 = .ok (.if_icmp .eq 4, 3) := by decide +kernel
theorem dX5_passOn_8 : decode cX5_passOn 8 = .ok (.return_, 1) := by decide +kernel
theorem dX5_passOn_9 : decode cX5_passOn 9 = .ok (.aload_n 0, 1) := by decide +kernel
theorem dX5_passOn_10 : decode cX5_passOn 10 = .ok (.getfield 264, 3) := by decide +kernel
theorem dX5_passOn_13 : decode cX5_passOn 13 = .ok (.ifnonnull 22, 3) := by decide +kernel
theorem dX5_passOn_16 : decode cX5_passOn 16 = .ok (.aload_n 0, 1) := by decide +kernel
theorem dX5_passOn_17 : decode cX5_passOn 17 = .ok (.getfield 100, 3) := by decide +kernel
theorem dX5_passOn_20 : decode cX5_passOn 20 = .ok (.dup, 1) := by decide +kernel
theorem dX5_passOn_21 : decode cX5_passOn 21 = .ok (.getfield 337, 3) := by decide +kernel
theorem dX5_passOn_24 : decode cX5_passOn 24 = .ok (.aload_n 0, 1) := by decide +kernel
theorem dX5_passOn_25 : decode cX5_passOn 25 = .ok (.getfield 255, 3) := by decide +kernel
theorem dX5_passOn_28 : decode cX5_passOn 28 = .ok (.iadd, 1) := by decide +kernel
theorem dX5_passOn_29 : decode cX5_passOn 29 = .ok (.putfield 337, 3) := by decide +kernel
theorem dX5_passOn_32 : decode cX5_passOn 32 = .ok (.goto 19, 3) := by decide +kernel
theorem dX5_passOn_35 : decode cX5_passOn 35 = .ok (.aload_n 0, 1) := by decide +kernel
theorem dX5_passOn_36 : decode cX5_passOn 36 = .ok (.getfield 264, 3) := by decide +kernel
theorem dX5_passOn_39 : decode cX5_passOn 39 = .ok (.dup, 1) := by decide +kernel
theorem dX5_passOn_40 : decode cX5_passOn 40 = .ok (.getfield 255, 3) := by decide +kernel
theorem dX5_passOn_43 : decode cX5_passOn 43 = .ok (.aload_n 0, 1) := by decide +kernel
theorem dX5_passOn_44 : decode cX5_passOn 44 = .ok (.getfield 255, 3) := by decide +kernel
theorem dX5_passOn_47 : decode cX5_passOn 47 = .ok (.iadd, 1) := by decide +kernel
theorem dX5_passOn_48 : decode cX5_passOn 48 = .ok (.putfield 255, 3) := by decide +kernel
theorem dX5_passOn_51 : decode cX5_passOn 51 = .ok (.return_, 1) := by decide +kernel
theorem dX5_countsByVotes_0 : decode cX5_countsByVotes 0 = .ok (.aload_n 0, 1) := by decide +kernel
theorem dX5_countsByVotes_1 : decode cX5_countsByVotes 1 = .ok (.astore_n 1, 1) := by decide +kernel
theorem dX5_countsByVotes_2 : decode cX5_countsByVotes 2 = .ok (.aload_n 1, 1) := by decide +kernel
theorem dX5_countsByVotes_3 : decode cX5_countsByVotes 3 = .ok (.ifnull 34, 3) := by decide +kernel
theorem dX5_countsByVotes_6 : decode cX5_countsByVotes 6 = .ok (.aload_n 1, 1) := by decide +kernel
theorem dX5_countsByVotes_7 : decode cX5_countsByVotes 7 = .ok (.getfield 141, 3) := by decide +kernel
theorem dX5_countsByVotes_10 : decode cX5_countsByVotes 10 = .ok (.ifCond .eq 17, 3) := by decide +kernel
theorem dX5_countsByVotes_13 : decode cX5_countsByVotes 13 = .ok (.aload_n 1, 1) := by decide +kernel
theorem dX5_countsByVotes_14 : decode cX5_countsByVotes 14 = .ok (.getfield 147, 3) := by decide +kernel
theorem dX5_countsByVotes_17 : decode cX5_countsByVotes 17 = .ok (.ifCond .ne 10, 3) := by decide +kernel
theorem dX5_countsByVotes_20 : decode cX5_countsByVotes 20 = .ok (.aload_n 1, 1) := by decide +kernel
theorem dX5_countsByVotes_21 : decode cX5_countsByVotes 21 = .ok (.invokevirtual 124, 3) := by decide +kernel
theorem dX5_countsByVotes_24 : decode cX5_countsByVotes 24 = .ok (.ifCond .ne 5, 3) := by decide +kernel
theorem dX5_countsByVotes_27 : decode cX5_countsByVotes 27 = .ok (.iconst 0, 1) := by decide +kernel
theorem dX5_countsByVotes_28 : decode cX5_countsByVotes 28 = .ok (.ireturn, 1) := by decide +kernel
theorem dX5_countsByVotes_29 : decode cX5_countsByVotes 29 = .ok (.aload_n 1, 1) := by decide +kernel
theorem dX5_countsByVotes_30 : decode cX5_countsByVotes 30 = .ok (.getfield 264, 3) := by decide +kernel
theorem dX5_countsByVotes_33 : decode cX5_countsByVotes 33 = .ok (.astore_n 1, 1) := by decide +kernel
theorem dX5_countsByVotes_34 : decode cX5_countsByVotes 34 = .ok (.goto (-32), 3) := by decide +kernel
theorem dX5_countsByVotes_37 : decode cX5_countsByVotes 37 = .ok (.iconst 1, 1) := by decide +kernel
theorem dX5_countsByVotes_38 : decode cX5_countsByVotes 38 = .ok (.ireturn, 1) := by decide +kernel
theorem dX5_boundOf_0 : decode cX5_boundOf 0 = .ok (.aload_n 1, 1) := by decide +kernel
theorem dX5_boundOf_1 : decode cX5_boundOf 1 = .ok (.getfield 198, 3) := by decide +kernel
theorem dX5_boundOf_4 : decode cX5_boundOf 4 = .ok (.istore_n 2, 1) := by decide +kernel
theorem dX5_boundOf_5 : decode cX5_boundOf 5 = .ok (.iconst 0, 1) := by decide +kernel
theorem dX5_boundOf_6 : decode cX5_boundOf 6 = .ok (.istore_n 3, 1) := by decide +kernel
theorem dX5_boundOf_7 : decode cX5_boundOf 7 = .ok (.iload_n 3, 1) := by decide +kernel
theorem dX5_boundOf_8 : decode cX5_boundOf 8 = .ok (.aload_n 0, 1) := by decide +kernel
theorem dX5_boundOf_9 : decode cX5_boundOf 9 = .ok (.getfield 25, 3) := by decide +kernel
theorem dX5_boundOf_12 : decode cX5_boundOf 12 = .ok (.invokevirtual 59, 3) := by decide +kernel
theorem dX5_boundOf_15 : decode cX5_boundOf 15 = .ok (.if_icmp .ge 39, 3) := by decide +kernel
theorem dX5_boundOf_18 : decode cX5_boundOf 18 = .ok (.aload_n 0, 1) := by decide +kernel
theorem dX5_boundOf_19 : decode cX5_boundOf 19 = .ok (.getfield 25, 3) := by decide +kernel
theorem dX5_boundOf_22 : decode cX5_boundOf 22 = .ok (.iload_n 3, 1) := by decide +kernel
theorem dX5_boundOf_23 : decode cX5_boundOf 23 = .ok (.invokevirtual 241, 3) := by decide +kernel
theorem dX5_boundOf_26 : decode cX5_boundOf 26 = .ok (.checkcast 162, 3) := by decide +kernel
theorem dX5_boundOf_29 : decode cX5_boundOf 29 = .ok (.astore 4, 2) := by decide +kernel
theorem dX5_boundOf_31 : decode cX5_boundOf 31 = .ok (.aload 4, 2) := by decide +kernel
theorem dX5_boundOf_33 : decode cX5_boundOf 33 = .ok (.getfield 182, 3) := by decide +kernel
theorem dX5_boundOf_36 : decode cX5_boundOf 36 = .ok (.aload_n 1, 1) := by decide +kernel
theorem dX5_boundOf_37 : decode cX5_boundOf 37 = .ok (.if_acmp .ne 11, 3) := by decide +kernel
theorem dX5_boundOf_40 : decode cX5_boundOf 40 = .ok (.iload_n 2, 1) := by decide +kernel
theorem dX5_boundOf_41 : decode cX5_boundOf 41 = .ok (.aload 4, 2) := by decide +kernel
theorem dX5_boundOf_43 : decode cX5_boundOf 43 = .ok (.invokevirtual 343, 3) := by decide +kernel
theorem dX5_boundOf_46 : decode cX5_boundOf 46 = .ok (.iadd, 1) := by decide +kernel
theorem dX5_boundOf_47 : decode cX5_boundOf 47 = .ok (.istore_n 2, 1) := by decide +kernel
theorem dX5_boundOf_48 : decode cX5_boundOf 48 = .ok (.iinc 3 1, 3) := by decide +kernel
theorem dX5_boundOf_51 : decode cX5_boundOf 51 = .ok (.goto (-44), 3) := by decide +kernel
theorem dX5_boundOf_54 : decode cX5_boundOf 54 = .ok (.iload_n 2, 1) := by decide +kernel
theorem dX5_boundOf_55 : decode cX5_boundOf 55 = .ok (.ireturn, 1) := by decide +kernel
theorem dX5_freeOf_0 : decode cX5_freeOf 0 = .ok (.aload_n 1, 1) := by decide +kernel
theorem dX5_freeOf_1 : decode cX5_freeOf 1 = .ok (.invokevirtual 221, 3) := by decide +kernel
theorem dX5_freeOf_4 : decode cX5_freeOf 4 = .ok (.aload_n 0, 1) := by decide +kernel
theorem dX5_freeOf_5 : decode cX5_freeOf 5 = .ok (.aload_n 1, 1) := by decide +kernel
theorem dX5_freeOf_6 : decode cX5_freeOf 6 = .ok (.invokevirtual 224, 3) := by decide +kernel
theorem dX5_freeOf_9 : decode cX5_freeOf 9 = .ok (.isub, 1) := by decide +kernel
theorem dX5_freeOf_10 : decode cX5_freeOf 10 = .ok (.ireturn, 1) := by decide +kernel
theorem dX5_standsOfLinesFrom_0 : decode cX5_standsOfLinesFrom 0 = .ok (.iconst 0, 1) := by decide +kernel
theorem dX5_standsOfLinesFrom_1 : decode cX5_standsOfLinesFrom 1 = .ok (.istore_n 2, 1) := by decide +kernel
theorem dX5_standsOfLinesFrom_2 : decode cX5_standsOfLinesFrom 2 = .ok (.iconst 0, 1) := by decide +kernel
theorem dX5_standsOfLinesFrom_3 : decode cX5_standsOfLinesFrom 3 = .ok (.istore_n 3, 1) := by decide +kernel
theorem dX5_standsOfLinesFrom_4 : decode cX5_standsOfLinesFrom 4 = .ok (.iload_n 3, 1) := by decide +kernel
theorem dX5_standsOfLinesFrom_5 : decode cX5_standsOfLinesFrom 5 = .ok (.aload_n 0, 1) := by decide +kernel
theorem dX5_standsOfLinesFrom_6 : decode cX5_standsOfLinesFrom 6 = .ok (.getfield 19, 3) := by decide +kernel
theorem dX5_standsOfLinesFrom_9 : decode cX5_standsOfLinesFrom 9 = .ok (.invokevirtual 59, 3) := by decide +kernel
theorem dX5_standsOfLinesFrom_12 : decode cX5_standsOfLinesFrom 12 = .ok (.if_icmp .ge 39, 3) := by decide +kernel
theorem dX5_standsOfLinesFrom_15 : decode cX5_standsOfLinesFrom 15 = .ok (.aload_n 0, 1) := by decide +kernel
theorem dX5_standsOfLinesFrom_16 : decode cX5_standsOfLinesFrom 16 = .ok (.getfield 19, 3) := by decide +kernel
theorem dX5_standsOfLinesFrom_19 : decode cX5_standsOfLinesFrom 19 = .ok (.iload_n 3, 1) := by decide +kernel
theorem dX5_standsOfLinesFrom_20 : decode cX5_standsOfLinesFrom 20 = .ok (.invokevirtual 241, 3) := by decide +kernel
theorem dX5_standsOfLinesFrom_23 : decode cX5_standsOfLinesFrom 23 = .ok (.checkcast 70, 3) := by decide +kernel
theorem dX5_standsOfLinesFrom_26 : decode cX5_standsOfLinesFrom 26 = .ok (.astore 4, 2) := by decide +kernel
theorem dX5_standsOfLinesFrom_28 : decode cX5_standsOfLinesFrom 28 = .ok (.aload 4, 2) := by decide +kernel
theorem dX5_standsOfLinesFrom_30 : decode cX5_standsOfLinesFrom 30 = .ok (.getfield 183, 3) := by decide +kernel
theorem dX5_standsOfLinesFrom_33 : decode cX5_standsOfLinesFrom 33 = .ok (.aload_n 1, 1) := by decide +kernel
theorem dX5_standsOfLinesFrom_34 : decode cX5_standsOfLinesFrom 34 = .ok (.if_acmp .ne 11, 3) := by decide +kernel
theorem dX5_standsOfLinesFrom_37 : decode cX5_standsOfLinesFrom 37 = .ok (.iload_n 2, 1) := by decide +kernel
theorem dX5_standsOfLinesFrom_38 : decode cX5_standsOfLinesFrom 38 = .ok (.aload 4, 2) := by decide +kernel
theorem dX5_standsOfLinesFrom_40 : decode cX5_standsOfLinesFrom 40 = .ok (.invokevirtual 221, 3) := by decide +kernel
theorem dX5_standsOfLinesFrom_43 : decode cX5_standsOfLinesFrom 43 = .ok (.iadd, 1) := by decide +kernel
theorem dX5_standsOfLinesFrom_44 : decode cX5_standsOfLinesFrom 44 = .ok (.istore_n 2, 1) := by decide +kernel
theorem dX5_standsOfLinesFrom_45 : decode cX5_standsOfLinesFrom 45 = .ok (.iinc 3 1, 3) := by decide +kernel
theorem dX5_standsOfLinesFrom_48 : decode cX5_standsOfLinesFrom 48 = .ok (.goto (-44), 3) := by decide +kernel
theorem dX5_standsOfLinesFrom_51 : decode cX5_standsOfLinesFrom 51 = .ok (.iload_n 2, 1) := by decide +kernel
theorem dX5_standsOfLinesFrom_52 : decode cX5_standsOfLinesFrom 52 = .ok (.ireturn, 1) := by decide +kernel
theorem dX5_withdrawThoseOnFallen_0 : decode cX5_withdrawThoseOnFallen 0 = .ok (.iconst 0, 1) := by decide +kernel
theorem dX5_withdrawThoseOnFallen_1 : decode cX5_withdrawThoseOnFallen 1 = .ok (.istore_n 1, 1) := by decide +kernel
theorem dX5_withdrawThoseOnFallen_2 : decode cX5_withdrawThoseOnFallen 2 = .ok (.iconst 0, 1) := by decide +kernel
theorem dX5_withdrawThoseOnFallen_3 : decode cX5_withdrawThoseOnFallen 3 = .ok (.istore_n 2, 1) := by decide +kernel
theorem dX5_withdrawThoseOnFallen_4 : decode cX5_withdrawThoseOnFallen 4 = .ok (.iload_n 2, 1) := by decide +kernel
theorem dX5_withdrawThoseOnFallen_5 : decode cX5_withdrawThoseOnFallen 5 = .ok (.aload_n 0, 1) := by decide +kernel
theorem dX5_withdrawThoseOnFallen_6 : decode cX5_withdrawThoseOnFallen 6 = .ok (.getfield 25, 3) := by decide +kernel
theorem dX5_withdrawThoseOnFallen_9 : decode cX5_withdrawThoseOnFallen 9 = .ok (.invokevirtual 59, 3) := by decide +kernel
theorem dX5_withdrawThoseOnFallen_12 : decode cX5_withdrawThoseOnFallen 12 = .ok (.if_icmp .ge 42, 3) := by decide +kernel
theorem dX5_withdrawThoseOnFallen_15 : decode cX5_withdrawThoseOnFallen 15 = .ok (.aload_n 0, 1) := by decide +kernel
theorem dX5_withdrawThoseOnFallen_16 : decode cX5_withdrawThoseOnFallen 16 = .ok (.getfield 25, 3) := by decide +kernel
theorem dX5_withdrawThoseOnFallen_19 : decode cX5_withdrawThoseOnFallen 19 = .ok (.iload_n 2, 1) := by decide +kernel
theorem dX5_withdrawThoseOnFallen_20 : decode cX5_withdrawThoseOnFallen 20 = .ok (.invokevirtual 241, 3) := by decide +kernel
theorem dX5_withdrawThoseOnFallen_23 : decode cX5_withdrawThoseOnFallen 23 = .ok (.checkcast 162, 3) := by decide +kernel
theorem dX5_withdrawThoseOnFallen_26 : decode cX5_withdrawThoseOnFallen 26 = .ok (.astore_n 3, 1) := by decide +kernel
theorem dX5_withdrawThoseOnFallen_27 : decode cX5_withdrawThoseOnFallen 27 = .ok (.aload_n 3, 1) := by decide +kernel
theorem dX5_withdrawThoseOnFallen_28 : decode cX5_withdrawThoseOnFallen 28 = .ok (.getfield 171, 3) := by decide +kernel
theorem dX5_withdrawThoseOnFallen_31 : decode cX5_withdrawThoseOnFallen 31 = .ok (.ifCond .ne 17, 3) := by decide +kernel
theorem dX5_withdrawThoseOnFallen_34 : decode cX5_withdrawThoseOnFallen 34 = .ok (.aload_n 3, 1) := by decide +kernel
theorem dX5_withdrawThoseOnFallen_35 : decode cX5_withdrawThoseOnFallen 35 = .ok (.invokevirtual 346, 3) := by decide +kernel
theorem dX5_withdrawThoseOnFallen_38 : decode cX5_withdrawThoseOnFallen 38 = .ok (.ifCond .eq 10, 3) := by decide +kernel
theorem dX5_withdrawThoseOnFallen_41 : decode cX5_withdrawThoseOnFallen 41 = .ok (.aload_n 3, 1) := by decide +kernel
theorem dX5_withdrawThoseOnFallen_42 : decode cX5_withdrawThoseOnFallen 42 = .ok (.invokevirtual 349, 3) := by decide +kernel
theorem dX5_withdrawThoseOnFallen_45 : decode cX5_withdrawThoseOnFallen 45 = .ok (.iinc 1 1, 3) := by decide +kernel
theorem dX5_withdrawThoseOnFallen_48 : decode cX5_withdrawThoseOnFallen 48 = .ok (.iinc 2 1, 3) := by decide +kernel
theorem dX5_withdrawThoseOnFallen_51 : decode cX5_withdrawThoseOnFallen 51 = .ok (.goto (-47), 3) := by decide +kernel
theorem dX5_withdrawThoseOnFallen_54 : decode cX5_withdrawThoseOnFallen 54 = .ok (.iload_n 1, 1) := by decide +kernel
theorem dX5_withdrawThoseOnFallen_55 : decode cX5_withdrawThoseOnFallen 55 = .ok (.ireturn, 1) := by decide +kernel
theorem dX5_withdrawOverdue_0 : decode cX5_withdrawOverdue 0 = .ok (.iconst 0, 1) := by decide +kernel
theorem dX5_withdrawOverdue_1 : decode cX5_withdrawOverdue 1 = .ok (.istore_n 1, 1) := by decide +kernel
theorem dX5_withdrawOverdue_2 : decode cX5_withdrawOverdue 2 = .ok (.iload_n 1, 1) := by decide +kernel
theorem dX5_withdrawOverdue_3 : decode cX5_withdrawOverdue 3 = .ok (.aload_n 0, 1) := by decide +kernel
theorem dX5_withdrawOverdue_4 : decode cX5_withdrawOverdue 4 = .ok (.getfield 25, 3) := by decide +kernel
theorem dX5_withdrawOverdue_7 : decode cX5_withdrawOverdue 7 = .ok (.invokevirtual 59, 3) := by decide +kernel
theorem dX5_withdrawOverdue_10 : decode cX5_withdrawOverdue 10 = .ok (.if_icmp .ge 36, 3) := by decide +kernel
theorem dX5_withdrawOverdue_13 : decode cX5_withdrawOverdue 13 = .ok (.aload_n 0, 1) := by decide +kernel
theorem dX5_withdrawOverdue_14 : decode cX5_withdrawOverdue 14 = .ok (.getfield 25, 3) := by decide +kernel
theorem dX5_withdrawOverdue_17 : decode cX5_withdrawOverdue 17 = .ok (.iload_n 1, 1) := by decide +kernel
theorem dX5_withdrawOverdue_18 : decode cX5_withdrawOverdue 18 = .ok (.invokevirtual 241, 3) := by decide +kernel
theorem dX5_withdrawOverdue_21 : decode cX5_withdrawOverdue 21 = .ok (.checkcast 162, 3) := by decide +kernel
theorem dX5_withdrawOverdue_24 : decode cX5_withdrawOverdue 24 = .ok (.astore_n 2, 1) := by decide +kernel
theorem dX5_withdrawOverdue_25 : decode cX5_withdrawOverdue 25 = .ok (.aload_n 2, 1) := by decide +kernel
theorem dX5_withdrawOverdue_26 : decode cX5_withdrawOverdue 26 = .ok (.aload_n 0, 1) := by decide +kernel
theorem dX5_withdrawOverdue_27 : decode cX5_withdrawOverdue 27 = .ok (.getfield 35, 3) := by decide +kernel
theorem dX5_withdrawOverdue_30 : decode cX5_withdrawOverdue 30 = .ok (.invokevirtual 352, 3) := by decide +kernel
theorem dX5_withdrawOverdue_33 : decode cX5_withdrawOverdue 33 = .ok (.ifCond .eq 7, 3) := by decide +kernel
theorem dX5_withdrawOverdue_36 : decode cX5_withdrawOverdue 36 = .ok (.aload_n 2, 1) := by decide +kernel
theorem dX5_withdrawOverdue_37 : decode cX5_withdrawOverdue 37 = .ok (.invokevirtual 349, 3) := by decide +kernel
theorem dX5_withdrawOverdue_40 : decode cX5_withdrawOverdue 40 = .ok (.iinc 1 1, 3) := by decide +kernel
theorem dX5_withdrawOverdue_43 : decode cX5_withdrawOverdue 43 = .ok (.goto (-41), 3) := by decide +kernel
theorem dX5_withdrawOverdue_46 : decode cX5_withdrawOverdue 46 = .ok (.return_, 1) := by decide +kernel
theorem dX5_balance_0 : decode cX5_balance 0 = .ok (.iconst 0, 1) := by decide +kernel
theorem dX5_balance_1 : decode cX5_balance 1 = .ok (.istore_n 2, 1) := by decide +kernel
theorem dX5_balance_2 : decode cX5_balance 2 = .ok (.aload_n 0, 1) := by decide +kernel
theorem dX5_balance_3 : decode cX5_balance 3 = .ok (.getfield 25, 3) := by decide +kernel
theorem dX5_balance_6 : decode cX5_balance 6 = .ok (.invokevirtual 59, 3) := by decide +kernel
theorem dX5_balance_9 : decode cX5_balance 9 = .ok (.iconst 1, 1) := by decide +kernel
theorem dX5_balance_10 : decode cX5_balance 10 = .ok (.isub, 1) := by decide +kernel
theorem dX5_balance_11 : decode cX5_balance 11 = .ok (.istore_n 3, 1) := by decide +kernel
theorem dX5_balance_12 : decode cX5_balance 12 = .ok (.iload_n 3, 1) := by decide +kernel
theorem dX5_balance_13 : decode cX5_balance 13 = .ok (.ifCond .lt 55, 3) := by decide +kernel
theorem dX5_balance_16 : decode cX5_balance 16 = .ok (.aload_n 0, 1) := by decide +kernel
theorem dX5_balance_17 : decode cX5_balance 17 = .ok (.aload_n 1, 1) := by decide +kernel
theorem dX5_balance_18 : decode cX5_balance 18 = .ok (.invokevirtual 201, 3) := by decide +kernel
theorem dX5_balance_21 : decode cX5_balance 21 = .ok (.ifCond .ge 47, 3) := by decide +kernel
theorem dX5_balance_24 : decode cX5_balance 24 = .ok (.aload_n 0, 1) := by decide +kernel
theorem dX5_balance_25 : decode cX5_balance 25 = .ok (.getfield 25, 3) := by decide +kernel
theorem dX5_balance_28 : decode cX5_balance 28 = .ok (.iload_n 3, 1) := by decide +kernel
theorem dX5_balance_29 : decode cX5_balance 29 = .ok (.invokevirtual 241, 3) := by decide +kernel
theorem dX5_balance_32 : decode cX5_balance 32 = .ok (.checkcast 162, 3) := by decide +kernel
theorem dX5_balance_35 : decode cX5_balance 35 = .ok (.astore 4, 2) := by decide +kernel
theorem dX5_balance_37 : decode cX5_balance 37 = .ok (.aload 4, 2) := by decide +kernel
theorem dX5_balance_39 : decode cX5_balance 39 = .ok (.getfield 182, 3) := by decide +kernel
theorem dX5_balance_42 : decode cX5_balance 42 = .ok (.aload_n 1, 1) := by decide +kernel
theorem dX5_balance_43 : decode cX5_balance 43 = .ok (.if_acmp .ne 19, 3) := by decide +kernel
theorem dX5_balance_46 : decode cX5_balance 46 = .ok (.aload 4, 2) := by decide +kernel
theorem dX5_balance_48 : decode cX5_balance 48 = .ok (.getfield 171, 3) := by decide +kernel
theorem dX5_balance_51 : decode cX5_balance 51 = .ok (.ifCond .ne 11, 3) := by decide +kernel
theorem dX5_balance_54 : decode cX5_balance 54 = .ok (.aload 4, 2) := by decide +kernel
theorem dX5_balance_56 : decode cX5_balance 56 = .ok (.invokevirtual 356, 3) := by decide +kernel
theorem dX5_balance_59 : decode cX5_balance 59 = .ok (.iinc 2 1, 3) := by decide +kernel
theorem dX5_balance_62 : decode cX5_balance 62 = .ok (.iinc 3 (-1), 3) := by decide +kernel
theorem dX5_balance_65 : decode cX5_balance 65 = .ok (.goto (-53), 3) := by decide +kernel
theorem dX5_balance_68 : decode cX5_balance 68 = .ok (.aload_n 0, 1) := by decide +kernel
theorem dX5_balance_69 : decode cX5_balance 69 = .ok (.aload_n 1, 1) := by decide +kernel
theorem dX5_balance_70 : decode cX5_balance 70 = .ok (.invokevirtual 201, 3) := by decide +kernel
theorem dX5_balance_73 : decode cX5_balance 73 = .ok (.ineg, 1) := by decide +kernel
theorem dX5_balance_74 : decode cX5_balance 74 = .ok (.istore_n 3, 1) := by decide +kernel
theorem dX5_balance_75 : decode cX5_balance 75 = .ok (.iload_n 3, 1) := by decide +kernel
theorem dX5_balance_76 : decode cX5_balance 76 = .ok (.ifCond .le 23, 3) := by decide +kernel
theorem dX5_balance_79 : decode cX5_balance 79 = .ok (.aload_n 1, 1) := by decide +kernel
theorem dX5_balance_80 : decode cX5_balance 80 = .ok (.dup, 1) := by decide +kernel
theorem dX5_balance_81 : decode cX5_balance 81 = .ok (.getfield 230, 3) := by decide +kernel
theorem dX5_balance_84 : decode cX5_balance 84 = .ok (.iload_n 3, 1) := by decide +kernel
theorem dX5_balance_85 : decode cX5_balance 85 = .ok (.iadd, 1) := by decide +kernel
theorem dX5_balance_86 : decode cX5_balance 86 = .ok (.putfield 230, 3) := by decide +kernel
theorem dX5_balance_89 : decode cX5_balance 89 = .ok (.aload_n 0, 1) := by decide +kernel
theorem dX5_balance_90 : decode cX5_balance 90 = .ok (.dup, 1) := by decide +kernel
theorem dX5_balance_91 : decode cX5_balance 91 = .ok (.getfield 28, 3) := by decide +kernel
theorem dX5_balance_94 : decode cX5_balance 94 = .ok (.iload_n 3, 1) := by decide +kernel
theorem dX5_balance_95 : decode cX5_balance 95 = .ok (.isub, 1) := by decide +kernel
theorem dX5_balance_96 : decode cX5_balance 96 = .ok (.putfield 28, 3) := by decide +kernel
theorem dX5_balance_99 : decode cX5_balance 99 = .ok (.iload_n 2, 1) := by decide +kernel
theorem dX5_balance_100 : decode cX5_balance 100 = .ok (.ireturn, 1) := by decide +kernel
theorem dX5_fillReserve_0 : decode cX5_fillReserve 0 = .ok (.aload_n 0, 1) := by decide +kernel
theorem dX5_fillReserve_1 : decode cX5_fillReserve 1 = .ok (.invokevirtual 359, 3) := by decide +kernel
theorem dX5_fillReserve_4 : decode cX5_fillReserve 4 = .ok (.istore_n 1, 1) := by decide +kernel
theorem dX5_fillReserve_5 : decode cX5_fillReserve 5 = .ok (.iconst 0, 1) := by decide +kernel
theorem dX5_fillReserve_6 : decode cX5_fillReserve 6 = .ok (.istore_n 2, 1) := by decide +kernel
theorem dX5_fillReserve_7 : decode cX5_fillReserve 7 = .ok (.iload_n 2, 1) := by decide +kernel
theorem dX5_fillReserve_8 : decode cX5_fillReserve 8 = .ok (.aload_n 0, 1) := by decide +kernel
theorem dX5_fillReserve_9 : decode cX5_fillReserve 9 = .ok (.getfield 19, 3) := by decide +kernel
theorem dX5_fillReserve_12 : decode cX5_fillReserve 12 = .ok (.invokevirtual 59, 3) := by decide +kernel
theorem dX5_fillReserve_15 : decode cX5_fillReserve 15 = .ok (.if_icmp .ge 38, 3) := by decide +kernel
theorem dX5_fillReserve_18 : decode cX5_fillReserve 18 = .ok (.aload_n 0, 1) := by decide +kernel
theorem dX5_fillReserve_19 : decode cX5_fillReserve 19 = .ok (.getfield 28, 3) := by decide +kernel
theorem dX5_fillReserve_22 : decode cX5_fillReserve 22 = .ok (.iload_n 1, 1) := by decide +kernel
theorem dX5_fillReserve_23 : decode cX5_fillReserve 23 = .ok (.if_icmp .ge 30, 3) := by decide +kernel
theorem dX5_fillReserve_26 : decode cX5_fillReserve 26 = .ok (.aload_n 0, 1) := by decide +kernel
theorem dX5_fillReserve_27 : decode cX5_fillReserve 27 = .ok (.aload_n 0, 1) := by decide +kernel
theorem dX5_fillReserve_28 : decode cX5_fillReserve 28 = .ok (.getfield 19, 3) := by decide +kernel
theorem dX5_fillReserve_31 : decode cX5_fillReserve 31 = .ok (.iload_n 2, 1) := by decide +kernel
theorem dX5_fillReserve_32 : decode cX5_fillReserve 32 = .ok (.invokevirtual 241, 3) := by decide +kernel
theorem dX5_fillReserve_35 : decode cX5_fillReserve 35 = .ok (.checkcast 70, 3) := by decide +kernel
theorem dX5_fillReserve_38 : decode cX5_fillReserve 38 = .ok (.iload_n 1, 1) := by decide +kernel
theorem dX5_fillReserve_39 : decode cX5_fillReserve 39 = .ok (.aload_n 0, 1) := by decide +kernel
theorem dX5_fillReserve_40 : decode cX5_fillReserve 40 = .ok (.getfield 28, 3) := by decide +kernel
theorem dX5_fillReserve_43 : decode cX5_fillReserve 43 = .ok (.isub, 1) := by decide +kernel
theorem dX5_fillReserve_44 : decode cX5_fillReserve 44 = .ok (.invokevirtual 362, 3) := by decide +kernel
theorem dX5_fillReserve_47 : decode cX5_fillReserve 47 = .ok (.iinc 2 1, 3) := by decide +kernel
theorem dX5_fillReserve_50 : decode cX5_fillReserve 50 = .ok (.goto (-43), 3) := by decide +kernel
theorem dX5_fillReserve_53 : decode cX5_fillReserve 53 = .ok (.return_, 1) := by decide +kernel
theorem dX5_takeFrom_0 : decode cX5_takeFrom 0 = .ok (.aload_n 0, 1) := by decide +kernel
theorem dX5_takeFrom_1 : decode cX5_takeFrom 1 = .ok (.aload_n 1, 1) := by decide +kernel
theorem dX5_takeFrom_2 : decode cX5_takeFrom 2 = .ok (.invokevirtual 201, 3) := by decide +kernel
theorem dX5_takeFrom_5 : decode cX5_takeFrom 5 = .ok (.istore_n 3, 1) := by decide +kernel
theorem dX5_takeFrom_6 : decode cX5_takeFrom 6 = .ok (.iload_n 3, 1) := by decide +kernel
theorem dX5_takeFrom_7 : decode cX5_takeFrom 7 = .ok (.ifCond .le 35, 3) := by decide +kernel
theorem dX5_takeFrom_10 : decode cX5_takeFrom 10 = .ok (.iload_n 3, 1) := by decide +kernel
theorem dX5_takeFrom_11 : decode cX5_takeFrom 11 = .ok (.bipush 10, 2) := by decide +kernel
theorem dX5_takeFrom_13 : decode cX5_takeFrom 13 = .ok (.idiv, 1) := by decide +kernel
theorem dX5_takeFrom_14 : decode cX5_takeFrom 14 = .ok (.iload_n 2, 1) := by decide +kernel
theorem dX5_takeFrom_15 : decode cX5_takeFrom 15 = .ok (.invokestatic 365, 3) := by decide +kernel
theorem dX5_takeFrom_18 : decode cX5_takeFrom 18 = .ok (.istore 4, 2) := by decide +kernel
theorem dX5_takeFrom_20 : decode cX5_takeFrom 20 = .ok (.aload_n 1, 1) := by decide +kernel
theorem dX5_takeFrom_21 : decode cX5_takeFrom 21 = .ok (.dup, 1) := by decide +kernel
theorem dX5_takeFrom_22 : decode cX5_takeFrom 22 = .ok (.getfield 227, 3) := by decide +kernel
theorem dX5_takeFrom_25 : decode cX5_takeFrom 25 = .ok (.iload 4, 2) := by decide +kernel
theorem dX5_takeFrom_27 : decode cX5_takeFrom 27 = .ok (.iadd, 1) := by decide +kernel
theorem dX5_takeFrom_28 : decode cX5_takeFrom 28 = .ok (.putfield 227, 3) := by decide +kernel
theorem dX5_takeFrom_31 : decode cX5_takeFrom 31 = .ok (.aload_n 0, 1) := by decide +kernel
theorem dX5_takeFrom_32 : decode cX5_takeFrom 32 = .ok (.dup, 1) := by decide +kernel
theorem dX5_takeFrom_33 : decode cX5_takeFrom 33 = .ok (.getfield 28, 3) := by decide +kernel
theorem dX5_takeFrom_36 : decode cX5_takeFrom 36 = .ok (.iload 4, 2) := by decide +kernel
theorem dX5_takeFrom_38 : decode cX5_takeFrom 38 = .ok (.iadd, 1) := by decide +kernel
theorem dX5_takeFrom_39 : decode cX5_takeFrom 39 = .ok (.putfield 28, 3) := by decide +kernel
theorem dX5_takeFrom_42 : decode cX5_takeFrom 42 = .ok (.return_, 1) := by decide +kernel
theorem dX5_targetNow_0 : decode cX5_targetNow 0 = .ok (.lconst 0, 1) := by decide +kernel
theorem dX5_targetNow_1 : decode cX5_targetNow 1 = .ok (.lstore_n 1, 1) := by decide +kernel
theorem dX5_targetNow_2 : decode cX5_targetNow 2 = .ok (.iconst 0, 1) := by decide +kernel
theorem dX5_targetNow_3 : decode cX5_targetNow 3 = .ok (.istore_n 3, 1) := by decide +kernel
theorem dX5_targetNow_4 : decode cX5_targetNow 4 = .ok (.iload_n 3, 1) := by decide +kernel
theorem dX5_targetNow_5 : decode cX5_targetNow 5 = .ok (.aload_n 0, 1) := by decide +kernel
theorem dX5_targetNow_6 : decode cX5_targetNow 6 = .ok (.getfield 19, 3) := by decide +kernel
theorem dX5_targetNow_9 : decode cX5_targetNow 9 = .ok (.invokevirtual 59, 3) := by decide +kernel
theorem dX5_targetNow_12 : decode cX5_targetNow 12 = .ok (.if_icmp .ge 27, 3) := by decide +kernel
theorem dX5_targetNow_15 : decode cX5_targetNow 15 = .ok (.lload_n 1, 1) := by decide +kernel
theorem dX5_targetNow_16 : decode cX5_targetNow 16 = .ok (.aload_n 0, 1) := by decide +kernel
theorem dX5_targetNow_17 : decode cX5_targetNow 17 = .ok (.getfield 19, 3) := by decide +kernel
theorem dX5_targetNow_20 : decode cX5_targetNow 20 = .ok (.iload_n 3, 1) := by decide +kernel
theorem dX5_targetNow_21 : decode cX5_targetNow 21 = .ok (.invokevirtual 241, 3) := by decide +kernel
theorem dX5_targetNow_24 : decode cX5_targetNow 24 = .ok (.checkcast 70, 3) := by decide +kernel
theorem dX5_targetNow_27 : decode cX5_targetNow 27 = .ok (.invokevirtual 221, 3) := by decide +kernel
theorem dX5_targetNow_30 : decode cX5_targetNow 30 = .ok (.i2l, 1) := by decide +kernel
theorem dX5_targetNow_31 : decode cX5_targetNow 31 = .ok (.ladd, 1) := by decide +kernel
theorem dX5_targetNow_32 : decode cX5_targetNow 32 = .ok (.lstore_n 1, 1) := by decide +kernel
theorem dX5_targetNow_33 : decode cX5_targetNow 33 = .ok (.iinc 3 1, 3) := by decide +kernel
theorem dX5_targetNow_36 : decode cX5_targetNow 36 = .ok (.goto (-32), 3) := by decide +kernel
theorem dX5_targetNow_39 : decode cX5_targetNow 39 = .ok (.lload_n 1, 1) := by decide +kernel
theorem dX5_targetNow_40 : decode cX5_targetNow 40 = .ok (.lconst 0, 1) := by decide +kernel
theorem dX5_targetNow_41 : decode cX5_targetNow 41 = .ok (.lcmp, 1) := by decide +kernel
theorem dX5_targetNow_42 : decode cX5_targetNow 42 = .ok (.ifCond .ge 7, 3) := by decide +kernel
theorem dX5_targetNow_45 : decode cX5_targetNow 45 = .ok (.iconst 0, 1) := by decide +kernel
theorem dX5_targetNow_46 : decode cX5_targetNow 46 = .ok (.goto 15, 3) := by decide +kernel
theorem dX5_targetNow_49 : decode cX5_targetNow 49 = .ok (.lload_n 1, 1) := by decide +kernel
theorem dX5_targetNow_50 : decode cX5_targetNow 50 = .ok (.aload_n 0, 1) := by decide +kernel
theorem dX5_targetNow_51 : decode cX5_targetNow 51 = .ok (.getfield 32, 3) := by decide +kernel
theorem dX5_targetNow_54 : decode cX5_targetNow 54 = .ok (.i2l, 1) := by decide +kernel
theorem dX5_targetNow_55 : decode cX5_targetNow 55 = .ok (.lmul, 1) := by decide +kernel
theorem dX5_targetNow_56 : decode cX5_targetNow 56 = .ok (.ldc2_w 371, 3) := by decide +kernel
theorem dX5_targetNow_59 : decode cX5_targetNow 59 = .ok (.ldiv, 1) := by decide +kernel
theorem dX5_targetNow_60 : decode cX5_targetNow 60 = .ok (.l2i, 1) := by decide +kernel
theorem dX5_targetNow_61 : decode cX5_targetNow 61 = .ok (.ireturn, 1) := by decide +kernel
theorem dX6_init_0 : decode cX6_init 0 = .ok (.aload_n 0, 1) := by decide +kernel
theorem dX6_init_1 : decode cX6_init 1 = .ok (.invokespecial 1, 3) := by decide +kernel
theorem dX6_init_4 : decode cX6_init 4 = .ok (.aload_n 0, 1) := by decide +kernel
theorem dX6_init_5 : decode cX6_init 5 = .ok (.iconst 5, 1) := by decide +kernel
theorem dX6_init_6 : decode cX6_init 6 = .ok (.putfield 7, 3) := by decide +kernel
theorem dX6_init_9 : decode cX6_init 9 = .ok (.aload_n 0, 1) := by decide +kernel
theorem dX6_init_10 : decode cX6_init 10 = .ok (.iconst 4, 1) := by decide +kernel
theorem dX6_init_11 : decode cX6_init 11 = .ok (.newarray .int, 2) := by decide +kernel
theorem dX6_init_13 : decode cX6_init 13 = .ok (.putfield 13, 3) := by decide +kernel
theorem dX6_init_16 : decode cX6_init 16 = .ok (.aload_n 0, 1) := by decide +kernel
theorem dX6_init_17 : decode cX6_init 17 = .ok (.iconst 4, 1) := by decide +kernel
theorem dX6_init_18 : decode cX6_init 18 = .ok (.newarray .int, 2) := by decide +kernel
theorem dX6_init_20 : decode cX6_init 20 = .ok (.putfield 17, 3) := by decide +kernel
theorem dX6_init_23 : decode cX6_init 23 = .ok (.aload_n 0, 1) := by decide +kernel
theorem dX6_init_24 : decode cX6_init 24 = .ok (.bipush 8, 2) := by decide +kernel
theorem dX6_init_26 : decode cX6_init 26 = .ok (.newarray .int, 2) := by decide +kernel
theorem dX6_init_28 : decode cX6_init 28 = .ok (.putfield 20, 3) := by decide +kernel
theorem dX6_init_31 : decode cX6_init 31 = .ok (.aload_n 0, 1) := by decide +kernel
theorem dX6_init_32 : decode cX6_init 32 = .ok (.bipush 10, 2) := by decide +kernel
theorem dX6_init_34 : decode cX6_init 34 = .ok (.newarray .int, 2) := by decide +kernel
theorem dX6_init_36 : decode cX6_init 36 = .ok (.putfield 23, 3) := by decide +kernel
theorem dX6_init_39 : decode cX6_init 39 = .ok (.aload_n 0, 1) := by decide +kernel
theorem dX6_init_40 : decode cX6_init 40 = .ok (.bipush 10, 2) := by decide +kernel
theorem dX6_init_42 : decode cX6_init 42 = .ok (.newarray .int, 2) := by decide +kernel
theorem dX6_init_44 : decode cX6_init 44 = .ok (.putfield 26, 3) := by decide +kernel
theorem dX6_init_47 : decode cX6_init 47 = .ok (.aload_n 0, 1) := by decide +kernel
theorem dX6_init_48 : decode cX6_init 48 = .ok (.bipush 10, 2) := by decide +kernel
theorem dX6_init_50 : decode cX6_init 50 = .ok (.newarray .int, 2) := by decide +kernel
theorem dX6_init_52 : decode cX6_init 52 = .ok (.putfield 29, 3) := by decide +kernel
theorem dX6_init_55 : decode cX6_init 55 = .ok (.aload_n 0, 1) := by decide +kernel
theorem dX6_init_56 : decode cX6_init 56 = .ok (.bipush 10, 2) := by decide +kernel
theorem dX6_init_58 : decode cX6_init 58 = .ok (.newarray .int, 2) := by decide +kernel
theorem dX6_init_60 : decode cX6_init 60 = .ok (.putfield 32, 3) := by decide +kernel
theorem dX6_init_63 : decode cX6_init 63 = .ok (.aload_n 0, 1) := by decide +kernel
theorem dX6_init_64 : decode cX6_init 64 = .ok (.bipush 10, 2) := by decide +kernel
theorem dX6_init_66 : decode cX6_init 66 = .ok (.newarray .int, 2) := by decide +kernel
theorem dX6_init_68 : decode cX6_init 68 = .ok (.putfield 35, 3) := by decide +kernel
theorem dX6_init_71 : decode cX6_init 71 = .ok (.aload_n 0, 1) := by decide +kernel
theorem dX6_init_72 : decode cX6_init 72 = .ok (.bipush 40, 2) := by decide +kernel
theorem dX6_init_74 : decode cX6_init 74 = .ok (.newarray .int, 2) := by decide +kernel
theorem dX6_init_76 : decode cX6_init 76 = .ok (.putfield 38, 3) := by decide +kernel
theorem dX6_init_79 : decode cX6_init 79 = .ok (.aload_n 0, 1) := by decide +kernel
theorem dX6_init_80 : decode cX6_init 80 = .ok (.bipush 40, 2) := by decide +kernel
theorem dX6_init_82 : decode cX6_init 82 = .ok (.newarray .int, 2) := by decide +kernel
theorem dX6_init_84 : decode cX6_init 84 = .ok (.putfield 41, 3) := by decide +kernel
theorem dX6_init_87 : decode cX6_init 87 = .ok (.aload_n 0, 1) := by decide +kernel
theorem dX6_init_88 : decode cX6_init 88 = .ok (.bipush 40, 2) := by decide +kernel
theorem dX6_init_90 : decode cX6_init 90 = .ok (.newarray .int, 2) := by decide +kernel
theorem dX6_init_92 : decode cX6_init 92 = .ok (.putfield 44, 3) := by decide +kernel
theorem dX6_init_95 : decode cX6_init 95 = .ok (.aload_n 0, 1) := by decide +kernel
theorem dX6_init_96 : decode cX6_init 96 = .ok (.bipush 40, 2) := by decide +kernel
theorem dX6_init_98 : decode cX6_init 98 = .ok (.newarray .int, 2) := by decide +kernel
theorem dX6_init_100 : decode cX6_init 100 = .ok (.putfield 47, 3) := by decide +kernel
theorem dX6_init_103 : decode cX6_init 103 = .ok (.aload_n 0, 1) := by decide +kernel
theorem dX6_init_104 : decode cX6_init 104 = .ok (.bipush 40, 2) := by decide +kernel
theorem dX6_init_106 : decode cX6_init 106 = .ok (.newarray .int, 2) := by decide +kernel
theorem dX6_init_108 : decode cX6_init 108 = .ok (.putfield 50, 3) := by decide +kernel
theorem dX6_init_111 : decode cX6_init 111 = .ok (.aload_n 0, 1) := by decide +kernel
theorem dX6_init_112 : decode cX6_init 112 = .ok (.sipush 360, 3) := by decide +kernel
theorem dX6_init_115 : decode cX6_init 115 = .ok (.newarray .int, 2) := by decide +kernel
theorem dX6_init_117 : decode cX6_init 117 = .ok (.putfield 53, 3) := by decide +kernel
theorem dX6_init_120 : decode cX6_init 120 = .ok (.aload_n 0, 1) := by decide +kernel
theorem dX6_init_121 : decode cX6_init 121 = .ok (.bipush 40, 2) := by decide +kernel
theorem dX6_init_123 : decode cX6_init 123 = .ok (.newarray .int, 2) := by decide +kernel
theorem dX6_init_125 : decode cX6_init 125 = .ok (.putfield 56, 3) := by decide +kernel
theorem dX6_init_128 : decode cX6_init 128 = .ok (.aload_n 0, 1) := by decide +kernel
theorem dX6_init_129 : decode cX6_init 129 = .ok (.bipush 40, 2) := by decide +kernel
theorem dX6_init_131 : decode cX6_init 131 = .ok (.newarray .int, 2) := by decide +kernel
theorem dX6_init_133 : decode cX6_init 133 = .ok (.putfield 59, 3) := by decide +kernel
theorem dX6_init_136 : decode cX6_init 136 = .ok (.aload_n 0, 1) := by decide +kernel
theorem dX6_init_137 : decode cX6_init 137 = .ok (.bipush 40, 2) := by decide +kernel
theorem dX6_init_139 : decode cX6_init 139 = .ok (.newarray .int, 2) := by decide +kernel
theorem dX6_init_141 : decode cX6_init 141 = .ok (.putfield 62, 3) := by decide +kernel
theorem dX6_init_144 : decode cX6_init 144 = .ok (.aload_n 0, 1) := by decide +kernel
theorem dX6_init_145 : decode cX6_init 145 = .ok (.bipush 40, 2) := by decide +kernel
theorem dX6_init_147 : decode cX6_init 147 = .ok (.newarray .int, 2) := by decide +kernel
theorem dX6_init_149 : decode cX6_init 149 = .ok (.putfield 65, 3) := by decide +kernel
theorem dX6_init_152 : decode cX6_init 152 = .ok (.aload_n 0, 1) := by decide +kernel
theorem dX6_init_153 : decode cX6_init 153 = .ok (.bipush 40, 2) := by decide +kernel
theorem dX6_init_155 : decode cX6_init 155 = .ok (.newarray .int, 2) := by decide +kernel
theorem dX6_init_157 : decode cX6_init 157 = .ok (.putfield 68, 3) := by decide +kernel
theorem dX6_init_160 : decode cX6_init 160 = .ok (.aload_n 0, 1) := by decide +kernel
theorem dX6_init_161 : decode cX6_init 161 = .ok (.bipush 40, 2) := by decide +kernel
theorem dX6_init_163 : decode cX6_init 163 = .ok (.newarray .int, 2) := by decide +kernel
theorem dX6_init_165 : decode cX6_init 165 = .ok (.putfield 71, 3) := by decide +kernel
theorem dX6_init_168 : decode cX6_init 168 = .ok (.aload_n 0, 1) := by decide +kernel
theorem dX6_init_169 : decode cX6_init 169 = .ok (.bipush 40, 2) := by decide +kernel
theorem dX6_init_171 : decode cX6_init 171 = .ok (.newarray .int, 2) := by decide +kernel
theorem dX6_init_173 : decode cX6_init 173 = .ok (.putfield 74, 3) := by decide +kernel
theorem dX6_init_176 : decode cX6_init 176 = .ok (.aload_n 0, 1) := by decide +kernel
theorem dX6_init_177 : decode cX6_init 177 = .ok (.bipush 40, 2) := by decide +kernel
theorem dX6_init_179 : decode cX6_init 179 = .ok (.newarray .boolean, 2) := by decide +kernel
theorem dX6_init_181 : decode cX6_init 181 = .ok (.putfield 77, 3) := by decide +kernel
theorem dX6_init_184 : decode cX6_init 184 = .ok (.aload_n 0, 1) := by decide +kernel
theorem dX6_init_185 : decode cX6_init 185 = .ok (.bipush 40, 2) := by decide +kernel
theorem dX6_init_187 : decode cX6_init 187 = .ok (.newarray .int, 2) := by decide +kernel
theorem dX6_init_189 : decode cX6_init 189 = .ok (.putfield 81, 3) := by decide +kernel
theorem dX6_init_192 : decode cX6_init 192 = .ok (.aload_n 0, 1) := by decide +kernel
theorem dX6_init_193 : decode cX6_init 193 = .ok (.bipush 40, 2) := by decide +kernel
theorem dX6_init_195 : decode cX6_init 195 = .ok (.newarray .boolean, 2) := by decide +kernel
theorem dX6_init_197 : decode cX6_init 197 = .ok (.putfield 84, 3) := by decide +kernel
theorem dX6_init_200 : decode cX6_init 200 = .ok (.return_, 1) := by decide +kernel
theorem dX6_thrown_0 : decode cX6_thrown 0 = .ok (.aload_n 0, 1) := by decide +kernel
theorem dX6_thrown_1 : decode cX6_thrown 1 = .ok (.getfield 87, 3) := by decide +kernel
theorem dX6_thrown_4 : decode cX6_thrown 4 = .ok (.ireturn, 1) := by decide +kernel
theorem dX6_goesWell_0 : decode cX6_goesWell 0 = .ok (.aload_n 0, 1) := by decide +kernel
theorem dX6_goesWell_1 : decode cX6_goesWell 1 = .ok (.iload_n 1, 1) := by decide +kernel
theorem dX6_goesWell_2 : decode cX6_goesWell 2 = .ok (.putfield 87, 3) := by decide +kernel
theorem dX6_goesWell_5 : decode cX6_goesWell 5 = .ok (.iload_n 1, 1) := by decide +kernel
theorem dX6_goesWell_6 : decode cX6_goesWell 6 = .ok (.ifCond .ne 7, 3) := by decide +kernel
theorem dX6_goesWell_9 : decode cX6_goesWell 9 = .ok (.iconst 1, 1) := by decide +kernel
theorem dX6_goesWell_10 : decode cX6_goesWell 10 = .ok (.goto 4, 3) := by decide +kernel
theorem dX6_goesWell_13 : decode cX6_goesWell 13 = .ok (.iconst 0, 1) := by decide +kernel
theorem dX6_goesWell_14 : decode cX6_goesWell 14 = .ok (.ireturn, 1) := by decide +kernel
theorem dX6_in_0 : decode cX6_in 0 = .ok (.iload_n 0, 1) := by decide +kernel
theorem dX6_in_1 : decode cX6_in 1 = .ok (.iload_n 1, 1) := by decide +kernel
theorem dX6_in_2 : decode cX6_in 2 = .ok (.if_icmp .lt 12, 3) := by decide +kernel
theorem dX6_in_5 : decode cX6_in 5 = .ok (.iload_n 0, 1) := by decide +kernel
theorem dX6_in_6 : decode cX6_in 6 = .ok (.iload_n 2, 1) := by decide +kernel
theorem dX6_in_7 : decode cX6_in 7 = .ok (.if_icmp .gt 7, 3) := by decide +kernel
theorem dX6_in_10 : decode cX6_in 10 = .ok (.iconst 1, 1) := by decide +kernel
theorem dX6_in_11 : decode cX6_in 11 = .ok (.goto 4, 3) := by decide +kernel
theorem dX6_in_14 : decode cX6_in 14 = .ok (.iconst 0, 1) := by decide +kernel
theorem dX6_in_15 : decode cX6_in 15 = .ok (.ireturn, 1) := by decide +kernel
theorem dX6_isLine_0 : decode cX6_isLine 0 = .ok (.iload_n 1, 1) := by decide +kernel
theorem dX6_isLine_1 : decode cX6_isLine 1 = .ok (.iconst 0, 1) := by decide +kernel
theorem dX6_isLine_2 : decode cX6_isLine 2 = .ok (.aload_n 0, 1) := by decide +kernel
theorem dX6_isLine_3 : decode cX6_isLine 3 = .ok (.getfield 90, 3) := by decide +kernel
theorem dX6_isLine_6 : decode cX6_isLine 6 = .ok (.iconst 1, 1) := by decide +kernel
theorem dX6_isLine_7 : decode cX6_isLine 7 = .ok (.isub, 1) := by decide +kernel
theorem dX6_isLine_8 : decode cX6_isLine 8 = .ok (.invokestatic 93, 3) := by decide +kernel
theorem dX6_isLine_11 : decode cX6_isLine 11 = .ok (.ireturn, 1) := by decide +kernel
theorem dX6_isAmendment_0 : decode cX6_isAmendment 0 = .ok (.iload_n 1, 1) := by decide +kernel
theorem dX6_isAmendment_1 : decode cX6_isAmendment 1 = .ok (.iconst 0, 1) := by decide +kernel
theorem dX6_isAmendment_2 : decode cX6_isAmendment 2 = .ok (.aload_n 0, 1) := by decide +kernel
theorem dX6_isAmendment_3 : decode cX6_isAmendment 3 = .ok (.getfield 97, 3) := by decide +kernel
theorem dX6_isAmendment_6 : decode cX6_isAmendment 6 = .ok (.iconst 1, 1) := by decide +kernel
theorem dX6_isAmendment_7 : decode cX6_isAmendment 7 = .ok (.isub, 1) := by decide +kernel
theorem dX6_isAmendment_8 : decode cX6_isAmendment 8 = .ok (.invokestatic 93, 3) := by decide +kernel
theorem dX6_isAmendment_11 : decode cX6_isAmendment 11 = .ok (.ireturn, 1) := by decide +kernel
theorem dX6_isGrant_0 : decode cX6_isGrant 0 = .ok (.iload_n 1, 1) := by decide +kernel
theorem dX6_isGrant_1 : decode cX6_isGrant 1 = .ok (.iconst 0, 1) := by decide +kernel
theorem dX6_isGrant_2 : decode cX6_isGrant 2 = .ok (.aload_n 0, 1) := by decide +kernel
theorem dX6_isGrant_3 : decode cX6_isGrant 3 = .ok (.getfield 100, 3) := by decide +kernel
theorem dX6_isGrant_6 : decode cX6_isGrant 6 = .ok (.iconst 1, 1) := by decide +kernel
theorem dX6_isGrant_7 : decode cX6_isGrant 7 = .ok (.isub, 1) := by decide +kernel
theorem dX6_isGrant_8 : decode cX6_isGrant 8 = .ok (.invokestatic 93, 3) := by decide +kernel
theorem dX6_isGrant_11 : decode cX6_isGrant 11 = .ok (.ireturn, 1) := by decide +kernel
theorem dX6_bring_0 : decode cX6_bring 0 = .ok (.aload_n 0, 1) := by decide +kernel
theorem dX6_bring_1 : decode cX6_bring 1 = .ok (.getfield 97, 3) := by decide +kernel
theorem dX6_bring_4 : decode cX6_bring 4 = .ok (.iconst 1, 1) := by decide +kernel
theorem dX6_bring_5 : decode cX6_bring 5 = .ok (.isub, 1) := by decide +kernel
theorem dX6_bring_6 : decode cX6_bring 6 = .ok (.istore_n 1, 1) := by decide +kernel
theorem dX6_bring_7 : decode cX6_bring 7 = .ok (.iload_n 1, 1) := by decide +kernel
theorem dX6_bring_8 : decode cX6_bring 8 = .ok (.ifCond .lt 78, 3) := by decide +kernel
theorem dX6_bring_11 : decode cX6_bring 11 = .ok (.aload_n 0, 1) := by decide +kernel
theorem dX6_bring_12 : decode cX6_bring 12 = .ok (.getfield 81, 3) := by decide +kernel
theorem dX6_bring_15 : decode cX6_bring 15 = .ok (.iload_n 1, 1) := by decide +kernel
theorem dX6_bring_16 : decode cX6_bring 16 = .ok (.aload_n 0, 1) := by decide +kernel
theorem dX6_bring_17 : decode cX6_bring 17 = .ok (.getfield 44, 3) := by decide +kernel
theorem dX6_bring_20 : decode cX6_bring 20 = .ok (.iload_n 1, 1) := by decide +kernel
theorem dX6_bring_21 : decode cX6_bring 21 = .ok (.iaload, 1) := by decide +kernel
theorem dX6_bring_22 : decode cX6_bring 22 = .ok (.iastore, 1) := by decide +kernel
theorem dX6_bring_23 : decode cX6_bring 23 = .ok (.iload_n 1, 1) := by decide +kernel
theorem dX6_bring_24 : decode cX6_bring 24 = .ok (.iconst 1, 1) := by decide +kernel
theorem dX6_bring_25 : decode cX6_bring 25 = .ok (.iadd, 1) := by decide +kernel
theorem dX6_bring_26 : decode cX6_bring 26 = .ok (.istore_n 2, 1) := by decide +kernel
theorem dX6_bring_27 : decode cX6_bring 27 = .ok (.iload_n 2, 1) := by decide +kernel
theorem dX6_bring_28 : decode cX6_bring 28 = .ok (.aload_n 0, 1) := by decide +kernel
theorem dX6_bring_29 : decode cX6_bring 29 = .ok (.getfield 97, 3) := by decide +kernel
theorem dX6_bring_32 : decode cX6_bring 32 = .ok (.if_icmp .ge 48, 3) := by decide +kernel
theorem dX6_bring_35 : decode cX6_bring 35 = .ok (.aload_n 0, 1) := by decide +kernel
theorem dX6_bring_36 : decode cX6_bring 36 = .ok (.getfield 81, 3) := by decide +kernel
theorem dX6_bring_39 : decode cX6_bring 39 = .ok (.iload_n 1, 1) := by decide +kernel
theorem dX6_bring_40 : decode cX6_bring 40 = .ok (.dup2, 1) := by decide +kernel
theorem dX6_bring_41 : decode cX6_bring 41 = .ok (.iaload, 1) := by decide +kernel
theorem dX6_bring_42 : decode cX6_bring 42 = .ok (.aload_n 0, 1) := by decide +kernel
theorem dX6_bring_43 : decode cX6_bring 43 = .ok (.getfield 38, 3) := by decide +kernel
theorem dX6_bring_46 : decode cX6_bring 46 = .ok (.iload_n 2, 1) := by decide +kernel
theorem dX6_bring_47 : decode cX6_bring 47 = .ok (.iaload, 1) := by decide +kernel
theorem dX6_bring_48 : decode cX6_bring 48 = .ok (.iload_n 1, 1) := by decide +kernel
theorem dX6_bring_49 : decode cX6_bring 49 = .ok (.if_icmp .ne 22, 3) := by decide +kernel
theorem dX6_bring_52 : decode cX6_bring 52 = .ok (.aload_n 0, 1) := by decide +kernel
theorem dX6_bring_53 : decode cX6_bring 53 = .ok (.getfield 47, 3) := by decide +kernel
theorem dX6_bring_56 : decode cX6_bring 56 = .ok (.iload_n 2, 1) := by decide +kernel
theorem dX6_bring_57 : decode cX6_bring 57 = .ok (.iaload, 1) := by decide +kernel
theorem dX6_bring_58 : decode cX6_bring 58 = .ok (.iconst 1, 1) := by decide +kernel
theorem dX6_bring_59 : decode cX6_bring 59 = .ok (.if_icmp .ne 12, 3) := by decide +kernel
theorem dX6_bring_62 : decode cX6_bring 62 = .ok (.aload_n 0, 1) := by decide +kernel
theorem dX6_bring_63 : decode cX6_bring 63 = .ok (.getfield 81, 3) := by decide +kernel
theorem dX6_bring_66 : decode cX6_bring 66 = .ok (.iload_n 2, 1) := by decide +kernel
theorem dX6_bring_67 : decode cX6_bring 67 = .ok (.iaload, 1) := by decide +kernel
theorem dX6_bring_68 : decode cX6_bring 68 = .ok (.goto 4, 3) := by decide +kernel
theorem dX6_bring_71 : decode cX6_bring 71 = .ok (.iconst 0, 1) := by decide +kernel
theorem dX6_bring_72 : decode cX6_bring 72 = .ok (.iadd, 1) := by decide +kernel
theorem dX6_bring_73 : decode cX6_bring 73 = .ok (.iastore, 1) := by decide +kernel
theorem dX6_bring_74 : decode cX6_bring 74 = .ok (.iinc 2 1, 3) := by decide +kernel
theorem dX6_bring_77 : decode cX6_bring 77 = .ok (.goto (-50), 3) := by decide +kernel
theorem dX6_bring_80 : decode cX6_bring 80 = .ok (.iinc 1 (-1), 3) := by decide +kernel
theorem dX6_bring_83 : decode cX6_bring 83 = .ok (.goto (-76), 3) := by decide +kernel
theorem dX6_bring_86 : decode cX6_bring 86 = .ok (.return_, 1) := by decide +kernel
theorem dX6_stands_0 : decode cX6_stands 0 = .ok (.aload_n 0, 1) := by decide +kernel
theorem dX6_stands_1 : decode cX6_stands 1 = .ok (.invokevirtual 103, 3) := by decide +kernel
theorem dX6_stands_4 : decode cX6_stands 4 = .ok (.aload_n 0, 1) := by decide +kernel
theorem dX6_stands_5 : decode cX6_stands 5 = .ok (.getfield 26, 3) := by decide +kernel
theorem dX6_stands_8 : decode cX6_stands 8 = .ok (.iload_n 1, 1) := by decide +kernel
theorem dX6_stands_9 : decode cX6_stands 9 = .ok (.iaload, 1) := by decide +kernel
theorem dX6_stands_10 : decode cX6_stands 10 = .ok (.aload_n 0, 1) := by decide +kernel
theorem dX6_stands_11 : decode cX6_stands 11 = .ok (.getfield 29, 3) := by decide +kernel
theorem dX6_stands_14 : decode cX6_stands 14 = .ok (.iload_n 1, 1) := by decide +kernel
theorem dX6_stands_15 : decode cX6_stands 15 = .ok (.iaload, 1) := by decide +kernel
theorem dX6_stands_16 : decode cX6_stands 16 = .ok (.isub, 1) := by decide +kernel
theorem dX6_stands_17 : decode cX6_stands 17 = .ok (.aload_n 0, 1) := by decide +kernel
theorem dX6_stands_18 : decode cX6_stands 18 = .ok (.getfield 32, 3) := by decide +kernel
theorem dX6_stands_21 : decode cX6_stands 21 = .ok (.iload_n 1, 1) := by decide +kernel
theorem dX6_stands_22 : decode cX6_stands 22 = .ok (.iaload, 1) := by decide +kernel
theorem dX6_stands_23 : decode cX6_stands 23 = .ok (.iadd, 1) := by decide +kernel
theorem dX6_stands_24 : decode cX6_stands 24 = .ok (.istore_n 2, 1) := by decide +kernel
theorem dX6_stands_25 : decode cX6_stands 25 = .ok (.iconst 0, 1) := by decide +kernel
theorem dX6_stands_26 : decode cX6_stands 26 = .ok (.istore_n 3, 1) := by decide +kernel
theorem dX6_stands_27 : decode cX6_stands 27 = .ok (.iload_n 3, 1) := by decide +kernel
theorem dX6_stands_28 : decode cX6_stands 28 = .ok (.aload_n 0, 1) := by decide +kernel
theorem dX6_stands_29 : decode cX6_stands 29 = .ok (.getfield 97, 3) := by decide +kernel
theorem dX6_stands_32 : decode cX6_stands 32 = .ok (.if_icmp .ge 52, 3) := by decide +kernel
theorem dX6_stands_35 : decode cX6_stands 35 = .ok (.iload_n 2, 1) := by decide +kernel
theorem dX6_stands_36 : decode cX6_stands 36 = .ok (.aload_n 0, 1) := by decide +kernel
theorem dX6_stands_37 : decode cX6_stands 37 = .ok (.getfield 38, 3) := by decide +kernel
theorem dX6_stands_40 : decode cX6_stands 40 = .ok (.iload_n 3, 1) := by decide +kernel
theorem dX6_stands_41 : decode cX6_stands 41 = .ok (.iaload, 1) := by decide +kernel
theorem dX6_stands_42 : decode cX6_stands 42 = .ok (.iconst (-1), 1) := by decide +kernel
theorem dX6_stands_43 : decode cX6_stands 43 = .ok (.if_icmp .ne 32, 3) := by decide +kernel
theorem dX6_stands_46 : decode cX6_stands 46 = .ok (.aload_n 0, 1) := by decide +kernel
theorem dX6_stands_47 : decode cX6_stands 47 = .ok (.getfield 41, 3) := by decide +kernel
theorem dX6_stands_50 : decode cX6_stands 50 = .ok (.iload_n 3, 1) := by decide +kernel
theorem dX6_stands_51 : decode cX6_stands 51 = .ok (.iaload, 1) := by decide +kernel
theorem dX6_stands_52 : decode cX6_stands 52 = .ok (.iload_n 1, 1) := by decide +kernel
theorem dX6_stands_53 : decode cX6_stands 53 = .ok (.if_icmp .ne 22, 3) := by decide +kernel
theorem dX6_stands_56 : decode cX6_stands 56 = .ok (.aload_n 0, 1) := by decide +kernel
theorem dX6_stands_57 : decode cX6_stands 57 = .ok (.getfield 47, 3) := by decide +kernel
theorem dX6_stands_60 : decode cX6_stands 60 = .ok (.iload_n 3, 1) := by decide +kernel
theorem dX6_stands_61 : decode cX6_stands 61 = .ok (.iaload, 1) := by decide +kernel
theorem dX6_stands_62 : decode cX6_stands 62 = .ok (.iconst 1, 1) := by decide +kernel
theorem dX6_stands_63 : decode cX6_stands 63 = .ok (.if_icmp .ne 12, 3) := by decide +kernel
theorem dX6_stands_66 : decode cX6_stands 66 = .ok (.aload_n 0, 1) := by decide +kernel
theorem dX6_stands_67 : decode cX6_stands 67 = .ok (.getfield 81, 3) := by decide +kernel
theorem dX6_stands_70 : decode cX6_stands 70 = .ok (.iload_n 3, 1) := by decide +kernel
theorem dX6_stands_71 : decode cX6_stands 71 = .ok (.iaload, 1) := by decide +kernel
theorem dX6_stands_72 : decode cX6_stands 72 = .ok (.goto 4, 3) := by decide +kernel
theorem dX6_stands_75 : decode cX6_stands 75 = .ok (.iconst 0, 1) := by decide +kernel
theorem dX6_stands_76 : decode cX6_stands 76 = .ok (.iadd, 1) := by decide +kernel
theorem dX6_stands_77 : decode cX6_stands 77 = .ok (.istore_n 2, 1) := by decide +kernel
theorem dX6_stands_78 : decode cX6_stands 78 = .ok (.iinc 3 1, 3) := by decide +kernel
theorem dX6_stands_81 : decode cX6_stands 81 = .ok (.goto (-54), 3) := by decide +kernel
theorem dX6_stands_84 : decode cX6_stands 84 = .ok (.iload_n 2, 1) := by decide +kernel
theorem dX6_stands_85 : decode cX6_stands 85 = .ok (.ireturn, 1) := by decide +kernel
theorem dX6_bound_0 : decode cX6_bound 0 = .ok (.aload_n 0, 1) := by decide +kernel
theorem dX6_bound_1 : decode cX6_bound 1 = .ok (.getfield 35, 3) := by decide +kernel
theorem dX6_bound_4 : decode cX6_bound 4 = .ok (.iload_n 1, 1) := by decide +kernel
theorem dX6_bound_5 : decode cX6_bound 5 = .ok (.iaload, 1) := by decide +kernel
theorem dX6_bound_6 : decode cX6_bound 6 = .ok (.istore_n 2, 1) := by decide +kernel
theorem dX6_bound_7 : decode cX6_bound 7 = .ok (.iconst 0, 1) := by decide +kernel
theorem dX6_bound_8 : decode cX6_bound 8 = .ok (.istore_n 3, 1) := by decide +kernel
theorem dX6_bound_9 : decode cX6_bound 9 = .ok (.iload_n 3, 1) := by decide +kernel
theorem dX6_bound_10 : decode cX6_bound 10 = .ok (.aload_n 0, 1) := by decide +kernel
theorem dX6_bound_11 : decode cX6_bound 11 = .ok (.getfield 100, 3) := by decide +kernel
theorem dX6_bound_14 : decode cX6_bound 14 = .ok (.if_icmp .ge 51, 3) := by decide +kernel
theorem dX6_bound_17 : decode cX6_bound 17 = .ok (.iload_n 2, 1) := by decide +kernel
theorem dX6_bound_18 : decode cX6_bound 18 = .ok (.aload_n 0, 1) := by decide +kernel
theorem dX6_bound_19 : decode cX6_bound 19 = .ok (.getfield 56, 3) := by decide +kernel
theorem dX6_bound_22 : decode cX6_bound 22 = .ok (.iload_n 3, 1) := by decide +kernel
theorem dX6_bound_23 : decode cX6_bound 23 = .ok (.iaload, 1) := by decide +kernel
theorem dX6_bound_24 : decode cX6_bound 24 = .ok (.iload_n 1, 1) := by decide +kernel
theorem dX6_bound_25 : decode cX6_bound 25 = .ok (.if_icmp .ne 31, 3) := by decide +kernel
theorem dX6_bound_28 : decode cX6_bound 28 = .ok (.aload_n 0, 1) := by decide +kernel
theorem dX6_bound_29 : decode cX6_bound 29 = .ok (.getfield 74, 3) := by decide +kernel
theorem dX6_bound_32 : decode cX6_bound 32 = .ok (.iload_n 3, 1) := by decide +kernel
theorem dX6_bound_33 : decode cX6_bound 33 = .ok (.iaload, 1) := by decide +kernel
theorem dX6_bound_34 : decode cX6_bound 34 = .ok (.iconst 2, 1) := by decide +kernel
theorem dX6_bound_35 : decode cX6_bound 35 = .ok (.if_icmp .ne 12, 3) := by decide +kernel
theorem dX6_bound_38 : decode cX6_bound 38 = .ok (.aload_n 0, 1) := by decide +kernel
theorem dX6_bound_39 : decode cX6_bound 39 = .ok (.getfield 65, 3) := by decide +kernel
theorem dX6_bound_42 : decode cX6_bound 42 = .ok (.iload_n 3, 1) := by decide +kernel
theorem dX6_bound_43 : decode cX6_bound 43 = .ok (.iaload, 1) := by decide +kernel
theorem dX6_bound_44 : decode cX6_bound 44 = .ok (.goto 13, 3) := by decide +kernel
theorem dX6_bound_47 : decode cX6_bound 47 = .ok (.aload_n 0, 1) := by decide +kernel
theorem dX6_bound_48 : decode cX6_bound 48 = .ok (.getfield 62, 3) := by decide +kernel
theorem dX6_bound_51 : decode cX6_bound 51 = .ok (.iload_n 3, 1) := by decide +kernel
theorem dX6_bound_52 : decode cX6_bound 52 = .ok (.iaload, 1) := by decide +kernel
theorem dX6_bound_53 : decode cX6_bound 53 = .ok (.goto 4, 3) := by decide +kernel
theorem dX6_bound_56 : decode cX6_bound 56 = .ok (.iconst 0, 1) := by decide +kernel
theorem dX6_bound_57 : decode cX6_bound 57 = .ok (.iadd, 1) := by decide +kernel
theorem dX6_bound_58 : decode cX6_bound 58 = .ok (.istore_n 2, 1) := by decide +kernel
theorem dX6_bound_59 : decode cX6_bound 59 = .ok (.iinc 3 1, 3) := by decide +kernel
theorem dX6_bound_62 : decode cX6_bound 62 = .ok (.goto (-53), 3) := by decide +kernel
theorem dX6_bound_65 : decode cX6_bound 65 = .ok (.iload_n 2, 1) := by decide +kernel
theorem dX6_bound_66 : decode cX6_bound 66 = .ok (.ireturn, 1) := by decide +kernel
theorem dX6_free_0 : decode cX6_free 0 = .ok (.aload_n 0, 1) := by decide +kernel
theorem dX6_free_1 : decode cX6_free 1 = .ok (.iload_n 1, 1) := by decide +kernel
theorem dX6_free_2 : decode cX6_free 2 = .ok (.invokevirtual 106, 3) := by decide +kernel
theorem dX6_free_5 : decode cX6_free 5 = .ok (.aload_n 0, 1) := by decide +kernel
theorem dX6_free_6 : decode cX6_free 6 = .ok (.iload_n 1, 1) := by decide +kernel
theorem dX6_free_7 : decode cX6_free 7 = .ok (.invokevirtual 110, 3) := by decide +kernel
theorem dX6_free_10 : decode cX6_free 10 = .ok (.isub, 1) := by decide +kernel
theorem dX6_free_11 : decode cX6_free 11 = .ok (.ireturn, 1) := by decide +kernel
theorem dX6_line_0 : decode cX6_line 0 = .ok (.iload_n 1, 1) := by decide +kernel
theorem dX6_line_1 : decode cX6_line 1 = .ok (.iconst 0, 1) := by decide +kernel
theorem dX6_line_2 : decode cX6_line 2 = .ok (.iconst 3, 1) := by decide +kernel
theorem dX6_line_3 : decode cX6_line 3 = .ok (.invokestatic 93, 3) := by decide +kernel
theorem dX6_line_6 : decode cX6_line 6 = .ok (.ifCond .eq 17, 3) := by decide +kernel
theorem dX6_line_9 : decode cX6_line 9 = .ok (.iload_n 2, 1) := by decide +kernel
theorem dX6_line_10 : decode cX6_line 10 = .ok (.iconst 0, 1) := by decide +kernel
theorem dX6_line_11 : decode cX6_line 11 = .ok (.ldc 113, 2) := by decide +kernel
theorem dX6_line_13 : decode cX6_line 13 = .ok (.invokestatic 93, 3) := by decide +kernel
theorem dX6_line_16 : decode cX6_line 16 = .ok (.ifCond .eq 7, 3) := by decide +kernel
theorem dX6_line_19 : decode cX6_line 19 = .ok (.iconst 1, 1) := by decide +kernel
theorem dX6_line_20 : decode cX6_line 20 = .ok (.goto 4, 3) := by decide +kernel
theorem dX6_line_23 : decode cX6_line 23 = .ok (.iconst 0, 1) := by decide +kernel
theorem dX6_line_24 : decode cX6_line 24 = .ok (.istore_n 3, 1) := by decide +kernel
theorem dX6_line_25 : decode cX6_line 25 = .ok (.aload_n 0, 1) := by decide +kernel
theorem dX6_line_26 : decode cX6_line 26 = .ok (.iload_n 3, 1) := by decide +kernel
theorem dX6_line_27 : decode cX6_line 27 = .ok (.ifCond .ne 7, 3) := by decide +kernel
theorem dX6_line_30 : decode cX6_line 30 = .ok (.iconst 1, 1) := by decide +kernel
theorem dX6_line_31 : decode cX6_line 31 = .ok (.goto 17, 3) := by decide +kernel
theorem dX6_line_34 : decode cX6_line 34 = .ok (.aload_n 0, 1) := by decide +kernel
theorem dX6_line_35 : decode cX6_line 35 = .ok (.getfield 90, 3) := by decide +kernel
theorem dX6_line_38 : decode cX6_line 38 = .ok (.bipush 10, 2) := by decide +kernel
theorem dX6_line_40 : decode cX6_line 40 = .ok (.if_icmp .ne 7, 3) := by decide +kernel
theorem dX6_line_43 : decode cX6_line 43 = .ok (.iconst 2, 1) := by decide +kernel
theorem dX6_line_44 : decode cX6_line 44 = .ok (.goto 4, 3) := by decide +kernel
theorem dX6_line_47 : decode cX6_line 47 = .ok (.iconst 0, 1) := by decide +kernel
theorem dX6_line_48 : decode cX6_line 48 = .ok (.invokevirtual 114, 3) := by decide +kernel
theorem dX6_line_51 : decode cX6_line 51 = .ok (.ifCond .ne 5, 3) := by decide +kernel
theorem dX6_line_54 : decode cX6_line 54 = .ok (.iconst 0, 1) := by decide +kernel
theorem dX6_line_55 : decode cX6_line 55 = .ok (.ireturn, 1) := by decide +kernel
theorem dX6_line_56 : decode cX6_line 56 = .ok (.aload_n 0, 1) := by decide +kernel
theorem dX6_line_57 : decode cX6_line 57 = .ok (.getfield 23, 3) := by decide +kernel
theorem dX6_line_60 : decode cX6_line 60 = .ok (.aload_n 0, 1) := by decide +kernel
theorem dX6_line_61 : decode cX6_line 61 = .ok (.getfield 90, 3) := by decide +kernel
theorem dX6_line_64 : decode cX6_line 64 = .ok (.iload_n 1, 1) := by decide +kernel
theorem dX6_line_65 : decode cX6_line 65 = .ok (.iastore, 1) := by decide +kernel
theorem dX6_line_66 : decode cX6_line 66 = .ok (.aload_n 0, 1) := by decide +kernel
theorem dX6_line_67 : decode cX6_line 67 = .ok (.getfield 26, 3) := by decide +kernel
theorem dX6_line_70 : decode cX6_line 70 = .ok (.aload_n 0, 1) := by decide +kernel
theorem dX6_line_71 : decode cX6_line 71 = .ok (.getfield 90, 3) := by decide +kernel
theorem dX6_line_74 : decode cX6_line 74 = .ok (.iload_n 2, 1) := by decide +kernel
theorem dX6_line_75 : decode cX6_line 75 = .ok (.iastore, 1) := by decide +kernel
theorem dX6_line_76 : decode cX6_line 76 = .ok (.aload_n 0, 1) := by decide +kernel
theorem dX6_line_77 : decode cX6_line 77 = .ok (.dup, 1) := by decide +kernel
theorem dX6_line_78 : decode cX6_line 78 = .ok (.getfield 90, 3) := by decide +kernel
theorem dX6_line_81 : decode cX6_line 81 = .ok (.iconst 1, 1) := by decide +kernel
theorem dX6_line_82 : decode cX6_line 82 = .ok (.iadd, 1) := by decide +kernel
theorem dX6_line_83 : decode cX6_line 83 = .ok (.putfield 90, 3) := by decide +kernel
theorem dX6_line_86 : decode cX6_line 86 = .ok (.aload_n 0, 1) := by decide +kernel
theorem dX6_line_87 : decode cX6_line 87 = .ok (.getfield 90, 3) := by decide +kernel
theorem dX6_line_90 : decode cX6_line 90 = .ok (.iconst 1, 1) := by decide +kernel
theorem dX6_line_91 : decode cX6_line 91 = .ok (.isub, 1) := by decide +kernel
theorem dX6_line_92 : decode cX6_line 92 = .ok (.ireturn, 1) := by decide +kernel
theorem dX6_income_0 : decode cX6_income 0 = .ok (.aload_n 0, 1) := by decide +kernel
theorem dX6_income_1 : decode cX6_income 1 = .ok (.iload_n 1, 1) := by decide +kernel
theorem dX6_income_2 : decode cX6_income 2 = .ok (.iconst 0, 1) := by decide +kernel
theorem dX6_income_3 : decode cX6_income 3 = .ok (.iconst 3, 1) := by decide +kernel
theorem dX6_income_4 : decode cX6_income 4 = .ok (.invokestatic 93, 3) := by decide +kernel
theorem dX6_income_7 : decode cX6_income 7 = .ok (.ifCond .eq 17, 3) := by decide +kernel
theorem dX6_income_10 : decode cX6_income 10 = .ok (.iload_n 2, 1) := by decide +kernel
theorem dX6_income_11 : decode cX6_income 11 = .ok (.iconst 1, 1) := by decide +kernel
theorem dX6_income_12 : decode cX6_income 12 = .ok (.ldc 113, 2) := by decide +kernel
theorem dX6_income_14 : decode cX6_income 14 = .ok (.invokestatic 93, 3) := by decide +kernel
theorem dX6_income_17 : decode cX6_income 17 = .ok (.ifCond .eq 7, 3) := by decide +kernel
theorem dX6_income_20 : decode cX6_income 20 = .ok (.iconst 0, 1) := by decide +kernel
theorem dX6_income_21 : decode cX6_income 21 = .ok (.goto 4, 3) := by decide +kernel
theorem dX6_income_24 : decode cX6_income 24 = .ok (.iconst 1, 1) := by decide +kernel
theorem dX6_income_25 : decode cX6_income 25 = .ok (.invokevirtual 114, 3) := by decide +kernel
theorem dX6_income_28 : decode cX6_income 28 = .ok (.ifCond .ne 5, 3) := by decide +kernel
theorem dX6_income_31 : decode cX6_income 31 = .ok (.iconst 0, 1) := by decide +kernel
theorem dX6_income_32 : decode cX6_income 32 = .ok (.ireturn, 1) := by decide +kernel
theorem dX6_income_33 : decode cX6_income 33 = .ok (.aload_n 0, 1) := by decide +kernel
theorem dX6_income_34 : decode cX6_income 34 = .ok (.getfield 13, 3) := by decide +kernel
theorem dX6_income_37 : decode cX6_income 37 = .ok (.iload_n 1, 1) := by decide +kernel
theorem dX6_income_38 : decode cX6_income 38 = .ok (.dup2, 1) := by decide +kernel
theorem dX6_income_39 : decode cX6_income 39 = .ok (.iaload, 1) := by decide +kernel
theorem dX6_income_40 : decode cX6_income 40 = .ok (.iload_n 2, 1) := by decide +kernel
theorem dX6_income_41 : decode cX6_income 41 = .ok (.iadd, 1) := by decide +kernel
theorem dX6_income_42 : decode cX6_income 42 = .ok (.iastore, 1) := by decide +kernel
theorem dX6_income_43 : decode cX6_income 43 = .ok (.aload_n 0, 1) := by decide +kernel
theorem dX6_income_44 : decode cX6_income 44 = .ok (.getfield 13, 3) := by decide +kernel
theorem dX6_income_47 : decode cX6_income 47 = .ok (.iload_n 1, 1) := by decide +kernel
theorem dX6_income_48 : decode cX6_income 48 = .ok (.iaload, 1) := by decide +kernel
theorem dX6_income_49 : decode cX6_income 49 = .ok (.ireturn, 1) := by decide +kernel
theorem dX6_make_0 : decode cX6_make 0 = .ok (.aload_n 0, 1) := by decide +kernel
theorem dX6_make_1 : decode cX6_make 1 = .ok (.getfield 38, 3) := by decide +kernel
theorem dX6_make_4 : decode cX6_make 4 = .ok (.aload_n 0, 1) := by decide +kernel
theorem dX6_make_5 : decode cX6_make 5 = .ok (.getfield 97, 3) := by decide +kernel
theorem dX6_make_8 : decode cX6_make 8 = .ok (.iload_n 1, 1) := by decide +kernel
theorem dX6_make_9 : decode cX6_make 9 = .ok (.iastore, 1) := by decide +kernel
theorem dX6_make_10 : decode cX6_make 10 = .ok (.aload_n 0, 1) := by decide +kernel
theorem dX6_make_11 : decode cX6_make 11 = .ok (.getfield 41, 3) := by decide +kernel
theorem dX6_make_14 : decode cX6_make 14 = .ok (.aload_n 0, 1) := by decide +kernel
theorem dX6_make_15 : decode cX6_make 15 = .ok (.getfield 97, 3) := by decide +kernel
theorem dX6_make_18 : decode cX6_make 18 = .ok (.iload_n 2, 1) := by decide +kernel
theorem dX6_make_19 : decode cX6_make 19 = .ok (.iastore, 1) := by decide +kernel
theorem dX6_make_20 : decode cX6_make 20 = .ok (.aload_n 0, 1) := by decide +kernel
theorem dX6_make_21 : decode cX6_make 21 = .ok (.getfield 44, 3) := by decide +kernel
theorem dX6_make_24 : decode cX6_make 24 = .ok (.aload_n 0, 1) := by decide +kernel
theorem dX6_make_25 : decode cX6_make 25 = .ok (.getfield 97, 3) := by decide +kernel
theorem dX6_make_28 : decode cX6_make 28 = .ok (.iload_n 3, 1) := by decide +kernel
theorem dX6_make_29 : decode cX6_make 29 = .ok (.iastore, 1) := by decide +kernel
theorem dX6_make_30 : decode cX6_make 30 = .ok (.aload_n 0, 1) := by decide +kernel
theorem dX6_make_31 : decode cX6_make 31 = .ok (.getfield 50, 3) := by decide +kernel
theorem dX6_make_34 : decode cX6_make 34 = .ok (.aload_n 0, 1) := by decide +kernel
theorem dX6_make_35 : decode cX6_make 35 = .ok (.getfield 97, 3) := by decide +kernel
theorem dX6_make_38 : decode cX6_make 38 = .ok (.iconst 1, 1) := by decide +kernel
theorem dX6_make_39 : decode cX6_make 39 = .ok (.iastore, 1) := by decide +kernel
theorem dX6_make_40 : decode cX6_make 40 = .ok (.aload_n 0, 1) := by decide +kernel
theorem dX6_make_41 : decode cX6_make 41 = .ok (.dup, 1) := by decide +kernel
theorem dX6_make_42 : decode cX6_make 42 = .ok (.getfield 97, 3) := by decide +kernel
theorem dX6_make_45 : decode cX6_make 45 = .ok (.iconst 1, 1) := by decide +kernel
theorem dX6_make_46 : decode cX6_make 46 = .ok (.iadd, 1) := by decide +kernel
theorem dX6_make_47 : decode cX6_make 47 = .ok (.putfield 97, 3) := by decide +kernel
theorem dX6_make_50 : decode cX6_make 50 = .ok (.aload_n 0, 1) := by decide +kernel
theorem dX6_make_51 : decode cX6_make 51 = .ok (.getfield 97, 3) := by decide +kernel
theorem dX6_make_54 : decode cX6_make 54 = .ok (.iconst 1, 1) := by decide +kernel
theorem dX6_make_55 : decode cX6_make 55 = .ok (.isub, 1) := by decide +kernel
theorem dX6_make_56 : decode cX6_make 56 = .ok (.ireturn, 1) := by decide +kernel
theorem dX6_isMore_0 : decode cX6_isMore 0 = .ok (.iload_n 0, 1) := by decide +kernel
theorem dX6_isMore_1 : decode cX6_isMore 1 = .ok (.ifCond .eq 18, 3) := by decide +kernel
theorem dX6_isMore_4 : decode cX6_isMore 4 = .ok (.iload_n 0, 1) := by decide +kernel
theorem dX6_isMore_5 : decode cX6_isMore 5 = .ok (.ldc 118, 2) := by decide +kernel
theorem dX6_isMore_7 : decode cX6_isMore 7 = .ok (.ldc 119, 2) := by decide +kernel
theorem dX6_isMore_9 : decode cX6_isMore 9 = .ok (.invokestatic 93, 3) := by decide +kernel
theorem dX6_isMore_12 : decode cX6_isMore 12 = .ok (.ifCond .eq 7, 3) := by decide +kernel
theorem dX6_isMore_15 : decode cX6_isMore 15 = .ok (.iconst 1, 1) := by decide +kernel
theorem dX6_isMore_16 : decode cX6_isMore 16 = .ok (.goto 4, 3) := by decide +kernel
theorem dX6_isMore_19 : decode cX6_isMore 19 = .ok (.iconst 0, 1) := by decide +kernel
theorem dX6_isMore_20 : decode cX6_isMore 20 = .ok (.ireturn, 1) := by decide +kernel
theorem dX6_amend_0 : decode cX6_amend 0 = .ok (.aload_n 0, 1) := by decide +kernel
theorem dX6_amend_1 : decode cX6_amend 1 = .ok (.iload_n 1, 1) := by decide +kernel
theorem dX6_amend_2 : decode cX6_amend 2 = .ok (.invokevirtual 120, 3) := by decide +kernel
theorem dX6_amend_5 : decode cX6_amend 5 = .ok (.istore_n 3, 1) := by decide +kernel
theorem dX6_amend_6 : decode cX6_amend 6 = .ok (.aload_n 0, 1) := by decide +kernel
theorem dX6_amend_7 : decode cX6_amend 7 = .ok (.iload_n 3, 1) := by decide +kernel
theorem dX6_amend_8 : decode cX6_amend 8 = .ok (.ifCond .ne 7, 3) := by decide +kernel
theorem dX6_amend_11 : decode cX6_amend 11 = .ok (.iconst 1, 1) := by decide +kernel
theorem dX6_amend_12 : decode cX6_amend 12 = .ok (.goto 28, 3) := by decide +kernel
theorem dX6_amend_15 : decode cX6_amend 15 = .ok (.iload_n 2, 1) := by decide +kernel
theorem dX6_amend_16 : decode cX6_amend 16 = .ok (.invokestatic 123, 3) := by decide +kernel
theorem dX6_amend_19 : decode cX6_amend 19 = .ok (.ifCond .ne 7, 3) := by decide +kernel
theorem dX6_amend_22 : decode cX6_amend 22 = .ok (.iconst 2, 1) := by decide +kernel
theorem dX6_amend_23 : decode cX6_amend 23 = .ok (.goto 17, 3) := by decide +kernel
theorem dX6_amend_26 : decode cX6_amend 26 = .ok (.aload_n 0, 1) := by decide +kernel
theorem dX6_amend_27 : decode cX6_amend 27 = .ok (.getfield 97, 3) := by decide +kernel
theorem dX6_amend_30 : decode cX6_amend 30 = .ok (.bipush 40, 2) := by decide +kernel
theorem dX6_amend_32 : decode cX6_amend 32 = .ok (.if_icmp .ne 7, 3) := by decide +kernel
theorem dX6_amend_35 : decode cX6_amend 35 = .ok (.iconst 3, 1) := by decide +kernel
theorem dX6_amend_36 : decode cX6_amend 36 = .ok (.goto 4, 3) := by decide +kernel
theorem dX6_amend_39 : decode cX6_amend 39 = .ok (.iconst 0, 1) := by decide +kernel
theorem dX6_amend_40 : decode cX6_amend 40 = .ok (.invokevirtual 114, 3) := by decide +kernel
theorem dX6_amend_43 : decode cX6_amend 43 = .ok (.ifCond .ne 5, 3) := by decide +kernel
theorem dX6_amend_46 : decode cX6_amend 46 = .ok (.iconst 0, 1) := by decide +kernel
theorem dX6_amend_47 : decode cX6_amend 47 = .ok (.ireturn, 1) := by decide +kernel
theorem dX6_amend_48 : decode cX6_amend 48 = .ok (.aload_n 0, 1) := by decide +kernel
theorem dX6_amend_49 : decode cX6_amend 49 = .ok (.iconst (-1), 1) := by decide +kernel
theorem dX6_amend_50 : decode cX6_amend 50 = .ok (.iload_n 1, 1) := by decide +kernel
theorem dX6_amend_51 : decode cX6_amend 51 = .ok (.iload_n 2, 1) := by decide +kernel
theorem dX6_amend_52 : decode cX6_amend 52 = .ok (.invokevirtual 126, 3) := by decide +kernel
theorem dX6_amend_55 : decode cX6_amend 55 = .ok (.ireturn, 1) := by decide +kernel
theorem dX6_amendOn_0 : decode cX6_amendOn 0 = .ok (.aload_n 0, 1) := by decide +kernel
theorem dX6_amendOn_1 : decode cX6_amendOn 1 = .ok (.iload_n 1, 1) := by decide +kernel
theorem dX6_amendOn_2 : decode cX6_amendOn 2 = .ok (.invokevirtual 130, 3) := by decide +kernel
theorem dX6_amendOn_5 : decode cX6_amendOn 5 = .ok (.istore_n 3, 1) := by decide +kernel
theorem dX6_amendOn_6 : decode cX6_amendOn 6 = .ok (.aload_n 0, 1) := by decide +kernel
theorem dX6_amendOn_7 : decode cX6_amendOn 7 = .ok (.iload_n 3, 1) := by decide +kernel
theorem dX6_amendOn_8 : decode cX6_amendOn 8 = .ok (.ifCond .ne 7, 3) := by decide +kernel
theorem dX6_amendOn_11 : decode cX6_amendOn 11 = .ok (.iconst 1, 1) := by decide +kernel
theorem dX6_amendOn_12 : decode cX6_amendOn 12 = .ok (.goto 37, 3) := by decide +kernel
theorem dX6_amendOn_15 : decode cX6_amendOn 15 = .ok (.iload_n 2, 1) := by decide +kernel
theorem dX6_amendOn_16 : decode cX6_amendOn 16 = .ok (.invokestatic 123, 3) := by decide +kernel
theorem dX6_amendOn_19 : decode cX6_amendOn 19 = .ok (.ifCond .ne 7, 3) := by decide +kernel
theorem dX6_amendOn_22 : decode cX6_amendOn 22 = .ok (.iconst 2, 1) := by decide +kernel
theorem dX6_amendOn_23 : decode cX6_amendOn 23 = .ok (.goto 26, 3) := by decide +kernel
theorem dX6_amendOn_26 : decode cX6_amendOn 26 = .ok (.aload_n 0, 1) := by decide +kernel
theorem dX6_amendOn_27 : decode cX6_amendOn 27 = .ok (.getfield 47, 3) := by decide +kernel
theorem dX6_amendOn_30 : decode cX6_amendOn 30 = .ok (.iload_n 1, 1) := by decide +kernel
theorem dX6_amendOn_31 : decode cX6_amendOn 31 = .ok (.iaload, 1) := by decide +kernel
theorem dX6_amendOn_32 : decode cX6_amendOn 32 = .ok (.ifCond .ne 12, 3) := by decide +kernel
theorem dX6_amendOn_35 : decode cX6_amendOn 35 = .ok (.aload_n 0, 1) := by decide +kernel
theorem dX6_amendOn_36 : decode cX6_amendOn 36 = .ok (.getfield 97, 3) := by decide +kernel
theorem dX6_amendOn_39 : decode cX6_amendOn 39 = .ok (.bipush 40, 2) := by decide +kernel
theorem dX6_amendOn_41 : decode cX6_amendOn 41 = .ok (.if_icmp .ne 7, 3) := by decide +kernel
theorem dX6_amendOn_44 : decode cX6_amendOn 44 = .ok (.iconst 3, 1) := by decide +kernel
theorem dX6_amendOn_45 : decode cX6_amendOn 45 = .ok (.goto 4, 3) := by decide +kernel
theorem dX6_amendOn_48 : decode cX6_amendOn 48 = .ok (.iconst 0, 1) := by decide +kernel
theorem dX6_amendOn_49 : decode cX6_amendOn 49 = .ok (.invokevirtual 114, 3) := by decide +kernel
theorem dX6_amendOn_52 : decode cX6_amendOn 52 = .ok (.ifCond .ne 5, 3) := by decide +kernel
theorem dX6_amendOn_55 : decode cX6_amendOn 55 = .ok (.iconst 0, 1) := by decide +kernel
theorem dX6_amendOn_56 : decode cX6_amendOn 56 = .ok (.ireturn, 1) := by decide +kernel
theorem dX6_amendOn_57 : decode cX6_amendOn 57 = .ok (.aload_n 0, 1) := by decide +kernel
theorem dX6_amendOn_58 : decode cX6_amendOn 58 = .ok (.iload_n 1, 1) := by decide +kernel
theorem dX6_amendOn_59 : decode cX6_amendOn 59 = .ok (.aload_n 0, 1) := by decide +kernel
theorem dX6_amendOn_60 : decode cX6_amendOn 60 = .ok (.getfield 41, 3) := by decide +kernel
theorem dX6_amendOn_63 : decode cX6_amendOn 63 = .ok (.iload_n 1, 1) := by decide +kernel
theorem dX6_amendOn_64 : decode cX6_amendOn 64 = .ok (.iaload, 1) := by decide +kernel
theorem dX6_amendOn_65 : decode cX6_amendOn 65 = .ok (.iload_n 2, 1) := by decide +kernel
theorem dX6_amendOn_66 : decode cX6_amendOn 66 = .ok (.invokevirtual 126, 3) := by decide +kernel
theorem dX6_amendOn_69 : decode cX6_amendOn 69 = .ok (.ireturn, 1) := by decide +kernel
theorem dX6_votesOf_0 : decode cX6_votesOf 0 = .ok (.iconst 0, 1) := by decide +kernel
theorem dX6_votesOf_1 : decode cX6_votesOf 1 = .ok (.istore_n 3, 1) := by decide +kernel
theorem dX6_votesOf_2 : decode cX6_votesOf 2 = .ok (.iconst 0, 1) := by decide +kernel
theorem dX6_votesOf_3 : decode cX6_votesOf 3 = .ok (.istore 4, 2) := by decide +kernel
theorem dX6_votesOf_5 : decode cX6_votesOf 5 = .ok (.iload 4, 2) := by decide +kernel
theorem dX6_votesOf_7 : decode cX6_votesOf 7 = .ok (.bipush 9, 2) := by decide +kernel
theorem dX6_votesOf_9 : decode cX6_votesOf 9 = .ok (.if_icmp .ge 33, 3) := by decide +kernel
theorem dX6_votesOf_12 : decode cX6_votesOf 12 = .ok (.iload_n 3, 1) := by decide +kernel
theorem dX6_votesOf_13 : decode cX6_votesOf 13 = .ok (.aload_n 0, 1) := by decide +kernel
theorem dX6_votesOf_14 : decode cX6_votesOf 14 = .ok (.getfield 53, 3) := by decide +kernel
theorem dX6_votesOf_17 : decode cX6_votesOf 17 = .ok (.bipush 9, 2) := by decide +kernel
theorem dX6_votesOf_19 : decode cX6_votesOf 19 = .ok (.iload_n 1, 1) := by decide +kernel
theorem dX6_votesOf_20 : decode cX6_votesOf 20 = .ok (.imul, 1) := by decide +kernel
theorem dX6_votesOf_21 : decode cX6_votesOf 21 = .ok (.iload 4, 2) := by decide +kernel
theorem dX6_votesOf_23 : decode cX6_votesOf 23 = .ok (.iadd, 1) := by decide +kernel
theorem dX6_votesOf_24 : decode cX6_votesOf 24 = .ok (.iaload, 1) := by decide +kernel
theorem dX6_votesOf_25 : decode cX6_votesOf 25 = .ok (.iload_n 2, 1) := by decide +kernel
theorem dX6_votesOf_26 : decode cX6_votesOf 26 = .ok (.if_icmp .ne 7, 3) := by decide +kernel
theorem dX6_votesOf_29 : decode cX6_votesOf 29 = .ok (.iconst 1, 1) := by decide +kernel
theorem dX6_votesOf_30 : decode cX6_votesOf 30 = .ok (.goto 4, 3) := by decide +kernel
theorem dX6_votesOf_33 : decode cX6_votesOf 33 = .ok (.iconst 0, 1) := by decide +kernel
theorem dX6_votesOf_34 : decode cX6_votesOf 34 = .ok (.iadd, 1) := by decide +kernel
theorem dX6_votesOf_35 : decode cX6_votesOf 35 = .ok (.istore_n 3, 1) := by decide +kernel
theorem dX6_votesOf_36 : decode cX6_votesOf 36 = .ok (.iinc 4 1, 3) := by decide +kernel
theorem dX6_votesOf_39 : decode cX6_votesOf 39 = .ok (.goto (-34), 3) := by decide +kernel
theorem dX6_votesOf_42 : decode cX6_votesOf 42 = .ok (.iload_n 3, 1) := by decide +kernel
theorem dX6_votesOf_43 : decode cX6_votesOf 43 = .ok (.ireturn, 1) := by decide +kernel
theorem dX6_vote_0 : decode cX6_vote 0 = .ok (.iload_n 1, 1) := by decide +kernel
theorem dX6_vote_1 : decode cX6_vote 1 = .ok (.iconst 0, 1) := by decide +kernel
theorem dX6_vote_2 : decode cX6_vote 2 = .ok (.bipush 8, 2) := by decide +kernel
theorem dX6_vote_4 : decode cX6_vote 4 = .ok (.invokestatic 93, 3) := by decide +kernel
theorem dX6_vote_7 : decode cX6_vote 7 = .ok (.ifCond .eq 15, 3) := by decide +kernel
theorem dX6_vote_10 : decode cX6_vote 10 = .ok (.aload_n 0, 1) := by decide +kernel
theorem dX6_vote_11 : decode cX6_vote 11 = .ok (.iload_n 2, 1) := by decide +kernel
theorem dX6_vote_12 : decode cX6_vote 12 = .ok (.invokevirtual 130, 3) := by decide +kernel
theorem dX6_vote_15 : decode cX6_vote 15 = .ok (.ifCond .eq 7, 3) := by decide +kernel
theorem dX6_vote_18 : decode cX6_vote 18 = .ok (.iconst 1, 1) := by decide +kernel
theorem dX6_vote_19 : decode cX6_vote 19 = .ok (.goto 4, 3) := by decide +kernel
theorem dX6_vote_22 : decode cX6_vote 22 = .ok (.iconst 0, 1) := by decide +kernel
theorem dX6_vote_23 : decode cX6_vote 23 = .ok (.istore 4, 2) := by decide +kernel
theorem dX6_vote_25 : decode cX6_vote 25 = .ok (.aload_n 0, 1) := by decide +kernel
theorem dX6_vote_26 : decode cX6_vote 26 = .ok (.iload 4, 2) := by decide +kernel
theorem dX6_vote_28 : decode cX6_vote 28 = .ok (.ifCond .ne 7, 3) := by decide +kernel
theorem dX6_vote_31 : decode cX6_vote 31 = .ok (.iconst 1, 1) := by decide +kernel
theorem dX6_vote_32 : decode cX6_vote 32 = .ok (.goto 17, 3) := by decide +kernel
theorem dX6_vote_35 : decode cX6_vote 35 = .ok (.aload_n 0, 1) := by decide +kernel
theorem dX6_vote_36 : decode cX6_vote 36 = .ok (.getfield 47, 3) := by decide +kernel
theorem dX6_vote_39 : decode cX6_vote 39 = .ok (.iload_n 2, 1) := by decide +kernel
theorem dX6_vote_40 : decode cX6_vote 40 = .ok (.iaload, 1) := by decide +kernel
theorem dX6_vote_41 : decode cX6_vote 41 = .ok (.ifCond .eq 7, 3) := by decide +kernel
theorem dX6_vote_44 : decode cX6_vote 44 = .ok (.iconst 2, 1) := by decide +kernel
theorem dX6_vote_45 : decode cX6_vote 45 = .ok (.goto 4, 3) := by decide +kernel
theorem dX6_vote_48 : decode cX6_vote 48 = .ok (.iconst 0, 1) := by decide +kernel
theorem dX6_vote_49 : decode cX6_vote 49 = .ok (.invokevirtual 114, 3) := by decide +kernel
theorem dX6_vote_52 : decode cX6_vote 52 = .ok (.ifCond .ne 5, 3) := by decide +kernel
theorem dX6_vote_55 : decode cX6_vote 55 = .ok (.iconst 0, 1) := by decide +kernel
theorem dX6_vote_56 : decode cX6_vote 56 = .ok (.ireturn, 1) := by decide +kernel
theorem dX6_vote_57 : decode cX6_vote 57 = .ok (.aload_n 0, 1) := by decide +kernel
theorem dX6_vote_58 : decode cX6_vote 58 = .ok (.getfield 53, 3) := by decide +kernel
theorem dX6_vote_61 : decode cX6_vote 61 = .ok (.bipush 9, 2) := by decide +kernel
theorem dX6_vote_63 : decode cX6_vote 63 = .ok (.iload_n 2, 1) := by decide +kernel
theorem dX6_vote_64 : decode cX6_vote 64 = .ok (.imul, 1) := by decide +kernel
theorem dX6_vote_65 : decode cX6_vote 65 = .ok (.iload_n 1, 1) := by decide +kernel
theorem dX6_vote_66 : decode cX6_vote 66 = .ok (.iadd, 1) := by decide +kernel
theorem dX6_vote_67 : decode cX6_vote 67 = .ok (.iload_n 3, 1) := by decide +kernel
theorem dX6_vote_68 : decode cX6_vote 68 = .ok (.ifCond .eq 7, 3) := by decide +kernel
theorem dX6_vote_71 : decode cX6_vote 71 = .ok (.iconst 1, 1) := by decide +kernel
theorem dX6_vote_72 : decode cX6_vote 72 = .ok (.goto 4, 3) := by decide +kernel
theorem dX6_vote_75 : decode cX6_vote 75 = .ok (.iconst 2, 1) := by decide +kernel
theorem dX6_vote_76 : decode cX6_vote 76 = .ok (.iastore, 1) := by decide +kernel
theorem dX6_vote_77 : decode cX6_vote 77 = .ok (.aload_n 0, 1) := by decide +kernel
theorem dX6_vote_78 : decode cX6_vote 78 = .ok (.iload_n 2, 1) := by decide +kernel
theorem dX6_vote_79 : decode cX6_vote 79 = .ok (.iconst 1, 1) := by decide +kernel
theorem dX6_vote_80 : decode cX6_vote 80 = .ok (.invokevirtual 133, 3) := by decide +kernel
theorem dX6_vote_83 : decode cX6_vote 83 = .ok (.ireturn, 1) := by decide +kernel
theorem dX6_withdraw_0 : decode cX6_withdraw 0 = .ok (.aload_n 0, 1) := by decide +kernel
theorem dX6_withdraw_1 : decode cX6_withdraw 1 = .ok (.getfield 74, 3) := by decide +kernel
theorem dX6_withdraw_4 : decode cX6_withdraw 4 = .ok (.iload_n 1, 1) := by decide +kernel
theorem dX6_withdraw_5 : decode cX6_withdraw 5 = .ok (.iconst 2, 1) := by decide +kernel
theorem dX6_withdraw_6 : decode cX6_withdraw 6 = .ok (.iastore, 1) := by decide +kernel
theorem dX6_withdraw_7 : decode cX6_withdraw 7 = .ok (.aload_n 0, 1) := by decide +kernel
theorem dX6_withdraw_8 : decode cX6_withdraw 8 = .ok (.getfield 20, 3) := by decide +kernel
theorem dX6_withdraw_11 : decode cX6_withdraw 11 = .ok (.aload_n 0, 1) := by decide +kernel
theorem dX6_withdraw_12 : decode cX6_withdraw 12 = .ok (.getfield 59, 3) := by decide +kernel
theorem dX6_withdraw_15 : decode cX6_withdraw 15 = .ok (.iload_n 1, 1) := by decide +kernel
theorem dX6_withdraw_16 : decode cX6_withdraw 16 = .ok (.iaload, 1) := by decide +kernel
theorem dX6_withdraw_17 : decode cX6_withdraw 17 = .ok (.dup2, 1) := by decide +kernel
theorem dX6_withdraw_18 : decode cX6_withdraw 18 = .ok (.iaload, 1) := by decide +kernel
theorem dX6_withdraw_19 : decode cX6_withdraw 19 = .ok (.aload_n 0, 1) := by decide +kernel
theorem dX6_withdraw_20 : decode cX6_withdraw 20 = .ok (.getfield 65, 3) := by decide +kernel
theorem dX6_withdraw_23 : decode cX6_withdraw 23 = .ok (.iload_n 1, 1) := by decide +kernel
theorem dX6_withdraw_24 : decode cX6_withdraw 24 = .ok (.iaload, 1) := by decide +kernel
theorem dX6_withdraw_25 : decode cX6_withdraw 25 = .ok (.iadd, 1) := by decide +kernel
theorem dX6_withdraw_26 : decode cX6_withdraw 26 = .ok (.iastore, 1) := by decide +kernel
theorem dX6_withdraw_27 : decode cX6_withdraw 27 = .ok (.return_, 1) := by decide +kernel
theorem dX6_look_0 : decode cX6_look 0 = .ok (.iconst 0, 1) := by decide +kernel
theorem dX6_look_1 : decode cX6_look 1 = .ok (.istore_n 2, 1) := by decide +kernel
theorem dX6_look_2 : decode cX6_look 2 = .ok (.aload_n 0, 1) := by decide +kernel
theorem dX6_look_3 : decode cX6_look 3 = .ok (.getfield 100, 3) := by decide +kernel
theorem dX6_look_6 : decode cX6_look 6 = .ok (.iconst 1, 1) := by decide +kernel
theorem dX6_look_7 : decode cX6_look 7 = .ok (.isub, 1) := by decide +kernel
theorem dX6_look_8 : decode cX6_look 8 = .ok (.istore_n 3, 1) := by decide +kernel
theorem dX6_look_9 : decode cX6_look 9 = .ok (.iload_n 3, 1) := by decide +kernel
theorem dX6_look_10 : decode cX6_look 10 = .ok (.ifCond .lt 58, 3) := by decide +kernel
theorem dX6_look_13 : decode cX6_look 13 = .ok (.aload_n 0, 1) := by decide +kernel
theorem dX6_look_14 : decode cX6_look 14 = .ok (.getfield 56, 3) := by decide +kernel
theorem dX6_look_17 : decode cX6_look 17 = .ok (.iload_n 3, 1) := by decide +kernel
theorem dX6_look_18 : decode cX6_look 18 = .ok (.iaload, 1) := by decide +kernel
theorem dX6_look_19 : decode cX6_look 19 = .ok (.iload_n 1, 1) := by decide +kernel
theorem dX6_look_20 : decode cX6_look 20 = .ok (.if_icmp .ne 42, 3) := by decide +kernel
theorem dX6_look_23 : decode cX6_look 23 = .ok (.aload_n 0, 1) := by decide +kernel
theorem dX6_look_24 : decode cX6_look 24 = .ok (.getfield 74, 3) := by decide +kernel
theorem dX6_look_27 : decode cX6_look 27 = .ok (.iload_n 3, 1) := by decide +kernel
theorem dX6_look_28 : decode cX6_look 28 = .ok (.iaload, 1) := by decide +kernel
theorem dX6_look_29 : decode cX6_look 29 = .ok (.ifCond .ne 33, 3) := by decide +kernel
theorem dX6_look_32 : decode cX6_look 32 = .ok (.aload_n 0, 1) := by decide +kernel
theorem dX6_look_33 : decode cX6_look 33 = .ok (.iload_n 1, 1) := by decide +kernel
theorem dX6_look_34 : decode cX6_look 34 = .ok (.invokevirtual 137, 3) := by decide +kernel
theorem dX6_look_37 : decode cX6_look 37 = .ok (.ifCond .ge 25, 3) := by decide +kernel
theorem dX6_look_40 : decode cX6_look 40 = .ok (.aload_n 0, 1) := by decide +kernel
theorem dX6_look_41 : decode cX6_look 41 = .ok (.getfield 74, 3) := by decide +kernel
theorem dX6_look_44 : decode cX6_look 44 = .ok (.iload_n 3, 1) := by decide +kernel
theorem dX6_look_45 : decode cX6_look 45 = .ok (.iconst 1, 1) := by decide +kernel
theorem dX6_look_46 : decode cX6_look 46 = .ok (.iastore, 1) := by decide +kernel
theorem dX6_look_47 : decode cX6_look 47 = .ok (.aload_n 0, 1) := by decide +kernel
theorem dX6_look_48 : decode cX6_look 48 = .ok (.getfield 62, 3) := by decide +kernel
theorem dX6_look_51 : decode cX6_look 51 = .ok (.iload_n 3, 1) := by decide +kernel
theorem dX6_look_52 : decode cX6_look 52 = .ok (.aload_n 0, 1) := by decide +kernel
theorem dX6_look_53 : decode cX6_look 53 = .ok (.getfield 65, 3) := by decide +kernel
theorem dX6_look_56 : decode cX6_look 56 = .ok (.iload_n 3, 1) := by decide +kernel
theorem dX6_look_57 : decode cX6_look 57 = .ok (.iaload, 1) := by decide +kernel
theorem dX6_look_58 : decode cX6_look 58 = .ok (.iastore, 1) := by decide +kernel
theorem dX6_look_59 : decode cX6_look 59 = .ok (.iinc 2 1, 3) := by decide +kernel
theorem dX6_look_62 : decode cX6_look 62 = .ok (.iinc 3 (-1), 3) := by decide +kernel
theorem dX6_look_65 : decode cX6_look 65 = .ok (.goto (-56), 3) := by decide +kernel
theorem dX6_look_68 : decode cX6_look 68 = .ok (.aload_n 0, 1) := by decide +kernel
theorem dX6_look_69 : decode cX6_look 69 = .ok (.iload_n 1, 1) := by decide +kernel
theorem dX6_look_70 : decode cX6_look 70 = .ok (.invokevirtual 137, 3) := by decide +kernel
theorem dX6_look_73 : decode cX6_look 73 = .ok (.ineg, 1) := by decide +kernel
theorem dX6_look_74 : decode cX6_look 74 = .ok (.istore_n 3, 1) := by decide +kernel
theorem dX6_look_75 : decode cX6_look 75 = .ok (.iload_n 3, 1) := by decide +kernel
theorem dX6_look_76 : decode cX6_look 76 = .ok (.ifCond .le 23, 3) := by decide +kernel
theorem dX6_look_79 : decode cX6_look 79 = .ok (.aload_n 0, 1) := by decide +kernel
theorem dX6_look_80 : decode cX6_look 80 = .ok (.getfield 32, 3) := by decide +kernel
theorem dX6_look_83 : decode cX6_look 83 = .ok (.iload_n 1, 1) := by decide +kernel
theorem dX6_look_84 : decode cX6_look 84 = .ok (.dup2, 1) := by decide +kernel
theorem dX6_look_85 : decode cX6_look 85 = .ok (.iaload, 1) := by decide +kernel
theorem dX6_look_86 : decode cX6_look 86 = .ok (.iload_n 3, 1) := by decide +kernel
theorem dX6_look_87 : decode cX6_look 87 = .ok (.iadd, 1) := by decide +kernel
theorem dX6_look_88 : decode cX6_look 88 = .ok (.iastore, 1) := by decide +kernel
theorem dX6_look_89 : decode cX6_look 89 = .ok (.aload_n 0, 1) := by decide +kernel
theorem dX6_look_90 : decode cX6_look 90 = .ok (.dup, 1) := by decide +kernel
theorem dX6_look_91 : decode cX6_look 91 = .ok (.getfield 140, 3) := by decide +kernel
theorem dX6_look_94 : decode cX6_look 94 = .ok (.iload_n 3, 1) := by decide +kernel
theorem dX6_look_95 : decode cX6_look 95 = .ok (.isub, 1) := by decide +kernel
theorem dX6_look_96 : decode cX6_look 96 = .ok (.putfield 140, 3) := by decide +kernel
theorem dX6_look_99 : decode cX6_look 99 = .ok (.iload_n 2, 1) := by decide +kernel
theorem dX6_look_100 : decode cX6_look 100 = .ok (.ireturn, 1) := by decide +kernel
theorem dX6_fall_0 : decode cX6_fall 0 = .ok (.iconst 0, 1) := by decide +kernel
theorem dX6_fall_1 : decode cX6_fall 1 = .ok (.istore_n 2, 1) := by decide +kernel
theorem dX6_fall_2 : decode cX6_fall 2 = .ok (.iconst 0, 1) := by decide +kernel
theorem dX6_fall_3 : decode cX6_fall 3 = .ok (.istore_n 3, 1) := by decide +kernel
theorem dX6_fall_4 : decode cX6_fall 4 = .ok (.iload_n 1, 1) := by decide +kernel
theorem dX6_fall_5 : decode cX6_fall 5 = .ok (.istore 4, 2) := by decide +kernel
theorem dX6_fall_7 : decode cX6_fall 7 = .ok (.iload 4, 2) := by decide +kernel
theorem dX6_fall_9 : decode cX6_fall 9 = .ok (.aload_n 0, 1) := by decide +kernel
theorem dX6_fall_10 : decode cX6_fall 10 = .ok (.getfield 97, 3) := by decide +kernel
theorem dX6_fall_13 : decode cX6_fall 13 = .ok (.if_icmp .ge 147, 3) := by decide +kernel
theorem dX6_fall_16 : decode cX6_fall 16 = .ok (.iload 4, 2) := by decide +kernel
theorem dX6_fall_18 : decode cX6_fall 18 = .ok (.iload_n 1, 1) := by decide +kernel
theorem dX6_fall_19 : decode cX6_fall 19 = .ok (.if_icmp .eq 29, 3) := by decide +kernel
theorem dX6_fall_22 : decode cX6_fall 22 = .ok (.aload_n 0, 1) := by decide +kernel
theorem dX6_fall_23 : decode cX6_fall 23 = .ok (.getfield 38, 3) := by decide +kernel
theorem dX6_fall_26 : decode cX6_fall 26 = .ok (.iload 4, 2) := by decide +kernel
theorem dX6_fall_28 : decode cX6_fall 28 = .ok (.iaload, 1) := by decide +kernel
theorem dX6_fall_29 : decode cX6_fall 29 = .ok (.iload_n 1, 1) := by decide +kernel
theorem dX6_fall_30 : decode cX6_fall 30 = .ok (.if_icmp .lt 22, 3) := by decide +kernel
theorem dX6_fall_33 : decode cX6_fall 33 = .ok (.aload_n 0, 1) := by decide +kernel
theorem dX6_fall_34 : decode cX6_fall 34 = .ok (.getfield 84, 3) := by decide +kernel
theorem dX6_fall_37 : decode cX6_fall 37 = .ok (.aload_n 0, 1) := by decide +kernel
theorem dX6_fall_38 : decode cX6_fall 38 = .ok (.getfield 38, 3) := by decide +kernel
theorem dX6_fall_41 : decode cX6_fall 41 = .ok (.iload 4, 2) := by decide +kernel
theorem dX6_fall_43 : decode cX6_fall 43 = .ok (.iaload, 1) := by decide +kernel
theorem dX6_fall_44 : decode cX6_fall 44 = .ok (.baload, 1) := by decide +kernel
theorem dX6_fall_45 : decode cX6_fall 45 = .ok (.ifCond .eq 7, 3) := by decide +kernel
theorem dX6_fall_48 : decode cX6_fall 48 = .ok (.iconst 1, 1) := by decide +kernel
theorem dX6_fall_49 : decode cX6_fall 49 = .ok (.goto 4, 3) := by decide +kernel
theorem dX6_fall_52 : decode cX6_fall 52 = .ok (.iconst 0, 1) := by decide +kernel
theorem dX6_fall_53 : decode cX6_fall 53 = .ok (.istore 5, 2) := by decide +kernel
theorem dX6_fall_55 : decode cX6_fall 55 = .ok (.aload_n 0, 1) := by decide +kernel
theorem dX6_fall_56 : decode cX6_fall 56 = .ok (.getfield 84, 3) := by decide +kernel
theorem dX6_fall_59 : decode cX6_fall 59 = .ok (.iload 4, 2) := by decide +kernel
theorem dX6_fall_61 : decode cX6_fall 61 = .ok (.iload 5, 2) := by decide +kernel
theorem dX6_fall_63 : decode cX6_fall 63 = .ok (.bastore, 1) := by decide +kernel
theorem dX6_fall_64 : decode cX6_fall 64 = .ok (.iload 5, 2) := by decide +kernel
theorem dX6_fall_66 : decode cX6_fall 66 = .ok (.ifCond .eq 65, 3) := by decide +kernel
theorem dX6_fall_69 : decode cX6_fall 69 = .ok (.aload_n 0, 1) := by decide +kernel
theorem dX6_fall_70 : decode cX6_fall 70 = .ok (.getfield 47, 3) := by decide +kernel
theorem dX6_fall_73 : decode cX6_fall 73 = .ok (.iload 4, 2) := by decide +kernel
theorem dX6_fall_75 : decode cX6_fall 75 = .ok (.iaload, 1) := by decide +kernel
theorem dX6_fall_76 : decode cX6_fall 76 = .ok (.iconst 1, 1) := by decide +kernel
theorem dX6_fall_77 : decode cX6_fall 77 = .ok (.if_icmp .ne 54, 3) := by decide +kernel
theorem dX6_fall_80 : decode cX6_fall 80 = .ok (.iconst 1, 1) := by decide +kernel
theorem dX6_fall_81 : decode cX6_fall 81 = .ok (.istore_n 2, 1) := by decide +kernel
theorem dX6_fall_82 : decode cX6_fall 82 = .ok (.iconst 0, 1) := by decide +kernel
theorem dX6_fall_83 : decode cX6_fall 83 = .ok (.istore 6, 2) := by decide +kernel
theorem dX6_fall_85 : decode cX6_fall 85 = .ok (.iload 6, 2) := by decide +kernel
theorem dX6_fall_87 : decode cX6_fall 87 = .ok (.aload_n 0, 1) := by decide +kernel
theorem dX6_fall_88 : decode cX6_fall 88 = .ok (.getfield 100, 3) := by decide +kernel
theorem dX6_fall_91 : decode cX6_fall 91 = .ok (.if_icmp .ge 40, 3) := by decide +kernel
theorem dX6_fall_94 : decode cX6_fall 94 = .ok (.aload_n 0, 1) := by decide +kernel
theorem dX6_fall_95 : decode cX6_fall 95 = .ok (.getfield 68, 3) := by decide +kernel
theorem dX6_fall_98 : decode cX6_fall 98 = .ok (.iload 6, 2) := by decide +kernel
theorem dX6_fall_100 : decode cX6_fall 100 = .ok (.iaload, 1) := by decide +kernel
theorem dX6_fall_101 : decode cX6_fall 101 = .ok (.iload 4, 2) := by decide +kernel
theorem dX6_fall_103 : decode cX6_fall 103 = .ok (.if_icmp .ne 22, 3) := by decide +kernel
theorem dX6_fall_106 : decode cX6_fall 106 = .ok (.aload_n 0, 1) := by decide +kernel
theorem dX6_fall_107 : decode cX6_fall 107 = .ok (.getfield 74, 3) := by decide +kernel
theorem dX6_fall_110 : decode cX6_fall 110 = .ok (.iload 6, 2) := by decide +kernel
theorem dX6_fall_112 : decode cX6_fall 112 = .ok (.iaload, 1) := by decide +kernel
theorem dX6_fall_113 : decode cX6_fall 113 = .ok (.ifCond .ne 12, 3) := by decide +kernel
theorem dX6_fall_116 : decode cX6_fall 116 = .ok (.aload_n 0, 1) := by decide +kernel
theorem dX6_fall_117 : decode cX6_fall 117 = .ok (.iload 6, 2) := by decide +kernel
theorem dX6_fall_119 : decode cX6_fall 119 = .ok (.invokevirtual 143, 3) := by decide +kernel
theorem dX6_fall_122 : decode cX6_fall 122 = .ok (.iinc 3 1, 3) := by decide +kernel
theorem dX6_fall_125 : decode cX6_fall 125 = .ok (.iinc 6 1, 3) := by decide +kernel
theorem dX6_fall_128 : decode cX6_fall 128 = .ok (.goto (-43), 3) := by decide +kernel
theorem dX6_fall_131 : decode cX6_fall 131 = .ok (.aload_n 0, 1) := by decide +kernel
theorem dX6_fall_132 : decode cX6_fall 132 = .ok (.getfield 47, 3) := by decide +kernel
theorem dX6_fall_135 : decode cX6_fall 135 = .ok (.iload 4, 2) := by decide +kernel
theorem dX6_fall_137 : decode cX6_fall 137 = .ok (.iload 5, 2) := by decide +kernel
theorem dX6_fall_139 : decode cX6_fall 139 = .ok (.ifCond .eq 7, 3) := by decide +kernel
theorem dX6_fall_142 : decode cX6_fall 142 = .ok (.iconst 2, 1) := by decide +kernel
theorem dX6_fall_143 : decode cX6_fall 143 = .ok (.goto 10, 3) := by decide +kernel
theorem dX6_fall_146 : decode cX6_fall 146 = .ok (.aload_n 0, 1) := by decide +kernel
theorem dX6_fall_147 : decode cX6_fall 147 = .ok (.getfield 47, 3) := by decide +kernel
theorem dX6_fall_150 : decode cX6_fall 150 = .ok (.iload 4, 2) := by decide +kernel
theorem dX6_fall_152 : decode cX6_fall 152 = .ok (.iaload, 1) := by decide +kernel
theorem dX6_fall_153 : decode cX6_fall 153 = .ok (.iastore, 1) := by decide +kernel
theorem dX6_fall_154 : decode cX6_fall 154 = .ok (.iinc 4 1, 3) := by decide +kernel
theorem dX6_fall_157 : decode cX6_fall 157 = .ok (.goto (-150), 3) := by decide +kernel
theorem dX6_fall_160 : decode cX6_fall 160 = .ok (.iload_n 2, 1) := by decide +kernel
theorem dX6_fall_161 : decode cX6_fall 161 = .ok (.ifCond .eq 18, 3) := by decide +kernel
theorem dX6_fall_164 : decode cX6_fall 164 = .ok (.iload_n 3, 1) := by decide +kernel
theorem dX6_fall_165 : decode cX6_fall 165 = .ok (.aload_n 0, 1) := by decide +kernel
theorem dX6_fall_166 : decode cX6_fall 166 = .ok (.aload_n 0, 1) := by decide +kernel
theorem dX6_fall_167 : decode cX6_fall 167 = .ok (.getfield 41, 3) := by decide +kernel
theorem dX6_fall_170 : decode cX6_fall 170 = .ok (.iload_n 1, 1) := by decide +kernel
theorem dX6_fall_171 : decode cX6_fall 171 = .ok (.iaload, 1) := by decide +kernel
theorem dX6_fall_172 : decode cX6_fall 172 = .ok (.invokevirtual 147, 3) := by decide +kernel
theorem dX6_fall_175 : decode cX6_fall 175 = .ok (.iadd, 1) := by decide +kernel
theorem dX6_fall_176 : decode cX6_fall 176 = .ok (.goto 4, 3) := by decide +kernel
theorem dX6_fall_179 : decode cX6_fall 179 = .ok (.iload_n 3, 1) := by decide +kernel
theorem dX6_fall_180 : decode cX6_fall 180 = .ok (.ireturn, 1) := by decide +kernel
theorem dX6_isFree_0 : decode cX6_isFree 0 = .ok (.aload_n 0, 1) := by decide +kernel
theorem dX6_isFree_1 : decode cX6_isFree 1 = .ok (.getfield 47, 3) := by decide +kernel
theorem dX6_isFree_4 : decode cX6_isFree 4 = .ok (.iload_n 1, 1) := by decide +kernel
theorem dX6_isFree_5 : decode cX6_isFree 5 = .ok (.iaload, 1) := by decide +kernel
theorem dX6_isFree_6 : decode cX6_isFree 6 = .ok (.ifCond .ne 7, 3) := by decide +kernel
theorem dX6_isFree_9 : decode cX6_isFree 9 = .ok (.iconst 1, 1) := by decide +kernel
theorem dX6_isFree_10 : decode cX6_isFree 10 = .ok (.goto 4, 3) := by decide +kernel
theorem dX6_isFree_13 : decode cX6_isFree 13 = .ok (.iconst 0, 1) := by decide +kernel
theorem dX6_isFree_14 : decode cX6_isFree 14 = .ok (.istore_n 2, 1) := by decide +kernel
theorem dX6_isFree_15 : decode cX6_isFree 15 = .ok (.iload_n 1, 1) := by decide +kernel
theorem dX6_isFree_16 : decode cX6_isFree 16 = .ok (.iconst 1, 1) := by decide +kernel
theorem dX6_isFree_17 : decode cX6_isFree 17 = .ok (.iadd, 1) := by decide +kernel
theorem dX6_isFree_18 : decode cX6_isFree 18 = .ok (.istore_n 3, 1) := by decide +kernel
theorem dX6_isFree_19 : decode cX6_isFree 19 = .ok (.iload_n 3, 1) := by decide +kernel
theorem dX6_isFree_20 : decode cX6_isFree 20 = .ok (.aload_n 0, 1) := by decide +kernel
theorem dX6_isFree_21 : decode cX6_isFree 21 = .ok (.getfield 97, 3) := by decide +kernel
theorem dX6_isFree_24 : decode cX6_isFree 24 = .ok (.if_icmp .ge 38, 3) := by decide +kernel
theorem dX6_isFree_27 : decode cX6_isFree 27 = .ok (.iload_n 2, 1) := by decide +kernel
theorem dX6_isFree_28 : decode cX6_isFree 28 = .ok (.ifCond .eq 26, 3) := by decide +kernel
theorem dX6_isFree_31 : decode cX6_isFree 31 = .ok (.aload_n 0, 1) := by decide +kernel
theorem dX6_isFree_32 : decode cX6_isFree 32 = .ok (.getfield 38, 3) := by decide +kernel
theorem dX6_isFree_35 : decode cX6_isFree 35 = .ok (.iload_n 3, 1) := by decide +kernel
theorem dX6_isFree_36 : decode cX6_isFree 36 = .ok (.iaload, 1) := by decide +kernel
theorem dX6_isFree_37 : decode cX6_isFree 37 = .ok (.iload_n 1, 1) := by decide +kernel
theorem dX6_isFree_38 : decode cX6_isFree 38 = .ok (.if_icmp .ne 12, 3) := by decide +kernel
theorem dX6_isFree_41 : decode cX6_isFree 41 = .ok (.aload_n 0, 1) := by decide +kernel
theorem dX6_isFree_42 : decode cX6_isFree 42 = .ok (.getfield 47, 3) := by decide +kernel
theorem dX6_isFree_45 : decode cX6_isFree 45 = .ok (.iload_n 3, 1) := by decide +kernel
theorem dX6_isFree_46 : decode cX6_isFree 46 = .ok (.iaload, 1) := by decide +kernel
theorem dX6_isFree_47 : decode cX6_isFree 47 = .ok (.ifCond .eq 7, 3) := by decide +kernel
theorem dX6_isFree_50 : decode cX6_isFree 50 = .ok (.iconst 1, 1) := by decide +kernel
theorem dX6_isFree_51 : decode cX6_isFree 51 = .ok (.goto 4, 3) := by decide +kernel
theorem dX6_isFree_54 : decode cX6_isFree 54 = .ok (.iconst 0, 1) := by decide +kernel
theorem dX6_isFree_55 : decode cX6_isFree 55 = .ok (.istore_n 2, 1) := by decide +kernel
theorem dX6_isFree_56 : decode cX6_isFree 56 = .ok (.iinc 3 1, 3) := by decide +kernel
theorem dX6_isFree_59 : decode cX6_isFree 59 = .ok (.goto (-40), 3) := by decide +kernel
theorem dX6_isFree_62 : decode cX6_isFree 62 = .ok (.iload_n 2, 1) := by decide +kernel
theorem dX6_isFree_63 : decode cX6_isFree 63 = .ok (.ireturn, 1) := by decide +kernel
theorem dX6_decide_0 : decode cX6_decide 0 = .ok (.aload_n 0, 1) := by decide +kernel
theorem dX6_decide_1 : decode cX6_decide 1 = .ok (.iload_n 1, 1) := by decide +kernel
theorem dX6_decide_2 : decode cX6_decide 2 = .ok (.invokevirtual 130, 3) := by decide +kernel
theorem dX6_decide_5 : decode cX6_decide 5 = .ok (.istore_n 2, 1) := by decide +kernel
theorem dX6_decide_6 : decode cX6_decide 6 = .ok (.aload_n 0, 1) := by decide +kernel
theorem dX6_decide_7 : decode cX6_decide 7 = .ok (.iload_n 2, 1) := by decide +kernel
theorem dX6_decide_8 : decode cX6_decide 8 = .ok (.ifCond .ne 7, 3) := by decide +kernel
theorem dX6_decide_11 : decode cX6_decide 11 = .ok (.iconst 1, 1) := by decide +kernel
theorem dX6_decide_12 : decode cX6_decide 12 = .ok (.goto 16, 3) := by decide +kernel
theorem dX6_decide_15 : decode cX6_decide 15 = .ok (.aload_n 0, 1) := by decide +kernel
theorem dX6_decide_16 : decode cX6_decide 16 = .ok (.iload_n 1, 1) := by decide +kernel
theorem dX6_decide_17 : decode cX6_decide 17 = .ok (.invokevirtual 150, 3) := by decide +kernel
theorem dX6_decide_20 : decode cX6_decide 20 = .ok (.ifCond .eq 7, 3) := by decide +kernel
theorem dX6_decide_23 : decode cX6_decide 23 = .ok (.iconst 0, 1) := by decide +kernel
theorem dX6_decide_24 : decode cX6_decide 24 = .ok (.goto 4, 3) := by decide +kernel
theorem dX6_decide_27 : decode cX6_decide 27 = .ok (.iconst 2, 1) := by decide +kernel
theorem dX6_decide_28 : decode cX6_decide 28 = .ok (.invokevirtual 114, 3) := by decide +kernel
theorem dX6_decide_31 : decode cX6_decide 31 = .ok (.ifCond .ne 5, 3) := by decide +kernel
theorem dX6_decide_34 : decode cX6_decide 34 = .ok (.iconst 0, 1) := by decide +kernel
theorem dX6_decide_35 : decode cX6_decide 35 = .ok (.ireturn, 1) := by decide +kernel
theorem dX6_decide_36 : decode cX6_decide 36 = .ok (.aload_n 0, 1) := by decide +kernel
theorem dX6_decide_37 : decode cX6_decide 37 = .ok (.iload_n 1, 1) := by decide +kernel
theorem dX6_decide_38 : decode cX6_decide 38 = .ok (.iconst 1, 1) := by decide +kernel
theorem dX6_decide_39 : decode cX6_decide 39 = .ok (.invokevirtual 133, 3) := by decide +kernel
theorem dX6_decide_42 : decode cX6_decide 42 = .ok (.istore_n 3, 1) := by decide +kernel
theorem dX6_decide_43 : decode cX6_decide 43 = .ok (.aload_n 0, 1) := by decide +kernel
theorem dX6_decide_44 : decode cX6_decide 44 = .ok (.iload_n 1, 1) := by decide +kernel
theorem dX6_decide_45 : decode cX6_decide 45 = .ok (.iconst 2, 1) := by decide +kernel
theorem dX6_decide_46 : decode cX6_decide 46 = .ok (.invokevirtual 133, 3) := by decide +kernel
theorem dX6_decide_49 : decode cX6_decide 49 = .ok (.istore 4, 2) := by decide +kernel
theorem dX6_decide_51 : decode cX6_decide 51 = .ok (.aload_n 0, 1) := by decide +kernel
theorem dX6_decide_52 : decode cX6_decide 52 = .ok (.getfield 50, 3) := by decide +kernel
theorem dX6_decide_55 : decode cX6_decide 55 = .ok (.iload_n 1, 1) := by decide +kernel
theorem dX6_decide_56 : decode cX6_decide 56 = .ok (.iaload, 1) := by decide +kernel
theorem dX6_decide_57 : decode cX6_decide 57 = .ok (.iconst 1, 1) := by decide +kernel
theorem dX6_decide_58 : decode cX6_decide 58 = .ok (.if_icmp .ne 53, 3) := by decide +kernel
theorem dX6_decide_61 : decode cX6_decide 61 = .ok (.iload_n 3, 1) := by decide +kernel
theorem dX6_decide_62 : decode cX6_decide 62 = .ok (.iconst 5, 1) := by decide +kernel
theorem dX6_decide_63 : decode cX6_decide 63 = .ok (.if_icmp .ge 48, 3) := by decide +kernel
theorem dX6_decide_66 : decode cX6_decide 66 = .ok (.iload 4, 2) := by decide +kernel
theorem dX6_decide_68 : decode cX6_decide 68 = .ok (.iconst 5, 1) := by decide +kernel
theorem dX6_decide_69 : decode cX6_decide 69 = .ok (.if_icmp .ge 42, 3) := by decide +kernel
theorem dX6_decide_72 : decode cX6_decide 72 = .ok (.aload_n 0, 1) := by decide +kernel
theorem dX6_decide_73 : decode cX6_decide 73 = .ok (.getfield 50, 3) := by decide +kernel
theorem dX6_decide_76 : decode cX6_decide 76 = .ok (.iload_n 1, 1) := by decide +kernel
theorem dX6_decide_77 : decode cX6_decide 77 = .ok (.iconst 2, 1) := by decide +kernel
theorem dX6_decide_78 : decode cX6_decide 78 = .ok (.iastore, 1) := by decide +kernel
theorem dX6_decide_79 : decode cX6_decide 79 = .ok (.iconst 0, 1) := by decide +kernel
theorem dX6_decide_80 : decode cX6_decide 80 = .ok (.istore 5, 2) := by decide +kernel
theorem dX6_decide_82 : decode cX6_decide 82 = .ok (.iload 5, 2) := by decide +kernel
theorem dX6_decide_84 : decode cX6_decide 84 = .ok (.bipush 9, 2) := by decide +kernel
theorem dX6_decide_86 : decode cX6_decide 86 = .ok (.if_icmp .ge 22, 3) := by decide +kernel
theorem dX6_decide_89 : decode cX6_decide 89 = .ok (.aload_n 0, 1) := by decide +kernel
theorem dX6_decide_90 : decode cX6_decide 90 = .ok (.getfield 53, 3) := by decide +kernel
theorem dX6_decide_93 : decode cX6_decide 93 = .ok (.bipush 9, 2) := by decide +kernel
theorem dX6_decide_95 : decode cX6_decide 95 = .ok (.iload_n 1, 1) := by decide +kernel
theorem dX6_decide_96 : decode cX6_decide 96 = .ok (.imul, 1) := by decide +kernel
theorem dX6_decide_97 : decode cX6_decide 97 = .ok (.iload 5, 2) := by decide +kernel
theorem dX6_decide_99 : decode cX6_decide 99 = .ok (.iadd, 1) := by decide +kernel
theorem dX6_decide_100 : decode cX6_decide 100 = .ok (.iconst 0, 1) := by decide +kernel
theorem dX6_decide_101 : decode cX6_decide 101 = .ok (.iastore, 1) := by decide +kernel
theorem dX6_decide_102 : decode cX6_decide 102 = .ok (.iinc 5 1, 3) := by decide +kernel
theorem dX6_decide_105 : decode cX6_decide 105 = .ok (.goto (-23), 3) := by decide +kernel
theorem dX6_decide_108 : decode cX6_decide 108 = .ok (.goto 52, 3) := by decide +kernel
theorem dX6_decide_111 : decode cX6_decide 111 = .ok (.iload_n 3, 1) := by decide +kernel
theorem dX6_decide_112 : decode cX6_decide 112 = .ok (.iload 4, 2) := by decide +kernel
theorem dX6_decide_114 : decode cX6_decide 114 = .ok (.if_icmp .le 39, 3) := by decide +kernel
theorem dX6_decide_117 : decode cX6_decide 117 = .ok (.aload_n 0, 1) := by decide +kernel
theorem dX6_decide_118 : decode cX6_decide 118 = .ok (.getfield 47, 3) := by decide +kernel
theorem dX6_decide_121 : decode cX6_decide 121 = .ok (.iload_n 1, 1) := by decide +kernel
theorem dX6_decide_122 : decode cX6_decide 122 = .ok (.iconst 1, 1) := by decide +kernel
theorem dX6_decide_123 : decode cX6_decide 123 = .ok (.iastore, 1) := by decide +kernel
theorem dX6_decide_124 : decode cX6_decide 124 = .ok (.aload_n 0, 1) := by decide +kernel
theorem dX6_decide_125 : decode cX6_decide 125 = .ok (.getfield 38, 3) := by decide +kernel
theorem dX6_decide_128 : decode cX6_decide 128 = .ok (.iload_n 1, 1) := by decide +kernel
theorem dX6_decide_129 : decode cX6_decide 129 = .ok (.iaload, 1) := by decide +kernel
theorem dX6_decide_130 : decode cX6_decide 130 = .ok (.iconst (-1), 1) := by decide +kernel
theorem dX6_decide_131 : decode cX6_decide 131 = .ok (.if_icmp .ne 16, 3) := by decide +kernel
theorem dX6_decide_134 : decode cX6_decide 134 = .ok (.aload_n 0, 1) := by decide +kernel
theorem dX6_decide_135 : decode cX6_decide 135 = .ok (.aload_n 0, 1) := by decide +kernel
theorem dX6_decide_136 : decode cX6_decide 136 = .ok (.getfield 41, 3) := by decide +kernel
theorem dX6_decide_139 : decode cX6_decide 139 = .ok (.iload_n 1, 1) := by decide +kernel
theorem dX6_decide_140 : decode cX6_decide 140 = .ok (.iaload, 1) := by decide +kernel
theorem dX6_decide_141 : decode cX6_decide 141 = .ok (.invokevirtual 147, 3) := by decide +kernel
theorem dX6_decide_144 : decode cX6_decide 144 = .ok (.goto 4, 3) := by decide +kernel
theorem dX6_decide_147 : decode cX6_decide 147 = .ok (.iconst 0, 1) := by decide +kernel
theorem dX6_decide_148 : decode cX6_decide 148 = .ok (.istore 5, 2) := by decide +kernel
theorem dX6_decide_150 : decode cX6_decide 150 = .ok (.goto 10, 3) := by decide +kernel
theorem dX6_decide_153 : decode cX6_decide 153 = .ok (.aload_n 0, 1) := by decide +kernel
theorem dX6_decide_154 : decode cX6_decide 154 = .ok (.iload_n 1, 1) := by decide +kernel
theorem dX6_decide_155 : decode cX6_decide 155 = .ok (.invokevirtual 153, 3) := by decide +kernel
theorem dX6_decide_158 : decode cX6_decide 158 = .ok (.istore 5, 2) := by decide +kernel
theorem dX6_decide_160 : decode cX6_decide 160 = .ok (.aload_n 0, 1) := by decide +kernel
theorem dX6_decide_161 : decode cX6_decide 161 = .ok (.getfield 47, 3) := by decide +kernel
theorem dX6_decide_164 : decode cX6_decide 164 = .ok (.iload_n 1, 1) := by decide +kernel
theorem dX6_decide_165 : decode cX6_decide 165 = .ok (.iaload, 1) := by decide +kernel
theorem dX6_decide_166 : decode cX6_decide 166 = .ok (.ireturn, 1) := by decide +kernel
theorem dX6_strike_0 : decode cX6_strike 0 = .ok (.aload_n 0, 1) := by decide +kernel
theorem dX6_strike_1 : decode cX6_strike 1 = .ok (.iload_n 1, 1) := by decide +kernel
theorem dX6_strike_2 : decode cX6_strike 2 = .ok (.invokevirtual 130, 3) := by decide +kernel
theorem dX6_strike_5 : decode cX6_strike 5 = .ok (.istore_n 2, 1) := by decide +kernel
theorem dX6_strike_6 : decode cX6_strike 6 = .ok (.aload_n 0, 1) := by decide +kernel
theorem dX6_strike_7 : decode cX6_strike 7 = .ok (.iload_n 2, 1) := by decide +kernel
theorem dX6_strike_8 : decode cX6_strike 8 = .ok (.ifCond .ne 7, 3) := by decide +kernel
theorem dX6_strike_11 : decode cX6_strike 11 = .ok (.iconst 1, 1) := by decide +kernel
theorem dX6_strike_12 : decode cX6_strike 12 = .ok (.goto 18, 3) := by decide +kernel
theorem dX6_strike_15 : decode cX6_strike 15 = .ok (.aload_n 0, 1) := by decide +kernel
theorem dX6_strike_16 : decode cX6_strike 16 = .ok (.getfield 47, 3) := by decide +kernel
theorem dX6_strike_19 : decode cX6_strike 19 = .ok (.iload_n 1, 1) := by decide +kernel
theorem dX6_strike_20 : decode cX6_strike 20 = .ok (.iaload, 1) := by decide +kernel
theorem dX6_strike_21 : decode cX6_strike 21 = .ok (.iconst 1, 1) := by decide +kernel
theorem dX6_strike_22 : decode cX6_strike 22 = .ok (.if_icmp .ne 7, 3) := by decide +kernel
theorem dX6_strike_25 : decode cX6_strike 25 = .ok (.iconst 0, 1) := by decide +kernel
theorem dX6_strike_26 : decode cX6_strike 26 = .ok (.goto 4, 3) := by decide +kernel
theorem dX6_strike_29 : decode cX6_strike 29 = .ok (.iconst 2, 1) := by decide +kernel
theorem dX6_strike_30 : decode cX6_strike 30 = .ok (.invokevirtual 114, 3) := by decide +kernel
theorem dX6_strike_33 : decode cX6_strike 33 = .ok (.ifCond .eq 11, 3) := by decide +kernel
theorem dX6_strike_36 : decode cX6_strike 36 = .ok (.aload_n 0, 1) := by decide +kernel
theorem dX6_strike_37 : decode cX6_strike 37 = .ok (.iload_n 1, 1) := by decide +kernel
theorem dX6_strike_38 : decode cX6_strike 38 = .ok (.invokevirtual 153, 3) := by decide +kernel
theorem dX6_strike_41 : decode cX6_strike 41 = .ok (.goto 4, 3) := by decide +kernel
theorem dX6_strike_44 : decode cX6_strike 44 = .ok (.iconst 0, 1) := by decide +kernel
theorem dX6_strike_45 : decode cX6_strike 45 = .ok (.ireturn, 1) := by decide +kernel
theorem dX6_grant_0 : decode cX6_grant 0 = .ok (.aload_n 0, 1) := by decide +kernel
