theorem d_LR_init_0 : decode b_LR_init 0 = .ok (.aload_n 0, 1) := by decide +kernel
theorem d_LR_init_1 : decode b_LR_init 1 = .ok (.invokespecial 3, 3) := by decide +kernel
theorem d_LR_init_4 : decode b_LR_init 4 = .ok (.aload_n 0, 1) := by decide +kernel
theorem d_LR_init_5 : decode b_LR_init 5 = .ok (.bipush 40, 2) := by decide +kernel
theorem d_LR_init_7 : decode b_LR_init 7 = .ok (.anewarray 9, 3) := by decide +kernel
theorem d_LR_init_10 : decode b_LR_init 10 = .ok (.putfield 11, 3) := by decide +kernel
theorem d_LR_init_13 : decode b_LR_init 13 = .ok (.aload_n 0, 1) := by decide +kernel
theorem d_LR_init_14 : decode b_LR_init 14 = .ok (.bipush 40, 2) := by decide +kernel
theorem d_LR_init_16 : decode b_LR_init 16 = .ok (.anewarray 9, 3) := by decide +kernel
theorem d_LR_init_19 : decode b_LR_init 19 = .ok (.putfield 15, 3) := by decide +kernel
theorem d_LR_init_22 : decode b_LR_init 22 = .ok (.aload_n 0, 1) := by decide +kernel
theorem d_LR_init_23 : decode b_LR_init 23 = .ok (.bipush 80, 2) := by decide +kernel
theorem d_LR_init_25 : decode b_LR_init 25 = .ok (.anewarray 18, 3) := by decide +kernel
theorem d_LR_init_28 : decode b_LR_init 28 = .ok (.putfield 20, 3) := by decide +kernel
theorem d_LR_init_31 : decode b_LR_init 31 = .ok (.iconst 0, 1) := by decide +kernel
theorem d_LR_init_32 : decode b_LR_init 32 = .ok (.istore_n 1, 1) := by decide +kernel
theorem d_LR_init_33 : decode b_LR_init 33 = .ok (.iload_n 1, 1) := by decide +kernel
theorem d_LR_init_34 : decode b_LR_init 34 = .ok (.bipush 80, 2) := by decide +kernel
theorem d_LR_init_36 : decode b_LR_init 36 = .ok (.if_icmp .ge 22, 3) := by decide +kernel
theorem d_LR_init_39 : decode b_LR_init 39 = .ok (.aload_n 0, 1) := by decide +kernel
theorem d_LR_init_40 : decode b_LR_init 40 = .ok (.getfield 20, 3) := by decide +kernel
theorem d_LR_init_43 : decode b_LR_init 43 = .ok (.iload_n 1, 1) := by decide +kernel
theorem d_LR_init_44 : decode b_LR_init 44 = .ok (.new 18, 3) := by decide +kernel
theorem d_LR_init_47 : decode b_LR_init 47 = .ok (.dup, 1) := by decide +kernel
theorem d_LR_init_48 : decode b_LR_init 48 = .ok (.invokespecial 24, 3) := by decide +kernel
theorem d_LR_init_51 : decode b_LR_init 51 = .ok (.aastore, 1) := by decide +kernel
theorem d_LR_init_52 : decode b_LR_init 52 = .ok (.iinc 1 1, 3) := by decide +kernel
theorem d_LR_init_55 : decode b_LR_init 55 = .ok (.goto (-22), 3) := by decide +kernel
theorem d_LR_init_58 : decode b_LR_init 58 = .ok (.return_, 1) := by decide +kernel
theorem d_LR_found_0 : decode b_LR_found 0 = .ok (.aload_n 0, 1) := by decide +kernel
theorem d_LR_found_1 : decode b_LR_found 1 = .ok (.iload_n 1, 1) := by decide +kernel
theorem d_LR_found_2 : decode b_LR_found 2 = .ok (.invokevirtual 25, 3) := by decide +kernel
theorem d_LR_found_5 : decode b_LR_found 5 = .ok (.iload_n 3, 1) := by decide +kernel
theorem d_LR_found_6 : decode b_LR_found 6 = .ok (.invokestatic 29, 3) := by decide +kernel
theorem d_LR_found_9 : decode b_LR_found 9 = .ok (.iload_n 2, 1) := by decide +kernel
theorem d_LR_found_10 : decode b_LR_found 10 = .ok (.invokestatic 32, 3) := by decide +kernel
theorem d_LR_found_13 : decode b_LR_found 13 = .ok (.aload_n 0, 1) := by decide +kernel
theorem d_LR_found_14 : decode b_LR_found 14 = .ok (.invokevirtual 35, 3) := by decide +kernel
theorem d_LR_found_17 : decode b_LR_found 17 = .ok (.aload_n 0, 1) := by decide +kernel
theorem d_LR_found_18 : decode b_LR_found 18 = .ok (.iload_n 1, 1) := by decide +kernel
theorem d_LR_found_19 : decode b_LR_found 19 = .ok (.new 38, 3) := by decide +kernel
theorem d_LR_found_22 : decode b_LR_found 22 = .ok (.dup, 1) := by decide +kernel
theorem d_LR_found_23 : decode b_LR_found 23 = .ok (.iload_n 2, 1) := by decide +kernel
theorem d_LR_found_24 : decode b_LR_found 24 = .ok (.iload_n 3, 1) := by decide +kernel
theorem d_LR_found_25 : decode b_LR_found 25 = .ok (.invokespecial 40, 3) := by decide +kernel
theorem d_LR_found_28 : decode b_LR_found 28 = .ok (.invokevirtual 43, 3) := by decide +kernel
theorem d_LR_found_31 : decode b_LR_found 31 = .ok (.ireturn, 1) := by decide +kernel
theorem d_LR_sell_0 : decode b_LR_sell 0 = .ok (.aload_n 0, 1) := by decide +kernel
theorem d_LR_sell_1 : decode b_LR_sell 1 = .ok (.iload_n 1, 1) := by decide +kernel
theorem d_LR_sell_2 : decode b_LR_sell 2 = .ok (.invokevirtual 25, 3) := by decide +kernel
theorem d_LR_sell_5 : decode b_LR_sell 5 = .ok (.iload_n 2, 1) := by decide +kernel
theorem d_LR_sell_6 : decode b_LR_sell 6 = .ok (.invokestatic 47, 3) := by decide +kernel
theorem d_LR_sell_9 : decode b_LR_sell 9 = .ok (.iload_n 3, 1) := by decide +kernel
theorem d_LR_sell_10 : decode b_LR_sell 10 = .ok (.invokestatic 29, 3) := by decide +kernel
theorem d_LR_sell_13 : decode b_LR_sell 13 = .ok (.iload 4, 2) := by decide +kernel
theorem d_LR_sell_15 : decode b_LR_sell 15 = .ok (.invokestatic 29, 3) := by decide +kernel
theorem d_LR_sell_18 : decode b_LR_sell 18 = .ok (.iload_n 3, 1) := by decide +kernel
theorem d_LR_sell_19 : decode b_LR_sell 19 = .ok (.iload 4, 2) := by decide +kernel
theorem d_LR_sell_21 : decode b_LR_sell 21 = .ok (.invokestatic 50, 3) := by decide +kernel
theorem d_LR_sell_24 : decode b_LR_sell 24 = .ok (.lload 5, 2) := by decide +kernel
theorem d_LR_sell_26 : decode b_LR_sell 26 = .ok (.invokestatic 53, 3) := by decide +kernel
theorem d_LR_sell_29 : decode b_LR_sell 29 = .ok (.aload_n 0, 1) := by decide +kernel
theorem d_LR_sell_30 : decode b_LR_sell 30 = .ok (.invokevirtual 35, 3) := by decide +kernel
theorem d_LR_sell_33 : decode b_LR_sell 33 = .ok (.aload_n 0, 1) := by decide +kernel
theorem d_LR_sell_34 : decode b_LR_sell 34 = .ok (.iload_n 1, 1) := by decide +kernel
theorem d_LR_sell_35 : decode b_LR_sell 35 = .ok (.new 57, 3) := by decide +kernel
theorem d_LR_sell_38 : decode b_LR_sell 38 = .ok (.dup, 1) := by decide +kernel
theorem d_LR_sell_39 : decode b_LR_sell 39 = .ok (.iload_n 2, 1) := by decide +kernel
theorem d_LR_sell_40 : decode b_LR_sell 40 = .ok (.iload_n 3, 1) := by decide +kernel
theorem d_LR_sell_41 : decode b_LR_sell 41 = .ok (.iload 4, 2) := by decide +kernel
theorem d_LR_sell_43 : decode b_LR_sell 43 = .ok (.lload 5, 2) := by decide +kernel
theorem d_LR_sell_45 : decode b_LR_sell 45 = .ok (.invokespecial 59, 3) := by decide +kernel
theorem d_LR_sell_48 : decode b_LR_sell 48 = .ok (.invokevirtual 43, 3) := by decide +kernel
theorem d_LR_sell_51 : decode b_LR_sell 51 = .ok (.ireturn, 1) := by decide +kernel
theorem d_LR_pledge_0 : decode b_LR_pledge 0 = .ok (.aload_n 0, 1) := by decide +kernel
theorem d_LR_pledge_1 : decode b_LR_pledge 1 = .ok (.iload_n 1, 1) := by decide +kernel
theorem d_LR_pledge_2 : decode b_LR_pledge 2 = .ok (.invokevirtual 25, 3) := by decide +kernel
theorem d_LR_pledge_5 : decode b_LR_pledge 5 = .ok (.iload_n 2, 1) := by decide +kernel
theorem d_LR_pledge_6 : decode b_LR_pledge 6 = .ok (.invokestatic 47, 3) := by decide +kernel
theorem d_LR_pledge_9 : decode b_LR_pledge 9 = .ok (.iload_n 3, 1) := by decide +kernel
theorem d_LR_pledge_10 : decode b_LR_pledge 10 = .ok (.invokestatic 29, 3) := by decide +kernel
theorem d_LR_pledge_13 : decode b_LR_pledge 13 = .ok (.iload 4, 2) := by decide +kernel
theorem d_LR_pledge_15 : decode b_LR_pledge 15 = .ok (.invokestatic 32, 3) := by decide +kernel
theorem d_LR_pledge_18 : decode b_LR_pledge 18 = .ok (.aload_n 0, 1) := by decide +kernel
theorem d_LR_pledge_19 : decode b_LR_pledge 19 = .ok (.invokevirtual 35, 3) := by decide +kernel
theorem d_LR_pledge_22 : decode b_LR_pledge 22 = .ok (.aload_n 0, 1) := by decide +kernel
theorem d_LR_pledge_23 : decode b_LR_pledge 23 = .ok (.iload_n 1, 1) := by decide +kernel
theorem d_LR_pledge_24 : decode b_LR_pledge 24 = .ok (.new 62, 3) := by decide +kernel
theorem d_LR_pledge_27 : decode b_LR_pledge 27 = .ok (.dup, 1) := by decide +kernel
theorem d_LR_pledge_28 : decode b_LR_pledge 28 = .ok (.iload_n 2, 1) := by decide +kernel
theorem d_LR_pledge_29 : decode b_LR_pledge 29 = .ok (.iload_n 3, 1) := by decide +kernel
theorem d_LR_pledge_30 : decode b_LR_pledge 30 = .ok (.iload 4, 2) := by decide +kernel
theorem d_LR_pledge_32 : decode b_LR_pledge 32 = .ok (.invokespecial 64, 3) := by decide +kernel
theorem d_LR_pledge_35 : decode b_LR_pledge 35 = .ok (.invokevirtual 43, 3) := by decide +kernel
theorem d_LR_pledge_38 : decode b_LR_pledge 38 = .ok (.ireturn, 1) := by decide +kernel
theorem d_LR_rerank_0 : decode b_LR_rerank 0 = .ok (.aload_n 0, 1) := by decide +kernel
theorem d_LR_rerank_1 : decode b_LR_rerank 1 = .ok (.iload_n 1, 1) := by decide +kernel
theorem d_LR_rerank_2 : decode b_LR_rerank 2 = .ok (.invokevirtual 25, 3) := by decide +kernel
theorem d_LR_rerank_5 : decode b_LR_rerank 5 = .ok (.iload_n 2, 1) := by decide +kernel
theorem d_LR_rerank_6 : decode b_LR_rerank 6 = .ok (.invokestatic 47, 3) := by decide +kernel
theorem d_LR_rerank_9 : decode b_LR_rerank 9 = .ok (.iload_n 3, 1) := by decide +kernel
theorem d_LR_rerank_10 : decode b_LR_rerank 10 = .ok (.invokestatic 67, 3) := by decide +kernel
theorem d_LR_rerank_13 : decode b_LR_rerank 13 = .ok (.iload 4, 2) := by decide +kernel
theorem d_LR_rerank_15 : decode b_LR_rerank 15 = .ok (.invokestatic 67, 3) := by decide +kernel
theorem d_LR_rerank_18 : decode b_LR_rerank 18 = .ok (.iload_n 3, 1) := by decide +kernel
theorem d_LR_rerank_19 : decode b_LR_rerank 19 = .ok (.iload 4, 2) := by decide +kernel
theorem d_LR_rerank_21 : decode b_LR_rerank 21 = .ok (.invokestatic 50, 3) := by decide +kernel
theorem d_LR_rerank_24 : decode b_LR_rerank 24 = .ok (.aload_n 0, 1) := by decide +kernel
theorem d_LR_rerank_25 : decode b_LR_rerank 25 = .ok (.invokevirtual 35, 3) := by decide +kernel
theorem d_LR_rerank_28 : decode b_LR_rerank 28 = .ok (.aload_n 0, 1) := by decide +kernel
theorem d_LR_rerank_29 : decode b_LR_rerank 29 = .ok (.iload_n 1, 1) := by decide +kernel
theorem d_LR_rerank_30 : decode b_LR_rerank 30 = .ok (.new 70, 3) := by decide +kernel
theorem d_LR_rerank_33 : decode b_LR_rerank 33 = .ok (.dup, 1) := by decide +kernel
theorem d_LR_rerank_34 : decode b_LR_rerank 34 = .ok (.iload_n 2, 1) := by decide +kernel
theorem d_LR_rerank_35 : decode b_LR_rerank 35 = .ok (.iload_n 3, 1) := by decide +kernel
theorem d_LR_rerank_36 : decode b_LR_rerank 36 = .ok (.iload 4, 2) := by decide +kernel
theorem d_LR_rerank_38 : decode b_LR_rerank 38 = .ok (.iload 5, 2) := by decide +kernel
theorem d_LR_rerank_40 : decode b_LR_rerank 40 = .ok (.invokespecial 72, 3) := by decide +kernel
theorem d_LR_rerank_43 : decode b_LR_rerank 43 = .ok (.invokevirtual 43, 3) := by decide +kernel
theorem d_LR_rerank_46 : decode b_LR_rerank 46 = .ok (.ireturn, 1) := by decide +kernel
theorem d_LR_release_0 : decode b_LR_release 0 = .ok (.aload_n 0, 1) := by decide +kernel
theorem d_LR_release_1 : decode b_LR_release 1 = .ok (.iload_n 1, 1) := by decide +kernel
theorem d_LR_release_2 : decode b_LR_release 2 = .ok (.invokevirtual 25, 3) := by decide +kernel
theorem d_LR_release_5 : decode b_LR_release 5 = .ok (.iload_n 2, 1) := by decide +kernel
theorem d_LR_release_6 : decode b_LR_release 6 = .ok (.invokestatic 47, 3) := by decide +kernel
theorem d_LR_release_9 : decode b_LR_release 9 = .ok (.iload_n 3, 1) := by decide +kernel
theorem d_LR_release_10 : decode b_LR_release 10 = .ok (.invokestatic 67, 3) := by decide +kernel
theorem d_LR_release_13 : decode b_LR_release 13 = .ok (.aload_n 0, 1) := by decide +kernel
theorem d_LR_release_14 : decode b_LR_release 14 = .ok (.invokevirtual 35, 3) := by decide +kernel
theorem d_LR_release_17 : decode b_LR_release 17 = .ok (.aload_n 0, 1) := by decide +kernel
theorem d_LR_release_18 : decode b_LR_release 18 = .ok (.iload_n 1, 1) := by decide +kernel
theorem d_LR_release_19 : decode b_LR_release 19 = .ok (.new 75, 3) := by decide +kernel
theorem d_LR_release_22 : decode b_LR_release 22 = .ok (.dup, 1) := by decide +kernel
theorem d_LR_release_23 : decode b_LR_release 23 = .ok (.iload_n 2, 1) := by decide +kernel
theorem d_LR_release_24 : decode b_LR_release 24 = .ok (.iload_n 3, 1) := by decide +kernel
theorem d_LR_release_25 : decode b_LR_release 25 = .ok (.invokespecial 77, 3) := by decide +kernel
theorem d_LR_release_28 : decode b_LR_release 28 = .ok (.invokevirtual 43, 3) := by decide +kernel
theorem d_LR_release_31 : decode b_LR_release 31 = .ok (.ireturn, 1) := by decide +kernel
theorem d_LR_caution_0 : decode b_LR_caution 0 = .ok (.aload_n 0, 1) := by decide +kernel
theorem d_LR_caution_1 : decode b_LR_caution 1 = .ok (.iload_n 1, 1) := by decide +kernel
theorem d_LR_caution_2 : decode b_LR_caution 2 = .ok (.invokevirtual 25, 3) := by decide +kernel
theorem d_LR_caution_5 : decode b_LR_caution 5 = .ok (.iload_n 2, 1) := by decide +kernel
theorem d_LR_caution_6 : decode b_LR_caution 6 = .ok (.invokestatic 47, 3) := by decide +kernel
theorem d_LR_caution_9 : decode b_LR_caution 9 = .ok (.iload_n 3, 1) := by decide +kernel
theorem d_LR_caution_10 : decode b_LR_caution 10 = .ok (.invokestatic 29, 3) := by decide +kernel
theorem d_LR_caution_13 : decode b_LR_caution 13 = .ok (.aload_n 0, 1) := by decide +kernel
theorem d_LR_caution_14 : decode b_LR_caution 14 = .ok (.invokevirtual 35, 3) := by decide +kernel
theorem d_LR_caution_17 : decode b_LR_caution 17 = .ok (.aload_n 0, 1) := by decide +kernel
theorem d_LR_caution_18 : decode b_LR_caution 18 = .ok (.iload_n 1, 1) := by decide +kernel
theorem d_LR_caution_19 : decode b_LR_caution 19 = .ok (.new 78, 3) := by decide +kernel
theorem d_LR_caution_22 : decode b_LR_caution 22 = .ok (.dup, 1) := by decide +kernel
theorem d_LR_caution_23 : decode b_LR_caution 23 = .ok (.iload_n 2, 1) := by decide +kernel
theorem d_LR_caution_24 : decode b_LR_caution 24 = .ok (.iload_n 3, 1) := by decide +kernel
theorem d_LR_caution_25 : decode b_LR_caution 25 = .ok (.invokespecial 80, 3) := by decide +kernel
theorem d_LR_caution_28 : decode b_LR_caution 28 = .ok (.invokevirtual 43, 3) := by decide +kernel
theorem d_LR_caution_31 : decode b_LR_caution 31 = .ok (.ireturn, 1) := by decide +kernel
theorem d_LR_lift_0 : decode b_LR_lift 0 = .ok (.aload_n 0, 1) := by decide +kernel
theorem d_LR_lift_1 : decode b_LR_lift 1 = .ok (.iload_n 1, 1) := by decide +kernel
theorem d_LR_lift_2 : decode b_LR_lift 2 = .ok (.invokevirtual 25, 3) := by decide +kernel
theorem d_LR_lift_5 : decode b_LR_lift 5 = .ok (.iload_n 2, 1) := by decide +kernel
theorem d_LR_lift_6 : decode b_LR_lift 6 = .ok (.invokestatic 47, 3) := by decide +kernel
theorem d_LR_lift_9 : decode b_LR_lift 9 = .ok (.iload_n 3, 1) := by decide +kernel
theorem d_LR_lift_10 : decode b_LR_lift 10 = .ok (.invokestatic 29, 3) := by decide +kernel
theorem d_LR_lift_13 : decode b_LR_lift 13 = .ok (.aload_n 0, 1) := by decide +kernel
theorem d_LR_lift_14 : decode b_LR_lift 14 = .ok (.invokevirtual 35, 3) := by decide +kernel
theorem d_LR_lift_17 : decode b_LR_lift 17 = .ok (.aload_n 0, 1) := by decide +kernel
theorem d_LR_lift_18 : decode b_LR_lift 18 = .ok (.iload_n 1, 1) := by decide +kernel
theorem d_LR_lift_19 : decode b_LR_lift 19 = .ok (.new 81, 3) := by decide +kernel
theorem d_LR_lift_22 : decode b_LR_lift 22 = .ok (.dup, 1) := by decide +kernel
theorem d_LR_lift_23 : decode b_LR_lift 23 = .ok (.iload_n 2, 1) := by decide +kernel
theorem d_LR_lift_24 : decode b_LR_lift 24 = .ok (.iload_n 3, 1) := by decide +kernel
theorem d_LR_lift_25 : decode b_LR_lift 25 = .ok (.invokespecial 83, 3) := by decide +kernel
theorem d_LR_lift_28 : decode b_LR_lift 28 = .ok (.invokevirtual 43, 3) := by decide +kernel
theorem d_LR_lift_31 : decode b_LR_lift 31 = .ok (.ireturn, 1) := by decide +kernel
theorem d_LR_split_0 : decode b_LR_split 0 = .ok (.aload_n 0, 1) := by decide +kernel
theorem d_LR_split_1 : decode b_LR_split 1 = .ok (.iload_n 1, 1) := by decide +kernel
theorem d_LR_split_2 : decode b_LR_split 2 = .ok (.invokevirtual 25, 3) := by decide +kernel
theorem d_LR_split_5 : decode b_LR_split 5 = .ok (.iload_n 2, 1) := by decide +kernel
theorem d_LR_split_6 : decode b_LR_split 6 = .ok (.invokestatic 47, 3) := by decide +kernel
theorem d_LR_split_9 : decode b_LR_split 9 = .ok (.iload_n 3, 1) := by decide +kernel
theorem d_LR_split_10 : decode b_LR_split 10 = .ok (.invokestatic 32, 3) := by decide +kernel
theorem d_LR_split_13 : decode b_LR_split 13 = .ok (.aload_n 0, 1) := by decide +kernel
theorem d_LR_split_14 : decode b_LR_split 14 = .ok (.invokevirtual 35, 3) := by decide +kernel
theorem d_LR_split_17 : decode b_LR_split 17 = .ok (.aload_n 0, 1) := by decide +kernel
theorem d_LR_split_18 : decode b_LR_split 18 = .ok (.iload_n 1, 1) := by decide +kernel
theorem d_LR_split_19 : decode b_LR_split 19 = .ok (.new 84, 3) := by decide +kernel
theorem d_LR_split_22 : decode b_LR_split 22 = .ok (.dup, 1) := by decide +kernel
theorem d_LR_split_23 : decode b_LR_split 23 = .ok (.iload_n 2, 1) := by decide +kernel
theorem d_LR_split_24 : decode b_LR_split 24 = .ok (.iload_n 3, 1) := by decide +kernel
theorem d_LR_split_25 : decode b_LR_split 25 = .ok (.invokespecial 86, 3) := by decide +kernel
theorem d_LR_split_28 : decode b_LR_split 28 = .ok (.invokevirtual 43, 3) := by decide +kernel
theorem d_LR_split_31 : decode b_LR_split 31 = .ok (.ireturn, 1) := by decide +kernel
theorem d_LR_merge_0 : decode b_LR_merge 0 = .ok (.aload_n 0, 1) := by decide +kernel
theorem d_LR_merge_1 : decode b_LR_merge 1 = .ok (.iload_n 1, 1) := by decide +kernel
theorem d_LR_merge_2 : decode b_LR_merge 2 = .ok (.invokevirtual 25, 3) := by decide +kernel
theorem d_LR_merge_5 : decode b_LR_merge 5 = .ok (.iload_n 2, 1) := by decide +kernel
theorem d_LR_merge_6 : decode b_LR_merge 6 = .ok (.invokestatic 47, 3) := by decide +kernel
theorem d_LR_merge_9 : decode b_LR_merge 9 = .ok (.iload_n 3, 1) := by decide +kernel
theorem d_LR_merge_10 : decode b_LR_merge 10 = .ok (.invokestatic 47, 3) := by decide +kernel
theorem d_LR_merge_13 : decode b_LR_merge 13 = .ok (.iload_n 2, 1) := by decide +kernel
theorem d_LR_merge_14 : decode b_LR_merge 14 = .ok (.iload_n 3, 1) := by decide +kernel
theorem d_LR_merge_15 : decode b_LR_merge 15 = .ok (.invokestatic 50, 3) := by decide +kernel
theorem d_LR_merge_18 : decode b_LR_merge 18 = .ok (.aload_n 0, 1) := by decide +kernel
theorem d_LR_merge_19 : decode b_LR_merge 19 = .ok (.invokevirtual 35, 3) := by decide +kernel
theorem d_LR_merge_22 : decode b_LR_merge 22 = .ok (.aload_n 0, 1) := by decide +kernel
theorem d_LR_merge_23 : decode b_LR_merge 23 = .ok (.iload_n 1, 1) := by decide +kernel
theorem d_LR_merge_24 : decode b_LR_merge 24 = .ok (.new 87, 3) := by decide +kernel
theorem d_LR_merge_27 : decode b_LR_merge 27 = .ok (.dup, 1) := by decide +kernel
theorem d_LR_merge_28 : decode b_LR_merge 28 = .ok (.iload_n 2, 1) := by decide +kernel
theorem d_LR_merge_29 : decode b_LR_merge 29 = .ok (.iload_n 3, 1) := by decide +kernel
theorem d_LR_merge_30 : decode b_LR_merge 30 = .ok (.invokespecial 89, 3) := by decide +kernel
theorem d_LR_merge_33 : decode b_LR_merge 33 = .ok (.invokevirtual 43, 3) := by decide +kernel
theorem d_LR_merge_36 : decode b_LR_merge 36 = .ok (.ireturn, 1) := by decide +kernel
theorem d_LR_day_0 : decode b_LR_day 0 = .ok (.aload_n 0, 1) := by decide +kernel
theorem d_LR_day_1 : decode b_LR_day 1 = .ok (.getfield 90, 3) := by decide +kernel
theorem d_LR_day_4 : decode b_LR_day 4 = .ok (.bipush 60, 2) := by decide +kernel
theorem d_LR_day_6 : decode b_LR_day 6 = .ok (.if_icmp .lt 13, 3) := by decide +kernel
theorem d_LR_day_9 : decode b_LR_day 9 = .ok (.new 94, 3) := by decide +kernel
theorem d_LR_day_12 : decode b_LR_day 12 = .ok (.dup, 1) := by decide +kernel
theorem d_LR_day_13 : decode b_LR_day 13 = .ok (.ldc 96, 2) := by decide +kernel
theorem d_LR_day_15 : decode b_LR_day 15 = .ok (.invokespecial 98, 3) := by decide +kernel
theorem d_LR_day_18 : decode b_LR_day 18 = .ok (.athrow, 1) := by decide +kernel
theorem d_LR_day_19 : decode b_LR_day 19 = .ok (.aload_n 0, 1) := by decide +kernel
theorem d_LR_day_20 : decode b_LR_day 20 = .ok (.dup, 1) := by decide +kernel
theorem d_LR_day_21 : decode b_LR_day 21 = .ok (.getfield 90, 3) := by decide +kernel
theorem d_LR_day_24 : decode b_LR_day 24 = .ok (.iconst 1, 1) := by decide +kernel
theorem d_LR_day_25 : decode b_LR_day 25 = .ok (.iadd, 1) := by decide +kernel
theorem d_LR_day_26 : decode b_LR_day 26 = .ok (.putfield 90, 3) := by decide +kernel
theorem d_LR_day_29 : decode b_LR_day 29 = .ok (.aload_n 0, 1) := by decide +kernel
theorem d_LR_day_30 : decode b_LR_day 30 = .ok (.aload_n 0, 1) := by decide +kernel
theorem d_LR_day_31 : decode b_LR_day 31 = .ok (.getfield 90, 3) := by decide +kernel
theorem d_LR_day_34 : decode b_LR_day 34 = .ok (.aload_n 0, 1) := by decide +kernel
theorem d_LR_day_35 : decode b_LR_day 35 = .ok (.getfield 90, 3) := by decide +kernel
theorem d_LR_day_38 : decode b_LR_day 38 = .ok (.invokevirtual 101, 3) := by decide +kernel
theorem d_LR_day_41 : decode b_LR_day 41 = .ok (.aload_n 0, 1) := by decide +kernel
theorem d_LR_day_42 : decode b_LR_day 42 = .ok (.getfield 90, 3) := by decide +kernel
theorem d_LR_day_45 : decode b_LR_day 45 = .ok (.ireturn, 1) := by decide +kernel
theorem d_LR_view_0 : decode b_LR_view 0 = .ok (.iload_n 1, 1) := by decide +kernel
theorem d_LR_view_1 : decode b_LR_view 1 = .ok (.ifCond .lt 21, 3) := by decide +kernel
theorem d_LR_view_4 : decode b_LR_view 4 = .ok (.iload_n 1, 1) := by decide +kernel
theorem d_LR_view_5 : decode b_LR_view 5 = .ok (.aload_n 0, 1) := by decide +kernel
theorem d_LR_view_6 : decode b_LR_view 6 = .ok (.getfield 90, 3) := by decide +kernel
theorem d_LR_view_9 : decode b_LR_view 9 = .ok (.if_icmp .gt 13, 3) := by decide +kernel
theorem d_LR_view_12 : decode b_LR_view 12 = .ok (.iload_n 2, 1) := by decide +kernel
theorem d_LR_view_13 : decode b_LR_view 13 = .ok (.ifCond .lt 9, 3) := by decide +kernel
theorem d_LR_view_16 : decode b_LR_view 16 = .ok (.iload_n 2, 1) := by decide +kernel
theorem d_LR_view_17 : decode b_LR_view 17 = .ok (.bipush 60, 2) := by decide +kernel
theorem d_LR_view_19 : decode b_LR_view 19 = .ok (.if_icmp .le 13, 3) := by decide +kernel
theorem d_LR_view_22 : decode b_LR_view 22 = .ok (.new 104, 3) := by decide +kernel
theorem d_LR_view_25 : decode b_LR_view 25 = .ok (.dup, 1) := by decide +kernel
theorem d_LR_view_26 : decode b_LR_view 26 = .ok (.ldc 106, 2) := by decide +kernel
theorem d_LR_view_28 : decode b_LR_view 28 = .ok (.invokespecial 108, 3) := by decide +kernel
theorem d_LR_view_31 : decode b_LR_view 31 = .ok (.athrow, 1) := by decide +kernel
theorem d_LR_view_32 : decode b_LR_view 32 = .ok (.aload_n 0, 1) := by decide +kernel
theorem d_LR_view_33 : decode b_LR_view 33 = .ok (.iload_n 1, 1) := by decide +kernel
theorem d_LR_view_34 : decode b_LR_view 34 = .ok (.iload_n 2, 1) := by decide +kernel
theorem d_LR_view_35 : decode b_LR_view 35 = .ok (.invokevirtual 101, 3) := by decide +kernel
theorem d_LR_view_38 : decode b_LR_view 38 = .ok (.iconst 0, 1) := by decide +kernel
theorem d_LR_view_39 : decode b_LR_view 39 = .ok (.istore_n 3, 1) := by decide +kernel
theorem d_LR_view_40 : decode b_LR_view 40 = .ok (.iconst 0, 1) := by decide +kernel
theorem d_LR_view_41 : decode b_LR_view 41 = .ok (.istore 4, 2) := by decide +kernel
theorem d_LR_view_43 : decode b_LR_view 43 = .ok (.iload 4, 2) := by decide +kernel
theorem d_LR_view_45 : decode b_LR_view 45 = .ok (.bipush 80, 2) := by decide +kernel
theorem d_LR_view_47 : decode b_LR_view 47 = .ok (.if_icmp .ge 25, 3) := by decide +kernel
theorem d_LR_view_50 : decode b_LR_view 50 = .ok (.aload_n 0, 1) := by decide +kernel
theorem d_LR_view_51 : decode b_LR_view 51 = .ok (.getfield 20, 3) := by decide +kernel
theorem d_LR_view_54 : decode b_LR_view 54 = .ok (.iload 4, 2) := by decide +kernel
theorem d_LR_view_56 : decode b_LR_view 56 = .ok (.aaload, 1) := by decide +kernel
theorem d_LR_view_57 : decode b_LR_view 57 = .ok (.getfield 109, 3) := by decide +kernel
theorem d_LR_view_60 : decode b_LR_view 60 = .ok (.ifCond .eq 6, 3) := by decide +kernel
theorem d_LR_view_63 : decode b_LR_view 63 = .ok (.iinc 3 1, 3) := by decide +kernel
theorem d_LR_view_66 : decode b_LR_view 66 = .ok (.iinc 4 1, 3) := by decide +kernel
theorem d_LR_view_69 : decode b_LR_view 69 = .ok (.goto (-26), 3) := by decide +kernel
theorem d_LR_view_72 : decode b_LR_view 72 = .ok (.iload_n 3, 1) := by decide +kernel
theorem d_LR_view_73 : decode b_LR_view 73 = .ok (.ireturn, 1) := by decide +kernel
theorem d_LR_parcel_0 : decode b_LR_parcel 0 = .ok (.iconst 0, 1) := by decide +kernel
theorem d_LR_parcel_1 : decode b_LR_parcel 1 = .ok (.istore_n 2, 1) := by decide +kernel
theorem d_LR_parcel_2 : decode b_LR_parcel 2 = .ok (.iconst 0, 1) := by decide +kernel
theorem d_LR_parcel_3 : decode b_LR_parcel 3 = .ok (.istore_n 3, 1) := by decide +kernel
theorem d_LR_parcel_4 : decode b_LR_parcel 4 = .ok (.iload_n 3, 1) := by decide +kernel
theorem d_LR_parcel_5 : decode b_LR_parcel 5 = .ok (.bipush 80, 2) := by decide +kernel
theorem d_LR_parcel_7 : decode b_LR_parcel 7 = .ok (.if_icmp .ge 31, 3) := by decide +kernel
theorem d_LR_parcel_10 : decode b_LR_parcel 10 = .ok (.aload_n 0, 1) := by decide +kernel
theorem d_LR_parcel_11 : decode b_LR_parcel 11 = .ok (.getfield 20, 3) := by decide +kernel
theorem d_LR_parcel_14 : decode b_LR_parcel 14 = .ok (.iload_n 3, 1) := by decide +kernel
theorem d_LR_parcel_15 : decode b_LR_parcel 15 = .ok (.aaload, 1) := by decide +kernel
theorem d_LR_parcel_16 : decode b_LR_parcel 16 = .ok (.getfield 109, 3) := by decide +kernel
theorem d_LR_parcel_19 : decode b_LR_parcel 19 = .ok (.ifCond .eq 13, 3) := by decide +kernel
theorem d_LR_parcel_22 : decode b_LR_parcel 22 = .ok (.iload_n 2, 1) := by decide +kernel
theorem d_LR_parcel_23 : decode b_LR_parcel 23 = .ok (.iload_n 1, 1) := by decide +kernel
theorem d_LR_parcel_24 : decode b_LR_parcel 24 = .ok (.if_icmp .ne 5, 3) := by decide +kernel
theorem d_LR_parcel_27 : decode b_LR_parcel 27 = .ok (.iload_n 3, 1) := by decide +kernel
theorem d_LR_parcel_28 : decode b_LR_parcel 28 = .ok (.ireturn, 1) := by decide +kernel
theorem d_LR_parcel_29 : decode b_LR_parcel 29 = .ok (.iinc 2 1, 3) := by decide +kernel
theorem d_LR_parcel_32 : decode b_LR_parcel 32 = .ok (.iinc 3 1, 3) := by decide +kernel
theorem d_LR_parcel_35 : decode b_LR_parcel 35 = .ok (.goto (-31), 3) := by decide +kernel
theorem d_LR_parcel_38 : decode b_LR_parcel 38 = .ok (.iconst (-1), 1) := by decide +kernel
theorem d_LR_parcel_39 : decode b_LR_parcel 39 = .ok (.ireturn, 1) := by decide +kernel
theorem d_LR_area_0 : decode b_LR_area 0 = .ok (.iload_n 1, 1) := by decide +kernel
theorem d_LR_area_1 : decode b_LR_area 1 = .ok (.invokestatic 47, 3) := by decide +kernel
theorem d_LR_area_4 : decode b_LR_area 4 = .ok (.aload_n 0, 1) := by decide +kernel
theorem d_LR_area_5 : decode b_LR_area 5 = .ok (.getfield 20, 3) := by decide +kernel
theorem d_LR_area_8 : decode b_LR_area 8 = .ok (.iload_n 1, 1) := by decide +kernel
theorem d_LR_area_9 : decode b_LR_area 9 = .ok (.aaload, 1) := by decide +kernel
theorem d_LR_area_10 : decode b_LR_area 10 = .ok (.astore_n 2, 1) := by decide +kernel
theorem d_LR_area_11 : decode b_LR_area 11 = .ok (.aload_n 2, 1) := by decide +kernel
theorem d_LR_area_12 : decode b_LR_area 12 = .ok (.getfield 109, 3) := by decide +kernel
theorem d_LR_area_15 : decode b_LR_area 15 = .ok (.ifCond .eq 10, 3) := by decide +kernel
theorem d_LR_area_18 : decode b_LR_area 18 = .ok (.aload_n 2, 1) := by decide +kernel
theorem d_LR_area_19 : decode b_LR_area 19 = .ok (.getfield 113, 3) := by decide +kernel
theorem d_LR_area_22 : decode b_LR_area 22 = .ok (.goto 4, 3) := by decide +kernel
theorem d_LR_area_25 : decode b_LR_area 25 = .ok (.lconst 0, 1) := by decide +kernel
theorem d_LR_area_26 : decode b_LR_area 26 = .ok (.lreturn, 1) := by decide +kernel
theorem d_LR_share_0 : decode b_LR_share 0 = .ok (.iload_n 1, 1) := by decide +kernel
theorem d_LR_share_1 : decode b_LR_share 1 = .ok (.invokestatic 47, 3) := by decide +kernel
theorem d_LR_share_4 : decode b_LR_share 4 = .ok (.iload_n 2, 1) := by decide +kernel
theorem d_LR_share_5 : decode b_LR_share 5 = .ok (.invokestatic 29, 3) := by decide +kernel
theorem d_LR_share_8 : decode b_LR_share 8 = .ok (.aload_n 0, 1) := by decide +kernel
theorem d_LR_share_9 : decode b_LR_share 9 = .ok (.getfield 20, 3) := by decide +kernel
theorem d_LR_share_12 : decode b_LR_share 12 = .ok (.iload_n 1, 1) := by decide +kernel
theorem d_LR_share_13 : decode b_LR_share 13 = .ok (.aaload, 1) := by decide +kernel
theorem d_LR_share_14 : decode b_LR_share 14 = .ok (.astore_n 3, 1) := by decide +kernel
theorem d_LR_share_15 : decode b_LR_share 15 = .ok (.aload_n 3, 1) := by decide +kernel
theorem d_LR_share_16 : decode b_LR_share 16 = .ok (.getfield 109, 3) := by decide +kernel
theorem d_LR_share_19 : decode b_LR_share 19 = .ok (.ifCond .eq 12, 3) := by decide +kernel
theorem d_LR_share_22 : decode b_LR_share 22 = .ok (.aload_n 3, 1) := by decide +kernel
theorem d_LR_share_23 : decode b_LR_share 23 = .ok (.getfield 117, 3) := by decide +kernel
theorem d_LR_share_26 : decode b_LR_share 26 = .ok (.iload_n 2, 1) := by decide +kernel
theorem d_LR_share_27 : decode b_LR_share 27 = .ok (.laload, 1) := by decide +kernel
theorem d_LR_share_28 : decode b_LR_share 28 = .ok (.goto 4, 3) := by decide +kernel
theorem d_LR_share_31 : decode b_LR_share 31 = .ok (.lconst 0, 1) := by decide +kernel
theorem d_LR_share_32 : decode b_LR_share 32 = .ok (.lreturn, 1) := by decide +kernel
theorem d_LR_mortgage_0 : decode b_LR_mortgage 0 = .ok (.iload_n 1, 1) := by decide +kernel
theorem d_LR_mortgage_1 : decode b_LR_mortgage 1 = .ok (.invokestatic 47, 3) := by decide +kernel
theorem d_LR_mortgage_4 : decode b_LR_mortgage 4 = .ok (.aload_n 0, 1) := by decide +kernel
theorem d_LR_mortgage_5 : decode b_LR_mortgage 5 = .ok (.getfield 20, 3) := by decide +kernel
theorem d_LR_mortgage_8 : decode b_LR_mortgage 8 = .ok (.iload_n 1, 1) := by decide +kernel
theorem d_LR_mortgage_9 : decode b_LR_mortgage 9 = .ok (.aaload, 1) := by decide +kernel
theorem d_LR_mortgage_10 : decode b_LR_mortgage 10 = .ok (.astore 4, 2) := by decide +kernel
theorem d_LR_mortgage_12 : decode b_LR_mortgage 12 = .ok (.aload 4, 2) := by decide +kernel
theorem d_LR_mortgage_14 : decode b_LR_mortgage 14 = .ok (.getfield 109, 3) := by decide +kernel
theorem d_LR_mortgage_17 : decode b_LR_mortgage 17 = .ok (.ifCond .eq 17, 3) := by decide +kernel
theorem d_LR_mortgage_20 : decode b_LR_mortgage 20 = .ok (.iload_n 2, 1) := by decide +kernel
theorem d_LR_mortgage_21 : decode b_LR_mortgage 21 = .ok (.iconst 1, 1) := by decide +kernel
theorem d_LR_mortgage_22 : decode b_LR_mortgage 22 = .ok (.if_icmp .lt 12, 3) := by decide +kernel
theorem d_LR_mortgage_25 : decode b_LR_mortgage 25 = .ok (.iload_n 2, 1) := by decide +kernel
theorem d_LR_mortgage_26 : decode b_LR_mortgage 26 = .ok (.aload 4, 2) := by decide +kernel
theorem d_LR_mortgage_28 : decode b_LR_mortgage 28 = .ok (.getfield 121, 3) := by decide +kernel
theorem d_LR_mortgage_31 : decode b_LR_mortgage 31 = .ok (.if_icmp .le 5, 3) := by decide +kernel
theorem d_LR_mortgage_34 : decode b_LR_mortgage 34 = .ok (.iconst (-1), 1) := by decide +kernel
theorem d_LR_mortgage_35 : decode b_LR_mortgage 35 = .ok (.ireturn, 1) := by decide +kernel
theorem d_LR_mortgage_36 : decode b_LR_mortgage 36 = .ok (.iload_n 3, 1) := by decide +kernel
theorem d_LR_mortgage_37 : decode b_LR_mortgage 37 = .ok (.ifCond .ne 13, 3) := by decide +kernel
theorem d_LR_mortgage_40 : decode b_LR_mortgage 40 = .ok (.aload 4, 2) := by decide +kernel
theorem d_LR_mortgage_42 : decode b_LR_mortgage 42 = .ok (.getfield 124, 3) := by decide +kernel
theorem d_LR_mortgage_45 : decode b_LR_mortgage 45 = .ok (.iload_n 2, 1) := by decide +kernel
theorem d_LR_mortgage_46 : decode b_LR_mortgage 46 = .ok (.iconst 1, 1) := by decide +kernel
theorem d_LR_mortgage_47 : decode b_LR_mortgage 47 = .ok (.isub, 1) := by decide +kernel
theorem d_LR_mortgage_48 : decode b_LR_mortgage 48 = .ok (.iaload, 1) := by decide +kernel
theorem d_LR_mortgage_49 : decode b_LR_mortgage 49 = .ok (.ireturn, 1) := by decide +kernel
theorem d_LR_mortgage_50 : decode b_LR_mortgage 50 = .ok (.iload_n 3, 1) := by decide +kernel
theorem d_LR_mortgage_51 : decode b_LR_mortgage 51 = .ok (.iconst 1, 1) := by decide +kernel
theorem d_LR_mortgage_52 : decode b_LR_mortgage 52 = .ok (.if_icmp .ne 15, 3) := by decide +kernel
theorem d_LR_mortgage_55 : decode b_LR_mortgage 55 = .ok (.aload 4, 2) := by decide +kernel
theorem d_LR_mortgage_57 : decode b_LR_mortgage 57 = .ok (.getfield 128, 3) := by decide +kernel
theorem d_LR_mortgage_60 : decode b_LR_mortgage 60 = .ok (.iload_n 2, 1) := by decide +kernel
theorem d_LR_mortgage_61 : decode b_LR_mortgage 61 = .ok (.iconst 1, 1) := by decide +kernel
theorem d_LR_mortgage_62 : decode b_LR_mortgage 62 = .ok (.isub, 1) := by decide +kernel
theorem d_LR_mortgage_63 : decode b_LR_mortgage 63 = .ok (.iaload, 1) := by decide +kernel
theorem d_LR_mortgage_64 : decode b_LR_mortgage 64 = .ok (.goto 4, 3) := by decide +kernel
theorem d_LR_mortgage_67 : decode b_LR_mortgage 67 = .ok (.iconst (-1), 1) := by decide +kernel
theorem d_LR_mortgage_68 : decode b_LR_mortgage 68 = .ok (.ireturn, 1) := by decide +kernel
theorem d_LR_cautions_0 : decode b_LR_cautions 0 = .ok (.iload_n 1, 1) := by decide +kernel
theorem d_LR_cautions_1 : decode b_LR_cautions 1 = .ok (.invokestatic 47, 3) := by decide +kernel
theorem d_LR_cautions_4 : decode b_LR_cautions 4 = .ok (.aload_n 0, 1) := by decide +kernel
theorem d_LR_cautions_5 : decode b_LR_cautions 5 = .ok (.getfield 20, 3) := by decide +kernel
theorem d_LR_cautions_8 : decode b_LR_cautions 8 = .ok (.iload_n 1, 1) := by decide +kernel
theorem d_LR_cautions_9 : decode b_LR_cautions 9 = .ok (.aaload, 1) := by decide +kernel
theorem d_LR_cautions_10 : decode b_LR_cautions 10 = .ok (.astore_n 2, 1) := by decide +kernel
theorem d_LR_cautions_11 : decode b_LR_cautions 11 = .ok (.aload_n 2, 1) := by decide +kernel
theorem d_LR_cautions_12 : decode b_LR_cautions 12 = .ok (.getfield 109, 3) := by decide +kernel
theorem d_LR_cautions_15 : decode b_LR_cautions 15 = .ok (.ifCond .eq 10, 3) := by decide +kernel
theorem d_LR_cautions_18 : decode b_LR_cautions 18 = .ok (.aload_n 2, 1) := by decide +kernel
theorem d_LR_cautions_19 : decode b_LR_cautions 19 = .ok (.getfield 131, 3) := by decide +kernel
theorem d_LR_cautions_22 : decode b_LR_cautions 22 = .ok (.goto 4, 3) := by decide +kernel
theorem d_LR_cautions_25 : decode b_LR_cautions 25 = .ok (.iconst 0, 1) := by decide +kernel
theorem d_LR_cautions_26 : decode b_LR_cautions 26 = .ok (.ireturn, 1) := by decide +kernel
theorem d_LR_origin_0 : decode b_LR_origin 0 = .ok (.iload_n 1, 1) := by decide +kernel
theorem d_LR_origin_1 : decode b_LR_origin 1 = .ok (.invokestatic 47, 3) := by decide +kernel
theorem d_LR_origin_4 : decode b_LR_origin 4 = .ok (.aload_n 0, 1) := by decide +kernel
theorem d_LR_origin_5 : decode b_LR_origin 5 = .ok (.getfield 20, 3) := by decide +kernel
theorem d_LR_origin_8 : decode b_LR_origin 8 = .ok (.iload_n 1, 1) := by decide +kernel
theorem d_LR_origin_9 : decode b_LR_origin 9 = .ok (.aaload, 1) := by decide +kernel
theorem d_LR_origin_10 : decode b_LR_origin 10 = .ok (.astore_n 3, 1) := by decide +kernel
theorem d_LR_origin_11 : decode b_LR_origin 11 = .ok (.iload_n 2, 1) := by decide +kernel
theorem d_LR_origin_12 : decode b_LR_origin 12 = .ok (.ifCond .ne 8, 3) := by decide +kernel
theorem d_LR_origin_15 : decode b_LR_origin 15 = .ok (.aload_n 3, 1) := by decide +kernel
theorem d_LR_origin_16 : decode b_LR_origin 16 = .ok (.getfield 134, 3) := by decide +kernel
theorem d_LR_origin_19 : decode b_LR_origin 19 = .ok (.ireturn, 1) := by decide +kernel
theorem d_LR_origin_20 : decode b_LR_origin 20 = .ok (.iload_n 2, 1) := by decide +kernel
theorem d_LR_origin_21 : decode b_LR_origin 21 = .ok (.iconst 1, 1) := by decide +kernel
theorem d_LR_origin_22 : decode b_LR_origin 22 = .ok (.if_icmp .ne 10, 3) := by decide +kernel
theorem d_LR_origin_25 : decode b_LR_origin 25 = .ok (.aload_n 3, 1) := by decide +kernel
theorem d_LR_origin_26 : decode b_LR_origin 26 = .ok (.getfield 137, 3) := by decide +kernel
theorem d_LR_origin_29 : decode b_LR_origin 29 = .ok (.goto 4, 3) := by decide +kernel
theorem d_LR_origin_32 : decode b_LR_origin 32 = .ok (.iconst (-1), 1) := by decide +kernel
theorem d_LR_origin_33 : decode b_LR_origin 33 = .ok (.ireturn, 1) := by decide +kernel
theorem d_LR_holding_0 : decode b_LR_holding 0 = .ok (.iload_n 1, 1) := by decide +kernel
theorem d_LR_holding_1 : decode b_LR_holding 1 = .ok (.invokestatic 29, 3) := by decide +kernel
theorem d_LR_holding_4 : decode b_LR_holding 4 = .ok (.iconst 0, 1) := by decide +kernel
theorem d_LR_holding_5 : decode b_LR_holding 5 = .ok (.istore_n 3, 1) := by decide +kernel
theorem d_LR_holding_6 : decode b_LR_holding 6 = .ok (.iconst 0, 1) := by decide +kernel
theorem d_LR_holding_7 : decode b_LR_holding 7 = .ok (.istore 4, 2) := by decide +kernel
theorem d_LR_holding_9 : decode b_LR_holding 9 = .ok (.iload 4, 2) := by decide +kernel
theorem d_LR_holding_11 : decode b_LR_holding 11 = .ok (.bipush 80, 2) := by decide +kernel
theorem d_LR_holding_13 : decode b_LR_holding 13 = .ok (.if_icmp .ge 50, 3) := by decide +kernel
theorem d_LR_holding_16 : decode b_LR_holding 16 = .ok (.aload_n 0, 1) := by decide +kernel
theorem d_LR_holding_17 : decode b_LR_holding 17 = .ok (.getfield 20, 3) := by decide +kernel
theorem d_LR_holding_20 : decode b_LR_holding 20 = .ok (.iload 4, 2) := by decide +kernel
theorem d_LR_holding_22 : decode b_LR_holding 22 = .ok (.aaload, 1) := by decide +kernel
theorem d_LR_holding_23 : decode b_LR_holding 23 = .ok (.getfield 109, 3) := by decide +kernel
theorem d_LR_holding_26 : decode b_LR_holding 26 = .ok (.ifCond .eq 31, 3) := by decide +kernel
theorem d_LR_holding_29 : decode b_LR_holding 29 = .ok (.aload_n 0, 1) := by decide +kernel
theorem d_LR_holding_30 : decode b_LR_holding 30 = .ok (.getfield 20, 3) := by decide +kernel
theorem d_LR_holding_33 : decode b_LR_holding 33 = .ok (.iload 4, 2) := by decide +kernel
theorem d_LR_holding_35 : decode b_LR_holding 35 = .ok (.aaload, 1) := by decide +kernel
theorem d_LR_holding_36 : decode b_LR_holding 36 = .ok (.getfield 117, 3) := by decide +kernel
theorem d_LR_holding_39 : decode b_LR_holding 39 = .ok (.iload_n 1, 1) := by decide +kernel
theorem d_LR_holding_40 : decode b_LR_holding 40 = .ok (.laload, 1) := by decide +kernel
theorem d_LR_holding_41 : decode b_LR_holding 41 = .ok (.lconst 0, 1) := by decide +kernel
theorem d_LR_holding_42 : decode b_LR_holding 42 = .ok (.lcmp, 1) := by decide +kernel
theorem d_LR_holding_43 : decode b_LR_holding 43 = .ok (.ifCond .eq 14, 3) := by decide +kernel
theorem d_LR_holding_46 : decode b_LR_holding 46 = .ok (.iload_n 3, 1) := by decide +kernel
theorem d_LR_holding_47 : decode b_LR_holding 47 = .ok (.iload_n 2, 1) := by decide +kernel
theorem d_LR_holding_48 : decode b_LR_holding 48 = .ok (.if_icmp .ne 6, 3) := by decide +kernel
theorem d_LR_holding_51 : decode b_LR_holding 51 = .ok (.iload 4, 2) := by decide +kernel
theorem d_LR_holding_53 : decode b_LR_holding 53 = .ok (.ireturn, 1) := by decide +kernel
theorem d_LR_holding_54 : decode b_LR_holding 54 = .ok (.iinc 3 1, 3) := by decide +kernel
theorem d_LR_holding_57 : decode b_LR_holding 57 = .ok (.iinc 4 1, 3) := by decide +kernel
theorem d_LR_holding_60 : decode b_LR_holding 60 = .ok (.goto (-51), 3) := by decide +kernel
theorem d_LR_holding_63 : decode b_LR_holding 63 = .ok (.iconst (-1), 1) := by decide +kernel
theorem d_LR_holding_64 : decode b_LR_holding 64 = .ok (.ireturn, 1) := by decide +kernel
theorem d_LR_owed_0 : decode b_LR_owed 0 = .ok (.iload_n 1, 1) := by decide +kernel
theorem d_LR_owed_1 : decode b_LR_owed 1 = .ok (.invokestatic 29, 3) := by decide +kernel
theorem d_LR_owed_4 : decode b_LR_owed 4 = .ok (.lconst 0, 1) := by decide +kernel
theorem d_LR_owed_5 : decode b_LR_owed 5 = .ok (.lstore_n 2, 1) := by decide +kernel
theorem d_LR_owed_6 : decode b_LR_owed 6 = .ok (.iconst 0, 1) := by decide +kernel
theorem d_LR_owed_7 : decode b_LR_owed 7 = .ok (.istore 4, 2) := by decide +kernel
theorem d_LR_owed_9 : decode b_LR_owed 9 = .ok (.iload 4, 2) := by decide +kernel
theorem d_LR_owed_11 : decode b_LR_owed 11 = .ok (.bipush 80, 2) := by decide +kernel
theorem d_LR_owed_13 : decode b_LR_owed 13 = .ok (.if_icmp .ge 36, 3) := by decide +kernel
theorem d_LR_owed_16 : decode b_LR_owed 16 = .ok (.aload_n 0, 1) := by decide +kernel
theorem d_LR_owed_17 : decode b_LR_owed 17 = .ok (.getfield 20, 3) := by decide +kernel
theorem d_LR_owed_20 : decode b_LR_owed 20 = .ok (.iload 4, 2) := by decide +kernel
theorem d_LR_owed_22 : decode b_LR_owed 22 = .ok (.aaload, 1) := by decide +kernel
theorem d_LR_owed_23 : decode b_LR_owed 23 = .ok (.getfield 109, 3) := by decide +kernel
theorem d_LR_owed_26 : decode b_LR_owed 26 = .ok (.ifCond .eq 17, 3) := by decide +kernel
theorem d_LR_owed_29 : decode b_LR_owed 29 = .ok (.lload_n 2, 1) := by decide +kernel
theorem d_LR_owed_30 : decode b_LR_owed 30 = .ok (.aload_n 0, 1) := by decide +kernel
theorem d_LR_owed_31 : decode b_LR_owed 31 = .ok (.getfield 20, 3) := by decide +kernel
theorem d_LR_owed_34 : decode b_LR_owed 34 = .ok (.iload 4, 2) := by decide +kernel
theorem d_LR_owed_36 : decode b_LR_owed 36 = .ok (.aaload, 1) := by decide +kernel
theorem d_LR_owed_37 : decode b_LR_owed 37 = .ok (.iload_n 1, 1) := by decide +kernel
theorem d_LR_owed_38 : decode b_LR_owed 38 = .ok (.invokevirtual 140, 3) := by decide +kernel
theorem d_LR_owed_41 : decode b_LR_owed 41 = .ok (.ladd, 1) := by decide +kernel
theorem d_LR_owed_42 : decode b_LR_owed 42 = .ok (.lstore_n 2, 1) := by decide +kernel
theorem d_LR_owed_43 : decode b_LR_owed 43 = .ok (.iinc 4 1, 3) := by decide +kernel
theorem d_LR_owed_46 : decode b_LR_owed 46 = .ok (.goto (-37), 3) := by decide +kernel
theorem d_LR_owed_49 : decode b_LR_owed 49 = .ok (.lload_n 2, 1) := by decide +kernel
theorem d_LR_owed_50 : decode b_LR_owed 50 = .ok (.lreturn, 1) := by decide +kernel
theorem d_LR_state_0 : decode b_LR_state 0 = .ok (.iload_n 1, 1) := by decide +kernel
theorem d_LR_state_1 : decode b_LR_state 1 = .ok (.ifCond .lt 11, 3) := by decide +kernel
theorem d_LR_state_4 : decode b_LR_state 4 = .ok (.iload_n 1, 1) := by decide +kernel
theorem d_LR_state_5 : decode b_LR_state 5 = .ok (.aload_n 0, 1) := by decide +kernel
theorem d_LR_state_6 : decode b_LR_state 6 = .ok (.getfield 144, 3) := by decide +kernel
theorem d_LR_state_9 : decode b_LR_state 9 = .ok (.if_icmp .lt 13, 3) := by decide +kernel
theorem d_LR_state_12 : decode b_LR_state 12 = .ok (.new 147, 3) := by decide +kernel
theorem d_LR_state_15 : decode b_LR_state 15 = .ok (.dup, 1) := by decide +kernel
theorem d_LR_state_16 : decode b_LR_state 16 = .ok (.ldc 149, 2) := by decide +kernel
theorem d_LR_state_18 : decode b_LR_state 18 = .ok (.invokespecial 151, 3) := by decide +kernel
theorem d_LR_state_21 : decode b_LR_state 21 = .ok (.athrow, 1) := by decide +kernel
theorem d_LR_state_22 : decode b_LR_state 22 = .ok (.aload_n 0, 1) := by decide +kernel
theorem d_LR_state_23 : decode b_LR_state 23 = .ok (.getfield 11, 3) := by decide +kernel
theorem d_LR_state_26 : decode b_LR_state 26 = .ok (.iload_n 1, 1) := by decide +kernel
theorem d_LR_state_27 : decode b_LR_state 27 = .ok (.aaload, 1) := by decide +kernel
theorem d_LR_state_28 : decode b_LR_state 28 = .ok (.getfield 152, 3) := by decide +kernel
theorem d_LR_state_31 : decode b_LR_state 31 = .ok (.ireturn, 1) := by decide +kernel
theorem d_LR_requireFactDay_0 : decode b_LR_requireFactDay 0 = .ok (.iload_n 1, 1) := by decide +kernel
theorem d_LR_requireFactDay_1 : decode b_LR_requireFactDay 1 = .ok (.ifCond .lt 11, 3) := by decide +kernel
theorem d_LR_requireFactDay_4 : decode b_LR_requireFactDay 4 = .ok (.iload_n 1, 1) := by decide +kernel
theorem d_LR_requireFactDay_5 : decode b_LR_requireFactDay 5 = .ok (.aload_n 0, 1) := by decide +kernel
theorem d_LR_requireFactDay_6 : decode b_LR_requireFactDay 6 = .ok (.getfield 90, 3) := by decide +kernel
theorem d_LR_requireFactDay_9 : decode b_LR_requireFactDay 9 = .ok (.if_icmp .le 13, 3) := by decide +kernel
theorem d_LR_requireFactDay_12 : decode b_LR_requireFactDay 12 = .ok (.new 104, 3) := by decide +kernel
theorem d_LR_requireFactDay_15 : decode b_LR_requireFactDay 15 = .ok (.dup, 1) := by decide +kernel
theorem d_LR_requireFactDay_16 : decode b_LR_requireFactDay 16 = .ok (.ldc 155, 2) := by decide +kernel
theorem d_LR_requireFactDay_18 : decode b_LR_requireFactDay 18 = .ok (.invokespecial 108, 3) := by decide +kernel
theorem d_LR_requireFactDay_21 : decode b_LR_requireFactDay 21 = .ok (.athrow, 1) := by decide +kernel
theorem d_LR_requireFactDay_22 : decode b_LR_requireFactDay 22 = .ok (.return_, 1) := by decide +kernel
theorem d_LR_requirePerson_0 : decode b_LR_requirePerson 0 = .ok (.iload_n 0, 1) := by decide +kernel
theorem d_LR_requirePerson_1 : decode b_LR_requirePerson 1 = .ok (.ifCond .lt 9, 3) := by decide +kernel
theorem d_LR_requirePerson_4 : decode b_LR_requirePerson 4 = .ok (.iload_n 0, 1) := by decide +kernel
theorem d_LR_requirePerson_5 : decode b_LR_requirePerson 5 = .ok (.bipush 8, 2) := by decide +kernel
theorem d_LR_requirePerson_7 : decode b_LR_requirePerson 7 = .ok (.if_icmp .lt 13, 3) := by decide +kernel
theorem d_LR_requirePerson_10 : decode b_LR_requirePerson 10 = .ok (.new 104, 3) := by decide +kernel
theorem d_LR_requirePerson_13 : decode b_LR_requirePerson 13 = .ok (.dup, 1) := by decide +kernel
theorem d_LR_requirePerson_14 : decode b_LR_requirePerson 14 = .ok (.ldc 157, 2) := by decide +kernel
theorem d_LR_requirePerson_16 : decode b_LR_requirePerson 16 = .ok (.invokespecial 108, 3) := by decide +kernel
theorem d_LR_requirePerson_19 : decode b_LR_requirePerson 19 = .ok (.athrow, 1) := by decide +kernel
theorem d_LR_requirePerson_20 : decode b_LR_requirePerson 20 = .ok (.return_, 1) := by decide +kernel
theorem d_LR_requireParcel_0 : decode b_LR_requireParcel 0 = .ok (.iload_n 0, 1) := by decide +kernel
theorem d_LR_requireParcel_1 : decode b_LR_requireParcel 1 = .ok (.ifCond .lt 9, 3) := by decide +kernel
theorem d_LR_requireParcel_4 : decode b_LR_requireParcel 4 = .ok (.iload_n 0, 1) := by decide +kernel
theorem d_LR_requireParcel_5 : decode b_LR_requireParcel 5 = .ok (.bipush 80, 2) := by decide +kernel
theorem d_LR_requireParcel_7 : decode b_LR_requireParcel 7 = .ok (.if_icmp .lt 13, 3) := by decide +kernel
theorem d_LR_requireParcel_10 : decode b_LR_requireParcel 10 = .ok (.new 104, 3) := by decide +kernel
theorem d_LR_requireParcel_13 : decode b_LR_requireParcel 13 = .ok (.dup, 1) := by decide +kernel
theorem d_LR_requireParcel_14 : decode b_LR_requireParcel 14 = .ok (.ldc 159, 2) := by decide +kernel
theorem d_LR_requireParcel_16 : decode b_LR_requireParcel 16 = .ok (.invokespecial 108, 3) := by decide +kernel
theorem d_LR_requireParcel_19 : decode b_LR_requireParcel 19 = .ok (.athrow, 1) := by decide +kernel
theorem d_LR_requireParcel_20 : decode b_LR_requireParcel 20 = .ok (.return_, 1) := by decide +kernel
theorem d_LR_requireUnits_0 : decode b_LR_requireUnits 0 = .ok (.iload_n 0, 1) := by decide +kernel
theorem d_LR_requireUnits_1 : decode b_LR_requireUnits 1 = .ok (.iconst 1, 1) := by decide +kernel
theorem d_LR_requireUnits_2 : decode b_LR_requireUnits 2 = .ok (.if_icmp .lt 9, 3) := by decide +kernel
theorem d_LR_requireUnits_5 : decode b_LR_requireUnits 5 = .ok (.iload_n 0, 1) := by decide +kernel
theorem d_LR_requireUnits_6 : decode b_LR_requireUnits 6 = .ok (.ldc 161, 2) := by decide +kernel
theorem d_LR_requireUnits_8 : decode b_LR_requireUnits 8 = .ok (.if_icmp .le 13, 3) := by decide +kernel
theorem d_LR_requireUnits_11 : decode b_LR_requireUnits 11 = .ok (.new 104, 3) := by decide +kernel
theorem d_LR_requireUnits_14 : decode b_LR_requireUnits 14 = .ok (.dup, 1) := by decide +kernel
theorem d_LR_requireUnits_15 : decode b_LR_requireUnits 15 = .ok (.ldc 162, 2) := by decide +kernel
theorem d_LR_requireUnits_17 : decode b_LR_requireUnits 17 = .ok (.invokespecial 108, 3) := by decide +kernel
theorem d_LR_requireUnits_20 : decode b_LR_requireUnits 20 = .ok (.athrow, 1) := by decide +kernel
theorem d_LR_requireUnits_21 : decode b_LR_requireUnits 21 = .ok (.return_, 1) := by decide +kernel
theorem d_LR_requireRank_0 : decode b_LR_requireRank 0 = .ok (.iload_n 0, 1) := by decide +kernel
theorem d_LR_requireRank_1 : decode b_LR_requireRank 1 = .ok (.iconst 1, 1) := by decide +kernel
theorem d_LR_requireRank_2 : decode b_LR_requireRank 2 = .ok (.if_icmp .lt 8, 3) := by decide +kernel
theorem d_LR_requireRank_5 : decode b_LR_requireRank 5 = .ok (.iload_n 0, 1) := by decide +kernel
theorem d_LR_requireRank_6 : decode b_LR_requireRank 6 = .ok (.iconst 4, 1) := by decide +kernel
theorem d_LR_requireRank_7 : decode b_LR_requireRank 7 = .ok (.if_icmp .le 13, 3) := by decide +kernel
theorem d_LR_requireRank_10 : decode b_LR_requireRank 10 = .ok (.new 104, 3) := by decide +kernel
theorem d_LR_requireRank_13 : decode b_LR_requireRank 13 = .ok (.dup, 1) := by decide +kernel
theorem d_LR_requireRank_14 : decode b_LR_requireRank 14 = .ok (.ldc 164, 2) := by decide +kernel
theorem d_LR_requireRank_16 : decode b_LR_requireRank 16 = .ok (.invokespecial 108, 3) := by decide +kernel
theorem d_LR_requireRank_19 : decode b_LR_requireRank 19 = .ok (.athrow, 1) := by decide +kernel
theorem d_LR_requireRank_20 : decode b_LR_requireRank 20 = .ok (.return_, 1) := by decide +kernel
theorem d_LR_requireDifferent_0 : decode b_LR_requireDifferent 0 = .ok (.iload_n 0, 1) := by decide +kernel
theorem d_LR_requireDifferent_1 : decode b_LR_requireDifferent 1 = .ok (.iload_n 1, 1) := by decide +kernel
theorem d_LR_requireDifferent_2 : decode b_LR_requireDifferent 2 = .ok (.if_icmp .ne 13, 3) := by decide +kernel
theorem d_LR_requireDifferent_5 : decode b_LR_requireDifferent 5 = .ok (.new 104, 3) := by decide +kernel
theorem d_LR_requireDifferent_8 : decode b_LR_requireDifferent 8 = .ok (.dup, 1) := by decide +kernel
theorem d_LR_requireDifferent_9 : decode b_LR_requireDifferent 9 = .ok (.ldc 166, 2) := by decide +kernel
theorem d_LR_requireDifferent_11 : decode b_LR_requireDifferent 11 = .ok (.invokespecial 108, 3) := by decide +kernel
theorem d_LR_requireDifferent_14 : decode b_LR_requireDifferent 14 = .ok (.athrow, 1) := by decide +kernel
theorem d_LR_requireDifferent_15 : decode b_LR_requireDifferent 15 = .ok (.return_, 1) := by decide +kernel
theorem d_LR_requireFraction_0 : decode b_LR_requireFraction 0 = .ok (.lload_n 0, 1) := by decide +kernel
theorem d_LR_requireFraction_1 : decode b_LR_requireFraction 1 = .ok (.invokestatic 168, 3) := by decide +kernel
theorem d_LR_requireFraction_4 : decode b_LR_requireFraction 4 = .ok (.lstore_n 2, 1) := by decide +kernel
theorem d_LR_requireFraction_5 : decode b_LR_requireFraction 5 = .ok (.lload_n 2, 1) := by decide +kernel
theorem d_LR_requireFraction_6 : decode b_LR_requireFraction 6 = .ok (.lconst 1, 1) := by decide +kernel
theorem d_LR_requireFraction_7 : decode b_LR_requireFraction 7 = .ok (.lcmp, 1) := by decide +kernel
theorem d_LR_requireFraction_8 : decode b_LR_requireFraction 8 = .ok (.ifCond .lt 11, 3) := by decide +kernel
theorem d_LR_requireFraction_11 : decode b_LR_requireFraction 11 = .ok (.lload_n 2, 1) := by decide +kernel
theorem d_LR_requireFraction_12 : decode b_LR_requireFraction 12 = .ok (.ldc2_w 172, 3) := by decide +kernel
theorem d_LR_requireFraction_15 : decode b_LR_requireFraction 15 = .ok (.lcmp, 1) := by decide +kernel
theorem d_LR_requireFraction_16 : decode b_LR_requireFraction 16 = .ok (.ifCond .le 13, 3) := by decide +kernel
theorem d_LR_requireFraction_19 : decode b_LR_requireFraction 19 = .ok (.new 104, 3) := by decide +kernel
theorem d_LR_requireFraction_22 : decode b_LR_requireFraction 22 = .ok (.dup, 1) := by decide +kernel
theorem d_LR_requireFraction_23 : decode b_LR_requireFraction 23 = .ok (.ldc 174, 2) := by decide +kernel
theorem d_LR_requireFraction_25 : decode b_LR_requireFraction 25 = .ok (.invokespecial 108, 3) := by decide +kernel
theorem d_LR_requireFraction_28 : decode b_LR_requireFraction 28 = .ok (.athrow, 1) := by decide +kernel
theorem d_LR_requireFraction_29 : decode b_LR_requireFraction 29 = .ok (.lload_n 0, 1) := by decide +kernel
theorem d_LR_requireFraction_30 : decode b_LR_requireFraction 30 = .ok (.invokestatic 176, 3) := by decide +kernel
theorem d_LR_requireFraction_33 : decode b_LR_requireFraction 33 = .ok (.lconst 1, 1) := by decide +kernel
theorem d_LR_requireFraction_34 : decode b_LR_requireFraction 34 = .ok (.lcmp, 1) := by decide +kernel
theorem d_LR_requireFraction_35 : decode b_LR_requireFraction 35 = .ok (.ifCond .lt 12, 3) := by decide +kernel
theorem d_LR_requireFraction_38 : decode b_LR_requireFraction 38 = .ok (.lload_n 0, 1) := by decide +kernel
theorem d_LR_requireFraction_39 : decode b_LR_requireFraction 39 = .ok (.invokestatic 176, 3) := by decide +kernel
theorem d_LR_requireFraction_42 : decode b_LR_requireFraction 42 = .ok (.lload_n 2, 1) := by decide +kernel
theorem d_LR_requireFraction_43 : decode b_LR_requireFraction 43 = .ok (.lcmp, 1) := by decide +kernel
theorem d_LR_requireFraction_44 : decode b_LR_requireFraction 44 = .ok (.ifCond .le 13, 3) := by decide +kernel
theorem d_LR_requireFraction_47 : decode b_LR_requireFraction 47 = .ok (.new 104, 3) := by decide +kernel
theorem d_LR_requireFraction_50 : decode b_LR_requireFraction 50 = .ok (.dup, 1) := by decide +kernel
theorem d_LR_requireFraction_51 : decode b_LR_requireFraction 51 = .ok (.ldc 179, 2) := by decide +kernel
theorem d_LR_requireFraction_53 : decode b_LR_requireFraction 53 = .ok (.invokespecial 108, 3) := by decide +kernel
theorem d_LR_requireFraction_56 : decode b_LR_requireFraction 56 = .ok (.athrow, 1) := by decide +kernel
theorem d_LR_requireFraction_57 : decode b_LR_requireFraction 57 = .ok (.return_, 1) := by decide +kernel
theorem d_LR_requireFreeNumber_0 : decode b_LR_requireFreeNumber 0 = .ok (.aload_n 0, 1) := by decide +kernel
theorem d_LR_requireFreeNumber_1 : decode b_LR_requireFreeNumber 1 = .ok (.getfield 144, 3) := by decide +kernel
theorem d_LR_requireFreeNumber_4 : decode b_LR_requireFreeNumber 4 = .ok (.bipush 40, 2) := by decide +kernel
theorem d_LR_requireFreeNumber_6 : decode b_LR_requireFreeNumber 6 = .ok (.if_icmp .lt 13, 3) := by decide +kernel
theorem d_LR_requireFreeNumber_9 : decode b_LR_requireFreeNumber 9 = .ok (.new 94, 3) := by decide +kernel
theorem d_LR_requireFreeNumber_12 : decode b_LR_requireFreeNumber 12 = .ok (.dup, 1) := by decide +kernel
theorem d_LR_requireFreeNumber_13 : decode b_LR_requireFreeNumber 13 = .ok (.ldc 181, 2) := by decide +kernel
theorem d_LR_requireFreeNumber_15 : decode b_LR_requireFreeNumber 15 = .ok (.invokespecial 98, 3) := by decide +kernel
theorem d_LR_requireFreeNumber_18 : decode b_LR_requireFreeNumber 18 = .ok (.athrow, 1) := by decide +kernel
theorem d_LR_requireFreeNumber_19 : decode b_LR_requireFreeNumber 19 = .ok (.return_, 1) := by decide +kernel
theorem d_LR_file_0 : decode b_LR_file 0 = .ok (.aload_n 0, 1) := by decide +kernel
theorem d_LR_file_1 : decode b_LR_file 1 = .ok (.getfield 144, 3) := by decide +kernel
theorem d_LR_file_4 : decode b_LR_file 4 = .ok (.istore_n 3, 1) := by decide +kernel
theorem d_LR_file_5 : decode b_LR_file 5 = .ok (.aload_n 2, 1) := by decide +kernel
theorem d_LR_file_6 : decode b_LR_file 6 = .ok (.iload_n 3, 1) := by decide +kernel
theorem d_LR_file_7 : decode b_LR_file 7 = .ok (.putfield 183, 3) := by decide +kernel
theorem d_LR_file_10 : decode b_LR_file 10 = .ok (.aload_n 2, 1) := by decide +kernel
theorem d_LR_file_11 : decode b_LR_file 11 = .ok (.aload_n 0, 1) := by decide +kernel
theorem d_LR_file_12 : decode b_LR_file 12 = .ok (.getfield 90, 3) := by decide +kernel
theorem d_LR_file_15 : decode b_LR_file 15 = .ok (.putfield 186, 3) := by decide +kernel
theorem d_LR_file_18 : decode b_LR_file 18 = .ok (.aload_n 2, 1) := by decide +kernel
theorem d_LR_file_19 : decode b_LR_file 19 = .ok (.iload_n 1, 1) := by decide +kernel
theorem d_LR_file_20 : decode b_LR_file 20 = .ok (.putfield 189, 3) := by decide +kernel
theorem d_LR_file_23 : decode b_LR_file 23 = .ok (.aload_n 0, 1) := by decide +kernel
theorem d_LR_file_24 : decode b_LR_file 24 = .ok (.getfield 11, 3) := by decide +kernel
theorem d_LR_file_27 : decode b_LR_file 27 = .ok (.iload_n 3, 1) := by decide +kernel
theorem d_LR_file_28 : decode b_LR_file 28 = .ok (.aload_n 2, 1) := by decide +kernel
theorem d_LR_file_29 : decode b_LR_file 29 = .ok (.aastore, 1) := by decide +kernel
theorem d_LR_file_30 : decode b_LR_file 30 = .ok (.iload_n 3, 1) := by decide +kernel
theorem d_LR_file_31 : decode b_LR_file 31 = .ok (.istore 4, 2) := by decide +kernel
theorem d_LR_file_33 : decode b_LR_file 33 = .ok (.iload 4, 2) := by decide +kernel
theorem d_LR_file_35 : decode b_LR_file 35 = .ok (.ifCond .le 41, 3) := by decide +kernel
theorem d_LR_file_38 : decode b_LR_file 38 = .ok (.aload_n 0, 1) := by decide +kernel
theorem d_LR_file_39 : decode b_LR_file 39 = .ok (.getfield 15, 3) := by decide +kernel
theorem d_LR_file_42 : decode b_LR_file 42 = .ok (.iload 4, 2) := by decide +kernel
theorem d_LR_file_44 : decode b_LR_file 44 = .ok (.iconst 1, 1) := by decide +kernel
theorem d_LR_file_45 : decode b_LR_file 45 = .ok (.isub, 1) := by decide +kernel
theorem d_LR_file_46 : decode b_LR_file 46 = .ok (.aaload, 1) := by decide +kernel
theorem d_LR_file_47 : decode b_LR_file 47 = .ok (.getfield 189, 3) := by decide +kernel
theorem d_LR_file_50 : decode b_LR_file 50 = .ok (.iload_n 1, 1) := by decide +kernel
theorem d_LR_file_51 : decode b_LR_file 51 = .ok (.if_icmp .le 25, 3) := by decide +kernel
theorem d_LR_file_54 : decode b_LR_file 54 = .ok (.aload_n 0, 1) := by decide +kernel
theorem d_LR_file_55 : decode b_LR_file 55 = .ok (.getfield 15, 3) := by decide +kernel
theorem d_LR_file_58 : decode b_LR_file 58 = .ok (.iload 4, 2) := by decide +kernel
theorem d_LR_file_60 : decode b_LR_file 60 = .ok (.aload_n 0, 1) := by decide +kernel
theorem d_LR_file_61 : decode b_LR_file 61 = .ok (.getfield 15, 3) := by decide +kernel
theorem d_LR_file_64 : decode b_LR_file 64 = .ok (.iload 4, 2) := by decide +kernel
theorem d_LR_file_66 : decode b_LR_file 66 = .ok (.iconst 1, 1) := by decide +kernel
theorem d_LR_file_67 : decode b_LR_file 67 = .ok (.isub, 1) := by decide +kernel
theorem d_LR_file_68 : decode b_LR_file 68 = .ok (.aaload, 1) := by decide +kernel
theorem d_LR_file_69 : decode b_LR_file 69 = .ok (.aastore, 1) := by decide +kernel
theorem d_LR_file_70 : decode b_LR_file 70 = .ok (.iinc 4 (-1), 3) := by decide +kernel
theorem d_LR_file_73 : decode b_LR_file 73 = .ok (.goto (-40), 3) := by decide +kernel
theorem d_LR_file_76 : decode b_LR_file 76 = .ok (.aload_n 0, 1) := by decide +kernel
theorem d_LR_file_77 : decode b_LR_file 77 = .ok (.getfield 15, 3) := by decide +kernel
theorem d_LR_file_80 : decode b_LR_file 80 = .ok (.iload 4, 2) := by decide +kernel
theorem d_LR_file_82 : decode b_LR_file 82 = .ok (.aload_n 2, 1) := by decide +kernel
theorem d_LR_file_83 : decode b_LR_file 83 = .ok (.aastore, 1) := by decide +kernel
theorem d_LR_file_84 : decode b_LR_file 84 = .ok (.aload_n 0, 1) := by decide +kernel
theorem d_LR_file_85 : decode b_LR_file 85 = .ok (.dup, 1) := by decide +kernel
theorem d_LR_file_86 : decode b_LR_file 86 = .ok (.getfield 144, 3) := by decide +kernel
theorem d_LR_file_89 : decode b_LR_file 89 = .ok (.iconst 1, 1) := by decide +kernel
theorem d_LR_file_90 : decode b_LR_file 90 = .ok (.iadd, 1) := by decide +kernel
theorem d_LR_file_91 : decode b_LR_file 91 = .ok (.putfield 144, 3) := by decide +kernel
theorem d_LR_file_94 : decode b_LR_file 94 = .ok (.aload_n 0, 1) := by decide +kernel
theorem d_LR_file_95 : decode b_LR_file 95 = .ok (.aload_n 0, 1) := by decide +kernel
theorem d_LR_file_96 : decode b_LR_file 96 = .ok (.getfield 90, 3) := by decide +kernel
theorem d_LR_file_99 : decode b_LR_file 99 = .ok (.aload_n 0, 1) := by decide +kernel
theorem d_LR_file_100 : decode b_LR_file 100 = .ok (.getfield 90, 3) := by decide +kernel
theorem d_LR_file_103 : decode b_LR_file 103 = .ok (.invokevirtual 101, 3) := by decide +kernel
theorem d_LR_file_106 : decode b_LR_file 106 = .ok (.iload_n 3, 1) := by decide +kernel
theorem d_LR_file_107 : decode b_LR_file 107 = .ok (.ireturn, 1) := by decide +kernel
theorem d_LR_lookAt_0 : decode b_LR_lookAt 0 = .ok (.iconst 0, 1) := by decide +kernel
theorem d_LR_lookAt_1 : decode b_LR_lookAt 1 = .ok (.istore_n 3, 1) := by decide +kernel
theorem d_LR_lookAt_2 : decode b_LR_lookAt 2 = .ok (.iload_n 3, 1) := by decide +kernel
theorem d_LR_lookAt_3 : decode b_LR_lookAt 3 = .ok (.bipush 80, 2) := by decide +kernel
theorem d_LR_lookAt_5 : decode b_LR_lookAt 5 = .ok (.if_icmp .ge 18, 3) := by decide +kernel
theorem d_LR_lookAt_8 : decode b_LR_lookAt 8 = .ok (.aload_n 0, 1) := by decide +kernel
theorem d_LR_lookAt_9 : decode b_LR_lookAt 9 = .ok (.getfield 20, 3) := by decide +kernel
theorem d_LR_lookAt_12 : decode b_LR_lookAt 12 = .ok (.iload_n 3, 1) := by decide +kernel
theorem d_LR_lookAt_13 : decode b_LR_lookAt 13 = .ok (.aaload, 1) := by decide +kernel
theorem d_LR_lookAt_14 : decode b_LR_lookAt 14 = .ok (.invokevirtual 192, 3) := by decide +kernel
theorem d_LR_lookAt_17 : decode b_LR_lookAt 17 = .ok (.iinc 3 1, 3) := by decide +kernel
theorem d_LR_lookAt_20 : decode b_LR_lookAt 20 = .ok (.goto (-18), 3) := by decide +kernel
theorem d_LR_lookAt_23 : decode b_LR_lookAt 23 = .ok (.iconst 0, 1) := by decide +kernel
theorem d_LR_lookAt_24 : decode b_LR_lookAt 24 = .ok (.istore_n 3, 1) := by decide +kernel
theorem d_LR_lookAt_25 : decode b_LR_lookAt 25 = .ok (.iload_n 3, 1) := by decide +kernel
theorem d_LR_lookAt_26 : decode b_LR_lookAt 26 = .ok (.aload_n 0, 1) := by decide +kernel
theorem d_LR_lookAt_27 : decode b_LR_lookAt 27 = .ok (.getfield 144, 3) := by decide +kernel
theorem d_LR_lookAt_30 : decode b_LR_lookAt 30 = .ok (.if_icmp .ge 75, 3) := by decide +kernel
theorem d_LR_lookAt_33 : decode b_LR_lookAt 33 = .ok (.aload_n 0, 1) := by decide +kernel
theorem d_LR_lookAt_34 : decode b_LR_lookAt 34 = .ok (.getfield 15, 3) := by decide +kernel
theorem d_LR_lookAt_37 : decode b_LR_lookAt 37 = .ok (.iload_n 3, 1) := by decide +kernel
theorem d_LR_lookAt_38 : decode b_LR_lookAt 38 = .ok (.aaload, 1) := by decide +kernel
theorem d_LR_lookAt_39 : decode b_LR_lookAt 39 = .ok (.astore 4, 2) := by decide +kernel
theorem d_LR_lookAt_41 : decode b_LR_lookAt 41 = .ok (.aload 4, 2) := by decide +kernel
theorem d_LR_lookAt_43 : decode b_LR_lookAt 43 = .ok (.getfield 186, 3) := by decide +kernel
theorem d_LR_lookAt_46 : decode b_LR_lookAt 46 = .ok (.iload_n 1, 1) := by decide +kernel
theorem d_LR_lookAt_47 : decode b_LR_lookAt 47 = .ok (.if_icmp .gt 12, 3) := by decide +kernel
theorem d_LR_lookAt_50 : decode b_LR_lookAt 50 = .ok (.aload 4, 2) := by decide +kernel
theorem d_LR_lookAt_52 : decode b_LR_lookAt 52 = .ok (.getfield 189, 3) := by decide +kernel
theorem d_LR_lookAt_55 : decode b_LR_lookAt 55 = .ok (.iload_n 2, 1) := by decide +kernel
theorem d_LR_lookAt_56 : decode b_LR_lookAt 56 = .ok (.if_icmp .le 12, 3) := by decide +kernel
theorem d_LR_lookAt_59 : decode b_LR_lookAt 59 = .ok (.aload 4, 2) := by decide +kernel
theorem d_LR_lookAt_61 : decode b_LR_lookAt 61 = .ok (.iconst (-1), 1) := by decide +kernel
theorem d_LR_lookAt_62 : decode b_LR_lookAt 62 = .ok (.putfield 152, 3) := by decide +kernel
theorem d_LR_lookAt_65 : decode b_LR_lookAt 65 = .ok (.goto 34, 3) := by decide +kernel
theorem d_LR_lookAt_68 : decode b_LR_lookAt 68 = .ok (.aload 4, 2) := by decide +kernel
theorem d_LR_lookAt_70 : decode b_LR_lookAt 70 = .ok (.aload 4, 2) := by decide +kernel
theorem d_LR_lookAt_72 : decode b_LR_lookAt 72 = .ok (.aload_n 0, 1) := by decide +kernel
theorem d_LR_lookAt_73 : decode b_LR_lookAt 73 = .ok (.getfield 20, 3) := by decide +kernel
theorem d_LR_lookAt_76 : decode b_LR_lookAt 76 = .ok (.invokevirtual 195, 3) := by decide +kernel
theorem d_LR_lookAt_79 : decode b_LR_lookAt 79 = .ok (.putfield 152, 3) := by decide +kernel
theorem d_LR_lookAt_82 : decode b_LR_lookAt 82 = .ok (.aload 4, 2) := by decide +kernel
theorem d_LR_lookAt_84 : decode b_LR_lookAt 84 = .ok (.getfield 152, 3) := by decide +kernel
theorem d_LR_lookAt_87 : decode b_LR_lookAt 87 = .ok (.ifCond .ne 12, 3) := by decide +kernel
theorem d_LR_lookAt_90 : decode b_LR_lookAt 90 = .ok (.aload 4, 2) := by decide +kernel
theorem d_LR_lookAt_92 : decode b_LR_lookAt 92 = .ok (.aload_n 0, 1) := by decide +kernel
theorem d_LR_lookAt_93 : decode b_LR_lookAt 93 = .ok (.getfield 20, 3) := by decide +kernel
theorem d_LR_lookAt_96 : decode b_LR_lookAt 96 = .ok (.invokevirtual 199, 3) := by decide +kernel
theorem d_LR_lookAt_99 : decode b_LR_lookAt 99 = .ok (.iinc 3 1, 3) := by decide +kernel
theorem d_LR_lookAt_102 : decode b_LR_lookAt 102 = .ok (.goto (-77), 3) := by decide +kernel
theorem d_LR_lookAt_105 : decode b_LR_lookAt 105 = .ok (.return_, 1) := by decide +kernel
theorem d_LR_numerator_0 : decode b_LR_numerator 0 = .ok (.lload_n 0, 1) := by decide +kernel
theorem d_LR_numerator_1 : decode b_LR_numerator 1 = .ok (.bipush 32, 2) := by decide +kernel
theorem d_LR_numerator_3 : decode b_LR_numerator 3 = .ok (.lshr, 1) := by decide +kernel
theorem d_LR_numerator_4 : decode b_LR_numerator 4 = .ok (.lreturn, 1) := by decide +kernel
theorem d_LR_denominator_0 : decode b_LR_denominator 0 = .ok (.lload_n 0, 1) := by decide +kernel
theorem d_LR_denominator_1 : decode b_LR_denominator 1 = .ok (.ldc2_w 203, 3) := by decide +kernel
theorem d_LR_denominator_4 : decode b_LR_denominator 4 = .ok (.land, 1) := by decide +kernel
theorem d_LR_denominator_5 : decode b_LR_denominator 5 = .ok (.lreturn, 1) := by decide +kernel
theorem d_LR_parts_0 : decode b_LR_parts 0 = .ok (.lconst 1, 1) := by decide +kernel
theorem d_LR_parts_1 : decode b_LR_parts 1 = .ok (.lload_n 0, 1) := by decide +kernel
theorem d_LR_parts_2 : decode b_LR_parts 2 = .ok (.invokestatic 168, 3) := by decide +kernel
theorem d_LR_parts_5 : decode b_LR_parts 5 = .ok (.invokestatic 205, 3) := by decide +kernel
theorem d_LR_parts_8 : decode b_LR_parts 8 = .ok (.lreturn, 1) := by decide +kernel
theorem d_LR_isLess_0 : decode b_LR_isLess 0 = .ok (.lload_n 0, 1) := by decide +kernel
theorem d_LR_isLess_1 : decode b_LR_isLess 1 = .ok (.invokestatic 176, 3) := by decide +kernel
theorem d_LR_isLess_4 : decode b_LR_isLess 4 = .ok (.lload_n 2, 1) := by decide +kernel
theorem d_LR_isLess_5 : decode b_LR_isLess 5 = .ok (.invokestatic 211, 3) := by decide +kernel
theorem d_LR_isLess_8 : decode b_LR_isLess 8 = .ok (.lmul, 1) := by decide +kernel
theorem d_LR_isLess_9 : decode b_LR_isLess 9 = .ok (.lload_n 2, 1) := by decide +kernel
theorem d_LR_isLess_10 : decode b_LR_isLess 10 = .ok (.invokestatic 176, 3) := by decide +kernel
theorem d_LR_isLess_13 : decode b_LR_isLess 13 = .ok (.lload_n 0, 1) := by decide +kernel
theorem d_LR_isLess_14 : decode b_LR_isLess 14 = .ok (.invokestatic 211, 3) := by decide +kernel
theorem d_LR_isLess_17 : decode b_LR_isLess 17 = .ok (.lmul, 1) := by decide +kernel
theorem d_LR_isLess_18 : decode b_LR_isLess 18 = .ok (.lcmp, 1) := by decide +kernel
theorem d_LR_isLess_19 : decode b_LR_isLess 19 = .ok (.ifCond .ge 7, 3) := by decide +kernel
theorem d_LR_isLess_22 : decode b_LR_isLess 22 = .ok (.iconst 1, 1) := by decide +kernel
theorem d_LR_isLess_23 : decode b_LR_isLess 23 = .ok (.goto 4, 3) := by decide +kernel
theorem d_LR_isLess_26 : decode b_LR_isLess 26 = .ok (.iconst 0, 1) := by decide +kernel
theorem d_LR_isLess_27 : decode b_LR_isLess 27 = .ok (.ireturn, 1) := by decide +kernel
theorem d_LR_plus_0 : decode b_LR_plus 0 = .ok (.lload_n 0, 1) := by decide +kernel
theorem d_LR_plus_1 : decode b_LR_plus 1 = .ok (.invokestatic 176, 3) := by decide +kernel
theorem d_LR_plus_4 : decode b_LR_plus 4 = .ok (.lload_n 2, 1) := by decide +kernel
theorem d_LR_plus_5 : decode b_LR_plus 5 = .ok (.invokestatic 211, 3) := by decide +kernel
theorem d_LR_plus_8 : decode b_LR_plus 8 = .ok (.lmul, 1) := by decide +kernel
theorem d_LR_plus_9 : decode b_LR_plus 9 = .ok (.lload_n 2, 1) := by decide +kernel
theorem d_LR_plus_10 : decode b_LR_plus 10 = .ok (.invokestatic 176, 3) := by decide +kernel
theorem d_LR_plus_13 : decode b_LR_plus 13 = .ok (.lload_n 0, 1) := by decide +kernel
theorem d_LR_plus_14 : decode b_LR_plus 14 = .ok (.invokestatic 211, 3) := by decide +kernel
theorem d_LR_plus_17 : decode b_LR_plus 17 = .ok (.lmul, 1) := by decide +kernel
theorem d_LR_plus_18 : decode b_LR_plus 18 = .ok (.ladd, 1) := by decide +kernel
theorem d_LR_plus_19 : decode b_LR_plus 19 = .ok (.lload_n 0, 1) := by decide +kernel
theorem d_LR_plus_20 : decode b_LR_plus 20 = .ok (.invokestatic 211, 3) := by decide +kernel
theorem d_LR_plus_23 : decode b_LR_plus 23 = .ok (.lload_n 2, 1) := by decide +kernel
theorem d_LR_plus_24 : decode b_LR_plus 24 = .ok (.invokestatic 211, 3) := by decide +kernel
theorem d_LR_plus_27 : decode b_LR_plus 27 = .ok (.lmul, 1) := by decide +kernel
theorem d_LR_plus_28 : decode b_LR_plus 28 = .ok (.invokestatic 214, 3) := by decide +kernel
theorem d_LR_plus_31 : decode b_LR_plus 31 = .ok (.lreturn, 1) := by decide +kernel
theorem d_LR_minus_0 : decode b_LR_minus 0 = .ok (.lload_n 0, 1) := by decide +kernel
theorem d_LR_minus_1 : decode b_LR_minus 1 = .ok (.invokestatic 176, 3) := by decide +kernel
theorem d_LR_minus_4 : decode b_LR_minus 4 = .ok (.lload_n 2, 1) := by decide +kernel
theorem d_LR_minus_5 : decode b_LR_minus 5 = .ok (.invokestatic 211, 3) := by decide +kernel
theorem d_LR_minus_8 : decode b_LR_minus 8 = .ok (.lmul, 1) := by decide +kernel
theorem d_LR_minus_9 : decode b_LR_minus 9 = .ok (.lload_n 2, 1) := by decide +kernel
theorem d_LR_minus_10 : decode b_LR_minus 10 = .ok (.invokestatic 176, 3) := by decide +kernel
theorem d_LR_minus_13 : decode b_LR_minus 13 = .ok (.lload_n 0, 1) := by decide +kernel
theorem d_LR_minus_14 : decode b_LR_minus 14 = .ok (.invokestatic 211, 3) := by decide +kernel
theorem d_LR_minus_17 : decode b_LR_minus 17 = .ok (.lmul, 1) := by decide +kernel
theorem d_LR_minus_18 : decode b_LR_minus 18 = .ok (.lsub, 1) := by decide +kernel
theorem d_LR_minus_19 : decode b_LR_minus 19 = .ok (.lload_n 0, 1) := by decide +kernel
theorem d_LR_minus_20 : decode b_LR_minus 20 = .ok (.invokestatic 211, 3) := by decide +kernel
theorem d_LR_minus_23 : decode b_LR_minus 23 = .ok (.lload_n 2, 1) := by decide +kernel
theorem d_LR_minus_24 : decode b_LR_minus 24 = .ok (.invokestatic 211, 3) := by decide +kernel
theorem d_LR_minus_27 : decode b_LR_minus 27 = .ok (.lmul, 1) := by decide +kernel
theorem d_LR_minus_28 : decode b_LR_minus 28 = .ok (.invokestatic 214, 3) := by decide +kernel
theorem d_LR_minus_31 : decode b_LR_minus 31 = .ok (.lreturn, 1) := by decide +kernel
theorem d_LR_lowest_0 : decode b_LR_lowest 0 = .ok (.lload_n 0, 1) := by decide +kernel
theorem d_LR_lowest_1 : decode b_LR_lowest 1 = .ok (.lconst 0, 1) := by decide +kernel
theorem d_LR_lowest_2 : decode b_LR_lowest 2 = .ok (.lcmp, 1) := by decide +kernel
theorem d_LR_lowest_3 : decode b_LR_lowest 3 = .ok (.ifCond .ne 5, 3) := by decide +kernel
theorem d_LR_lowest_6 : decode b_LR_lowest 6 = .ok (.lconst 0, 1) := by decide +kernel
theorem d_LR_lowest_7 : decode b_LR_lowest 7 = .ok (.lreturn, 1) := by decide +kernel
theorem d_LR_lowest_8 : decode b_LR_lowest 8 = .ok (.lload_n 0, 1) := by decide +kernel
theorem d_LR_lowest_9 : decode b_LR_lowest 9 = .ok (.lload_n 2, 1) := by decide +kernel
theorem d_LR_lowest_10 : decode b_LR_lowest 10 = .ok (.invokestatic 217, 3) := by decide +kernel
theorem d_LR_lowest_13 : decode b_LR_lowest 13 = .ok (.lstore 4, 2) := by decide +kernel
theorem d_LR_lowest_15 : decode b_LR_lowest 15 = .ok (.lload_n 2, 1) := by decide +kernel
theorem d_LR_lowest_16 : decode b_LR_lowest 16 = .ok (.lload 4, 2) := by decide +kernel
theorem d_LR_lowest_18 : decode b_LR_lowest 18 = .ok (.ldiv, 1) := by decide +kernel
theorem d_LR_lowest_19 : decode b_LR_lowest 19 = .ok (.ldc2_w 172, 3) := by decide +kernel
theorem d_LR_lowest_22 : decode b_LR_lowest 22 = .ok (.lcmp, 1) := by decide +kernel
theorem d_LR_lowest_23 : decode b_LR_lowest 23 = .ok (.ifCond .le 7, 3) := by decide +kernel
theorem d_LR_lowest_26 : decode b_LR_lowest 26 = .ok (.ldc2_w 220, 3) := by decide +kernel
theorem d_LR_lowest_29 : decode b_LR_lowest 29 = .ok (.lreturn, 1) := by decide +kernel
theorem d_LR_lowest_30 : decode b_LR_lowest 30 = .ok (.lload_n 0, 1) := by decide +kernel
theorem d_LR_lowest_31 : decode b_LR_lowest 31 = .ok (.lload 4, 2) := by decide +kernel
theorem d_LR_lowest_33 : decode b_LR_lowest 33 = .ok (.ldiv, 1) := by decide +kernel
theorem d_LR_lowest_34 : decode b_LR_lowest 34 = .ok (.bipush 32, 2) := by decide +kernel
theorem d_LR_lowest_36 : decode b_LR_lowest 36 = .ok (.lshl, 1) := by decide +kernel
theorem d_LR_lowest_37 : decode b_LR_lowest 37 = .ok (.lload_n 2, 1) := by decide +kernel
theorem d_LR_lowest_38 : decode b_LR_lowest 38 = .ok (.lload 4, 2) := by decide +kernel
theorem d_LR_lowest_40 : decode b_LR_lowest 40 = .ok (.ldiv, 1) := by decide +kernel
theorem d_LR_lowest_41 : decode b_LR_lowest 41 = .ok (.lor, 1) := by decide +kernel
theorem d_LR_lowest_42 : decode b_LR_lowest 42 = .ok (.lreturn, 1) := by decide +kernel
theorem d_LR_commonDivisor_0 : decode b_LR_commonDivisor 0 = .ok (.lload_n 0, 1) := by decide +kernel
theorem d_LR_commonDivisor_1 : decode b_LR_commonDivisor 1 = .ok (.lstore 4, 2) := by decide +kernel
theorem d_LR_commonDivisor_3 : decode b_LR_commonDivisor 3 = .ok (.lload_n 2, 1) := by decide +kernel
theorem d_LR_commonDivisor_4 : decode b_LR_commonDivisor 4 = .ok (.lstore 6, 2) := by decide +kernel
theorem d_LR_commonDivisor_6 : decode b_LR_commonDivisor 6 = .ok (.iconst 0, 1) := by decide +kernel
theorem d_LR_commonDivisor_7 : decode b_LR_commonDivisor 7 = .ok (.istore 8, 2) := by decide +kernel
theorem d_LR_commonDivisor_9 : decode b_LR_commonDivisor 9 = .ok (.iload 8, 2) := by decide +kernel
theorem d_LR_commonDivisor_11 : decode b_LR_commonDivisor 11 = .ok (.bipush 100, 2) := by decide +kernel
theorem d_LR_commonDivisor_13 : decode b_LR_commonDivisor 13 = .ok (.if_icmp .ge 31, 3) := by decide +kernel
theorem d_LR_commonDivisor_16 : decode b_LR_commonDivisor 16 = .ok (.lload 6, 2) := by decide +kernel
theorem d_LR_commonDivisor_18 : decode b_LR_commonDivisor 18 = .ok (.lconst 0, 1) := by decide +kernel
theorem d_LR_commonDivisor_19 : decode b_LR_commonDivisor 19 = .ok (.lcmp, 1) := by decide +kernel
theorem d_LR_commonDivisor_20 : decode b_LR_commonDivisor 20 = .ok (.ifCond .eq 24, 3) := by decide +kernel
theorem d_LR_commonDivisor_23 : decode b_LR_commonDivisor 23 = .ok (.lload 4, 2) := by decide +kernel
theorem d_LR_commonDivisor_25 : decode b_LR_commonDivisor 25 = .ok (.lload 6, 2) := by decide +kernel
theorem d_LR_commonDivisor_27 : decode b_LR_commonDivisor 27 = .ok (.lrem, 1) := by decide +kernel
theorem d_LR_commonDivisor_28 : decode b_LR_commonDivisor 28 = .ok (.lstore 9, 2) := by decide +kernel
theorem d_LR_commonDivisor_30 : decode b_LR_commonDivisor 30 = .ok (.lload 6, 2) := by decide +kernel
theorem d_LR_commonDivisor_32 : decode b_LR_commonDivisor 32 = .ok (.lstore 4, 2) := by decide +kernel
theorem d_LR_commonDivisor_34 : decode b_LR_commonDivisor 34 = .ok (.lload 9, 2) := by decide +kernel
theorem d_LR_commonDivisor_36 : decode b_LR_commonDivisor 36 = .ok (.lstore 6, 2) := by decide +kernel
theorem d_LR_commonDivisor_38 : decode b_LR_commonDivisor 38 = .ok (.iinc 8 1, 3) := by decide +kernel
theorem d_LR_commonDivisor_41 : decode b_LR_commonDivisor 41 = .ok (.goto (-32), 3) := by decide +kernel
theorem d_LR_commonDivisor_44 : decode b_LR_commonDivisor 44 = .ok (.lload 4, 2) := by decide +kernel
theorem d_LR_commonDivisor_46 : decode b_LR_commonDivisor 46 = .ok (.lconst 0, 1) := by decide +kernel
theorem d_LR_commonDivisor_47 : decode b_LR_commonDivisor 47 = .ok (.lcmp, 1) := by decide +kernel
theorem d_LR_commonDivisor_48 : decode b_LR_commonDivisor 48 = .ok (.ifCond .le 8, 3) := by decide +kernel
theorem d_LR_commonDivisor_51 : decode b_LR_commonDivisor 51 = .ok (.lload 4, 2) := by decide +kernel
theorem d_LR_commonDivisor_53 : decode b_LR_commonDivisor 53 = .ok (.goto 4, 3) := by decide +kernel
theorem d_LR_commonDivisor_56 : decode b_LR_commonDivisor 56 = .ok (.lconst 1, 1) := by decide +kernel
theorem d_LR_commonDivisor_57 : decode b_LR_commonDivisor 57 = .ok (.lreturn, 1) := by decide +kernel
theorem d_P_init_0 : decode b_P_init 0 = .ok (.aload_n 0, 1) := by decide +kernel
theorem d_P_init_1 : decode b_P_init 1 = .ok (.invokespecial 3, 3) := by decide +kernel
theorem d_P_init_4 : decode b_P_init 4 = .ok (.aload_n 0, 1) := by decide +kernel
theorem d_P_init_5 : decode b_P_init 5 = .ok (.bipush 8, 2) := by decide +kernel
theorem d_P_init_7 : decode b_P_init 7 = .ok (.newarray .long, 2) := by decide +kernel
theorem d_P_init_9 : decode b_P_init 9 = .ok (.putfield 9, 3) := by decide +kernel
theorem d_P_init_12 : decode b_P_init 12 = .ok (.aload_n 0, 1) := by decide +kernel
theorem d_P_init_13 : decode b_P_init 13 = .ok (.iconst 4, 1) := by decide +kernel
theorem d_P_init_14 : decode b_P_init 14 = .ok (.newarray .int, 2) := by decide +kernel
theorem d_P_init_16 : decode b_P_init 16 = .ok (.putfield 15, 3) := by decide +kernel
theorem d_P_init_19 : decode b_P_init 19 = .ok (.aload_n 0, 1) := by decide +kernel
theorem d_P_init_20 : decode b_P_init 20 = .ok (.iconst 4, 1) := by decide +kernel
theorem d_P_init_21 : decode b_P_init 21 = .ok (.newarray .int, 2) := by decide +kernel
theorem d_P_init_23 : decode b_P_init 23 = .ok (.putfield 19, 3) := by decide +kernel
theorem d_P_init_26 : decode b_P_init 26 = .ok (.aload_n 0, 1) := by decide +kernel
theorem d_P_init_27 : decode b_P_init 27 = .ok (.iconst (-1), 1) := by decide +kernel
theorem d_P_init_28 : decode b_P_init 28 = .ok (.putfield 22, 3) := by decide +kernel
theorem d_P_init_31 : decode b_P_init 31 = .ok (.aload_n 0, 1) := by decide +kernel
theorem d_P_init_32 : decode b_P_init 32 = .ok (.iconst (-1), 1) := by decide +kernel
theorem d_P_init_33 : decode b_P_init 33 = .ok (.putfield 26, 3) := by decide +kernel
theorem d_P_init_36 : decode b_P_init 36 = .ok (.return_, 1) := by decide +kernel
theorem d_P_unmake_0 : decode b_P_unmake 0 = .ok (.aload_n 0, 1) := by decide +kernel
theorem d_P_unmake_1 : decode b_P_unmake 1 = .ok (.iconst 0, 1) := by decide +kernel
theorem d_P_unmake_2 : decode b_P_unmake 2 = .ok (.putfield 29, 3) := by decide +kernel
theorem d_P_unmake_5 : decode b_P_unmake 5 = .ok (.aload_n 0, 1) := by decide +kernel
theorem d_P_unmake_6 : decode b_P_unmake 6 = .ok (.iconst (-1), 1) := by decide +kernel
theorem d_P_unmake_7 : decode b_P_unmake 7 = .ok (.putfield 22, 3) := by decide +kernel
theorem d_P_unmake_10 : decode b_P_unmake 10 = .ok (.aload_n 0, 1) := by decide +kernel
theorem d_P_unmake_11 : decode b_P_unmake 11 = .ok (.iconst (-1), 1) := by decide +kernel
theorem d_P_unmake_12 : decode b_P_unmake 12 = .ok (.putfield 26, 3) := by decide +kernel
theorem d_P_unmake_15 : decode b_P_unmake 15 = .ok (.return_, 1) := by decide +kernel
theorem d_P_makeFor_0 : decode b_P_makeFor 0 = .ok (.aload_n 0, 1) := by decide +kernel
theorem d_P_makeFor_1 : decode b_P_makeFor 1 = .ok (.iconst 1, 1) := by decide +kernel
theorem d_P_makeFor_2 : decode b_P_makeFor 2 = .ok (.putfield 29, 3) := by decide +kernel
theorem d_P_makeFor_5 : decode b_P_makeFor 5 = .ok (.aload_n 0, 1) := by decide +kernel
theorem d_P_makeFor_6 : decode b_P_makeFor 6 = .ok (.lload_n 2, 1) := by decide +kernel
theorem d_P_makeFor_7 : decode b_P_makeFor 7 = .ok (.putfield 33, 3) := by decide +kernel
theorem d_P_makeFor_10 : decode b_P_makeFor 10 = .ok (.aload_n 0, 1) := by decide +kernel
theorem d_P_makeFor_11 : decode b_P_makeFor 11 = .ok (.getfield 9, 3) := by decide +kernel
theorem d_P_makeFor_14 : decode b_P_makeFor 14 = .ok (.lconst 0, 1) := by decide +kernel
theorem d_P_makeFor_15 : decode b_P_makeFor 15 = .ok (.invokestatic 37, 3) := by decide +kernel
theorem d_P_makeFor_18 : decode b_P_makeFor 18 = .ok (.aload_n 0, 1) := by decide +kernel
theorem d_P_makeFor_19 : decode b_P_makeFor 19 = .ok (.getfield 9, 3) := by decide +kernel
theorem d_P_makeFor_22 : decode b_P_makeFor 22 = .ok (.iload_n 1, 1) := by decide +kernel
theorem d_P_makeFor_23 : decode b_P_makeFor 23 = .ok (.ldc2_w 43, 3) := by decide +kernel
theorem d_P_makeFor_26 : decode b_P_makeFor 26 = .ok (.lastore, 1) := by decide +kernel
theorem d_P_makeFor_27 : decode b_P_makeFor 27 = .ok (.aload_n 0, 1) := by decide +kernel
theorem d_P_makeFor_28 : decode b_P_makeFor 28 = .ok (.iconst 0, 1) := by decide +kernel
theorem d_P_makeFor_29 : decode b_P_makeFor 29 = .ok (.putfield 45, 3) := by decide +kernel
theorem d_P_makeFor_32 : decode b_P_makeFor 32 = .ok (.aload_n 0, 1) := by decide +kernel
theorem d_P_makeFor_33 : decode b_P_makeFor 33 = .ok (.iconst 0, 1) := by decide +kernel
theorem d_P_makeFor_34 : decode b_P_makeFor 34 = .ok (.putfield 48, 3) := by decide +kernel
theorem d_P_makeFor_37 : decode b_P_makeFor 37 = .ok (.return_, 1) := by decide +kernel
theorem d_P_makeFrom_0 : decode b_P_makeFrom 0 = .ok (.aload_n 0, 1) := by decide +kernel
theorem d_P_makeFrom_1 : decode b_P_makeFrom 1 = .ok (.iconst 1, 1) := by decide +kernel
theorem d_P_makeFrom_2 : decode b_P_makeFrom 2 = .ok (.putfield 29, 3) := by decide +kernel
theorem d_P_makeFrom_5 : decode b_P_makeFrom 5 = .ok (.aload_n 0, 1) := by decide +kernel
theorem d_P_makeFrom_6 : decode b_P_makeFrom 6 = .ok (.lload_n 2, 1) := by decide +kernel
theorem d_P_makeFrom_7 : decode b_P_makeFrom 7 = .ok (.putfield 33, 3) := by decide +kernel
theorem d_P_makeFrom_10 : decode b_P_makeFrom 10 = .ok (.aload_n 1, 1) := by decide +kernel
theorem d_P_makeFrom_11 : decode b_P_makeFrom 11 = .ok (.getfield 9, 3) := by decide +kernel
theorem d_P_makeFrom_14 : decode b_P_makeFrom 14 = .ok (.iconst 0, 1) := by decide +kernel
theorem d_P_makeFrom_15 : decode b_P_makeFrom 15 = .ok (.aload_n 0, 1) := by decide +kernel
theorem d_P_makeFrom_16 : decode b_P_makeFrom 16 = .ok (.getfield 9, 3) := by decide +kernel
theorem d_P_makeFrom_19 : decode b_P_makeFrom 19 = .ok (.iconst 0, 1) := by decide +kernel
theorem d_P_makeFrom_20 : decode b_P_makeFrom 20 = .ok (.bipush 8, 2) := by decide +kernel
theorem d_P_makeFrom_22 : decode b_P_makeFrom 22 = .ok (.invokestatic 51, 3) := by decide +kernel
theorem d_P_makeFrom_25 : decode b_P_makeFrom 25 = .ok (.aload_n 0, 1) := by decide +kernel
theorem d_P_makeFrom_26 : decode b_P_makeFrom 26 = .ok (.aload_n 1, 1) := by decide +kernel
theorem d_P_makeFrom_27 : decode b_P_makeFrom 27 = .ok (.getfield 45, 3) := by decide +kernel
theorem d_P_makeFrom_30 : decode b_P_makeFrom 30 = .ok (.putfield 45, 3) := by decide +kernel
theorem d_P_makeFrom_33 : decode b_P_makeFrom 33 = .ok (.aload_n 1, 1) := by decide +kernel
theorem d_P_makeFrom_34 : decode b_P_makeFrom 34 = .ok (.getfield 15, 3) := by decide +kernel
theorem d_P_makeFrom_37 : decode b_P_makeFrom 37 = .ok (.iconst 0, 1) := by decide +kernel
theorem d_P_makeFrom_38 : decode b_P_makeFrom 38 = .ok (.aload_n 0, 1) := by decide +kernel
theorem d_P_makeFrom_39 : decode b_P_makeFrom 39 = .ok (.getfield 15, 3) := by decide +kernel
theorem d_P_makeFrom_42 : decode b_P_makeFrom 42 = .ok (.iconst 0, 1) := by decide +kernel
theorem d_P_makeFrom_43 : decode b_P_makeFrom 43 = .ok (.iconst 4, 1) := by decide +kernel
theorem d_P_makeFrom_44 : decode b_P_makeFrom 44 = .ok (.invokestatic 51, 3) := by decide +kernel
theorem d_P_makeFrom_47 : decode b_P_makeFrom 47 = .ok (.aload_n 1, 1) := by decide +kernel
theorem d_P_makeFrom_48 : decode b_P_makeFrom 48 = .ok (.getfield 19, 3) := by decide +kernel
theorem d_P_makeFrom_51 : decode b_P_makeFrom 51 = .ok (.iconst 0, 1) := by decide +kernel
theorem d_P_makeFrom_52 : decode b_P_makeFrom 52 = .ok (.aload_n 0, 1) := by decide +kernel
theorem d_P_makeFrom_53 : decode b_P_makeFrom 53 = .ok (.getfield 19, 3) := by decide +kernel
theorem d_P_makeFrom_56 : decode b_P_makeFrom 56 = .ok (.iconst 0, 1) := by decide +kernel
theorem d_P_makeFrom_57 : decode b_P_makeFrom 57 = .ok (.iconst 4, 1) := by decide +kernel
theorem d_P_makeFrom_58 : decode b_P_makeFrom 58 = .ok (.invokestatic 51, 3) := by decide +kernel
theorem d_P_makeFrom_61 : decode b_P_makeFrom 61 = .ok (.aload_n 0, 1) := by decide +kernel
theorem d_P_makeFrom_62 : decode b_P_makeFrom 62 = .ok (.iconst 0, 1) := by decide +kernel
theorem d_P_makeFrom_63 : decode b_P_makeFrom 63 = .ok (.putfield 48, 3) := by decide +kernel
theorem d_P_makeFrom_66 : decode b_P_makeFrom 66 = .ok (.return_, 1) := by decide +kernel
theorem d_P_closedness_0 : decode b_P_closedness 0 = .ok (.aload_n 0, 1) := by decide +kernel
theorem d_P_closedness_1 : decode b_P_closedness 1 = .ok (.getfield 29, 3) := by decide +kernel
theorem d_P_closedness_4 : decode b_P_closedness 4 = .ok (.ifCond .ne 5, 3) := by decide +kernel
theorem d_P_closedness_7 : decode b_P_closedness 7 = .ok (.iconst 1, 1) := by decide +kernel
theorem d_P_closedness_8 : decode b_P_closedness 8 = .ok (.ireturn, 1) := by decide +kernel
theorem d_P_closedness_9 : decode b_P_closedness 9 = .ok (.aload_n 0, 1) := by decide +kernel
theorem d_P_closedness_10 : decode b_P_closedness 10 = .ok (.getfield 48, 3) := by decide +kernel
theorem d_P_closedness_13 : decode b_P_closedness 13 = .ok (.ifCond .eq 7, 3) := by decide +kernel
theorem d_P_closedness_16 : decode b_P_closedness 16 = .ok (.iconst 2, 1) := by decide +kernel
theorem d_P_closedness_17 : decode b_P_closedness 17 = .ok (.goto 4, 3) := by decide +kernel
theorem d_P_closedness_20 : decode b_P_closedness 20 = .ok (.iconst 0, 1) := by decide +kernel
theorem d_P_closedness_21 : decode b_P_closedness 21 = .ok (.ireturn, 1) := by decide +kernel
theorem d_P_hasCautionOf_0 : decode b_P_hasCautionOf 0 = .ok (.aload_n 0, 1) := by decide +kernel
theorem d_P_hasCautionOf_1 : decode b_P_hasCautionOf 1 = .ok (.getfield 48, 3) := by decide +kernel
theorem d_P_hasCautionOf_4 : decode b_P_hasCautionOf 4 = .ok (.iload_n 1, 1) := by decide +kernel
theorem d_P_hasCautionOf_5 : decode b_P_hasCautionOf 5 = .ok (.ishr, 1) := by decide +kernel
theorem d_P_hasCautionOf_6 : decode b_P_hasCautionOf 6 = .ok (.iconst 1, 1) := by decide +kernel
theorem d_P_hasCautionOf_7 : decode b_P_hasCautionOf 7 = .ok (.iand, 1) := by decide +kernel
theorem d_P_hasCautionOf_8 : decode b_P_hasCautionOf 8 = .ok (.ifCond .eq 7, 3) := by decide +kernel
theorem d_P_hasCautionOf_11 : decode b_P_hasCautionOf 11 = .ok (.iconst 1, 1) := by decide +kernel
theorem d_P_hasCautionOf_12 : decode b_P_hasCautionOf 12 = .ok (.goto 4, 3) := by decide +kernel
theorem d_P_hasCautionOf_15 : decode b_P_hasCautionOf 15 = .ok (.iconst 0, 1) := by decide +kernel
theorem d_P_hasCautionOf_16 : decode b_P_hasCautionOf 16 = .ok (.ireturn, 1) := by decide +kernel
theorem d_P_addMortgage_0 : decode b_P_addMortgage 0 = .ok (.aload_n 0, 1) := by decide +kernel
theorem d_P_addMortgage_1 : decode b_P_addMortgage 1 = .ok (.getfield 45, 3) := by decide +kernel
theorem d_P_addMortgage_4 : decode b_P_addMortgage 4 = .ok (.iload_n 1, 1) := by decide +kernel
theorem d_P_addMortgage_5 : decode b_P_addMortgage 5 = .ok (.isub, 1) := by decide +kernel
theorem d_P_addMortgage_6 : decode b_P_addMortgage 6 = .ok (.iconst 1, 1) := by decide +kernel
theorem d_P_addMortgage_7 : decode b_P_addMortgage 7 = .ok (.iadd, 1) := by decide +kernel
theorem d_P_addMortgage_8 : decode b_P_addMortgage 8 = .ok (.istore 4, 2) := by decide +kernel
theorem d_P_addMortgage_10 : decode b_P_addMortgage 10 = .ok (.aload_n 0, 1) := by decide +kernel
theorem d_P_addMortgage_11 : decode b_P_addMortgage 11 = .ok (.getfield 15, 3) := by decide +kernel
theorem d_P_addMortgage_14 : decode b_P_addMortgage 14 = .ok (.iload_n 1, 1) := by decide +kernel
theorem d_P_addMortgage_15 : decode b_P_addMortgage 15 = .ok (.iconst 1, 1) := by decide +kernel
theorem d_P_addMortgage_16 : decode b_P_addMortgage 16 = .ok (.isub, 1) := by decide +kernel
theorem d_P_addMortgage_17 : decode b_P_addMortgage 17 = .ok (.aload_n 0, 1) := by decide +kernel
theorem d_P_addMortgage_18 : decode b_P_addMortgage 18 = .ok (.getfield 15, 3) := by decide +kernel
theorem d_P_addMortgage_21 : decode b_P_addMortgage 21 = .ok (.iload_n 1, 1) := by decide +kernel
theorem d_P_addMortgage_22 : decode b_P_addMortgage 22 = .ok (.iload 4, 2) := by decide +kernel
theorem d_P_addMortgage_24 : decode b_P_addMortgage 24 = .ok (.invokestatic 51, 3) := by decide +kernel
theorem d_P_addMortgage_27 : decode b_P_addMortgage 27 = .ok (.aload_n 0, 1) := by decide +kernel
theorem d_P_addMortgage_28 : decode b_P_addMortgage 28 = .ok (.getfield 19, 3) := by decide +kernel
theorem d_P_addMortgage_31 : decode b_P_addMortgage 31 = .ok (.iload_n 1, 1) := by decide +kernel
theorem d_P_addMortgage_32 : decode b_P_addMortgage 32 = .ok (.iconst 1, 1) := by decide +kernel
theorem d_P_addMortgage_33 : decode b_P_addMortgage 33 = .ok (.isub, 1) := by decide +kernel
theorem d_P_addMortgage_34 : decode b_P_addMortgage 34 = .ok (.aload_n 0, 1) := by decide +kernel
theorem d_P_addMortgage_35 : decode b_P_addMortgage 35 = .ok (.getfield 19, 3) := by decide +kernel
theorem d_P_addMortgage_38 : decode b_P_addMortgage 38 = .ok (.iload_n 1, 1) := by decide +kernel
theorem d_P_addMortgage_39 : decode b_P_addMortgage 39 = .ok (.iload 4, 2) := by decide +kernel
theorem d_P_addMortgage_41 : decode b_P_addMortgage 41 = .ok (.invokestatic 51, 3) := by decide +kernel
theorem d_P_addMortgage_44 : decode b_P_addMortgage 44 = .ok (.aload_n 0, 1) := by decide +kernel
theorem d_P_addMortgage_45 : decode b_P_addMortgage 45 = .ok (.getfield 15, 3) := by decide +kernel
theorem d_P_addMortgage_48 : decode b_P_addMortgage 48 = .ok (.iload_n 1, 1) := by decide +kernel
theorem d_P_addMortgage_49 : decode b_P_addMortgage 49 = .ok (.iconst 1, 1) := by decide +kernel
theorem d_P_addMortgage_50 : decode b_P_addMortgage 50 = .ok (.isub, 1) := by decide +kernel
theorem d_P_addMortgage_51 : decode b_P_addMortgage 51 = .ok (.iload_n 2, 1) := by decide +kernel
theorem d_P_addMortgage_52 : decode b_P_addMortgage 52 = .ok (.iastore, 1) := by decide +kernel
theorem d_P_addMortgage_53 : decode b_P_addMortgage 53 = .ok (.aload_n 0, 1) := by decide +kernel
theorem d_P_addMortgage_54 : decode b_P_addMortgage 54 = .ok (.getfield 19, 3) := by decide +kernel
theorem d_P_addMortgage_57 : decode b_P_addMortgage 57 = .ok (.iload_n 1, 1) := by decide +kernel
theorem d_P_addMortgage_58 : decode b_P_addMortgage 58 = .ok (.iconst 1, 1) := by decide +kernel
theorem d_P_addMortgage_59 : decode b_P_addMortgage 59 = .ok (.isub, 1) := by decide +kernel
theorem d_P_addMortgage_60 : decode b_P_addMortgage 60 = .ok (.iload_n 3, 1) := by decide +kernel
theorem d_P_addMortgage_61 : decode b_P_addMortgage 61 = .ok (.iastore, 1) := by decide +kernel
theorem d_P_addMortgage_62 : decode b_P_addMortgage 62 = .ok (.aload_n 0, 1) := by decide +kernel
theorem d_P_addMortgage_63 : decode b_P_addMortgage 63 = .ok (.dup, 1) := by decide +kernel
theorem d_P_addMortgage_64 : decode b_P_addMortgage 64 = .ok (.getfield 45, 3) := by decide +kernel
theorem d_P_addMortgage_67 : decode b_P_addMortgage 67 = .ok (.iconst 1, 1) := by decide +kernel
theorem d_P_addMortgage_68 : decode b_P_addMortgage 68 = .ok (.iadd, 1) := by decide +kernel
theorem d_P_addMortgage_69 : decode b_P_addMortgage 69 = .ok (.putfield 45, 3) := by decide +kernel
theorem d_P_addMortgage_72 : decode b_P_addMortgage 72 = .ok (.return_, 1) := by decide +kernel
theorem d_P_dropMortgage_0 : decode b_P_dropMortgage 0 = .ok (.aload_n 0, 1) := by decide +kernel
theorem d_P_dropMortgage_1 : decode b_P_dropMortgage 1 = .ok (.getfield 45, 3) := by decide +kernel
theorem d_P_dropMortgage_4 : decode b_P_dropMortgage 4 = .ok (.iload_n 1, 1) := by decide +kernel
theorem d_P_dropMortgage_5 : decode b_P_dropMortgage 5 = .ok (.isub, 1) := by decide +kernel
theorem d_P_dropMortgage_6 : decode b_P_dropMortgage 6 = .ok (.istore_n 2, 1) := by decide +kernel
theorem d_P_dropMortgage_7 : decode b_P_dropMortgage 7 = .ok (.aload_n 0, 1) := by decide +kernel
theorem d_P_dropMortgage_8 : decode b_P_dropMortgage 8 = .ok (.getfield 15, 3) := by decide +kernel
theorem d_P_dropMortgage_11 : decode b_P_dropMortgage 11 = .ok (.iload_n 1, 1) := by decide +kernel
theorem d_P_dropMortgage_12 : decode b_P_dropMortgage 12 = .ok (.aload_n 0, 1) := by decide +kernel
theorem d_P_dropMortgage_13 : decode b_P_dropMortgage 13 = .ok (.getfield 15, 3) := by decide +kernel
theorem d_P_dropMortgage_16 : decode b_P_dropMortgage 16 = .ok (.iload_n 1, 1) := by decide +kernel
theorem d_P_dropMortgage_17 : decode b_P_dropMortgage 17 = .ok (.iconst 1, 1) := by decide +kernel
theorem d_P_dropMortgage_18 : decode b_P_dropMortgage 18 = .ok (.isub, 1) := by decide +kernel
theorem d_P_dropMortgage_19 : decode b_P_dropMortgage 19 = .ok (.iload_n 2, 1) := by decide +kernel
theorem d_P_dropMortgage_20 : decode b_P_dropMortgage 20 = .ok (.invokestatic 51, 3) := by decide +kernel
theorem d_P_dropMortgage_23 : decode b_P_dropMortgage 23 = .ok (.aload_n 0, 1) := by decide +kernel
theorem d_P_dropMortgage_24 : decode b_P_dropMortgage 24 = .ok (.getfield 19, 3) := by decide +kernel
theorem d_P_dropMortgage_27 : decode b_P_dropMortgage 27 = .ok (.iload_n 1, 1) := by decide +kernel
theorem d_P_dropMortgage_28 : decode b_P_dropMortgage 28 = .ok (.aload_n 0, 1) := by decide +kernel
theorem d_P_dropMortgage_29 : decode b_P_dropMortgage 29 = .ok (.getfield 19, 3) := by decide +kernel
theorem d_P_dropMortgage_32 : decode b_P_dropMortgage 32 = .ok (.iload_n 1, 1) := by decide +kernel
theorem d_P_dropMortgage_33 : decode b_P_dropMortgage 33 = .ok (.iconst 1, 1) := by decide +kernel
theorem d_P_dropMortgage_34 : decode b_P_dropMortgage 34 = .ok (.isub, 1) := by decide +kernel
theorem d_P_dropMortgage_35 : decode b_P_dropMortgage 35 = .ok (.iload_n 2, 1) := by decide +kernel
theorem d_P_dropMortgage_36 : decode b_P_dropMortgage 36 = .ok (.invokestatic 51, 3) := by decide +kernel
theorem d_P_dropMortgage_39 : decode b_P_dropMortgage 39 = .ok (.aload_n 0, 1) := by decide +kernel
theorem d_P_dropMortgage_40 : decode b_P_dropMortgage 40 = .ok (.dup, 1) := by decide +kernel
theorem d_P_dropMortgage_41 : decode b_P_dropMortgage 41 = .ok (.getfield 45, 3) := by decide +kernel
theorem d_P_dropMortgage_44 : decode b_P_dropMortgage 44 = .ok (.iconst 1, 1) := by decide +kernel
theorem d_P_dropMortgage_45 : decode b_P_dropMortgage 45 = .ok (.isub, 1) := by decide +kernel
theorem d_P_dropMortgage_46 : decode b_P_dropMortgage 46 = .ok (.putfield 45, 3) := by decide +kernel
theorem d_P_dropMortgage_49 : decode b_P_dropMortgage 49 = .ok (.return_, 1) := by decide +kernel
theorem d_P_creditorsOf_0 : decode b_P_creditorsOf 0 = .ok (.iconst 0, 1) := by decide +kernel
theorem d_P_creditorsOf_1 : decode b_P_creditorsOf 1 = .ok (.istore_n 3, 1) := by decide +kernel
theorem d_P_creditorsOf_2 : decode b_P_creditorsOf 2 = .ok (.iload_n 1, 1) := by decide +kernel
theorem d_P_creditorsOf_3 : decode b_P_creditorsOf 3 = .ok (.istore 4, 2) := by decide +kernel
theorem d_P_creditorsOf_5 : decode b_P_creditorsOf 5 = .ok (.iload 4, 2) := by decide +kernel
theorem d_P_creditorsOf_7 : decode b_P_creditorsOf 7 = .ok (.iload_n 2, 1) := by decide +kernel
theorem d_P_creditorsOf_8 : decode b_P_creditorsOf 8 = .ok (.if_icmp .gt 23, 3) := by decide +kernel
theorem d_P_creditorsOf_11 : decode b_P_creditorsOf 11 = .ok (.iload_n 3, 1) := by decide +kernel
theorem d_P_creditorsOf_12 : decode b_P_creditorsOf 12 = .ok (.iconst 1, 1) := by decide +kernel
theorem d_P_creditorsOf_13 : decode b_P_creditorsOf 13 = .ok (.aload_n 0, 1) := by decide +kernel
theorem d_P_creditorsOf_14 : decode b_P_creditorsOf 14 = .ok (.getfield 15, 3) := by decide +kernel
theorem d_P_creditorsOf_17 : decode b_P_creditorsOf 17 = .ok (.iload 4, 2) := by decide +kernel
theorem d_P_creditorsOf_19 : decode b_P_creditorsOf 19 = .ok (.iconst 1, 1) := by decide +kernel
theorem d_P_creditorsOf_20 : decode b_P_creditorsOf 20 = .ok (.isub, 1) := by decide +kernel
theorem d_P_creditorsOf_21 : decode b_P_creditorsOf 21 = .ok (.iaload, 1) := by decide +kernel
theorem d_P_creditorsOf_22 : decode b_P_creditorsOf 22 = .ok (.ishl, 1) := by decide +kernel
theorem d_P_creditorsOf_23 : decode b_P_creditorsOf 23 = .ok (.ior, 1) := by decide +kernel
theorem d_P_creditorsOf_24 : decode b_P_creditorsOf 24 = .ok (.istore_n 3, 1) := by decide +kernel
theorem d_P_creditorsOf_25 : decode b_P_creditorsOf 25 = .ok (.iinc 4 1, 3) := by decide +kernel
theorem d_P_creditorsOf_28 : decode b_P_creditorsOf 28 = .ok (.goto (-23), 3) := by decide +kernel
theorem d_P_creditorsOf_31 : decode b_P_creditorsOf 31 = .ok (.iload_n 3, 1) := by decide +kernel
theorem d_P_creditorsOf_32 : decode b_P_creditorsOf 32 = .ok (.ireturn, 1) := by decide +kernel
theorem d_P_owedTo_0 : decode b_P_owedTo 0 = .ok (.lconst 0, 1) := by decide +kernel
theorem d_P_owedTo_1 : decode b_P_owedTo 1 = .ok (.lstore_n 2, 1) := by decide +kernel
theorem d_P_owedTo_2 : decode b_P_owedTo 2 = .ok (.iconst 0, 1) := by decide +kernel
theorem d_P_owedTo_3 : decode b_P_owedTo 3 = .ok (.istore 4, 2) := by decide +kernel
theorem d_P_owedTo_5 : decode b_P_owedTo 5 = .ok (.iload 4, 2) := by decide +kernel
theorem d_P_owedTo_7 : decode b_P_owedTo 7 = .ok (.aload_n 0, 1) := by decide +kernel
theorem d_P_owedTo_8 : decode b_P_owedTo 8 = .ok (.getfield 45, 3) := by decide +kernel
theorem d_P_owedTo_11 : decode b_P_owedTo 11 = .ok (.if_icmp .ge 31, 3) := by decide +kernel
theorem d_P_owedTo_14 : decode b_P_owedTo 14 = .ok (.aload_n 0, 1) := by decide +kernel
theorem d_P_owedTo_15 : decode b_P_owedTo 15 = .ok (.getfield 15, 3) := by decide +kernel
theorem d_P_owedTo_18 : decode b_P_owedTo 18 = .ok (.iload 4, 2) := by decide +kernel
theorem d_P_owedTo_20 : decode b_P_owedTo 20 = .ok (.iaload, 1) := by decide +kernel
theorem d_P_owedTo_21 : decode b_P_owedTo 21 = .ok (.iload_n 1, 1) := by decide +kernel
theorem d_P_owedTo_22 : decode b_P_owedTo 22 = .ok (.if_icmp .ne 14, 3) := by decide +kernel
theorem d_P_owedTo_25 : decode b_P_owedTo 25 = .ok (.lload_n 2, 1) := by decide +kernel
theorem d_P_owedTo_26 : decode b_P_owedTo 26 = .ok (.aload_n 0, 1) := by decide +kernel
theorem d_P_owedTo_27 : decode b_P_owedTo 27 = .ok (.getfield 19, 3) := by decide +kernel
theorem d_P_owedTo_30 : decode b_P_owedTo 30 = .ok (.iload 4, 2) := by decide +kernel
theorem d_P_owedTo_32 : decode b_P_owedTo 32 = .ok (.iaload, 1) := by decide +kernel
theorem d_P_owedTo_33 : decode b_P_owedTo 33 = .ok (.i2l, 1) := by decide +kernel
theorem d_P_owedTo_34 : decode b_P_owedTo 34 = .ok (.ladd, 1) := by decide +kernel
theorem d_P_owedTo_35 : decode b_P_owedTo 35 = .ok (.lstore_n 2, 1) := by decide +kernel
theorem d_P_owedTo_36 : decode b_P_owedTo 36 = .ok (.iinc 4 1, 3) := by decide +kernel
theorem d_P_owedTo_39 : decode b_P_owedTo 39 = .ok (.goto (-34), 3) := by decide +kernel
theorem d_P_owedTo_42 : decode b_P_owedTo 42 = .ok (.lload_n 2, 1) := by decide +kernel
theorem d_P_owedTo_43 : decode b_P_owedTo 43 = .ok (.lreturn, 1) := by decide +kernel
theorem d_P_hasSharesOf_0 : decode b_P_hasSharesOf 0 = .ok (.iconst 0, 1) := by decide +kernel
theorem d_P_hasSharesOf_1 : decode b_P_hasSharesOf 1 = .ok (.istore_n 2, 1) := by decide +kernel
theorem d_P_hasSharesOf_2 : decode b_P_hasSharesOf 2 = .ok (.iload_n 2, 1) := by decide +kernel
theorem d_P_hasSharesOf_3 : decode b_P_hasSharesOf 3 = .ok (.bipush 8, 2) := by decide +kernel
theorem d_P_hasSharesOf_5 : decode b_P_hasSharesOf 5 = .ok (.if_icmp .ge 27, 3) := by decide +kernel
theorem d_P_hasSharesOf_8 : decode b_P_hasSharesOf 8 = .ok (.aload_n 0, 1) := by decide +kernel
theorem d_P_hasSharesOf_9 : decode b_P_hasSharesOf 9 = .ok (.getfield 9, 3) := by decide +kernel
theorem d_P_hasSharesOf_12 : decode b_P_hasSharesOf 12 = .ok (.iload_n 2, 1) := by decide +kernel
theorem d_P_hasSharesOf_13 : decode b_P_hasSharesOf 13 = .ok (.laload, 1) := by decide +kernel
theorem d_P_hasSharesOf_14 : decode b_P_hasSharesOf 14 = .ok (.aload_n 1, 1) := by decide +kernel
theorem d_P_hasSharesOf_15 : decode b_P_hasSharesOf 15 = .ok (.getfield 9, 3) := by decide +kernel
theorem d_P_hasSharesOf_18 : decode b_P_hasSharesOf 18 = .ok (.iload_n 2, 1) := by decide +kernel
theorem d_P_hasSharesOf_19 : decode b_P_hasSharesOf 19 = .ok (.laload, 1) := by decide +kernel
theorem d_P_hasSharesOf_20 : decode b_P_hasSharesOf 20 = .ok (.lcmp, 1) := by decide +kernel
theorem d_P_hasSharesOf_21 : decode b_P_hasSharesOf 21 = .ok (.ifCond .eq 5, 3) := by decide +kernel
theorem d_P_hasSharesOf_24 : decode b_P_hasSharesOf 24 = .ok (.iconst 0, 1) := by decide +kernel
theorem d_P_hasSharesOf_25 : decode b_P_hasSharesOf 25 = .ok (.ireturn, 1) := by decide +kernel
theorem d_P_hasSharesOf_26 : decode b_P_hasSharesOf 26 = .ok (.iinc 2 1, 3) := by decide +kernel
theorem d_P_hasSharesOf_29 : decode b_P_hasSharesOf 29 = .ok (.goto (-27), 3) := by decide +kernel
theorem d_P_hasSharesOf_32 : decode b_P_hasSharesOf 32 = .ok (.iconst 1, 1) := by decide +kernel
theorem d_P_hasSharesOf_33 : decode b_P_hasSharesOf 33 = .ok (.ireturn, 1) := by decide +kernel
theorem d_P_hasMortgagesOf_0 : decode b_P_hasMortgagesOf 0 = .ok (.aload_n 0, 1) := by decide +kernel
theorem d_P_hasMortgagesOf_1 : decode b_P_hasMortgagesOf 1 = .ok (.getfield 45, 3) := by decide +kernel
theorem d_P_hasMortgagesOf_4 : decode b_P_hasMortgagesOf 4 = .ok (.aload_n 1, 1) := by decide +kernel
theorem d_P_hasMortgagesOf_5 : decode b_P_hasMortgagesOf 5 = .ok (.getfield 45, 3) := by decide +kernel
theorem d_P_hasMortgagesOf_8 : decode b_P_hasMortgagesOf 8 = .ok (.if_icmp .eq 5, 3) := by decide +kernel
theorem d_P_hasMortgagesOf_11 : decode b_P_hasMortgagesOf 11 = .ok (.iconst 0, 1) := by decide +kernel
theorem d_P_hasMortgagesOf_12 : decode b_P_hasMortgagesOf 12 = .ok (.ireturn, 1) := by decide +kernel
theorem d_P_hasMortgagesOf_13 : decode b_P_hasMortgagesOf 13 = .ok (.iconst 0, 1) := by decide +kernel
theorem d_P_hasMortgagesOf_14 : decode b_P_hasMortgagesOf 14 = .ok (.istore_n 2, 1) := by decide +kernel
theorem d_P_hasMortgagesOf_15 : decode b_P_hasMortgagesOf 15 = .ok (.iload_n 2, 1) := by decide +kernel
theorem d_P_hasMortgagesOf_16 : decode b_P_hasMortgagesOf 16 = .ok (.aload_n 0, 1) := by decide +kernel
theorem d_P_hasMortgagesOf_17 : decode b_P_hasMortgagesOf 17 = .ok (.getfield 45, 3) := by decide +kernel
theorem d_P_hasMortgagesOf_20 : decode b_P_hasMortgagesOf 20 = .ok (.if_icmp .ge 41, 3) := by decide +kernel
theorem d_P_hasMortgagesOf_23 : decode b_P_hasMortgagesOf 23 = .ok (.aload_n 0, 1) := by decide +kernel
theorem d_P_hasMortgagesOf_24 : decode b_P_hasMortgagesOf 24 = .ok (.getfield 15, 3) := by decide +kernel
theorem d_P_hasMortgagesOf_27 : decode b_P_hasMortgagesOf 27 = .ok (.iload_n 2, 1) := by decide +kernel
theorem d_P_hasMortgagesOf_28 : decode b_P_hasMortgagesOf 28 = .ok (.iaload, 1) := by decide +kernel
theorem d_P_hasMortgagesOf_29 : decode b_P_hasMortgagesOf 29 = .ok (.aload_n 1, 1) := by decide +kernel
theorem d_P_hasMortgagesOf_30 : decode b_P_hasMortgagesOf 30 = .ok (.getfield 15, 3) := by decide +kernel
theorem d_P_hasMortgagesOf_33 : decode b_P_hasMortgagesOf 33 = .ok (.iload_n 2, 1) := by decide +kernel
theorem d_P_hasMortgagesOf_34 : decode b_P_hasMortgagesOf 34 = .ok (.iaload, 1) := by decide +kernel
theorem d_P_hasMortgagesOf_35 : decode b_P_hasMortgagesOf 35 = .ok (.if_icmp .ne 18, 3) := by decide +kernel
theorem d_P_hasMortgagesOf_38 : decode b_P_hasMortgagesOf 38 = .ok (.aload_n 0, 1) := by decide +kernel
theorem d_P_hasMortgagesOf_39 : decode b_P_hasMortgagesOf 39 = .ok (.getfield 19, 3) := by decide +kernel
theorem d_P_hasMortgagesOf_42 : decode b_P_hasMortgagesOf 42 = .ok (.iload_n 2, 1) := by decide +kernel
theorem d_P_hasMortgagesOf_43 : decode b_P_hasMortgagesOf 43 = .ok (.iaload, 1) := by decide +kernel
theorem d_P_hasMortgagesOf_44 : decode b_P_hasMortgagesOf 44 = .ok (.aload_n 1, 1) := by decide +kernel
theorem d_P_hasMortgagesOf_45 : decode b_P_hasMortgagesOf 45 = .ok (.getfield 19, 3) := by decide +kernel
theorem d_P_hasMortgagesOf_48 : decode b_P_hasMortgagesOf 48 = .ok (.iload_n 2, 1) := by decide +kernel
theorem d_P_hasMortgagesOf_49 : decode b_P_hasMortgagesOf 49 = .ok (.iaload, 1) := by decide +kernel
theorem d_P_hasMortgagesOf_50 : decode b_P_hasMortgagesOf 50 = .ok (.if_icmp .eq 5, 3) := by decide +kernel
theorem d_P_hasMortgagesOf_53 : decode b_P_hasMortgagesOf 53 = .ok (.iconst 0, 1) := by decide +kernel
theorem d_P_hasMortgagesOf_54 : decode b_P_hasMortgagesOf 54 = .ok (.ireturn, 1) := by decide +kernel
theorem d_P_hasMortgagesOf_55 : decode b_P_hasMortgagesOf 55 = .ok (.iinc 2 1, 3) := by decide +kernel
theorem d_P_hasMortgagesOf_58 : decode b_P_hasMortgagesOf 58 = .ok (.goto (-43), 3) := by decide +kernel
theorem d_P_hasMortgagesOf_61 : decode b_P_hasMortgagesOf 61 = .ok (.iconst 1, 1) := by decide +kernel
theorem d_P_hasMortgagesOf_62 : decode b_P_hasMortgagesOf 62 = .ok (.ireturn, 1) := by decide +kernel
theorem d_Fo_init_0 : decode b_Fo_init 0 = .ok (.aload_n 0, 1) := by decide +kernel
theorem d_Fo_init_1 : decode b_Fo_init 1 = .ok (.invokespecial 3, 3) := by decide +kernel
theorem d_Fo_init_4 : decode b_Fo_init 4 = .ok (.aload_n 0, 1) := by decide +kernel
theorem d_Fo_init_5 : decode b_Fo_init 5 = .ok (.iload_n 1, 1) := by decide +kernel
theorem d_Fo_init_6 : decode b_Fo_init 6 = .ok (.putfield 9, 3) := by decide +kernel
theorem d_Fo_init_9 : decode b_Fo_init 9 = .ok (.aload_n 0, 1) := by decide +kernel
theorem d_Fo_init_10 : decode b_Fo_init 10 = .ok (.iload_n 2, 1) := by decide +kernel
theorem d_Fo_init_11 : decode b_Fo_init 11 = .ok (.putfield 15, 3) := by decide +kernel
theorem d_Fo_init_14 : decode b_Fo_init 14 = .ok (.return_, 1) := by decide +kernel
theorem d_Fo_hindrance_0 : decode b_Fo_hindrance 0 = .ok (.iconst 0, 1) := by decide +kernel
theorem d_Fo_hindrance_1 : decode b_Fo_hindrance 1 = .ok (.ireturn, 1) := by decide +kernel
theorem d_Fo_carryOut_0 : decode b_Fo_carryOut 0 = .ok (.aload_n 1, 1) := by decide +kernel
theorem d_Fo_carryOut_1 : decode b_Fo_carryOut 1 = .ok (.iconst 2, 1) := by decide +kernel
theorem d_Fo_carryOut_2 : decode b_Fo_carryOut 2 = .ok (.aload_n 0, 1) := by decide +kernel
theorem d_Fo_carryOut_3 : decode b_Fo_carryOut 3 = .ok (.getfield 18, 3) := by decide +kernel
theorem d_Fo_carryOut_6 : decode b_Fo_carryOut 6 = .ok (.imul, 1) := by decide +kernel
theorem d_Fo_carryOut_7 : decode b_Fo_carryOut 7 = .ok (.aaload, 1) := by decide +kernel
theorem d_Fo_carryOut_8 : decode b_Fo_carryOut 8 = .ok (.aload_n 0, 1) := by decide +kernel
theorem d_Fo_carryOut_9 : decode b_Fo_carryOut 9 = .ok (.getfield 15, 3) := by decide +kernel
theorem d_Fo_carryOut_12 : decode b_Fo_carryOut 12 = .ok (.aload_n 0, 1) := by decide +kernel
theorem d_Fo_carryOut_13 : decode b_Fo_carryOut 13 = .ok (.getfield 9, 3) := by decide +kernel
theorem d_Fo_carryOut_16 : decode b_Fo_carryOut 16 = .ok (.i2l, 1) := by decide +kernel
theorem d_Fo_carryOut_17 : decode b_Fo_carryOut 17 = .ok (.invokevirtual 21, 3) := by decide +kernel
theorem d_Fo_carryOut_20 : decode b_Fo_carryOut 20 = .ok (.return_, 1) := by decide +kernel
theorem d_Se_init_0 : decode b_Se_init 0 = .ok (.aload_n 0, 1) := by decide +kernel
theorem d_Se_init_1 : decode b_Se_init 1 = .ok (.invokespecial 3, 3) := by decide +kernel
theorem d_Se_init_4 : decode b_Se_init 4 = .ok (.aload_n 0, 1) := by decide +kernel
theorem d_Se_init_5 : decode b_Se_init 5 = .ok (.iload_n 1, 1) := by decide +kernel
theorem d_Se_init_6 : decode b_Se_init 6 = .ok (.putfield 9, 3) := by decide +kernel
theorem d_Se_init_9 : decode b_Se_init 9 = .ok (.aload_n 0, 1) := by decide +kernel
theorem d_Se_init_10 : decode b_Se_init 10 = .ok (.iload_n 2, 1) := by decide +kernel
theorem d_Se_init_11 : decode b_Se_init 11 = .ok (.putfield 15, 3) := by decide +kernel
theorem d_Se_init_14 : decode b_Se_init 14 = .ok (.aload_n 0, 1) := by decide +kernel
theorem d_Se_init_15 : decode b_Se_init 15 = .ok (.iload_n 3, 1) := by decide +kernel
theorem d_Se_init_16 : decode b_Se_init 16 = .ok (.putfield 18, 3) := by decide +kernel
theorem d_Se_init_19 : decode b_Se_init 19 = .ok (.aload_n 0, 1) := by decide +kernel
theorem d_Se_init_20 : decode b_Se_init 20 = .ok (.lload 4, 2) := by decide +kernel
theorem d_Se_init_22 : decode b_Se_init 22 = .ok (.putfield 21, 3) := by decide +kernel
theorem d_Se_init_25 : decode b_Se_init 25 = .ok (.return_, 1) := by decide +kernel
theorem d_Se_hindrance_0 : decode b_Se_hindrance 0 = .ok (.aload_n 1, 1) := by decide +kernel
theorem d_Se_hindrance_1 : decode b_Se_hindrance 1 = .ok (.aload_n 0, 1) := by decide +kernel
theorem d_Se_hindrance_2 : decode b_Se_hindrance 2 = .ok (.getfield 9, 3) := by decide +kernel
theorem d_Se_hindrance_5 : decode b_Se_hindrance 5 = .ok (.aaload, 1) := by decide +kernel
theorem d_Se_hindrance_6 : decode b_Se_hindrance 6 = .ok (.astore_n 2, 1) := by decide +kernel
theorem d_Se_hindrance_7 : decode b_Se_hindrance 7 = .ok (.aload_n 2, 1) := by decide +kernel
theorem d_Se_hindrance_8 : decode b_Se_hindrance 8 = .ok (.invokevirtual 25, 3) := by decide +kernel
theorem d_Se_hindrance_11 : decode b_Se_hindrance 11 = .ok (.istore_n 3, 1) := by decide +kernel
theorem d_Se_hindrance_12 : decode b_Se_hindrance 12 = .ok (.iload_n 3, 1) := by decide +kernel
theorem d_Se_hindrance_13 : decode b_Se_hindrance 13 = .ok (.ifCond .eq 5, 3) := by decide +kernel
theorem d_Se_hindrance_16 : decode b_Se_hindrance 16 = .ok (.iload_n 3, 1) := by decide +kernel
theorem d_Se_hindrance_17 : decode b_Se_hindrance 17 = .ok (.ireturn, 1) := by decide +kernel
theorem d_Se_hindrance_18 : decode b_Se_hindrance 18 = .ok (.aload_n 2, 1) := by decide +kernel
theorem d_Se_hindrance_19 : decode b_Se_hindrance 19 = .ok (.getfield 31, 3) := by decide +kernel
theorem d_Se_hindrance_22 : decode b_Se_hindrance 22 = .ok (.aload_n 0, 1) := by decide +kernel
theorem d_Se_hindrance_23 : decode b_Se_hindrance 23 = .ok (.getfield 15, 3) := by decide +kernel
theorem d_Se_hindrance_26 : decode b_Se_hindrance 26 = .ok (.laload, 1) := by decide +kernel
theorem d_Se_hindrance_27 : decode b_Se_hindrance 27 = .ok (.aload_n 0, 1) := by decide +kernel
theorem d_Se_hindrance_28 : decode b_Se_hindrance 28 = .ok (.getfield 21, 3) := by decide +kernel
theorem d_Se_hindrance_31 : decode b_Se_hindrance 31 = .ok (.invokestatic 35, 3) := by decide +kernel
theorem d_Se_hindrance_34 : decode b_Se_hindrance 34 = .ok (.ifCond .eq 5, 3) := by decide +kernel
theorem d_Se_hindrance_37 : decode b_Se_hindrance 37 = .ok (.iconst 3, 1) := by decide +kernel
theorem d_Se_hindrance_38 : decode b_Se_hindrance 38 = .ok (.ireturn, 1) := by decide +kernel
theorem d_Se_hindrance_39 : decode b_Se_hindrance 39 = .ok (.aload_n 2, 1) := by decide +kernel
theorem d_Se_hindrance_40 : decode b_Se_hindrance 40 = .ok (.getfield 31, 3) := by decide +kernel
theorem d_Se_hindrance_43 : decode b_Se_hindrance 43 = .ok (.aload_n 0, 1) := by decide +kernel
theorem d_Se_hindrance_44 : decode b_Se_hindrance 44 = .ok (.getfield 15, 3) := by decide +kernel
theorem d_Se_hindrance_47 : decode b_Se_hindrance 47 = .ok (.laload, 1) := by decide +kernel
theorem d_Se_hindrance_48 : decode b_Se_hindrance 48 = .ok (.aload_n 0, 1) := by decide +kernel
theorem d_Se_hindrance_49 : decode b_Se_hindrance 49 = .ok (.getfield 21, 3) := by decide +kernel
theorem d_Se_hindrance_52 : decode b_Se_hindrance 52 = .ok (.invokestatic 39, 3) := by decide +kernel
theorem d_Se_hindrance_55 : decode b_Se_hindrance 55 = .ok (.ldc2_w 43, 3) := by decide +kernel
theorem d_Se_hindrance_58 : decode b_Se_hindrance 58 = .ok (.lcmp, 1) := by decide +kernel
theorem d_Se_hindrance_59 : decode b_Se_hindrance 59 = .ok (.ifCond .eq 26, 3) := by decide +kernel
theorem d_Se_hindrance_62 : decode b_Se_hindrance 62 = .ok (.aload_n 2, 1) := by decide +kernel
theorem d_Se_hindrance_63 : decode b_Se_hindrance 63 = .ok (.getfield 31, 3) := by decide +kernel
theorem d_Se_hindrance_66 : decode b_Se_hindrance 66 = .ok (.aload_n 0, 1) := by decide +kernel
theorem d_Se_hindrance_67 : decode b_Se_hindrance 67 = .ok (.getfield 18, 3) := by decide +kernel
theorem d_Se_hindrance_70 : decode b_Se_hindrance 70 = .ok (.laload, 1) := by decide +kernel
theorem d_Se_hindrance_71 : decode b_Se_hindrance 71 = .ok (.aload_n 0, 1) := by decide +kernel
theorem d_Se_hindrance_72 : decode b_Se_hindrance 72 = .ok (.getfield 21, 3) := by decide +kernel
theorem d_Se_hindrance_75 : decode b_Se_hindrance 75 = .ok (.invokestatic 45, 3) := by decide +kernel
theorem d_Se_hindrance_78 : decode b_Se_hindrance 78 = .ok (.ldc2_w 43, 3) := by decide +kernel
theorem d_Se_hindrance_81 : decode b_Se_hindrance 81 = .ok (.lcmp, 1) := by decide +kernel
theorem d_Se_hindrance_82 : decode b_Se_hindrance 82 = .ok (.ifCond .ne 7, 3) := by decide +kernel
theorem d_Se_hindrance_85 : decode b_Se_hindrance 85 = .ok (.iconst 1, 1) := by decide +kernel
theorem d_Se_hindrance_86 : decode b_Se_hindrance 86 = .ok (.goto 4, 3) := by decide +kernel
theorem d_Se_hindrance_89 : decode b_Se_hindrance 89 = .ok (.iconst 0, 1) := by decide +kernel
theorem d_Se_hindrance_90 : decode b_Se_hindrance 90 = .ok (.istore 4, 2) := by decide +kernel
theorem d_Se_hindrance_92 : decode b_Se_hindrance 92 = .ok (.iload 4, 2) := by decide +kernel
theorem d_Se_hindrance_94 : decode b_Se_hindrance 94 = .ok (.ifCond .eq 7, 3) := by decide +kernel
theorem d_Se_hindrance_97 : decode b_Se_hindrance 97 = .ok (.iconst 4, 1) := by decide +kernel
theorem d_Se_hindrance_98 : decode b_Se_hindrance 98 = .ok (.goto 4, 3) := by decide +kernel
theorem d_Se_hindrance_101 : decode b_Se_hindrance 101 = .ok (.iconst 0, 1) := by decide +kernel
theorem d_Se_hindrance_102 : decode b_Se_hindrance 102 = .ok (.ireturn, 1) := by decide +kernel
theorem d_Se_carryOut_0 : decode b_Se_carryOut 0 = .ok (.aload_n 1, 1) := by decide +kernel
theorem d_Se_carryOut_1 : decode b_Se_carryOut 1 = .ok (.aload_n 0, 1) := by decide +kernel
theorem d_Se_carryOut_2 : decode b_Se_carryOut 2 = .ok (.getfield 9, 3) := by decide +kernel
theorem d_Se_carryOut_5 : decode b_Se_carryOut 5 = .ok (.aaload, 1) := by decide +kernel
theorem d_Se_carryOut_6 : decode b_Se_carryOut 6 = .ok (.getfield 31, 3) := by decide +kernel
theorem d_Se_carryOut_9 : decode b_Se_carryOut 9 = .ok (.astore_n 2, 1) := by decide +kernel
theorem d_Se_carryOut_10 : decode b_Se_carryOut 10 = .ok (.aload_n 2, 1) := by decide +kernel
theorem d_Se_carryOut_11 : decode b_Se_carryOut 11 = .ok (.aload_n 0, 1) := by decide +kernel
theorem d_Se_carryOut_12 : decode b_Se_carryOut 12 = .ok (.getfield 15, 3) := by decide +kernel
theorem d_Se_carryOut_15 : decode b_Se_carryOut 15 = .ok (.aload_n 2, 1) := by decide +kernel
theorem d_Se_carryOut_16 : decode b_Se_carryOut 16 = .ok (.aload_n 0, 1) := by decide +kernel
theorem d_Se_carryOut_17 : decode b_Se_carryOut 17 = .ok (.getfield 15, 3) := by decide +kernel
theorem d_Se_carryOut_20 : decode b_Se_carryOut 20 = .ok (.laload, 1) := by decide +kernel
theorem d_Se_carryOut_21 : decode b_Se_carryOut 21 = .ok (.aload_n 0, 1) := by decide +kernel
theorem d_Se_carryOut_22 : decode b_Se_carryOut 22 = .ok (.getfield 21, 3) := by decide +kernel
theorem d_Se_carryOut_25 : decode b_Se_carryOut 25 = .ok (.invokestatic 39, 3) := by decide +kernel
theorem d_Se_carryOut_28 : decode b_Se_carryOut 28 = .ok (.lastore, 1) := by decide +kernel
theorem d_Se_carryOut_29 : decode b_Se_carryOut 29 = .ok (.aload_n 2, 1) := by decide +kernel
theorem d_Se_carryOut_30 : decode b_Se_carryOut 30 = .ok (.aload_n 0, 1) := by decide +kernel
theorem d_Se_carryOut_31 : decode b_Se_carryOut 31 = .ok (.getfield 18, 3) := by decide +kernel
theorem d_Se_carryOut_34 : decode b_Se_carryOut 34 = .ok (.aload_n 2, 1) := by decide +kernel
theorem d_Se_carryOut_35 : decode b_Se_carryOut 35 = .ok (.aload_n 0, 1) := by decide +kernel
theorem d_Se_carryOut_36 : decode b_Se_carryOut 36 = .ok (.getfield 18, 3) := by decide +kernel
theorem d_Se_carryOut_39 : decode b_Se_carryOut 39 = .ok (.laload, 1) := by decide +kernel
theorem d_Se_carryOut_40 : decode b_Se_carryOut 40 = .ok (.aload_n 0, 1) := by decide +kernel
theorem d_Se_carryOut_41 : decode b_Se_carryOut 41 = .ok (.getfield 21, 3) := by decide +kernel
theorem d_Se_carryOut_44 : decode b_Se_carryOut 44 = .ok (.invokestatic 45, 3) := by decide +kernel
theorem d_Se_carryOut_47 : decode b_Se_carryOut 47 = .ok (.lastore, 1) := by decide +kernel
theorem d_Se_carryOut_48 : decode b_Se_carryOut 48 = .ok (.return_, 1) := by decide +kernel
theorem d_Pl_init_0 : decode b_Pl_init 0 = .ok (.aload_n 0, 1) := by decide +kernel
theorem d_Pl_init_1 : decode b_Pl_init 1 = .ok (.invokespecial 3, 3) := by decide +kernel
theorem d_Pl_init_4 : decode b_Pl_init 4 = .ok (.aload_n 0, 1) := by decide +kernel
theorem d_Pl_init_5 : decode b_Pl_init 5 = .ok (.iload_n 1, 1) := by decide +kernel
theorem d_Pl_init_6 : decode b_Pl_init 6 = .ok (.putfield 9, 3) := by decide +kernel
theorem d_Pl_init_9 : decode b_Pl_init 9 = .ok (.aload_n 0, 1) := by decide +kernel
theorem d_Pl_init_10 : decode b_Pl_init 10 = .ok (.iload_n 2, 1) := by decide +kernel
theorem d_Pl_init_11 : decode b_Pl_init 11 = .ok (.putfield 15, 3) := by decide +kernel
theorem d_Pl_init_14 : decode b_Pl_init 14 = .ok (.aload_n 0, 1) := by decide +kernel
theorem d_Pl_init_15 : decode b_Pl_init 15 = .ok (.iload_n 3, 1) := by decide +kernel
theorem d_Pl_init_16 : decode b_Pl_init 16 = .ok (.putfield 18, 3) := by decide +kernel
theorem d_Pl_init_19 : decode b_Pl_init 19 = .ok (.return_, 1) := by decide +kernel
theorem d_Pl_hindrance_0 : decode b_Pl_hindrance 0 = .ok (.aload_n 1, 1) := by decide +kernel
theorem d_Pl_hindrance_1 : decode b_Pl_hindrance 1 = .ok (.aload_n 0, 1) := by decide +kernel
theorem d_Pl_hindrance_2 : decode b_Pl_hindrance 2 = .ok (.getfield 9, 3) := by decide +kernel
theorem d_Pl_hindrance_5 : decode b_Pl_hindrance 5 = .ok (.aaload, 1) := by decide +kernel
theorem d_Pl_hindrance_6 : decode b_Pl_hindrance 6 = .ok (.astore_n 2, 1) := by decide +kernel
theorem d_Pl_hindrance_7 : decode b_Pl_hindrance 7 = .ok (.aload_n 2, 1) := by decide +kernel
theorem d_Pl_hindrance_8 : decode b_Pl_hindrance 8 = .ok (.invokevirtual 21, 3) := by decide +kernel
theorem d_Pl_hindrance_11 : decode b_Pl_hindrance 11 = .ok (.istore_n 3, 1) := by decide +kernel
theorem d_Pl_hindrance_12 : decode b_Pl_hindrance 12 = .ok (.iload_n 3, 1) := by decide +kernel
theorem d_Pl_hindrance_13 : decode b_Pl_hindrance 13 = .ok (.ifCond .eq 5, 3) := by decide +kernel
theorem d_Pl_hindrance_16 : decode b_Pl_hindrance 16 = .ok (.iload_n 3, 1) := by decide +kernel
theorem d_Pl_hindrance_17 : decode b_Pl_hindrance 17 = .ok (.ireturn, 1) := by decide +kernel
theorem d_Pl_hindrance_18 : decode b_Pl_hindrance 18 = .ok (.aload_n 2, 1) := by decide +kernel
theorem d_Pl_hindrance_19 : decode b_Pl_hindrance 19 = .ok (.getfield 27, 3) := by decide +kernel
theorem d_Pl_hindrance_22 : decode b_Pl_hindrance 22 = .ok (.iconst 4, 1) := by decide +kernel
theorem d_Pl_hindrance_23 : decode b_Pl_hindrance 23 = .ok (.if_icmp .lt 7, 3) := by decide +kernel
theorem d_Pl_hindrance_26 : decode b_Pl_hindrance 26 = .ok (.iconst 5, 1) := by decide +kernel
theorem d_Pl_hindrance_27 : decode b_Pl_hindrance 27 = .ok (.goto 4, 3) := by decide +kernel
theorem d_Pl_hindrance_30 : decode b_Pl_hindrance 30 = .ok (.iconst 0, 1) := by decide +kernel
theorem d_Pl_hindrance_31 : decode b_Pl_hindrance 31 = .ok (.ireturn, 1) := by decide +kernel
theorem d_Pl_carryOut_0 : decode b_Pl_carryOut 0 = .ok (.aload_n 1, 1) := by decide +kernel
theorem d_Pl_carryOut_1 : decode b_Pl_carryOut 1 = .ok (.aload_n 0, 1) := by decide +kernel
theorem d_Pl_carryOut_2 : decode b_Pl_carryOut 2 = .ok (.getfield 9, 3) := by decide +kernel
theorem d_Pl_carryOut_5 : decode b_Pl_carryOut 5 = .ok (.aaload, 1) := by decide +kernel
theorem d_Pl_carryOut_6 : decode b_Pl_carryOut 6 = .ok (.astore_n 2, 1) := by decide +kernel
theorem d_Pl_carryOut_7 : decode b_Pl_carryOut 7 = .ok (.aload_n 2, 1) := by decide +kernel
theorem d_Pl_carryOut_8 : decode b_Pl_carryOut 8 = .ok (.aload_n 2, 1) := by decide +kernel
theorem d_Pl_carryOut_9 : decode b_Pl_carryOut 9 = .ok (.getfield 27, 3) := by decide +kernel
theorem d_Pl_carryOut_12 : decode b_Pl_carryOut 12 = .ok (.iconst 1, 1) := by decide +kernel
theorem d_Pl_carryOut_13 : decode b_Pl_carryOut 13 = .ok (.iadd, 1) := by decide +kernel
theorem d_Pl_carryOut_14 : decode b_Pl_carryOut 14 = .ok (.aload_n 0, 1) := by decide +kernel
theorem d_Pl_carryOut_15 : decode b_Pl_carryOut 15 = .ok (.getfield 15, 3) := by decide +kernel
theorem d_Pl_carryOut_18 : decode b_Pl_carryOut 18 = .ok (.aload_n 0, 1) := by decide +kernel
theorem d_Pl_carryOut_19 : decode b_Pl_carryOut 19 = .ok (.getfield 18, 3) := by decide +kernel
theorem d_Pl_carryOut_22 : decode b_Pl_carryOut 22 = .ok (.invokevirtual 30, 3) := by decide +kernel
theorem d_Pl_carryOut_25 : decode b_Pl_carryOut 25 = .ok (.return_, 1) := by decide +kernel
theorem d_Re_init_0 : decode b_Re_init 0 = .ok (.aload_n 0, 1) := by decide +kernel
theorem d_Re_init_1 : decode b_Re_init 1 = .ok (.invokespecial 3, 3) := by decide +kernel
theorem d_Re_init_4 : decode b_Re_init 4 = .ok (.aload_n 0, 1) := by decide +kernel
theorem d_Re_init_5 : decode b_Re_init 5 = .ok (.iload_n 1, 1) := by decide +kernel
theorem d_Re_init_6 : decode b_Re_init 6 = .ok (.putfield 9, 3) := by decide +kernel
theorem d_Re_init_9 : decode b_Re_init 9 = .ok (.aload_n 0, 1) := by decide +kernel
theorem d_Re_init_10 : decode b_Re_init 10 = .ok (.iload_n 2, 1) := by decide +kernel
theorem d_Re_init_11 : decode b_Re_init 11 = .ok (.putfield 15, 3) := by decide +kernel
theorem d_Re_init_14 : decode b_Re_init 14 = .ok (.aload_n 0, 1) := by decide +kernel
theorem d_Re_init_15 : decode b_Re_init 15 = .ok (.iload_n 3, 1) := by decide +kernel
theorem d_Re_init_16 : decode b_Re_init 16 = .ok (.putfield 18, 3) := by decide +kernel
theorem d_Re_init_19 : decode b_Re_init 19 = .ok (.aload_n 0, 1) := by decide +kernel
theorem d_Re_init_20 : decode b_Re_init 20 = .ok (.iload 4, 2) := by decide +kernel
theorem d_Re_init_22 : decode b_Re_init 22 = .ok (.putfield 21, 3) := by decide +kernel
theorem d_Re_init_25 : decode b_Re_init 25 = .ok (.return_, 1) := by decide +kernel
theorem d_Re_hindrance_0 : decode b_Re_hindrance 0 = .ok (.aload_n 1, 1) := by decide +kernel
theorem d_Re_hindrance_1 : decode b_Re_hindrance 1 = .ok (.aload_n 0, 1) := by decide +kernel
theorem d_Re_hindrance_2 : decode b_Re_hindrance 2 = .ok (.getfield 9, 3) := by decide +kernel
theorem d_Re_hindrance_5 : decode b_Re_hindrance 5 = .ok (.aaload, 1) := by decide +kernel
theorem d_Re_hindrance_6 : decode b_Re_hindrance 6 = .ok (.astore_n 2, 1) := by decide +kernel
theorem d_Re_hindrance_7 : decode b_Re_hindrance 7 = .ok (.aload_n 2, 1) := by decide +kernel
theorem d_Re_hindrance_8 : decode b_Re_hindrance 8 = .ok (.invokevirtual 24, 3) := by decide +kernel
theorem d_Re_hindrance_11 : decode b_Re_hindrance 11 = .ok (.istore_n 3, 1) := by decide +kernel
theorem d_Re_hindrance_12 : decode b_Re_hindrance 12 = .ok (.iload_n 3, 1) := by decide +kernel
theorem d_Re_hindrance_13 : decode b_Re_hindrance 13 = .ok (.ifCond .eq 5, 3) := by decide +kernel
theorem d_Re_hindrance_16 : decode b_Re_hindrance 16 = .ok (.iload_n 3, 1) := by decide +kernel
theorem d_Re_hindrance_17 : decode b_Re_hindrance 17 = .ok (.ireturn, 1) := by decide +kernel
theorem d_Re_hindrance_18 : decode b_Re_hindrance 18 = .ok (.aload_n 0, 1) := by decide +kernel
theorem d_Re_hindrance_19 : decode b_Re_hindrance 19 = .ok (.getfield 15, 3) := by decide +kernel
theorem d_Re_hindrance_22 : decode b_Re_hindrance 22 = .ok (.aload_n 0, 1) := by decide +kernel
theorem d_Re_hindrance_23 : decode b_Re_hindrance 23 = .ok (.getfield 18, 3) := by decide +kernel
theorem d_Re_hindrance_26 : decode b_Re_hindrance 26 = .ok (.invokestatic 30, 3) := by decide +kernel
theorem d_Re_hindrance_29 : decode b_Re_hindrance 29 = .ok (.aload_n 2, 1) := by decide +kernel
theorem d_Re_hindrance_30 : decode b_Re_hindrance 30 = .ok (.getfield 36, 3) := by decide +kernel
theorem d_Re_hindrance_33 : decode b_Re_hindrance 33 = .ok (.if_icmp .le 6, 3) := by decide +kernel
theorem d_Re_hindrance_36 : decode b_Re_hindrance 36 = .ok (.bipush 6, 2) := by decide +kernel
theorem d_Re_hindrance_38 : decode b_Re_hindrance 38 = .ok (.ireturn, 1) := by decide +kernel
theorem d_Re_hindrance_39 : decode b_Re_hindrance 39 = .ok (.aload_n 0, 1) := by decide +kernel
theorem d_Re_hindrance_40 : decode b_Re_hindrance 40 = .ok (.aload_n 2, 1) := by decide +kernel
theorem d_Re_hindrance_41 : decode b_Re_hindrance 41 = .ok (.invokevirtual 39, 3) := by decide +kernel
theorem d_Re_hindrance_44 : decode b_Re_hindrance 44 = .ok (.aload_n 0, 1) := by decide +kernel
theorem d_Re_hindrance_45 : decode b_Re_hindrance 45 = .ok (.getfield 21, 3) := by decide +kernel
theorem d_Re_hindrance_48 : decode b_Re_hindrance 48 = .ok (.iconst (-1), 1) := by decide +kernel
theorem d_Re_hindrance_49 : decode b_Re_hindrance 49 = .ok (.ixor, 1) := by decide +kernel
theorem d_Re_hindrance_50 : decode b_Re_hindrance 50 = .ok (.iand, 1) := by decide +kernel
theorem d_Re_hindrance_51 : decode b_Re_hindrance 51 = .ok (.ifCond .eq 8, 3) := by decide +kernel
theorem d_Re_hindrance_54 : decode b_Re_hindrance 54 = .ok (.bipush 7, 2) := by decide +kernel
theorem d_Re_hindrance_56 : decode b_Re_hindrance 56 = .ok (.goto 4, 3) := by decide +kernel
theorem d_Re_hindrance_59 : decode b_Re_hindrance 59 = .ok (.iconst 0, 1) := by decide +kernel
theorem d_Re_hindrance_60 : decode b_Re_hindrance 60 = .ok (.ireturn, 1) := by decide +kernel
theorem d_Re_consentsNeeded_0 : decode b_Re_consentsNeeded 0 = .ok (.aload_n 1, 1) := by decide +kernel
theorem d_Re_consentsNeeded_1 : decode b_Re_consentsNeeded 1 = .ok (.aload_n 0, 1) := by decide +kernel
theorem d_Re_consentsNeeded_2 : decode b_Re_consentsNeeded 2 = .ok (.getfield 15, 3) := by decide +kernel
theorem d_Re_consentsNeeded_5 : decode b_Re_consentsNeeded 5 = .ok (.aload_n 0, 1) := by decide +kernel
theorem d_Re_consentsNeeded_6 : decode b_Re_consentsNeeded 6 = .ok (.getfield 15, 3) := by decide +kernel
theorem d_Re_consentsNeeded_9 : decode b_Re_consentsNeeded 9 = .ok (.invokevirtual 43, 3) := by decide +kernel
theorem d_Re_consentsNeeded_12 : decode b_Re_consentsNeeded 12 = .ok (.istore_n 2, 1) := by decide +kernel
theorem d_Re_consentsNeeded_13 : decode b_Re_consentsNeeded 13 = .ok (.aload_n 0, 1) := by decide +kernel
theorem d_Re_consentsNeeded_14 : decode b_Re_consentsNeeded 14 = .ok (.getfield 15, 3) := by decide +kernel
theorem d_Re_consentsNeeded_17 : decode b_Re_consentsNeeded 17 = .ok (.aload_n 0, 1) := by decide +kernel
theorem d_Re_consentsNeeded_18 : decode b_Re_consentsNeeded 18 = .ok (.getfield 18, 3) := by decide +kernel
theorem d_Re_consentsNeeded_21 : decode b_Re_consentsNeeded 21 = .ok (.if_icmp .ge 22, 3) := by decide +kernel
theorem d_Re_consentsNeeded_24 : decode b_Re_consentsNeeded 24 = .ok (.iload_n 2, 1) := by decide +kernel
theorem d_Re_consentsNeeded_25 : decode b_Re_consentsNeeded 25 = .ok (.aload_n 1, 1) := by decide +kernel
theorem d_Re_consentsNeeded_26 : decode b_Re_consentsNeeded 26 = .ok (.aload_n 0, 1) := by decide +kernel
theorem d_Re_consentsNeeded_27 : decode b_Re_consentsNeeded 27 = .ok (.getfield 15, 3) := by decide +kernel
theorem d_Re_consentsNeeded_30 : decode b_Re_consentsNeeded 30 = .ok (.iconst 1, 1) := by decide +kernel
theorem d_Re_consentsNeeded_31 : decode b_Re_consentsNeeded 31 = .ok (.iadd, 1) := by decide +kernel
theorem d_Re_consentsNeeded_32 : decode b_Re_consentsNeeded 32 = .ok (.aload_n 0, 1) := by decide +kernel
theorem d_Re_consentsNeeded_33 : decode b_Re_consentsNeeded 33 = .ok (.getfield 18, 3) := by decide +kernel
theorem d_Re_consentsNeeded_36 : decode b_Re_consentsNeeded 36 = .ok (.invokevirtual 43, 3) := by decide +kernel
theorem d_Re_consentsNeeded_39 : decode b_Re_consentsNeeded 39 = .ok (.iconst (-1), 1) := by decide +kernel
theorem d_Re_consentsNeeded_40 : decode b_Re_consentsNeeded 40 = .ok (.ixor, 1) := by decide +kernel
theorem d_Re_consentsNeeded_41 : decode b_Re_consentsNeeded 41 = .ok (.iand, 1) := by decide +kernel
theorem d_Re_consentsNeeded_42 : decode b_Re_consentsNeeded 42 = .ok (.ireturn, 1) := by decide +kernel
theorem d_Re_consentsNeeded_43 : decode b_Re_consentsNeeded 43 = .ok (.aload_n 1, 1) := by decide +kernel
theorem d_Re_consentsNeeded_44 : decode b_Re_consentsNeeded 44 = .ok (.aload_n 0, 1) := by decide +kernel
theorem d_Re_consentsNeeded_45 : decode b_Re_consentsNeeded 45 = .ok (.getfield 18, 3) := by decide +kernel
theorem d_Re_consentsNeeded_48 : decode b_Re_consentsNeeded 48 = .ok (.aload_n 0, 1) := by decide +kernel
theorem d_Re_consentsNeeded_49 : decode b_Re_consentsNeeded 49 = .ok (.getfield 15, 3) := by decide +kernel
theorem d_Re_consentsNeeded_52 : decode b_Re_consentsNeeded 52 = .ok (.iconst 1, 1) := by decide +kernel
theorem d_Re_consentsNeeded_53 : decode b_Re_consentsNeeded 53 = .ok (.isub, 1) := by decide +kernel
theorem d_Re_consentsNeeded_54 : decode b_Re_consentsNeeded 54 = .ok (.invokevirtual 43, 3) := by decide +kernel
theorem d_Re_consentsNeeded_57 : decode b_Re_consentsNeeded 57 = .ok (.iload_n 2, 1) := by decide +kernel
theorem d_Re_consentsNeeded_58 : decode b_Re_consentsNeeded 58 = .ok (.iconst (-1), 1) := by decide +kernel
theorem d_Re_consentsNeeded_59 : decode b_Re_consentsNeeded 59 = .ok (.ixor, 1) := by decide +kernel
theorem d_Re_consentsNeeded_60 : decode b_Re_consentsNeeded 60 = .ok (.iand, 1) := by decide +kernel
theorem d_Re_consentsNeeded_61 : decode b_Re_consentsNeeded 61 = .ok (.ireturn, 1) := by decide +kernel
theorem d_Re_carryOut_0 : decode b_Re_carryOut 0 = .ok (.aload_n 1, 1) := by decide +kernel
theorem d_Re_carryOut_1 : decode b_Re_carryOut 1 = .ok (.aload_n 0, 1) := by decide +kernel
theorem d_Re_carryOut_2 : decode b_Re_carryOut 2 = .ok (.getfield 9, 3) := by decide +kernel
theorem d_Re_carryOut_5 : decode b_Re_carryOut 5 = .ok (.aaload, 1) := by decide +kernel
theorem d_Re_carryOut_6 : decode b_Re_carryOut 6 = .ok (.astore_n 2, 1) := by decide +kernel
theorem d_Re_carryOut_7 : decode b_Re_carryOut 7 = .ok (.aload_n 2, 1) := by decide +kernel
theorem d_Re_carryOut_8 : decode b_Re_carryOut 8 = .ok (.getfield 46, 3) := by decide +kernel
theorem d_Re_carryOut_11 : decode b_Re_carryOut 11 = .ok (.aload_n 0, 1) := by decide +kernel
theorem d_Re_carryOut_12 : decode b_Re_carryOut 12 = .ok (.getfield 15, 3) := by decide +kernel
theorem d_Re_carryOut_15 : decode b_Re_carryOut 15 = .ok (.iconst 1, 1) := by decide +kernel
theorem d_Re_carryOut_16 : decode b_Re_carryOut 16 = .ok (.isub, 1) := by decide +kernel
theorem d_Re_carryOut_17 : decode b_Re_carryOut 17 = .ok (.iaload, 1) := by decide +kernel
theorem d_Re_carryOut_18 : decode b_Re_carryOut 18 = .ok (.istore_n 3, 1) := by decide +kernel
theorem d_Re_carryOut_19 : decode b_Re_carryOut 19 = .ok (.aload_n 2, 1) := by decide +kernel
theorem d_Re_carryOut_20 : decode b_Re_carryOut 20 = .ok (.getfield 50, 3) := by decide +kernel
theorem d_Re_carryOut_23 : decode b_Re_carryOut 23 = .ok (.aload_n 0, 1) := by decide +kernel
theorem d_Re_carryOut_24 : decode b_Re_carryOut 24 = .ok (.getfield 15, 3) := by decide +kernel
theorem d_Re_carryOut_27 : decode b_Re_carryOut 27 = .ok (.iconst 1, 1) := by decide +kernel
theorem d_Re_carryOut_28 : decode b_Re_carryOut 28 = .ok (.isub, 1) := by decide +kernel
theorem d_Re_carryOut_29 : decode b_Re_carryOut 29 = .ok (.iaload, 1) := by decide +kernel
theorem d_Re_carryOut_30 : decode b_Re_carryOut 30 = .ok (.istore 4, 2) := by decide +kernel
theorem d_Re_carryOut_32 : decode b_Re_carryOut 32 = .ok (.aload_n 2, 1) := by decide +kernel
theorem d_Re_carryOut_33 : decode b_Re_carryOut 33 = .ok (.aload_n 0, 1) := by decide +kernel
theorem d_Re_carryOut_34 : decode b_Re_carryOut 34 = .ok (.getfield 15, 3) := by decide +kernel
theorem d_Re_carryOut_37 : decode b_Re_carryOut 37 = .ok (.invokevirtual 53, 3) := by decide +kernel
theorem d_Re_carryOut_40 : decode b_Re_carryOut 40 = .ok (.aload_n 2, 1) := by decide +kernel
theorem d_Re_carryOut_41 : decode b_Re_carryOut 41 = .ok (.aload_n 0, 1) := by decide +kernel
theorem d_Re_carryOut_42 : decode b_Re_carryOut 42 = .ok (.getfield 18, 3) := by decide +kernel
theorem d_Re_carryOut_45 : decode b_Re_carryOut 45 = .ok (.iload_n 3, 1) := by decide +kernel
theorem d_Re_carryOut_46 : decode b_Re_carryOut 46 = .ok (.iload 4, 2) := by decide +kernel
theorem d_Re_carryOut_48 : decode b_Re_carryOut 48 = .ok (.invokevirtual 57, 3) := by decide +kernel
theorem d_Re_carryOut_51 : decode b_Re_carryOut 51 = .ok (.return_, 1) := by decide +kernel
theorem d_Rl_init_0 : decode b_Rl_init 0 = .ok (.aload_n 0, 1) := by decide +kernel
theorem d_Rl_init_1 : decode b_Rl_init 1 = .ok (.invokespecial 3, 3) := by decide +kernel
theorem d_Rl_init_4 : decode b_Rl_init 4 = .ok (.aload_n 0, 1) := by decide +kernel
theorem d_Rl_init_5 : decode b_Rl_init 5 = .ok (.iload_n 1, 1) := by decide +kernel
theorem d_Rl_init_6 : decode b_Rl_init 6 = .ok (.putfield 9, 3) := by decide +kernel
theorem d_Rl_init_9 : decode b_Rl_init 9 = .ok (.aload_n 0, 1) := by decide +kernel
theorem d_Rl_init_10 : decode b_Rl_init 10 = .ok (.iload_n 2, 1) := by decide +kernel
theorem d_Rl_init_11 : decode b_Rl_init 11 = .ok (.putfield 15, 3) := by decide +kernel
theorem d_Rl_init_14 : decode b_Rl_init 14 = .ok (.return_, 1) := by decide +kernel
theorem d_Rl_hindrance_0 : decode b_Rl_hindrance 0 = .ok (.aload_n 1, 1) := by decide +kernel
theorem d_Rl_hindrance_1 : decode b_Rl_hindrance 1 = .ok (.aload_n 0, 1) := by decide +kernel
theorem d_Rl_hindrance_2 : decode b_Rl_hindrance 2 = .ok (.getfield 9, 3) := by decide +kernel
theorem d_Rl_hindrance_5 : decode b_Rl_hindrance 5 = .ok (.aaload, 1) := by decide +kernel
theorem d_Rl_hindrance_6 : decode b_Rl_hindrance 6 = .ok (.astore_n 2, 1) := by decide +kernel
theorem d_Rl_hindrance_7 : decode b_Rl_hindrance 7 = .ok (.aload_n 2, 1) := by decide +kernel
theorem d_Rl_hindrance_8 : decode b_Rl_hindrance 8 = .ok (.getfield 18, 3) := by decide +kernel
theorem d_Rl_hindrance_11 : decode b_Rl_hindrance 11 = .ok (.ifCond .ne 5, 3) := by decide +kernel
theorem d_Rl_hindrance_14 : decode b_Rl_hindrance 14 = .ok (.iconst 1, 1) := by decide +kernel
theorem d_Rl_hindrance_15 : decode b_Rl_hindrance 15 = .ok (.ireturn, 1) := by decide +kernel
theorem d_Rl_hindrance_16 : decode b_Rl_hindrance 16 = .ok (.aload_n 0, 1) := by decide +kernel
theorem d_Rl_hindrance_17 : decode b_Rl_hindrance 17 = .ok (.getfield 15, 3) := by decide +kernel
theorem d_Rl_hindrance_20 : decode b_Rl_hindrance 20 = .ok (.aload_n 2, 1) := by decide +kernel
theorem d_Rl_hindrance_21 : decode b_Rl_hindrance 21 = .ok (.getfield 24, 3) := by decide +kernel
theorem d_Rl_hindrance_24 : decode b_Rl_hindrance 24 = .ok (.if_icmp .le 8, 3) := by decide +kernel
theorem d_Rl_hindrance_27 : decode b_Rl_hindrance 27 = .ok (.bipush 6, 2) := by decide +kernel
theorem d_Rl_hindrance_29 : decode b_Rl_hindrance 29 = .ok (.goto 4, 3) := by decide +kernel
theorem d_Rl_hindrance_32 : decode b_Rl_hindrance 32 = .ok (.iconst 0, 1) := by decide +kernel
theorem d_Rl_hindrance_33 : decode b_Rl_hindrance 33 = .ok (.ireturn, 1) := by decide +kernel
theorem d_Rl_carryOut_0 : decode b_Rl_carryOut 0 = .ok (.aload_n 1, 1) := by decide +kernel
theorem d_Rl_carryOut_1 : decode b_Rl_carryOut 1 = .ok (.aload_n 0, 1) := by decide +kernel
theorem d_Rl_carryOut_2 : decode b_Rl_carryOut 2 = .ok (.getfield 9, 3) := by decide +kernel
theorem d_Rl_carryOut_5 : decode b_Rl_carryOut 5 = .ok (.aaload, 1) := by decide +kernel
theorem d_Rl_carryOut_6 : decode b_Rl_carryOut 6 = .ok (.aload_n 0, 1) := by decide +kernel
theorem d_Rl_carryOut_7 : decode b_Rl_carryOut 7 = .ok (.getfield 15, 3) := by decide +kernel
theorem d_Rl_carryOut_10 : decode b_Rl_carryOut 10 = .ok (.invokevirtual 27, 3) := by decide +kernel
theorem d_Rl_carryOut_13 : decode b_Rl_carryOut 13 = .ok (.return_, 1) := by decide +kernel
theorem d_Ca_init_0 : decode b_Ca_init 0 = .ok (.aload_n 0, 1) := by decide +kernel
theorem d_Ca_init_1 : decode b_Ca_init 1 = .ok (.invokespecial 3, 3) := by decide +kernel
theorem d_Ca_init_4 : decode b_Ca_init 4 = .ok (.aload_n 0, 1) := by decide +kernel
theorem d_Ca_init_5 : decode b_Ca_init 5 = .ok (.iload_n 1, 1) := by decide +kernel
theorem d_Ca_init_6 : decode b_Ca_init 6 = .ok (.putfield 9, 3) := by decide +kernel
theorem d_Ca_init_9 : decode b_Ca_init 9 = .ok (.aload_n 0, 1) := by decide +kernel
theorem d_Ca_init_10 : decode b_Ca_init 10 = .ok (.iload_n 2, 1) := by decide +kernel
theorem d_Ca_init_11 : decode b_Ca_init 11 = .ok (.putfield 15, 3) := by decide +kernel
theorem d_Ca_init_14 : decode b_Ca_init 14 = .ok (.return_, 1) := by decide +kernel
theorem d_Ca_hindrance_0 : decode b_Ca_hindrance 0 = .ok (.aload_n 1, 1) := by decide +kernel
theorem d_Ca_hindrance_1 : decode b_Ca_hindrance 1 = .ok (.aload_n 0, 1) := by decide +kernel
theorem d_Ca_hindrance_2 : decode b_Ca_hindrance 2 = .ok (.getfield 9, 3) := by decide +kernel
theorem d_Ca_hindrance_5 : decode b_Ca_hindrance 5 = .ok (.aaload, 1) := by decide +kernel
theorem d_Ca_hindrance_6 : decode b_Ca_hindrance 6 = .ok (.astore_n 2, 1) := by decide +kernel
theorem d_Ca_hindrance_7 : decode b_Ca_hindrance 7 = .ok (.aload_n 2, 1) := by decide +kernel
theorem d_Ca_hindrance_8 : decode b_Ca_hindrance 8 = .ok (.getfield 18, 3) := by decide +kernel
theorem d_Ca_hindrance_11 : decode b_Ca_hindrance 11 = .ok (.ifCond .ne 5, 3) := by decide +kernel
theorem d_Ca_hindrance_14 : decode b_Ca_hindrance 14 = .ok (.iconst 1, 1) := by decide +kernel
theorem d_Ca_hindrance_15 : decode b_Ca_hindrance 15 = .ok (.ireturn, 1) := by decide +kernel
theorem d_Ca_hindrance_16 : decode b_Ca_hindrance 16 = .ok (.aload_n 2, 1) := by decide +kernel
theorem d_Ca_hindrance_17 : decode b_Ca_hindrance 17 = .ok (.aload_n 0, 1) := by decide +kernel
theorem d_Ca_hindrance_18 : decode b_Ca_hindrance 18 = .ok (.getfield 15, 3) := by decide +kernel
theorem d_Ca_hindrance_21 : decode b_Ca_hindrance 21 = .ok (.invokevirtual 24, 3) := by decide +kernel
theorem d_Ca_hindrance_24 : decode b_Ca_hindrance 24 = .ok (.ifCond .eq 8, 3) := by decide +kernel
theorem d_Ca_hindrance_27 : decode b_Ca_hindrance 27 = .ok (.bipush 8, 2) := by decide +kernel
theorem d_Ca_hindrance_29 : decode b_Ca_hindrance 29 = .ok (.goto 4, 3) := by decide +kernel
theorem d_Ca_hindrance_32 : decode b_Ca_hindrance 32 = .ok (.iconst 0, 1) := by decide +kernel
theorem d_Ca_hindrance_33 : decode b_Ca_hindrance 33 = .ok (.ireturn, 1) := by decide +kernel
theorem d_Ca_carryOut_0 : decode b_Ca_carryOut 0 = .ok (.aload_n 1, 1) := by decide +kernel
theorem d_Ca_carryOut_1 : decode b_Ca_carryOut 1 = .ok (.aload_n 0, 1) := by decide +kernel
theorem d_Ca_carryOut_2 : decode b_Ca_carryOut 2 = .ok (.getfield 9, 3) := by decide +kernel
theorem d_Ca_carryOut_5 : decode b_Ca_carryOut 5 = .ok (.aaload, 1) := by decide +kernel
theorem d_Ca_carryOut_6 : decode b_Ca_carryOut 6 = .ok (.dup, 1) := by decide +kernel
theorem d_Ca_carryOut_7 : decode b_Ca_carryOut 7 = .ok (.getfield 28, 3) := by decide +kernel
theorem d_Ca_carryOut_10 : decode b_Ca_carryOut 10 = .ok (.iconst 1, 1) := by decide +kernel
theorem d_Ca_carryOut_11 : decode b_Ca_carryOut 11 = .ok (.aload_n 0, 1) := by decide +kernel
theorem d_Ca_carryOut_12 : decode b_Ca_carryOut 12 = .ok (.getfield 15, 3) := by decide +kernel
theorem d_Ca_carryOut_15 : decode b_Ca_carryOut 15 = .ok (.ishl, 1) := by decide +kernel
theorem d_Ca_carryOut_16 : decode b_Ca_carryOut 16 = .ok (.ior, 1) := by decide +kernel
theorem d_Ca_carryOut_17 : decode b_Ca_carryOut 17 = .ok (.putfield 28, 3) := by decide +kernel
theorem d_Ca_carryOut_20 : decode b_Ca_carryOut 20 = .ok (.return_, 1) := by decide +kernel
theorem d_Li_init_0 : decode b_Li_init 0 = .ok (.aload_n 0, 1) := by decide +kernel
theorem d_Li_init_1 : decode b_Li_init 1 = .ok (.invokespecial 3, 3) := by decide +kernel
theorem d_Li_init_4 : decode b_Li_init 4 = .ok (.aload_n 0, 1) := by decide +kernel
theorem d_Li_init_5 : decode b_Li_init 5 = .ok (.iload_n 1, 1) := by decide +kernel
theorem d_Li_init_6 : decode b_Li_init 6 = .ok (.putfield 9, 3) := by decide +kernel
theorem d_Li_init_9 : decode b_Li_init 9 = .ok (.aload_n 0, 1) := by decide +kernel
theorem d_Li_init_10 : decode b_Li_init 10 = .ok (.iload_n 2, 1) := by decide +kernel
theorem d_Li_init_11 : decode b_Li_init 11 = .ok (.putfield 15, 3) := by decide +kernel
theorem d_Li_init_14 : decode b_Li_init 14 = .ok (.return_, 1) := by decide +kernel
theorem d_Li_hindrance_0 : decode b_Li_hindrance 0 = .ok (.aload_n 1, 1) := by decide +kernel
theorem d_Li_hindrance_1 : decode b_Li_hindrance 1 = .ok (.aload_n 0, 1) := by decide +kernel
theorem d_Li_hindrance_2 : decode b_Li_hindrance 2 = .ok (.getfield 9, 3) := by decide +kernel
theorem d_Li_hindrance_5 : decode b_Li_hindrance 5 = .ok (.aaload, 1) := by decide +kernel
theorem d_Li_hindrance_6 : decode b_Li_hindrance 6 = .ok (.astore_n 2, 1) := by decide +kernel
theorem d_Li_hindrance_7 : decode b_Li_hindrance 7 = .ok (.aload_n 2, 1) := by decide +kernel
theorem d_Li_hindrance_8 : decode b_Li_hindrance 8 = .ok (.getfield 18, 3) := by decide +kernel
theorem d_Li_hindrance_11 : decode b_Li_hindrance 11 = .ok (.ifCond .ne 5, 3) := by decide +kernel
theorem d_Li_hindrance_14 : decode b_Li_hindrance 14 = .ok (.iconst 1, 1) := by decide +kernel
theorem d_Li_hindrance_15 : decode b_Li_hindrance 15 = .ok (.ireturn, 1) := by decide +kernel
theorem d_Li_hindrance_16 : decode b_Li_hindrance 16 = .ok (.aload_n 2, 1) := by decide +kernel
theorem d_Li_hindrance_17 : decode b_Li_hindrance 17 = .ok (.aload_n 0, 1) := by decide +kernel
theorem d_Li_hindrance_18 : decode b_Li_hindrance 18 = .ok (.getfield 15, 3) := by decide +kernel
theorem d_Li_hindrance_21 : decode b_Li_hindrance 21 = .ok (.invokevirtual 24, 3) := by decide +kernel
theorem d_Li_hindrance_24 : decode b_Li_hindrance 24 = .ok (.ifCond .eq 7, 3) := by decide +kernel
theorem d_Li_hindrance_27 : decode b_Li_hindrance 27 = .ok (.iconst 0, 1) := by decide +kernel
theorem d_Li_hindrance_28 : decode b_Li_hindrance 28 = .ok (.goto 5, 3) := by decide +kernel
theorem d_Li_hindrance_31 : decode b_Li_hindrance 31 = .ok (.bipush 8, 2) := by decide +kernel
theorem d_Li_hindrance_33 : decode b_Li_hindrance 33 = .ok (.ireturn, 1) := by decide +kernel
theorem d_Li_carryOut_0 : decode b_Li_carryOut 0 = .ok (.aload_n 1, 1) := by decide +kernel
theorem d_Li_carryOut_1 : decode b_Li_carryOut 1 = .ok (.aload_n 0, 1) := by decide +kernel
theorem d_Li_carryOut_2 : decode b_Li_carryOut 2 = .ok (.getfield 9, 3) := by decide +kernel
theorem d_Li_carryOut_5 : decode b_Li_carryOut 5 = .ok (.aaload, 1) := by decide +kernel
theorem d_Li_carryOut_6 : decode b_Li_carryOut 6 = .ok (.dup, 1) := by decide +kernel
theorem d_Li_carryOut_7 : decode b_Li_carryOut 7 = .ok (.getfield 28, 3) := by decide +kernel
theorem d_Li_carryOut_10 : decode b_Li_carryOut 10 = .ok (.iconst 1, 1) := by decide +kernel
theorem d_Li_carryOut_11 : decode b_Li_carryOut 11 = .ok (.aload_n 0, 1) := by decide +kernel
theorem d_Li_carryOut_12 : decode b_Li_carryOut 12 = .ok (.getfield 15, 3) := by decide +kernel
theorem d_Li_carryOut_15 : decode b_Li_carryOut 15 = .ok (.ishl, 1) := by decide +kernel
theorem d_Li_carryOut_16 : decode b_Li_carryOut 16 = .ok (.iconst (-1), 1) := by decide +kernel
theorem d_Li_carryOut_17 : decode b_Li_carryOut 17 = .ok (.ixor, 1) := by decide +kernel
theorem d_Li_carryOut_18 : decode b_Li_carryOut 18 = .ok (.iand, 1) := by decide +kernel
theorem d_Li_carryOut_19 : decode b_Li_carryOut 19 = .ok (.putfield 28, 3) := by decide +kernel
theorem d_Li_carryOut_22 : decode b_Li_carryOut 22 = .ok (.return_, 1) := by decide +kernel
theorem d_Sp_init_0 : decode b_Sp_init 0 = .ok (.aload_n 0, 1) := by decide +kernel
theorem d_Sp_init_1 : decode b_Sp_init 1 = .ok (.invokespecial 3, 3) := by decide +kernel
theorem d_Sp_init_4 : decode b_Sp_init 4 = .ok (.aload_n 0, 1) := by decide +kernel
theorem d_Sp_init_5 : decode b_Sp_init 5 = .ok (.iload_n 1, 1) := by decide +kernel
theorem d_Sp_init_6 : decode b_Sp_init 6 = .ok (.putfield 9, 3) := by decide +kernel
theorem d_Sp_init_9 : decode b_Sp_init 9 = .ok (.aload_n 0, 1) := by decide +kernel
theorem d_Sp_init_10 : decode b_Sp_init 10 = .ok (.iload_n 2, 1) := by decide +kernel
theorem d_Sp_init_11 : decode b_Sp_init 11 = .ok (.putfield 15, 3) := by decide +kernel
theorem d_Sp_init_14 : decode b_Sp_init 14 = .ok (.return_, 1) := by decide +kernel
theorem d_Sp_hindrance_0 : decode b_Sp_hindrance 0 = .ok (.aload_n 1, 1) := by decide +kernel
theorem d_Sp_hindrance_1 : decode b_Sp_hindrance 1 = .ok (.aload_n 0, 1) := by decide +kernel
theorem d_Sp_hindrance_2 : decode b_Sp_hindrance 2 = .ok (.getfield 9, 3) := by decide +kernel
theorem d_Sp_hindrance_5 : decode b_Sp_hindrance 5 = .ok (.aaload, 1) := by decide +kernel
theorem d_Sp_hindrance_6 : decode b_Sp_hindrance 6 = .ok (.astore_n 2, 1) := by decide +kernel
theorem d_Sp_hindrance_7 : decode b_Sp_hindrance 7 = .ok (.aload_n 2, 1) := by decide +kernel
theorem d_Sp_hindrance_8 : decode b_Sp_hindrance 8 = .ok (.invokevirtual 18, 3) := by decide +kernel
theorem d_Sp_hindrance_11 : decode b_Sp_hindrance 11 = .ok (.istore_n 3, 1) := by decide +kernel
theorem d_Sp_hindrance_12 : decode b_Sp_hindrance 12 = .ok (.iload_n 3, 1) := by decide +kernel
theorem d_Sp_hindrance_13 : decode b_Sp_hindrance 13 = .ok (.ifCond .eq 5, 3) := by decide +kernel
theorem d_Sp_hindrance_16 : decode b_Sp_hindrance 16 = .ok (.iload_n 3, 1) := by decide +kernel
theorem d_Sp_hindrance_17 : decode b_Sp_hindrance 17 = .ok (.ireturn, 1) := by decide +kernel
theorem d_Sp_hindrance_18 : decode b_Sp_hindrance 18 = .ok (.aload_n 0, 1) := by decide +kernel
theorem d_Sp_hindrance_19 : decode b_Sp_hindrance 19 = .ok (.getfield 15, 3) := by decide +kernel
theorem d_Sp_hindrance_22 : decode b_Sp_hindrance 22 = .ok (.i2l, 1) := by decide +kernel
theorem d_Sp_hindrance_23 : decode b_Sp_hindrance 23 = .ok (.aload_n 2, 1) := by decide +kernel
theorem d_Sp_hindrance_24 : decode b_Sp_hindrance 24 = .ok (.getfield 24, 3) := by decide +kernel
theorem d_Sp_hindrance_27 : decode b_Sp_hindrance 27 = .ok (.lcmp, 1) := by decide +kernel
theorem d_Sp_hindrance_28 : decode b_Sp_hindrance 28 = .ok (.ifCond .lt 8, 3) := by decide +kernel
theorem d_Sp_hindrance_31 : decode b_Sp_hindrance 31 = .ok (.bipush 9, 2) := by decide +kernel
theorem d_Sp_hindrance_33 : decode b_Sp_hindrance 33 = .ok (.goto 4, 3) := by decide +kernel
theorem d_Sp_hindrance_36 : decode b_Sp_hindrance 36 = .ok (.iconst 0, 1) := by decide +kernel
theorem d_Sp_hindrance_37 : decode b_Sp_hindrance 37 = .ok (.ireturn, 1) := by decide +kernel
theorem d_Sp_carryOut_0 : decode b_Sp_carryOut 0 = .ok (.aload_n 1, 1) := by decide +kernel
theorem d_Sp_carryOut_1 : decode b_Sp_carryOut 1 = .ok (.aload_n 0, 1) := by decide +kernel
theorem d_Sp_carryOut_2 : decode b_Sp_carryOut 2 = .ok (.getfield 9, 3) := by decide +kernel
theorem d_Sp_carryOut_5 : decode b_Sp_carryOut 5 = .ok (.aaload, 1) := by decide +kernel
theorem d_Sp_carryOut_6 : decode b_Sp_carryOut 6 = .ok (.astore_n 2, 1) := by decide +kernel
theorem d_Sp_carryOut_7 : decode b_Sp_carryOut 7 = .ok (.aload_n 1, 1) := by decide +kernel
theorem d_Sp_carryOut_8 : decode b_Sp_carryOut 8 = .ok (.iconst 2, 1) := by decide +kernel
theorem d_Sp_carryOut_9 : decode b_Sp_carryOut 9 = .ok (.aload_n 0, 1) := by decide +kernel
theorem d_Sp_carryOut_10 : decode b_Sp_carryOut 10 = .ok (.getfield 27, 3) := by decide +kernel
theorem d_Sp_carryOut_13 : decode b_Sp_carryOut 13 = .ok (.imul, 1) := by decide +kernel
theorem d_Sp_carryOut_14 : decode b_Sp_carryOut 14 = .ok (.aaload, 1) := by decide +kernel
theorem d_Sp_carryOut_15 : decode b_Sp_carryOut 15 = .ok (.astore_n 3, 1) := by decide +kernel
theorem d_Sp_carryOut_16 : decode b_Sp_carryOut 16 = .ok (.aload_n 1, 1) := by decide +kernel
theorem d_Sp_carryOut_17 : decode b_Sp_carryOut 17 = .ok (.iconst 2, 1) := by decide +kernel
theorem d_Sp_carryOut_18 : decode b_Sp_carryOut 18 = .ok (.aload_n 0, 1) := by decide +kernel
theorem d_Sp_carryOut_19 : decode b_Sp_carryOut 19 = .ok (.getfield 27, 3) := by decide +kernel
theorem d_Sp_carryOut_22 : decode b_Sp_carryOut 22 = .ok (.imul, 1) := by decide +kernel
theorem d_Sp_carryOut_23 : decode b_Sp_carryOut 23 = .ok (.iconst 1, 1) := by decide +kernel
theorem d_Sp_carryOut_24 : decode b_Sp_carryOut 24 = .ok (.iadd, 1) := by decide +kernel
theorem d_Sp_carryOut_25 : decode b_Sp_carryOut 25 = .ok (.aaload, 1) := by decide +kernel
theorem d_Sp_carryOut_26 : decode b_Sp_carryOut 26 = .ok (.astore 4, 2) := by decide +kernel
theorem d_Sp_carryOut_28 : decode b_Sp_carryOut 28 = .ok (.aload_n 2, 1) := by decide +kernel
theorem d_Sp_carryOut_29 : decode b_Sp_carryOut 29 = .ok (.iconst 0, 1) := by decide +kernel
theorem d_Sp_carryOut_30 : decode b_Sp_carryOut 30 = .ok (.putfield 30, 3) := by decide +kernel
theorem d_Sp_carryOut_33 : decode b_Sp_carryOut 33 = .ok (.aload_n 3, 1) := by decide +kernel
theorem d_Sp_carryOut_34 : decode b_Sp_carryOut 34 = .ok (.aload_n 2, 1) := by decide +kernel
theorem d_Sp_carryOut_35 : decode b_Sp_carryOut 35 = .ok (.aload_n 0, 1) := by decide +kernel
theorem d_Sp_carryOut_36 : decode b_Sp_carryOut 36 = .ok (.getfield 15, 3) := by decide +kernel
theorem d_Sp_carryOut_39 : decode b_Sp_carryOut 39 = .ok (.i2l, 1) := by decide +kernel
theorem d_Sp_carryOut_40 : decode b_Sp_carryOut 40 = .ok (.invokevirtual 34, 3) := by decide +kernel
theorem d_Sp_carryOut_43 : decode b_Sp_carryOut 43 = .ok (.aload_n 3, 1) := by decide +kernel
theorem d_Sp_carryOut_44 : decode b_Sp_carryOut 44 = .ok (.aload_n 0, 1) := by decide +kernel
theorem d_Sp_carryOut_45 : decode b_Sp_carryOut 45 = .ok (.getfield 9, 3) := by decide +kernel
theorem d_Sp_carryOut_48 : decode b_Sp_carryOut 48 = .ok (.putfield 38, 3) := by decide +kernel
theorem d_Sp_carryOut_51 : decode b_Sp_carryOut 51 = .ok (.aload 4, 2) := by decide +kernel
theorem d_Sp_carryOut_53 : decode b_Sp_carryOut 53 = .ok (.aload_n 2, 1) := by decide +kernel
theorem d_Sp_carryOut_54 : decode b_Sp_carryOut 54 = .ok (.aload_n 2, 1) := by decide +kernel
theorem d_Sp_carryOut_55 : decode b_Sp_carryOut 55 = .ok (.getfield 24, 3) := by decide +kernel
theorem d_Sp_carryOut_58 : decode b_Sp_carryOut 58 = .ok (.aload_n 0, 1) := by decide +kernel
theorem d_Sp_carryOut_59 : decode b_Sp_carryOut 59 = .ok (.getfield 15, 3) := by decide +kernel
theorem d_Sp_carryOut_62 : decode b_Sp_carryOut 62 = .ok (.i2l, 1) := by decide +kernel
theorem d_Sp_carryOut_63 : decode b_Sp_carryOut 63 = .ok (.lsub, 1) := by decide +kernel
theorem d_Sp_carryOut_64 : decode b_Sp_carryOut 64 = .ok (.invokevirtual 34, 3) := by decide +kernel
theorem d_Sp_carryOut_67 : decode b_Sp_carryOut 67 = .ok (.aload 4, 2) := by decide +kernel
theorem d_Sp_carryOut_69 : decode b_Sp_carryOut 69 = .ok (.aload_n 0, 1) := by decide +kernel
theorem d_Sp_carryOut_70 : decode b_Sp_carryOut 70 = .ok (.getfield 9, 3) := by decide +kernel
theorem d_Sp_carryOut_73 : decode b_Sp_carryOut 73 = .ok (.putfield 38, 3) := by decide +kernel
theorem d_Sp_carryOut_76 : decode b_Sp_carryOut 76 = .ok (.return_, 1) := by decide +kernel
theorem d_Me_init_0 : decode b_Me_init 0 = .ok (.aload_n 0, 1) := by decide +kernel
theorem d_Me_init_1 : decode b_Me_init 1 = .ok (.invokespecial 3, 3) := by decide +kernel
theorem d_Me_init_4 : decode b_Me_init 4 = .ok (.aload_n 0, 1) := by decide +kernel
theorem d_Me_init_5 : decode b_Me_init 5 = .ok (.iload_n 1, 1) := by decide +kernel
theorem d_Me_init_6 : decode b_Me_init 6 = .ok (.putfield 9, 3) := by decide +kernel
theorem d_Me_init_9 : decode b_Me_init 9 = .ok (.aload_n 0, 1) := by decide +kernel
theorem d_Me_init_10 : decode b_Me_init 10 = .ok (.iload_n 2, 1) := by decide +kernel
theorem d_Me_init_11 : decode b_Me_init 11 = .ok (.putfield 15, 3) := by decide +kernel
theorem d_Me_init_14 : decode b_Me_init 14 = .ok (.return_, 1) := by decide +kernel
theorem d_Me_hindrance_0 : decode b_Me_hindrance 0 = .ok (.aload_n 1, 1) := by decide +kernel
theorem d_Me_hindrance_1 : decode b_Me_hindrance 1 = .ok (.aload_n 0, 1) := by decide +kernel
theorem d_Me_hindrance_2 : decode b_Me_hindrance 2 = .ok (.getfield 9, 3) := by decide +kernel
theorem d_Me_hindrance_5 : decode b_Me_hindrance 5 = .ok (.aaload, 1) := by decide +kernel
theorem d_Me_hindrance_6 : decode b_Me_hindrance 6 = .ok (.astore_n 2, 1) := by decide +kernel
theorem d_Me_hindrance_7 : decode b_Me_hindrance 7 = .ok (.aload_n 1, 1) := by decide +kernel
theorem d_Me_hindrance_8 : decode b_Me_hindrance 8 = .ok (.aload_n 0, 1) := by decide +kernel
theorem d_Me_hindrance_9 : decode b_Me_hindrance 9 = .ok (.getfield 15, 3) := by decide +kernel
theorem d_Me_hindrance_12 : decode b_Me_hindrance 12 = .ok (.aaload, 1) := by decide +kernel
theorem d_Me_hindrance_13 : decode b_Me_hindrance 13 = .ok (.astore_n 3, 1) := by decide +kernel
theorem d_Me_hindrance_14 : decode b_Me_hindrance 14 = .ok (.aload_n 2, 1) := by decide +kernel
theorem d_Me_hindrance_15 : decode b_Me_hindrance 15 = .ok (.getfield 18, 3) := by decide +kernel
theorem d_Me_hindrance_18 : decode b_Me_hindrance 18 = .ok (.ifCond .eq 10, 3) := by decide +kernel
theorem d_Me_hindrance_21 : decode b_Me_hindrance 21 = .ok (.aload_n 3, 1) := by decide +kernel
theorem d_Me_hindrance_22 : decode b_Me_hindrance 22 = .ok (.getfield 18, 3) := by decide +kernel
theorem d_Me_hindrance_25 : decode b_Me_hindrance 25 = .ok (.ifCond .ne 5, 3) := by decide +kernel
theorem d_Me_hindrance_28 : decode b_Me_hindrance 28 = .ok (.iconst 1, 1) := by decide +kernel
theorem d_Me_hindrance_29 : decode b_Me_hindrance 29 = .ok (.ireturn, 1) := by decide +kernel
theorem d_Me_hindrance_30 : decode b_Me_hindrance 30 = .ok (.aload_n 2, 1) := by decide +kernel
theorem d_Me_hindrance_31 : decode b_Me_hindrance 31 = .ok (.getfield 24, 3) := by decide +kernel
theorem d_Me_hindrance_34 : decode b_Me_hindrance 34 = .ok (.ifCond .ne 10, 3) := by decide +kernel
theorem d_Me_hindrance_37 : decode b_Me_hindrance 37 = .ok (.aload_n 3, 1) := by decide +kernel
theorem d_Me_hindrance_38 : decode b_Me_hindrance 38 = .ok (.getfield 24, 3) := by decide +kernel
theorem d_Me_hindrance_41 : decode b_Me_hindrance 41 = .ok (.ifCond .eq 5, 3) := by decide +kernel
theorem d_Me_hindrance_44 : decode b_Me_hindrance 44 = .ok (.iconst 2, 1) := by decide +kernel
theorem d_Me_hindrance_45 : decode b_Me_hindrance 45 = .ok (.ireturn, 1) := by decide +kernel
theorem d_Me_hindrance_46 : decode b_Me_hindrance 46 = .ok (.aload_n 2, 1) := by decide +kernel
theorem d_Me_hindrance_47 : decode b_Me_hindrance 47 = .ok (.aload_n 3, 1) := by decide +kernel
theorem d_Me_hindrance_48 : decode b_Me_hindrance 48 = .ok (.invokevirtual 27, 3) := by decide +kernel
theorem d_Me_hindrance_51 : decode b_Me_hindrance 51 = .ok (.ifCond .ne 6, 3) := by decide +kernel
theorem d_Me_hindrance_54 : decode b_Me_hindrance 54 = .ok (.bipush 10, 2) := by decide +kernel
theorem d_Me_hindrance_56 : decode b_Me_hindrance 56 = .ok (.ireturn, 1) := by decide +kernel
theorem d_Me_hindrance_57 : decode b_Me_hindrance 57 = .ok (.aload_n 2, 1) := by decide +kernel
theorem d_Me_hindrance_58 : decode b_Me_hindrance 58 = .ok (.aload_n 3, 1) := by decide +kernel
theorem d_Me_hindrance_59 : decode b_Me_hindrance 59 = .ok (.invokevirtual 31, 3) := by decide +kernel
theorem d_Me_hindrance_62 : decode b_Me_hindrance 62 = .ok (.ifCond .eq 7, 3) := by decide +kernel
theorem d_Me_hindrance_65 : decode b_Me_hindrance 65 = .ok (.iconst 0, 1) := by decide +kernel
theorem d_Me_hindrance_66 : decode b_Me_hindrance 66 = .ok (.goto 5, 3) := by decide +kernel
theorem d_Me_hindrance_69 : decode b_Me_hindrance 69 = .ok (.bipush 11, 2) := by decide +kernel
theorem d_Me_hindrance_71 : decode b_Me_hindrance 71 = .ok (.ireturn, 1) := by decide +kernel
theorem d_Me_carryOut_0 : decode b_Me_carryOut 0 = .ok (.aload_n 1, 1) := by decide +kernel
theorem d_Me_carryOut_1 : decode b_Me_carryOut 1 = .ok (.aload_n 0, 1) := by decide +kernel
theorem d_Me_carryOut_2 : decode b_Me_carryOut 2 = .ok (.getfield 9, 3) := by decide +kernel
theorem d_Me_carryOut_5 : decode b_Me_carryOut 5 = .ok (.aaload, 1) := by decide +kernel
theorem d_Me_carryOut_6 : decode b_Me_carryOut 6 = .ok (.astore_n 2, 1) := by decide +kernel
theorem d_Me_carryOut_7 : decode b_Me_carryOut 7 = .ok (.aload_n 1, 1) := by decide +kernel
theorem d_Me_carryOut_8 : decode b_Me_carryOut 8 = .ok (.aload_n 0, 1) := by decide +kernel
theorem d_Me_carryOut_9 : decode b_Me_carryOut 9 = .ok (.getfield 15, 3) := by decide +kernel
theorem d_Me_carryOut_12 : decode b_Me_carryOut 12 = .ok (.aaload, 1) := by decide +kernel
theorem d_Me_carryOut_13 : decode b_Me_carryOut 13 = .ok (.astore_n 3, 1) := by decide +kernel
theorem d_Me_carryOut_14 : decode b_Me_carryOut 14 = .ok (.aload_n 1, 1) := by decide +kernel
theorem d_Me_carryOut_15 : decode b_Me_carryOut 15 = .ok (.iconst 2, 1) := by decide +kernel
theorem d_Me_carryOut_16 : decode b_Me_carryOut 16 = .ok (.aload_n 0, 1) := by decide +kernel
theorem d_Me_carryOut_17 : decode b_Me_carryOut 17 = .ok (.getfield 34, 3) := by decide +kernel
theorem d_Me_carryOut_20 : decode b_Me_carryOut 20 = .ok (.imul, 1) := by decide +kernel
theorem d_Me_carryOut_21 : decode b_Me_carryOut 21 = .ok (.aaload, 1) := by decide +kernel
theorem d_Me_carryOut_22 : decode b_Me_carryOut 22 = .ok (.astore 4, 2) := by decide +kernel
theorem d_Me_carryOut_24 : decode b_Me_carryOut 24 = .ok (.aload_n 2, 1) := by decide +kernel
theorem d_Me_carryOut_25 : decode b_Me_carryOut 25 = .ok (.iconst 0, 1) := by decide +kernel
theorem d_Me_carryOut_26 : decode b_Me_carryOut 26 = .ok (.putfield 18, 3) := by decide +kernel
theorem d_Me_carryOut_29 : decode b_Me_carryOut 29 = .ok (.aload_n 3, 1) := by decide +kernel
theorem d_Me_carryOut_30 : decode b_Me_carryOut 30 = .ok (.iconst 0, 1) := by decide +kernel
theorem d_Me_carryOut_31 : decode b_Me_carryOut 31 = .ok (.putfield 18, 3) := by decide +kernel
theorem d_Me_carryOut_34 : decode b_Me_carryOut 34 = .ok (.aload 4, 2) := by decide +kernel
theorem d_Me_carryOut_36 : decode b_Me_carryOut 36 = .ok (.aload_n 2, 1) := by decide +kernel
theorem d_Me_carryOut_37 : decode b_Me_carryOut 37 = .ok (.aload_n 2, 1) := by decide +kernel
theorem d_Me_carryOut_38 : decode b_Me_carryOut 38 = .ok (.getfield 37, 3) := by decide +kernel
theorem d_Me_carryOut_41 : decode b_Me_carryOut 41 = .ok (.aload_n 3, 1) := by decide +kernel
theorem d_Me_carryOut_42 : decode b_Me_carryOut 42 = .ok (.getfield 37, 3) := by decide +kernel
theorem d_Me_carryOut_45 : decode b_Me_carryOut 45 = .ok (.ladd, 1) := by decide +kernel
theorem d_Me_carryOut_46 : decode b_Me_carryOut 46 = .ok (.invokevirtual 41, 3) := by decide +kernel
theorem d_Me_carryOut_49 : decode b_Me_carryOut 49 = .ok (.aload 4, 2) := by decide +kernel
theorem d_Me_carryOut_51 : decode b_Me_carryOut 51 = .ok (.aload_n 0, 1) := by decide +kernel
theorem d_Me_carryOut_52 : decode b_Me_carryOut 52 = .ok (.getfield 9, 3) := by decide +kernel
theorem d_Me_carryOut_55 : decode b_Me_carryOut 55 = .ok (.putfield 45, 3) := by decide +kernel
theorem d_Me_carryOut_58 : decode b_Me_carryOut 58 = .ok (.aload 4, 2) := by decide +kernel
theorem d_Me_carryOut_60 : decode b_Me_carryOut 60 = .ok (.aload_n 0, 1) := by decide +kernel
theorem d_Me_carryOut_61 : decode b_Me_carryOut 61 = .ok (.getfield 15, 3) := by decide +kernel
theorem d_Me_carryOut_64 : decode b_Me_carryOut 64 = .ok (.putfield 48, 3) := by decide +kernel
theorem d_Me_carryOut_67 : decode b_Me_carryOut 67 = .ok (.return_, 1) := by decide +kernel
theorem d_De_init_0 : decode b_De_init 0 = .ok (.aload_n 0, 1) := by decide +kernel
theorem d_De_init_1 : decode b_De_init 1 = .ok (.invokespecial 3, 3) := by decide +kernel
theorem d_De_init_4 : decode b_De_init 4 = .ok (.aload_n 0, 1) := by decide +kernel
theorem d_De_init_5 : decode b_De_init 5 = .ok (.iconst (-1), 1) := by decide +kernel
theorem d_De_init_6 : decode b_De_init 6 = .ok (.putfield 9, 3) := by decide +kernel
theorem d_De_init_9 : decode b_De_init 9 = .ok (.return_, 1) := by decide +kernel
theorem d_Ar_fill_0 : decode b_Ar_fill 0 = .ok (.iconst 0, 1) := by decide +kernel
theorem d_Ar_fill_1 : decode b_Ar_fill 1 = .ok (.istore_n 3, 1) := by decide +kernel
theorem d_Ar_fill_2 : decode b_Ar_fill 2 = .ok (.aload_n 0, 1) := by decide +kernel
theorem d_Ar_fill_3 : decode b_Ar_fill 3 = .ok (.arraylength, 1) := by decide +kernel
theorem d_Ar_fill_4 : decode b_Ar_fill 4 = .ok (.istore 4, 2) := by decide +kernel
theorem d_Ar_fill_6 : decode b_Ar_fill 6 = .ok (.iload_n 3, 1) := by decide +kernel
theorem d_Ar_fill_7 : decode b_Ar_fill 7 = .ok (.iload 4, 2) := by decide +kernel
theorem d_Ar_fill_9 : decode b_Ar_fill 9 = .ok (.if_icmp .ge 13, 3) := by decide +kernel
theorem d_Ar_fill_12 : decode b_Ar_fill 12 = .ok (.aload_n 0, 1) := by decide +kernel
theorem d_Ar_fill_13 : decode b_Ar_fill 13 = .ok (.iload_n 3, 1) := by decide +kernel
theorem d_Ar_fill_14 : decode b_Ar_fill 14 = .ok (.lload_n 1, 1) := by decide +kernel
theorem d_Ar_fill_15 : decode b_Ar_fill 15 = .ok (.lastore, 1) := by decide +kernel
theorem d_Ar_fill_16 : decode b_Ar_fill 16 = .ok (.iinc 3 1, 3) := by decide +kernel
theorem d_Ar_fill_19 : decode b_Ar_fill 19 = .ok (.goto (-13), 3) := by decide +kernel
theorem d_Ar_fill_22 : decode b_Ar_fill 22 = .ok (.return_, 1) := by decide +kernel
