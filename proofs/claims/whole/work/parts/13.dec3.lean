theorem d_W_found_0 : decode b_W_found 0 = .ok (.aload 4, 2) := by decide +kernel
theorem d_W_found_2 : decode b_W_found 2 = .ok (.iconst 0, 1) := by decide +kernel
theorem d_W_found_3 : decode b_W_found 3 = .ok (.aload_n 0, 1) := by decide +kernel
theorem d_W_found_4 : decode b_W_found 4 = .ok (.iload_n 1, 1) := by decide +kernel
theorem d_W_found_5 : decode b_W_found 5 = .ok (.iload_n 2, 1) := by decide +kernel
theorem d_W_found_6 : decode b_W_found 6 = .ok (.iload_n 3, 1) := by decide +kernel
theorem d_W_found_7 : decode b_W_found 7 = .ok (.invokevirtual 7, 3) := by decide +kernel
theorem d_W_found_10 : decode b_W_found 10 = .ok (.i2l, 1) := by decide +kernel
theorem d_W_found_11 : decode b_W_found 11 = .ok (.lastore, 1) := by decide +kernel
theorem d_W_found_12 : decode b_W_found 12 = .ok (.goto 11, 3) := by decide +kernel
theorem d_W_found_15 : decode b_W_found 15 = .ok (.astore 5, 2) := by decide +kernel
theorem d_W_found_17 : decode b_W_found 17 = .ok (.iconst 1, 1) := by decide +kernel
theorem d_W_found_18 : decode b_W_found 18 = .ok (.ireturn, 1) := by decide +kernel
theorem d_W_found_19 : decode b_W_found 19 = .ok (.astore 5, 2) := by decide +kernel
theorem d_W_found_21 : decode b_W_found 21 = .ok (.iconst 2, 1) := by decide +kernel
theorem d_W_found_22 : decode b_W_found 22 = .ok (.ireturn, 1) := by decide +kernel
theorem d_W_found_23 : decode b_W_found 23 = .ok (.iconst 0, 1) := by decide +kernel
theorem d_W_found_24 : decode b_W_found 24 = .ok (.ireturn, 1) := by decide +kernel
theorem d_W_sell_0 : decode b_W_sell 0 = .ok (.aload 7, 2) := by decide +kernel
theorem d_W_sell_2 : decode b_W_sell 2 = .ok (.iconst 0, 1) := by decide +kernel
theorem d_W_sell_3 : decode b_W_sell 3 = .ok (.aload_n 0, 1) := by decide +kernel
theorem d_W_sell_4 : decode b_W_sell 4 = .ok (.iload_n 1, 1) := by decide +kernel
theorem d_W_sell_5 : decode b_W_sell 5 = .ok (.iload_n 2, 1) := by decide +kernel
theorem d_W_sell_6 : decode b_W_sell 6 = .ok (.iload_n 3, 1) := by decide +kernel
theorem d_W_sell_7 : decode b_W_sell 7 = .ok (.iload 4, 2) := by decide +kernel
theorem d_W_sell_9 : decode b_W_sell 9 = .ok (.lload 5, 2) := by decide +kernel
theorem d_W_sell_11 : decode b_W_sell 11 = .ok (.invokevirtual 17, 3) := by decide +kernel
theorem d_W_sell_14 : decode b_W_sell 14 = .ok (.i2l, 1) := by decide +kernel
theorem d_W_sell_15 : decode b_W_sell 15 = .ok (.lastore, 1) := by decide +kernel
theorem d_W_sell_16 : decode b_W_sell 16 = .ok (.goto 11, 3) := by decide +kernel
theorem d_W_sell_19 : decode b_W_sell 19 = .ok (.astore 8, 2) := by decide +kernel
theorem d_W_sell_21 : decode b_W_sell 21 = .ok (.iconst 1, 1) := by decide +kernel
theorem d_W_sell_22 : decode b_W_sell 22 = .ok (.ireturn, 1) := by decide +kernel
theorem d_W_sell_23 : decode b_W_sell 23 = .ok (.astore 8, 2) := by decide +kernel
theorem d_W_sell_25 : decode b_W_sell 25 = .ok (.iconst 2, 1) := by decide +kernel
theorem d_W_sell_26 : decode b_W_sell 26 = .ok (.ireturn, 1) := by decide +kernel
theorem d_W_sell_27 : decode b_W_sell 27 = .ok (.iconst 0, 1) := by decide +kernel
theorem d_W_sell_28 : decode b_W_sell 28 = .ok (.ireturn, 1) := by decide +kernel
theorem d_W_pledge_0 : decode b_W_pledge 0 = .ok (.aload 5, 2) := by decide +kernel
theorem d_W_pledge_2 : decode b_W_pledge 2 = .ok (.iconst 0, 1) := by decide +kernel
theorem d_W_pledge_3 : decode b_W_pledge 3 = .ok (.aload_n 0, 1) := by decide +kernel
theorem d_W_pledge_4 : decode b_W_pledge 4 = .ok (.iload_n 1, 1) := by decide +kernel
theorem d_W_pledge_5 : decode b_W_pledge 5 = .ok (.iload_n 2, 1) := by decide +kernel
theorem d_W_pledge_6 : decode b_W_pledge 6 = .ok (.iload_n 3, 1) := by decide +kernel
theorem d_W_pledge_7 : decode b_W_pledge 7 = .ok (.iload 4, 2) := by decide +kernel
theorem d_W_pledge_9 : decode b_W_pledge 9 = .ok (.invokevirtual 21, 3) := by decide +kernel
theorem d_W_pledge_12 : decode b_W_pledge 12 = .ok (.i2l, 1) := by decide +kernel
theorem d_W_pledge_13 : decode b_W_pledge 13 = .ok (.lastore, 1) := by decide +kernel
theorem d_W_pledge_14 : decode b_W_pledge 14 = .ok (.goto 11, 3) := by decide +kernel
theorem d_W_pledge_17 : decode b_W_pledge 17 = .ok (.astore 6, 2) := by decide +kernel
theorem d_W_pledge_19 : decode b_W_pledge 19 = .ok (.iconst 1, 1) := by decide +kernel
theorem d_W_pledge_20 : decode b_W_pledge 20 = .ok (.ireturn, 1) := by decide +kernel
theorem d_W_pledge_21 : decode b_W_pledge 21 = .ok (.astore 6, 2) := by decide +kernel
theorem d_W_pledge_23 : decode b_W_pledge 23 = .ok (.iconst 2, 1) := by decide +kernel
theorem d_W_pledge_24 : decode b_W_pledge 24 = .ok (.ireturn, 1) := by decide +kernel
theorem d_W_pledge_25 : decode b_W_pledge 25 = .ok (.iconst 0, 1) := by decide +kernel
theorem d_W_pledge_26 : decode b_W_pledge 26 = .ok (.ireturn, 1) := by decide +kernel
theorem d_W_rerank_0 : decode b_W_rerank 0 = .ok (.aload 6, 2) := by decide +kernel
theorem d_W_rerank_2 : decode b_W_rerank 2 = .ok (.iconst 0, 1) := by decide +kernel
theorem d_W_rerank_3 : decode b_W_rerank 3 = .ok (.aload_n 0, 1) := by decide +kernel
theorem d_W_rerank_4 : decode b_W_rerank 4 = .ok (.iload_n 1, 1) := by decide +kernel
theorem d_W_rerank_5 : decode b_W_rerank 5 = .ok (.iload_n 2, 1) := by decide +kernel
theorem d_W_rerank_6 : decode b_W_rerank 6 = .ok (.iload_n 3, 1) := by decide +kernel
theorem d_W_rerank_7 : decode b_W_rerank 7 = .ok (.iload 4, 2) := by decide +kernel
theorem d_W_rerank_9 : decode b_W_rerank 9 = .ok (.iload 5, 2) := by decide +kernel
theorem d_W_rerank_11 : decode b_W_rerank 11 = .ok (.invokevirtual 25, 3) := by decide +kernel
theorem d_W_rerank_14 : decode b_W_rerank 14 = .ok (.i2l, 1) := by decide +kernel
theorem d_W_rerank_15 : decode b_W_rerank 15 = .ok (.lastore, 1) := by decide +kernel
theorem d_W_rerank_16 : decode b_W_rerank 16 = .ok (.goto 11, 3) := by decide +kernel
theorem d_W_rerank_19 : decode b_W_rerank 19 = .ok (.astore 7, 2) := by decide +kernel
theorem d_W_rerank_21 : decode b_W_rerank 21 = .ok (.iconst 1, 1) := by decide +kernel
theorem d_W_rerank_22 : decode b_W_rerank 22 = .ok (.ireturn, 1) := by decide +kernel
theorem d_W_rerank_23 : decode b_W_rerank 23 = .ok (.astore 7, 2) := by decide +kernel
theorem d_W_rerank_25 : decode b_W_rerank 25 = .ok (.iconst 2, 1) := by decide +kernel
theorem d_W_rerank_26 : decode b_W_rerank 26 = .ok (.ireturn, 1) := by decide +kernel
theorem d_W_rerank_27 : decode b_W_rerank 27 = .ok (.iconst 0, 1) := by decide +kernel
theorem d_W_rerank_28 : decode b_W_rerank 28 = .ok (.ireturn, 1) := by decide +kernel
theorem d_W_release_0 : decode b_W_release 0 = .ok (.aload 4, 2) := by decide +kernel
theorem d_W_release_2 : decode b_W_release 2 = .ok (.iconst 0, 1) := by decide +kernel
theorem d_W_release_3 : decode b_W_release 3 = .ok (.aload_n 0, 1) := by decide +kernel
theorem d_W_release_4 : decode b_W_release 4 = .ok (.iload_n 1, 1) := by decide +kernel
theorem d_W_release_5 : decode b_W_release 5 = .ok (.iload_n 2, 1) := by decide +kernel
theorem d_W_release_6 : decode b_W_release 6 = .ok (.iload_n 3, 1) := by decide +kernel
theorem d_W_release_7 : decode b_W_release 7 = .ok (.invokevirtual 29, 3) := by decide +kernel
theorem d_W_release_10 : decode b_W_release 10 = .ok (.i2l, 1) := by decide +kernel
theorem d_W_release_11 : decode b_W_release 11 = .ok (.lastore, 1) := by decide +kernel
theorem d_W_release_12 : decode b_W_release 12 = .ok (.goto 11, 3) := by decide +kernel
theorem d_W_release_15 : decode b_W_release 15 = .ok (.astore 5, 2) := by decide +kernel
theorem d_W_release_17 : decode b_W_release 17 = .ok (.iconst 1, 1) := by decide +kernel
theorem d_W_release_18 : decode b_W_release 18 = .ok (.ireturn, 1) := by decide +kernel
theorem d_W_release_19 : decode b_W_release 19 = .ok (.astore 5, 2) := by decide +kernel
theorem d_W_release_21 : decode b_W_release 21 = .ok (.iconst 2, 1) := by decide +kernel
theorem d_W_release_22 : decode b_W_release 22 = .ok (.ireturn, 1) := by decide +kernel
theorem d_W_release_23 : decode b_W_release 23 = .ok (.iconst 0, 1) := by decide +kernel
theorem d_W_release_24 : decode b_W_release 24 = .ok (.ireturn, 1) := by decide +kernel
theorem d_W_caution_0 : decode b_W_caution 0 = .ok (.aload 4, 2) := by decide +kernel
theorem d_W_caution_2 : decode b_W_caution 2 = .ok (.iconst 0, 1) := by decide +kernel
theorem d_W_caution_3 : decode b_W_caution 3 = .ok (.aload_n 0, 1) := by decide +kernel
theorem d_W_caution_4 : decode b_W_caution 4 = .ok (.iload_n 1, 1) := by decide +kernel
theorem d_W_caution_5 : decode b_W_caution 5 = .ok (.iload_n 2, 1) := by decide +kernel
theorem d_W_caution_6 : decode b_W_caution 6 = .ok (.iload_n 3, 1) := by decide +kernel
theorem d_W_caution_7 : decode b_W_caution 7 = .ok (.invokevirtual 32, 3) := by decide +kernel
theorem d_W_caution_10 : decode b_W_caution 10 = .ok (.i2l, 1) := by decide +kernel
theorem d_W_caution_11 : decode b_W_caution 11 = .ok (.lastore, 1) := by decide +kernel
theorem d_W_caution_12 : decode b_W_caution 12 = .ok (.goto 11, 3) := by decide +kernel
theorem d_W_caution_15 : decode b_W_caution 15 = .ok (.astore 5, 2) := by decide +kernel
theorem d_W_caution_17 : decode b_W_caution 17 = .ok (.iconst 1, 1) := by decide +kernel
theorem d_W_caution_18 : decode b_W_caution 18 = .ok (.ireturn, 1) := by decide +kernel
theorem d_W_caution_19 : decode b_W_caution 19 = .ok (.astore 5, 2) := by decide +kernel
theorem d_W_caution_21 : decode b_W_caution 21 = .ok (.iconst 2, 1) := by decide +kernel
theorem d_W_caution_22 : decode b_W_caution 22 = .ok (.ireturn, 1) := by decide +kernel
theorem d_W_caution_23 : decode b_W_caution 23 = .ok (.iconst 0, 1) := by decide +kernel
theorem d_W_caution_24 : decode b_W_caution 24 = .ok (.ireturn, 1) := by decide +kernel
theorem d_W_lift_0 : decode b_W_lift 0 = .ok (.aload 4, 2) := by decide +kernel
theorem d_W_lift_2 : decode b_W_lift 2 = .ok (.iconst 0, 1) := by decide +kernel
theorem d_W_lift_3 : decode b_W_lift 3 = .ok (.aload_n 0, 1) := by decide +kernel
theorem d_W_lift_4 : decode b_W_lift 4 = .ok (.iload_n 1, 1) := by decide +kernel
theorem d_W_lift_5 : decode b_W_lift 5 = .ok (.iload_n 2, 1) := by decide +kernel
theorem d_W_lift_6 : decode b_W_lift 6 = .ok (.iload_n 3, 1) := by decide +kernel
theorem d_W_lift_7 : decode b_W_lift 7 = .ok (.invokevirtual 35, 3) := by decide +kernel
theorem d_W_lift_10 : decode b_W_lift 10 = .ok (.i2l, 1) := by decide +kernel
theorem d_W_lift_11 : decode b_W_lift 11 = .ok (.lastore, 1) := by decide +kernel
theorem d_W_lift_12 : decode b_W_lift 12 = .ok (.goto 11, 3) := by decide +kernel
theorem d_W_lift_15 : decode b_W_lift 15 = .ok (.astore 5, 2) := by decide +kernel
theorem d_W_lift_17 : decode b_W_lift 17 = .ok (.iconst 1, 1) := by decide +kernel
theorem d_W_lift_18 : decode b_W_lift 18 = .ok (.ireturn, 1) := by decide +kernel
theorem d_W_lift_19 : decode b_W_lift 19 = .ok (.astore 5, 2) := by decide +kernel
theorem d_W_lift_21 : decode b_W_lift 21 = .ok (.iconst 2, 1) := by decide +kernel
theorem d_W_lift_22 : decode b_W_lift 22 = .ok (.ireturn, 1) := by decide +kernel
theorem d_W_lift_23 : decode b_W_lift 23 = .ok (.iconst 0, 1) := by decide +kernel
theorem d_W_lift_24 : decode b_W_lift 24 = .ok (.ireturn, 1) := by decide +kernel
theorem d_W_split_0 : decode b_W_split 0 = .ok (.aload 4, 2) := by decide +kernel
theorem d_W_split_2 : decode b_W_split 2 = .ok (.iconst 0, 1) := by decide +kernel
theorem d_W_split_3 : decode b_W_split 3 = .ok (.aload_n 0, 1) := by decide +kernel
theorem d_W_split_4 : decode b_W_split 4 = .ok (.iload_n 1, 1) := by decide +kernel
theorem d_W_split_5 : decode b_W_split 5 = .ok (.iload_n 2, 1) := by decide +kernel
theorem d_W_split_6 : decode b_W_split 6 = .ok (.iload_n 3, 1) := by decide +kernel
theorem d_W_split_7 : decode b_W_split 7 = .ok (.invokevirtual 38, 3) := by decide +kernel
theorem d_W_split_10 : decode b_W_split 10 = .ok (.i2l, 1) := by decide +kernel
theorem d_W_split_11 : decode b_W_split 11 = .ok (.lastore, 1) := by decide +kernel
theorem d_W_split_12 : decode b_W_split 12 = .ok (.goto 11, 3) := by decide +kernel
theorem d_W_split_15 : decode b_W_split 15 = .ok (.astore 5, 2) := by decide +kernel
theorem d_W_split_17 : decode b_W_split 17 = .ok (.iconst 1, 1) := by decide +kernel
theorem d_W_split_18 : decode b_W_split 18 = .ok (.ireturn, 1) := by decide +kernel
theorem d_W_split_19 : decode b_W_split 19 = .ok (.astore 5, 2) := by decide +kernel
theorem d_W_split_21 : decode b_W_split 21 = .ok (.iconst 2, 1) := by decide +kernel
theorem d_W_split_22 : decode b_W_split 22 = .ok (.ireturn, 1) := by decide +kernel
theorem d_W_split_23 : decode b_W_split 23 = .ok (.iconst 0, 1) := by decide +kernel
theorem d_W_split_24 : decode b_W_split 24 = .ok (.ireturn, 1) := by decide +kernel
theorem d_W_merge_0 : decode b_W_merge 0 = .ok (.aload 4, 2) := by decide +kernel
theorem d_W_merge_2 : decode b_W_merge 2 = .ok (.iconst 0, 1) := by decide +kernel
theorem d_W_merge_3 : decode b_W_merge 3 = .ok (.aload_n 0, 1) := by decide +kernel
theorem d_W_merge_4 : decode b_W_merge 4 = .ok (.iload_n 1, 1) := by decide +kernel
theorem d_W_merge_5 : decode b_W_merge 5 = .ok (.iload_n 2, 1) := by decide +kernel
theorem d_W_merge_6 : decode b_W_merge 6 = .ok (.iload_n 3, 1) := by decide +kernel
theorem d_W_merge_7 : decode b_W_merge 7 = .ok (.invokevirtual 41, 3) := by decide +kernel
theorem d_W_merge_10 : decode b_W_merge 10 = .ok (.i2l, 1) := by decide +kernel
theorem d_W_merge_11 : decode b_W_merge 11 = .ok (.lastore, 1) := by decide +kernel
theorem d_W_merge_12 : decode b_W_merge 12 = .ok (.goto 11, 3) := by decide +kernel
theorem d_W_merge_15 : decode b_W_merge 15 = .ok (.astore 5, 2) := by decide +kernel
theorem d_W_merge_17 : decode b_W_merge 17 = .ok (.iconst 1, 1) := by decide +kernel
theorem d_W_merge_18 : decode b_W_merge 18 = .ok (.ireturn, 1) := by decide +kernel
theorem d_W_merge_19 : decode b_W_merge 19 = .ok (.astore 5, 2) := by decide +kernel
theorem d_W_merge_21 : decode b_W_merge 21 = .ok (.iconst 2, 1) := by decide +kernel
theorem d_W_merge_22 : decode b_W_merge 22 = .ok (.ireturn, 1) := by decide +kernel
theorem d_W_merge_23 : decode b_W_merge 23 = .ok (.iconst 0, 1) := by decide +kernel
theorem d_W_merge_24 : decode b_W_merge 24 = .ok (.ireturn, 1) := by decide +kernel
theorem d_W_day_0 : decode b_W_day 0 = .ok (.aload_n 1, 1) := by decide +kernel
theorem d_W_day_1 : decode b_W_day 1 = .ok (.iconst 0, 1) := by decide +kernel
theorem d_W_day_2 : decode b_W_day 2 = .ok (.aload_n 0, 1) := by decide +kernel
theorem d_W_day_3 : decode b_W_day 3 = .ok (.invokevirtual 44, 3) := by decide +kernel
theorem d_W_day_6 : decode b_W_day 6 = .ok (.i2l, 1) := by decide +kernel
theorem d_W_day_7 : decode b_W_day 7 = .ok (.lastore, 1) := by decide +kernel
theorem d_W_day_8 : decode b_W_day 8 = .ok (.goto 6, 3) := by decide +kernel
theorem d_W_day_11 : decode b_W_day 11 = .ok (.astore_n 2, 1) := by decide +kernel
theorem d_W_day_12 : decode b_W_day 12 = .ok (.iconst 1, 1) := by decide +kernel
theorem d_W_day_13 : decode b_W_day 13 = .ok (.ireturn, 1) := by decide +kernel
theorem d_W_day_14 : decode b_W_day 14 = .ok (.iconst 0, 1) := by decide +kernel
theorem d_W_day_15 : decode b_W_day 15 = .ok (.ireturn, 1) := by decide +kernel
theorem d_W_view_0 : decode b_W_view 0 = .ok (.aload_n 3, 1) := by decide +kernel
theorem d_W_view_1 : decode b_W_view 1 = .ok (.iconst 0, 1) := by decide +kernel
theorem d_W_view_2 : decode b_W_view 2 = .ok (.aload_n 0, 1) := by decide +kernel
theorem d_W_view_3 : decode b_W_view 3 = .ok (.iload_n 1, 1) := by decide +kernel
theorem d_W_view_4 : decode b_W_view 4 = .ok (.iload_n 2, 1) := by decide +kernel
theorem d_W_view_5 : decode b_W_view 5 = .ok (.invokevirtual 48, 3) := by decide +kernel
theorem d_W_view_8 : decode b_W_view 8 = .ok (.i2l, 1) := by decide +kernel
theorem d_W_view_9 : decode b_W_view 9 = .ok (.lastore, 1) := by decide +kernel
theorem d_W_view_10 : decode b_W_view 10 = .ok (.goto 7, 3) := by decide +kernel
theorem d_W_view_13 : decode b_W_view 13 = .ok (.astore 4, 2) := by decide +kernel
theorem d_W_view_15 : decode b_W_view 15 = .ok (.iconst 1, 1) := by decide +kernel
theorem d_W_view_16 : decode b_W_view 16 = .ok (.ireturn, 1) := by decide +kernel
theorem d_W_view_17 : decode b_W_view 17 = .ok (.iconst 0, 1) := by decide +kernel
theorem d_W_view_18 : decode b_W_view 18 = .ok (.ireturn, 1) := by decide +kernel
theorem d_W_area_0 : decode b_W_area 0 = .ok (.aload_n 2, 1) := by decide +kernel
theorem d_W_area_1 : decode b_W_area 1 = .ok (.iconst 0, 1) := by decide +kernel
theorem d_W_area_2 : decode b_W_area 2 = .ok (.aload_n 0, 1) := by decide +kernel
theorem d_W_area_3 : decode b_W_area 3 = .ok (.iload_n 1, 1) := by decide +kernel
theorem d_W_area_4 : decode b_W_area 4 = .ok (.invokevirtual 52, 3) := by decide +kernel
theorem d_W_area_7 : decode b_W_area 7 = .ok (.lastore, 1) := by decide +kernel
theorem d_W_area_8 : decode b_W_area 8 = .ok (.goto 6, 3) := by decide +kernel
theorem d_W_area_11 : decode b_W_area 11 = .ok (.astore_n 3, 1) := by decide +kernel
theorem d_W_area_12 : decode b_W_area 12 = .ok (.iconst 1, 1) := by decide +kernel
theorem d_W_area_13 : decode b_W_area 13 = .ok (.ireturn, 1) := by decide +kernel
theorem d_W_area_14 : decode b_W_area 14 = .ok (.iconst 0, 1) := by decide +kernel
theorem d_W_area_15 : decode b_W_area 15 = .ok (.ireturn, 1) := by decide +kernel
theorem d_W_share_0 : decode b_W_share 0 = .ok (.aload_n 3, 1) := by decide +kernel
theorem d_W_share_1 : decode b_W_share 1 = .ok (.iconst 0, 1) := by decide +kernel
theorem d_W_share_2 : decode b_W_share 2 = .ok (.aload_n 0, 1) := by decide +kernel
theorem d_W_share_3 : decode b_W_share 3 = .ok (.iload_n 1, 1) := by decide +kernel
theorem d_W_share_4 : decode b_W_share 4 = .ok (.iload_n 2, 1) := by decide +kernel
theorem d_W_share_5 : decode b_W_share 5 = .ok (.invokevirtual 56, 3) := by decide +kernel
theorem d_W_share_8 : decode b_W_share 8 = .ok (.lastore, 1) := by decide +kernel
theorem d_W_share_9 : decode b_W_share 9 = .ok (.goto 7, 3) := by decide +kernel
theorem d_W_share_12 : decode b_W_share 12 = .ok (.astore 4, 2) := by decide +kernel
theorem d_W_share_14 : decode b_W_share 14 = .ok (.iconst 1, 1) := by decide +kernel
theorem d_W_share_15 : decode b_W_share 15 = .ok (.ireturn, 1) := by decide +kernel
theorem d_W_share_16 : decode b_W_share 16 = .ok (.iconst 0, 1) := by decide +kernel
theorem d_W_share_17 : decode b_W_share 17 = .ok (.ireturn, 1) := by decide +kernel
theorem d_W_mortgage_0 : decode b_W_mortgage 0 = .ok (.aload 4, 2) := by decide +kernel
theorem d_W_mortgage_2 : decode b_W_mortgage 2 = .ok (.iconst 0, 1) := by decide +kernel
theorem d_W_mortgage_3 : decode b_W_mortgage 3 = .ok (.aload_n 0, 1) := by decide +kernel
theorem d_W_mortgage_4 : decode b_W_mortgage 4 = .ok (.iload_n 1, 1) := by decide +kernel
theorem d_W_mortgage_5 : decode b_W_mortgage 5 = .ok (.iload_n 2, 1) := by decide +kernel
theorem d_W_mortgage_6 : decode b_W_mortgage 6 = .ok (.iload_n 3, 1) := by decide +kernel
theorem d_W_mortgage_7 : decode b_W_mortgage 7 = .ok (.invokevirtual 60, 3) := by decide +kernel
theorem d_W_mortgage_10 : decode b_W_mortgage 10 = .ok (.i2l, 1) := by decide +kernel
theorem d_W_mortgage_11 : decode b_W_mortgage 11 = .ok (.lastore, 1) := by decide +kernel
theorem d_W_mortgage_12 : decode b_W_mortgage 12 = .ok (.goto 7, 3) := by decide +kernel
theorem d_W_mortgage_15 : decode b_W_mortgage 15 = .ok (.astore 5, 2) := by decide +kernel
theorem d_W_mortgage_17 : decode b_W_mortgage 17 = .ok (.iconst 1, 1) := by decide +kernel
theorem d_W_mortgage_18 : decode b_W_mortgage 18 = .ok (.ireturn, 1) := by decide +kernel
theorem d_W_mortgage_19 : decode b_W_mortgage 19 = .ok (.iconst 0, 1) := by decide +kernel
theorem d_W_mortgage_20 : decode b_W_mortgage 20 = .ok (.ireturn, 1) := by decide +kernel
theorem d_W_cautions_0 : decode b_W_cautions 0 = .ok (.aload_n 2, 1) := by decide +kernel
theorem d_W_cautions_1 : decode b_W_cautions 1 = .ok (.iconst 0, 1) := by decide +kernel
theorem d_W_cautions_2 : decode b_W_cautions 2 = .ok (.aload_n 0, 1) := by decide +kernel
theorem d_W_cautions_3 : decode b_W_cautions 3 = .ok (.iload_n 1, 1) := by decide +kernel
theorem d_W_cautions_4 : decode b_W_cautions 4 = .ok (.invokevirtual 63, 3) := by decide +kernel
theorem d_W_cautions_7 : decode b_W_cautions 7 = .ok (.i2l, 1) := by decide +kernel
theorem d_W_cautions_8 : decode b_W_cautions 8 = .ok (.lastore, 1) := by decide +kernel
theorem d_W_cautions_9 : decode b_W_cautions 9 = .ok (.goto 6, 3) := by decide +kernel
theorem d_W_cautions_12 : decode b_W_cautions 12 = .ok (.astore_n 3, 1) := by decide +kernel
theorem d_W_cautions_13 : decode b_W_cautions 13 = .ok (.iconst 1, 1) := by decide +kernel
theorem d_W_cautions_14 : decode b_W_cautions 14 = .ok (.ireturn, 1) := by decide +kernel
theorem d_W_cautions_15 : decode b_W_cautions 15 = .ok (.iconst 0, 1) := by decide +kernel
theorem d_W_cautions_16 : decode b_W_cautions 16 = .ok (.ireturn, 1) := by decide +kernel
theorem d_W_origin_0 : decode b_W_origin 0 = .ok (.aload_n 3, 1) := by decide +kernel
theorem d_W_origin_1 : decode b_W_origin 1 = .ok (.iconst 0, 1) := by decide +kernel
theorem d_W_origin_2 : decode b_W_origin 2 = .ok (.aload_n 0, 1) := by decide +kernel
theorem d_W_origin_3 : decode b_W_origin 3 = .ok (.iload_n 1, 1) := by decide +kernel
theorem d_W_origin_4 : decode b_W_origin 4 = .ok (.iload_n 2, 1) := by decide +kernel
theorem d_W_origin_5 : decode b_W_origin 5 = .ok (.invokevirtual 67, 3) := by decide +kernel
theorem d_W_origin_8 : decode b_W_origin 8 = .ok (.i2l, 1) := by decide +kernel
theorem d_W_origin_9 : decode b_W_origin 9 = .ok (.lastore, 1) := by decide +kernel
theorem d_W_origin_10 : decode b_W_origin 10 = .ok (.goto 7, 3) := by decide +kernel
theorem d_W_origin_13 : decode b_W_origin 13 = .ok (.astore 4, 2) := by decide +kernel
theorem d_W_origin_15 : decode b_W_origin 15 = .ok (.iconst 1, 1) := by decide +kernel
theorem d_W_origin_16 : decode b_W_origin 16 = .ok (.ireturn, 1) := by decide +kernel
theorem d_W_origin_17 : decode b_W_origin 17 = .ok (.iconst 0, 1) := by decide +kernel
theorem d_W_origin_18 : decode b_W_origin 18 = .ok (.ireturn, 1) := by decide +kernel
theorem d_W_holding_0 : decode b_W_holding 0 = .ok (.aload_n 3, 1) := by decide +kernel
theorem d_W_holding_1 : decode b_W_holding 1 = .ok (.iconst 0, 1) := by decide +kernel
theorem d_W_holding_2 : decode b_W_holding 2 = .ok (.aload_n 0, 1) := by decide +kernel
theorem d_W_holding_3 : decode b_W_holding 3 = .ok (.iload_n 1, 1) := by decide +kernel
theorem d_W_holding_4 : decode b_W_holding 4 = .ok (.iload_n 2, 1) := by decide +kernel
theorem d_W_holding_5 : decode b_W_holding 5 = .ok (.invokevirtual 70, 3) := by decide +kernel
theorem d_W_holding_8 : decode b_W_holding 8 = .ok (.i2l, 1) := by decide +kernel
theorem d_W_holding_9 : decode b_W_holding 9 = .ok (.lastore, 1) := by decide +kernel
theorem d_W_holding_10 : decode b_W_holding 10 = .ok (.goto 7, 3) := by decide +kernel
theorem d_W_holding_13 : decode b_W_holding 13 = .ok (.astore 4, 2) := by decide +kernel
theorem d_W_holding_15 : decode b_W_holding 15 = .ok (.iconst 1, 1) := by decide +kernel
theorem d_W_holding_16 : decode b_W_holding 16 = .ok (.ireturn, 1) := by decide +kernel
theorem d_W_holding_17 : decode b_W_holding 17 = .ok (.iconst 0, 1) := by decide +kernel
theorem d_W_holding_18 : decode b_W_holding 18 = .ok (.ireturn, 1) := by decide +kernel
theorem d_W_owed_0 : decode b_W_owed 0 = .ok (.aload_n 2, 1) := by decide +kernel
theorem d_W_owed_1 : decode b_W_owed 1 = .ok (.iconst 0, 1) := by decide +kernel
theorem d_W_owed_2 : decode b_W_owed 2 = .ok (.aload_n 0, 1) := by decide +kernel
theorem d_W_owed_3 : decode b_W_owed 3 = .ok (.iload_n 1, 1) := by decide +kernel
theorem d_W_owed_4 : decode b_W_owed 4 = .ok (.invokevirtual 73, 3) := by decide +kernel
theorem d_W_owed_7 : decode b_W_owed 7 = .ok (.lastore, 1) := by decide +kernel
theorem d_W_owed_8 : decode b_W_owed 8 = .ok (.goto 6, 3) := by decide +kernel
theorem d_W_owed_11 : decode b_W_owed 11 = .ok (.astore_n 3, 1) := by decide +kernel
theorem d_W_owed_12 : decode b_W_owed 12 = .ok (.iconst 1, 1) := by decide +kernel
theorem d_W_owed_13 : decode b_W_owed 13 = .ok (.ireturn, 1) := by decide +kernel
theorem d_W_owed_14 : decode b_W_owed 14 = .ok (.iconst 0, 1) := by decide +kernel
theorem d_W_owed_15 : decode b_W_owed 15 = .ok (.ireturn, 1) := by decide +kernel
theorem d_W_state_0 : decode b_W_state 0 = .ok (.aload_n 2, 1) := by decide +kernel
theorem d_W_state_1 : decode b_W_state 1 = .ok (.iconst 0, 1) := by decide +kernel
theorem d_W_state_2 : decode b_W_state 2 = .ok (.aload_n 0, 1) := by decide +kernel
theorem d_W_state_3 : decode b_W_state 3 = .ok (.iload_n 1, 1) := by decide +kernel
theorem d_W_state_4 : decode b_W_state 4 = .ok (.invokevirtual 76, 3) := by decide +kernel
theorem d_W_state_7 : decode b_W_state 7 = .ok (.i2l, 1) := by decide +kernel
theorem d_W_state_8 : decode b_W_state 8 = .ok (.lastore, 1) := by decide +kernel
theorem d_W_state_9 : decode b_W_state 9 = .ok (.goto 6, 3) := by decide +kernel
theorem d_W_state_12 : decode b_W_state 12 = .ok (.astore_n 3, 1) := by decide +kernel
theorem d_W_state_13 : decode b_W_state 13 = .ok (.iconst 1, 1) := by decide +kernel
theorem d_W_state_14 : decode b_W_state 14 = .ok (.ireturn, 1) := by decide +kernel
theorem d_W_state_15 : decode b_W_state 15 = .ok (.iconst 0, 1) := by decide +kernel
theorem d_W_state_16 : decode b_W_state 16 = .ok (.ireturn, 1) := by decide +kernel
