theorem dX8_shown_28 : decode cX8_shown 28 = .ok (.iload_n 2, 1) := by decide +kernel
theorem dX8_shown_29 : decode cX8_shown 29 = .ok (.bipush 60, 2) := by decide +kernel
theorem dX8_shown_31 : decode cX8_shown 31 = .ok (.idiv, 1) := by decide +kernel
theorem dX8_shown_32 : decode cX8_shown 32 = .ok (.bipush 60, 2) := by decide +kernel
theorem dX8_shown_34 : decode cX8_shown 34 = .ok (.irem, 1) := by decide +kernel
theorem dX8_shown_35 : decode cX8_shown 35 = .ok (.imul, 1) := by decide +kernel
theorem dX8_shown_36 : decode cX8_shown 36 = .ok (.iadd, 1) := by decide +kernel
theorem dX8_shown_37 : decode cX8_shown 37 = .ok (.iload_n 2, 1) := by decide +kernel
theorem dX8_shown_38 : decode cX8_shown 38 = .ok (.bipush 60, 2) := by decide +kernel
theorem dX8_shown_40 : decode cX8_shown 40 = .ok (.irem, 1) := by decide +kernel
theorem dX8_shown_41 : decode cX8_shown 41 = .ok (.iadd, 1) := by decide +kernel
theorem dX8_shown_42 : decode cX8_shown 42 = .ok (.ireturn, 1) := by decide +kernel
theorem dX8_ahead_0 : decode cX8_ahead 0 = .ok (.aload_n 0, 1) := by decide +kernel
theorem dX8_ahead_1 : decode cX8_ahead 1 = .ok (.getfield 31, 3) := by decide +kernel
theorem dX8_ahead_4 : decode cX8_ahead 4 = .ok (.invokevirtual 221, 3) := by decide +kernel
theorem dX8_ahead_7 : decode cX8_ahead 7 = .ok (.ireturn, 1) := by decide +kernel
theorem dX8_share_0 : decode cX8_share 0 = .ok (.aload_n 0, 1) := by decide +kernel
theorem dX8_share_1 : decode cX8_share 1 = .ok (.iload_n 1, 1) := by decide +kernel
theorem dX8_share_2 : decode cX8_share 2 = .ok (.invokevirtual 164, 3) := by decide +kernel
theorem dX8_share_5 : decode cX8_share 5 = .ok (.aload_n 0, 1) := by decide +kernel
theorem dX8_share_6 : decode cX8_share 6 = .ok (.getfield 31, 3) := by decide +kernel
theorem dX8_share_9 : decode cX8_share 9 = .ok (.getfield 135, 3) := by decide +kernel
theorem dX8_share_12 : decode cX8_share 12 = .ok (.ifCond .gt 5, 3) := by decide +kernel
theorem dX8_share_15 : decode cX8_share 15 = .ok (.fconst 0, 1) := by decide +kernel
theorem dX8_share_16 : decode cX8_share 16 = .ok (.freturn, 1) := by decide +kernel
theorem dX8_share_17 : decode cX8_share 17 = .ok (.aload_n 0, 1) := by decide +kernel
theorem dX8_share_18 : decode cX8_share 18 = .ok (.getfield 31, 3) := by decide +kernel
theorem dX8_share_21 : decode cX8_share 21 = .ok (.iload_n 1, 1) := by decide +kernel
theorem dX8_share_22 : decode cX8_share 22 = .ok (.invokevirtual 93, 3) := by decide +kernel
theorem dX8_share_25 : decode cX8_share 25 = .ok (.getfield 189, 3) := by decide +kernel
theorem dX8_share_28 : decode cX8_share 28 = .ok (.i2f, 1) := by decide +kernel
theorem dX8_share_29 : decode cX8_share 29 = .ok (.aload_n 0, 1) := by decide +kernel
theorem dX8_share_30 : decode cX8_share 30 = .ok (.getfield 31, 3) := by decide +kernel
theorem dX8_share_33 : decode cX8_share 33 = .ok (.getfield 135, 3) := by decide +kernel
theorem dX8_share_36 : decode cX8_share 36 = .ok (.i2f, 1) := by decide +kernel
theorem dX8_share_37 : decode cX8_share 37 = .ok (.fdiv, 1) := by decide +kernel
theorem dX8_share_38 : decode cX8_share 38 = .ok (.freturn, 1) := by decide +kernel
theorem dX8_finished_0 : decode cX8_finished 0 = .ok (.aload_n 0, 1) := by decide +kernel
theorem dX8_finished_1 : decode cX8_finished 1 = .ok (.iload_n 1, 1) := by decide +kernel
theorem dX8_finished_2 : decode cX8_finished 2 = .ok (.invokevirtual 164, 3) := by decide +kernel
theorem dX8_finished_5 : decode cX8_finished 5 = .ok (.aload_n 0, 1) := by decide +kernel
theorem dX8_finished_6 : decode cX8_finished 6 = .ok (.getfield 31, 3) := by decide +kernel
theorem dX8_finished_9 : decode cX8_finished 9 = .ok (.iload_n 1, 1) := by decide +kernel
theorem dX8_finished_10 : decode cX8_finished 10 = .ok (.invokevirtual 93, 3) := by decide +kernel
theorem dX8_finished_13 : decode cX8_finished 13 = .ok (.getfield 224, 3) := by decide +kernel
theorem dX8_finished_16 : decode cX8_finished 16 = .ok (.ireturn, 1) := by decide +kernel
theorem dX8_spent_0 : decode cX8_spent 0 = .ok (.aload_n 0, 1) := by decide +kernel
theorem dX8_spent_1 : decode cX8_spent 1 = .ok (.iload_n 1, 1) := by decide +kernel
theorem dX8_spent_2 : decode cX8_spent 2 = .ok (.invokevirtual 164, 3) := by decide +kernel
theorem dX8_spent_5 : decode cX8_spent 5 = .ok (.aload_n 0, 1) := by decide +kernel
theorem dX8_spent_6 : decode cX8_spent 6 = .ok (.iload_n 2, 1) := by decide +kernel
theorem dX8_spent_7 : decode cX8_spent 7 = .ok (.invokevirtual 157, 3) := by decide +kernel
theorem dX8_spent_10 : decode cX8_spent 10 = .ok (.aload_n 0, 1) := by decide +kernel
theorem dX8_spent_11 : decode cX8_spent 11 = .ok (.getfield 31, 3) := by decide +kernel
theorem dX8_spent_14 : decode cX8_spent 14 = .ok (.iload_n 1, 1) := by decide +kernel
theorem dX8_spent_15 : decode cX8_spent 15 = .ok (.invokevirtual 93, 3) := by decide +kernel
theorem dX8_spent_18 : decode cX8_spent 18 = .ok (.getfield 227, 3) := by decide +kernel
theorem dX8_spent_21 : decode cX8_spent 21 = .ok (.iload_n 2, 1) := by decide +kernel
theorem dX8_spent_22 : decode cX8_spent 22 = .ok (.invokestatic 231, 3) := by decide +kernel
theorem dX8_spent_25 : decode cX8_spent 25 = .ok (.ireturn, 1) := by decide +kernel
theorem dX8_longest_0 : decode cX8_longest 0 = .ok (.aload_n 0, 1) := by decide +kernel
theorem dX8_longest_1 : decode cX8_longest 1 = .ok (.iload_n 1, 1) := by decide +kernel
theorem dX8_longest_2 : decode cX8_longest 2 = .ok (.invokevirtual 164, 3) := by decide +kernel
theorem dX8_longest_5 : decode cX8_longest 5 = .ok (.aload_n 0, 1) := by decide +kernel
theorem dX8_longest_6 : decode cX8_longest 6 = .ok (.getfield 31, 3) := by decide +kernel
theorem dX8_longest_9 : decode cX8_longest 9 = .ok (.getfield 196, 3) := by decide +kernel
theorem dX8_longest_12 : decode cX8_longest 12 = .ok (.iload_n 1, 1) := by decide +kernel
theorem dX8_longest_13 : decode cX8_longest 13 = .ok (.invokevirtual 235, 3) := by decide +kernel
theorem dX8_longest_16 : decode cX8_longest 16 = .ok (.ireturn, 1) := by decide +kernel
theorem dX8_meanThink_0 : decode cX8_meanThink 0 = .ok (.aload_n 0, 1) := by decide +kernel
theorem dX8_meanThink_1 : decode cX8_meanThink 1 = .ok (.iload_n 1, 1) := by decide +kernel
theorem dX8_meanThink_2 : decode cX8_meanThink 2 = .ok (.invokevirtual 164, 3) := by decide +kernel
theorem dX8_meanThink_5 : decode cX8_meanThink 5 = .ok (.aload_n 0, 1) := by decide +kernel
theorem dX8_meanThink_6 : decode cX8_meanThink 6 = .ok (.getfield 31, 3) := by decide +kernel
theorem dX8_meanThink_9 : decode cX8_meanThink 9 = .ok (.getfield 196, 3) := by decide +kernel
theorem dX8_meanThink_12 : decode cX8_meanThink 12 = .ok (.iload_n 1, 1) := by decide +kernel
theorem dX8_meanThink_13 : decode cX8_meanThink 13 = .ok (.invokevirtual 239, 3) := by decide +kernel
theorem dX8_meanThink_16 : decode cX8_meanThink 16 = .ok (.istore_n 2, 1) := by decide +kernel
theorem dX8_meanThink_17 : decode cX8_meanThink 17 = .ok (.iload_n 2, 1) := by decide +kernel
theorem dX8_meanThink_18 : decode cX8_meanThink 18 = .ok (.ifCond .gt 5, 3) := by decide +kernel
theorem dX8_meanThink_21 : decode cX8_meanThink 21 = .ok (.dconst 0, 1) := by decide +kernel
theorem dX8_meanThink_22 : decode cX8_meanThink 22 = .ok (.dreturn, 1) := by decide +kernel
theorem dX8_meanThink_23 : decode cX8_meanThink 23 = .ok (.aload_n 0, 1) := by decide +kernel
theorem dX8_meanThink_24 : decode cX8_meanThink 24 = .ok (.getfield 31, 3) := by decide +kernel
theorem dX8_meanThink_27 : decode cX8_meanThink 27 = .ok (.getfield 196, 3) := by decide +kernel
theorem dX8_meanThink_30 : decode cX8_meanThink 30 = .ok (.iload_n 1, 1) := by decide +kernel
theorem dX8_meanThink_31 : decode cX8_meanThink 31 = .ok (.iconst 1, 1) := by decide +kernel
theorem dX8_meanThink_32 : decode cX8_meanThink 32 = .ok (.invokevirtual 242, 3) := by decide +kernel
theorem dX8_meanThink_35 : decode cX8_meanThink 35 = .ok (.i2d, 1) := by decide +kernel
theorem dX8_meanThink_36 : decode cX8_meanThink 36 = .ok (.iload_n 2, 1) := by decide +kernel
theorem dX8_meanThink_37 : decode cX8_meanThink 37 = .ok (.i2d, 1) := by decide +kernel
theorem dX8_meanThink_38 : decode cX8_meanThink 38 = .ok (.ddiv, 1) := by decide +kernel
theorem dX8_meanThink_39 : decode cX8_meanThink 39 = .ok (.dreturn, 1) := by decide +kernel
theorem dX8_gained_0 : decode cX8_gained 0 = .ok (.aload_n 0, 1) := by decide +kernel
theorem dX8_gained_1 : decode cX8_gained 1 = .ok (.iload_n 1, 1) := by decide +kernel
theorem dX8_gained_2 : decode cX8_gained 2 = .ok (.invokevirtual 164, 3) := by decide +kernel
theorem dX8_gained_5 : decode cX8_gained 5 = .ok (.aload_n 0, 1) := by decide +kernel
theorem dX8_gained_6 : decode cX8_gained 6 = .ok (.getfield 31, 3) := by decide +kernel
theorem dX8_gained_9 : decode cX8_gained 9 = .ok (.getfield 196, 3) := by decide +kernel
theorem dX8_gained_12 : decode cX8_gained 12 = .ok (.iload_n 1, 1) := by decide +kernel
theorem dX8_gained_13 : decode cX8_gained 13 = .ok (.iconst 3, 1) := by decide +kernel
theorem dX8_gained_14 : decode cX8_gained 14 = .ok (.invokevirtual 242, 3) := by decide +kernel
theorem dX8_gained_17 : decode cX8_gained 17 = .ok (.ireturn, 1) := by decide +kernel
theorem dX8_slowest_0 : decode cX8_slowest 0 = .ok (.aload_n 0, 1) := by decide +kernel
theorem dX8_slowest_1 : decode cX8_slowest 1 = .ok (.getfield 31, 3) := by decide +kernel
theorem dX8_slowest_4 : decode cX8_slowest 4 = .ok (.getfield 196, 3) := by decide +kernel
theorem dX8_slowest_7 : decode cX8_slowest 7 = .ok (.invokevirtual 245, 3) := by decide +kernel
theorem dX8_slowest_10 : decode cX8_slowest 10 = .ok (.ireturn, 1) := by decide +kernel
theorem dX8_within_0 : decode cX8_within 0 = .ok (.aload_n 0, 1) := by decide +kernel
theorem dX8_within_1 : decode cX8_within 1 = .ok (.iload_n 1, 1) := by decide +kernel
theorem dX8_within_2 : decode cX8_within 2 = .ok (.invokevirtual 164, 3) := by decide +kernel
theorem dX8_within_5 : decode cX8_within 5 = .ok (.aload_n 0, 1) := by decide +kernel
theorem dX8_within_6 : decode cX8_within 6 = .ok (.iload_n 2, 1) := by decide +kernel
theorem dX8_within_7 : decode cX8_within 7 = .ok (.invokevirtual 248, 3) := by decide +kernel
theorem dX8_within_10 : decode cX8_within 10 = .ok (.aload_n 0, 1) := by decide +kernel
theorem dX8_within_11 : decode cX8_within 11 = .ok (.getfield 31, 3) := by decide +kernel
theorem dX8_within_14 : decode cX8_within 14 = .ok (.getfield 196, 3) := by decide +kernel
theorem dX8_within_17 : decode cX8_within 17 = .ok (.iload_n 1, 1) := by decide +kernel
theorem dX8_within_18 : decode cX8_within 18 = .ok (.iload_n 2, 1) := by decide +kernel
theorem dX8_within_19 : decode cX8_within 19 = .ok (.invokevirtual 251, 3) := by decide +kernel
theorem dX8_within_22 : decode cX8_within 22 = .ok (.ireturn, 1) := by decide +kernel
theorem dX8_pace_0 : decode cX8_pace 0 = .ok (.aload_n 0, 1) := by decide +kernel
theorem dX8_pace_1 : decode cX8_pace 1 = .ok (.iload_n 1, 1) := by decide +kernel
theorem dX8_pace_2 : decode cX8_pace 2 = .ok (.invokevirtual 164, 3) := by decide +kernel
theorem dX8_pace_5 : decode cX8_pace 5 = .ok (.aload_n 0, 1) := by decide +kernel
theorem dX8_pace_6 : decode cX8_pace 6 = .ok (.getfield 31, 3) := by decide +kernel
theorem dX8_pace_9 : decode cX8_pace 9 = .ok (.iload_n 1, 1) := by decide +kernel
theorem dX8_pace_10 : decode cX8_pace 10 = .ok (.invokevirtual 93, 3) := by decide +kernel
theorem dX8_pace_13 : decode cX8_pace 13 = .ok (.astore_n 2, 1) := by decide +kernel
theorem dX8_pace_14 : decode cX8_pace 14 = .ok (.aload_n 2, 1) := by decide +kernel
theorem dX8_pace_15 : decode cX8_pace 15 = .ok (.aload_n 0, 1) := by decide +kernel
theorem dX8_pace_16 : decode cX8_pace 16 = .ok (.getfield 31, 3) := by decide +kernel
theorem dX8_pace_19 : decode cX8_pace 19 = .ok (.getfield 105, 3) := by decide +kernel
theorem dX8_pace_22 : decode cX8_pace 22 = .ok (.invokevirtual 192, 3) := by decide +kernel
theorem dX8_pace_25 : decode cX8_pace 25 = .ok (.istore_n 3, 1) := by decide +kernel
theorem dX8_pace_26 : decode cX8_pace 26 = .ok (.iload_n 3, 1) := by decide +kernel
theorem dX8_pace_27 : decode cX8_pace 27 = .ok (.iconst (-1), 1) := by decide +kernel
theorem dX8_pace_28 : decode cX8_pace 28 = .ok (.if_icmp .ne 5, 3) := by decide +kernel
theorem dX8_pace_31 : decode cX8_pace 31 = .ok (.iconst (-1), 1) := by decide +kernel
theorem dX8_pace_32 : decode cX8_pace 32 = .ok (.ireturn, 1) := by decide +kernel
theorem dX8_pace_33 : decode cX8_pace 33 = .ok (.aload_n 0, 1) := by decide +kernel
theorem dX8_pace_34 : decode cX8_pace 34 = .ok (.getfield 38, 3) := by decide +kernel
theorem dX8_pace_37 : decode cX8_pace 37 = .ok (.aload_n 0, 1) := by decide +kernel
theorem dX8_pace_38 : decode cX8_pace 38 = .ok (.getfield 31, 3) := by decide +kernel
theorem dX8_pace_41 : decode cX8_pace 41 = .ok (.getfield 105, 3) := by decide +kernel
theorem dX8_pace_44 : decode cX8_pace 44 = .ok (.aload_n 2, 1) := by decide +kernel
theorem dX8_pace_45 : decode cX8_pace 45 = .ok (.iload_n 3, 1) := by decide +kernel
theorem dX8_pace_46 : decode cX8_pace 46 = .ok (.invokevirtual 254, 3) := by decide +kernel
theorem dX8_pace_49 : decode cX8_pace 49 = .ok (.ireturn, 1) := by decide +kernel
theorem dX8_lasts_0 : decode cX8_lasts 0 = .ok (.aload_n 0, 1) := by decide +kernel
theorem dX8_lasts_1 : decode cX8_lasts 1 = .ok (.iload_n 1, 1) := by decide +kernel
theorem dX8_lasts_2 : decode cX8_lasts 2 = .ok (.invokevirtual 164, 3) := by decide +kernel
theorem dX8_lasts_5 : decode cX8_lasts 5 = .ok (.aload_n 0, 1) := by decide +kernel
theorem dX8_lasts_6 : decode cX8_lasts 6 = .ok (.iload_n 2, 1) := by decide +kernel
theorem dX8_lasts_7 : decode cX8_lasts 7 = .ok (.invokevirtual 258, 3) := by decide +kernel
theorem dX8_lasts_10 : decode cX8_lasts 10 = .ok (.aload_n 0, 1) := by decide +kernel
theorem dX8_lasts_11 : decode cX8_lasts 11 = .ok (.getfield 38, 3) := by decide +kernel
theorem dX8_lasts_14 : decode cX8_lasts 14 = .ok (.aload_n 0, 1) := by decide +kernel
theorem dX8_lasts_15 : decode cX8_lasts 15 = .ok (.getfield 31, 3) := by decide +kernel
theorem dX8_lasts_18 : decode cX8_lasts 18 = .ok (.getfield 105, 3) := by decide +kernel
theorem dX8_lasts_21 : decode cX8_lasts 21 = .ok (.aload_n 0, 1) := by decide +kernel
theorem dX8_lasts_22 : decode cX8_lasts 22 = .ok (.getfield 31, 3) := by decide +kernel
theorem dX8_lasts_25 : decode cX8_lasts 25 = .ok (.iload_n 1, 1) := by decide +kernel
theorem dX8_lasts_26 : decode cX8_lasts 26 = .ok (.invokevirtual 93, 3) := by decide +kernel
theorem dX8_lasts_29 : decode cX8_lasts 29 = .ok (.iload_n 2, 1) := by decide +kernel
theorem dX8_lasts_30 : decode cX8_lasts 30 = .ok (.iconst 0, 1) := by decide +kernel
theorem dX8_lasts_31 : decode cX8_lasts 31 = .ok (.sipush 200, 3) := by decide +kernel
theorem dX8_lasts_34 : decode cX8_lasts 34 = .ok (.invokevirtual 261, 3) := by decide +kernel
theorem dX8_lasts_37 : decode cX8_lasts 37 = .ok (.ireturn, 1) := by decide +kernel
theorem dX8_paceFor_0 : decode cX8_paceFor 0 = .ok (.aload_n 0, 1) := by decide +kernel
theorem dX8_paceFor_1 : decode cX8_paceFor 1 = .ok (.iload_n 1, 1) := by decide +kernel
theorem dX8_paceFor_2 : decode cX8_paceFor 2 = .ok (.invokevirtual 164, 3) := by decide +kernel
theorem dX8_paceFor_5 : decode cX8_paceFor 5 = .ok (.aload_n 0, 1) := by decide +kernel
theorem dX8_paceFor_6 : decode cX8_paceFor 6 = .ok (.iload_n 2, 1) := by decide +kernel
theorem dX8_paceFor_7 : decode cX8_paceFor 7 = .ok (.invokevirtual 265, 3) := by decide +kernel
theorem dX8_paceFor_10 : decode cX8_paceFor 10 = .ok (.aload_n 0, 1) := by decide +kernel
theorem dX8_paceFor_11 : decode cX8_paceFor 11 = .ok (.getfield 38, 3) := by decide +kernel
theorem dX8_paceFor_14 : decode cX8_paceFor 14 = .ok (.aload_n 0, 1) := by decide +kernel
theorem dX8_paceFor_15 : decode cX8_paceFor 15 = .ok (.getfield 31, 3) := by decide +kernel
theorem dX8_paceFor_18 : decode cX8_paceFor 18 = .ok (.getfield 105, 3) := by decide +kernel
theorem dX8_paceFor_21 : decode cX8_paceFor 21 = .ok (.aload_n 0, 1) := by decide +kernel
theorem dX8_paceFor_22 : decode cX8_paceFor 22 = .ok (.getfield 31, 3) := by decide +kernel
theorem dX8_paceFor_25 : decode cX8_paceFor 25 = .ok (.iload_n 1, 1) := by decide +kernel
theorem dX8_paceFor_26 : decode cX8_paceFor 26 = .ok (.invokevirtual 93, 3) := by decide +kernel
theorem dX8_paceFor_29 : decode cX8_paceFor 29 = .ok (.iload_n 2, 1) := by decide +kernel
theorem dX8_paceFor_30 : decode cX8_paceFor 30 = .ok (.invokevirtual 254, 3) := by decide +kernel
theorem dX8_paceFor_33 : decode cX8_paceFor 33 = .ok (.ireturn, 1) := by decide +kernel
theorem dX8_needs_0 : decode cX8_needs 0 = .ok (.aload_n 0, 1) := by decide +kernel
theorem dX8_needs_1 : decode cX8_needs 1 = .ok (.iload_n 1, 1) := by decide +kernel
theorem dX8_needs_2 : decode cX8_needs 2 = .ok (.invokevirtual 164, 3) := by decide +kernel
theorem dX8_needs_5 : decode cX8_needs 5 = .ok (.aload_n 0, 1) := by decide +kernel
theorem dX8_needs_6 : decode cX8_needs 6 = .ok (.iload_n 2, 1) := by decide +kernel
theorem dX8_needs_7 : decode cX8_needs 7 = .ok (.invokevirtual 265, 3) := by decide +kernel
theorem dX8_needs_10 : decode cX8_needs 10 = .ok (.aload_n 0, 1) := by decide +kernel
theorem dX8_needs_11 : decode cX8_needs 11 = .ok (.iload_n 3, 1) := by decide +kernel
theorem dX8_needs_12 : decode cX8_needs 12 = .ok (.invokevirtual 258, 3) := by decide +kernel
theorem dX8_needs_15 : decode cX8_needs 15 = .ok (.aload_n 0, 1) := by decide +kernel
theorem dX8_needs_16 : decode cX8_needs 16 = .ok (.getfield 38, 3) := by decide +kernel
theorem dX8_needs_19 : decode cX8_needs 19 = .ok (.aload_n 0, 1) := by decide +kernel
theorem dX8_needs_20 : decode cX8_needs 20 = .ok (.getfield 31, 3) := by decide +kernel
theorem dX8_needs_23 : decode cX8_needs 23 = .ok (.getfield 105, 3) := by decide +kernel
theorem dX8_needs_26 : decode cX8_needs 26 = .ok (.aload_n 0, 1) := by decide +kernel
theorem dX8_needs_27 : decode cX8_needs 27 = .ok (.getfield 31, 3) := by decide +kernel
theorem dX8_needs_30 : decode cX8_needs 30 = .ok (.iload_n 1, 1) := by decide +kernel
theorem dX8_needs_31 : decode cX8_needs 31 = .ok (.invokevirtual 93, 3) := by decide +kernel
theorem dX8_needs_34 : decode cX8_needs 34 = .ok (.iload_n 2, 1) := by decide +kernel
theorem dX8_needs_35 : decode cX8_needs 35 = .ok (.iload_n 3, 1) := by decide +kernel
theorem dX8_needs_36 : decode cX8_needs 36 = .ok (.invokevirtual 268, 3) := by decide +kernel
theorem dX8_needs_39 : decode cX8_needs 39 = .ok (.ireturn, 1) := by decide +kernel
theorem dX8_leftIn_0 : decode cX8_leftIn 0 = .ok (.aload_n 0, 1) := by decide +kernel
theorem dX8_leftIn_1 : decode cX8_leftIn 1 = .ok (.iload_n 1, 1) := by decide +kernel
theorem dX8_leftIn_2 : decode cX8_leftIn 2 = .ok (.invokevirtual 164, 3) := by decide +kernel
theorem dX8_leftIn_5 : decode cX8_leftIn 5 = .ok (.aload_n 0, 1) := by decide +kernel
theorem dX8_leftIn_6 : decode cX8_leftIn 6 = .ok (.iload_n 2, 1) := by decide +kernel
theorem dX8_leftIn_7 : decode cX8_leftIn 7 = .ok (.invokevirtual 248, 3) := by decide +kernel
theorem dX8_leftIn_10 : decode cX8_leftIn 10 = .ok (.aload_n 0, 1) := by decide +kernel
theorem dX8_leftIn_11 : decode cX8_leftIn 11 = .ok (.getfield 31, 3) := by decide +kernel
theorem dX8_leftIn_14 : decode cX8_leftIn 14 = .ok (.iload_n 1, 1) := by decide +kernel
theorem dX8_leftIn_15 : decode cX8_leftIn 15 = .ok (.invokevirtual 93, 3) := by decide +kernel
theorem dX8_leftIn_18 : decode cX8_leftIn 18 = .ok (.astore_n 3, 1) := by decide +kernel
theorem dX8_leftIn_19 : decode cX8_leftIn 19 = .ok (.aload_n 0, 1) := by decide +kernel
theorem dX8_leftIn_20 : decode cX8_leftIn 20 = .ok (.getfield 31, 3) := by decide +kernel
theorem dX8_leftIn_23 : decode cX8_leftIn 23 = .ok (.getfield 117, 3) := by decide +kernel
theorem dX8_leftIn_26 : decode cX8_leftIn 26 = .ok (.iconst 1, 1) := by decide +kernel
theorem dX8_leftIn_27 : decode cX8_leftIn 27 = .ok (.if_icmp .ne 14, 3) := by decide +kernel
theorem dX8_leftIn_30 : decode cX8_leftIn 30 = .ok (.iload_n 1, 1) := by decide +kernel
theorem dX8_leftIn_31 : decode cX8_leftIn 31 = .ok (.aload_n 0, 1) := by decide +kernel
theorem dX8_leftIn_32 : decode cX8_leftIn 32 = .ok (.getfield 31, 3) := by decide +kernel
theorem dX8_leftIn_35 : decode cX8_leftIn 35 = .ok (.getfield 120, 3) := by decide +kernel
theorem dX8_leftIn_38 : decode cX8_leftIn 38 = .ok (.if_icmp .eq 8, 3) := by decide +kernel
theorem dX8_leftIn_41 : decode cX8_leftIn 41 = .ok (.aload_n 3, 1) := by decide +kernel
theorem dX8_leftIn_42 : decode cX8_leftIn 42 = .ok (.getfield 97, 3) := by decide +kernel
theorem dX8_leftIn_45 : decode cX8_leftIn 45 = .ok (.ireturn, 1) := by decide +kernel
theorem dX8_leftIn_46 : decode cX8_leftIn 46 = .ok (.aload_n 0, 1) := by decide +kernel
theorem dX8_leftIn_47 : decode cX8_leftIn 47 = .ok (.getfield 38, 3) := by decide +kernel
theorem dX8_leftIn_50 : decode cX8_leftIn 50 = .ok (.aload_n 0, 1) := by decide +kernel
theorem dX8_leftIn_51 : decode cX8_leftIn 51 = .ok (.getfield 31, 3) := by decide +kernel
theorem dX8_leftIn_54 : decode cX8_leftIn 54 = .ok (.getfield 105, 3) := by decide +kernel
theorem dX8_leftIn_57 : decode cX8_leftIn 57 = .ok (.aload_n 3, 1) := by decide +kernel
theorem dX8_leftIn_58 : decode cX8_leftIn 58 = .ok (.iload_n 2, 1) := by decide +kernel
theorem dX8_leftIn_59 : decode cX8_leftIn 59 = .ok (.invokevirtual 272, 3) := by decide +kernel
theorem dX8_leftIn_62 : decode cX8_leftIn 62 = .ok (.ireturn, 1) := by decide +kernel
theorem dX8_overIn_0 : decode cX8_overIn 0 = .ok (.aload_n 0, 1) := by decide +kernel
theorem dX8_overIn_1 : decode cX8_overIn 1 = .ok (.getfield 31, 3) := by decide +kernel
theorem dX8_overIn_4 : decode cX8_overIn 4 = .ok (.invokevirtual 275, 3) := by decide +kernel
theorem dX8_overIn_7 : decode cX8_overIn 7 = .ok (.astore_n 1, 1) := by decide +kernel
theorem dX8_overIn_8 : decode cX8_overIn 8 = .ok (.aload_n 0, 1) := by decide +kernel
theorem dX8_overIn_9 : decode cX8_overIn 9 = .ok (.getfield 31, 3) := by decide +kernel
theorem dX8_overIn_12 : decode cX8_overIn 12 = .ok (.getfield 117, 3) := by decide +kernel
theorem dX8_overIn_15 : decode cX8_overIn 15 = .ok (.iconst 1, 1) := by decide +kernel
theorem dX8_overIn_16 : decode cX8_overIn 16 = .ok (.if_icmp .ne 20, 3) := by decide +kernel
theorem dX8_overIn_19 : decode cX8_overIn 19 = .ok (.aload_n 0, 1) := by decide +kernel
theorem dX8_overIn_20 : decode cX8_overIn 20 = .ok (.getfield 31, 3) := by decide +kernel
theorem dX8_overIn_23 : decode cX8_overIn 23 = .ok (.getfield 151, 3) := by decide +kernel
theorem dX8_overIn_26 : decode cX8_overIn 26 = .ok (.ifCond .ne 10, 3) := by decide +kernel
theorem dX8_overIn_29 : decode cX8_overIn 29 = .ok (.aload_n 1, 1) := by decide +kernel
theorem dX8_overIn_30 : decode cX8_overIn 30 = .ok (.getfield 183, 3) := by decide +kernel
theorem dX8_overIn_33 : decode cX8_overIn 33 = .ok (.ifCond .eq 5, 3) := by decide +kernel
theorem dX8_overIn_36 : decode cX8_overIn 36 = .ok (.iconst (-1), 1) := by decide +kernel
theorem dX8_overIn_37 : decode cX8_overIn 37 = .ok (.ireturn, 1) := by decide +kernel
theorem dX8_overIn_38 : decode cX8_overIn 38 = .ok (.aload_n 1, 1) := by decide +kernel
theorem dX8_overIn_39 : decode cX8_overIn 39 = .ok (.aload_n 0, 1) := by decide +kernel
theorem dX8_overIn_40 : decode cX8_overIn 40 = .ok (.getfield 31, 3) := by decide +kernel
theorem dX8_overIn_43 : decode cX8_overIn 43 = .ok (.getfield 105, 3) := by decide +kernel
theorem dX8_overIn_46 : decode cX8_overIn 46 = .ok (.invokevirtual 211, 3) := by decide +kernel
theorem dX8_overIn_49 : decode cX8_overIn 49 = .ok (.ireturn, 1) := by decide +kernel
theorem dX8_canSeal_0 : decode cX8_canSeal 0 = .ok (.aload_n 0, 1) := by decide +kernel
theorem dX8_canSeal_1 : decode cX8_canSeal 1 = .ok (.getfield 31, 3) := by decide +kernel
theorem dX8_canSeal_4 : decode cX8_canSeal 4 = .ok (.invokevirtual 279, 3) := by decide +kernel
theorem dX8_canSeal_7 : decode cX8_canSeal 7 = .ok (.ifCond .ne 7, 3) := by decide +kernel
theorem dX8_canSeal_10 : decode cX8_canSeal 10 = .ok (.iconst 1, 1) := by decide +kernel
theorem dX8_canSeal_11 : decode cX8_canSeal 11 = .ok (.goto 4, 3) := by decide +kernel
theorem dX8_canSeal_14 : decode cX8_canSeal 14 = .ok (.iconst 0, 1) := by decide +kernel
theorem dX8_canSeal_15 : decode cX8_canSeal 15 = .ok (.ireturn, 1) := by decide +kernel
theorem dX8_sealIn_0 : decode cX8_sealIn 0 = .ok (.aload_n 0, 1) := by decide +kernel
theorem dX8_sealIn_1 : decode cX8_sealIn 1 = .ok (.getfield 31, 3) := by decide +kernel
theorem dX8_sealIn_4 : decode cX8_sealIn 4 = .ok (.invokevirtual 279, 3) := by decide +kernel
theorem dX8_sealIn_7 : decode cX8_sealIn 7 = .ok (.ireturn, 1) := by decide +kernel
theorem dX8_ends_0 : decode cX8_ends 0 = .ok (.aload_n 0, 1) := by decide +kernel
theorem dX8_ends_1 : decode cX8_ends 1 = .ok (.iload_n 1, 1) := by decide +kernel
theorem dX8_ends_2 : decode cX8_ends 2 = .ok (.invokevirtual 258, 3) := by decide +kernel
theorem dX8_ends_5 : decode cX8_ends 5 = .ok (.aload_n 0, 1) := by decide +kernel
theorem dX8_ends_6 : decode cX8_ends 6 = .ok (.iload_n 2, 1) := by decide +kernel
theorem dX8_ends_7 : decode cX8_ends 7 = .ok (.invokevirtual 258, 3) := by decide +kernel
theorem dX8_ends_10 : decode cX8_ends 10 = .ok (.aload_n 0, 1) := by decide +kernel
theorem dX8_ends_11 : decode cX8_ends 11 = .ok (.getfield 31, 3) := by decide +kernel
theorem dX8_ends_14 : decode cX8_ends 14 = .ok (.getfield 117, 3) := by decide +kernel
theorem dX8_ends_17 : decode cX8_ends 17 = .ok (.iconst 1, 1) := by decide +kernel
theorem dX8_ends_18 : decode cX8_ends 18 = .ok (.if_icmp .eq 5, 3) := by decide +kernel
theorem dX8_ends_21 : decode cX8_ends 21 = .ok (.iconst (-1), 1) := by decide +kernel
theorem dX8_ends_22 : decode cX8_ends 22 = .ok (.ireturn, 1) := by decide +kernel
theorem dX8_ends_23 : decode cX8_ends 23 = .ok (.aload_n 0, 1) := by decide +kernel
theorem dX8_ends_24 : decode cX8_ends 24 = .ok (.getfield 38, 3) := by decide +kernel
theorem dX8_ends_27 : decode cX8_ends 27 = .ok (.aload_n 0, 1) := by decide +kernel
theorem dX8_ends_28 : decode cX8_ends 28 = .ok (.getfield 31, 3) := by decide +kernel
theorem dX8_ends_31 : decode cX8_ends 31 = .ok (.iload_n 1, 1) := by decide +kernel
theorem dX8_ends_32 : decode cX8_ends 32 = .ok (.iload_n 2, 1) := by decide +kernel
theorem dX8_ends_33 : decode cX8_ends 33 = .ok (.sipush 400, 3) := by decide +kernel
theorem dX8_ends_36 : decode cX8_ends 36 = .ok (.invokevirtual 282, 3) := by decide +kernel
theorem dX8_ends_39 : decode cX8_ends 39 = .ok (.aload_n 0, 1) := by decide +kernel
theorem dX8_ends_40 : decode cX8_ends 40 = .ok (.getfield 38, 3) := by decide +kernel
theorem dX8_ends_43 : decode cX8_ends 43 = .ok (.getfield 286, 3) := by decide +kernel
theorem dX8_ends_46 : decode cX8_ends 46 = .ok (.iconst (-1), 1) := by decide +kernel
theorem dX8_ends_47 : decode cX8_ends 47 = .ok (.if_icmp .ne 7, 3) := by decide +kernel
theorem dX8_ends_50 : decode cX8_ends 50 = .ok (.iconst (-1), 1) := by decide +kernel
theorem dX8_ends_51 : decode cX8_ends 51 = .ok (.goto 17, 3) := by decide +kernel
theorem dX8_ends_54 : decode cX8_ends 54 = .ok (.aload_n 0, 1) := by decide +kernel
theorem dX8_ends_55 : decode cX8_ends 55 = .ok (.getfield 31, 3) := by decide +kernel
theorem dX8_ends_58 : decode cX8_ends 58 = .ok (.aload_n 0, 1) := by decide +kernel
theorem dX8_ends_59 : decode cX8_ends 59 = .ok (.getfield 38, 3) := by decide +kernel
theorem dX8_ends_62 : decode cX8_ends 62 = .ok (.getfield 286, 3) := by decide +kernel
theorem dX8_ends_65 : decode cX8_ends 65 = .ok (.invokevirtual 289, 3) := by decide +kernel
theorem dX8_ends_68 : decode cX8_ends 68 = .ok (.ireturn, 1) := by decide +kernel
theorem dX8_endsAfter_0 : decode cX8_endsAfter 0 = .ok (.aload_n 0, 1) := by decide +kernel
theorem dX8_endsAfter_1 : decode cX8_endsAfter 1 = .ok (.iload_n 1, 1) := by decide +kernel
theorem dX8_endsAfter_2 : decode cX8_endsAfter 2 = .ok (.invokevirtual 258, 3) := by decide +kernel
theorem dX8_endsAfter_5 : decode cX8_endsAfter 5 = .ok (.aload_n 0, 1) := by decide +kernel
theorem dX8_endsAfter_6 : decode cX8_endsAfter 6 = .ok (.iload_n 2, 1) := by decide +kernel
theorem dX8_endsAfter_7 : decode cX8_endsAfter 7 = .ok (.invokevirtual 258, 3) := by decide +kernel
theorem dX8_endsAfter_10 : decode cX8_endsAfter 10 = .ok (.aload_n 0, 1) := by decide +kernel
theorem dX8_endsAfter_11 : decode cX8_endsAfter 11 = .ok (.getfield 31, 3) := by decide +kernel
theorem dX8_endsAfter_14 : decode cX8_endsAfter 14 = .ok (.getfield 117, 3) := by decide +kernel
theorem dX8_endsAfter_17 : decode cX8_endsAfter 17 = .ok (.iconst 1, 1) := by decide +kernel
theorem dX8_endsAfter_18 : decode cX8_endsAfter 18 = .ok (.if_icmp .eq 5, 3) := by decide +kernel
theorem dX8_endsAfter_21 : decode cX8_endsAfter 21 = .ok (.iconst (-1), 1) := by decide +kernel
theorem dX8_endsAfter_22 : decode cX8_endsAfter 22 = .ok (.ireturn, 1) := by decide +kernel
theorem dX8_endsAfter_23 : decode cX8_endsAfter 23 = .ok (.aload_n 0, 1) := by decide +kernel
theorem dX8_endsAfter_24 : decode cX8_endsAfter 24 = .ok (.getfield 38, 3) := by decide +kernel
theorem dX8_endsAfter_27 : decode cX8_endsAfter 27 = .ok (.aload_n 0, 1) := by decide +kernel
theorem dX8_endsAfter_28 : decode cX8_endsAfter 28 = .ok (.getfield 31, 3) := by decide +kernel
theorem dX8_endsAfter_31 : decode cX8_endsAfter 31 = .ok (.iload_n 1, 1) := by decide +kernel
theorem dX8_endsAfter_32 : decode cX8_endsAfter 32 = .ok (.iload_n 2, 1) := by decide +kernel
theorem dX8_endsAfter_33 : decode cX8_endsAfter 33 = .ok (.sipush 400, 3) := by decide +kernel
theorem dX8_endsAfter_36 : decode cX8_endsAfter 36 = .ok (.invokevirtual 282, 3) := by decide +kernel
theorem dX8_endsAfter_39 : decode cX8_endsAfter 39 = .ok (.aload_n 0, 1) := by decide +kernel
theorem dX8_endsAfter_40 : decode cX8_endsAfter 40 = .ok (.getfield 38, 3) := by decide +kernel
theorem dX8_endsAfter_43 : decode cX8_endsAfter 43 = .ok (.getfield 292, 3) := by decide +kernel
theorem dX8_endsAfter_46 : decode cX8_endsAfter 46 = .ok (.ireturn, 1) := by decide +kernel
theorem dX8_movesIn_0 : decode cX8_movesIn 0 = .ok (.aload_n 0, 1) := by decide +kernel
theorem dX8_movesIn_1 : decode cX8_movesIn 1 = .ok (.iload_n 1, 1) := by decide +kernel
theorem dX8_movesIn_2 : decode cX8_movesIn 2 = .ok (.invokevirtual 258, 3) := by decide +kernel
theorem dX8_movesIn_5 : decode cX8_movesIn 5 = .ok (.aload_n 0, 1) := by decide +kernel
theorem dX8_movesIn_6 : decode cX8_movesIn 6 = .ok (.iload_n 2, 1) := by decide +kernel
theorem dX8_movesIn_7 : decode cX8_movesIn 7 = .ok (.invokevirtual 258, 3) := by decide +kernel
theorem dX8_movesIn_10 : decode cX8_movesIn 10 = .ok (.iload_n 3, 1) := by decide +kernel
theorem dX8_movesIn_11 : decode cX8_movesIn 11 = .ok (.iconst 1, 1) := by decide +kernel
theorem dX8_movesIn_12 : decode cX8_movesIn 12 = .ok (.if_icmp .lt 10, 3) := by decide +kernel
theorem dX8_movesIn_15 : decode cX8_movesIn 15 = .ok (.iload_n 3, 1) := by decide +kernel
theorem dX8_movesIn_16 : decode cX8_movesIn 16 = .ok (.sipush 9999, 3) := by decide +kernel
theorem dX8_movesIn_19 : decode cX8_movesIn 19 = .ok (.if_icmp .le 14, 3) := by decide +kernel
theorem dX8_movesIn_22 : decode cX8_movesIn 22 = .ok (.new 66, 3) := by decide +kernel
theorem dX8_movesIn_25 : decode cX8_movesIn 25 = .ok (.dup, 1) := by decide +kernel
theorem dX8_movesIn_26 : decode cX8_movesIn 26 = .ok (.ldc_w 295, 3) := by decide +kernel
theorem dX8_movesIn_29 : decode cX8_movesIn 29 = .ok (.invokespecial 70, 3) := by decide +kernel
theorem dX8_movesIn_32 : decode cX8_movesIn 32 = .ok (.athrow, 1) := by decide +kernel
theorem dX8_movesIn_33 : decode cX8_movesIn 33 = .ok (.aload_n 0, 1) := by decide +kernel
theorem dX8_movesIn_34 : decode cX8_movesIn 34 = .ok (.getfield 31, 3) := by decide +kernel
theorem dX8_movesIn_37 : decode cX8_movesIn 37 = .ok (.getfield 117, 3) := by decide +kernel
theorem dX8_movesIn_40 : decode cX8_movesIn 40 = .ok (.iconst 1, 1) := by decide +kernel
theorem dX8_movesIn_41 : decode cX8_movesIn 41 = .ok (.if_icmp .eq 5, 3) := by decide +kernel
theorem dX8_movesIn_44 : decode cX8_movesIn 44 = .ok (.iconst (-1), 1) := by decide +kernel
theorem dX8_movesIn_45 : decode cX8_movesIn 45 = .ok (.ireturn, 1) := by decide +kernel
theorem dX8_movesIn_46 : decode cX8_movesIn 46 = .ok (.aload_n 0, 1) := by decide +kernel
theorem dX8_movesIn_47 : decode cX8_movesIn 47 = .ok (.getfield 38, 3) := by decide +kernel
theorem dX8_movesIn_50 : decode cX8_movesIn 50 = .ok (.aload_n 0, 1) := by decide +kernel
theorem dX8_movesIn_51 : decode cX8_movesIn 51 = .ok (.getfield 31, 3) := by decide +kernel
theorem dX8_movesIn_54 : decode cX8_movesIn 54 = .ok (.iload_n 1, 1) := by decide +kernel
theorem dX8_movesIn_55 : decode cX8_movesIn 55 = .ok (.iload_n 2, 1) := by decide +kernel
theorem dX8_movesIn_56 : decode cX8_movesIn 56 = .ok (.iload_n 3, 1) := by decide +kernel
theorem dX8_movesIn_57 : decode cX8_movesIn 57 = .ok (.invokevirtual 297, 3) := by decide +kernel
theorem dX8_movesIn_60 : decode cX8_movesIn 60 = .ok (.aload_n 0, 1) := by decide +kernel
theorem dX8_movesIn_61 : decode cX8_movesIn 61 = .ok (.getfield 38, 3) := by decide +kernel
theorem dX8_movesIn_64 : decode cX8_movesIn 64 = .ok (.getfield 292, 3) := by decide +kernel
theorem dX8_movesIn_67 : decode cX8_movesIn 67 = .ok (.ireturn, 1) := by decide +kernel
theorem dX8_aheadAfter_0 : decode cX8_aheadAfter 0 = .ok (.aload_n 0, 1) := by decide +kernel
theorem dX8_aheadAfter_1 : decode cX8_aheadAfter 1 = .ok (.iload_n 1, 1) := by decide +kernel
theorem dX8_aheadAfter_2 : decode cX8_aheadAfter 2 = .ok (.invokevirtual 258, 3) := by decide +kernel
theorem dX8_aheadAfter_5 : decode cX8_aheadAfter 5 = .ok (.aload_n 0, 1) := by decide +kernel
theorem dX8_aheadAfter_6 : decode cX8_aheadAfter 6 = .ok (.iload_n 2, 1) := by decide +kernel
theorem dX8_aheadAfter_7 : decode cX8_aheadAfter 7 = .ok (.invokevirtual 258, 3) := by decide +kernel
theorem dX8_aheadAfter_10 : decode cX8_aheadAfter 10 = .ok (.iload_n 3, 1) := by decide +kernel
theorem dX8_aheadAfter_11 : decode cX8_aheadAfter 11 = .ok (.ifCond .lt 10, 3) := by decide +kernel
theorem dX8_aheadAfter_14 : decode cX8_aheadAfter 14 = .ok (.iload_n 3, 1) := by decide +kernel
theorem dX8_aheadAfter_15 : decode cX8_aheadAfter 15 = .ok (.sipush 400, 3) := by decide +kernel
theorem dX8_aheadAfter_18 : decode cX8_aheadAfter 18 = .ok (.if_icmp .le 14, 3) := by decide +kernel
theorem dX8_aheadAfter_21 : decode cX8_aheadAfter 21 = .ok (.new 66, 3) := by decide +kernel
theorem dX8_aheadAfter_24 : decode cX8_aheadAfter 24 = .ok (.dup, 1) := by decide +kernel
theorem dX8_aheadAfter_25 : decode cX8_aheadAfter 25 = .ok (.ldc_w 300, 3) := by decide +kernel
theorem dX8_aheadAfter_28 : decode cX8_aheadAfter 28 = .ok (.invokespecial 70, 3) := by decide +kernel
theorem dX8_aheadAfter_31 : decode cX8_aheadAfter 31 = .ok (.athrow, 1) := by decide +kernel
theorem dX8_aheadAfter_32 : decode cX8_aheadAfter 32 = .ok (.aload_n 0, 1) := by decide +kernel
theorem dX8_aheadAfter_33 : decode cX8_aheadAfter 33 = .ok (.getfield 31, 3) := by decide +kernel
theorem dX8_aheadAfter_36 : decode cX8_aheadAfter 36 = .ok (.getfield 117, 3) := by decide +kernel
theorem dX8_aheadAfter_39 : decode cX8_aheadAfter 39 = .ok (.iconst 1, 1) := by decide +kernel
theorem dX8_aheadAfter_40 : decode cX8_aheadAfter 40 = .ok (.if_icmp .eq 5, 3) := by decide +kernel
theorem dX8_aheadAfter_43 : decode cX8_aheadAfter 43 = .ok (.iconst (-1), 1) := by decide +kernel
theorem dX8_aheadAfter_44 : decode cX8_aheadAfter 44 = .ok (.ireturn, 1) := by decide +kernel
theorem dX8_aheadAfter_45 : decode cX8_aheadAfter 45 = .ok (.aload_n 0, 1) := by decide +kernel
theorem dX8_aheadAfter_46 : decode cX8_aheadAfter 46 = .ok (.getfield 38, 3) := by decide +kernel
theorem dX8_aheadAfter_49 : decode cX8_aheadAfter 49 = .ok (.aload_n 0, 1) := by decide +kernel
theorem dX8_aheadAfter_50 : decode cX8_aheadAfter 50 = .ok (.getfield 31, 3) := by decide +kernel
theorem dX8_aheadAfter_53 : decode cX8_aheadAfter 53 = .ok (.iload_n 1, 1) := by decide +kernel
theorem dX8_aheadAfter_54 : decode cX8_aheadAfter 54 = .ok (.iload_n 2, 1) := by decide +kernel
theorem dX8_aheadAfter_55 : decode cX8_aheadAfter 55 = .ok (.iload_n 3, 1) := by decide +kernel
theorem dX8_aheadAfter_56 : decode cX8_aheadAfter 56 = .ok (.invokevirtual 282, 3) := by decide +kernel
theorem dX8_aheadAfter_59 : decode cX8_aheadAfter 59 = .ok (.aload_n 0, 1) := by decide +kernel
theorem dX8_aheadAfter_60 : decode cX8_aheadAfter 60 = .ok (.getfield 38, 3) := by decide +kernel
theorem dX8_aheadAfter_63 : decode cX8_aheadAfter 63 = .ok (.getfield 302, 3) := by decide +kernel
theorem dX8_aheadAfter_66 : decode cX8_aheadAfter 66 = .ok (.getfield 97, 3) := by decide +kernel
theorem dX8_aheadAfter_69 : decode cX8_aheadAfter 69 = .ok (.aload_n 0, 1) := by decide +kernel
theorem dX8_aheadAfter_70 : decode cX8_aheadAfter 70 = .ok (.getfield 38, 3) := by decide +kernel
theorem dX8_aheadAfter_73 : decode cX8_aheadAfter 73 = .ok (.getfield 303, 3) := by decide +kernel
theorem dX8_aheadAfter_76 : decode cX8_aheadAfter 76 = .ok (.getfield 97, 3) := by decide +kernel
theorem dX8_aheadAfter_79 : decode cX8_aheadAfter 79 = .ok (.isub, 1) := by decide +kernel
theorem dX8_aheadAfter_80 : decode cX8_aheadAfter 80 = .ok (.ireturn, 1) := by decide +kernel
theorem dX8_start_0 : decode cX8_start 0 = .ok (.aload_n 0, 1) := by decide +kernel
theorem dX8_start_1 : decode cX8_start 1 = .ok (.getfield 31, 3) := by decide +kernel
theorem dX8_start_4 : decode cX8_start 4 = .ok (.getfield 117, 3) := by decide +kernel
theorem dX8_start_7 : decode cX8_start 7 = .ok (.ifCond .eq 14, 3) := by decide +kernel
theorem dX8_start_10 : decode cX8_start 10 = .ok (.new 55, 3) := by decide +kernel
theorem dX8_start_13 : decode cX8_start 13 = .ok (.dup, 1) := by decide +kernel
theorem dX8_start_14 : decode cX8_start 14 = .ok (.ldc_w 304, 3) := by decide +kernel
theorem dX8_start_17 : decode cX8_start 17 = .ok (.invokespecial 59, 3) := by decide +kernel
theorem dX8_start_20 : decode cX8_start 20 = .ok (.athrow, 1) := by decide +kernel
theorem dX8_start_21 : decode cX8_start 21 = .ok (.aload_n 0, 1) := by decide +kernel
theorem dX8_start_22 : decode cX8_start 22 = .ok (.invokevirtual 75, 3) := by decide +kernel
theorem dX8_start_25 : decode cX8_start 25 = .ok (.aload_n 0, 1) := by decide +kernel
theorem dX8_start_26 : decode cX8_start 26 = .ok (.getfield 31, 3) := by decide +kernel
theorem dX8_start_29 : decode cX8_start 29 = .ok (.iconst 1, 1) := by decide +kernel
theorem dX8_start_30 : decode cX8_start 30 = .ok (.putfield 117, 3) := by decide +kernel
theorem dX8_start_33 : decode cX8_start 33 = .ok (.aload_n 0, 1) := by decide +kernel
theorem dX8_start_34 : decode cX8_start 34 = .ok (.getfield 31, 3) := by decide +kernel
theorem dX8_start_37 : decode cX8_start 37 = .ok (.getfield 120, 3) := by decide +kernel
theorem dX8_start_40 : decode cX8_start 40 = .ok (.ireturn, 1) := by decide +kernel
theorem dX8_tick_0 : decode cX8_tick 0 = .ok (.iload_n 1, 1) := by decide +kernel
theorem dX8_tick_1 : decode cX8_tick 1 = .ok (.iconst 1, 1) := by decide +kernel
theorem dX8_tick_2 : decode cX8_tick 2 = .ok (.if_icmp .lt 10, 3) := by decide +kernel
theorem dX8_tick_5 : decode cX8_tick 5 = .ok (.iload_n 1, 1) := by decide +kernel
theorem dX8_tick_6 : decode cX8_tick 6 = .ok (.sipush 9999, 3) := by decide +kernel
theorem dX8_tick_9 : decode cX8_tick 9 = .ok (.if_icmp .le 14, 3) := by decide +kernel
theorem dX8_tick_12 : decode cX8_tick 12 = .ok (.new 66, 3) := by decide +kernel
theorem dX8_tick_15 : decode cX8_tick 15 = .ok (.dup, 1) := by decide +kernel
theorem dX8_tick_16 : decode cX8_tick 16 = .ok (.ldc_w 295, 3) := by decide +kernel
theorem dX8_tick_19 : decode cX8_tick 19 = .ok (.invokespecial 70, 3) := by decide +kernel
theorem dX8_tick_22 : decode cX8_tick 22 = .ok (.athrow, 1) := by decide +kernel
theorem dX8_tick_23 : decode cX8_tick 23 = .ok (.aload_n 0, 1) := by decide +kernel
theorem dX8_tick_24 : decode cX8_tick 24 = .ok (.invokevirtual 75, 3) := by decide +kernel
theorem dX8_tick_27 : decode cX8_tick 27 = .ok (.aload_n 0, 1) := by decide +kernel
theorem dX8_tick_28 : decode cX8_tick 28 = .ok (.getfield 31, 3) := by decide +kernel
theorem dX8_tick_31 : decode cX8_tick 31 = .ok (.getfield 117, 3) := by decide +kernel
theorem dX8_tick_34 : decode cX8_tick 34 = .ok (.iconst 1, 1) := by decide +kernel
theorem dX8_tick_35 : decode cX8_tick 35 = .ok (.if_icmp .ne 11, 3) := by decide +kernel
theorem dX8_tick_38 : decode cX8_tick 38 = .ok (.aload_n 0, 1) := by decide +kernel
theorem dX8_tick_39 : decode cX8_tick 39 = .ok (.getfield 31, 3) := by decide +kernel
theorem dX8_tick_42 : decode cX8_tick 42 = .ok (.iload_n 1, 1) := by decide +kernel
theorem dX8_tick_43 : decode cX8_tick 43 = .ok (.invokevirtual 306, 3) := by decide +kernel
theorem dX8_tick_46 : decode cX8_tick 46 = .ok (.aload_n 0, 1) := by decide +kernel
theorem dX8_tick_47 : decode cX8_tick 47 = .ok (.getfield 31, 3) := by decide +kernel
theorem dX8_tick_50 : decode cX8_tick 50 = .ok (.invokevirtual 275, 3) := by decide +kernel
theorem dX8_tick_53 : decode cX8_tick 53 = .ok (.getfield 97, 3) := by decide +kernel
theorem dX8_tick_56 : decode cX8_tick 56 = .ok (.ireturn, 1) := by decide +kernel
theorem dX8_move_0 : decode cX8_move 0 = .ok (.aload_n 0, 1) := by decide +kernel
theorem dX8_move_1 : decode cX8_move 1 = .ok (.getfield 31, 3) := by decide +kernel
theorem dX8_move_4 : decode cX8_move 4 = .ok (.getfield 117, 3) := by decide +kernel
theorem dX8_move_7 : decode cX8_move 7 = .ok (.iconst 1, 1) := by decide +kernel
theorem dX8_move_8 : decode cX8_move 8 = .ok (.if_icmp .eq 14, 3) := by decide +kernel
theorem dX8_move_11 : decode cX8_move 11 = .ok (.new 55, 3) := by decide +kernel
theorem dX8_move_14 : decode cX8_move 14 = .ok (.dup, 1) := by decide +kernel
theorem dX8_move_15 : decode cX8_move 15 = .ok (.ldc_w 309, 3) := by decide +kernel
theorem dX8_move_18 : decode cX8_move 18 = .ok (.invokespecial 59, 3) := by decide +kernel
theorem dX8_move_21 : decode cX8_move 21 = .ok (.athrow, 1) := by decide +kernel
theorem dX8_move_22 : decode cX8_move 22 = .ok (.aload_n 0, 1) := by decide +kernel
theorem dX8_move_23 : decode cX8_move 23 = .ok (.invokevirtual 75, 3) := by decide +kernel
theorem dX8_move_26 : decode cX8_move 26 = .ok (.aload_n 0, 1) := by decide +kernel
theorem dX8_move_27 : decode cX8_move 27 = .ok (.getfield 31, 3) := by decide +kernel
theorem dX8_move_30 : decode cX8_move 30 = .ok (.invokevirtual 311, 3) := by decide +kernel
theorem dX8_move_33 : decode cX8_move 33 = .ok (.ireturn, 1) := by decide +kernel
theorem dX8_pause_0 : decode cX8_pause 0 = .ok (.aload_n 0, 1) := by decide +kernel
theorem dX8_pause_1 : decode cX8_pause 1 = .ok (.getfield 31, 3) := by decide +kernel
theorem dX8_pause_4 : decode cX8_pause 4 = .ok (.getfield 117, 3) := by decide +kernel
theorem dX8_pause_7 : decode cX8_pause 7 = .ok (.iconst 1, 1) := by decide +kernel
theorem dX8_pause_8 : decode cX8_pause 8 = .ok (.if_icmp .eq 14, 3) := by decide +kernel
theorem dX8_pause_11 : decode cX8_pause 11 = .ok (.new 55, 3) := by decide +kernel
theorem dX8_pause_14 : decode cX8_pause 14 = .ok (.dup, 1) := by decide +kernel
theorem dX8_pause_15 : decode cX8_pause 15 = .ok (.ldc_w 309, 3) := by decide +kernel
theorem dX8_pause_18 : decode cX8_pause 18 = .ok (.invokespecial 59, 3) := by decide +kernel
theorem dX8_pause_21 : decode cX8_pause 21 = .ok (.athrow, 1) := by decide +kernel
theorem dX8_pause_22 : decode cX8_pause 22 = .ok (.aload_n 0, 1) := by decide +kernel
theorem dX8_pause_23 : decode cX8_pause 23 = .ok (.invokevirtual 75, 3) := by decide +kernel
theorem dX8_pause_26 : decode cX8_pause 26 = .ok (.aload_n 0, 1) := by decide +kernel
theorem dX8_pause_27 : decode cX8_pause 27 = .ok (.getfield 31, 3) := by decide +kernel
theorem dX8_pause_30 : decode cX8_pause 30 = .ok (.iconst 2, 1) := by decide +kernel
theorem dX8_pause_31 : decode cX8_pause 31 = .ok (.putfield 117, 3) := by decide +kernel
theorem dX8_pause_34 : decode cX8_pause 34 = .ok (.aload_n 0, 1) := by decide +kernel
theorem dX8_pause_35 : decode cX8_pause 35 = .ok (.getfield 31, 3) := by decide +kernel
theorem dX8_pause_38 : decode cX8_pause 38 = .ok (.getfield 120, 3) := by decide +kernel
theorem dX8_pause_41 : decode cX8_pause 41 = .ok (.ireturn, 1) := by decide +kernel
theorem dX8_proceed_0 : decode cX8_proceed 0 = .ok (.aload_n 0, 1) := by decide +kernel
theorem dX8_proceed_1 : decode cX8_proceed 1 = .ok (.getfield 31, 3) := by decide +kernel
theorem dX8_proceed_4 : decode cX8_proceed 4 = .ok (.getfield 117, 3) := by decide +kernel
theorem dX8_proceed_7 : decode cX8_proceed 7 = .ok (.iconst 2, 1) := by decide +kernel
theorem dX8_proceed_8 : decode cX8_proceed 8 = .ok (.if_icmp .eq 14, 3) := by decide +kernel
theorem dX8_proceed_11 : decode cX8_proceed 11 = .ok (.new 55, 3) := by decide +kernel
theorem dX8_proceed_14 : decode cX8_proceed 14 = .ok (.dup, 1) := by decide +kernel
theorem dX8_proceed_15 : decode cX8_proceed 15 = .ok (.ldc_w 314, 3) := by decide +kernel
theorem dX8_proceed_18 : decode cX8_proceed 18 = .ok (.invokespecial 59, 3) := by decide +kernel
theorem dX8_proceed_21 : decode cX8_proceed 21 = .ok (.athrow, 1) := by decide +kernel
theorem dX8_proceed_22 : decode cX8_proceed 22 = .ok (.aload_n 0, 1) := by decide +kernel
theorem dX8_proceed_23 : decode cX8_proceed 23 = .ok (.invokevirtual 75, 3) := by decide +kernel
theorem dX8_proceed_26 : decode cX8_proceed 26 = .ok (.aload_n 0, 1) := by decide +kernel
theorem dX8_proceed_27 : decode cX8_proceed 27 = .ok (.getfield 31, 3) := by decide +kernel
theorem dX8_proceed_30 : decode cX8_proceed 30 = .ok (.iconst 1, 1) := by decide +kernel
theorem dX8_proceed_31 : decode cX8_proceed 31 = .ok (.putfield 117, 3) := by decide +kernel
theorem dX8_proceed_34 : decode cX8_proceed 34 = .ok (.aload_n 0, 1) := by decide +kernel
theorem dX8_proceed_35 : decode cX8_proceed 35 = .ok (.getfield 31, 3) := by decide +kernel
theorem dX8_proceed_38 : decode cX8_proceed 38 = .ok (.getfield 120, 3) := by decide +kernel
theorem dX8_proceed_41 : decode cX8_proceed 41 = .ok (.ireturn, 1) := by decide +kernel
theorem dX8_seal_0 : decode cX8_seal 0 = .ok (.aload_n 0, 1) := by decide +kernel
theorem dX8_seal_1 : decode cX8_seal 1 = .ok (.getfield 31, 3) := by decide +kernel
theorem dX8_seal_4 : decode cX8_seal 4 = .ok (.invokevirtual 279, 3) := by decide +kernel
theorem dX8_seal_7 : decode cX8_seal 7 = .ok (.ifCond .eq 14, 3) := by decide +kernel
theorem dX8_seal_10 : decode cX8_seal 10 = .ok (.new 55, 3) := by decide +kernel
theorem dX8_seal_13 : decode cX8_seal 13 = .ok (.dup, 1) := by decide +kernel
theorem dX8_seal_14 : decode cX8_seal 14 = .ok (.ldc_w 316, 3) := by decide +kernel
theorem dX8_seal_17 : decode cX8_seal 17 = .ok (.invokespecial 59, 3) := by decide +kernel
theorem dX8_seal_20 : decode cX8_seal 20 = .ok (.athrow, 1) := by decide +kernel
theorem dX8_seal_21 : decode cX8_seal 21 = .ok (.aload_n 0, 1) := by decide +kernel
theorem dX8_seal_22 : decode cX8_seal 22 = .ok (.invokevirtual 75, 3) := by decide +kernel
theorem dX8_seal_25 : decode cX8_seal 25 = .ok (.aload_n 0, 1) := by decide +kernel
theorem dX8_seal_26 : decode cX8_seal 26 = .ok (.getfield 31, 3) := by decide +kernel
theorem dX8_seal_29 : decode cX8_seal 29 = .ok (.iconst 3, 1) := by decide +kernel
theorem dX8_seal_30 : decode cX8_seal 30 = .ok (.putfield 117, 3) := by decide +kernel
theorem dX8_seal_33 : decode cX8_seal 33 = .ok (.aload_n 0, 1) := by decide +kernel
theorem dX8_seal_34 : decode cX8_seal 34 = .ok (.getfield 31, 3) := by decide +kernel
theorem dX8_seal_37 : decode cX8_seal 37 = .ok (.getfield 120, 3) := by decide +kernel
theorem dX8_seal_40 : decode cX8_seal 40 = .ok (.ireturn, 1) := by decide +kernel
theorem dX8_open_0 : decode cX8_open 0 = .ok (.aload_n 0, 1) := by decide +kernel
theorem dX8_open_1 : decode cX8_open 1 = .ok (.getfield 31, 3) := by decide +kernel
theorem dX8_open_4 : decode cX8_open 4 = .ok (.getfield 117, 3) := by decide +kernel
theorem dX8_open_7 : decode cX8_open 7 = .ok (.iconst 3, 1) := by decide +kernel
theorem dX8_open_8 : decode cX8_open 8 = .ok (.if_icmp .eq 14, 3) := by decide +kernel
theorem dX8_open_11 : decode cX8_open 11 = .ok (.new 55, 3) := by decide +kernel
theorem dX8_open_14 : decode cX8_open 14 = .ok (.dup, 1) := by decide +kernel
theorem dX8_open_15 : decode cX8_open 15 = .ok (.ldc_w 318, 3) := by decide +kernel
theorem dX8_open_18 : decode cX8_open 18 = .ok (.invokespecial 59, 3) := by decide +kernel
theorem dX8_open_21 : decode cX8_open 21 = .ok (.athrow, 1) := by decide +kernel
theorem dX8_open_22 : decode cX8_open 22 = .ok (.aload_n 0, 1) := by decide +kernel
theorem dX8_open_23 : decode cX8_open 23 = .ok (.invokevirtual 75, 3) := by decide +kernel
theorem dX8_open_26 : decode cX8_open 26 = .ok (.aload_n 0, 1) := by decide +kernel
theorem dX8_open_27 : decode cX8_open 27 = .ok (.getfield 31, 3) := by decide +kernel
theorem dX8_open_30 : decode cX8_open 30 = .ok (.iconst 1, 1) := by decide +kernel
theorem dX8_open_31 : decode cX8_open 31 = .ok (.putfield 117, 3) := by decide +kernel
theorem dX8_open_34 : decode cX8_open 34 = .ok (.aload_n 0, 1) := by decide +kernel
theorem dX8_open_35 : decode cX8_open 35 = .ok (.getfield 31, 3) := by decide +kernel
theorem dX8_open_38 : decode cX8_open 38 = .ok (.iconst 0, 1) := by decide +kernel
theorem dX8_open_39 : decode cX8_open 39 = .ok (.putfield 132, 3) := by decide +kernel
theorem dX8_open_42 : decode cX8_open 42 = .ok (.aload_n 0, 1) := by decide +kernel
theorem dX8_open_43 : decode cX8_open 43 = .ok (.getfield 31, 3) := by decide +kernel
theorem dX8_open_46 : decode cX8_open 46 = .ok (.invokevirtual 311, 3) := by decide +kernel
theorem dX8_open_49 : decode cX8_open 49 = .ok (.ireturn, 1) := by decide +kernel
theorem dX8_claim_0 : decode cX8_claim 0 = .ok (.aload_n 0, 1) := by decide +kernel
theorem dX8_claim_1 : decode cX8_claim 1 = .ok (.iload_n 1, 1) := by decide +kernel
theorem dX8_claim_2 : decode cX8_claim 2 = .ok (.invokevirtual 164, 3) := by decide +kernel
theorem dX8_claim_5 : decode cX8_claim 5 = .ok (.aload_n 0, 1) := by decide +kernel
theorem dX8_claim_6 : decode cX8_claim 6 = .ok (.getfield 31, 3) := by decide +kernel
theorem dX8_claim_9 : decode cX8_claim 9 = .ok (.getfield 117, 3) := by decide +kernel
theorem dX8_claim_12 : decode cX8_claim 12 = .ok (.iconst 4, 1) := by decide +kernel
theorem dX8_claim_13 : decode cX8_claim 13 = .ok (.if_icmp .eq 20, 3) := by decide +kernel
theorem dX8_claim_16 : decode cX8_claim 16 = .ok (.aload_n 0, 1) := by decide +kernel
theorem dX8_claim_17 : decode cX8_claim 17 = .ok (.getfield 31, 3) := by decide +kernel
theorem dX8_claim_20 : decode cX8_claim 20 = .ok (.iload_n 1, 1) := by decide +kernel
theorem dX8_claim_21 : decode cX8_claim 21 = .ok (.invokestatic 320, 3) := by decide +kernel
theorem dX8_claim_24 : decode cX8_claim 24 = .ok (.invokevirtual 93, 3) := by decide +kernel
theorem dX8_claim_27 : decode cX8_claim 27 = .ok (.getfield 183, 3) := by decide +kernel
theorem dX8_claim_30 : decode cX8_claim 30 = .ok (.ifCond .ne 14, 3) := by decide +kernel
theorem dX8_claim_33 : decode cX8_claim 33 = .ok (.new 55, 3) := by decide +kernel
theorem dX8_claim_36 : decode cX8_claim 36 = .ok (.dup, 1) := by decide +kernel
theorem dX8_claim_37 : decode cX8_claim 37 = .ok (.ldc_w 323, 3) := by decide +kernel
theorem dX8_claim_40 : decode cX8_claim 40 = .ok (.invokespecial 59, 3) := by decide +kernel
theorem dX8_claim_43 : decode cX8_claim 43 = .ok (.athrow, 1) := by decide +kernel
theorem dX8_claim_44 : decode cX8_claim 44 = .ok (.aload_n 0, 1) := by decide +kernel
theorem dX8_claim_45 : decode cX8_claim 45 = .ok (.invokevirtual 75, 3) := by decide +kernel
theorem dX8_claim_48 : decode cX8_claim 48 = .ok (.aload_n 0, 1) := by decide +kernel
theorem dX8_claim_49 : decode cX8_claim 49 = .ok (.getfield 31, 3) := by decide +kernel
theorem dX8_claim_52 : decode cX8_claim 52 = .ok (.aload_n 0, 1) := by decide +kernel
theorem dX8_claim_53 : decode cX8_claim 53 = .ok (.getfield 31, 3) := by decide +kernel
theorem dX8_claim_56 : decode cX8_claim 56 = .ok (.iload_n 1, 1) := by decide +kernel
theorem dX8_claim_57 : decode cX8_claim 57 = .ok (.invokevirtual 93, 3) := by decide +kernel
theorem dX8_claim_60 : decode cX8_claim 60 = .ok (.getfield 183, 3) := by decide +kernel
theorem dX8_claim_63 : decode cX8_claim 63 = .ok (.ifCond .eq 7, 3) := by decide +kernel
theorem dX8_claim_66 : decode cX8_claim 66 = .ok (.iconst 2, 1) := by decide +kernel
theorem dX8_claim_67 : decode cX8_claim 67 = .ok (.goto 14, 3) := by decide +kernel
theorem dX8_claim_70 : decode cX8_claim 70 = .ok (.aload_n 0, 1) := by decide +kernel
theorem dX8_claim_71 : decode cX8_claim 71 = .ok (.getfield 31, 3) := by decide +kernel
theorem dX8_claim_74 : decode cX8_claim 74 = .ok (.iload_n 1, 1) := by decide +kernel
theorem dX8_claim_75 : decode cX8_claim 75 = .ok (.invokestatic 320, 3) := by decide +kernel
theorem dX8_claim_78 : decode cX8_claim 78 = .ok (.invokevirtual 289, 3) := by decide +kernel
theorem dX8_claim_81 : decode cX8_claim 81 = .ok (.invokevirtual 325, 3) := by decide +kernel
theorem dX8_claim_84 : decode cX8_claim 84 = .ok (.aload_n 0, 1) := by decide +kernel
theorem dX8_claim_85 : decode cX8_claim 85 = .ok (.getfield 31, 3) := by decide +kernel
theorem dX8_claim_88 : decode cX8_claim 88 = .ok (.getfield 152, 3) := by decide +kernel
theorem dX8_claim_91 : decode cX8_claim 91 = .ok (.ireturn, 1) := by decide +kernel
theorem dX8_resign_0 : decode cX8_resign 0 = .ok (.aload_n 0, 1) := by decide +kernel
theorem dX8_resign_1 : decode cX8_resign 1 = .ok (.iload_n 1, 1) := by decide +kernel
theorem dX8_resign_2 : decode cX8_resign 2 = .ok (.invokevirtual 164, 3) := by decide +kernel
theorem dX8_resign_5 : decode cX8_resign 5 = .ok (.aload_n 0, 1) := by decide +kernel
theorem dX8_resign_6 : decode cX8_resign 6 = .ok (.getfield 31, 3) := by decide +kernel
theorem dX8_resign_9 : decode cX8_resign 9 = .ok (.getfield 117, 3) := by decide +kernel
theorem dX8_resign_12 : decode cX8_resign 12 = .ok (.iconst 4, 1) := by decide +kernel
theorem dX8_resign_13 : decode cX8_resign 13 = .ok (.if_icmp .ne 14, 3) := by decide +kernel
theorem dX8_resign_16 : decode cX8_resign 16 = .ok (.new 55, 3) := by decide +kernel
theorem dX8_resign_19 : decode cX8_resign 19 = .ok (.dup, 1) := by decide +kernel
theorem dX8_resign_20 : decode cX8_resign 20 = .ok (.ldc_w 328, 3) := by decide +kernel
theorem dX8_resign_23 : decode cX8_resign 23 = .ok (.invokespecial 59, 3) := by decide +kernel
theorem dX8_resign_26 : decode cX8_resign 26 = .ok (.athrow, 1) := by decide +kernel
theorem dX8_resign_27 : decode cX8_resign 27 = .ok (.aload_n 0, 1) := by decide +kernel
theorem dX8_resign_28 : decode cX8_resign 28 = .ok (.invokevirtual 75, 3) := by decide +kernel
theorem dX8_resign_31 : decode cX8_resign 31 = .ok (.aload_n 0, 1) := by decide +kernel
theorem dX8_resign_32 : decode cX8_resign 32 = .ok (.getfield 31, 3) := by decide +kernel
theorem dX8_resign_35 : decode cX8_resign 35 = .ok (.iload_n 1, 1) := by decide +kernel
theorem dX8_resign_36 : decode cX8_resign 36 = .ok (.invokestatic 320, 3) := by decide +kernel
theorem dX8_resign_39 : decode cX8_resign 39 = .ok (.invokevirtual 325, 3) := by decide +kernel
theorem dX8_resign_42 : decode cX8_resign 42 = .ok (.aload_n 0, 1) := by decide +kernel
theorem dX8_resign_43 : decode cX8_resign 43 = .ok (.getfield 31, 3) := by decide +kernel
theorem dX8_resign_46 : decode cX8_resign 46 = .ok (.getfield 152, 3) := by decide +kernel
theorem dX8_resign_49 : decode cX8_resign 49 = .ok (.ireturn, 1) := by decide +kernel
theorem dX8_give_0 : decode cX8_give 0 = .ok (.aload_n 0, 1) := by decide +kernel
theorem dX8_give_1 : decode cX8_give 1 = .ok (.iload_n 1, 1) := by decide +kernel
theorem dX8_give_2 : decode cX8_give 2 = .ok (.invokevirtual 164, 3) := by decide +kernel
theorem dX8_give_5 : decode cX8_give 5 = .ok (.iload_n 2, 1) := by decide +kernel
theorem dX8_give_6 : decode cX8_give 6 = .ok (.sipush (-9999), 3) := by decide +kernel
theorem dX8_give_9 : decode cX8_give 9 = .ok (.if_icmp .lt 10, 3) := by decide +kernel
theorem dX8_give_12 : decode cX8_give 12 = .ok (.iload_n 2, 1) := by decide +kernel
theorem dX8_give_13 : decode cX8_give 13 = .ok (.sipush 9999, 3) := by decide +kernel
theorem dX8_give_16 : decode cX8_give 16 = .ok (.if_icmp .le 14, 3) := by decide +kernel
theorem dX8_give_19 : decode cX8_give 19 = .ok (.new 66, 3) := by decide +kernel
theorem dX8_give_22 : decode cX8_give 22 = .ok (.dup, 1) := by decide +kernel
theorem dX8_give_23 : decode cX8_give 23 = .ok (.ldc_w 295, 3) := by decide +kernel
theorem dX8_give_26 : decode cX8_give 26 = .ok (.invokespecial 70, 3) := by decide +kernel
theorem dX8_give_29 : decode cX8_give 29 = .ok (.athrow, 1) := by decide +kernel
theorem dX8_give_30 : decode cX8_give 30 = .ok (.aload_n 0, 1) := by decide +kernel
theorem dX8_give_31 : decode cX8_give 31 = .ok (.getfield 31, 3) := by decide +kernel
theorem dX8_give_34 : decode cX8_give 34 = .ok (.iload_n 1, 1) := by decide +kernel
theorem dX8_give_35 : decode cX8_give 35 = .ok (.invokevirtual 93, 3) := by decide +kernel
theorem dX8_give_38 : decode cX8_give 38 = .ok (.astore_n 3, 1) := by decide +kernel
theorem dX8_give_39 : decode cX8_give 39 = .ok (.aload_n 0, 1) := by decide +kernel
theorem dX8_give_40 : decode cX8_give 40 = .ok (.getfield 31, 3) := by decide +kernel
theorem dX8_give_43 : decode cX8_give 43 = .ok (.getfield 117, 3) := by decide +kernel
theorem dX8_give_46 : decode cX8_give 46 = .ok (.iconst 4, 1) := by decide +kernel
theorem dX8_give_47 : decode cX8_give 47 = .ok (.if_icmp .eq 20, 3) := by decide +kernel
theorem dX8_give_50 : decode cX8_give 50 = .ok (.aload_n 3, 1) := by decide +kernel
theorem dX8_give_51 : decode cX8_give 51 = .ok (.getfield 183, 3) := by decide +kernel
theorem dX8_give_54 : decode cX8_give 54 = .ok (.ifCond .ne 13, 3) := by decide +kernel
theorem dX8_give_57 : decode cX8_give 57 = .ok (.aload_n 3, 1) := by decide +kernel
theorem dX8_give_58 : decode cX8_give 58 = .ok (.getfield 97, 3) := by decide +kernel
theorem dX8_give_61 : decode cX8_give 61 = .ok (.iload_n 2, 1) := by decide +kernel
theorem dX8_give_62 : decode cX8_give 62 = .ok (.iadd, 1) := by decide +kernel
theorem dX8_give_63 : decode cX8_give 63 = .ok (.iconst 1, 1) := by decide +kernel
theorem dX8_give_64 : decode cX8_give 64 = .ok (.if_icmp .ge 14, 3) := by decide +kernel
theorem dX8_give_67 : decode cX8_give 67 = .ok (.new 55, 3) := by decide +kernel
theorem dX8_give_70 : decode cX8_give 70 = .ok (.dup, 1) := by decide +kernel
theorem dX8_give_71 : decode cX8_give 71 = .ok (.ldc_w 330, 3) := by decide +kernel
theorem dX8_give_74 : decode cX8_give 74 = .ok (.invokespecial 59, 3) := by decide +kernel
theorem dX8_give_77 : decode cX8_give 77 = .ok (.athrow, 1) := by decide +kernel
theorem dX8_give_78 : decode cX8_give 78 = .ok (.aload_n 0, 1) := by decide +kernel
theorem dX8_give_79 : decode cX8_give 79 = .ok (.invokevirtual 75, 3) := by decide +kernel
theorem dX8_give_82 : decode cX8_give 82 = .ok (.aload_n 3, 1) := by decide +kernel
theorem dX8_give_83 : decode cX8_give 83 = .ok (.dup, 1) := by decide +kernel
theorem dX8_give_84 : decode cX8_give 84 = .ok (.getfield 97, 3) := by decide +kernel
theorem dX8_give_87 : decode cX8_give 87 = .ok (.iload_n 2, 1) := by decide +kernel
theorem dX8_give_88 : decode cX8_give 88 = .ok (.iadd, 1) := by decide +kernel
theorem dX8_give_89 : decode cX8_give 89 = .ok (.putfield 97, 3) := by decide +kernel
theorem dX8_give_92 : decode cX8_give 92 = .ok (.aload_n 3, 1) := by decide +kernel
theorem dX8_give_93 : decode cX8_give 93 = .ok (.getfield 97, 3) := by decide +kernel
theorem dX8_give_96 : decode cX8_give 96 = .ok (.ireturn, 1) := by decide +kernel
theorem dX8_setBare_0 : decode cX8_setBare 0 = .ok (.aload_n 0, 1) := by decide +kernel
theorem dX8_setBare_1 : decode cX8_setBare 1 = .ok (.iload_n 1, 1) := by decide +kernel
theorem dX8_setBare_2 : decode cX8_setBare 2 = .ok (.invokevirtual 164, 3) := by decide +kernel
theorem dX8_setBare_5 : decode cX8_setBare 5 = .ok (.aload_n 0, 1) := by decide +kernel
theorem dX8_setBare_6 : decode cX8_setBare 6 = .ok (.invokevirtual 75, 3) := by decide +kernel
theorem dX8_setBare_9 : decode cX8_setBare 9 = .ok (.aload_n 0, 1) := by decide +kernel
theorem dX8_setBare_10 : decode cX8_setBare 10 = .ok (.getfield 31, 3) := by decide +kernel
theorem dX8_setBare_13 : decode cX8_setBare 13 = .ok (.iload_n 1, 1) := by decide +kernel
theorem dX8_setBare_14 : decode cX8_setBare 14 = .ok (.invokevirtual 93, 3) := by decide +kernel
theorem dX8_setBare_17 : decode cX8_setBare 17 = .ok (.astore_n 3, 1) := by decide +kernel
theorem dX8_setBare_18 : decode cX8_setBare 18 = .ok (.aload_n 3, 1) := by decide +kernel
theorem dX8_setBare_19 : decode cX8_setBare 19 = .ok (.getfield 186, 3) := by decide +kernel
theorem dX8_setBare_22 : decode cX8_setBare 22 = .ok (.istore 4, 2) := by decide +kernel
theorem dX8_setBare_24 : decode cX8_setBare 24 = .ok (.aload_n 3, 1) := by decide +kernel
theorem dX8_setBare_25 : decode cX8_setBare 25 = .ok (.iload_n 2, 1) := by decide +kernel
theorem dX8_setBare_26 : decode cX8_setBare 26 = .ok (.putfield 186, 3) := by decide +kernel
theorem dX8_setBare_29 : decode cX8_setBare 29 = .ok (.iload 4, 2) := by decide +kernel
theorem dX8_setBare_31 : decode cX8_setBare 31 = .ok (.ireturn, 1) := by decide +kernel
theorem dX8_setClaims_0 : decode cX8_setClaims 0 = .ok (.aload_n 0, 1) := by decide +kernel
theorem dX8_setClaims_1 : decode cX8_setClaims 1 = .ok (.invokevirtual 75, 3) := by decide +kernel
theorem dX8_setClaims_4 : decode cX8_setClaims 4 = .ok (.aload_n 0, 1) := by decide +kernel
theorem dX8_setClaims_5 : decode cX8_setClaims 5 = .ok (.getfield 31, 3) := by decide +kernel
theorem dX8_setClaims_8 : decode cX8_setClaims 8 = .ok (.getfield 151, 3) := by decide +kernel
theorem dX8_setClaims_11 : decode cX8_setClaims 11 = .ok (.istore_n 2, 1) := by decide +kernel
theorem dX8_setClaims_12 : decode cX8_setClaims 12 = .ok (.aload_n 0, 1) := by decide +kernel
theorem dX8_setClaims_13 : decode cX8_setClaims 13 = .ok (.getfield 31, 3) := by decide +kernel
theorem dX8_setClaims_16 : decode cX8_setClaims 16 = .ok (.iload_n 1, 1) := by decide +kernel
theorem dX8_setClaims_17 : decode cX8_setClaims 17 = .ok (.putfield 151, 3) := by decide +kernel
theorem dX8_setClaims_20 : decode cX8_setClaims 20 = .ok (.iload_n 2, 1) := by decide +kernel
theorem dX8_setClaims_21 : decode cX8_setClaims 21 = .ok (.ireturn, 1) := by decide +kernel
theorem dX8_setPeriod_0 : decode cX8_setPeriod 0 = .ok (.aload_n 0, 1) := by decide +kernel
theorem dX8_setPeriod_1 : decode cX8_setPeriod 1 = .ok (.iload_n 1, 1) := by decide +kernel
theorem dX8_setPeriod_2 : decode cX8_setPeriod 2 = .ok (.invokevirtual 157, 3) := by decide +kernel
theorem dX8_setPeriod_5 : decode cX8_setPeriod 5 = .ok (.iload_n 2, 1) := by decide +kernel
theorem dX8_setPeriod_6 : decode cX8_setPeriod 6 = .ok (.iconst 2, 1) := by decide +kernel
theorem dX8_setPeriod_7 : decode cX8_setPeriod 7 = .ok (.if_icmp .lt 19, 3) := by decide +kernel
theorem dX8_setPeriod_10 : decode cX8_setPeriod 10 = .ok (.iload_n 2, 1) := by decide +kernel
theorem dX8_setPeriod_11 : decode cX8_setPeriod 11 = .ok (.iconst 4, 1) := by decide +kernel
theorem dX8_setPeriod_12 : decode cX8_setPeriod 12 = .ok (.if_icmp .gt 14, 3) := by decide +kernel
theorem dX8_setPeriod_15 : decode cX8_setPeriod 15 = .ok (.iload_n 3, 1) := by decide +kernel
theorem dX8_setPeriod_16 : decode cX8_setPeriod 16 = .ok (.ifCond .lt 10, 3) := by decide +kernel
theorem dX8_setPeriod_19 : decode cX8_setPeriod 19 = .ok (.iload_n 3, 1) := by decide +kernel
theorem dX8_setPeriod_20 : decode cX8_setPeriod 20 = .ok (.sipush 999, 3) := by decide +kernel
theorem dX8_setPeriod_23 : decode cX8_setPeriod 23 = .ok (.if_icmp .le 14, 3) := by decide +kernel
theorem dX8_setPeriod_26 : decode cX8_setPeriod 26 = .ok (.new 66, 3) := by decide +kernel
theorem dX8_setPeriod_29 : decode cX8_setPeriod 29 = .ok (.dup, 1) := by decide +kernel
theorem dX8_setPeriod_30 : decode cX8_setPeriod 30 = .ok (.ldc_w 332, 3) := by decide +kernel
theorem dX8_setPeriod_33 : decode cX8_setPeriod 33 = .ok (.invokespecial 70, 3) := by decide +kernel
theorem dX8_setPeriod_36 : decode cX8_setPeriod 36 = .ok (.athrow, 1) := by decide +kernel
theorem dX8_setPeriod_37 : decode cX8_setPeriod 37 = .ok (.aload_n 0, 1) := by decide +kernel
theorem dX8_setPeriod_38 : decode cX8_setPeriod 38 = .ok (.invokevirtual 75, 3) := by decide +kernel
theorem dX8_setPeriod_41 : decode cX8_setPeriod 41 = .ok (.aload_n 0, 1) := by decide +kernel
theorem dX8_setPeriod_42 : decode cX8_setPeriod 42 = .ok (.getfield 31, 3) := by decide +kernel
theorem dX8_setPeriod_45 : decode cX8_setPeriod 45 = .ok (.getfield 105, 3) := by decide +kernel
theorem dX8_setPeriod_48 : decode cX8_setPeriod 48 = .ok (.iload_n 1, 1) := by decide +kernel
theorem dX8_setPeriod_49 : decode cX8_setPeriod 49 = .ok (.iload_n 2, 1) := by decide +kernel
theorem dX8_setPeriod_50 : decode cX8_setPeriod 50 = .ok (.invokevirtual 160, 3) := by decide +kernel
theorem dX8_setPeriod_53 : decode cX8_setPeriod 53 = .ok (.istore 4, 2) := by decide +kernel
theorem dX8_setPeriod_55 : decode cX8_setPeriod 55 = .ok (.aload_n 0, 1) := by decide +kernel
theorem dX8_setPeriod_56 : decode cX8_setPeriod 56 = .ok (.getfield 31, 3) := by decide +kernel
theorem dX8_setPeriod_59 : decode cX8_setPeriod 59 = .ok (.getfield 105, 3) := by decide +kernel
theorem dX8_setPeriod_62 : decode cX8_setPeriod 62 = .ok (.iload_n 1, 1) := by decide +kernel
theorem dX8_setPeriod_63 : decode cX8_setPeriod 63 = .ok (.iload_n 2, 1) := by decide +kernel
theorem dX8_setPeriod_64 : decode cX8_setPeriod 64 = .ok (.iload_n 3, 1) := by decide +kernel
theorem dX8_setPeriod_65 : decode cX8_setPeriod 65 = .ok (.invokevirtual 334, 3) := by decide +kernel
theorem dX8_setPeriod_68 : decode cX8_setPeriod 68 = .ok (.iload 4, 2) := by decide +kernel
theorem dX8_setPeriod_70 : decode cX8_setPeriod 70 = .ok (.ireturn, 1) := by decide +kernel
theorem dX8_swap_0 : decode cX8_swap 0 = .ok (.aload_n 0, 1) := by decide +kernel
theorem dX8_swap_1 : decode cX8_swap 1 = .ok (.getfield 31, 3) := by decide +kernel
theorem dX8_swap_4 : decode cX8_swap 4 = .ok (.getfield 117, 3) := by decide +kernel
theorem dX8_swap_7 : decode cX8_swap 7 = .ok (.ifCond .eq 25, 3) := by decide +kernel
theorem dX8_swap_10 : decode cX8_swap 10 = .ok (.aload_n 0, 1) := by decide +kernel
theorem dX8_swap_11 : decode cX8_swap 11 = .ok (.getfield 31, 3) := by decide +kernel
theorem dX8_swap_14 : decode cX8_swap 14 = .ok (.getfield 117, 3) := by decide +kernel
theorem dX8_swap_17 : decode cX8_swap 17 = .ok (.iconst 2, 1) := by decide +kernel
theorem dX8_swap_18 : decode cX8_swap 18 = .ok (.if_icmp .eq 14, 3) := by decide +kernel
theorem dX8_swap_21 : decode cX8_swap 21 = .ok (.new 55, 3) := by decide +kernel
theorem dX8_swap_24 : decode cX8_swap 24 = .ok (.dup, 1) := by decide +kernel
theorem dX8_swap_25 : decode cX8_swap 25 = .ok (.ldc_w 338, 3) := by decide +kernel
theorem dX8_swap_28 : decode cX8_swap 28 = .ok (.invokespecial 59, 3) := by decide +kernel
theorem dX8_swap_31 : decode cX8_swap 31 = .ok (.athrow, 1) := by decide +kernel
theorem dX8_swap_32 : decode cX8_swap 32 = .ok (.aload_n 0, 1) := by decide +kernel
theorem dX8_swap_33 : decode cX8_swap 33 = .ok (.invokevirtual 75, 3) := by decide +kernel
theorem dX8_swap_36 : decode cX8_swap 36 = .ok (.aload_n 0, 1) := by decide +kernel
theorem dX8_swap_37 : decode cX8_swap 37 = .ok (.getfield 31, 3) := by decide +kernel
theorem dX8_swap_40 : decode cX8_swap 40 = .ok (.invokevirtual 340, 3) := by decide +kernel
theorem dX8_swap_43 : decode cX8_swap 43 = .ok (.aload_n 0, 1) := by decide +kernel
theorem dX8_swap_44 : decode cX8_swap 44 = .ok (.getfield 31, 3) := by decide +kernel
theorem dX8_swap_47 : decode cX8_swap 47 = .ok (.invokevirtual 221, 3) := by decide +kernel
theorem dX8_swap_50 : decode cX8_swap 50 = .ok (.ireturn, 1) := by decide +kernel
theorem dX8_keep_0 : decode cX8_keep 0 = .ok (.aload_n 0, 1) := by decide +kernel
theorem dX8_keep_1 : decode cX8_keep 1 = .ok (.iload_n 1, 1) := by decide +kernel
theorem dX8_keep_2 : decode cX8_keep 2 = .ok (.invokevirtual 343, 3) := by decide +kernel
theorem dX8_keep_5 : decode cX8_keep 5 = .ok (.aload_n 0, 1) := by decide +kernel
theorem dX8_keep_6 : decode cX8_keep 6 = .ok (.getfield 46, 3) := by decide +kernel
theorem dX8_keep_9 : decode cX8_keep 9 = .ok (.iload_n 1, 1) := by decide +kernel
theorem dX8_keep_10 : decode cX8_keep 10 = .ok (.invokestatic 346, 3) := by decide +kernel
theorem dX8_keep_13 : decode cX8_keep 13 = .ok (.astore_n 2, 1) := by decide +kernel
theorem dX8_keep_14 : decode cX8_keep 14 = .ok (.aload_n 2, 1) := by decide +kernel
theorem dX8_keep_15 : decode cX8_keep 15 = .ok (.ifnull 16, 3) := by decide +kernel
theorem dX8_keep_18 : decode cX8_keep 18 = .ok (.aload_n 2, 1) := by decide +kernel
theorem dX8_keep_19 : decode cX8_keep 19 = .ok (.aload_n 0, 1) := by decide +kernel
theorem dX8_keep_20 : decode cX8_keep 20 = .ok (.getfield 31, 3) := by decide +kernel
theorem dX8_keep_23 : decode cX8_keep 23 = .ok (.invokevirtual 350, 3) := by decide +kernel
theorem dX8_keep_26 : decode cX8_keep 26 = .ok (.aload_n 2, 1) := by decide +kernel
theorem dX8_keep_27 : decode cX8_keep 27 = .ok (.iconst 1, 1) := by decide +kernel
theorem dX8_keep_28 : decode cX8_keep 28 = .ok (.putfield 354, 3) := by decide +kernel
theorem dX8_keep_31 : decode cX8_keep 31 = .ok (.aload_n 0, 1) := by decide +kernel
theorem dX8_keep_32 : decode cX8_keep 32 = .ok (.getfield 31, 3) := by decide +kernel
theorem dX8_keep_35 : decode cX8_keep 35 = .ok (.getfield 135, 3) := by decide +kernel
theorem dX8_keep_38 : decode cX8_keep 38 = .ok (.ireturn, 1) := by decide +kernel
theorem dX8_restore_0 : decode cX8_restore 0 = .ok (.aload_n 0, 1) := by decide +kernel
theorem dX8_restore_1 : decode cX8_restore 1 = .ok (.iload_n 1, 1) := by decide +kernel
theorem dX8_restore_2 : decode cX8_restore 2 = .ok (.invokevirtual 343, 3) := by decide +kernel
theorem dX8_restore_5 : decode cX8_restore 5 = .ok (.aload_n 0, 1) := by decide +kernel
theorem dX8_restore_6 : decode cX8_restore 6 = .ok (.getfield 46, 3) := by decide +kernel
theorem dX8_restore_9 : decode cX8_restore 9 = .ok (.iload_n 1, 1) := by decide +kernel
theorem dX8_restore_10 : decode cX8_restore 10 = .ok (.invokestatic 346, 3) := by decide +kernel
theorem dX8_restore_13 : decode cX8_restore 13 = .ok (.astore_n 2, 1) := by decide +kernel
theorem dX8_restore_14 : decode cX8_restore 14 = .ok (.aload_n 2, 1) := by decide +kernel
theorem dX8_restore_15 : decode cX8_restore 15 = .ok (.ifnull 10, 3) := by decide +kernel
theorem dX8_restore_18 : decode cX8_restore 18 = .ok (.aload_n 2, 1) := by decide +kernel
theorem dX8_restore_19 : decode cX8_restore 19 = .ok (.getfield 354, 3) := by decide +kernel
theorem dX8_restore_22 : decode cX8_restore 22 = .ok (.ifCond .ne 14, 3) := by decide +kernel
theorem dX8_restore_25 : decode cX8_restore 25 = .ok (.new 55, 3) := by decide +kernel
theorem dX8_restore_28 : decode cX8_restore 28 = .ok (.dup, 1) := by decide +kernel
theorem dX8_restore_29 : decode cX8_restore 29 = .ok (.ldc_w 357, 3) := by decide +kernel
theorem dX8_restore_32 : decode cX8_restore 32 = .ok (.invokespecial 59, 3) := by decide +kernel
theorem dX8_restore_35 : decode cX8_restore 35 = .ok (.athrow, 1) := by decide +kernel
theorem dX8_restore_36 : decode cX8_restore 36 = .ok (.aload_n 0, 1) := by decide +kernel
theorem dX8_restore_37 : decode cX8_restore 37 = .ok (.invokevirtual 75, 3) := by decide +kernel
theorem dX8_restore_40 : decode cX8_restore 40 = .ok (.aload_n 0, 1) := by decide +kernel
theorem dX8_restore_41 : decode cX8_restore 41 = .ok (.getfield 31, 3) := by decide +kernel
theorem dX8_restore_44 : decode cX8_restore 44 = .ok (.aload_n 2, 1) := by decide +kernel
theorem dX8_restore_45 : decode cX8_restore 45 = .ok (.invokevirtual 350, 3) := by decide +kernel
theorem dX8_restore_48 : decode cX8_restore 48 = .ok (.aload_n 0, 1) := by decide +kernel
theorem dX8_restore_49 : decode cX8_restore 49 = .ok (.getfield 31, 3) := by decide +kernel
theorem dX8_restore_52 : decode cX8_restore 52 = .ok (.getfield 135, 3) := by decide +kernel
theorem dX8_restore_55 : decode cX8_restore 55 = .ok (.ireturn, 1) := by decide +kernel
theorem dX8_undo_0 : decode cX8_undo 0 = .ok (.aload_n 0, 1) := by decide +kernel
theorem dX8_undo_1 : decode cX8_undo 1 = .ok (.getfield 359, 3) := by decide +kernel
theorem dX8_undo_4 : decode cX8_undo 4 = .ok (.ifCond .gt 14, 3) := by decide +kernel
theorem dX8_undo_7 : decode cX8_undo 7 = .ok (.new 55, 3) := by decide +kernel
theorem dX8_undo_10 : decode cX8_undo 10 = .ok (.dup, 1) := by decide +kernel
theorem dX8_undo_11 : decode cX8_undo 11 = .ok (.ldc_w 362, 3) := by decide +kernel
theorem dX8_undo_14 : decode cX8_undo 14 = .ok (.invokespecial 59, 3) := by decide +kernel
theorem dX8_undo_17 : decode cX8_undo 17 = .ok (.athrow, 1) := by decide +kernel
theorem dX8_undo_18 : decode cX8_undo 18 = .ok (.aload_n 0, 1) := by decide +kernel
theorem dX8_undo_19 : decode cX8_undo 19 = .ok (.aload_n 0, 1) := by decide +kernel
theorem dX8_undo_20 : decode cX8_undo 20 = .ok (.getfield 364, 3) := by decide +kernel
theorem dX8_undo_23 : decode cX8_undo 23 = .ok (.bipush 6, 2) := by decide +kernel
theorem dX8_undo_25 : decode cX8_undo 25 = .ok (.iadd, 1) := by decide +kernel
theorem dX8_undo_26 : decode cX8_undo 26 = .ok (.iconst 1, 1) := by decide +kernel
theorem dX8_undo_27 : decode cX8_undo 27 = .ok (.isub, 1) := by decide +kernel
theorem dX8_undo_28 : decode cX8_undo 28 = .ok (.bipush 6, 2) := by decide +kernel
theorem dX8_undo_30 : decode cX8_undo 30 = .ok (.irem, 1) := by decide +kernel
theorem dX8_undo_31 : decode cX8_undo 31 = .ok (.putfield 364, 3) := by decide +kernel
theorem dX8_undo_34 : decode cX8_undo 34 = .ok (.aload_n 0, 1) := by decide +kernel
theorem dX8_undo_35 : decode cX8_undo 35 = .ok (.dup, 1) := by decide +kernel
theorem dX8_undo_36 : decode cX8_undo 36 = .ok (.getfield 359, 3) := by decide +kernel
theorem dX8_undo_39 : decode cX8_undo 39 = .ok (.iconst 1, 1) := by decide +kernel
theorem dX8_undo_40 : decode cX8_undo 40 = .ok (.isub, 1) := by decide +kernel
theorem dX8_undo_41 : decode cX8_undo 41 = .ok (.putfield 359, 3) := by decide +kernel
theorem dX8_undo_44 : decode cX8_undo 44 = .ok (.aload_n 0, 1) := by decide +kernel
theorem dX8_undo_45 : decode cX8_undo 45 = .ok (.getfield 42, 3) := by decide +kernel
theorem dX8_undo_48 : decode cX8_undo 48 = .ok (.aload_n 0, 1) := by decide +kernel
theorem dX8_undo_49 : decode cX8_undo 49 = .ok (.getfield 364, 3) := by decide +kernel
theorem dX8_undo_52 : decode cX8_undo 52 = .ok (.invokestatic 346, 3) := by decide +kernel
theorem dX8_undo_55 : decode cX8_undo 55 = .ok (.astore_n 1, 1) := by decide +kernel
theorem dX8_undo_56 : decode cX8_undo 56 = .ok (.aload_n 1, 1) := by decide +kernel
theorem dX8_undo_57 : decode cX8_undo 57 = .ok (.ifnull 11, 3) := by decide +kernel
theorem dX8_undo_60 : decode cX8_undo 60 = .ok (.aload_n 0, 1) := by decide +kernel
theorem dX8_undo_61 : decode cX8_undo 61 = .ok (.getfield 31, 3) := by decide +kernel
theorem dX8_undo_64 : decode cX8_undo 64 = .ok (.aload_n 1, 1) := by decide +kernel
theorem dX8_undo_65 : decode cX8_undo 65 = .ok (.invokevirtual 350, 3) := by decide +kernel
theorem dX8_undo_68 : decode cX8_undo 68 = .ok (.aload_n 0, 1) := by decide +kernel
theorem dX8_undo_69 : decode cX8_undo 69 = .ok (.getfield 359, 3) := by decide +kernel
theorem dX8_undo_72 : decode cX8_undo 72 = .ok (.ireturn, 1) := by decide +kernel
theorem dX8_undoCount_0 : decode cX8_undoCount 0 = .ok (.aload_n 0, 1) := by decide +kernel
theorem dX8_undoCount_1 : decode cX8_undoCount 1 = .ok (.getfield 359, 3) := by decide +kernel
theorem dX8_undoCount_4 : decode cX8_undoCount 4 = .ok (.ireturn, 1) := by decide +kernel
theorem dX8_writeClock_0 : decode cX8_writeClock 0 = .ok (.aload_n 0, 1) := by decide +kernel
theorem dX8_writeClock_1 : decode cX8_writeClock 1 = .ok (.getfield 24, 3) := by decide +kernel
theorem dX8_writeClock_4 : decode cX8_writeClock 4 = .ok (.iconst 0, 1) := by decide +kernel
theorem dX8_writeClock_5 : decode cX8_writeClock 5 = .ok (.putfield 367, 3) := by decide +kernel
theorem dX8_writeClock_8 : decode cX8_writeClock 8 = .ok (.aload_n 0, 1) := by decide +kernel
theorem dX8_writeClock_9 : decode cX8_writeClock 9 = .ok (.iconst 0, 1) := by decide +kernel
theorem dX8_writeClock_10 : decode cX8_writeClock 10 = .ok (.invokevirtual 368, 3) := by decide +kernel
theorem dX8_writeClock_13 : decode cX8_writeClock 13 = .ok (.aload_n 0, 1) := by decide +kernel
theorem dX8_writeClock_14 : decode cX8_writeClock 14 = .ok (.getfield 24, 3) := by decide +kernel
theorem dX8_writeClock_17 : decode cX8_writeClock 17 = .ok (.bipush 32, 2) := by decide +kernel
theorem dX8_writeClock_19 : decode cX8_writeClock 19 = .ok (.invokevirtual 371, 3) := by decide +kernel
theorem dX8_writeClock_22 : decode cX8_writeClock 22 = .ok (.aload_n 0, 1) := by decide +kernel
theorem dX8_writeClock_23 : decode cX8_writeClock 23 = .ok (.iconst 1, 1) := by decide +kernel
theorem dX8_writeClock_24 : decode cX8_writeClock 24 = .ok (.invokevirtual 368, 3) := by decide +kernel
theorem dX8_writeClock_27 : decode cX8_writeClock 27 = .ok (.aload_n 0, 1) := by decide +kernel
theorem dX8_writeClock_28 : decode cX8_writeClock 28 = .ok (.getfield 24, 3) := by decide +kernel
theorem dX8_writeClock_31 : decode cX8_writeClock 31 = .ok (.getfield 367, 3) := by decide +kernel
theorem dX8_writeClock_34 : decode cX8_writeClock 34 = .ok (.ireturn, 1) := by decide +kernel
theorem dX8_writeLog_0 : decode cX8_writeLog 0 = .ok (.aload_n 0, 1) := by decide +kernel
theorem dX8_writeLog_1 : decode cX8_writeLog 1 = .ok (.getfield 24, 3) := by decide +kernel
theorem dX8_writeLog_4 : decode cX8_writeLog 4 = .ok (.iconst 0, 1) := by decide +kernel
theorem dX8_writeLog_5 : decode cX8_writeLog 5 = .ok (.putfield 367, 3) := by decide +kernel
theorem dX8_writeLog_8 : decode cX8_writeLog 8 = .ok (.aload_n 0, 1) := by decide +kernel
theorem dX8_writeLog_9 : decode cX8_writeLog 9 = .ok (.getfield 31, 3) := by decide +kernel
theorem dX8_writeLog_12 : decode cX8_writeLog 12 = .ok (.getfield 196, 3) := by decide +kernel
theorem dX8_writeLog_15 : decode cX8_writeLog 15 = .ok (.getfield 200, 3) := by decide +kernel
theorem dX8_writeLog_18 : decode cX8_writeLog 18 = .ok (.bipush 12, 2) := by decide +kernel
theorem dX8_writeLog_20 : decode cX8_writeLog 20 = .ok (.invokestatic 375, 3) := by decide +kernel
theorem dX8_writeLog_23 : decode cX8_writeLog 23 = .ok (.iconst 1, 1) := by decide +kernel
theorem dX8_writeLog_24 : decode cX8_writeLog 24 = .ok (.isub, 1) := by decide +kernel
theorem dX8_writeLog_25 : decode cX8_writeLog 25 = .ok (.istore_n 1, 1) := by decide +kernel
theorem dX8_writeLog_26 : decode cX8_writeLog 26 = .ok (.iload_n 1, 1) := by decide +kernel
theorem dX8_writeLog_27 : decode cX8_writeLog 27 = .ok (.istore_n 2, 1) := by decide +kernel
theorem dX8_writeLog_28 : decode cX8_writeLog 28 = .ok (.iload_n 2, 1) := by decide +kernel
theorem dX8_writeLog_29 : decode cX8_writeLog 29 = .ok (.ifCond .lt 92, 3) := by decide +kernel
theorem dX8_writeLog_32 : decode cX8_writeLog 32 = .ok (.iload_n 2, 1) := by decide +kernel
theorem dX8_writeLog_33 : decode cX8_writeLog 33 = .ok (.iload_n 1, 1) := by decide +kernel
theorem dX8_writeLog_34 : decode cX8_writeLog 34 = .ok (.if_icmp .ge 12, 3) := by decide +kernel
theorem dX8_writeLog_37 : decode cX8_writeLog 37 = .ok (.aload_n 0, 1) := by decide +kernel
theorem dX8_writeLog_38 : decode cX8_writeLog 38 = .ok (.getfield 24, 3) := by decide +kernel
theorem dX8_writeLog_41 : decode cX8_writeLog 41 = .ok (.bipush 32, 2) := by decide +kernel
theorem dX8_writeLog_43 : decode cX8_writeLog 43 = .ok (.invokevirtual 371, 3) := by decide +kernel
theorem dX8_writeLog_46 : decode cX8_writeLog 46 = .ok (.aload_n 0, 1) := by decide +kernel
theorem dX8_writeLog_47 : decode cX8_writeLog 47 = .ok (.getfield 24, 3) := by decide +kernel
theorem dX8_writeLog_50 : decode cX8_writeLog 50 = .ok (.aload_n 0, 1) := by decide +kernel
theorem dX8_writeLog_51 : decode cX8_writeLog 51 = .ok (.getfield 31, 3) := by decide +kernel
theorem dX8_writeLog_54 : decode cX8_writeLog 54 = .ok (.getfield 196, 3) := by decide +kernel
theorem dX8_writeLog_57 : decode cX8_writeLog 57 = .ok (.iload_n 2, 1) := by decide +kernel
theorem dX8_writeLog_58 : decode cX8_writeLog 58 = .ok (.iconst 0, 1) := by decide +kernel
theorem dX8_writeLog_59 : decode cX8_writeLog 59 = .ok (.invokevirtual 210, 3) := by decide +kernel
theorem dX8_writeLog_62 : decode cX8_writeLog 62 = .ok (.ifCond .ne 8, 3) := by decide +kernel
theorem dX8_writeLog_65 : decode cX8_writeLog 65 = .ok (.bipush 119, 2) := by decide +kernel
theorem dX8_writeLog_67 : decode cX8_writeLog 67 = .ok (.goto 5, 3) := by decide +kernel
theorem dX8_writeLog_70 : decode cX8_writeLog 70 = .ok (.bipush 98, 2) := by decide +kernel
theorem dX8_writeLog_72 : decode cX8_writeLog 72 = .ok (.invokevirtual 371, 3) := by decide +kernel
theorem dX8_writeLog_75 : decode cX8_writeLog 75 = .ok (.aload_n 0, 1) := by decide +kernel
theorem dX8_writeLog_76 : decode cX8_writeLog 76 = .ok (.getfield 24, 3) := by decide +kernel
theorem dX8_writeLog_79 : decode cX8_writeLog 79 = .ok (.aload_n 0, 1) := by decide +kernel
theorem dX8_writeLog_80 : decode cX8_writeLog 80 = .ok (.getfield 31, 3) := by decide +kernel
theorem dX8_writeLog_83 : decode cX8_writeLog 83 = .ok (.getfield 196, 3) := by decide +kernel
theorem dX8_writeLog_86 : decode cX8_writeLog 86 = .ok (.iload_n 2, 1) := by decide +kernel
theorem dX8_writeLog_87 : decode cX8_writeLog 87 = .ok (.iconst 1, 1) := by decide +kernel
theorem dX8_writeLog_88 : decode cX8_writeLog 88 = .ok (.invokevirtual 210, 3) := by decide +kernel
theorem dX8_writeLog_91 : decode cX8_writeLog 91 = .ok (.invokevirtual 380, 3) := by decide +kernel
theorem dX8_writeLog_94 : decode cX8_writeLog 94 = .ok (.aload_n 0, 1) := by decide +kernel
theorem dX8_writeLog_95 : decode cX8_writeLog 95 = .ok (.getfield 24, 3) := by decide +kernel
theorem dX8_writeLog_98 : decode cX8_writeLog 98 = .ok (.bipush 43, 2) := by decide +kernel
theorem dX8_writeLog_100 : decode cX8_writeLog 100 = .ok (.aload_n 0, 1) := by decide +kernel
theorem dX8_writeLog_101 : decode cX8_writeLog 101 = .ok (.getfield 31, 3) := by decide +kernel
theorem dX8_writeLog_104 : decode cX8_writeLog 104 = .ok (.getfield 196, 3) := by decide +kernel
theorem dX8_writeLog_107 : decode cX8_writeLog 107 = .ok (.iload_n 2, 1) := by decide +kernel
theorem dX8_writeLog_108 : decode cX8_writeLog 108 = .ok (.iconst 3, 1) := by decide +kernel
theorem dX8_writeLog_109 : decode cX8_writeLog 109 = .ok (.invokevirtual 210, 3) := by decide +kernel
theorem dX8_writeLog_112 : decode cX8_writeLog 112 = .ok (.invokevirtual 383, 3) := by decide +kernel
theorem dX8_writeLog_115 : decode cX8_writeLog 115 = .ok (.iinc 2 (-1), 3) := by decide +kernel
theorem dX8_writeLog_118 : decode cX8_writeLog 118 = .ok (.goto (-90), 3) := by decide +kernel
theorem dX8_writeLog_121 : decode cX8_writeLog 121 = .ok (.aload_n 0, 1) := by decide +kernel
theorem dX8_writeLog_122 : decode cX8_writeLog 122 = .ok (.getfield 24, 3) := by decide +kernel
theorem dX8_writeLog_125 : decode cX8_writeLog 125 = .ok (.getfield 367, 3) := by decide +kernel
theorem dX8_writeLog_128 : decode cX8_writeLog 128 = .ok (.ireturn, 1) := by decide +kernel
theorem dX8_writePeriods_0 : decode cX8_writePeriods 0 = .ok (.aload_n 0, 1) := by decide +kernel
theorem dX8_writePeriods_1 : decode cX8_writePeriods 1 = .ok (.getfield 24, 3) := by decide +kernel
theorem dX8_writePeriods_4 : decode cX8_writePeriods 4 = .ok (.iconst 0, 1) := by decide +kernel
theorem dX8_writePeriods_5 : decode cX8_writePeriods 5 = .ok (.putfield 367, 3) := by decide +kernel
theorem dX8_writePeriods_8 : decode cX8_writePeriods 8 = .ok (.iconst 0, 1) := by decide +kernel
theorem dX8_writePeriods_9 : decode cX8_writePeriods 9 = .ok (.istore_n 1, 1) := by decide +kernel
theorem dX8_writePeriods_10 : decode cX8_writePeriods 10 = .ok (.iload_n 1, 1) := by decide +kernel
theorem dX8_writePeriods_11 : decode cX8_writePeriods 11 = .ok (.aload_n 0, 1) := by decide +kernel
theorem dX8_writePeriods_12 : decode cX8_writePeriods 12 = .ok (.getfield 31, 3) := by decide +kernel
theorem dX8_writePeriods_15 : decode cX8_writePeriods 15 = .ok (.getfield 105, 3) := by decide +kernel
theorem dX8_writePeriods_18 : decode cX8_writePeriods 18 = .ok (.getfield 106, 3) := by decide +kernel
theorem dX8_writePeriods_21 : decode cX8_writePeriods 21 = .ok (.if_icmp .ge 118, 3) := by decide +kernel
theorem dX8_writePeriods_24 : decode cX8_writePeriods 24 = .ok (.iload_n 1, 1) := by decide +kernel
theorem dX8_writePeriods_25 : decode cX8_writePeriods 25 = .ok (.ifCond .le 12, 3) := by decide +kernel
theorem dX8_writePeriods_28 : decode cX8_writePeriods 28 = .ok (.aload_n 0, 1) := by decide +kernel
theorem dX8_writePeriods_29 : decode cX8_writePeriods 29 = .ok (.getfield 24, 3) := by decide +kernel
theorem dX8_writePeriods_32 : decode cX8_writePeriods 32 = .ok (.bipush 32, 2) := by decide +kernel
theorem dX8_writePeriods_34 : decode cX8_writePeriods 34 = .ok (.invokevirtual 371, 3) := by decide +kernel
theorem dX8_writePeriods_37 : decode cX8_writePeriods 37 = .ok (.aload_n 0, 1) := by decide +kernel
theorem dX8_writePeriods_38 : decode cX8_writePeriods 38 = .ok (.iload_n 1, 1) := by decide +kernel
theorem dX8_writePeriods_39 : decode cX8_writePeriods 39 = .ok (.invokevirtual 387, 3) := by decide +kernel
theorem dX8_writePeriods_42 : decode cX8_writePeriods 42 = .ok (.aload_n 0, 1) := by decide +kernel
theorem dX8_writePeriods_43 : decode cX8_writePeriods 43 = .ok (.getfield 24, 3) := by decide +kernel
theorem dX8_writePeriods_46 : decode cX8_writePeriods 46 = .ok (.bipush 47, 2) := by decide +kernel
theorem dX8_writePeriods_48 : decode cX8_writePeriods 48 = .ok (.invokevirtual 371, 3) := by decide +kernel
theorem dX8_writePeriods_51 : decode cX8_writePeriods 51 = .ok (.aload_n 0, 1) := by decide +kernel
theorem dX8_writePeriods_52 : decode cX8_writePeriods 52 = .ok (.getfield 24, 3) := by decide +kernel
theorem dX8_writePeriods_55 : decode cX8_writePeriods 55 = .ok (.aload_n 0, 1) := by decide +kernel
theorem dX8_writePeriods_56 : decode cX8_writePeriods 56 = .ok (.getfield 31, 3) := by decide +kernel
theorem dX8_writePeriods_59 : decode cX8_writePeriods 59 = .ok (.getfield 105, 3) := by decide +kernel
theorem dX8_writePeriods_62 : decode cX8_writePeriods 62 = .ok (.iload_n 1, 1) := by decide +kernel
theorem dX8_writePeriods_63 : decode cX8_writePeriods 63 = .ok (.iconst 1, 1) := by decide +kernel
theorem dX8_writePeriods_64 : decode cX8_writePeriods 64 = .ok (.invokevirtual 160, 3) := by decide +kernel
theorem dX8_writePeriods_67 : decode cX8_writePeriods 67 = .ok (.invokevirtual 380, 3) := by decide +kernel
theorem dX8_writePeriods_70 : decode cX8_writePeriods 70 = .ok (.aload_n 0, 1) := by decide +kernel
theorem dX8_writePeriods_71 : decode cX8_writePeriods 71 = .ok (.getfield 24, 3) := by decide +kernel
theorem dX8_writePeriods_74 : decode cX8_writePeriods 74 = .ok (.bipush 43, 2) := by decide +kernel
theorem dX8_writePeriods_76 : decode cX8_writePeriods 76 = .ok (.aload_n 0, 1) := by decide +kernel
theorem dX8_writePeriods_77 : decode cX8_writePeriods 77 = .ok (.getfield 31, 3) := by decide +kernel
theorem dX8_writePeriods_80 : decode cX8_writePeriods 80 = .ok (.getfield 105, 3) := by decide +kernel
theorem dX8_writePeriods_83 : decode cX8_writePeriods 83 = .ok (.iload_n 1, 1) := by decide +kernel
theorem dX8_writePeriods_84 : decode cX8_writePeriods 84 = .ok (.iconst 2, 1) := by decide +kernel
theorem dX8_writePeriods_85 : decode cX8_writePeriods 85 = .ok (.invokevirtual 160, 3) := by decide +kernel
theorem dX8_writePeriods_88 : decode cX8_writePeriods 88 = .ok (.invokevirtual 383, 3) := by decide +kernel
theorem dX8_writePeriods_91 : decode cX8_writePeriods 91 = .ok (.aload_n 0, 1) := by decide +kernel
theorem dX8_writePeriods_92 : decode cX8_writePeriods 92 = .ok (.getfield 24, 3) := by decide +kernel
theorem dX8_writePeriods_95 : decode cX8_writePeriods 95 = .ok (.bipush 100, 2) := by decide +kernel
theorem dX8_writePeriods_97 : decode cX8_writePeriods 97 = .ok (.aload_n 0, 1) := by decide +kernel
theorem dX8_writePeriods_98 : decode cX8_writePeriods 98 = .ok (.getfield 31, 3) := by decide +kernel
theorem dX8_writePeriods_101 : decode cX8_writePeriods 101 = .ok (.getfield 105, 3) := by decide +kernel
theorem dX8_writePeriods_104 : decode cX8_writePeriods 104 = .ok (.iload_n 1, 1) := by decide +kernel
theorem dX8_writePeriods_105 : decode cX8_writePeriods 105 = .ok (.iconst 3, 1) := by decide +kernel
theorem dX8_writePeriods_106 : decode cX8_writePeriods 106 = .ok (.invokevirtual 160, 3) := by decide +kernel
theorem dX8_writePeriods_109 : decode cX8_writePeriods 109 = .ok (.invokevirtual 383, 3) := by decide +kernel
theorem dX8_writePeriods_112 : decode cX8_writePeriods 112 = .ok (.aload_n 0, 1) := by decide +kernel
theorem dX8_writePeriods_113 : decode cX8_writePeriods 113 = .ok (.getfield 24, 3) := by decide +kernel
theorem dX8_writePeriods_116 : decode cX8_writePeriods 116 = .ok (.bipush 98, 2) := by decide +kernel
theorem dX8_writePeriods_118 : decode cX8_writePeriods 118 = .ok (.aload_n 0, 1) := by decide +kernel
theorem dX8_writePeriods_119 : decode cX8_writePeriods 119 = .ok (.getfield 31, 3) := by decide +kernel
theorem dX8_writePeriods_122 : decode cX8_writePeriods 122 = .ok (.getfield 105, 3) := by decide +kernel
theorem dX8_writePeriods_125 : decode cX8_writePeriods 125 = .ok (.iload_n 1, 1) := by decide +kernel
theorem dX8_writePeriods_126 : decode cX8_writePeriods 126 = .ok (.iconst 4, 1) := by decide +kernel
theorem dX8_writePeriods_127 : decode cX8_writePeriods 127 = .ok (.invokevirtual 160, 3) := by decide +kernel
theorem dX8_writePeriods_130 : decode cX8_writePeriods 130 = .ok (.invokevirtual 383, 3) := by decide +kernel
theorem dX8_writePeriods_133 : decode cX8_writePeriods 133 = .ok (.iinc 1 1, 3) := by decide +kernel
theorem dX8_writePeriods_136 : decode cX8_writePeriods 136 = .ok (.goto (-126), 3) := by decide +kernel
theorem dX8_writePeriods_139 : decode cX8_writePeriods 139 = .ok (.aload_n 0, 1) := by decide +kernel
theorem dX8_writePeriods_140 : decode cX8_writePeriods 140 = .ok (.getfield 24, 3) := by decide +kernel
theorem dX8_writePeriods_143 : decode cX8_writePeriods 143 = .ok (.getfield 367, 3) := by decide +kernel
theorem dX8_writePeriods_146 : decode cX8_writePeriods 146 = .ok (.ireturn, 1) := by decide +kernel
theorem dX8_outputByte_0 : decode cX8_outputByte 0 = .ok (.iload_n 1, 1) := by decide +kernel
theorem dX8_outputByte_1 : decode cX8_outputByte 1 = .ok (.ifCond .lt 26, 3) := by decide +kernel
theorem dX8_outputByte_4 : decode cX8_outputByte 4 = .ok (.iload_n 1, 1) := by decide +kernel
theorem dX8_outputByte_5 : decode cX8_outputByte 5 = .ok (.aload_n 0, 1) := by decide +kernel
theorem dX8_outputByte_6 : decode cX8_outputByte 6 = .ok (.getfield 24, 3) := by decide +kernel
theorem dX8_outputByte_9 : decode cX8_outputByte 9 = .ok (.getfield 367, 3) := by decide +kernel
theorem dX8_outputByte_12 : decode cX8_outputByte 12 = .ok (.if_icmp .ge 15, 3) := by decide +kernel
theorem dX8_outputByte_15 : decode cX8_outputByte 15 = .ok (.iload_n 1, 1) := by decide +kernel
theorem dX8_outputByte_16 : decode cX8_outputByte 16 = .ok (.aload_n 0, 1) := by decide +kernel
theorem dX8_outputByte_17 : decode cX8_outputByte 17 = .ok (.getfield 24, 3) := by decide +kernel
theorem dX8_outputByte_20 : decode cX8_outputByte 20 = .ok (.getfield 390, 3) := by decide +kernel
theorem dX8_outputByte_23 : decode cX8_outputByte 23 = .ok (.arraylength, 1) := by decide +kernel
theorem dX8_outputByte_24 : decode cX8_outputByte 24 = .ok (.if_icmp .lt 14, 3) := by decide +kernel
theorem dX8_outputByte_27 : decode cX8_outputByte 27 = .ok (.new 394, 3) := by decide +kernel
theorem dX8_outputByte_30 : decode cX8_outputByte 30 = .ok (.dup, 1) := by decide +kernel
theorem dX8_outputByte_31 : decode cX8_outputByte 31 = .ok (.ldc_w 396, 3) := by decide +kernel
theorem dX8_outputByte_34 : decode cX8_outputByte 34 = .ok (.invokespecial 398, 3) := by decide +kernel
theorem dX8_outputByte_37 : decode cX8_outputByte 37 = .ok (.athrow, 1) := by decide +kernel
theorem dX8_outputByte_38 : decode cX8_outputByte 38 = .ok (.aload_n 0, 1) := by decide +kernel
theorem dX8_outputByte_39 : decode cX8_outputByte 39 = .ok (.getfield 24, 3) := by decide +kernel
theorem dX8_outputByte_42 : decode cX8_outputByte 42 = .ok (.getfield 390, 3) := by decide +kernel
theorem dX8_outputByte_45 : decode cX8_outputByte 45 = .ok (.iload_n 1, 1) := by decide +kernel
theorem dX8_outputByte_46 : decode cX8_outputByte 46 = .ok (.baload, 1) := by decide +kernel
theorem dX8_outputByte_47 : decode cX8_outputByte 47 = .ok (.ireturn, 1) := by decide +kernel
theorem dX8_writeSide_0 : decode cX8_writeSide 0 = .ok (.aload_n 0, 1) := by decide +kernel
theorem dX8_writeSide_1 : decode cX8_writeSide 1 = .ok (.getfield 31, 3) := by decide +kernel
theorem dX8_writeSide_4 : decode cX8_writeSide 4 = .ok (.iload_n 1, 1) := by decide +kernel
theorem dX8_writeSide_5 : decode cX8_writeSide 5 = .ok (.invokevirtual 93, 3) := by decide +kernel
theorem dX8_writeSide_8 : decode cX8_writeSide 8 = .ok (.astore_n 2, 1) := by decide +kernel
theorem dX8_writeSide_9 : decode cX8_writeSide 9 = .ok (.aload_n 2, 1) := by decide +kernel
theorem dX8_writeSide_10 : decode cX8_writeSide 10 = .ok (.invokevirtual 217, 3) := by decide +kernel
theorem dX8_writeSide_13 : decode cX8_writeSide 13 = .ok (.istore_n 3, 1) := by decide +kernel
theorem dX8_writeSide_14 : decode cX8_writeSide 14 = .ok (.aload_n 0, 1) := by decide +kernel
theorem dX8_writeSide_15 : decode cX8_writeSide 15 = .ok (.getfield 24, 3) := by decide +kernel
theorem dX8_writeSide_18 : decode cX8_writeSide 18 = .ok (.iload_n 3, 1) := by decide +kernel
theorem dX8_writeSide_19 : decode cX8_writeSide 19 = .ok (.sipush 3600, 3) := by decide +kernel
theorem dX8_writeSide_22 : decode cX8_writeSide 22 = .ok (.idiv, 1) := by decide +kernel
theorem dX8_writeSide_23 : decode cX8_writeSide 23 = .ok (.invokevirtual 380, 3) := by decide +kernel
theorem dX8_writeSide_26 : decode cX8_writeSide 26 = .ok (.aload_n 0, 1) := by decide +kernel
theorem dX8_writeSide_27 : decode cX8_writeSide 27 = .ok (.getfield 24, 3) := by decide +kernel
theorem dX8_writeSide_30 : decode cX8_writeSide 30 = .ok (.bipush 58, 2) := by decide +kernel
theorem dX8_writeSide_32 : decode cX8_writeSide 32 = .ok (.invokevirtual 371, 3) := by decide +kernel
theorem dX8_writeSide_35 : decode cX8_writeSide 35 = .ok (.aload_n 0, 1) := by decide +kernel
theorem dX8_writeSide_36 : decode cX8_writeSide 36 = .ok (.getfield 24, 3) := by decide +kernel
theorem dX8_writeSide_39 : decode cX8_writeSide 39 = .ok (.iload_n 3, 1) := by decide +kernel
theorem dX8_writeSide_40 : decode cX8_writeSide 40 = .ok (.bipush 60, 2) := by decide +kernel
theorem dX8_writeSide_42 : decode cX8_writeSide 42 = .ok (.idiv, 1) := by decide +kernel
theorem dX8_writeSide_43 : decode cX8_writeSide 43 = .ok (.bipush 60, 2) := by decide +kernel
theorem dX8_writeSide_45 : decode cX8_writeSide 45 = .ok (.irem, 1) := by decide +kernel
theorem dX8_writeSide_46 : decode cX8_writeSide 46 = .ok (.invokevirtual 399, 3) := by decide +kernel
theorem dX8_writeSide_49 : decode cX8_writeSide 49 = .ok (.aload_n 0, 1) := by decide +kernel
theorem dX8_writeSide_50 : decode cX8_writeSide 50 = .ok (.getfield 24, 3) := by decide +kernel
theorem dX8_writeSide_53 : decode cX8_writeSide 53 = .ok (.bipush 58, 2) := by decide +kernel
theorem dX8_writeSide_55 : decode cX8_writeSide 55 = .ok (.invokevirtual 371, 3) := by decide +kernel
theorem dX8_writeSide_58 : decode cX8_writeSide 58 = .ok (.aload_n 0, 1) := by decide +kernel
theorem dX8_writeSide_59 : decode cX8_writeSide 59 = .ok (.getfield 24, 3) := by decide +kernel
theorem dX8_writeSide_62 : decode cX8_writeSide 62 = .ok (.iload_n 3, 1) := by decide +kernel
theorem dX8_writeSide_63 : decode cX8_writeSide 63 = .ok (.bipush 60, 2) := by decide +kernel
theorem dX8_writeSide_65 : decode cX8_writeSide 65 = .ok (.irem, 1) := by decide +kernel
theorem dX8_writeSide_66 : decode cX8_writeSide 66 = .ok (.invokevirtual 399, 3) := by decide +kernel
theorem dX8_writeSide_69 : decode cX8_writeSide 69 = .ok (.aload_n 2, 1) := by decide +kernel
theorem dX8_writeSide_70 : decode cX8_writeSide 70 = .ok (.getfield 183, 3) := by decide +kernel
theorem dX8_writeSide_73 : decode cX8_writeSide 73 = .ok (.ifCond .eq 12, 3) := by decide +kernel
theorem dX8_writeSide_76 : decode cX8_writeSide 76 = .ok (.aload_n 0, 1) := by decide +kernel
theorem dX8_writeSide_77 : decode cX8_writeSide 77 = .ok (.getfield 24, 3) := by decide +kernel
theorem dX8_writeSide_80 : decode cX8_writeSide 80 = .ok (.bipush 33, 2) := by decide +kernel
theorem dX8_writeSide_82 : decode cX8_writeSide 82 = .ok (.invokevirtual 371, 3) := by decide +kernel
theorem dX8_writeSide_85 : decode cX8_writeSide 85 = .ok (.iconst 0, 1) := by decide +kernel
theorem dX8_writeSide_86 : decode cX8_writeSide 86 = .ok (.istore 4, 2) := by decide +kernel
theorem dX8_writeSide_88 : decode cX8_writeSide 88 = .ok (.iload 4, 2) := by decide +kernel
theorem dX8_writeSide_90 : decode cX8_writeSide 90 = .ok (.aload_n 2, 1) := by decide +kernel
theorem dX8_writeSide_91 : decode cX8_writeSide 91 = .ok (.getfield 173, 3) := by decide +kernel
theorem dX8_writeSide_94 : decode cX8_writeSide 94 = .ok (.if_icmp .ge 18, 3) := by decide +kernel
theorem dX8_writeSide_97 : decode cX8_writeSide 97 = .ok (.aload_n 0, 1) := by decide +kernel
theorem dX8_writeSide_98 : decode cX8_writeSide 98 = .ok (.getfield 24, 3) := by decide +kernel
theorem dX8_writeSide_101 : decode cX8_writeSide 101 = .ok (.bipush 43, 2) := by decide +kernel
theorem dX8_writeSide_103 : decode cX8_writeSide 103 = .ok (.invokevirtual 371, 3) := by decide +kernel
theorem dX8_writeSide_106 : decode cX8_writeSide 106 = .ok (.iinc 4 1, 3) := by decide +kernel
theorem dX8_writeSide_109 : decode cX8_writeSide 109 = .ok (.goto (-21), 3) := by decide +kernel
theorem dX8_writeSide_112 : decode cX8_writeSide 112 = .ok (.iload_n 1, 1) := by decide +kernel
theorem dX8_writeSide_113 : decode cX8_writeSide 113 = .ok (.aload_n 0, 1) := by decide +kernel
theorem dX8_writeSide_114 : decode cX8_writeSide 114 = .ok (.getfield 31, 3) := by decide +kernel
theorem dX8_writeSide_117 : decode cX8_writeSide 117 = .ok (.getfield 120, 3) := by decide +kernel
theorem dX8_writeSide_120 : decode cX8_writeSide 120 = .ok (.if_icmp .ne 12, 3) := by decide +kernel
theorem dX8_writeSide_123 : decode cX8_writeSide 123 = .ok (.aload_n 0, 1) := by decide +kernel
theorem dX8_writeSide_124 : decode cX8_writeSide 124 = .ok (.getfield 24, 3) := by decide +kernel
theorem dX8_writeSide_127 : decode cX8_writeSide 127 = .ok (.bipush 42, 2) := by decide +kernel
theorem dX8_writeSide_129 : decode cX8_writeSide 129 = .ok (.invokevirtual 371, 3) := by decide +kernel
theorem dX8_writeSide_132 : decode cX8_writeSide 132 = .ok (.return_, 1) := by decide +kernel
theorem dX8_writeMovesOf_0 : decode cX8_writeMovesOf 0 = .ok (.aload_n 0, 1) := by decide +kernel
theorem dX8_writeMovesOf_1 : decode cX8_writeMovesOf 1 = .ok (.getfield 31, 3) := by decide +kernel
theorem dX8_writeMovesOf_4 : decode cX8_writeMovesOf 4 = .ok (.getfield 105, 3) := by decide +kernel
theorem dX8_writeMovesOf_7 : decode cX8_writeMovesOf 7 = .ok (.iload_n 1, 1) := by decide +kernel
theorem dX8_writeMovesOf_8 : decode cX8_writeMovesOf 8 = .ok (.invokevirtual 402, 3) := by decide +kernel
theorem dX8_writeMovesOf_11 : decode cX8_writeMovesOf 11 = .ok (.ifCond .eq 15, 3) := by decide +kernel
theorem dX8_writeMovesOf_14 : decode cX8_writeMovesOf 14 = .ok (.aload_n 0, 1) := by decide +kernel
theorem dX8_writeMovesOf_15 : decode cX8_writeMovesOf 15 = .ok (.getfield 24, 3) := by decide +kernel
theorem dX8_writeMovesOf_18 : decode cX8_writeMovesOf 18 = .ok (.bipush 114, 2) := by decide +kernel
theorem dX8_writeMovesOf_20 : decode cX8_writeMovesOf 20 = .ok (.invokevirtual 371, 3) := by decide +kernel
theorem dX8_writeMovesOf_23 : decode cX8_writeMovesOf 23 = .ok (.goto 22, 3) := by decide +kernel
theorem dX8_writeMovesOf_26 : decode cX8_writeMovesOf 26 = .ok (.aload_n 0, 1) := by decide +kernel
theorem dX8_writeMovesOf_27 : decode cX8_writeMovesOf 27 = .ok (.getfield 24, 3) := by decide +kernel
theorem dX8_writeMovesOf_30 : decode cX8_writeMovesOf 30 = .ok (.aload_n 0, 1) := by decide +kernel
theorem dX8_writeMovesOf_31 : decode cX8_writeMovesOf 31 = .ok (.getfield 31, 3) := by decide +kernel
theorem dX8_writeMovesOf_34 : decode cX8_writeMovesOf 34 = .ok (.getfield 105, 3) := by decide +kernel
theorem dX8_writeMovesOf_37 : decode cX8_writeMovesOf 37 = .ok (.iload_n 1, 1) := by decide +kernel
theorem dX8_writeMovesOf_38 : decode cX8_writeMovesOf 38 = .ok (.iconst 0, 1) := by decide +kernel
theorem dX8_writeMovesOf_39 : decode cX8_writeMovesOf 39 = .ok (.invokevirtual 160, 3) := by decide +kernel
theorem dX8_writeMovesOf_42 : decode cX8_writeMovesOf 42 = .ok (.invokevirtual 380, 3) := by decide +kernel
theorem dX8_writeMovesOf_45 : decode cX8_writeMovesOf 45 = .ok (.return_, 1) := by decide +kernel
theorem dX8_remember_0 : decode cX8_remember 0 = .ok (.aload_n 0, 1) := by decide +kernel
theorem dX8_remember_1 : decode cX8_remember 1 = .ok (.getfield 42, 3) := by decide +kernel
theorem dX8_remember_4 : decode cX8_remember 4 = .ok (.aload_n 0, 1) := by decide +kernel
theorem dX8_remember_5 : decode cX8_remember 5 = .ok (.getfield 364, 3) := by decide +kernel
theorem dX8_remember_8 : decode cX8_remember 8 = .ok (.invokestatic 346, 3) := by decide +kernel
theorem dX8_remember_11 : decode cX8_remember 11 = .ok (.astore_n 1, 1) := by decide +kernel
theorem dX8_remember_12 : decode cX8_remember 12 = .ok (.aload_n 1, 1) := by decide +kernel
theorem dX8_remember_13 : decode cX8_remember 13 = .ok (.ifnull 11, 3) := by decide +kernel
theorem dX8_remember_16 : decode cX8_remember 16 = .ok (.aload_n 1, 1) := by decide +kernel
theorem dX8_remember_17 : decode cX8_remember 17 = .ok (.aload_n 0, 1) := by decide +kernel
theorem dX8_remember_18 : decode cX8_remember 18 = .ok (.getfield 31, 3) := by decide +kernel
theorem dX8_remember_21 : decode cX8_remember 21 = .ok (.invokevirtual 350, 3) := by decide +kernel
theorem dX8_remember_24 : decode cX8_remember 24 = .ok (.aload_n 0, 1) := by decide +kernel
theorem dX8_remember_25 : decode cX8_remember 25 = .ok (.aload_n 0, 1) := by decide +kernel
theorem dX8_remember_26 : decode cX8_remember 26 = .ok (.getfield 364, 3) := by decide +kernel
theorem dX8_remember_29 : decode cX8_remember 29 = .ok (.iconst 1, 1) := by decide +kernel
theorem dX8_remember_30 : decode cX8_remember 30 = .ok (.iadd, 1) := by decide +kernel
theorem dX8_remember_31 : decode cX8_remember 31 = .ok (.bipush 6, 2) := by decide +kernel
theorem dX8_remember_33 : decode cX8_remember 33 = .ok (.irem, 1) := by decide +kernel
theorem dX8_remember_34 : decode cX8_remember 34 = .ok (.putfield 364, 3) := by decide +kernel
theorem dX8_remember_37 : decode cX8_remember 37 = .ok (.aload_n 0, 1) := by decide +kernel
theorem dX8_remember_38 : decode cX8_remember 38 = .ok (.aload_n 0, 1) := by decide +kernel
theorem dX8_remember_39 : decode cX8_remember 39 = .ok (.getfield 359, 3) := by decide +kernel
theorem dX8_remember_42 : decode cX8_remember 42 = .ok (.iconst 1, 1) := by decide +kernel
theorem dX8_remember_43 : decode cX8_remember 43 = .ok (.iadd, 1) := by decide +kernel
theorem dX8_remember_44 : decode cX8_remember 44 = .ok (.bipush 6, 2) := by decide +kernel
theorem dX8_remember_46 : decode cX8_remember 46 = .ok (.invokestatic 375, 3) := by decide +kernel
theorem dX8_remember_49 : decode cX8_remember 49 = .ok (.putfield 359, 3) := by decide +kernel
theorem dX8_remember_52 : decode cX8_remember 52 = .ok (.return_, 1) := by decide +kernel
theorem dX8_requireSide_0 : decode cX8_requireSide 0 = .ok (.iload_n 1, 1) := by decide +kernel
theorem dX8_requireSide_1 : decode cX8_requireSide 1 = .ok (.ifCond .lt 8, 3) := by decide +kernel
theorem dX8_requireSide_4 : decode cX8_requireSide 4 = .ok (.iload_n 1, 1) := by decide +kernel
theorem dX8_requireSide_5 : decode cX8_requireSide 5 = .ok (.iconst 2, 1) := by decide +kernel
theorem dX8_requireSide_6 : decode cX8_requireSide 6 = .ok (.if_icmp .lt 14, 3) := by decide +kernel
theorem dX8_requireSide_9 : decode cX8_requireSide 9 = .ok (.new 205, 3) := by decide +kernel
theorem dX8_requireSide_12 : decode cX8_requireSide 12 = .ok (.dup, 1) := by decide +kernel
theorem dX8_requireSide_13 : decode cX8_requireSide 13 = .ok (.ldc_w 406, 3) := by decide +kernel
theorem dX8_requireSide_16 : decode cX8_requireSide 16 = .ok (.invokespecial 209, 3) := by decide +kernel
theorem dX8_requireSide_19 : decode cX8_requireSide 19 = .ok (.athrow, 1) := by decide +kernel
theorem dX8_requireSide_20 : decode cX8_requireSide 20 = .ok (.return_, 1) := by decide +kernel
theorem dX8_requirePeriod_0 : decode cX8_requirePeriod 0 = .ok (.iload_n 1, 1) := by decide +kernel
theorem dX8_requirePeriod_1 : decode cX8_requirePeriod 1 = .ok (.ifCond .lt 17, 3) := by decide +kernel
theorem dX8_requirePeriod_4 : decode cX8_requirePeriod 4 = .ok (.iload_n 1, 1) := by decide +kernel
theorem dX8_requirePeriod_5 : decode cX8_requirePeriod 5 = .ok (.aload_n 0, 1) := by decide +kernel
theorem dX8_requirePeriod_6 : decode cX8_requirePeriod 6 = .ok (.getfield 31, 3) := by decide +kernel
theorem dX8_requirePeriod_9 : decode cX8_requirePeriod 9 = .ok (.getfield 105, 3) := by decide +kernel
theorem dX8_requirePeriod_12 : decode cX8_requirePeriod 12 = .ok (.getfield 106, 3) := by decide +kernel
theorem dX8_requirePeriod_15 : decode cX8_requirePeriod 15 = .ok (.if_icmp .lt 14, 3) := by decide +kernel
theorem dX8_requirePeriod_18 : decode cX8_requirePeriod 18 = .ok (.new 205, 3) := by decide +kernel
theorem dX8_requirePeriod_21 : decode cX8_requirePeriod 21 = .ok (.dup, 1) := by decide +kernel
theorem dX8_requirePeriod_22 : decode cX8_requirePeriod 22 = .ok (.ldc_w 408, 3) := by decide +kernel
theorem dX8_requirePeriod_25 : decode cX8_requirePeriod 25 = .ok (.invokespecial 209, 3) := by decide +kernel
theorem dX8_requirePeriod_28 : decode cX8_requirePeriod 28 = .ok (.athrow, 1) := by decide +kernel
theorem dX8_requirePeriod_29 : decode cX8_requirePeriod 29 = .ok (.return_, 1) := by decide +kernel
theorem dX8_requireSlot_0 : decode cX8_requireSlot 0 = .ok (.iload_n 1, 1) := by decide +kernel
theorem dX8_requireSlot_1 : decode cX8_requireSlot 1 = .ok (.ifCond .lt 8, 3) := by decide +kernel
theorem dX8_requireSlot_4 : decode cX8_requireSlot 4 = .ok (.iload_n 1, 1) := by decide +kernel
theorem dX8_requireSlot_5 : decode cX8_requireSlot 5 = .ok (.iconst 2, 1) := by decide +kernel
theorem dX8_requireSlot_6 : decode cX8_requireSlot 6 = .ok (.if_icmp .lt 14, 3) := by decide +kernel
theorem dX8_requireSlot_9 : decode cX8_requireSlot 9 = .ok (.new 205, 3) := by decide +kernel
theorem dX8_requireSlot_12 : decode cX8_requireSlot 12 = .ok (.dup, 1) := by decide +kernel
theorem dX8_requireSlot_13 : decode cX8_requireSlot 13 = .ok (.ldc_w 410, 3) := by decide +kernel
theorem dX8_requireSlot_16 : decode cX8_requireSlot 16 = .ok (.invokespecial 209, 3) := by decide +kernel
theorem dX8_requireSlot_19 : decode cX8_requireSlot 19 = .ok (.athrow, 1) := by decide +kernel
theorem dX8_requireSlot_20 : decode cX8_requireSlot 20 = .ok (.return_, 1) := by decide +kernel
theorem dX8_requirePace_0 : decode cX8_requirePace 0 = .ok (.iload_n 1, 1) := by decide +kernel
theorem dX8_requirePace_1 : decode cX8_requirePace 1 = .ok (.iconst 1, 1) := by decide +kernel
theorem dX8_requirePace_2 : decode cX8_requirePace 2 = .ok (.if_icmp .lt 10, 3) := by decide +kernel
theorem dX8_requirePace_5 : decode cX8_requirePace 5 = .ok (.iload_n 1, 1) := by decide +kernel
theorem dX8_requirePace_6 : decode cX8_requirePace 6 = .ok (.sipush 9999, 3) := by decide +kernel
theorem dX8_requirePace_9 : decode cX8_requirePace 9 = .ok (.if_icmp .le 14, 3) := by decide +kernel
theorem dX8_requirePace_12 : decode cX8_requirePace 12 = .ok (.new 66, 3) := by decide +kernel
theorem dX8_requirePace_15 : decode cX8_requirePace 15 = .ok (.dup, 1) := by decide +kernel
theorem dX8_requirePace_16 : decode cX8_requirePace 16 = .ok (.ldc_w 412, 3) := by decide +kernel
theorem dX8_requirePace_19 : decode cX8_requirePace 19 = .ok (.invokespecial 70, 3) := by decide +kernel
theorem dX8_requirePace_22 : decode cX8_requirePace 22 = .ok (.athrow, 1) := by decide +kernel
theorem dX8_requirePace_23 : decode cX8_requirePace 23 = .ok (.return_, 1) := by decide +kernel
theorem dX8_requirePaceMoves_0 : decode cX8_requirePaceMoves 0 = .ok (.iload_n 1, 1) := by decide +kernel
theorem dX8_requirePaceMoves_1 : decode cX8_requirePaceMoves 1 = .ok (.iconst 1, 1) := by decide +kernel
theorem dX8_requirePaceMoves_2 : decode cX8_requirePaceMoves 2 = .ok (.if_icmp .lt 10, 3) := by decide +kernel
theorem dX8_requirePaceMoves_5 : decode cX8_requirePaceMoves 5 = .ok (.iload_n 1, 1) := by decide +kernel
theorem dX8_requirePaceMoves_6 : decode cX8_requirePaceMoves 6 = .ok (.sipush 200, 3) := by decide +kernel
theorem dX8_requirePaceMoves_9 : decode cX8_requirePaceMoves 9 = .ok (.if_icmp .le 14, 3) := by decide +kernel
theorem dX8_requirePaceMoves_12 : decode cX8_requirePaceMoves 12 = .ok (.new 66, 3) := by decide +kernel
theorem dX8_requirePaceMoves_15 : decode cX8_requirePaceMoves 15 = .ok (.dup, 1) := by decide +kernel
theorem dX8_requirePaceMoves_16 : decode cX8_requirePaceMoves 16 = .ok (.ldc_w 300, 3) := by decide +kernel
theorem dX8_requirePaceMoves_19 : decode cX8_requirePaceMoves 19 = .ok (.invokespecial 70, 3) := by decide +kernel
theorem dX8_requirePaceMoves_22 : decode cX8_requirePaceMoves 22 = .ok (.athrow, 1) := by decide +kernel
theorem dX8_requirePaceMoves_23 : decode cX8_requirePaceMoves 23 = .ok (.return_, 1) := by decide +kernel
theorem dX8_requireTicks_0 : decode cX8_requireTicks 0 = .ok (.iload_n 1, 1) := by decide +kernel
theorem dX8_requireTicks_1 : decode cX8_requireTicks 1 = .ok (.ifCond .lt 10, 3) := by decide +kernel
theorem dX8_requireTicks_4 : decode cX8_requireTicks 4 = .ok (.iload_n 1, 1) := by decide +kernel
theorem dX8_requireTicks_5 : decode cX8_requireTicks 5 = .ok (.sipush 9999, 3) := by decide +kernel
theorem dX8_requireTicks_8 : decode cX8_requireTicks 8 = .ok (.if_icmp .le 14, 3) := by decide +kernel
theorem dX8_requireTicks_11 : decode cX8_requireTicks 11 = .ok (.new 66, 3) := by decide +kernel
theorem dX8_requireTicks_14 : decode cX8_requireTicks 14 = .ok (.dup, 1) := by decide +kernel
theorem dX8_requireTicks_15 : decode cX8_requireTicks 15 = .ok (.ldc_w 295, 3) := by decide +kernel
theorem dX8_requireTicks_18 : decode cX8_requireTicks 18 = .ok (.invokespecial 70, 3) := by decide +kernel
theorem dX8_requireTicks_21 : decode cX8_requireTicks 21 = .ok (.athrow, 1) := by decide +kernel
theorem dX8_requireTicks_22 : decode cX8_requireTicks 22 = .ok (.return_, 1) := by decide +kernel
theorem dX8_other_0 : decode cX8_other 0 = .ok (.iconst 1, 1) := by decide +kernel
theorem dX8_other_1 : decode cX8_other 1 = .ok (.iload_n 0, 1) := by decide +kernel
theorem dX8_other_2 : decode cX8_other 2 = .ok (.isub, 1) := by decide +kernel
theorem dX8_other_3 : decode cX8_other 3 = .ok (.ireturn, 1) := by decide +kernel
theorem dX8_numberAt_0 : decode cX8_numberAt 0 = .ok (.iload_n 1, 1) := by decide +kernel
theorem dX8_numberAt_1 : decode cX8_numberAt 1 = .ok (.ifCond .lt 15, 3) := by decide +kernel
theorem dX8_numberAt_4 : decode cX8_numberAt 4 = .ok (.iload_n 1, 1) := by decide +kernel
theorem dX8_numberAt_5 : decode cX8_numberAt 5 = .ok (.aload_n 0, 1) := by decide +kernel
theorem dX8_numberAt_6 : decode cX8_numberAt 6 = .ok (.arraylength, 1) := by decide +kernel
theorem dX8_numberAt_7 : decode cX8_numberAt 7 = .ok (.if_icmp .ge 9, 3) := by decide +kernel
theorem dX8_numberAt_10 : decode cX8_numberAt 10 = .ok (.aload_n 0, 1) := by decide +kernel
theorem dX8_numberAt_11 : decode cX8_numberAt 11 = .ok (.iload_n 1, 1) := by decide +kernel
theorem dX8_numberAt_12 : decode cX8_numberAt 12 = .ok (.iaload, 1) := by decide +kernel
theorem dX8_numberAt_13 : decode cX8_numberAt 13 = .ok (.goto 4, 3) := by decide +kernel
theorem dX8_numberAt_16 : decode cX8_numberAt 16 = .ok (.iconst 0, 1) := by decide +kernel
theorem dX8_numberAt_17 : decode cX8_numberAt 17 = .ok (.ireturn, 1) := by decide +kernel
theorem dX8_setNumberAt_0 : decode cX8_setNumberAt 0 = .ok (.iload_n 1, 1) := by decide +kernel
theorem dX8_setNumberAt_1 : decode cX8_setNumberAt 1 = .ok (.ifCond .lt 13, 3) := by decide +kernel
theorem dX8_setNumberAt_4 : decode cX8_setNumberAt 4 = .ok (.iload_n 1, 1) := by decide +kernel
theorem dX8_setNumberAt_5 : decode cX8_setNumberAt 5 = .ok (.aload_n 0, 1) := by decide +kernel
theorem dX8_setNumberAt_6 : decode cX8_setNumberAt 6 = .ok (.arraylength, 1) := by decide +kernel
theorem dX8_setNumberAt_7 : decode cX8_setNumberAt 7 = .ok (.if_icmp .ge 7, 3) := by decide +kernel
theorem dX8_setNumberAt_10 : decode cX8_setNumberAt 10 = .ok (.aload_n 0, 1) := by decide +kernel
theorem dX8_setNumberAt_11 : decode cX8_setNumberAt 11 = .ok (.iload_n 1, 1) := by decide +kernel
theorem dX8_setNumberAt_12 : decode cX8_setNumberAt 12 = .ok (.iload_n 2, 1) := by decide +kernel
theorem dX8_setNumberAt_13 : decode cX8_setNumberAt 13 = .ok (.iastore, 1) := by decide +kernel
theorem dX8_setNumberAt_14 : decode cX8_setNumberAt 14 = .ok (.return_, 1) := by decide +kernel
theorem dX8_copyRow_0 : decode cX8_copyRow 0 = .ok (.aload_n 0, 1) := by decide +kernel
theorem dX8_copyRow_1 : decode cX8_copyRow 1 = .ok (.iconst 0, 1) := by decide +kernel
theorem dX8_copyRow_2 : decode cX8_copyRow 2 = .ok (.aload_n 1, 1) := by decide +kernel
theorem dX8_copyRow_3 : decode cX8_copyRow 3 = .ok (.iconst 0, 1) := by decide +kernel
theorem dX8_copyRow_4 : decode cX8_copyRow 4 = .ok (.aload_n 0, 1) := by decide +kernel
theorem dX8_copyRow_5 : decode cX8_copyRow 5 = .ok (.arraylength, 1) := by decide +kernel
theorem dX8_copyRow_6 : decode cX8_copyRow 6 = .ok (.aload_n 1, 1) := by decide +kernel
theorem dX8_copyRow_7 : decode cX8_copyRow 7 = .ok (.arraylength, 1) := by decide +kernel
theorem dX8_copyRow_8 : decode cX8_copyRow 8 = .ok (.invokestatic 375, 3) := by decide +kernel
theorem dX8_copyRow_11 : decode cX8_copyRow 11 = .ok (.invokestatic 414, 3) := by decide +kernel
theorem dX8_copyRow_14 : decode cX8_copyRow 14 = .ok (.return_, 1) := by decide +kernel
theorem dX8_stateAt_0 : decode cX8_stateAt 0 = .ok (.iload_n 1, 1) := by decide +kernel
theorem dX8_stateAt_1 : decode cX8_stateAt 1 = .ok (.ifCond .lt 15, 3) := by decide +kernel
theorem dX8_stateAt_4 : decode cX8_stateAt 4 = .ok (.iload_n 1, 1) := by decide +kernel
theorem dX8_stateAt_5 : decode cX8_stateAt 5 = .ok (.aload_n 0, 1) := by decide +kernel
theorem dX8_stateAt_6 : decode cX8_stateAt 6 = .ok (.arraylength, 1) := by decide +kernel
theorem dX8_stateAt_7 : decode cX8_stateAt 7 = .ok (.if_icmp .ge 9, 3) := by decide +kernel
theorem dX8_stateAt_10 : decode cX8_stateAt 10 = .ok (.aload_n 0, 1) := by decide +kernel
theorem dX8_stateAt_11 : decode cX8_stateAt 11 = .ok (.iload_n 1, 1) := by decide +kernel
theorem dX8_stateAt_12 : decode cX8_stateAt 12 = .ok (.aaload, 1) := by decide +kernel
theorem dX8_stateAt_13 : decode cX8_stateAt 13 = .ok (.goto 4, 3) := by decide +kernel
theorem dX8_stateAt_16 : decode cX8_stateAt 16 = .ok (.aconst_null, 1) := by decide +kernel
theorem dX8_stateAt_17 : decode cX8_stateAt 17 = .ok (.areturn, 1) := by decide +kernel
theorem dX9_thrown_0 : decode cX9_thrown 0 = .ok (.aload_n 0, 1) := by decide +kernel
theorem dX9_thrown_1 : decode cX9_thrown 1 = .ok (.getfield 3, 3) := by decide +kernel
theorem dX9_thrown_4 : decode cX9_thrown 4 = .ok (.ireturn, 1) := by decide +kernel
theorem dX9_in_0 : decode cX9_in 0 = .ok (.lload_n 0, 1) := by decide +kernel
theorem dX9_in_1 : decode cX9_in 1 = .ok (.lload_n 2, 1) := by decide +kernel
theorem dX9_in_2 : decode cX9_in 2 = .ok (.lcmp, 1) := by decide +kernel
theorem dX9_in_3 : decode cX9_in 3 = .ok (.ifCond .lt 14, 3) := by decide +kernel
theorem dX9_in_6 : decode cX9_in 6 = .ok (.lload_n 0, 1) := by decide +kernel
theorem dX9_in_7 : decode cX9_in 7 = .ok (.lload 4, 2) := by decide +kernel
theorem dX9_in_9 : decode cX9_in 9 = .ok (.lcmp, 1) := by decide +kernel
theorem dX9_in_10 : decode cX9_in 10 = .ok (.ifCond .gt 7, 3) := by decide +kernel
theorem dX9_in_13 : decode cX9_in 13 = .ok (.iconst 1, 1) := by decide +kernel
theorem dX9_in_14 : decode cX9_in 14 = .ok (.goto 4, 3) := by decide +kernel
theorem dX9_in_17 : decode cX9_in 17 = .ok (.iconst 0, 1) := by decide +kernel
theorem dX9_in_18 : decode cX9_in 18 = .ok (.ireturn, 1) := by decide +kernel
theorem dX9_passes3_0 : decode cX9_passes3 0 = .ok (.aload_n 0, 1) := by decide +kernel
theorem dX9_passes3_1 : decode cX9_passes3 1 = .ok (.iload_n 1, 1) := by decide +kernel
theorem dX9_passes3_2 : decode cX9_passes3 2 = .ok (.ifCond .ne 7, 3) := by decide +kernel
theorem dX9_passes3_5 : decode cX9_passes3 5 = .ok (.iconst 1, 1) := by decide +kernel
theorem dX9_passes3_6 : decode cX9_passes3 6 = .ok (.goto 20, 3) := by decide +kernel
theorem dX9_passes3_9 : decode cX9_passes3 9 = .ok (.iload_n 2, 1) := by decide +kernel
theorem dX9_passes3_10 : decode cX9_passes3 10 = .ok (.ifCond .ne 7, 3) := by decide +kernel
theorem dX9_passes3_13 : decode cX9_passes3 13 = .ok (.iconst 2, 1) := by decide +kernel
theorem dX9_passes3_14 : decode cX9_passes3 14 = .ok (.goto 12, 3) := by decide +kernel
theorem dX9_passes3_17 : decode cX9_passes3 17 = .ok (.iload_n 3, 1) := by decide +kernel
theorem dX9_passes3_18 : decode cX9_passes3 18 = .ok (.ifCond .ne 7, 3) := by decide +kernel
theorem dX9_passes3_21 : decode cX9_passes3 21 = .ok (.iconst 3, 1) := by decide +kernel
theorem dX9_passes3_22 : decode cX9_passes3 22 = .ok (.goto 4, 3) := by decide +kernel
theorem dX9_passes3_25 : decode cX9_passes3 25 = .ok (.iconst 0, 1) := by decide +kernel
theorem dX9_passes3_26 : decode cX9_passes3 26 = .ok (.putfield 3, 3) := by decide +kernel
theorem dX9_passes3_29 : decode cX9_passes3 29 = .ok (.aload_n 0, 1) := by decide +kernel
theorem dX9_passes3_30 : decode cX9_passes3 30 = .ok (.getfield 3, 3) := by decide +kernel
theorem dX9_passes3_33 : decode cX9_passes3 33 = .ok (.ifCond .ne 7, 3) := by decide +kernel
theorem dX9_passes3_36 : decode cX9_passes3 36 = .ok (.iconst 1, 1) := by decide +kernel
theorem dX9_passes3_37 : decode cX9_passes3 37 = .ok (.goto 4, 3) := by decide +kernel
theorem dX9_passes3_40 : decode cX9_passes3 40 = .ok (.iconst 0, 1) := by decide +kernel
theorem dX9_passes3_41 : decode cX9_passes3 41 = .ok (.ireturn, 1) := by decide +kernel
theorem dX9_passes2_0 : decode cX9_passes2 0 = .ok (.aload_n 0, 1) := by decide +kernel
theorem dX9_passes2_1 : decode cX9_passes2 1 = .ok (.iload_n 1, 1) := by decide +kernel
theorem dX9_passes2_2 : decode cX9_passes2 2 = .ok (.iload_n 2, 1) := by decide +kernel
theorem dX9_passes2_3 : decode cX9_passes2 3 = .ok (.iconst 1, 1) := by decide +kernel
theorem dX9_passes2_4 : decode cX9_passes2 4 = .ok (.invokevirtual 7, 3) := by decide +kernel
theorem dX9_passes2_7 : decode cX9_passes2 7 = .ok (.ireturn, 1) := by decide +kernel
theorem dX9_passes_0 : decode cX9_passes 0 = .ok (.aload_n 0, 1) := by decide +kernel
theorem dX9_passes_1 : decode cX9_passes 1 = .ok (.iload_n 1, 1) := by decide +kernel
theorem dX9_passes_2 : decode cX9_passes 2 = .ok (.iconst 1, 1) := by decide +kernel
theorem dX9_passes_3 : decode cX9_passes 3 = .ok (.iconst 1, 1) := by decide +kernel
theorem dX9_passes_4 : decode cX9_passes 4 = .ok (.invokevirtual 7, 3) := by decide +kernel
theorem dX9_passes_7 : decode cX9_passes 7 = .ok (.ireturn, 1) := by decide +kernel
theorem dX9_init_0 : decode cX9_init 0 = .ok (.aload_n 0, 1) := by decide +kernel
theorem dX9_init_1 : decode cX9_init 1 = .ok (.invokespecial 11, 3) := by decide +kernel
theorem dX9_init_4 : decode cX9_init 4 = .ok (.aload_n 0, 1) := by decide +kernel
theorem dX9_init_5 : decode cX9_init 5 = .ok (.sipush 311, 3) := by decide +kernel
theorem dX9_init_8 : decode cX9_init 8 = .ok (.newarray .int, 2) := by decide +kernel
theorem dX9_init_10 : decode cX9_init 10 = .ok (.putfield 17, 3) := by decide +kernel
theorem dX9_init_13 : decode cX9_init 13 = .ok (.aload_n 0, 1) := by decide +kernel
theorem dX9_init_14 : decode cX9_init 14 = .ok (.sipush 311, 3) := by decide +kernel
theorem dX9_init_17 : decode cX9_init 17 = .ok (.newarray .int, 2) := by decide +kernel
theorem dX9_init_19 : decode cX9_init 19 = .ok (.putfield 21, 3) := by decide +kernel
theorem dX9_init_22 : decode cX9_init 22 = .ok (.aload_n 0, 1) := by decide +kernel
theorem dX9_init_23 : decode cX9_init 23 = .ok (.aload_n 0, 1) := by decide +kernel
theorem dX9_init_24 : decode cX9_init 24 = .ok (.getfield 17, 3) := by decide +kernel
theorem dX9_init_27 : decode cX9_init 27 = .ok (.putfield 24, 3) := by decide +kernel
theorem dX9_init_30 : decode cX9_init 30 = .ok (.aload_n 0, 1) := by decide +kernel
theorem dX9_init_31 : decode cX9_init 31 = .ok (.sipush 311, 3) := by decide +kernel
theorem dX9_init_34 : decode cX9_init 34 = .ok (.newarray .int, 2) := by decide +kernel
theorem dX9_init_36 : decode cX9_init 36 = .ok (.putfield 27, 3) := by decide +kernel
theorem dX9_init_39 : decode cX9_init 39 = .ok (.aload_n 0, 1) := by decide +kernel
theorem dX9_init_40 : decode cX9_init 40 = .ok (.sipush 400, 3) := by decide +kernel
theorem dX9_init_43 : decode cX9_init 43 = .ok (.newarray .byte, 2) := by decide +kernel
theorem dX9_init_45 : decode cX9_init 45 = .ok (.putfield 30, 3) := by decide +kernel
theorem dX9_init_48 : decode cX9_init 48 = .ok (.aload_n 0, 1) := by decide +kernel
theorem dX9_init_49 : decode cX9_init 49 = .ok (.iconst (-1), 1) := by decide +kernel
theorem dX9_init_50 : decode cX9_init 50 = .ok (.putfield 34, 3) := by decide +kernel
theorem dX9_init_53 : decode cX9_init 53 = .ok (.aload_n 0, 1) := by decide +kernel
theorem dX9_init_54 : decode cX9_init 54 = .ok (.sipush 622, 3) := by decide +kernel
theorem dX9_init_57 : decode cX9_init 57 = .ok (.newarray .int, 2) := by decide +kernel
theorem dX9_init_59 : decode cX9_init 59 = .ok (.putfield 37, 3) := by decide +kernel
theorem dX9_init_62 : decode cX9_init 62 = .ok (.aload_n 0, 1) := by decide +kernel
theorem dX9_init_63 : decode cX9_init 63 = .ok (.iconst 2, 1) := by decide +kernel
theorem dX9_init_64 : decode cX9_init 64 = .ok (.newarray .boolean, 2) := by decide +kernel
theorem dX9_init_66 : decode cX9_init 66 = .ok (.putfield 40, 3) := by decide +kernel
theorem dX9_init_69 : decode cX9_init 69 = .ok (.aload_n 0, 1) := by decide +kernel
theorem dX9_init_70 : decode cX9_init 70 = .ok (.sipush 1866, 3) := by decide +kernel
theorem dX9_init_73 : decode cX9_init 73 = .ok (.newarray .int, 2) := by decide +kernel
theorem dX9_init_75 : decode cX9_init 75 = .ok (.putfield 44, 3) := by decide +kernel
theorem dX9_init_78 : decode cX9_init 78 = .ok (.aload_n 0, 1) := by decide +kernel
theorem dX9_init_79 : decode cX9_init 79 = .ok (.sipush 300, 3) := by decide +kernel
theorem dX9_init_82 : decode cX9_init 82 = .ok (.newarray .byte, 2) := by decide +kernel
theorem dX9_init_84 : decode cX9_init 84 = .ok (.putfield 47, 3) := by decide +kernel
theorem dX9_init_87 : decode cX9_init 87 = .ok (.aload_n 0, 1) := by decide +kernel
theorem dX9_init_88 : decode cX9_init 88 = .ok (.invokevirtual 50, 3) := by decide +kernel
theorem dX9_init_91 : decode cX9_init 91 = .ok (.aload_n 0, 1) := by decide +kernel
theorem dX9_init_92 : decode cX9_init 92 = .ok (.getfield 24, 3) := by decide +kernel
theorem dX9_init_95 : decode cX9_init 95 = .ok (.iconst 2, 1) := by decide +kernel
theorem dX9_init_96 : decode cX9_init 96 = .ok (.iconst 1, 1) := by decide +kernel
theorem dX9_init_97 : decode cX9_init 97 = .ok (.iastore, 1) := by decide +kernel
theorem dX9_init_98 : decode cX9_init 98 = .ok (.aload_n 0, 1) := by decide +kernel
theorem dX9_init_99 : decode cX9_init 99 = .ok (.getfield 24, 3) := by decide +kernel
theorem dX9_init_102 : decode cX9_init 102 = .ok (.bipush 13, 2) := by decide +kernel
theorem dX9_init_104 : decode cX9_init 104 = .ok (.sipush 3000, 3) := by decide +kernel
theorem dX9_init_107 : decode cX9_init 107 = .ok (.iastore, 1) := by decide +kernel
theorem dX9_init_108 : decode cX9_init 108 = .ok (.aload_n 0, 1) := by decide +kernel
theorem dX9_init_109 : decode cX9_init 109 = .ok (.iconst 0, 1) := by decide +kernel
theorem dX9_init_110 : decode cX9_init 110 = .ok (.iconst 0, 1) := by decide +kernel
theorem dX9_init_111 : decode cX9_init 111 = .ok (.sipush 3000, 3) := by decide +kernel
theorem dX9_init_114 : decode cX9_init 114 = .ok (.invokevirtual 53, 3) := by decide +kernel
theorem dX9_init_117 : decode cX9_init 117 = .ok (.aload_n 0, 1) := by decide +kernel
theorem dX9_init_118 : decode cX9_init 118 = .ok (.iconst 1, 1) := by decide +kernel
theorem dX9_init_119 : decode cX9_init 119 = .ok (.iconst 0, 1) := by decide +kernel
theorem dX9_init_120 : decode cX9_init 120 = .ok (.sipush 3000, 3) := by decide +kernel
theorem dX9_init_123 : decode cX9_init 123 = .ok (.invokevirtual 53, 3) := by decide +kernel
theorem dX9_init_126 : decode cX9_init 126 = .ok (.return_, 1) := by decide +kernel
theorem dX9_layPlain_0 : decode cX9_layPlain 0 = .ok (.iconst 0, 1) := by decide +kernel
theorem dX9_layPlain_1 : decode cX9_layPlain 1 = .ok (.istore_n 1, 1) := by decide +kernel
theorem dX9_layPlain_2 : decode cX9_layPlain 2 = .ok (.iload_n 1, 1) := by decide +kernel
theorem dX9_layPlain_3 : decode cX9_layPlain 3 = .ok (.sipush 311, 3) := by decide +kernel
theorem dX9_layPlain_6 : decode cX9_layPlain 6 = .ok (.if_icmp .ge 16, 3) := by decide +kernel
theorem dX9_layPlain_9 : decode cX9_layPlain 9 = .ok (.aload_n 0, 1) := by decide +kernel
theorem dX9_layPlain_10 : decode cX9_layPlain 10 = .ok (.getfield 24, 3) := by decide +kernel
theorem dX9_layPlain_13 : decode cX9_layPlain 13 = .ok (.iload_n 1, 1) := by decide +kernel
theorem dX9_layPlain_14 : decode cX9_layPlain 14 = .ok (.iconst 0, 1) := by decide +kernel
theorem dX9_layPlain_15 : decode cX9_layPlain 15 = .ok (.iastore, 1) := by decide +kernel
theorem dX9_layPlain_16 : decode cX9_layPlain 16 = .ok (.iinc 1 1, 3) := by decide +kernel
theorem dX9_layPlain_19 : decode cX9_layPlain 19 = .ok (.goto (-17), 3) := by decide +kernel
theorem dX9_layPlain_22 : decode cX9_layPlain 22 = .ok (.aload_n 0, 1) := by decide +kernel
theorem dX9_layPlain_23 : decode cX9_layPlain 23 = .ok (.getfield 24, 3) := by decide +kernel
theorem dX9_layPlain_26 : decode cX9_layPlain 26 = .ok (.iconst 5, 1) := by decide +kernel
theorem dX9_layPlain_27 : decode cX9_layPlain 27 = .ok (.iconst (-1), 1) := by decide +kernel
theorem dX9_layPlain_28 : decode cX9_layPlain 28 = .ok (.iastore, 1) := by decide +kernel
theorem dX9_layPlain_29 : decode cX9_layPlain 29 = .ok (.aload_n 0, 1) := by decide +kernel
theorem dX9_layPlain_30 : decode cX9_layPlain 30 = .ok (.getfield 24, 3) := by decide +kernel
theorem dX9_layPlain_33 : decode cX9_layPlain 33 = .ok (.bipush 9, 2) := by decide +kernel
theorem dX9_layPlain_35 : decode cX9_layPlain 35 = .ok (.iconst (-1), 1) := by decide +kernel
theorem dX9_layPlain_36 : decode cX9_layPlain 36 = .ok (.iastore, 1) := by decide +kernel
theorem dX9_layPlain_37 : decode cX9_layPlain 37 = .ok (.aload_n 0, 1) := by decide +kernel
theorem dX9_layPlain_38 : decode cX9_layPlain 38 = .ok (.getfield 24, 3) := by decide +kernel
theorem dX9_layPlain_41 : decode cX9_layPlain 41 = .ok (.bipush 11, 2) := by decide +kernel
theorem dX9_layPlain_43 : decode cX9_layPlain 43 = .ok (.iconst (-1), 1) := by decide +kernel
theorem dX9_layPlain_44 : decode cX9_layPlain 44 = .ok (.iastore, 1) := by decide +kernel
theorem dX9_layPlain_45 : decode cX9_layPlain 45 = .ok (.return_, 1) := by decide +kernel
theorem dX9_of_0 : decode cX9_of 0 = .ok (.aload_n 0, 1) := by decide +kernel
theorem dX9_of_1 : decode cX9_of 1 = .ok (.getfield 24, 3) := by decide +kernel
theorem dX9_of_4 : decode cX9_of 4 = .ok (.bipush 37, 2) := by decide +kernel
theorem dX9_of_6 : decode cX9_of 6 = .ok (.bipush 17, 2) := by decide +kernel
theorem dX9_of_8 : decode cX9_of 8 = .ok (.iload_n 1, 1) := by decide +kernel
theorem dX9_of_9 : decode cX9_of 9 = .ok (.imul, 1) := by decide +kernel
theorem dX9_of_10 : decode cX9_of 10 = .ok (.iadd, 1) := by decide +kernel
theorem dX9_of_11 : decode cX9_of 11 = .ok (.iload_n 2, 1) := by decide +kernel
theorem dX9_of_12 : decode cX9_of 12 = .ok (.iadd, 1) := by decide +kernel
theorem dX9_of_13 : decode cX9_of 13 = .ok (.iaload, 1) := by decide +kernel
theorem dX9_of_14 : decode cX9_of 14 = .ok (.ireturn, 1) := by decide +kernel
theorem dX9_put_0 : decode cX9_put 0 = .ok (.aload_n 0, 1) := by decide +kernel
theorem dX9_put_1 : decode cX9_put 1 = .ok (.getfield 24, 3) := by decide +kernel
theorem dX9_put_4 : decode cX9_put 4 = .ok (.bipush 37, 2) := by decide +kernel
theorem dX9_put_6 : decode cX9_put 6 = .ok (.bipush 17, 2) := by decide +kernel
theorem dX9_put_8 : decode cX9_put 8 = .ok (.iload_n 1, 1) := by decide +kernel
theorem dX9_put_9 : decode cX9_put 9 = .ok (.imul, 1) := by decide +kernel
theorem dX9_put_10 : decode cX9_put 10 = .ok (.iadd, 1) := by decide +kernel
theorem dX9_put_11 : decode cX9_put 11 = .ok (.iload_n 2, 1) := by decide +kernel
theorem dX9_put_12 : decode cX9_put 12 = .ok (.iadd, 1) := by decide +kernel
theorem dX9_put_13 : decode cX9_put 13 = .ok (.iload_n 3, 1) := by decide +kernel
theorem dX9_put_14 : decode cX9_put 14 = .ok (.iastore, 1) := by decide +kernel
theorem dX9_put_15 : decode cX9_put 15 = .ok (.return_, 1) := by decide +kernel
theorem dX9_add_0 : decode cX9_add 0 = .ok (.aload_n 0, 1) := by decide +kernel
theorem dX9_add_1 : decode cX9_add 1 = .ok (.getfield 24, 3) := by decide +kernel
theorem dX9_add_4 : decode cX9_add 4 = .ok (.bipush 37, 2) := by decide +kernel
theorem dX9_add_6 : decode cX9_add 6 = .ok (.bipush 17, 2) := by decide +kernel
theorem dX9_add_8 : decode cX9_add 8 = .ok (.iload_n 1, 1) := by decide +kernel
theorem dX9_add_9 : decode cX9_add 9 = .ok (.imul, 1) := by decide +kernel
theorem dX9_add_10 : decode cX9_add 10 = .ok (.iadd, 1) := by decide +kernel
theorem dX9_add_11 : decode cX9_add 11 = .ok (.iload_n 2, 1) := by decide +kernel
theorem dX9_add_12 : decode cX9_add 12 = .ok (.iadd, 1) := by decide +kernel
theorem dX9_add_13 : decode cX9_add 13 = .ok (.dup2, 1) := by decide +kernel
theorem dX9_add_14 : decode cX9_add 14 = .ok (.iaload, 1) := by decide +kernel
theorem dX9_add_15 : decode cX9_add 15 = .ok (.iload_n 3, 1) := by decide +kernel
theorem dX9_add_16 : decode cX9_add 16 = .ok (.iadd, 1) := by decide +kernel
theorem dX9_add_17 : decode cX9_add 17 = .ok (.iastore, 1) := by decide +kernel
theorem dX9_add_18 : decode cX9_add 18 = .ok (.return_, 1) := by decide +kernel
theorem dX9_ofPeriod_0 : decode cX9_ofPeriod 0 = .ok (.aload_n 0, 1) := by decide +kernel
theorem dX9_ofPeriod_1 : decode cX9_ofPeriod 1 = .ok (.getfield 24, 3) := by decide +kernel
theorem dX9_ofPeriod_4 : decode cX9_ofPeriod 4 = .ok (.bipush 12, 2) := by decide +kernel
theorem dX9_ofPeriod_6 : decode cX9_ofPeriod 6 = .ok (.iconst 5, 1) := by decide +kernel
theorem dX9_ofPeriod_7 : decode cX9_ofPeriod 7 = .ok (.iload_n 1, 1) := by decide +kernel
theorem dX9_ofPeriod_8 : decode cX9_ofPeriod 8 = .ok (.imul, 1) := by decide +kernel
theorem dX9_ofPeriod_9 : decode cX9_ofPeriod 9 = .ok (.iadd, 1) := by decide +kernel
theorem dX9_ofPeriod_10 : decode cX9_ofPeriod 10 = .ok (.iload_n 2, 1) := by decide +kernel
theorem dX9_ofPeriod_11 : decode cX9_ofPeriod 11 = .ok (.iadd, 1) := by decide +kernel
theorem dX9_ofPeriod_12 : decode cX9_ofPeriod 12 = .ok (.iaload, 1) := by decide +kernel
theorem dX9_ofPeriod_13 : decode cX9_ofPeriod 13 = .ok (.ireturn, 1) := by decide +kernel
theorem dX9_its_0 : decode cX9_its 0 = .ok (.aload_n 0, 1) := by decide +kernel
theorem dX9_its_1 : decode cX9_its 1 = .ok (.aload_n 0, 1) := by decide +kernel
theorem dX9_its_2 : decode cX9_its 2 = .ok (.iload_n 1, 1) := by decide +kernel
theorem dX9_its_3 : decode cX9_its 3 = .ok (.iconst 2, 1) := by decide +kernel
theorem dX9_its_4 : decode cX9_its 4 = .ok (.invokevirtual 57, 3) := by decide +kernel
theorem dX9_its_7 : decode cX9_its 7 = .ok (.iload_n 2, 1) := by decide +kernel
theorem dX9_its_8 : decode cX9_its 8 = .ok (.invokevirtual 61, 3) := by decide +kernel
theorem dX9_its_11 : decode cX9_its 11 = .ok (.ireturn, 1) := by decide +kernel
theorem dX9_mover_0 : decode cX9_mover 0 = .ok (.aload_n 0, 1) := by decide +kernel
theorem dX9_mover_1 : decode cX9_mover 1 = .ok (.getfield 24, 3) := by decide +kernel
theorem dX9_mover_4 : decode cX9_mover 4 = .ok (.iconst 1, 1) := by decide +kernel
theorem dX9_mover_5 : decode cX9_mover 5 = .ok (.iaload, 1) := by decide +kernel
theorem dX9_mover_6 : decode cX9_mover 6 = .ok (.ireturn, 1) := by decide +kernel
theorem dX9_isState_0 : decode cX9_isState 0 = .ok (.aload_n 0, 1) := by decide +kernel
theorem dX9_isState_1 : decode cX9_isState 1 = .ok (.getfield 24, 3) := by decide +kernel
theorem dX9_isState_4 : decode cX9_isState 4 = .ok (.iconst 0, 1) := by decide +kernel
theorem dX9_isState_5 : decode cX9_isState 5 = .ok (.iaload, 1) := by decide +kernel
theorem dX9_isState_6 : decode cX9_isState 6 = .ok (.iload_n 1, 1) := by decide +kernel
theorem dX9_isState_7 : decode cX9_isState 7 = .ok (.if_icmp .ne 7, 3) := by decide +kernel
theorem dX9_isState_10 : decode cX9_isState 10 = .ok (.iconst 1, 1) := by decide +kernel
theorem dX9_isState_11 : decode cX9_isState 11 = .ok (.goto 4, 3) := by decide +kernel
theorem dX9_isState_14 : decode cX9_isState 14 = .ok (.iconst 0, 1) := by decide +kernel
theorem dX9_isState_15 : decode cX9_isState 15 = .ok (.ireturn, 1) := by decide +kernel
theorem dX9_isSide_0 : decode cX9_isSide 0 = .ok (.iload_n 0, 1) := by decide +kernel
theorem dX9_isSide_1 : decode cX9_isSide 1 = .ok (.i2l, 1) := by decide +kernel
theorem dX9_isSide_2 : decode cX9_isSide 2 = .ok (.lconst 0, 1) := by decide +kernel
theorem dX9_isSide_3 : decode cX9_isSide 3 = .ok (.lconst 1, 1) := by decide +kernel
theorem dX9_isSide_4 : decode cX9_isSide 4 = .ok (.invokestatic 64, 3) := by decide +kernel
theorem dX9_isSide_7 : decode cX9_isSide 7 = .ok (.ireturn, 1) := by decide +kernel
theorem dX9_fell_0 : decode cX9_fell 0 = .ok (.aload_n 0, 1) := by decide +kernel
theorem dX9_fell_1 : decode cX9_fell 1 = .ok (.iload_n 1, 1) := by decide +kernel
theorem dX9_fell_2 : decode cX9_fell 2 = .ok (.bipush 8, 2) := by decide +kernel
theorem dX9_fell_4 : decode cX9_fell 4 = .ok (.invokevirtual 57, 3) := by decide +kernel
theorem dX9_fell_7 : decode cX9_fell 7 = .ok (.iconst 1, 1) := by decide +kernel
theorem dX9_fell_8 : decode cX9_fell 8 = .ok (.if_icmp .ne 7, 3) := by decide +kernel
theorem dX9_fell_11 : decode cX9_fell 11 = .ok (.iconst 1, 1) := by decide +kernel
theorem dX9_fell_12 : decode cX9_fell 12 = .ok (.goto 4, 3) := by decide +kernel
theorem dX9_fell_15 : decode cX9_fell 15 = .ok (.iconst 0, 1) := by decide +kernel
theorem dX9_fell_16 : decode cX9_fell 16 = .ok (.ireturn, 1) := by decide +kernel
theorem dX9_endGame_0 : decode cX9_endGame 0 = .ok (.aload_n 0, 1) := by decide +kernel
theorem dX9_endGame_1 : decode cX9_endGame 1 = .ok (.getfield 24, 3) := by decide +kernel
theorem dX9_endGame_4 : decode cX9_endGame 4 = .ok (.iconst 0, 1) := by decide +kernel
theorem dX9_endGame_5 : decode cX9_endGame 5 = .ok (.iconst 4, 1) := by decide +kernel
theorem dX9_endGame_6 : decode cX9_endGame 6 = .ok (.iastore, 1) := by decide +kernel
theorem dX9_endGame_7 : decode cX9_endGame 7 = .ok (.aload_n 0, 1) := by decide +kernel
theorem dX9_endGame_8 : decode cX9_endGame 8 = .ok (.getfield 24, 3) := by decide +kernel
theorem dX9_endGame_11 : decode cX9_endGame 11 = .ok (.bipush 11, 2) := by decide +kernel
theorem dX9_endGame_13 : decode cX9_endGame 13 = .ok (.iload_n 1, 1) := by decide +kernel
theorem dX9_endGame_14 : decode cX9_endGame 14 = .ok (.iastore, 1) := by decide +kernel
theorem dX9_endGame_15 : decode cX9_endGame 15 = .ok (.return_, 1) := by decide +kernel
theorem dX9_wonBy_0 : decode cX9_wonBy 0 = .ok (.aload_n 0, 1) := by decide +kernel
theorem dX9_wonBy_1 : decode cX9_wonBy 1 = .ok (.iload_n 1, 1) := by decide +kernel
theorem dX9_wonBy_2 : decode cX9_wonBy 2 = .ok (.bipush 9, 2) := by decide +kernel
theorem dX9_wonBy_4 : decode cX9_wonBy 4 = .ok (.invokevirtual 57, 3) := by decide +kernel
theorem dX9_wonBy_7 : decode cX9_wonBy 7 = .ok (.iconst 1, 1) := by decide +kernel
theorem dX9_wonBy_8 : decode cX9_wonBy 8 = .ok (.if_icmp .ne 7, 3) := by decide +kernel
theorem dX9_wonBy_11 : decode cX9_wonBy 11 = .ok (.iconst 2, 1) := by decide +kernel
theorem dX9_wonBy_12 : decode cX9_wonBy 12 = .ok (.goto 4, 3) := by decide +kernel
theorem dX9_wonBy_15 : decode cX9_wonBy 15 = .ok (.iload_n 1, 1) := by decide +kernel
theorem dX9_wonBy_16 : decode cX9_wonBy 16 = .ok (.ireturn, 1) := by decide +kernel
theorem dX9_fall_0 : decode cX9_fall 0 = .ok (.aload_n 0, 1) := by decide +kernel
theorem dX9_fall_1 : decode cX9_fall 1 = .ok (.iload_n 1, 1) := by decide +kernel
theorem dX9_fall_2 : decode cX9_fall 2 = .ok (.bipush 8, 2) := by decide +kernel
theorem dX9_fall_4 : decode cX9_fall 4 = .ok (.iconst 1, 1) := by decide +kernel
theorem dX9_fall_5 : decode cX9_fall 5 = .ok (.invokevirtual 53, 3) := by decide +kernel
theorem dX9_fall_8 : decode cX9_fall 8 = .ok (.aload_n 0, 1) := by decide +kernel
theorem dX9_fall_9 : decode cX9_fall 9 = .ok (.getfield 24, 3) := by decide +kernel
theorem dX9_fall_12 : decode cX9_fall 12 = .ok (.bipush 9, 2) := by decide +kernel
theorem dX9_fall_14 : decode cX9_fall 14 = .ok (.aload_n 0, 1) := by decide +kernel
theorem dX9_fall_15 : decode cX9_fall 15 = .ok (.getfield 24, 3) := by decide +kernel
theorem dX9_fall_18 : decode cX9_fall 18 = .ok (.bipush 9, 2) := by decide +kernel
theorem dX9_fall_20 : decode cX9_fall 20 = .ok (.iaload, 1) := by decide +kernel
theorem dX9_fall_21 : decode cX9_fall 21 = .ok (.iconst (-1), 1) := by decide +kernel
theorem dX9_fall_22 : decode cX9_fall 22 = .ok (.if_icmp .ne 7, 3) := by decide +kernel
theorem dX9_fall_25 : decode cX9_fall 25 = .ok (.iload_n 1, 1) := by decide +kernel
theorem dX9_fall_26 : decode cX9_fall 26 = .ok (.goto 10, 3) := by decide +kernel
theorem dX9_fall_29 : decode cX9_fall 29 = .ok (.aload_n 0, 1) := by decide +kernel
theorem dX9_fall_30 : decode cX9_fall 30 = .ok (.getfield 24, 3) := by decide +kernel
theorem dX9_fall_33 : decode cX9_fall 33 = .ok (.bipush 9, 2) := by decide +kernel
theorem dX9_fall_35 : decode cX9_fall 35 = .ok (.iaload, 1) := by decide +kernel
theorem dX9_fall_36 : decode cX9_fall 36 = .ok (.iastore, 1) := by decide +kernel
theorem dX9_fall_37 : decode cX9_fall 37 = .ok (.aload_n 0, 1) := by decide +kernel
theorem dX9_fall_38 : decode cX9_fall 38 = .ok (.getfield 24, 3) := by decide +kernel
theorem dX9_fall_41 : decode cX9_fall 41 = .ok (.bipush 10, 2) := by decide +kernel
theorem dX9_fall_43 : decode cX9_fall 43 = .ok (.iaload, 1) := by decide +kernel
theorem dX9_fall_44 : decode cX9_fall 44 = .ok (.ifCond .ne 14, 3) := by decide +kernel
theorem dX9_fall_47 : decode cX9_fall 47 = .ok (.aload_n 0, 1) := by decide +kernel
theorem dX9_fall_48 : decode cX9_fall 48 = .ok (.aload_n 0, 1) := by decide +kernel
theorem dX9_fall_49 : decode cX9_fall 49 = .ok (.iconst 1, 1) := by decide +kernel
theorem dX9_fall_50 : decode cX9_fall 50 = .ok (.iload_n 1, 1) := by decide +kernel
theorem dX9_fall_51 : decode cX9_fall 51 = .ok (.isub, 1) := by decide +kernel
theorem dX9_fall_52 : decode cX9_fall 52 = .ok (.invokevirtual 68, 3) := by decide +kernel
theorem dX9_fall_55 : decode cX9_fall 55 = .ok (.invokevirtual 72, 3) := by decide +kernel
theorem dX9_fall_58 : decode cX9_fall 58 = .ok (.return_, 1) := by decide +kernel
theorem dX9_tickOnce_0 : decode cX9_tickOnce 0 = .ok (.aload_n 0, 1) := by decide +kernel
theorem dX9_tickOnce_1 : decode cX9_tickOnce 1 = .ok (.iconst 1, 1) := by decide +kernel
theorem dX9_tickOnce_2 : decode cX9_tickOnce 2 = .ok (.invokevirtual 76, 3) := by decide +kernel
theorem dX9_tickOnce_5 : decode cX9_tickOnce 5 = .ok (.ifCond .ne 4, 3) := by decide +kernel
theorem dX9_tickOnce_8 : decode cX9_tickOnce 8 = .ok (.return_, 1) := by decide +kernel
theorem dX9_tickOnce_9 : decode cX9_tickOnce 9 = .ok (.aload_n 0, 1) := by decide +kernel
theorem dX9_tickOnce_10 : decode cX9_tickOnce 10 = .ok (.invokevirtual 80, 3) := by decide +kernel
theorem dX9_tickOnce_13 : decode cX9_tickOnce 13 = .ok (.istore_n 1, 1) := by decide +kernel
theorem dX9_tickOnce_14 : decode cX9_tickOnce 14 = .ok (.aload_n 0, 1) := by decide +kernel
theorem dX9_tickOnce_15 : decode cX9_tickOnce 15 = .ok (.getfield 24, 3) := by decide +kernel
theorem dX9_tickOnce_18 : decode cX9_tickOnce 18 = .ok (.bipush 7, 2) := by decide +kernel
theorem dX9_tickOnce_20 : decode cX9_tickOnce 20 = .ok (.dup2, 1) := by decide +kernel
theorem dX9_tickOnce_21 : decode cX9_tickOnce 21 = .ok (.iaload, 1) := by decide +kernel
theorem dX9_tickOnce_22 : decode cX9_tickOnce 22 = .ok (.iconst 1, 1) := by decide +kernel
theorem dX9_tickOnce_23 : decode cX9_tickOnce 23 = .ok (.iadd, 1) := by decide +kernel
theorem dX9_tickOnce_24 : decode cX9_tickOnce 24 = .ok (.iastore, 1) := by decide +kernel
theorem dX9_tickOnce_25 : decode cX9_tickOnce 25 = .ok (.aload_n 0, 1) := by decide +kernel
theorem dX9_tickOnce_26 : decode cX9_tickOnce 26 = .ok (.getfield 24, 3) := by decide +kernel
theorem dX9_tickOnce_29 : decode cX9_tickOnce 29 = .ok (.bipush 6, 2) := by decide +kernel
theorem dX9_tickOnce_31 : decode cX9_tickOnce 31 = .ok (.dup2, 1) := by decide +kernel
theorem dX9_tickOnce_32 : decode cX9_tickOnce 32 = .ok (.iaload, 1) := by decide +kernel
theorem dX9_tickOnce_33 : decode cX9_tickOnce 33 = .ok (.iconst 1, 1) := by decide +kernel
theorem dX9_tickOnce_34 : decode cX9_tickOnce 34 = .ok (.iadd, 1) := by decide +kernel
theorem dX9_tickOnce_35 : decode cX9_tickOnce 35 = .ok (.iastore, 1) := by decide +kernel
theorem dX9_tickOnce_36 : decode cX9_tickOnce 36 = .ok (.aload_n 0, 1) := by decide +kernel
theorem dX9_tickOnce_37 : decode cX9_tickOnce 37 = .ok (.iload_n 1, 1) := by decide +kernel
theorem dX9_tickOnce_38 : decode cX9_tickOnce 38 = .ok (.bipush 6, 2) := by decide +kernel
theorem dX9_tickOnce_40 : decode cX9_tickOnce 40 = .ok (.iconst 1, 1) := by decide +kernel
theorem dX9_tickOnce_41 : decode cX9_tickOnce 41 = .ok (.invokevirtual 84, 3) := by decide +kernel
theorem dX9_tickOnce_44 : decode cX9_tickOnce 44 = .ok (.aload_n 0, 1) := by decide +kernel
theorem dX9_tickOnce_45 : decode cX9_tickOnce 45 = .ok (.iload_n 1, 1) := by decide +kernel
theorem dX9_tickOnce_46 : decode cX9_tickOnce 46 = .ok (.bipush 10, 2) := by decide +kernel
theorem dX9_tickOnce_48 : decode cX9_tickOnce 48 = .ok (.iconst 1, 1) := by decide +kernel
theorem dX9_tickOnce_49 : decode cX9_tickOnce 49 = .ok (.invokevirtual 84, 3) := by decide +kernel
theorem dX9_tickOnce_52 : decode cX9_tickOnce 52 = .ok (.aload_n 0, 1) := by decide +kernel
theorem dX9_tickOnce_53 : decode cX9_tickOnce 53 = .ok (.iload_n 1, 1) := by decide +kernel
theorem dX9_tickOnce_54 : decode cX9_tickOnce 54 = .ok (.bipush 6, 2) := by decide +kernel
theorem dX9_tickOnce_56 : decode cX9_tickOnce 56 = .ok (.invokevirtual 57, 3) := by decide +kernel
theorem dX9_tickOnce_59 : decode cX9_tickOnce 59 = .ok (.aload_n 0, 1) := by decide +kernel
theorem dX9_tickOnce_60 : decode cX9_tickOnce 60 = .ok (.iload_n 1, 1) := by decide +kernel
theorem dX9_tickOnce_61 : decode cX9_tickOnce 61 = .ok (.iconst 3, 1) := by decide +kernel
theorem dX9_tickOnce_62 : decode cX9_tickOnce 62 = .ok (.invokevirtual 87, 3) := by decide +kernel
theorem dX9_tickOnce_65 : decode cX9_tickOnce 65 = .ok (.if_icmp .le 12, 3) := by decide +kernel
theorem dX9_tickOnce_68 : decode cX9_tickOnce 68 = .ok (.aload_n 0, 1) := by decide +kernel
theorem dX9_tickOnce_69 : decode cX9_tickOnce 69 = .ok (.iload_n 1, 1) := by decide +kernel
theorem dX9_tickOnce_70 : decode cX9_tickOnce 70 = .ok (.iconst 0, 1) := by decide +kernel
theorem dX9_tickOnce_71 : decode cX9_tickOnce 71 = .ok (.invokevirtual 57, 3) := by decide +kernel
theorem dX9_tickOnce_74 : decode cX9_tickOnce 74 = .ok (.ifCond .ne 4, 3) := by decide +kernel
theorem dX9_tickOnce_77 : decode cX9_tickOnce 77 = .ok (.return_, 1) := by decide +kernel
theorem dX9_tickOnce_78 : decode cX9_tickOnce 78 = .ok (.aload_n 0, 1) := by decide +kernel
theorem dX9_tickOnce_79 : decode cX9_tickOnce 79 = .ok (.iload_n 1, 1) := by decide +kernel
theorem dX9_tickOnce_80 : decode cX9_tickOnce 80 = .ok (.iconst 0, 1) := by decide +kernel
theorem dX9_tickOnce_81 : decode cX9_tickOnce 81 = .ok (.iconst (-1), 1) := by decide +kernel
theorem dX9_tickOnce_82 : decode cX9_tickOnce 82 = .ok (.invokevirtual 84, 3) := by decide +kernel
theorem dX9_tickOnce_85 : decode cX9_tickOnce 85 = .ok (.aload_n 0, 1) := by decide +kernel
theorem dX9_tickOnce_86 : decode cX9_tickOnce 86 = .ok (.iload_n 1, 1) := by decide +kernel
theorem dX9_tickOnce_87 : decode cX9_tickOnce 87 = .ok (.bipush 7, 2) := by decide +kernel
theorem dX9_tickOnce_89 : decode cX9_tickOnce 89 = .ok (.iconst 1, 1) := by decide +kernel
theorem dX9_tickOnce_90 : decode cX9_tickOnce 90 = .ok (.invokevirtual 84, 3) := by decide +kernel
theorem dX9_tickOnce_93 : decode cX9_tickOnce 93 = .ok (.aload_n 0, 1) := by decide +kernel
theorem dX9_tickOnce_94 : decode cX9_tickOnce 94 = .ok (.iload_n 1, 1) := by decide +kernel
theorem dX9_tickOnce_95 : decode cX9_tickOnce 95 = .ok (.bipush 12, 2) := by decide +kernel
theorem dX9_tickOnce_97 : decode cX9_tickOnce 97 = .ok (.aload_n 0, 1) := by decide +kernel
theorem dX9_tickOnce_98 : decode cX9_tickOnce 98 = .ok (.iload_n 1, 1) := by decide +kernel
theorem dX9_tickOnce_99 : decode cX9_tickOnce 99 = .ok (.iconst 2, 1) := by decide +kernel
theorem dX9_tickOnce_100 : decode cX9_tickOnce 100 = .ok (.invokevirtual 57, 3) := by decide +kernel
theorem dX9_tickOnce_103 : decode cX9_tickOnce 103 = .ok (.iadd, 1) := by decide +kernel
theorem dX9_tickOnce_104 : decode cX9_tickOnce 104 = .ok (.iconst 1, 1) := by decide +kernel
theorem dX9_tickOnce_105 : decode cX9_tickOnce 105 = .ok (.invokevirtual 84, 3) := by decide +kernel
theorem dX9_tickOnce_108 : decode cX9_tickOnce 108 = .ok (.aload_n 0, 1) := by decide +kernel
theorem dX9_tickOnce_109 : decode cX9_tickOnce 109 = .ok (.iload_n 1, 1) := by decide +kernel
theorem dX9_tickOnce_110 : decode cX9_tickOnce 110 = .ok (.iconst 0, 1) := by decide +kernel
theorem dX9_tickOnce_111 : decode cX9_tickOnce 111 = .ok (.invokevirtual 57, 3) := by decide +kernel
theorem dX9_tickOnce_114 : decode cX9_tickOnce 114 = .ok (.ifCond .le 4, 3) := by decide +kernel
theorem dX9_tickOnce_117 : decode cX9_tickOnce 117 = .ok (.return_, 1) := by decide +kernel
theorem dX9_tickOnce_118 : decode cX9_tickOnce 118 = .ok (.aload_n 0, 1) := by decide +kernel
theorem dX9_tickOnce_119 : decode cX9_tickOnce 119 = .ok (.iload_n 1, 1) := by decide +kernel
theorem dX9_tickOnce_120 : decode cX9_tickOnce 120 = .ok (.iconst 0, 1) := by decide +kernel
theorem dX9_tickOnce_121 : decode cX9_tickOnce 121 = .ok (.invokevirtual 87, 3) := by decide +kernel
theorem dX9_tickOnce_124 : decode cX9_tickOnce 124 = .ok (.ifCond .ne 41, 3) := by decide +kernel
theorem dX9_tickOnce_127 : decode cX9_tickOnce 127 = .ok (.aload_n 0, 1) := by decide +kernel
theorem dX9_tickOnce_128 : decode cX9_tickOnce 128 = .ok (.iload_n 1, 1) := by decide +kernel
theorem dX9_tickOnce_129 : decode cX9_tickOnce 129 = .ok (.iconst 4, 1) := by decide +kernel
theorem dX9_tickOnce_130 : decode cX9_tickOnce 130 = .ok (.invokevirtual 57, 3) := by decide +kernel
theorem dX9_tickOnce_133 : decode cX9_tickOnce 133 = .ok (.ifCond .le 32, 3) := by decide +kernel
theorem dX9_tickOnce_136 : decode cX9_tickOnce 136 = .ok (.aload_n 0, 1) := by decide +kernel
theorem dX9_tickOnce_137 : decode cX9_tickOnce 137 = .ok (.iload_n 1, 1) := by decide +kernel
theorem dX9_tickOnce_138 : decode cX9_tickOnce 138 = .ok (.iconst 4, 1) := by decide +kernel
theorem dX9_tickOnce_139 : decode cX9_tickOnce 139 = .ok (.iconst (-1), 1) := by decide +kernel
theorem dX9_tickOnce_140 : decode cX9_tickOnce 140 = .ok (.invokevirtual 84, 3) := by decide +kernel
theorem dX9_tickOnce_143 : decode cX9_tickOnce 143 = .ok (.aload_n 0, 1) := by decide +kernel
theorem dX9_tickOnce_144 : decode cX9_tickOnce 144 = .ok (.iload_n 1, 1) := by decide +kernel
theorem dX9_tickOnce_145 : decode cX9_tickOnce 145 = .ok (.iconst 5, 1) := by decide +kernel
theorem dX9_tickOnce_146 : decode cX9_tickOnce 146 = .ok (.iconst 1, 1) := by decide +kernel
theorem dX9_tickOnce_147 : decode cX9_tickOnce 147 = .ok (.invokevirtual 53, 3) := by decide +kernel
theorem dX9_tickOnce_150 : decode cX9_tickOnce 150 = .ok (.aload_n 0, 1) := by decide +kernel
theorem dX9_tickOnce_151 : decode cX9_tickOnce 151 = .ok (.iload_n 1, 1) := by decide +kernel
theorem dX9_tickOnce_152 : decode cX9_tickOnce 152 = .ok (.iconst 0, 1) := by decide +kernel
theorem dX9_tickOnce_153 : decode cX9_tickOnce 153 = .ok (.aload_n 0, 1) := by decide +kernel
theorem dX9_tickOnce_154 : decode cX9_tickOnce 154 = .ok (.getfield 24, 3) := by decide +kernel
theorem dX9_tickOnce_157 : decode cX9_tickOnce 157 = .ok (.iconst 4, 1) := by decide +kernel
theorem dX9_tickOnce_158 : decode cX9_tickOnce 158 = .ok (.iaload, 1) := by decide +kernel
theorem dX9_tickOnce_159 : decode cX9_tickOnce 159 = .ok (.invokevirtual 53, 3) := by decide +kernel
theorem dX9_tickOnce_162 : decode cX9_tickOnce 162 = .ok (.goto 8, 3) := by decide +kernel
theorem dX9_tickOnce_165 : decode cX9_tickOnce 165 = .ok (.aload_n 0, 1) := by decide +kernel
theorem dX9_tickOnce_166 : decode cX9_tickOnce 166 = .ok (.iload_n 1, 1) := by decide +kernel
theorem dX9_tickOnce_167 : decode cX9_tickOnce 167 = .ok (.invokevirtual 90, 3) := by decide +kernel
theorem dX9_tickOnce_170 : decode cX9_tickOnce 170 = .ok (.return_, 1) := by decide +kernel
theorem dX9_ticks_0 : decode cX9_ticks 0 = .ok (.iconst 0, 1) := by decide +kernel
theorem dX9_ticks_1 : decode cX9_ticks 1 = .ok (.istore_n 2, 1) := by decide +kernel
theorem dX9_ticks_2 : decode cX9_ticks 2 = .ok (.iload_n 2, 1) := by decide +kernel
theorem dX9_ticks_3 : decode cX9_ticks 3 = .ok (.iload_n 1, 1) := by decide +kernel
theorem dX9_ticks_4 : decode cX9_ticks 4 = .ok (.if_icmp .ge 21, 3) := by decide +kernel
theorem dX9_ticks_7 : decode cX9_ticks 7 = .ok (.aload_n 0, 1) := by decide +kernel
theorem dX9_ticks_8 : decode cX9_ticks 8 = .ok (.iconst 1, 1) := by decide +kernel
theorem dX9_ticks_9 : decode cX9_ticks 9 = .ok (.invokevirtual 76, 3) := by decide +kernel
theorem dX9_ticks_12 : decode cX9_ticks 12 = .ok (.ifCond .eq 13, 3) := by decide +kernel
theorem dX9_ticks_15 : decode cX9_ticks 15 = .ok (.aload_n 0, 1) := by decide +kernel
theorem dX9_ticks_16 : decode cX9_ticks 16 = .ok (.invokevirtual 93, 3) := by decide +kernel
theorem dX9_ticks_19 : decode cX9_ticks 19 = .ok (.iinc 2 1, 3) := by decide +kernel
theorem dX9_ticks_22 : decode cX9_ticks 22 = .ok (.goto (-20), 3) := by decide +kernel
theorem dX9_ticks_25 : decode cX9_ticks 25 = .ok (.return_, 1) := by decide +kernel
theorem dX9_gainsOf_0 : decode cX9_gainsOf 0 = .ok (.aload_n 0, 1) := by decide +kernel
theorem dX9_gainsOf_1 : decode cX9_gainsOf 1 = .ok (.iload_n 1, 1) := by decide +kernel
theorem dX9_gainsOf_2 : decode cX9_gainsOf 2 = .ok (.invokevirtual 96, 3) := by decide +kernel
theorem dX9_gainsOf_5 : decode cX9_gainsOf 5 = .ok (.ifCond .eq 5, 3) := by decide +kernel
theorem dX9_gainsOf_8 : decode cX9_gainsOf 8 = .ok (.iconst 0, 1) := by decide +kernel
theorem dX9_gainsOf_9 : decode cX9_gainsOf 9 = .ok (.ireturn, 1) := by decide +kernel
theorem dX9_gainsOf_10 : decode cX9_gainsOf 10 = .ok (.aload_n 0, 1) := by decide +kernel
theorem dX9_gainsOf_11 : decode cX9_gainsOf 11 = .ok (.iload_n 1, 1) := by decide +kernel
theorem dX9_gainsOf_12 : decode cX9_gainsOf 12 = .ok (.iconst 5, 1) := by decide +kernel
theorem dX9_gainsOf_13 : decode cX9_gainsOf 13 = .ok (.invokevirtual 57, 3) := by decide +kernel
theorem dX9_gainsOf_16 : decode cX9_gainsOf 16 = .ok (.iconst 1, 1) := by decide +kernel
theorem dX9_gainsOf_17 : decode cX9_gainsOf 17 = .ok (.if_icmp .ne 17, 3) := by decide +kernel
theorem dX9_gainsOf_20 : decode cX9_gainsOf 20 = .ok (.aload_n 0, 1) := by decide +kernel
theorem dX9_gainsOf_21 : decode cX9_gainsOf 21 = .ok (.getfield 24, 3) := by decide +kernel
theorem dX9_gainsOf_24 : decode cX9_gainsOf 24 = .ok (.iconst 4, 1) := by decide +kernel
theorem dX9_gainsOf_25 : decode cX9_gainsOf 25 = .ok (.iaload, 1) := by decide +kernel
theorem dX9_gainsOf_26 : decode cX9_gainsOf 26 = .ok (.aload_n 0, 1) := by decide +kernel
theorem dX9_gainsOf_27 : decode cX9_gainsOf 27 = .ok (.iload_n 1, 1) := by decide +kernel
theorem dX9_gainsOf_28 : decode cX9_gainsOf 28 = .ok (.iconst 0, 1) := by decide +kernel
theorem dX9_gainsOf_29 : decode cX9_gainsOf 29 = .ok (.invokevirtual 57, 3) := by decide +kernel
theorem dX9_gainsOf_32 : decode cX9_gainsOf 32 = .ok (.isub, 1) := by decide +kernel
theorem dX9_gainsOf_33 : decode cX9_gainsOf 33 = .ok (.ireturn, 1) := by decide +kernel
theorem dX9_gainsOf_34 : decode cX9_gainsOf 34 = .ok (.aload_n 0, 1) := by decide +kernel
theorem dX9_gainsOf_35 : decode cX9_gainsOf 35 = .ok (.iload_n 1, 1) := by decide +kernel
theorem dX9_gainsOf_36 : decode cX9_gainsOf 36 = .ok (.iconst 2, 1) := by decide +kernel
theorem dX9_gainsOf_37 : decode cX9_gainsOf 37 = .ok (.invokevirtual 87, 3) := by decide +kernel
theorem dX9_gainsOf_40 : decode cX9_gainsOf 40 = .ok (.aload_n 0, 1) := by decide +kernel
theorem dX9_gainsOf_41 : decode cX9_gainsOf 41 = .ok (.iload_n 1, 1) := by decide +kernel
theorem dX9_gainsOf_42 : decode cX9_gainsOf 42 = .ok (.bipush 7, 2) := by decide +kernel
theorem dX9_gainsOf_44 : decode cX9_gainsOf 44 = .ok (.invokevirtual 57, 3) := by decide +kernel
theorem dX9_gainsOf_47 : decode cX9_gainsOf 47 = .ok (.aload_n 0, 1) := by decide +kernel
theorem dX9_gainsOf_48 : decode cX9_gainsOf 48 = .ok (.iload_n 1, 1) := by decide +kernel
theorem dX9_gainsOf_49 : decode cX9_gainsOf 49 = .ok (.iconst 4, 1) := by decide +kernel
theorem dX9_gainsOf_50 : decode cX9_gainsOf 50 = .ok (.invokevirtual 87, 3) := by decide +kernel
theorem dX9_gainsOf_53 : decode cX9_gainsOf 53 = .ok (.invokestatic 99, 3) := by decide +kernel
theorem dX9_gainsOf_56 : decode cX9_gainsOf 56 = .ok (.iadd, 1) := by decide +kernel
theorem dX9_gainsOf_57 : decode cX9_gainsOf 57 = .ok (.ireturn, 1) := by decide +kernel
theorem dX9_beginPeriod_0 : decode cX9_beginPeriod 0 = .ok (.aload_n 0, 1) := by decide +kernel
theorem dX9_beginPeriod_1 : decode cX9_beginPeriod 1 = .ok (.iload_n 1, 1) := by decide +kernel
theorem dX9_beginPeriod_2 : decode cX9_beginPeriod 2 = .ok (.iconst 2, 1) := by decide +kernel
theorem dX9_beginPeriod_3 : decode cX9_beginPeriod 3 = .ok (.aload_n 0, 1) := by decide +kernel
theorem dX9_beginPeriod_4 : decode cX9_beginPeriod 4 = .ok (.iload_n 1, 1) := by decide +kernel
theorem dX9_beginPeriod_5 : decode cX9_beginPeriod 5 = .ok (.iconst 2, 1) := by decide +kernel
theorem dX9_beginPeriod_6 : decode cX9_beginPeriod 6 = .ok (.invokevirtual 57, 3) := by decide +kernel
theorem dX9_beginPeriod_9 : decode cX9_beginPeriod 9 = .ok (.iconst 1, 1) := by decide +kernel
theorem dX9_beginPeriod_10 : decode cX9_beginPeriod 10 = .ok (.iadd, 1) := by decide +kernel
theorem dX9_beginPeriod_11 : decode cX9_beginPeriod 11 = .ok (.aload_n 0, 1) := by decide +kernel
theorem dX9_beginPeriod_12 : decode cX9_beginPeriod 12 = .ok (.getfield 24, 3) := by decide +kernel
theorem dX9_beginPeriod_15 : decode cX9_beginPeriod 15 = .ok (.iconst 2, 1) := by decide +kernel
theorem dX9_beginPeriod_16 : decode cX9_beginPeriod 16 = .ok (.iaload, 1) := by decide +kernel
theorem dX9_beginPeriod_17 : decode cX9_beginPeriod 17 = .ok (.iconst 1, 1) := by decide +kernel
theorem dX9_beginPeriod_18 : decode cX9_beginPeriod 18 = .ok (.isub, 1) := by decide +kernel
theorem dX9_beginPeriod_19 : decode cX9_beginPeriod 19 = .ok (.invokestatic 99, 3) := by decide +kernel
theorem dX9_beginPeriod_22 : decode cX9_beginPeriod 22 = .ok (.invokevirtual 53, 3) := by decide +kernel
theorem dX9_beginPeriod_25 : decode cX9_beginPeriod 25 = .ok (.aload_n 0, 1) := by decide +kernel
theorem dX9_beginPeriod_26 : decode cX9_beginPeriod 26 = .ok (.iload_n 1, 1) := by decide +kernel
theorem dX9_beginPeriod_27 : decode cX9_beginPeriod 27 = .ok (.iconst 3, 1) := by decide +kernel
theorem dX9_beginPeriod_28 : decode cX9_beginPeriod 28 = .ok (.iconst 0, 1) := by decide +kernel
theorem dX9_beginPeriod_29 : decode cX9_beginPeriod 29 = .ok (.invokevirtual 53, 3) := by decide +kernel
theorem dX9_beginPeriod_32 : decode cX9_beginPeriod 32 = .ok (.aload_n 0, 1) := by decide +kernel
theorem dX9_beginPeriod_33 : decode cX9_beginPeriod 33 = .ok (.iload_n 1, 1) := by decide +kernel
theorem dX9_beginPeriod_34 : decode cX9_beginPeriod 34 = .ok (.bipush 11, 2) := by decide +kernel
theorem dX9_beginPeriod_36 : decode cX9_beginPeriod 36 = .ok (.iconst 1, 1) := by decide +kernel
theorem dX9_beginPeriod_37 : decode cX9_beginPeriod 37 = .ok (.invokevirtual 84, 3) := by decide +kernel
theorem dX9_beginPeriod_40 : decode cX9_beginPeriod 40 = .ok (.aload_n 0, 1) := by decide +kernel
theorem dX9_beginPeriod_41 : decode cX9_beginPeriod 41 = .ok (.iload_n 1, 1) := by decide +kernel
theorem dX9_beginPeriod_42 : decode cX9_beginPeriod 42 = .ok (.iconst 0, 1) := by decide +kernel
theorem dX9_beginPeriod_43 : decode cX9_beginPeriod 43 = .ok (.aload_n 0, 1) := by decide +kernel
theorem dX9_beginPeriod_44 : decode cX9_beginPeriod 44 = .ok (.iload_n 1, 1) := by decide +kernel
theorem dX9_beginPeriod_45 : decode cX9_beginPeriod 45 = .ok (.invokevirtual 96, 3) := by decide +kernel
theorem dX9_beginPeriod_48 : decode cX9_beginPeriod 48 = .ok (.ifCond .eq 7, 3) := by decide +kernel
theorem dX9_beginPeriod_51 : decode cX9_beginPeriod 51 = .ok (.iconst 0, 1) := by decide +kernel
theorem dX9_beginPeriod_52 : decode cX9_beginPeriod 52 = .ok (.goto 9, 3) := by decide +kernel
theorem dX9_beginPeriod_55 : decode cX9_beginPeriod 55 = .ok (.aload_n 0, 1) := by decide +kernel
theorem dX9_beginPeriod_56 : decode cX9_beginPeriod 56 = .ok (.iload_n 1, 1) := by decide +kernel
theorem dX9_beginPeriod_57 : decode cX9_beginPeriod 57 = .ok (.iconst 1, 1) := by decide +kernel
theorem dX9_beginPeriod_58 : decode cX9_beginPeriod 58 = .ok (.invokevirtual 87, 3) := by decide +kernel
theorem dX9_beginPeriod_61 : decode cX9_beginPeriod 61 = .ok (.invokevirtual 84, 3) := by decide +kernel
theorem dX9_beginPeriod_64 : decode cX9_beginPeriod 64 = .ok (.return_, 1) := by decide +kernel
theorem dX9_keepLog_0 : decode cX9_keepLog 0 = .ok (.sipush 310, 3) := by decide +kernel
theorem dX9_keepLog_3 : decode cX9_keepLog 3 = .ok (.istore 5, 2) := by decide +kernel
theorem dX9_keepLog_5 : decode cX9_keepLog 5 = .ok (.iload 5, 2) := by decide +kernel
theorem dX9_keepLog_7 : decode cX9_keepLog 7 = .ok (.bipush 77, 2) := by decide +kernel
theorem dX9_keepLog_9 : decode cX9_keepLog 9 = .ok (.if_icmp .lt 26, 3) := by decide +kernel
theorem dX9_keepLog_12 : decode cX9_keepLog 12 = .ok (.aload_n 0, 1) := by decide +kernel
theorem dX9_keepLog_13 : decode cX9_keepLog 13 = .ok (.getfield 24, 3) := by decide +kernel
theorem dX9_keepLog_16 : decode cX9_keepLog 16 = .ok (.iload 5, 2) := by decide +kernel
theorem dX9_keepLog_18 : decode cX9_keepLog 18 = .ok (.aload_n 0, 1) := by decide +kernel
theorem dX9_keepLog_19 : decode cX9_keepLog 19 = .ok (.getfield 24, 3) := by decide +kernel
theorem dX9_keepLog_22 : decode cX9_keepLog 22 = .ok (.iload 5, 2) := by decide +kernel
theorem dX9_keepLog_24 : decode cX9_keepLog 24 = .ok (.bipush 6, 2) := by decide +kernel
theorem dX9_keepLog_26 : decode cX9_keepLog 26 = .ok (.isub, 1) := by decide +kernel
theorem dX9_keepLog_27 : decode cX9_keepLog 27 = .ok (.iaload, 1) := by decide +kernel
theorem dX9_keepLog_28 : decode cX9_keepLog 28 = .ok (.iastore, 1) := by decide +kernel
theorem dX9_keepLog_29 : decode cX9_keepLog 29 = .ok (.iinc 5 (-1), 3) := by decide +kernel
theorem dX9_keepLog_32 : decode cX9_keepLog 32 = .ok (.goto (-27), 3) := by decide +kernel
theorem dX9_keepLog_35 : decode cX9_keepLog 35 = .ok (.aload_n 0, 1) := by decide +kernel
theorem dX9_keepLog_36 : decode cX9_keepLog 36 = .ok (.getfield 24, 3) := by decide +kernel
theorem dX9_keepLog_39 : decode cX9_keepLog 39 = .ok (.bipush 71, 2) := by decide +kernel
theorem dX9_keepLog_41 : decode cX9_keepLog 41 = .ok (.iload_n 1, 1) := by decide +kernel
theorem dX9_keepLog_42 : decode cX9_keepLog 42 = .ok (.iastore, 1) := by decide +kernel
theorem dX9_keepLog_43 : decode cX9_keepLog 43 = .ok (.aload_n 0, 1) := by decide +kernel
theorem dX9_keepLog_44 : decode cX9_keepLog 44 = .ok (.getfield 24, 3) := by decide +kernel
theorem dX9_keepLog_47 : decode cX9_keepLog 47 = .ok (.bipush 72, 2) := by decide +kernel
theorem dX9_keepLog_49 : decode cX9_keepLog 49 = .ok (.iload_n 2, 1) := by decide +kernel
theorem dX9_keepLog_50 : decode cX9_keepLog 50 = .ok (.iastore, 1) := by decide +kernel
theorem dX9_keepLog_51 : decode cX9_keepLog 51 = .ok (.aload_n 0, 1) := by decide +kernel
theorem dX9_keepLog_52 : decode cX9_keepLog 52 = .ok (.getfield 24, 3) := by decide +kernel
theorem dX9_keepLog_55 : decode cX9_keepLog 55 = .ok (.bipush 73, 2) := by decide +kernel
theorem dX9_keepLog_57 : decode cX9_keepLog 57 = .ok (.iload_n 3, 1) := by decide +kernel
theorem dX9_keepLog_58 : decode cX9_keepLog 58 = .ok (.iastore, 1) := by decide +kernel
theorem dX9_keepLog_59 : decode cX9_keepLog 59 = .ok (.aload_n 0, 1) := by decide +kernel
theorem dX9_keepLog_60 : decode cX9_keepLog 60 = .ok (.getfield 24, 3) := by decide +kernel
theorem dX9_keepLog_63 : decode cX9_keepLog 63 = .ok (.bipush 74, 2) := by decide +kernel
theorem dX9_keepLog_65 : decode cX9_keepLog 65 = .ok (.iload 4, 2) := by decide +kernel
theorem dX9_keepLog_67 : decode cX9_keepLog 67 = .ok (.iastore, 1) := by decide +kernel
theorem dX9_keepLog_68 : decode cX9_keepLog 68 = .ok (.aload_n 0, 1) := by decide +kernel
theorem dX9_keepLog_69 : decode cX9_keepLog 69 = .ok (.getfield 24, 3) := by decide +kernel
theorem dX9_keepLog_72 : decode cX9_keepLog 72 = .ok (.bipush 75, 2) := by decide +kernel
theorem dX9_keepLog_74 : decode cX9_keepLog 74 = .ok (.aload_n 0, 1) := by decide +kernel
theorem dX9_keepLog_75 : decode cX9_keepLog 75 = .ok (.iload_n 1, 1) := by decide +kernel
theorem dX9_keepLog_76 : decode cX9_keepLog 76 = .ok (.iconst 0, 1) := by decide +kernel
theorem dX9_keepLog_77 : decode cX9_keepLog 77 = .ok (.invokevirtual 57, 3) := by decide +kernel
theorem dX9_keepLog_80 : decode cX9_keepLog 80 = .ok (.iastore, 1) := by decide +kernel
theorem dX9_keepLog_81 : decode cX9_keepLog 81 = .ok (.aload_n 0, 1) := by decide +kernel
theorem dX9_keepLog_82 : decode cX9_keepLog 82 = .ok (.getfield 24, 3) := by decide +kernel
theorem dX9_keepLog_85 : decode cX9_keepLog 85 = .ok (.bipush 76, 2) := by decide +kernel
theorem dX9_keepLog_87 : decode cX9_keepLog 87 = .ok (.aload_n 0, 1) := by decide +kernel
theorem dX9_keepLog_88 : decode cX9_keepLog 88 = .ok (.getfield 24, 3) := by decide +kernel
theorem dX9_keepLog_91 : decode cX9_keepLog 91 = .ok (.bipush 7, 2) := by decide +kernel
theorem dX9_keepLog_93 : decode cX9_keepLog 93 = .ok (.iaload, 1) := by decide +kernel
theorem dX9_keepLog_94 : decode cX9_keepLog 94 = .ok (.iastore, 1) := by decide +kernel
theorem dX9_keepLog_95 : decode cX9_keepLog 95 = .ok (.aload_n 0, 1) := by decide +kernel
theorem dX9_keepLog_96 : decode cX9_keepLog 96 = .ok (.getfield 24, 3) := by decide +kernel
theorem dX9_keepLog_99 : decode cX9_keepLog 99 = .ok (.bipush 8, 2) := by decide +kernel
theorem dX9_keepLog_101 : decode cX9_keepLog 101 = .ok (.dup2, 1) := by decide +kernel
theorem dX9_keepLog_102 : decode cX9_keepLog 102 = .ok (.iaload, 1) := by decide +kernel
theorem dX9_keepLog_103 : decode cX9_keepLog 103 = .ok (.iconst 1, 1) := by decide +kernel
theorem dX9_keepLog_104 : decode cX9_keepLog 104 = .ok (.iadd, 1) := by decide +kernel
theorem dX9_keepLog_105 : decode cX9_keepLog 105 = .ok (.iastore, 1) := by decide +kernel
theorem dX9_keepLog_106 : decode cX9_keepLog 106 = .ok (.return_, 1) := by decide +kernel
theorem dX9_moveOnce_0 : decode cX9_moveOnce 0 = .ok (.aload_n 0, 1) := by decide +kernel
theorem dX9_moveOnce_1 : decode cX9_moveOnce 1 = .ok (.invokevirtual 80, 3) := by decide +kernel
theorem dX9_moveOnce_4 : decode cX9_moveOnce 4 = .ok (.istore_n 1, 1) := by decide +kernel
theorem dX9_moveOnce_5 : decode cX9_moveOnce 5 = .ok (.aload_n 0, 1) := by decide +kernel
theorem dX9_moveOnce_6 : decode cX9_moveOnce 6 = .ok (.iload_n 1, 1) := by decide +kernel
theorem dX9_moveOnce_7 : decode cX9_moveOnce 7 = .ok (.invokevirtual 104, 3) := by decide +kernel
theorem dX9_moveOnce_10 : decode cX9_moveOnce 10 = .ok (.istore_n 2, 1) := by decide +kernel
theorem dX9_moveOnce_11 : decode cX9_moveOnce 11 = .ok (.aload_n 0, 1) := by decide +kernel
theorem dX9_moveOnce_12 : decode cX9_moveOnce 12 = .ok (.iload_n 1, 1) := by decide +kernel
theorem dX9_moveOnce_13 : decode cX9_moveOnce 13 = .ok (.iconst 0, 1) := by decide +kernel
theorem dX9_moveOnce_14 : decode cX9_moveOnce 14 = .ok (.iload_n 2, 1) := by decide +kernel
theorem dX9_moveOnce_15 : decode cX9_moveOnce 15 = .ok (.invokevirtual 84, 3) := by decide +kernel
theorem dX9_moveOnce_18 : decode cX9_moveOnce 18 = .ok (.aload_n 0, 1) := by decide +kernel
theorem dX9_moveOnce_19 : decode cX9_moveOnce 19 = .ok (.iload_n 1, 1) := by decide +kernel
theorem dX9_moveOnce_20 : decode cX9_moveOnce 20 = .ok (.iconst 1, 1) := by decide +kernel
theorem dX9_moveOnce_21 : decode cX9_moveOnce 21 = .ok (.iconst 1, 1) := by decide +kernel
theorem dX9_moveOnce_22 : decode cX9_moveOnce 22 = .ok (.invokevirtual 84, 3) := by decide +kernel
theorem dX9_moveOnce_25 : decode cX9_moveOnce 25 = .ok (.aload_n 0, 1) := by decide +kernel
theorem dX9_moveOnce_26 : decode cX9_moveOnce 26 = .ok (.iload_n 1, 1) := by decide +kernel
theorem dX9_moveOnce_27 : decode cX9_moveOnce 27 = .ok (.iconst 3, 1) := by decide +kernel
theorem dX9_moveOnce_28 : decode cX9_moveOnce 28 = .ok (.iconst 1, 1) := by decide +kernel
theorem dX9_moveOnce_29 : decode cX9_moveOnce 29 = .ok (.invokevirtual 84, 3) := by decide +kernel
theorem dX9_moveOnce_32 : decode cX9_moveOnce 32 = .ok (.aload_n 0, 1) := by decide +kernel
theorem dX9_moveOnce_33 : decode cX9_moveOnce 33 = .ok (.iload_n 1, 1) := by decide +kernel
theorem dX9_moveOnce_34 : decode cX9_moveOnce 34 = .ok (.iconst 0, 1) := by decide +kernel
theorem dX9_moveOnce_35 : decode cX9_moveOnce 35 = .ok (.invokevirtual 87, 3) := by decide +kernel
theorem dX9_moveOnce_38 : decode cX9_moveOnce 38 = .ok (.ifCond .le 23, 3) := by decide +kernel
theorem dX9_moveOnce_41 : decode cX9_moveOnce 41 = .ok (.aload_n 0, 1) := by decide +kernel
theorem dX9_moveOnce_42 : decode cX9_moveOnce 42 = .ok (.iload_n 1, 1) := by decide +kernel
theorem dX9_moveOnce_43 : decode cX9_moveOnce 43 = .ok (.iconst 3, 1) := by decide +kernel
theorem dX9_moveOnce_44 : decode cX9_moveOnce 44 = .ok (.invokevirtual 57, 3) := by decide +kernel
theorem dX9_moveOnce_47 : decode cX9_moveOnce 47 = .ok (.aload_n 0, 1) := by decide +kernel
theorem dX9_moveOnce_48 : decode cX9_moveOnce 48 = .ok (.iload_n 1, 1) := by decide +kernel
theorem dX9_moveOnce_49 : decode cX9_moveOnce 49 = .ok (.iconst 0, 1) := by decide +kernel
theorem dX9_moveOnce_50 : decode cX9_moveOnce 50 = .ok (.invokevirtual 87, 3) := by decide +kernel
theorem dX9_moveOnce_53 : decode cX9_moveOnce 53 = .ok (.if_icmp .ne 8, 3) := by decide +kernel
theorem dX9_moveOnce_56 : decode cX9_moveOnce 56 = .ok (.aload_n 0, 1) := by decide +kernel
theorem dX9_moveOnce_57 : decode cX9_moveOnce 57 = .ok (.iload_n 1, 1) := by decide +kernel
theorem dX9_moveOnce_58 : decode cX9_moveOnce 58 = .ok (.invokevirtual 107, 3) := by decide +kernel
theorem dX9_moveOnce_61 : decode cX9_moveOnce 61 = .ok (.aload_n 0, 1) := by decide +kernel
theorem dX9_moveOnce_62 : decode cX9_moveOnce 62 = .ok (.iload_n 1, 1) := by decide +kernel
theorem dX9_moveOnce_63 : decode cX9_moveOnce 63 = .ok (.aload_n 0, 1) := by decide +kernel
theorem dX9_moveOnce_64 : decode cX9_moveOnce 64 = .ok (.iload_n 1, 1) := by decide +kernel
theorem dX9_moveOnce_65 : decode cX9_moveOnce 65 = .ok (.bipush 6, 2) := by decide +kernel
theorem dX9_moveOnce_67 : decode cX9_moveOnce 67 = .ok (.invokevirtual 57, 3) := by decide +kernel
theorem dX9_moveOnce_70 : decode cX9_moveOnce 70 = .ok (.aload_n 0, 1) := by decide +kernel
theorem dX9_moveOnce_71 : decode cX9_moveOnce 71 = .ok (.iload_n 1, 1) := by decide +kernel
theorem dX9_moveOnce_72 : decode cX9_moveOnce 72 = .ok (.bipush 7, 2) := by decide +kernel
theorem dX9_moveOnce_74 : decode cX9_moveOnce 74 = .ok (.invokevirtual 57, 3) := by decide +kernel
theorem dX9_moveOnce_77 : decode cX9_moveOnce 77 = .ok (.iload_n 2, 1) := by decide +kernel
theorem dX9_moveOnce_78 : decode cX9_moveOnce 78 = .ok (.invokevirtual 110, 3) := by decide +kernel
theorem dX9_moveOnce_81 : decode cX9_moveOnce 81 = .ok (.aload_n 0, 1) := by decide +kernel
theorem dX9_moveOnce_82 : decode cX9_moveOnce 82 = .ok (.iload_n 1, 1) := by decide +kernel
theorem dX9_moveOnce_83 : decode cX9_moveOnce 83 = .ok (.bipush 6, 2) := by decide +kernel
theorem dX9_moveOnce_85 : decode cX9_moveOnce 85 = .ok (.iconst 0, 1) := by decide +kernel
theorem dX9_moveOnce_86 : decode cX9_moveOnce 86 = .ok (.invokevirtual 53, 3) := by decide +kernel
theorem dX9_moveOnce_89 : decode cX9_moveOnce 89 = .ok (.aload_n 0, 1) := by decide +kernel
theorem dX9_moveOnce_90 : decode cX9_moveOnce 90 = .ok (.iload_n 1, 1) := by decide +kernel
theorem dX9_moveOnce_91 : decode cX9_moveOnce 91 = .ok (.bipush 7, 2) := by decide +kernel
theorem dX9_moveOnce_93 : decode cX9_moveOnce 93 = .ok (.iconst 0, 1) := by decide +kernel
theorem dX9_moveOnce_94 : decode cX9_moveOnce 94 = .ok (.invokevirtual 53, 3) := by decide +kernel
theorem dX9_moveOnce_97 : decode cX9_moveOnce 97 = .ok (.aload_n 0, 1) := by decide +kernel
theorem dX9_moveOnce_98 : decode cX9_moveOnce 98 = .ok (.getfield 24, 3) := by decide +kernel
theorem dX9_moveOnce_101 : decode cX9_moveOnce 101 = .ok (.iconst 1, 1) := by decide +kernel
theorem dX9_moveOnce_102 : decode cX9_moveOnce 102 = .ok (.iconst 1, 1) := by decide +kernel
theorem dX9_moveOnce_103 : decode cX9_moveOnce 103 = .ok (.iload_n 1, 1) := by decide +kernel
theorem dX9_moveOnce_104 : decode cX9_moveOnce 104 = .ok (.isub, 1) := by decide +kernel
theorem dX9_moveOnce_105 : decode cX9_moveOnce 105 = .ok (.iastore, 1) := by decide +kernel
theorem dX9_moveOnce_106 : decode cX9_moveOnce 106 = .ok (.iload_n 2, 1) := by decide +kernel
theorem dX9_moveOnce_107 : decode cX9_moveOnce 107 = .ok (.ireturn, 1) := by decide +kernel
theorem dX9_delayOf_0 : decode cX9_delayOf 0 = .ok (.iconst 0, 1) := by decide +kernel
theorem dX9_delayOf_1 : decode cX9_delayOf 1 = .ok (.aload_n 0, 1) := by decide +kernel
theorem dX9_delayOf_2 : decode cX9_delayOf 2 = .ok (.iload_n 1, 1) := by decide +kernel
theorem dX9_delayOf_3 : decode cX9_delayOf 3 = .ok (.iconst 3, 1) := by decide +kernel
theorem dX9_delayOf_4 : decode cX9_delayOf 4 = .ok (.invokevirtual 87, 3) := by decide +kernel
theorem dX9_delayOf_7 : decode cX9_delayOf 7 = .ok (.aload_n 0, 1) := by decide +kernel
theorem dX9_delayOf_8 : decode cX9_delayOf 8 = .ok (.iload_n 1, 1) := by decide +kernel
theorem dX9_delayOf_9 : decode cX9_delayOf 9 = .ok (.bipush 6, 2) := by decide +kernel
theorem dX9_delayOf_11 : decode cX9_delayOf 11 = .ok (.invokevirtual 57, 3) := by decide +kernel
theorem dX9_delayOf_14 : decode cX9_delayOf 14 = .ok (.isub, 1) := by decide +kernel
theorem dX9_delayOf_15 : decode cX9_delayOf 15 = .ok (.invokestatic 114, 3) := by decide +kernel
theorem dX9_delayOf_18 : decode cX9_delayOf 18 = .ok (.ireturn, 1) := by decide +kernel
theorem dX9_runsFor_0 : decode cX9_runsFor 0 = .ok (.aload_n 0, 1) := by decide +kernel
theorem dX9_runsFor_1 : decode cX9_runsFor 1 = .ok (.iload_n 1, 1) := by decide +kernel
theorem dX9_runsFor_2 : decode cX9_runsFor 2 = .ok (.iconst 0, 1) := by decide +kernel
theorem dX9_runsFor_3 : decode cX9_runsFor 3 = .ok (.invokevirtual 87, 3) := by decide +kernel
theorem dX9_runsFor_6 : decode cX9_runsFor 6 = .ok (.ifCond .ne 19, 3) := by decide +kernel
theorem dX9_runsFor_9 : decode cX9_runsFor 9 = .ok (.aload_n 0, 1) := by decide +kernel
theorem dX9_runsFor_10 : decode cX9_runsFor 10 = .ok (.iload_n 1, 1) := by decide +kernel
theorem dX9_runsFor_11 : decode cX9_runsFor 11 = .ok (.iconst 4, 1) := by decide +kernel
theorem dX9_runsFor_12 : decode cX9_runsFor 12 = .ok (.invokevirtual 57, 3) := by decide +kernel
theorem dX9_runsFor_15 : decode cX9_runsFor 15 = .ok (.aload_n 0, 1) := by decide +kernel
theorem dX9_runsFor_16 : decode cX9_runsFor 16 = .ok (.getfield 24, 3) := by decide +kernel
theorem dX9_runsFor_19 : decode cX9_runsFor 19 = .ok (.iconst 4, 1) := by decide +kernel
theorem dX9_runsFor_20 : decode cX9_runsFor 20 = .ok (.iaload, 1) := by decide +kernel
theorem dX9_runsFor_21 : decode cX9_runsFor 21 = .ok (.imul, 1) := by decide +kernel
theorem dX9_runsFor_22 : decode cX9_runsFor 22 = .ok (.goto 4, 3) := by decide +kernel
theorem dX9_runsFor_25 : decode cX9_runsFor 25 = .ok (.iconst 0, 1) := by decide +kernel
theorem dX9_runsFor_26 : decode cX9_runsFor 26 = .ok (.istore_n 2, 1) := by decide +kernel
theorem dX9_runsFor_27 : decode cX9_runsFor 27 = .ok (.aload_n 0, 1) := by decide +kernel
theorem dX9_runsFor_28 : decode cX9_runsFor 28 = .ok (.iload_n 1, 1) := by decide +kernel
theorem dX9_runsFor_29 : decode cX9_runsFor 29 = .ok (.invokevirtual 117, 3) := by decide +kernel
theorem dX9_runsFor_32 : decode cX9_runsFor 32 = .ok (.aload_n 0, 1) := by decide +kernel
theorem dX9_runsFor_33 : decode cX9_runsFor 33 = .ok (.iload_n 1, 1) := by decide +kernel
theorem dX9_runsFor_34 : decode cX9_runsFor 34 = .ok (.iconst 0, 1) := by decide +kernel
theorem dX9_runsFor_35 : decode cX9_runsFor 35 = .ok (.invokevirtual 57, 3) := by decide +kernel
theorem dX9_runsFor_38 : decode cX9_runsFor 38 = .ok (.iadd, 1) := by decide +kernel
theorem dX9_runsFor_39 : decode cX9_runsFor 39 = .ok (.iload_n 2, 1) := by decide +kernel
theorem dX9_runsFor_40 : decode cX9_runsFor 40 = .ok (.iadd, 1) := by decide +kernel
theorem dX9_runsFor_41 : decode cX9_runsFor 41 = .ok (.ireturn, 1) := by decide +kernel
theorem dX9_sealable_0 : decode cX9_sealable 0 = .ok (.aload_n 0, 1) := by decide +kernel
theorem dX9_sealable_1 : decode cX9_sealable 1 = .ok (.iconst 1, 1) := by decide +kernel
theorem dX9_sealable_2 : decode cX9_sealable 2 = .ok (.invokevirtual 76, 3) := by decide +kernel
theorem dX9_sealable_5 : decode cX9_sealable 5 = .ok (.ifCond .eq 33, 3) := by decide +kernel
theorem dX9_sealable_8 : decode cX9_sealable 8 = .ok (.aload_n 0, 1) := by decide +kernel
theorem dX9_sealable_9 : decode cX9_sealable 9 = .ok (.getfield 24, 3) := by decide +kernel
theorem dX9_sealable_12 : decode cX9_sealable 12 = .ok (.iconst 5, 1) := by decide +kernel
theorem dX9_sealable_13 : decode cX9_sealable 13 = .ok (.iaload, 1) := by decide +kernel
theorem dX9_sealable_14 : decode cX9_sealable 14 = .ok (.iconst (-1), 1) := by decide +kernel
theorem dX9_sealable_15 : decode cX9_sealable 15 = .ok (.if_icmp .eq 23, 3) := by decide +kernel
theorem dX9_sealable_18 : decode cX9_sealable 18 = .ok (.aload_n 0, 1) := by decide +kernel
theorem dX9_sealable_19 : decode cX9_sealable 19 = .ok (.getfield 24, 3) := by decide +kernel
theorem dX9_sealable_22 : decode cX9_sealable 22 = .ok (.bipush 6, 2) := by decide +kernel
theorem dX9_sealable_24 : decode cX9_sealable 24 = .ok (.iaload, 1) := by decide +kernel
theorem dX9_sealable_25 : decode cX9_sealable 25 = .ok (.aload_n 0, 1) := by decide +kernel
theorem dX9_sealable_26 : decode cX9_sealable 26 = .ok (.getfield 24, 3) := by decide +kernel
theorem dX9_sealable_29 : decode cX9_sealable 29 = .ok (.iconst 5, 1) := by decide +kernel
theorem dX9_sealable_30 : decode cX9_sealable 30 = .ok (.iaload, 1) := by decide +kernel
theorem dX9_sealable_31 : decode cX9_sealable 31 = .ok (.if_icmp .lt 7, 3) := by decide +kernel
theorem dX9_sealable_34 : decode cX9_sealable 34 = .ok (.iconst 1, 1) := by decide +kernel
theorem dX9_sealable_35 : decode cX9_sealable 35 = .ok (.goto 4, 3) := by decide +kernel
theorem dX9_sealable_38 : decode cX9_sealable 38 = .ok (.iconst 0, 1) := by decide +kernel
theorem dX9_sealable_39 : decode cX9_sealable 39 = .ok (.ireturn, 1) := by decide +kernel
theorem dX9_keepAside_0 : decode cX9_keepAside 0 = .ok (.iconst 0, 1) := by decide +kernel
theorem dX9_keepAside_1 : decode cX9_keepAside 1 = .ok (.istore_n 1, 1) := by decide +kernel
theorem dX9_keepAside_2 : decode cX9_keepAside 2 = .ok (.iload_n 1, 1) := by decide +kernel
theorem dX9_keepAside_3 : decode cX9_keepAside 3 = .ok (.sipush 311, 3) := by decide +kernel
theorem dX9_keepAside_6 : decode cX9_keepAside 6 = .ok (.if_icmp .ge 21, 3) := by decide +kernel
theorem dX9_keepAside_9 : decode cX9_keepAside 9 = .ok (.aload_n 0, 1) := by decide +kernel
theorem dX9_keepAside_10 : decode cX9_keepAside 10 = .ok (.getfield 27, 3) := by decide +kernel
theorem dX9_keepAside_13 : decode cX9_keepAside 13 = .ok (.iload_n 1, 1) := by decide +kernel
theorem dX9_keepAside_14 : decode cX9_keepAside 14 = .ok (.aload_n 0, 1) := by decide +kernel
theorem dX9_keepAside_15 : decode cX9_keepAside 15 = .ok (.getfield 17, 3) := by decide +kernel
theorem dX9_keepAside_18 : decode cX9_keepAside 18 = .ok (.iload_n 1, 1) := by decide +kernel
theorem dX9_keepAside_19 : decode cX9_keepAside 19 = .ok (.iaload, 1) := by decide +kernel
theorem dX9_keepAside_20 : decode cX9_keepAside 20 = .ok (.iastore, 1) := by decide +kernel
theorem dX9_keepAside_21 : decode cX9_keepAside 21 = .ok (.iinc 1 1, 3) := by decide +kernel
theorem dX9_keepAside_24 : decode cX9_keepAside 24 = .ok (.goto (-22), 3) := by decide +kernel
theorem dX9_keepAside_27 : decode cX9_keepAside 27 = .ok (.return_, 1) := by decide +kernel
theorem dX9_layBack_0 : decode cX9_layBack 0 = .ok (.iconst 0, 1) := by decide +kernel
theorem dX9_layBack_1 : decode cX9_layBack 1 = .ok (.istore_n 2, 1) := by decide +kernel
theorem dX9_layBack_2 : decode cX9_layBack 2 = .ok (.iload_n 2, 1) := by decide +kernel
theorem dX9_layBack_3 : decode cX9_layBack 3 = .ok (.sipush 311, 3) := by decide +kernel
theorem dX9_layBack_6 : decode cX9_layBack 6 = .ok (.if_icmp .ge 21, 3) := by decide +kernel
theorem dX9_layBack_9 : decode cX9_layBack 9 = .ok (.aload_n 0, 1) := by decide +kernel
theorem dX9_layBack_10 : decode cX9_layBack 10 = .ok (.getfield 17, 3) := by decide +kernel
theorem dX9_layBack_13 : decode cX9_layBack 13 = .ok (.iload_n 2, 1) := by decide +kernel
theorem dX9_layBack_14 : decode cX9_layBack 14 = .ok (.aload_n 0, 1) := by decide +kernel
theorem dX9_layBack_15 : decode cX9_layBack 15 = .ok (.getfield 27, 3) := by decide +kernel
theorem dX9_layBack_18 : decode cX9_layBack 18 = .ok (.iload_n 2, 1) := by decide +kernel
theorem dX9_layBack_19 : decode cX9_layBack 19 = .ok (.iaload, 1) := by decide +kernel
theorem dX9_layBack_20 : decode cX9_layBack 20 = .ok (.iastore, 1) := by decide +kernel
theorem dX9_layBack_21 : decode cX9_layBack 21 = .ok (.iinc 2 1, 3) := by decide +kernel
theorem dX9_layBack_24 : decode cX9_layBack 24 = .ok (.goto (-22), 3) := by decide +kernel
theorem dX9_layBack_27 : decode cX9_layBack 27 = .ok (.iload_n 1, 1) := by decide +kernel
theorem dX9_layBack_28 : decode cX9_layBack 28 = .ok (.ireturn, 1) := by decide +kernel
theorem dX9_walkOn_0 : decode cX9_walkOn 0 = .ok (.iconst 0, 1) := by decide +kernel
theorem dX9_walkOn_1 : decode cX9_walkOn 1 = .ok (.iload_n 1, 1) := by decide +kernel
theorem dX9_walkOn_2 : decode cX9_walkOn 2 = .ok (.aload_n 0, 1) := by decide +kernel
theorem dX9_walkOn_3 : decode cX9_walkOn 3 = .ok (.aload_n 0, 1) := by decide +kernel
theorem dX9_walkOn_4 : decode cX9_walkOn 4 = .ok (.getfield 120, 3) := by decide +kernel
theorem dX9_walkOn_7 : decode cX9_walkOn 7 = .ok (.iconst 3, 1) := by decide +kernel
theorem dX9_walkOn_8 : decode cX9_walkOn 8 = .ok (.invokevirtual 61, 3) := by decide +kernel
theorem dX9_walkOn_11 : decode cX9_walkOn 11 = .ok (.isub, 1) := by decide +kernel
theorem dX9_walkOn_12 : decode cX9_walkOn 12 = .ok (.invokestatic 114, 3) := by decide +kernel
theorem dX9_walkOn_15 : decode cX9_walkOn 15 = .ok (.istore_n 2, 1) := by decide +kernel
theorem dX9_walkOn_16 : decode cX9_walkOn 16 = .ok (.iload_n 2, 1) := by decide +kernel
theorem dX9_walkOn_17 : decode cX9_walkOn 17 = .ok (.istore_n 3, 1) := by decide +kernel
theorem dX9_walkOn_18 : decode cX9_walkOn 18 = .ok (.iload_n 2, 1) := by decide +kernel
theorem dX9_walkOn_19 : decode cX9_walkOn 19 = .ok (.aload_n 0, 1) := by decide +kernel
theorem dX9_walkOn_20 : decode cX9_walkOn 20 = .ok (.getfield 123, 3) := by decide +kernel
theorem dX9_walkOn_23 : decode cX9_walkOn 23 = .ok (.if_icmp .lt 59, 3) := by decide +kernel
theorem dX9_walkOn_26 : decode cX9_walkOn 26 = .ok (.aload_n 0, 1) := by decide +kernel
theorem dX9_walkOn_27 : decode cX9_walkOn 27 = .ok (.aload_n 0, 1) := by decide +kernel
theorem dX9_walkOn_28 : decode cX9_walkOn 28 = .ok (.getfield 120, 3) := by decide +kernel
theorem dX9_walkOn_31 : decode cX9_walkOn 31 = .ok (.iconst 0, 1) := by decide +kernel
theorem dX9_walkOn_32 : decode cX9_walkOn 32 = .ok (.invokevirtual 61, 3) := by decide +kernel
theorem dX9_walkOn_35 : decode cX9_walkOn 35 = .ok (.ifCond .gt 10, 3) := by decide +kernel
theorem dX9_walkOn_38 : decode cX9_walkOn 38 = .ok (.aload_n 0, 1) := by decide +kernel
theorem dX9_walkOn_39 : decode cX9_walkOn 39 = .ok (.getfield 126, 3) := by decide +kernel
theorem dX9_walkOn_42 : decode cX9_walkOn 42 = .ok (.ifCond .ne 5, 3) := by decide +kernel
theorem dX9_walkOn_45 : decode cX9_walkOn 45 = .ok (.iconst 0, 1) := by decide +kernel
theorem dX9_walkOn_46 : decode cX9_walkOn 46 = .ok (.ireturn, 1) := by decide +kernel
theorem dX9_walkOn_47 : decode cX9_walkOn 47 = .ok (.iload_n 2, 1) := by decide +kernel
theorem dX9_walkOn_48 : decode cX9_walkOn 48 = .ok (.aload_n 0, 1) := by decide +kernel
theorem dX9_walkOn_49 : decode cX9_walkOn 49 = .ok (.getfield 123, 3) := by decide +kernel
theorem dX9_walkOn_52 : decode cX9_walkOn 52 = .ok (.isub, 1) := by decide +kernel
theorem dX9_walkOn_53 : decode cX9_walkOn 53 = .ok (.istore_n 2, 1) := by decide +kernel
theorem dX9_walkOn_54 : decode cX9_walkOn 54 = .ok (.aload_n 0, 1) := by decide +kernel
theorem dX9_walkOn_55 : decode cX9_walkOn 55 = .ok (.dup, 1) := by decide +kernel
theorem dX9_walkOn_56 : decode cX9_walkOn 56 = .ok (.getfield 126, 3) := by decide +kernel
theorem dX9_walkOn_59 : decode cX9_walkOn 59 = .ok (.iconst 1, 1) := by decide +kernel
theorem dX9_walkOn_60 : decode cX9_walkOn 60 = .ok (.isub, 1) := by decide +kernel
theorem dX9_walkOn_61 : decode cX9_walkOn 61 = .ok (.putfield 126, 3) := by decide +kernel
theorem dX9_walkOn_64 : decode cX9_walkOn 64 = .ok (.aload_n 0, 1) := by decide +kernel
theorem dX9_walkOn_65 : decode cX9_walkOn 65 = .ok (.iconst 1, 1) := by decide +kernel
theorem dX9_walkOn_66 : decode cX9_walkOn 66 = .ok (.putfield 129, 3) := by decide +kernel
theorem dX9_walkOn_69 : decode cX9_walkOn 69 = .ok (.aload_n 0, 1) := by decide +kernel
theorem dX9_walkOn_70 : decode cX9_walkOn 70 = .ok (.aload_n 0, 1) := by decide +kernel
theorem dX9_walkOn_71 : decode cX9_walkOn 71 = .ok (.getfield 24, 3) := by decide +kernel
theorem dX9_walkOn_74 : decode cX9_walkOn 74 = .ok (.iconst 4, 1) := by decide +kernel
theorem dX9_walkOn_75 : decode cX9_walkOn 75 = .ok (.iaload, 1) := by decide +kernel
theorem dX9_walkOn_76 : decode cX9_walkOn 76 = .ok (.putfield 123, 3) := by decide +kernel
theorem dX9_walkOn_79 : decode cX9_walkOn 79 = .ok (.goto (-61), 3) := by decide +kernel
theorem dX9_walkOn_82 : decode cX9_walkOn 82 = .ok (.aload_n 0, 1) := by decide +kernel
theorem dX9_walkOn_83 : decode cX9_walkOn 83 = .ok (.dup, 1) := by decide +kernel
theorem dX9_walkOn_84 : decode cX9_walkOn 84 = .ok (.getfield 123, 3) := by decide +kernel
theorem dX9_walkOn_87 : decode cX9_walkOn 87 = .ok (.iload_n 2, 1) := by decide +kernel
theorem dX9_walkOn_88 : decode cX9_walkOn 88 = .ok (.isub, 1) := by decide +kernel
theorem dX9_walkOn_89 : decode cX9_walkOn 89 = .ok (.putfield 123, 3) := by decide +kernel
theorem dX9_walkOn_92 : decode cX9_walkOn 92 = .ok (.iload_n 3, 1) := by decide +kernel
theorem dX9_walkOn_93 : decode cX9_walkOn 93 = .ok (.aload_n 0, 1) := by decide +kernel
theorem dX9_walkOn_94 : decode cX9_walkOn 94 = .ok (.aload_n 0, 1) := by decide +kernel
theorem dX9_walkOn_95 : decode cX9_walkOn 95 = .ok (.getfield 120, 3) := by decide +kernel
theorem dX9_walkOn_98 : decode cX9_walkOn 98 = .ok (.iconst 4, 1) := by decide +kernel
theorem dX9_walkOn_99 : decode cX9_walkOn 99 = .ok (.invokevirtual 61, 3) := by decide +kernel
theorem dX9_walkOn_102 : decode cX9_walkOn 102 = .ok (.invokestatic 99, 3) := by decide +kernel
theorem dX9_walkOn_105 : decode cX9_walkOn 105 = .ok (.istore 4, 2) := by decide +kernel
theorem dX9_walkOn_107 : decode cX9_walkOn 107 = .ok (.aload_n 0, 1) := by decide +kernel
theorem dX9_walkOn_108 : decode cX9_walkOn 108 = .ok (.aload_n 0, 1) := by decide +kernel
theorem dX9_walkOn_109 : decode cX9_walkOn 109 = .ok (.getfield 129, 3) := by decide +kernel
theorem dX9_walkOn_112 : decode cX9_walkOn 112 = .ok (.ifCond .eq 12, 3) := by decide +kernel
theorem dX9_walkOn_115 : decode cX9_walkOn 115 = .ok (.aload_n 0, 1) := by decide +kernel
theorem dX9_walkOn_116 : decode cX9_walkOn 116 = .ok (.getfield 24, 3) := by decide +kernel
theorem dX9_walkOn_119 : decode cX9_walkOn 119 = .ok (.iconst 4, 1) := by decide +kernel
theorem dX9_walkOn_120 : decode cX9_walkOn 120 = .ok (.iaload, 1) := by decide +kernel
theorem dX9_walkOn_121 : decode cX9_walkOn 121 = .ok (.goto 20, 3) := by decide +kernel
theorem dX9_walkOn_124 : decode cX9_walkOn 124 = .ok (.aload_n 0, 1) := by decide +kernel
theorem dX9_walkOn_125 : decode cX9_walkOn 125 = .ok (.getfield 123, 3) := by decide +kernel
theorem dX9_walkOn_128 : decode cX9_walkOn 128 = .ok (.aload_n 0, 1) := by decide +kernel
theorem dX9_walkOn_129 : decode cX9_walkOn 129 = .ok (.aload_n 0, 1) := by decide +kernel
theorem dX9_walkOn_130 : decode cX9_walkOn 130 = .ok (.getfield 120, 3) := by decide +kernel
theorem dX9_walkOn_133 : decode cX9_walkOn 133 = .ok (.iconst 2, 1) := by decide +kernel
theorem dX9_walkOn_134 : decode cX9_walkOn 134 = .ok (.invokevirtual 61, 3) := by decide +kernel
theorem dX9_walkOn_137 : decode cX9_walkOn 137 = .ok (.iadd, 1) := by decide +kernel
theorem dX9_walkOn_138 : decode cX9_walkOn 138 = .ok (.iload 4, 2) := by decide +kernel
theorem dX9_walkOn_140 : decode cX9_walkOn 140 = .ok (.iadd, 1) := by decide +kernel
theorem dX9_walkOn_141 : decode cX9_walkOn 141 = .ok (.putfield 123, 3) := by decide +kernel
theorem dX9_walkOn_144 : decode cX9_walkOn 144 = .ok (.aload_n 0, 1) := by decide +kernel
theorem dX9_walkOn_145 : decode cX9_walkOn 145 = .ok (.dup, 1) := by decide +kernel
theorem dX9_walkOn_146 : decode cX9_walkOn 146 = .ok (.getfield 133, 3) := by decide +kernel
theorem dX9_walkOn_149 : decode cX9_walkOn 149 = .ok (.iconst 1, 1) := by decide +kernel
theorem dX9_walkOn_150 : decode cX9_walkOn 150 = .ok (.iadd, 1) := by decide +kernel
theorem dX9_walkOn_151 : decode cX9_walkOn 151 = .ok (.putfield 133, 3) := by decide +kernel
theorem dX9_walkOn_154 : decode cX9_walkOn 154 = .ok (.aload_n 0, 1) := by decide +kernel
theorem dX9_walkOn_155 : decode cX9_walkOn 155 = .ok (.getfield 133, 3) := by decide +kernel
theorem dX9_walkOn_158 : decode cX9_walkOn 158 = .ok (.aload_n 0, 1) := by decide +kernel
theorem dX9_walkOn_159 : decode cX9_walkOn 159 = .ok (.aload_n 0, 1) := by decide +kernel
theorem dX9_walkOn_160 : decode cX9_walkOn 160 = .ok (.getfield 120, 3) := by decide +kernel
theorem dX9_walkOn_163 : decode cX9_walkOn 163 = .ok (.iconst 0, 1) := by decide +kernel
theorem dX9_walkOn_164 : decode cX9_walkOn 164 = .ok (.invokevirtual 61, 3) := by decide +kernel
theorem dX9_walkOn_167 : decode cX9_walkOn 167 = .ok (.if_icmp .ne 47, 3) := by decide +kernel
theorem dX9_walkOn_170 : decode cX9_walkOn 170 = .ok (.aload_n 0, 1) := by decide +kernel
theorem dX9_walkOn_171 : decode cX9_walkOn 171 = .ok (.aload_n 0, 1) := by decide +kernel
theorem dX9_walkOn_172 : decode cX9_walkOn 172 = .ok (.getfield 120, 3) := by decide +kernel
theorem dX9_walkOn_175 : decode cX9_walkOn 175 = .ok (.iconst 1, 1) := by decide +kernel
theorem dX9_walkOn_176 : decode cX9_walkOn 176 = .ok (.iadd, 1) := by decide +kernel
theorem dX9_walkOn_177 : decode cX9_walkOn 177 = .ok (.aload_n 0, 1) := by decide +kernel
theorem dX9_walkOn_178 : decode cX9_walkOn 178 = .ok (.getfield 24, 3) := by decide +kernel
theorem dX9_walkOn_181 : decode cX9_walkOn 181 = .ok (.iconst 2, 1) := by decide +kernel
theorem dX9_walkOn_182 : decode cX9_walkOn 182 = .ok (.iaload, 1) := by decide +kernel
theorem dX9_walkOn_183 : decode cX9_walkOn 183 = .ok (.iconst 1, 1) := by decide +kernel
theorem dX9_walkOn_184 : decode cX9_walkOn 184 = .ok (.isub, 1) := by decide +kernel
theorem dX9_walkOn_185 : decode cX9_walkOn 185 = .ok (.invokestatic 99, 3) := by decide +kernel
theorem dX9_walkOn_188 : decode cX9_walkOn 188 = .ok (.putfield 120, 3) := by decide +kernel
theorem dX9_walkOn_191 : decode cX9_walkOn 191 = .ok (.aload_n 0, 1) := by decide +kernel
theorem dX9_walkOn_192 : decode cX9_walkOn 192 = .ok (.iconst 0, 1) := by decide +kernel
theorem dX9_walkOn_193 : decode cX9_walkOn 193 = .ok (.putfield 133, 3) := by decide +kernel
theorem dX9_walkOn_196 : decode cX9_walkOn 196 = .ok (.aload_n 0, 1) := by decide +kernel
theorem dX9_walkOn_197 : decode cX9_walkOn 197 = .ok (.dup, 1) := by decide +kernel
theorem dX9_walkOn_198 : decode cX9_walkOn 198 = .ok (.getfield 123, 3) := by decide +kernel
theorem dX9_walkOn_201 : decode cX9_walkOn 201 = .ok (.aload_n 0, 1) := by decide +kernel
theorem dX9_walkOn_202 : decode cX9_walkOn 202 = .ok (.aload_n 0, 1) := by decide +kernel
theorem dX9_walkOn_203 : decode cX9_walkOn 203 = .ok (.getfield 120, 3) := by decide +kernel
theorem dX9_walkOn_206 : decode cX9_walkOn 206 = .ok (.iconst 1, 1) := by decide +kernel
theorem dX9_walkOn_207 : decode cX9_walkOn 207 = .ok (.invokevirtual 61, 3) := by decide +kernel
theorem dX9_walkOn_210 : decode cX9_walkOn 210 = .ok (.iadd, 1) := by decide +kernel
theorem dX9_walkOn_211 : decode cX9_walkOn 211 = .ok (.putfield 123, 3) := by decide +kernel
theorem dX9_walkOn_214 : decode cX9_walkOn 214 = .ok (.iconst 1, 1) := by decide +kernel
theorem dX9_walkOn_215 : decode cX9_walkOn 215 = .ok (.ireturn, 1) := by decide +kernel
theorem dX9_movesAt_0 : decode cX9_movesAt 0 = .ok (.aload_n 0, 1) := by decide +kernel
theorem dX9_movesAt_1 : decode cX9_movesAt 1 = .ok (.aload_n 0, 1) := by decide +kernel
theorem dX9_movesAt_2 : decode cX9_movesAt 2 = .ok (.iload_n 1, 1) := by decide +kernel
theorem dX9_movesAt_3 : decode cX9_movesAt 3 = .ok (.iconst 0, 1) := by decide +kernel
theorem dX9_movesAt_4 : decode cX9_movesAt 4 = .ok (.invokevirtual 57, 3) := by decide +kernel
theorem dX9_movesAt_7 : decode cX9_movesAt 7 = .ok (.iload 4, 2) := by decide +kernel
theorem dX9_movesAt_9 : decode cX9_movesAt 9 = .ok (.iadd, 1) := by decide +kernel
theorem dX9_movesAt_10 : decode cX9_movesAt 10 = .ok (.putfield 123, 3) := by decide +kernel
theorem dX9_movesAt_13 : decode cX9_movesAt 13 = .ok (.aload_n 0, 1) := by decide +kernel
theorem dX9_movesAt_14 : decode cX9_movesAt 14 = .ok (.aload_n 0, 1) := by decide +kernel
theorem dX9_movesAt_15 : decode cX9_movesAt 15 = .ok (.iload_n 1, 1) := by decide +kernel
theorem dX9_movesAt_16 : decode cX9_movesAt 16 = .ok (.iconst 2, 1) := by decide +kernel
theorem dX9_movesAt_17 : decode cX9_movesAt 17 = .ok (.invokevirtual 57, 3) := by decide +kernel
theorem dX9_movesAt_20 : decode cX9_movesAt 20 = .ok (.putfield 120, 3) := by decide +kernel
theorem dX9_movesAt_23 : decode cX9_movesAt 23 = .ok (.aload_n 0, 1) := by decide +kernel
theorem dX9_movesAt_24 : decode cX9_movesAt 24 = .ok (.aload_n 0, 1) := by decide +kernel
theorem dX9_movesAt_25 : decode cX9_movesAt 25 = .ok (.iload_n 1, 1) := by decide +kernel
theorem dX9_movesAt_26 : decode cX9_movesAt 26 = .ok (.iconst 3, 1) := by decide +kernel
theorem dX9_movesAt_27 : decode cX9_movesAt 27 = .ok (.invokevirtual 57, 3) := by decide +kernel
theorem dX9_movesAt_30 : decode cX9_movesAt 30 = .ok (.putfield 133, 3) := by decide +kernel
theorem dX9_movesAt_33 : decode cX9_movesAt 33 = .ok (.aload_n 0, 1) := by decide +kernel
theorem dX9_movesAt_34 : decode cX9_movesAt 34 = .ok (.aload_n 0, 1) := by decide +kernel
theorem dX9_movesAt_35 : decode cX9_movesAt 35 = .ok (.iload_n 1, 1) := by decide +kernel
theorem dX9_movesAt_36 : decode cX9_movesAt 36 = .ok (.iconst 4, 1) := by decide +kernel
theorem dX9_movesAt_37 : decode cX9_movesAt 37 = .ok (.invokevirtual 57, 3) := by decide +kernel
theorem dX9_movesAt_40 : decode cX9_movesAt 40 = .ok (.putfield 126, 3) := by decide +kernel
theorem dX9_movesAt_43 : decode cX9_movesAt 43 = .ok (.aload_n 0, 1) := by decide +kernel
theorem dX9_movesAt_44 : decode cX9_movesAt 44 = .ok (.aload_n 0, 1) := by decide +kernel
theorem dX9_movesAt_45 : decode cX9_movesAt 45 = .ok (.iload_n 1, 1) := by decide +kernel
theorem dX9_movesAt_46 : decode cX9_movesAt 46 = .ok (.iconst 5, 1) := by decide +kernel
theorem dX9_movesAt_47 : decode cX9_movesAt 47 = .ok (.invokevirtual 57, 3) := by decide +kernel
theorem dX9_movesAt_50 : decode cX9_movesAt 50 = .ok (.iconst 1, 1) := by decide +kernel
theorem dX9_movesAt_51 : decode cX9_movesAt 51 = .ok (.if_icmp .ne 7, 3) := by decide +kernel
theorem dX9_movesAt_54 : decode cX9_movesAt 54 = .ok (.iconst 1, 1) := by decide +kernel
theorem dX9_movesAt_55 : decode cX9_movesAt 55 = .ok (.goto 4, 3) := by decide +kernel
theorem dX9_movesAt_58 : decode cX9_movesAt 58 = .ok (.iconst 0, 1) := by decide +kernel
theorem dX9_movesAt_59 : decode cX9_movesAt 59 = .ok (.putfield 129, 3) := by decide +kernel
theorem dX9_movesAt_62 : decode cX9_movesAt 62 = .ok (.iconst 0, 1) := by decide +kernel
theorem dX9_movesAt_63 : decode cX9_movesAt 63 = .ok (.istore 5, 2) := by decide +kernel
theorem dX9_movesAt_65 : decode cX9_movesAt 65 = .ok (.aload_n 0, 1) := by decide +kernel
theorem dX9_movesAt_66 : decode cX9_movesAt 66 = .ok (.iload_n 1, 1) := by decide +kernel
theorem dX9_movesAt_67 : decode cX9_movesAt 67 = .ok (.invokevirtual 96, 3) := by decide +kernel
theorem dX9_movesAt_70 : decode cX9_movesAt 70 = .ok (.ifCond .ne 23, 3) := by decide +kernel
theorem dX9_movesAt_73 : decode cX9_movesAt 73 = .ok (.iload 5, 2) := by decide +kernel
theorem dX9_movesAt_75 : decode cX9_movesAt 75 = .ok (.iload_n 3, 1) := by decide +kernel
theorem dX9_movesAt_76 : decode cX9_movesAt 76 = .ok (.if_icmp .ge 17, 3) := by decide +kernel
theorem dX9_movesAt_79 : decode cX9_movesAt 79 = .ok (.aload_n 0, 1) := by decide +kernel
theorem dX9_movesAt_80 : decode cX9_movesAt 80 = .ok (.iload_n 2, 1) := by decide +kernel
theorem dX9_movesAt_81 : decode cX9_movesAt 81 = .ok (.invokevirtual 136, 3) := by decide +kernel
theorem dX9_movesAt_84 : decode cX9_movesAt 84 = .ok (.ifCond .eq 9, 3) := by decide +kernel
theorem dX9_movesAt_87 : decode cX9_movesAt 87 = .ok (.iinc 5 1, 3) := by decide +kernel
theorem dX9_movesAt_90 : decode cX9_movesAt 90 = .ok (.goto (-25), 3) := by decide +kernel
theorem dX9_movesAt_93 : decode cX9_movesAt 93 = .ok (.iload 5, 2) := by decide +kernel
theorem dX9_movesAt_95 : decode cX9_movesAt 95 = .ok (.ireturn, 1) := by decide +kernel
theorem dX9_greatestPace_0 : decode cX9_greatestPace 0 = .ok (.sipush 9999, 3) := by decide +kernel
theorem dX9_greatestPace_3 : decode cX9_greatestPace 3 = .ok (.istore_n 3, 1) := by decide +kernel
theorem dX9_greatestPace_4 : decode cX9_greatestPace 4 = .ok (.iload_n 3, 1) := by decide +kernel
theorem dX9_greatestPace_5 : decode cX9_greatestPace 5 = .ok (.ifCond .le 23, 3) := by decide +kernel
theorem dX9_greatestPace_8 : decode cX9_greatestPace 8 = .ok (.aload_n 0, 1) := by decide +kernel
theorem dX9_greatestPace_9 : decode cX9_greatestPace 9 = .ok (.iload_n 1, 1) := by decide +kernel
theorem dX9_greatestPace_10 : decode cX9_greatestPace 10 = .ok (.iload_n 3, 1) := by decide +kernel
theorem dX9_greatestPace_11 : decode cX9_greatestPace 11 = .ok (.iload_n 2, 1) := by decide +kernel
theorem dX9_greatestPace_12 : decode cX9_greatestPace 12 = .ok (.iconst 0, 1) := by decide +kernel
theorem dX9_greatestPace_13 : decode cX9_greatestPace 13 = .ok (.invokevirtual 139, 3) := by decide +kernel
theorem dX9_greatestPace_16 : decode cX9_greatestPace 16 = .ok (.iload_n 2, 1) := by decide +kernel
theorem dX9_greatestPace_17 : decode cX9_greatestPace 17 = .ok (.if_icmp .ne 5, 3) := by decide +kernel
theorem dX9_greatestPace_20 : decode cX9_greatestPace 20 = .ok (.iload_n 3, 1) := by decide +kernel
theorem dX9_greatestPace_21 : decode cX9_greatestPace 21 = .ok (.ireturn, 1) := by decide +kernel
theorem dX9_greatestPace_22 : decode cX9_greatestPace 22 = .ok (.iinc 3 (-1), 3) := by decide +kernel
theorem dX9_greatestPace_25 : decode cX9_greatestPace 25 = .ok (.goto (-21), 3) := by decide +kernel
theorem dX9_greatestPace_28 : decode cX9_greatestPace 28 = .ok (.iconst (-1), 1) := by decide +kernel
theorem dX9_greatestPace_29 : decode cX9_greatestPace 29 = .ok (.ireturn, 1) := by decide +kernel
theorem dX9_paceOf_0 : decode cX9_paceOf 0 = .ok (.iload_n 0, 1) := by decide +kernel
theorem dX9_paceOf_1 : decode cX9_paceOf 1 = .ok (.ifCond .ne 7, 3) := by decide +kernel
theorem dX9_paceOf_4 : decode cX9_paceOf 4 = .ok (.iload_n 1, 1) := by decide +kernel
theorem dX9_paceOf_5 : decode cX9_paceOf 5 = .ok (.goto 4, 3) := by decide +kernel
theorem dX9_paceOf_8 : decode cX9_paceOf 8 = .ok (.iload_n 2, 1) := by decide +kernel
theorem dX9_paceOf_9 : decode cX9_paceOf 9 = .ok (.ireturn, 1) := by decide +kernel
theorem dX9_play_0 : decode cX9_play 0 = .ok (.aload_n 0, 1) := by decide +kernel
theorem dX9_play_1 : decode cX9_play 1 = .ok (.getfield 24, 3) := by decide +kernel
theorem dX9_play_4 : decode cX9_play 4 = .ok (.bipush 10, 2) := by decide +kernel
theorem dX9_play_6 : decode cX9_play 6 = .ok (.iconst 0, 1) := by decide +kernel
theorem dX9_play_7 : decode cX9_play 7 = .ok (.iastore, 1) := by decide +kernel
theorem dX9_play_8 : decode cX9_play 8 = .ok (.aload_n 0, 1) := by decide +kernel
theorem dX9_play_9 : decode cX9_play 9 = .ok (.iconst 0, 1) := by decide +kernel
theorem dX9_play_10 : decode cX9_play 10 = .ok (.putfield 143, 3) := by decide +kernel
theorem dX9_play_13 : decode cX9_play 13 = .ok (.iload 4, 2) := by decide +kernel
theorem dX9_play_15 : decode cX9_play 15 = .ok (.istore 5, 2) := by decide +kernel
theorem dX9_play_17 : decode cX9_play 17 = .ok (.aload_n 0, 1) := by decide +kernel
theorem dX9_play_18 : decode cX9_play 18 = .ok (.iconst 1, 1) := by decide +kernel
theorem dX9_play_19 : decode cX9_play 19 = .ok (.invokevirtual 76, 3) := by decide +kernel
theorem dX9_play_22 : decode cX9_play 22 = .ok (.ifCond .eq 92, 3) := by decide +kernel
theorem dX9_play_25 : decode cX9_play 25 = .ok (.aload_n 0, 1) := by decide +kernel
theorem dX9_play_26 : decode cX9_play 26 = .ok (.getfield 143, 3) := by decide +kernel
theorem dX9_play_29 : decode cX9_play 29 = .ok (.iload_n 3, 1) := by decide +kernel
theorem dX9_play_30 : decode cX9_play 30 = .ok (.if_icmp .ge 84, 3) := by decide +kernel
theorem dX9_play_33 : decode cX9_play 33 = .ok (.aload_n 0, 1) := by decide +kernel
theorem dX9_play_34 : decode cX9_play 34 = .ok (.invokevirtual 80, 3) := by decide +kernel
theorem dX9_play_37 : decode cX9_play 37 = .ok (.istore 6, 2) := by decide +kernel
theorem dX9_play_39 : decode cX9_play 39 = .ok (.iconst 0, 1) := by decide +kernel
theorem dX9_play_40 : decode cX9_play 40 = .ok (.iload 6, 2) := by decide +kernel
theorem dX9_play_42 : decode cX9_play 42 = .ok (.iload_n 1, 1) := by decide +kernel
theorem dX9_play_43 : decode cX9_play 43 = .ok (.iload_n 2, 1) := by decide +kernel
theorem dX9_play_44 : decode cX9_play 44 = .ok (.invokestatic 146, 3) := by decide +kernel
theorem dX9_play_47 : decode cX9_play 47 = .ok (.aload_n 0, 1) := by decide +kernel
theorem dX9_play_48 : decode cX9_play 48 = .ok (.iload 6, 2) := by decide +kernel
theorem dX9_play_50 : decode cX9_play 50 = .ok (.bipush 6, 2) := by decide +kernel
theorem dX9_play_52 : decode cX9_play 52 = .ok (.invokevirtual 57, 3) := by decide +kernel
theorem dX9_play_55 : decode cX9_play 55 = .ok (.isub, 1) := by decide +kernel
theorem dX9_play_56 : decode cX9_play 56 = .ok (.invokestatic 114, 3) := by decide +kernel
theorem dX9_play_59 : decode cX9_play 59 = .ok (.istore 7, 2) := by decide +kernel
theorem dX9_play_61 : decode cX9_play 61 = .ok (.aload_n 0, 1) := by decide +kernel
theorem dX9_play_62 : decode cX9_play 62 = .ok (.iload 7, 2) := by decide +kernel
theorem dX9_play_64 : decode cX9_play 64 = .ok (.iload 5, 2) := by decide +kernel
theorem dX9_play_66 : decode cX9_play 66 = .ok (.invokestatic 99, 3) := by decide +kernel
theorem dX9_play_69 : decode cX9_play 69 = .ok (.invokevirtual 150, 3) := by decide +kernel
theorem dX9_play_72 : decode cX9_play 72 = .ok (.iload 7, 2) := by decide +kernel
theorem dX9_play_74 : decode cX9_play 74 = .ok (.iload 5, 2) := by decide +kernel
theorem dX9_play_76 : decode cX9_play 76 = .ok (.if_icmp .le 4, 3) := by decide +kernel
theorem dX9_play_79 : decode cX9_play 79 = .ok (.return_, 1) := by decide +kernel
theorem dX9_play_80 : decode cX9_play 80 = .ok (.iload 5, 2) := by decide +kernel
theorem dX9_play_82 : decode cX9_play 82 = .ok (.iload 7, 2) := by decide +kernel
theorem dX9_play_84 : decode cX9_play 84 = .ok (.isub, 1) := by decide +kernel
theorem dX9_play_85 : decode cX9_play 85 = .ok (.istore 5, 2) := by decide +kernel
theorem dX9_play_87 : decode cX9_play 87 = .ok (.aload_n 0, 1) := by decide +kernel
theorem dX9_play_88 : decode cX9_play 88 = .ok (.iconst 1, 1) := by decide +kernel
theorem dX9_play_89 : decode cX9_play 89 = .ok (.invokevirtual 76, 3) := by decide +kernel
theorem dX9_play_92 : decode cX9_play 92 = .ok (.ifCond .eq 19, 3) := by decide +kernel
theorem dX9_play_95 : decode cX9_play 95 = .ok (.aload_n 0, 1) := by decide +kernel
theorem dX9_play_96 : decode cX9_play 96 = .ok (.invokevirtual 153, 3) := by decide +kernel
theorem dX9_play_99 : decode cX9_play 99 = .ok (.istore 8, 2) := by decide +kernel
theorem dX9_play_101 : decode cX9_play 101 = .ok (.aload_n 0, 1) := by decide +kernel
theorem dX9_play_102 : decode cX9_play 102 = .ok (.dup, 1) := by decide +kernel
theorem dX9_play_103 : decode cX9_play 103 = .ok (.getfield 143, 3) := by decide +kernel
theorem dX9_play_106 : decode cX9_play 106 = .ok (.iconst 1, 1) := by decide +kernel
theorem dX9_play_107 : decode cX9_play 107 = .ok (.iadd, 1) := by decide +kernel
theorem dX9_play_108 : decode cX9_play 108 = .ok (.putfield 143, 3) := by decide +kernel
theorem dX9_play_111 : decode cX9_play 111 = .ok (.goto (-94), 3) := by decide +kernel
theorem dX9_play_114 : decode cX9_play 114 = .ok (.return_, 1) := by decide +kernel
theorem dX9_appendFour_0 : decode cX9_appendFour 0 = .ok (.bipush 24, 2) := by decide +kernel
theorem dX9_appendFour_2 : decode cX9_appendFour 2 = .ok (.istore_n 2, 1) := by decide +kernel
theorem dX9_appendFour_3 : decode cX9_appendFour 3 = .ok (.iload_n 2, 1) := by decide +kernel
theorem dX9_appendFour_4 : decode cX9_appendFour 4 = .ok (.ifCond .lt 32, 3) := by decide +kernel
theorem dX9_appendFour_7 : decode cX9_appendFour 7 = .ok (.aload_n 0, 1) := by decide +kernel
theorem dX9_appendFour_8 : decode cX9_appendFour 8 = .ok (.getfield 30, 3) := by decide +kernel
theorem dX9_appendFour_11 : decode cX9_appendFour 11 = .ok (.aload_n 0, 1) := by decide +kernel
theorem dX9_appendFour_12 : decode cX9_appendFour 12 = .ok (.getfield 156, 3) := by decide +kernel
theorem dX9_appendFour_15 : decode cX9_appendFour 15 = .ok (.iload_n 1, 1) := by decide +kernel
theorem dX9_appendFour_16 : decode cX9_appendFour 16 = .ok (.iload_n 2, 1) := by decide +kernel
theorem dX9_appendFour_17 : decode cX9_appendFour 17 = .ok (.ishr, 1) := by decide +kernel
theorem dX9_appendFour_18 : decode cX9_appendFour 18 = .ok (.i2b, 1) := by decide +kernel
theorem dX9_appendFour_19 : decode cX9_appendFour 19 = .ok (.bastore, 1) := by decide +kernel
theorem dX9_appendFour_20 : decode cX9_appendFour 20 = .ok (.aload_n 0, 1) := by decide +kernel
theorem dX9_appendFour_21 : decode cX9_appendFour 21 = .ok (.dup, 1) := by decide +kernel
theorem dX9_appendFour_22 : decode cX9_appendFour 22 = .ok (.getfield 156, 3) := by decide +kernel
theorem dX9_appendFour_25 : decode cX9_appendFour 25 = .ok (.iconst 1, 1) := by decide +kernel
theorem dX9_appendFour_26 : decode cX9_appendFour 26 = .ok (.iadd, 1) := by decide +kernel
theorem dX9_appendFour_27 : decode cX9_appendFour 27 = .ok (.putfield 156, 3) := by decide +kernel
theorem dX9_appendFour_30 : decode cX9_appendFour 30 = .ok (.iinc 2 (-8), 3) := by decide +kernel
theorem dX9_appendFour_33 : decode cX9_appendFour 33 = .ok (.goto (-30), 3) := by decide +kernel
theorem dX9_appendFour_36 : decode cX9_appendFour 36 = .ok (.return_, 1) := by decide +kernel
theorem dX9_append_0 : decode cX9_append 0 = .ok (.aload_n 0, 1) := by decide +kernel
theorem dX9_append_1 : decode cX9_append 1 = .ok (.aload_n 0, 1) := by decide +kernel
theorem dX9_append_2 : decode cX9_append 2 = .ok (.getfield 156, 3) := by decide +kernel
theorem dX9_append_5 : decode cX9_append 5 = .ok (.bipush 20, 2) := by decide +kernel
theorem dX9_append_7 : decode cX9_append 7 = .ok (.iadd, 1) := by decide +kernel
theorem dX9_append_8 : decode cX9_append 8 = .ok (.sipush 400, 3) := by decide +kernel
theorem dX9_append_11 : decode cX9_append 11 = .ok (.if_icmp .gt 7, 3) := by decide +kernel
theorem dX9_append_14 : decode cX9_append 14 = .ok (.iconst 1, 1) := by decide +kernel
theorem dX9_append_15 : decode cX9_append 15 = .ok (.goto 4, 3) := by decide +kernel
theorem dX9_append_18 : decode cX9_append 18 = .ok (.iconst 0, 1) := by decide +kernel
theorem dX9_append_19 : decode cX9_append 19 = .ok (.invokevirtual 159, 3) := by decide +kernel
theorem dX9_append_22 : decode cX9_append 22 = .ok (.ifCond .ne 5, 3) := by decide +kernel
theorem dX9_append_25 : decode cX9_append 25 = .ok (.iconst 0, 1) := by decide +kernel
theorem dX9_append_26 : decode cX9_append 26 = .ok (.ireturn, 1) := by decide +kernel
theorem dX9_append_27 : decode cX9_append 27 = .ok (.aload_n 0, 1) := by decide +kernel
theorem dX9_append_28 : decode cX9_append 28 = .ok (.iload_n 1, 1) := by decide +kernel
theorem dX9_append_29 : decode cX9_append 29 = .ok (.invokevirtual 163, 3) := by decide +kernel
theorem dX9_append_32 : decode cX9_append 32 = .ok (.aload_n 0, 1) := by decide +kernel
theorem dX9_append_33 : decode cX9_append 33 = .ok (.iload_n 2, 1) := by decide +kernel
theorem dX9_append_34 : decode cX9_append 34 = .ok (.invokevirtual 163, 3) := by decide +kernel
theorem dX9_append_37 : decode cX9_append 37 = .ok (.aload_n 0, 1) := by decide +kernel
theorem dX9_append_38 : decode cX9_append 38 = .ok (.iload_n 3, 1) := by decide +kernel
theorem dX9_append_39 : decode cX9_append 39 = .ok (.invokevirtual 163, 3) := by decide +kernel
theorem dX9_append_42 : decode cX9_append 42 = .ok (.aload_n 0, 1) := by decide +kernel
theorem dX9_append_43 : decode cX9_append 43 = .ok (.iload 4, 2) := by decide +kernel
theorem dX9_append_45 : decode cX9_append 45 = .ok (.invokevirtual 163, 3) := by decide +kernel
theorem dX9_append_48 : decode cX9_append 48 = .ok (.aload_n 0, 1) := by decide +kernel
theorem dX9_append_49 : decode cX9_append 49 = .ok (.iload 5, 2) := by decide +kernel
theorem dX9_append_51 : decode cX9_append 51 = .ok (.invokevirtual 163, 3) := by decide +kernel
theorem dX9_append_54 : decode cX9_append 54 = .ok (.aload_n 0, 1) := by decide +kernel
theorem dX9_append_55 : decode cX9_append 55 = .ok (.getfield 156, 3) := by decide +kernel
theorem dX9_append_58 : decode cX9_append 58 = .ok (.ireturn, 1) := by decide +kernel
theorem dX9_truncate_0 : decode cX9_truncate 0 = .ok (.aload_n 0, 1) := by decide +kernel
theorem dX9_truncate_1 : decode cX9_truncate 1 = .ok (.iload_n 1, 1) := by decide +kernel
theorem dX9_truncate_2 : decode cX9_truncate 2 = .ok (.i2l, 1) := by decide +kernel
theorem dX9_truncate_3 : decode cX9_truncate 3 = .ok (.lconst 0, 1) := by decide +kernel
theorem dX9_truncate_4 : decode cX9_truncate 4 = .ok (.aload_n 0, 1) := by decide +kernel
theorem dX9_truncate_5 : decode cX9_truncate 5 = .ok (.getfield 156, 3) := by decide +kernel
theorem dX9_truncate_8 : decode cX9_truncate 8 = .ok (.i2l, 1) := by decide +kernel
theorem dX9_truncate_9 : decode cX9_truncate 9 = .ok (.invokestatic 64, 3) := by decide +kernel
theorem dX9_truncate_12 : decode cX9_truncate 12 = .ok (.invokevirtual 159, 3) := by decide +kernel
theorem dX9_truncate_15 : decode cX9_truncate 15 = .ok (.ifCond .eq 8, 3) := by decide +kernel
theorem dX9_truncate_18 : decode cX9_truncate 18 = .ok (.aload_n 0, 1) := by decide +kernel
theorem dX9_truncate_19 : decode cX9_truncate 19 = .ok (.iload_n 1, 1) := by decide +kernel
theorem dX9_truncate_20 : decode cX9_truncate 20 = .ok (.putfield 156, 3) := by decide +kernel
theorem dX9_truncate_23 : decode cX9_truncate 23 = .ok (.return_, 1) := by decide +kernel
theorem dX9_good_0 : decode cX9_good 0 = .ok (.aload_n 0, 1) := by decide +kernel
theorem dX9_good_1 : decode cX9_good 1 = .ok (.getfield 166, 3) := by decide +kernel
theorem dX9_good_4 : decode cX9_good 4 = .ok (.ifCond .ne 7, 3) := by decide +kernel
theorem dX9_good_7 : decode cX9_good 7 = .ok (.iconst 1, 1) := by decide +kernel
theorem dX9_good_8 : decode cX9_good 8 = .ok (.goto 4, 3) := by decide +kernel
theorem dX9_good_11 : decode cX9_good 11 = .ok (.iconst 0, 1) := by decide +kernel
theorem dX9_good_12 : decode cX9_good 12 = .ok (.ireturn, 1) := by decide +kernel
theorem dX9_errs_0 : decode cX9_errs 0 = .ok (.aload_n 0, 1) := by decide +kernel
theorem dX9_errs_1 : decode cX9_errs 1 = .ok (.invokevirtual 169, 3) := by decide +kernel
theorem dX9_errs_4 : decode cX9_errs 4 = .ok (.ifCond .ne 4, 3) := by decide +kernel
theorem dX9_errs_7 : decode cX9_errs 7 = .ok (.return_, 1) := by decide +kernel
theorem dX9_errs_8 : decode cX9_errs 8 = .ok (.aload_n 0, 1) := by decide +kernel
theorem dX9_errs_9 : decode cX9_errs 9 = .ok (.iload_n 1, 1) := by decide +kernel
theorem dX9_errs_10 : decode cX9_errs 10 = .ok (.putfield 166, 3) := by decide +kernel
theorem dX9_errs_13 : decode cX9_errs 13 = .ok (.aload_n 0, 1) := by decide +kernel
theorem dX9_errs_14 : decode cX9_errs 14 = .ok (.aload_n 0, 1) := by decide +kernel
theorem dX9_errs_15 : decode cX9_errs 15 = .ok (.getfield 173, 3) := by decide +kernel
theorem dX9_errs_18 : decode cX9_errs 18 = .ok (.putfield 34, 3) := by decide +kernel
theorem dX9_errs_21 : decode cX9_errs 21 = .ok (.return_, 1) := by decide +kernel
theorem dX9_byteAt_0 : decode cX9_byteAt 0 = .ok (.iload_n 1, 1) := by decide +kernel
theorem dX9_byteAt_1 : decode cX9_byteAt 1 = .ok (.aload_n 0, 1) := by decide +kernel
theorem dX9_byteAt_2 : decode cX9_byteAt 2 = .ok (.getfield 176, 3) := by decide +kernel
theorem dX9_byteAt_5 : decode cX9_byteAt 5 = .ok (.if_icmp .ge 16, 3) := by decide +kernel
theorem dX9_byteAt_8 : decode cX9_byteAt 8 = .ok (.aload_n 0, 1) := by decide +kernel
theorem dX9_byteAt_9 : decode cX9_byteAt 9 = .ok (.getfield 30, 3) := by decide +kernel
theorem dX9_byteAt_12 : decode cX9_byteAt 12 = .ok (.iload_n 1, 1) := by decide +kernel
theorem dX9_byteAt_13 : decode cX9_byteAt 13 = .ok (.baload, 1) := by decide +kernel
theorem dX9_byteAt_14 : decode cX9_byteAt 14 = .ok (.sipush 255, 3) := by decide +kernel
theorem dX9_byteAt_17 : decode cX9_byteAt 17 = .ok (.iand, 1) := by decide +kernel
theorem dX9_byteAt_18 : decode cX9_byteAt 18 = .ok (.goto 4, 3) := by decide +kernel
theorem dX9_byteAt_21 : decode cX9_byteAt 21 = .ok (.iconst (-1), 1) := by decide +kernel
theorem dX9_byteAt_22 : decode cX9_byteAt 22 = .ok (.ireturn, 1) := by decide +kernel
theorem dX9_scan_0 : decode cX9_scan 0 = .ok (.aload_n 0, 1) := by decide +kernel
theorem dX9_scan_1 : decode cX9_scan 1 = .ok (.aload_n 0, 1) := by decide +kernel
theorem dX9_scan_2 : decode cX9_scan 2 = .ok (.getfield 179, 3) := by decide +kernel
theorem dX9_scan_5 : decode cX9_scan 5 = .ok (.invokevirtual 182, 3) := by decide +kernel
theorem dX9_scan_8 : decode cX9_scan 8 = .ok (.bipush 32, 2) := by decide +kernel
theorem dX9_scan_10 : decode cX9_scan 10 = .ok (.if_icmp .eq 16, 3) := by decide +kernel
theorem dX9_scan_13 : decode cX9_scan 13 = .ok (.aload_n 0, 1) := by decide +kernel
theorem dX9_scan_14 : decode cX9_scan 14 = .ok (.aload_n 0, 1) := by decide +kernel
theorem dX9_scan_15 : decode cX9_scan 15 = .ok (.getfield 179, 3) := by decide +kernel
theorem dX9_scan_18 : decode cX9_scan 18 = .ok (.invokevirtual 182, 3) := by decide +kernel
theorem dX9_scan_21 : decode cX9_scan 21 = .ok (.bipush 10, 2) := by decide +kernel
theorem dX9_scan_23 : decode cX9_scan 23 = .ok (.if_icmp .ne 16, 3) := by decide +kernel
theorem dX9_scan_26 : decode cX9_scan 26 = .ok (.aload_n 0, 1) := by decide +kernel
theorem dX9_scan_27 : decode cX9_scan 27 = .ok (.dup, 1) := by decide +kernel
theorem dX9_scan_28 : decode cX9_scan 28 = .ok (.getfield 179, 3) := by decide +kernel
theorem dX9_scan_31 : decode cX9_scan 31 = .ok (.iconst 1, 1) := by decide +kernel
theorem dX9_scan_32 : decode cX9_scan 32 = .ok (.iadd, 1) := by decide +kernel
theorem dX9_scan_33 : decode cX9_scan 33 = .ok (.putfield 179, 3) := by decide +kernel
theorem dX9_scan_36 : decode cX9_scan 36 = .ok (.goto (-36), 3) := by decide +kernel
theorem dX9_scan_39 : decode cX9_scan 39 = .ok (.aload_n 0, 1) := by decide +kernel
theorem dX9_scan_40 : decode cX9_scan 40 = .ok (.aload_n 0, 1) := by decide +kernel
theorem dX9_scan_41 : decode cX9_scan 41 = .ok (.getfield 179, 3) := by decide +kernel
theorem dX9_scan_44 : decode cX9_scan 44 = .ok (.putfield 173, 3) := by decide +kernel
theorem dX9_scan_47 : decode cX9_scan 47 = .ok (.aload_n 0, 1) := by decide +kernel
theorem dX9_scan_48 : decode cX9_scan 48 = .ok (.aload_n 0, 1) := by decide +kernel
theorem dX9_scan_49 : decode cX9_scan 49 = .ok (.getfield 179, 3) := by decide +kernel
theorem dX9_scan_52 : decode cX9_scan 52 = .ok (.invokevirtual 182, 3) := by decide +kernel
theorem dX9_scan_55 : decode cX9_scan 55 = .ok (.istore_n 1, 1) := by decide +kernel
theorem dX9_scan_56 : decode cX9_scan 56 = .ok (.iload_n 1, 1) := by decide +kernel
theorem dX9_scan_57 : decode cX9_scan 57 = .ok (.iconst (-1), 1) := by decide +kernel
theorem dX9_scan_58 : decode cX9_scan 58 = .ok (.if_icmp .ne 11, 3) := by decide +kernel
theorem dX9_scan_61 : decode cX9_scan 61 = .ok (.aload_n 0, 1) := by decide +kernel
theorem dX9_scan_62 : decode cX9_scan 62 = .ok (.iconst 0, 1) := by decide +kernel
theorem dX9_scan_63 : decode cX9_scan 63 = .ok (.putfield 185, 3) := by decide +kernel
theorem dX9_scan_66 : decode cX9_scan 66 = .ok (.goto 168, 3) := by decide +kernel
theorem dX9_scan_69 : decode cX9_scan 69 = .ok (.iload_n 1, 1) := by decide +kernel
theorem dX9_scan_70 : decode cX9_scan 70 = .ok (.i2l, 1) := by decide +kernel
theorem dX9_scan_71 : decode cX9_scan 71 = .ok (.ldc2_w 188, 3) := by decide +kernel
theorem dX9_scan_74 : decode cX9_scan 74 = .ok (.ldc2_w 190, 3) := by decide +kernel
theorem dX9_scan_77 : decode cX9_scan 77 = .ok (.invokestatic 64, 3) := by decide +kernel
theorem dX9_scan_80 : decode cX9_scan 80 = .ok (.ifCond .eq 45, 3) := by decide +kernel
theorem dX9_scan_83 : decode cX9_scan 83 = .ok (.aload_n 0, 1) := by decide +kernel
theorem dX9_scan_84 : decode cX9_scan 84 = .ok (.aload_n 0, 1) := by decide +kernel
theorem dX9_scan_85 : decode cX9_scan 85 = .ok (.getfield 179, 3) := by decide +kernel
theorem dX9_scan_88 : decode cX9_scan 88 = .ok (.invokevirtual 182, 3) := by decide +kernel
theorem dX9_scan_91 : decode cX9_scan 91 = .ok (.i2l, 1) := by decide +kernel
theorem dX9_scan_92 : decode cX9_scan 92 = .ok (.ldc2_w 188, 3) := by decide +kernel
theorem dX9_scan_95 : decode cX9_scan 95 = .ok (.ldc2_w 190, 3) := by decide +kernel
theorem dX9_scan_98 : decode cX9_scan 98 = .ok (.invokestatic 64, 3) := by decide +kernel
theorem dX9_scan_101 : decode cX9_scan 101 = .ok (.ifCond .eq 16, 3) := by decide +kernel
theorem dX9_scan_104 : decode cX9_scan 104 = .ok (.aload_n 0, 1) := by decide +kernel
theorem dX9_scan_105 : decode cX9_scan 105 = .ok (.dup, 1) := by decide +kernel
theorem dX9_scan_106 : decode cX9_scan 106 = .ok (.getfield 179, 3) := by decide +kernel
theorem dX9_scan_109 : decode cX9_scan 109 = .ok (.iconst 1, 1) := by decide +kernel
theorem dX9_scan_110 : decode cX9_scan 110 = .ok (.iadd, 1) := by decide +kernel
theorem dX9_scan_111 : decode cX9_scan 111 = .ok (.putfield 179, 3) := by decide +kernel
theorem dX9_scan_114 : decode cX9_scan 114 = .ok (.goto (-31), 3) := by decide +kernel
theorem dX9_scan_117 : decode cX9_scan 117 = .ok (.aload_n 0, 1) := by decide +kernel
theorem dX9_scan_118 : decode cX9_scan 118 = .ok (.iconst 1, 1) := by decide +kernel
theorem dX9_scan_119 : decode cX9_scan 119 = .ok (.putfield 185, 3) := by decide +kernel
theorem dX9_scan_122 : decode cX9_scan 122 = .ok (.goto 112, 3) := by decide +kernel
theorem dX9_scan_125 : decode cX9_scan 125 = .ok (.iload_n 1, 1) := by decide +kernel
theorem dX9_scan_126 : decode cX9_scan 126 = .ok (.i2l, 1) := by decide +kernel
theorem dX9_scan_127 : decode cX9_scan 127 = .ok (.ldc2_w 192, 3) := by decide +kernel
theorem dX9_scan_130 : decode cX9_scan 130 = .ok (.ldc2_w 194, 3) := by decide +kernel
theorem dX9_scan_133 : decode cX9_scan 133 = .ok (.invokestatic 64, 3) := by decide +kernel
theorem dX9_scan_136 : decode cX9_scan 136 = .ok (.ifCond .eq 78, 3) := by decide +kernel
theorem dX9_scan_139 : decode cX9_scan 139 = .ok (.aload_n 0, 1) := by decide +kernel
theorem dX9_scan_140 : decode cX9_scan 140 = .ok (.iconst 0, 1) := by decide +kernel
theorem dX9_scan_141 : decode cX9_scan 141 = .ok (.putfield 196, 3) := by decide +kernel
theorem dX9_scan_144 : decode cX9_scan 144 = .ok (.aload_n 0, 1) := by decide +kernel
theorem dX9_scan_145 : decode cX9_scan 145 = .ok (.aload_n 0, 1) := by decide +kernel
theorem dX9_scan_146 : decode cX9_scan 146 = .ok (.getfield 179, 3) := by decide +kernel
theorem dX9_scan_149 : decode cX9_scan 149 = .ok (.invokevirtual 182, 3) := by decide +kernel
theorem dX9_scan_152 : decode cX9_scan 152 = .ok (.i2l, 1) := by decide +kernel
theorem dX9_scan_153 : decode cX9_scan 153 = .ok (.ldc2_w 192, 3) := by decide +kernel
theorem dX9_scan_156 : decode cX9_scan 156 = .ok (.ldc2_w 194, 3) := by decide +kernel
theorem dX9_scan_159 : decode cX9_scan 159 = .ok (.invokestatic 64, 3) := by decide +kernel
theorem dX9_scan_162 : decode cX9_scan 162 = .ok (.ifCond .eq 44, 3) := by decide +kernel
theorem dX9_scan_165 : decode cX9_scan 165 = .ok (.aload_n 0, 1) := by decide +kernel
theorem dX9_scan_166 : decode cX9_scan 166 = .ok (.ldc 199, 2) := by decide +kernel
theorem dX9_scan_168 : decode cX9_scan 168 = .ok (.bipush 10, 2) := by decide +kernel
theorem dX9_scan_170 : decode cX9_scan 170 = .ok (.aload_n 0, 1) := by decide +kernel
theorem dX9_scan_171 : decode cX9_scan 171 = .ok (.getfield 196, 3) := by decide +kernel
theorem dX9_scan_174 : decode cX9_scan 174 = .ok (.imul, 1) := by decide +kernel
theorem dX9_scan_175 : decode cX9_scan 175 = .ok (.aload_n 0, 1) := by decide +kernel
theorem dX9_scan_176 : decode cX9_scan 176 = .ok (.aload_n 0, 1) := by decide +kernel
theorem dX9_scan_177 : decode cX9_scan 177 = .ok (.getfield 179, 3) := by decide +kernel
theorem dX9_scan_180 : decode cX9_scan 180 = .ok (.invokevirtual 182, 3) := by decide +kernel
theorem dX9_scan_183 : decode cX9_scan 183 = .ok (.iadd, 1) := by decide +kernel
theorem dX9_scan_184 : decode cX9_scan 184 = .ok (.bipush 48, 2) := by decide +kernel
theorem dX9_scan_186 : decode cX9_scan 186 = .ok (.isub, 1) := by decide +kernel
