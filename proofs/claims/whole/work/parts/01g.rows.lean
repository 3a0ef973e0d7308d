theorem dJ2_charAt_3b067_1 : decode cJ2_charAt_3b067 1 = .ok (.aload_n 0, 1) := by decide +kernel
theorem dJ2_charAt_3b067_2 : decode cJ2_charAt_3b067 2 = .ok (.invokestatic 67, 3) := by decide +kernel
theorem dJ2_charAt_3b067_5 : decode cJ2_charAt_3b067 5 = .ok (.aload_n 0, 1) := by decide +kernel
theorem dJ2_charAt_3b067_6 : decode cJ2_charAt_3b067 6 = .ok (.iload_n 1, 1) := by decide +kernel
theorem dJ2_charAt_3b067_7 : decode cJ2_charAt_3b067 7 = .ok (.invokestatic 71, 3) := by decide +kernel
theorem dJ2_charAt_3b067_10 : decode cJ2_charAt_3b067 10 = .ok (.ireturn, 1) := by decide +kernel
theorem dJ2_checkIndex_2214a_0 : decode cJ2_checkIndex_2214a 0 = .ok (.iload_n 0, 1) := by decide +kernel
theorem dJ2_checkIndex_2214a_1 : decode cJ2_checkIndex_2214a 1 = .ok (.aload_n 1, 1) := by decide +kernel
theorem dJ2_checkIndex_2214a_2 : decode cJ2_checkIndex_2214a 2 = .ok (.invokestatic 48, 3) := by decide +kernel
theorem dJ2_checkIndex_2214a_5 : decode cJ2_checkIndex_2214a 5 = .ok (.invokestatic 414, 3) := by decide +kernel
theorem dJ2_checkIndex_2214a_8 : decode cJ2_checkIndex_2214a 8 = .ok (.return_, 1) := by decide +kernel
theorem dJ7_fill_53178_0 : decode cJ7_fill_53178 0 = .ok (.iconst 0, 1) := by decide +kernel
theorem dJ7_fill_53178_1 : decode cJ7_fill_53178 1 = .ok (.istore_n 2, 1) := by decide +kernel
theorem dJ7_fill_53178_2 : decode cJ7_fill_53178 2 = .ok (.aload_n 0, 1) := by decide +kernel
theorem dJ7_fill_53178_3 : decode cJ7_fill_53178 3 = .ok (.arraylength, 1) := by decide +kernel
theorem dJ7_fill_53178_4 : decode cJ7_fill_53178 4 = .ok (.istore_n 3, 1) := by decide +kernel
theorem dJ7_fill_53178_5 : decode cJ7_fill_53178 5 = .ok (.iload_n 2, 1) := by decide +kernel
theorem dJ7_fill_53178_6 : decode cJ7_fill_53178 6 = .ok (.iload_n 3, 1) := by decide +kernel
theorem dJ7_fill_53178_7 : decode cJ7_fill_53178 7 = .ok (.if_icmp .ge 13, 3) := by decide +kernel
theorem dJ7_fill_53178_10 : decode cJ7_fill_53178 10 = .ok (.aload_n 0, 1) := by decide +kernel
theorem dJ7_fill_53178_11 : decode cJ7_fill_53178 11 = .ok (.iload_n 2, 1) := by decide +kernel
theorem dJ7_fill_53178_12 : decode cJ7_fill_53178 12 = .ok (.iload_n 1, 1) := by decide +kernel
theorem dJ7_fill_53178_13 : decode cJ7_fill_53178 13 = .ok (.iastore, 1) := by decide +kernel
theorem dJ7_fill_53178_14 : decode cJ7_fill_53178 14 = .ok (.iinc 2 1, 3) := by decide +kernel
theorem dJ7_fill_53178_17 : decode cJ7_fill_53178 17 = .ok (.goto (-12), 3) := by decide +kernel
theorem dJ7_fill_53178_20 : decode cJ7_fill_53178 20 = .ok (.return_, 1) := by decide +kernel
theorem dJ3_checkIndex_8e157_0 : decode cJ3_checkIndex_8e157 0 = .ok (.iload_n 0, 1) := by decide +kernel
theorem dJ3_checkIndex_8e157_1 : decode cJ3_checkIndex_8e157 1 = .ok (.ifCond .lt 8, 3) := by decide +kernel
theorem dJ3_checkIndex_8e157_4 : decode cJ3_checkIndex_8e157 4 = .ok (.iload_n 0, 1) := by decide +kernel
theorem dJ3_checkIndex_8e157_5 : decode cJ3_checkIndex_8e157 5 = .ok (.iload_n 1, 1) := by decide +kernel
theorem dJ3_checkIndex_8e157_6 : decode cJ3_checkIndex_8e157 6 = .ok (.if_icmp .lt 10, 3) := by decide +kernel
theorem dJ3_checkIndex_8e157_9 : decode cJ3_checkIndex_8e157 9 = .ok (.aload_n 2, 1) := by decide +kernel
theorem dJ3_checkIndex_8e157_10 : decode cJ3_checkIndex_8e157 10 = .ok (.iload_n 0, 1) := by decide +kernel
theorem dJ3_checkIndex_8e157_11 : decode cJ3_checkIndex_8e157 11 = .ok (.iload_n 1, 1) := by decide +kernel
theorem dJ3_checkIndex_8e157_12 : decode cJ3_checkIndex_8e157 12 = .ok (.invokestatic 95, 3) := by decide +kernel
theorem dJ3_checkIndex_8e157_15 : decode cJ3_checkIndex_8e157 15 = .ok (.athrow, 1) := by decide +kernel
theorem dJ3_checkIndex_8e157_16 : decode cJ3_checkIndex_8e157 16 = .ok (.iload_n 0, 1) := by decide +kernel
theorem dJ3_checkIndex_8e157_17 : decode cJ3_checkIndex_8e157 17 = .ok (.ireturn, 1) := by decide +kernel
theorem dL_append_0 : decode cL_append 0 = .ok (.aload 6, 2) := by decide +kernel
theorem dL_append_2 : decode cL_append 2 = .ok (.iconst 0, 1) := by decide +kernel
theorem dL_append_3 : decode cL_append 3 = .ok (.aload_n 0, 1) := by decide +kernel
theorem dL_append_4 : decode cL_append 4 = .ok (.iload_n 1, 1) := by decide +kernel
theorem dL_append_5 : decode cL_append 5 = .ok (.iload_n 2, 1) := by decide +kernel
theorem dL_append_6 : decode cL_append 6 = .ok (.iload_n 3, 1) := by decide +kernel
theorem dL_append_7 : decode cL_append 7 = .ok (.iload 4, 2) := by decide +kernel
theorem dL_append_9 : decode cL_append 9 = .ok (.iload 5, 2) := by decide +kernel
theorem dL_append_11 : decode cL_append 11 = .ok (.invokevirtual 7, 3) := by decide +kernel
theorem dL_append_14 : decode cL_append 14 = .ok (.i2l, 1) := by decide +kernel
theorem dL_append_15 : decode cL_append 15 = .ok (.lastore, 1) := by decide +kernel
theorem dL_append_16 : decode cL_append 16 = .ok (.goto 7, 3) := by decide +kernel
theorem dL_append_19 : decode cL_append 19 = .ok (.astore 7, 2) := by decide +kernel
theorem dL_append_21 : decode cL_append 21 = .ok (.iconst 1, 1) := by decide +kernel
theorem dL_append_22 : decode cL_append 22 = .ok (.ireturn, 1) := by decide +kernel
theorem dL_append_23 : decode cL_append 23 = .ok (.iconst 0, 1) := by decide +kernel
theorem dL_append_24 : decode cL_append 24 = .ok (.ireturn, 1) := by decide +kernel
theorem dL_truncate_0 : decode cL_truncate 0 = .ok (.aload_n 0, 1) := by decide +kernel
theorem dL_truncate_1 : decode cL_truncate 1 = .ok (.iload_n 1, 1) := by decide +kernel
theorem dL_truncate_2 : decode cL_truncate 2 = .ok (.invokevirtual 15, 3) := by decide +kernel
theorem dL_truncate_5 : decode cL_truncate 5 = .ok (.goto 6, 3) := by decide +kernel
theorem dL_truncate_8 : decode cL_truncate 8 = .ok (.astore_n 2, 1) := by decide +kernel
theorem dL_truncate_9 : decode cL_truncate 9 = .ok (.iconst 1, 1) := by decide +kernel
theorem dL_truncate_10 : decode cL_truncate 10 = .ok (.ireturn, 1) := by decide +kernel
theorem dL_truncate_11 : decode cL_truncate 11 = .ok (.iconst 0, 1) := by decide +kernel
theorem dL_truncate_12 : decode cL_truncate 12 = .ok (.ireturn, 1) := by decide +kernel
theorem dL_property_0 : decode cL_property 0 = .ok (.aload_n 2, 1) := by decide +kernel
theorem dL_property_1 : decode cL_property 1 = .ok (.iconst 0, 1) := by decide +kernel
theorem dL_property_2 : decode cL_property 2 = .ok (.aload_n 0, 1) := by decide +kernel
theorem dL_property_3 : decode cL_property 3 = .ok (.iload_n 1, 1) := by decide +kernel
theorem dL_property_4 : decode cL_property 4 = .ok (.invokevirtual 21, 3) := by decide +kernel
theorem dL_property_7 : decode cL_property 7 = .ok (.i2l, 1) := by decide +kernel
theorem dL_property_8 : decode cL_property 8 = .ok (.lastore, 1) := by decide +kernel
theorem dL_property_9 : decode cL_property 9 = .ok (.goto 6, 3) := by decide +kernel
theorem dL_property_12 : decode cL_property 12 = .ok (.astore_n 3, 1) := by decide +kernel
theorem dL_property_13 : decode cL_property 13 = .ok (.iconst 1, 1) := by decide +kernel
theorem dL_property_14 : decode cL_property 14 = .ok (.ireturn, 1) := by decide +kernel
theorem dL_property_15 : decode cL_property 15 = .ok (.iconst 0, 1) := by decide +kernel
theorem dL_property_16 : decode cL_property 16 = .ok (.ireturn, 1) := by decide +kernel
theorem dL_period_0 : decode cL_period 0 = .ok (.aload_n 3, 1) := by decide +kernel
theorem dL_period_1 : decode cL_period 1 = .ok (.iconst 0, 1) := by decide +kernel
theorem dL_period_2 : decode cL_period 2 = .ok (.aload_n 0, 1) := by decide +kernel
theorem dL_period_3 : decode cL_period 3 = .ok (.iload_n 1, 1) := by decide +kernel
theorem dL_period_4 : decode cL_period 4 = .ok (.iload_n 2, 1) := by decide +kernel
theorem dL_period_5 : decode cL_period 5 = .ok (.invokevirtual 25, 3) := by decide +kernel
theorem dL_period_8 : decode cL_period 8 = .ok (.i2l, 1) := by decide +kernel
theorem dL_period_9 : decode cL_period 9 = .ok (.lastore, 1) := by decide +kernel
theorem dL_period_10 : decode cL_period 10 = .ok (.goto 11, 3) := by decide +kernel
theorem dL_period_13 : decode cL_period 13 = .ok (.astore 4, 2) := by decide +kernel
theorem dL_period_15 : decode cL_period 15 = .ok (.iconst 1, 1) := by decide +kernel
theorem dL_period_16 : decode cL_period 16 = .ok (.ireturn, 1) := by decide +kernel
theorem dL_period_17 : decode cL_period 17 = .ok (.astore 4, 2) := by decide +kernel
theorem dL_period_19 : decode cL_period 19 = .ok (.iconst 2, 1) := by decide +kernel
theorem dL_period_20 : decode cL_period 20 = .ok (.ireturn, 1) := by decide +kernel
theorem dL_period_21 : decode cL_period 21 = .ok (.iconst 0, 1) := by decide +kernel
theorem dL_period_22 : decode cL_period 22 = .ok (.ireturn, 1) := by decide +kernel
theorem dL_side_0 : decode cL_side 0 = .ok (.aload_n 3, 1) := by decide +kernel
theorem dL_side_1 : decode cL_side 1 = .ok (.iconst 0, 1) := by decide +kernel
theorem dL_side_2 : decode cL_side 2 = .ok (.aload_n 0, 1) := by decide +kernel
theorem dL_side_3 : decode cL_side 3 = .ok (.iload_n 1, 1) := by decide +kernel
theorem dL_side_4 : decode cL_side 4 = .ok (.iload_n 2, 1) := by decide +kernel
theorem dL_side_5 : decode cL_side 5 = .ok (.invokevirtual 31, 3) := by decide +kernel
theorem dL_side_8 : decode cL_side 8 = .ok (.i2l, 1) := by decide +kernel
theorem dL_side_9 : decode cL_side 9 = .ok (.lastore, 1) := by decide +kernel
theorem dL_side_10 : decode cL_side 10 = .ok (.goto 11, 3) := by decide +kernel
theorem dL_side_13 : decode cL_side 13 = .ok (.astore 4, 2) := by decide +kernel
theorem dL_side_15 : decode cL_side 15 = .ok (.iconst 1, 1) := by decide +kernel
theorem dL_side_16 : decode cL_side 16 = .ok (.ireturn, 1) := by decide +kernel
theorem dL_side_17 : decode cL_side 17 = .ok (.astore 4, 2) := by decide +kernel
theorem dL_side_19 : decode cL_side 19 = .ok (.iconst 2, 1) := by decide +kernel
theorem dL_side_20 : decode cL_side 20 = .ok (.ireturn, 1) := by decide +kernel
theorem dL_side_21 : decode cL_side 21 = .ok (.iconst 0, 1) := by decide +kernel
theorem dL_side_22 : decode cL_side 22 = .ok (.ireturn, 1) := by decide +kernel
theorem dL_logged_0 : decode cL_logged 0 = .ok (.aload_n 3, 1) := by decide +kernel
theorem dL_logged_1 : decode cL_logged 1 = .ok (.iconst 0, 1) := by decide +kernel
theorem dL_logged_2 : decode cL_logged 2 = .ok (.aload_n 0, 1) := by decide +kernel
theorem dL_logged_3 : decode cL_logged 3 = .ok (.iload_n 1, 1) := by decide +kernel
theorem dL_logged_4 : decode cL_logged 4 = .ok (.iload_n 2, 1) := by decide +kernel
theorem dL_logged_5 : decode cL_logged 5 = .ok (.invokevirtual 34, 3) := by decide +kernel
theorem dL_logged_8 : decode cL_logged 8 = .ok (.i2l, 1) := by decide +kernel
theorem dL_logged_9 : decode cL_logged 9 = .ok (.lastore, 1) := by decide +kernel
theorem dL_logged_10 : decode cL_logged 10 = .ok (.goto 11, 3) := by decide +kernel
theorem dL_logged_13 : decode cL_logged 13 = .ok (.astore 4, 2) := by decide +kernel
theorem dL_logged_15 : decode cL_logged 15 = .ok (.iconst 1, 1) := by decide +kernel
theorem dL_logged_16 : decode cL_logged 16 = .ok (.ireturn, 1) := by decide +kernel
theorem dL_logged_17 : decode cL_logged 17 = .ok (.astore 4, 2) := by decide +kernel
theorem dL_logged_19 : decode cL_logged 19 = .ok (.iconst 2, 1) := by decide +kernel
theorem dL_logged_20 : decode cL_logged 20 = .ok (.ireturn, 1) := by decide +kernel
theorem dL_logged_21 : decode cL_logged 21 = .ok (.iconst 0, 1) := by decide +kernel
theorem dL_logged_22 : decode cL_logged 22 = .ok (.ireturn, 1) := by decide +kernel
theorem dL_flagIn_0 : decode cL_flagIn 0 = .ok (.aload_n 2, 1) := by decide +kernel
theorem dL_flagIn_1 : decode cL_flagIn 1 = .ok (.iconst 0, 1) := by decide +kernel
theorem dL_flagIn_2 : decode cL_flagIn 2 = .ok (.aload_n 0, 1) := by decide +kernel
theorem dL_flagIn_3 : decode cL_flagIn 3 = .ok (.iload_n 1, 1) := by decide +kernel
theorem dL_flagIn_4 : decode cL_flagIn 4 = .ok (.invokevirtual 37, 3) := by decide +kernel
theorem dL_flagIn_7 : decode cL_flagIn 7 = .ok (.i2l, 1) := by decide +kernel
theorem dL_flagIn_8 : decode cL_flagIn 8 = .ok (.lastore, 1) := by decide +kernel
theorem dL_flagIn_9 : decode cL_flagIn 9 = .ok (.goto 6, 3) := by decide +kernel
theorem dL_flagIn_12 : decode cL_flagIn 12 = .ok (.astore_n 3, 1) := by decide +kernel
theorem dL_flagIn_13 : decode cL_flagIn 13 = .ok (.iconst 1, 1) := by decide +kernel
theorem dL_flagIn_14 : decode cL_flagIn 14 = .ok (.ireturn, 1) := by decide +kernel
theorem dL_flagIn_15 : decode cL_flagIn 15 = .ok (.iconst 0, 1) := by decide +kernel
theorem dL_flagIn_16 : decode cL_flagIn 16 = .ok (.ireturn, 1) := by decide +kernel
theorem dL_delayLeft_0 : decode cL_delayLeft 0 = .ok (.aload_n 2, 1) := by decide +kernel
theorem dL_delayLeft_1 : decode cL_delayLeft 1 = .ok (.iconst 0, 1) := by decide +kernel
theorem dL_delayLeft_2 : decode cL_delayLeft 2 = .ok (.aload_n 0, 1) := by decide +kernel
theorem dL_delayLeft_3 : decode cL_delayLeft 3 = .ok (.iload_n 1, 1) := by decide +kernel
theorem dL_delayLeft_4 : decode cL_delayLeft 4 = .ok (.invokevirtual 40, 3) := by decide +kernel
theorem dL_delayLeft_7 : decode cL_delayLeft 7 = .ok (.i2l, 1) := by decide +kernel
theorem dL_delayLeft_8 : decode cL_delayLeft 8 = .ok (.lastore, 1) := by decide +kernel
theorem dL_delayLeft_9 : decode cL_delayLeft 9 = .ok (.goto 6, 3) := by decide +kernel
theorem dL_delayLeft_12 : decode cL_delayLeft 12 = .ok (.astore_n 3, 1) := by decide +kernel
theorem dL_delayLeft_13 : decode cL_delayLeft 13 = .ok (.iconst 1, 1) := by decide +kernel
theorem dL_delayLeft_14 : decode cL_delayLeft 14 = .ok (.ireturn, 1) := by decide +kernel
theorem dL_delayLeft_15 : decode cL_delayLeft 15 = .ok (.iconst 0, 1) := by decide +kernel
theorem dL_delayLeft_16 : decode cL_delayLeft 16 = .ok (.ireturn, 1) := by decide +kernel
theorem dL_shown_0 : decode cL_shown 0 = .ok (.aload_n 2, 1) := by decide +kernel
theorem dL_shown_1 : decode cL_shown 1 = .ok (.iconst 0, 1) := by decide +kernel
theorem dL_shown_2 : decode cL_shown 2 = .ok (.aload_n 0, 1) := by decide +kernel
theorem dL_shown_3 : decode cL_shown 3 = .ok (.iload_n 1, 1) := by decide +kernel
theorem dL_shown_4 : decode cL_shown 4 = .ok (.invokevirtual 43, 3) := by decide +kernel
theorem dL_shown_7 : decode cL_shown 7 = .ok (.i2l, 1) := by decide +kernel
theorem dL_shown_8 : decode cL_shown 8 = .ok (.lastore, 1) := by decide +kernel
theorem dL_shown_9 : decode cL_shown 9 = .ok (.goto 6, 3) := by decide +kernel
theorem dL_shown_12 : decode cL_shown 12 = .ok (.astore_n 3, 1) := by decide +kernel
theorem dL_shown_13 : decode cL_shown 13 = .ok (.iconst 1, 1) := by decide +kernel
theorem dL_shown_14 : decode cL_shown 14 = .ok (.ireturn, 1) := by decide +kernel
theorem dL_shown_15 : decode cL_shown 15 = .ok (.iconst 0, 1) := by decide +kernel
theorem dL_shown_16 : decode cL_shown 16 = .ok (.ireturn, 1) := by decide +kernel
theorem dL_pace_0 : decode cL_pace 0 = .ok (.aload_n 2, 1) := by decide +kernel
theorem dL_pace_1 : decode cL_pace 1 = .ok (.iconst 0, 1) := by decide +kernel
theorem dL_pace_2 : decode cL_pace 2 = .ok (.aload_n 0, 1) := by decide +kernel
theorem dL_pace_3 : decode cL_pace 3 = .ok (.iload_n 1, 1) := by decide +kernel
theorem dL_pace_4 : decode cL_pace 4 = .ok (.invokevirtual 46, 3) := by decide +kernel
theorem dL_pace_7 : decode cL_pace 7 = .ok (.i2l, 1) := by decide +kernel
theorem dL_pace_8 : decode cL_pace 8 = .ok (.lastore, 1) := by decide +kernel
theorem dL_pace_9 : decode cL_pace 9 = .ok (.goto 6, 3) := by decide +kernel
theorem dL_pace_12 : decode cL_pace 12 = .ok (.astore_n 3, 1) := by decide +kernel
theorem dL_pace_13 : decode cL_pace 13 = .ok (.iconst 1, 1) := by decide +kernel
theorem dL_pace_14 : decode cL_pace 14 = .ok (.ireturn, 1) := by decide +kernel
theorem dL_pace_15 : decode cL_pace 15 = .ok (.iconst 0, 1) := by decide +kernel
theorem dL_pace_16 : decode cL_pace 16 = .ok (.ireturn, 1) := by decide +kernel
theorem dL_lasts_0 : decode cL_lasts 0 = .ok (.aload_n 3, 1) := by decide +kernel
theorem dL_lasts_1 : decode cL_lasts 1 = .ok (.iconst 0, 1) := by decide +kernel
theorem dL_lasts_2 : decode cL_lasts 2 = .ok (.aload_n 0, 1) := by decide +kernel
theorem dL_lasts_3 : decode cL_lasts 3 = .ok (.iload_n 1, 1) := by decide +kernel
theorem dL_lasts_4 : decode cL_lasts 4 = .ok (.iload_n 2, 1) := by decide +kernel
theorem dL_lasts_5 : decode cL_lasts 5 = .ok (.invokevirtual 49, 3) := by decide +kernel
theorem dL_lasts_8 : decode cL_lasts 8 = .ok (.i2l, 1) := by decide +kernel
theorem dL_lasts_9 : decode cL_lasts 9 = .ok (.lastore, 1) := by decide +kernel
theorem dL_lasts_10 : decode cL_lasts 10 = .ok (.goto 11, 3) := by decide +kernel
theorem dL_lasts_13 : decode cL_lasts 13 = .ok (.astore 4, 2) := by decide +kernel
theorem dL_lasts_15 : decode cL_lasts 15 = .ok (.iconst 1, 1) := by decide +kernel
theorem dL_lasts_16 : decode cL_lasts 16 = .ok (.ireturn, 1) := by decide +kernel
theorem dL_lasts_17 : decode cL_lasts 17 = .ok (.astore 4, 2) := by decide +kernel
theorem dL_lasts_19 : decode cL_lasts 19 = .ok (.iconst 2, 1) := by decide +kernel
theorem dL_lasts_20 : decode cL_lasts 20 = .ok (.ireturn, 1) := by decide +kernel
theorem dL_lasts_21 : decode cL_lasts 21 = .ok (.iconst 0, 1) := by decide +kernel
theorem dL_lasts_22 : decode cL_lasts 22 = .ok (.ireturn, 1) := by decide +kernel
theorem dL_longest_0 : decode cL_longest 0 = .ok (.aload_n 2, 1) := by decide +kernel
theorem dL_longest_1 : decode cL_longest 1 = .ok (.iconst 0, 1) := by decide +kernel
theorem dL_longest_2 : decode cL_longest 2 = .ok (.aload_n 0, 1) := by decide +kernel
theorem dL_longest_3 : decode cL_longest 3 = .ok (.iload_n 1, 1) := by decide +kernel
theorem dL_longest_4 : decode cL_longest 4 = .ok (.invokevirtual 52, 3) := by decide +kernel
theorem dL_longest_7 : decode cL_longest 7 = .ok (.i2l, 1) := by decide +kernel
theorem dL_longest_8 : decode cL_longest 8 = .ok (.lastore, 1) := by decide +kernel
theorem dL_longest_9 : decode cL_longest 9 = .ok (.goto 6, 3) := by decide +kernel
theorem dL_longest_12 : decode cL_longest 12 = .ok (.astore_n 3, 1) := by decide +kernel
theorem dL_longest_13 : decode cL_longest 13 = .ok (.iconst 1, 1) := by decide +kernel
theorem dL_longest_14 : decode cL_longest 14 = .ok (.ireturn, 1) := by decide +kernel
theorem dL_longest_15 : decode cL_longest 15 = .ok (.iconst 0, 1) := by decide +kernel
theorem dL_longest_16 : decode cL_longest 16 = .ok (.ireturn, 1) := by decide +kernel
theorem dL_meanThink_0 : decode cL_meanThink 0 = .ok (.aload_n 2, 1) := by decide +kernel
theorem dL_meanThink_1 : decode cL_meanThink 1 = .ok (.iconst 0, 1) := by decide +kernel
theorem dL_meanThink_2 : decode cL_meanThink 2 = .ok (.aload_n 0, 1) := by decide +kernel
theorem dL_meanThink_3 : decode cL_meanThink 3 = .ok (.iload_n 1, 1) := by decide +kernel
theorem dL_meanThink_4 : decode cL_meanThink 4 = .ok (.invokevirtual 55, 3) := by decide +kernel
theorem dL_meanThink_7 : decode cL_meanThink 7 = .ok (.dastore, 1) := by decide +kernel
theorem dL_meanThink_8 : decode cL_meanThink 8 = .ok (.goto 6, 3) := by decide +kernel
theorem dL_meanThink_11 : decode cL_meanThink 11 = .ok (.astore_n 3, 1) := by decide +kernel
theorem dL_meanThink_12 : decode cL_meanThink 12 = .ok (.iconst 1, 1) := by decide +kernel
theorem dL_meanThink_13 : decode cL_meanThink 13 = .ok (.ireturn, 1) := by decide +kernel
theorem dL_meanThink_14 : decode cL_meanThink 14 = .ok (.iconst 0, 1) := by decide +kernel
theorem dL_meanThink_15 : decode cL_meanThink 15 = .ok (.ireturn, 1) := by decide +kernel
theorem dL_share_0 : decode cL_share 0 = .ok (.aload_n 2, 1) := by decide +kernel
theorem dL_share_1 : decode cL_share 1 = .ok (.iconst 0, 1) := by decide +kernel
theorem dL_share_2 : decode cL_share 2 = .ok (.aload_n 0, 1) := by decide +kernel
theorem dL_share_3 : decode cL_share 3 = .ok (.iload_n 1, 1) := by decide +kernel
theorem dL_share_4 : decode cL_share 4 = .ok (.invokevirtual 59, 3) := by decide +kernel
theorem dL_share_7 : decode cL_share 7 = .ok (.f2d, 1) := by decide +kernel
theorem dL_share_8 : decode cL_share 8 = .ok (.dastore, 1) := by decide +kernel
theorem dL_share_9 : decode cL_share 9 = .ok (.goto 6, 3) := by decide +kernel
theorem dL_share_12 : decode cL_share 12 = .ok (.astore_n 3, 1) := by decide +kernel
theorem dL_share_13 : decode cL_share 13 = .ok (.iconst 1, 1) := by decide +kernel
theorem dL_share_14 : decode cL_share 14 = .ok (.ireturn, 1) := by decide +kernel
theorem dL_share_15 : decode cL_share 15 = .ok (.iconst 0, 1) := by decide +kernel
theorem dL_share_16 : decode cL_share 16 = .ok (.ireturn, 1) := by decide +kernel
theorem dL_leftIn_0 : decode cL_leftIn 0 = .ok (.aload_n 3, 1) := by decide +kernel
theorem dL_leftIn_1 : decode cL_leftIn 1 = .ok (.iconst 0, 1) := by decide +kernel
theorem dL_leftIn_2 : decode cL_leftIn 2 = .ok (.aload_n 0, 1) := by decide +kernel
theorem dL_leftIn_3 : decode cL_leftIn 3 = .ok (.iload_n 1, 1) := by decide +kernel
theorem dL_leftIn_4 : decode cL_leftIn 4 = .ok (.iload_n 2, 1) := by decide +kernel
theorem dL_leftIn_5 : decode cL_leftIn 5 = .ok (.invokevirtual 63, 3) := by decide +kernel
theorem dL_leftIn_8 : decode cL_leftIn 8 = .ok (.i2l, 1) := by decide +kernel
theorem dL_leftIn_9 : decode cL_leftIn 9 = .ok (.lastore, 1) := by decide +kernel
theorem dL_leftIn_10 : decode cL_leftIn 10 = .ok (.goto 11, 3) := by decide +kernel
theorem dL_leftIn_13 : decode cL_leftIn 13 = .ok (.astore 4, 2) := by decide +kernel
theorem dL_leftIn_15 : decode cL_leftIn 15 = .ok (.iconst 1, 1) := by decide +kernel
theorem dL_leftIn_16 : decode cL_leftIn 16 = .ok (.ireturn, 1) := by decide +kernel
theorem dL_leftIn_17 : decode cL_leftIn 17 = .ok (.astore 4, 2) := by decide +kernel
theorem dL_leftIn_19 : decode cL_leftIn 19 = .ok (.iconst 2, 1) := by decide +kernel
theorem dL_leftIn_20 : decode cL_leftIn 20 = .ok (.ireturn, 1) := by decide +kernel
theorem dL_leftIn_21 : decode cL_leftIn 21 = .ok (.iconst 0, 1) := by decide +kernel
theorem dL_leftIn_22 : decode cL_leftIn 22 = .ok (.ireturn, 1) := by decide +kernel
theorem dL_ends_0 : decode cL_ends 0 = .ok (.aload_n 3, 1) := by decide +kernel
theorem dL_ends_1 : decode cL_ends 1 = .ok (.iconst 0, 1) := by decide +kernel
theorem dL_ends_2 : decode cL_ends 2 = .ok (.aload_n 0, 1) := by decide +kernel
theorem dL_ends_3 : decode cL_ends 3 = .ok (.iload_n 1, 1) := by decide +kernel
theorem dL_ends_4 : decode cL_ends 4 = .ok (.iload_n 2, 1) := by decide +kernel
theorem dL_ends_5 : decode cL_ends 5 = .ok (.invokevirtual 66, 3) := by decide +kernel
theorem dL_ends_8 : decode cL_ends 8 = .ok (.i2l, 1) := by decide +kernel
theorem dL_ends_9 : decode cL_ends 9 = .ok (.lastore, 1) := by decide +kernel
theorem dL_ends_10 : decode cL_ends 10 = .ok (.goto 7, 3) := by decide +kernel
theorem dL_ends_13 : decode cL_ends 13 = .ok (.astore 4, 2) := by decide +kernel
theorem dL_ends_15 : decode cL_ends 15 = .ok (.iconst 1, 1) := by decide +kernel
theorem dL_ends_16 : decode cL_ends 16 = .ok (.ireturn, 1) := by decide +kernel
theorem dL_ends_17 : decode cL_ends 17 = .ok (.iconst 0, 1) := by decide +kernel
theorem dL_ends_18 : decode cL_ends 18 = .ok (.ireturn, 1) := by decide +kernel
theorem dL_endsAfter_0 : decode cL_endsAfter 0 = .ok (.aload_n 3, 1) := by decide +kernel
theorem dL_endsAfter_1 : decode cL_endsAfter 1 = .ok (.iconst 0, 1) := by decide +kernel
theorem dL_endsAfter_2 : decode cL_endsAfter 2 = .ok (.aload_n 0, 1) := by decide +kernel
theorem dL_endsAfter_3 : decode cL_endsAfter 3 = .ok (.iload_n 1, 1) := by decide +kernel
theorem dL_endsAfter_4 : decode cL_endsAfter 4 = .ok (.iload_n 2, 1) := by decide +kernel
theorem dL_endsAfter_5 : decode cL_endsAfter 5 = .ok (.invokevirtual 69, 3) := by decide +kernel
theorem dL_endsAfter_8 : decode cL_endsAfter 8 = .ok (.i2l, 1) := by decide +kernel
theorem dL_endsAfter_9 : decode cL_endsAfter 9 = .ok (.lastore, 1) := by decide +kernel
theorem dL_endsAfter_10 : decode cL_endsAfter 10 = .ok (.goto 7, 3) := by decide +kernel
theorem dL_endsAfter_13 : decode cL_endsAfter 13 = .ok (.astore 4, 2) := by decide +kernel
theorem dL_endsAfter_15 : decode cL_endsAfter 15 = .ok (.iconst 1, 1) := by decide +kernel
theorem dL_endsAfter_16 : decode cL_endsAfter 16 = .ok (.ireturn, 1) := by decide +kernel
theorem dL_endsAfter_17 : decode cL_endsAfter 17 = .ok (.iconst 0, 1) := by decide +kernel
theorem dL_endsAfter_18 : decode cL_endsAfter 18 = .ok (.ireturn, 1) := by decide +kernel
theorem dL_movesIn_0 : decode cL_movesIn 0 = .ok (.aload 4, 2) := by decide +kernel
theorem dL_movesIn_2 : decode cL_movesIn 2 = .ok (.iconst 0, 1) := by decide +kernel
theorem dL_movesIn_3 : decode cL_movesIn 3 = .ok (.aload_n 0, 1) := by decide +kernel
theorem dL_movesIn_4 : decode cL_movesIn 4 = .ok (.iload_n 1, 1) := by decide +kernel
theorem dL_movesIn_5 : decode cL_movesIn 5 = .ok (.iload_n 2, 1) := by decide +kernel
theorem dL_movesIn_6 : decode cL_movesIn 6 = .ok (.iload_n 3, 1) := by decide +kernel
theorem dL_movesIn_7 : decode cL_movesIn 7 = .ok (.invokevirtual 72, 3) := by decide +kernel
theorem dL_movesIn_10 : decode cL_movesIn 10 = .ok (.i2l, 1) := by decide +kernel
theorem dL_movesIn_11 : decode cL_movesIn 11 = .ok (.lastore, 1) := by decide +kernel
theorem dL_movesIn_12 : decode cL_movesIn 12 = .ok (.goto 7, 3) := by decide +kernel
theorem dL_movesIn_15 : decode cL_movesIn 15 = .ok (.astore 5, 2) := by decide +kernel
theorem dL_movesIn_17 : decode cL_movesIn 17 = .ok (.iconst 1, 1) := by decide +kernel
theorem dL_movesIn_18 : decode cL_movesIn 18 = .ok (.ireturn, 1) := by decide +kernel
theorem dL_movesIn_19 : decode cL_movesIn 19 = .ok (.iconst 0, 1) := by decide +kernel
theorem dL_movesIn_20 : decode cL_movesIn 20 = .ok (.ireturn, 1) := by decide +kernel
theorem dL_gained_0 : decode cL_gained 0 = .ok (.aload_n 2, 1) := by decide +kernel
theorem dL_gained_1 : decode cL_gained 1 = .ok (.iconst 0, 1) := by decide +kernel
theorem dL_gained_2 : decode cL_gained 2 = .ok (.aload_n 0, 1) := by decide +kernel
theorem dL_gained_3 : decode cL_gained 3 = .ok (.iload_n 1, 1) := by decide +kernel
theorem dL_gained_4 : decode cL_gained 4 = .ok (.invokevirtual 76, 3) := by decide +kernel
theorem dL_gained_7 : decode cL_gained 7 = .ok (.i2l, 1) := by decide +kernel
theorem dL_gained_8 : decode cL_gained 8 = .ok (.lastore, 1) := by decide +kernel
theorem dL_gained_9 : decode cL_gained 9 = .ok (.goto 6, 3) := by decide +kernel
theorem dL_gained_12 : decode cL_gained 12 = .ok (.astore_n 3, 1) := by decide +kernel
theorem dL_gained_13 : decode cL_gained 13 = .ok (.iconst 1, 1) := by decide +kernel
theorem dL_gained_14 : decode cL_gained 14 = .ok (.ireturn, 1) := by decide +kernel
theorem dL_gained_15 : decode cL_gained 15 = .ok (.iconst 0, 1) := by decide +kernel
theorem dL_gained_16 : decode cL_gained 16 = .ok (.ireturn, 1) := by decide +kernel
theorem dL_finished_0 : decode cL_finished 0 = .ok (.aload_n 2, 1) := by decide +kernel
theorem dL_finished_1 : decode cL_finished 1 = .ok (.iconst 0, 1) := by decide +kernel
theorem dL_finished_2 : decode cL_finished 2 = .ok (.aload_n 0, 1) := by decide +kernel
theorem dL_finished_3 : decode cL_finished 3 = .ok (.iload_n 1, 1) := by decide +kernel
theorem dL_finished_4 : decode cL_finished 4 = .ok (.invokevirtual 79, 3) := by decide +kernel
theorem dL_finished_7 : decode cL_finished 7 = .ok (.i2l, 1) := by decide +kernel
theorem dL_finished_8 : decode cL_finished 8 = .ok (.lastore, 1) := by decide +kernel
theorem dL_finished_9 : decode cL_finished 9 = .ok (.goto 6, 3) := by decide +kernel
theorem dL_finished_12 : decode cL_finished 12 = .ok (.astore_n 3, 1) := by decide +kernel
theorem dL_finished_13 : decode cL_finished 13 = .ok (.iconst 1, 1) := by decide +kernel
theorem dL_finished_14 : decode cL_finished 14 = .ok (.ireturn, 1) := by decide +kernel
theorem dL_finished_15 : decode cL_finished 15 = .ok (.iconst 0, 1) := by decide +kernel
theorem dL_finished_16 : decode cL_finished 16 = .ok (.ireturn, 1) := by decide +kernel
theorem dL_spent_0 : decode cL_spent 0 = .ok (.aload_n 3, 1) := by decide +kernel
theorem dL_spent_1 : decode cL_spent 1 = .ok (.iconst 0, 1) := by decide +kernel
theorem dL_spent_2 : decode cL_spent 2 = .ok (.aload_n 0, 1) := by decide +kernel
theorem dL_spent_3 : decode cL_spent 3 = .ok (.iload_n 1, 1) := by decide +kernel
theorem dL_spent_4 : decode cL_spent 4 = .ok (.iload_n 2, 1) := by decide +kernel
theorem dL_spent_5 : decode cL_spent 5 = .ok (.invokevirtual 82, 3) := by decide +kernel
theorem dL_spent_8 : decode cL_spent 8 = .ok (.i2l, 1) := by decide +kernel
theorem dL_spent_9 : decode cL_spent 9 = .ok (.lastore, 1) := by decide +kernel
theorem dL_spent_10 : decode cL_spent 10 = .ok (.goto 7, 3) := by decide +kernel
theorem dL_spent_13 : decode cL_spent 13 = .ok (.astore 4, 2) := by decide +kernel
theorem dL_spent_15 : decode cL_spent 15 = .ok (.iconst 1, 1) := by decide +kernel
theorem dL_spent_16 : decode cL_spent 16 = .ok (.ireturn, 1) := by decide +kernel
theorem dL_spent_17 : decode cL_spent 17 = .ok (.iconst 0, 1) := by decide +kernel
theorem dL_spent_18 : decode cL_spent 18 = .ok (.ireturn, 1) := by decide +kernel
theorem dL_within_0 : decode cL_within 0 = .ok (.aload_n 3, 1) := by decide +kernel
theorem dL_within_1 : decode cL_within 1 = .ok (.iconst 0, 1) := by decide +kernel
theorem dL_within_2 : decode cL_within 2 = .ok (.aload_n 0, 1) := by decide +kernel
theorem dL_within_3 : decode cL_within 3 = .ok (.iload_n 1, 1) := by decide +kernel
theorem dL_within_4 : decode cL_within 4 = .ok (.iload_n 2, 1) := by decide +kernel
theorem dL_within_5 : decode cL_within 5 = .ok (.invokevirtual 85, 3) := by decide +kernel
theorem dL_within_8 : decode cL_within 8 = .ok (.i2l, 1) := by decide +kernel
theorem dL_within_9 : decode cL_within 9 = .ok (.lastore, 1) := by decide +kernel
theorem dL_within_10 : decode cL_within 10 = .ok (.goto 11, 3) := by decide +kernel
theorem dL_within_13 : decode cL_within 13 = .ok (.astore 4, 2) := by decide +kernel
theorem dL_within_15 : decode cL_within 15 = .ok (.iconst 1, 1) := by decide +kernel
theorem dL_within_16 : decode cL_within 16 = .ok (.ireturn, 1) := by decide +kernel
theorem dL_within_17 : decode cL_within 17 = .ok (.astore 4, 2) := by decide +kernel
theorem dL_within_19 : decode cL_within 19 = .ok (.iconst 2, 1) := by decide +kernel
theorem dL_within_20 : decode cL_within 20 = .ok (.ireturn, 1) := by decide +kernel
theorem dL_within_21 : decode cL_within 21 = .ok (.iconst 0, 1) := by decide +kernel
theorem dL_within_22 : decode cL_within 22 = .ok (.ireturn, 1) := by decide +kernel
theorem dL_paceFor_0 : decode cL_paceFor 0 = .ok (.aload_n 3, 1) := by decide +kernel
theorem dL_paceFor_1 : decode cL_paceFor 1 = .ok (.iconst 0, 1) := by decide +kernel
theorem dL_paceFor_2 : decode cL_paceFor 2 = .ok (.aload_n 0, 1) := by decide +kernel
theorem dL_paceFor_3 : decode cL_paceFor 3 = .ok (.iload_n 1, 1) := by decide +kernel
theorem dL_paceFor_4 : decode cL_paceFor 4 = .ok (.iload_n 2, 1) := by decide +kernel
theorem dL_paceFor_5 : decode cL_paceFor 5 = .ok (.invokevirtual 88, 3) := by decide +kernel
theorem dL_paceFor_8 : decode cL_paceFor 8 = .ok (.i2l, 1) := by decide +kernel
theorem dL_paceFor_9 : decode cL_paceFor 9 = .ok (.lastore, 1) := by decide +kernel
theorem dL_paceFor_10 : decode cL_paceFor 10 = .ok (.goto 11, 3) := by decide +kernel
theorem dL_paceFor_13 : decode cL_paceFor 13 = .ok (.astore 4, 2) := by decide +kernel
theorem dL_paceFor_15 : decode cL_paceFor 15 = .ok (.iconst 1, 1) := by decide +kernel
theorem dL_paceFor_16 : decode cL_paceFor 16 = .ok (.ireturn, 1) := by decide +kernel
theorem dL_paceFor_17 : decode cL_paceFor 17 = .ok (.astore 4, 2) := by decide +kernel
theorem dL_paceFor_19 : decode cL_paceFor 19 = .ok (.iconst 2, 1) := by decide +kernel
theorem dL_paceFor_20 : decode cL_paceFor 20 = .ok (.ireturn, 1) := by decide +kernel
theorem dL_paceFor_21 : decode cL_paceFor 21 = .ok (.iconst 0, 1) := by decide +kernel
theorem dL_paceFor_22 : decode cL_paceFor 22 = .ok (.ireturn, 1) := by decide +kernel
theorem dL_needs_0 : decode cL_needs 0 = .ok (.aload 4, 2) := by decide +kernel
theorem dL_needs_2 : decode cL_needs 2 = .ok (.iconst 0, 1) := by decide +kernel
theorem dL_needs_3 : decode cL_needs 3 = .ok (.aload_n 0, 1) := by decide +kernel
theorem dL_needs_4 : decode cL_needs 4 = .ok (.iload_n 1, 1) := by decide +kernel
theorem dL_needs_5 : decode cL_needs 5 = .ok (.iload_n 2, 1) := by decide +kernel
theorem dL_needs_6 : decode cL_needs 6 = .ok (.iload_n 3, 1) := by decide +kernel
theorem dL_needs_7 : decode cL_needs 7 = .ok (.invokevirtual 91, 3) := by decide +kernel
theorem dL_needs_10 : decode cL_needs 10 = .ok (.i2l, 1) := by decide +kernel
theorem dL_needs_11 : decode cL_needs 11 = .ok (.lastore, 1) := by decide +kernel
theorem dL_needs_12 : decode cL_needs 12 = .ok (.goto 11, 3) := by decide +kernel
theorem dL_needs_15 : decode cL_needs 15 = .ok (.astore 5, 2) := by decide +kernel
theorem dL_needs_17 : decode cL_needs 17 = .ok (.iconst 1, 1) := by decide +kernel
theorem dL_needs_18 : decode cL_needs 18 = .ok (.ireturn, 1) := by decide +kernel
theorem dL_needs_19 : decode cL_needs 19 = .ok (.astore 5, 2) := by decide +kernel
theorem dL_needs_21 : decode cL_needs 21 = .ok (.iconst 2, 1) := by decide +kernel
theorem dL_needs_22 : decode cL_needs 22 = .ok (.ireturn, 1) := by decide +kernel
theorem dL_needs_23 : decode cL_needs 23 = .ok (.iconst 0, 1) := by decide +kernel
theorem dL_needs_24 : decode cL_needs 24 = .ok (.ireturn, 1) := by decide +kernel
theorem dL_aheadAfter_0 : decode cL_aheadAfter 0 = .ok (.aload 4, 2) := by decide +kernel
theorem dL_aheadAfter_2 : decode cL_aheadAfter 2 = .ok (.iconst 0, 1) := by decide +kernel
theorem dL_aheadAfter_3 : decode cL_aheadAfter 3 = .ok (.aload_n 0, 1) := by decide +kernel
theorem dL_aheadAfter_4 : decode cL_aheadAfter 4 = .ok (.iload_n 1, 1) := by decide +kernel
theorem dL_aheadAfter_5 : decode cL_aheadAfter 5 = .ok (.iload_n 2, 1) := by decide +kernel
theorem dL_aheadAfter_6 : decode cL_aheadAfter 6 = .ok (.iload_n 3, 1) := by decide +kernel
theorem dL_aheadAfter_7 : decode cL_aheadAfter 7 = .ok (.invokevirtual 94, 3) := by decide +kernel
theorem dL_aheadAfter_10 : decode cL_aheadAfter 10 = .ok (.i2l, 1) := by decide +kernel
theorem dL_aheadAfter_11 : decode cL_aheadAfter 11 = .ok (.lastore, 1) := by decide +kernel
theorem dL_aheadAfter_12 : decode cL_aheadAfter 12 = .ok (.goto 7, 3) := by decide +kernel
theorem dL_aheadAfter_15 : decode cL_aheadAfter 15 = .ok (.astore 5, 2) := by decide +kernel
theorem dL_aheadAfter_17 : decode cL_aheadAfter 17 = .ok (.iconst 1, 1) := by decide +kernel
theorem dL_aheadAfter_18 : decode cL_aheadAfter 18 = .ok (.ireturn, 1) := by decide +kernel
theorem dL_aheadAfter_19 : decode cL_aheadAfter 19 = .ok (.iconst 0, 1) := by decide +kernel
theorem dL_aheadAfter_20 : decode cL_aheadAfter 20 = .ok (.ireturn, 1) := by decide +kernel
theorem dL_start_0 : decode cL_start 0 = .ok (.aload_n 1, 1) := by decide +kernel
theorem dL_start_1 : decode cL_start 1 = .ok (.iconst 0, 1) := by decide +kernel
theorem dL_start_2 : decode cL_start 2 = .ok (.aload_n 0, 1) := by decide +kernel
theorem dL_start_3 : decode cL_start 3 = .ok (.invokevirtual 97, 3) := by decide +kernel
theorem dL_start_6 : decode cL_start 6 = .ok (.i2l, 1) := by decide +kernel
theorem dL_start_7 : decode cL_start 7 = .ok (.lastore, 1) := by decide +kernel
theorem dL_start_8 : decode cL_start 8 = .ok (.goto 6, 3) := by decide +kernel
theorem dL_start_11 : decode cL_start 11 = .ok (.astore_n 2, 1) := by decide +kernel
theorem dL_start_12 : decode cL_start 12 = .ok (.iconst 1, 1) := by decide +kernel
theorem dL_start_13 : decode cL_start 13 = .ok (.ireturn, 1) := by decide +kernel
theorem dL_start_14 : decode cL_start 14 = .ok (.iconst 0, 1) := by decide +kernel
theorem dL_start_15 : decode cL_start 15 = .ok (.ireturn, 1) := by decide +kernel
theorem dL_tick_0 : decode cL_tick 0 = .ok (.aload_n 2, 1) := by decide +kernel
theorem dL_tick_1 : decode cL_tick 1 = .ok (.iconst 0, 1) := by decide +kernel
theorem dL_tick_2 : decode cL_tick 2 = .ok (.aload_n 0, 1) := by decide +kernel
theorem dL_tick_3 : decode cL_tick 3 = .ok (.iload_n 1, 1) := by decide +kernel
theorem dL_tick_4 : decode cL_tick 4 = .ok (.invokevirtual 101, 3) := by decide +kernel
theorem dL_tick_7 : decode cL_tick 7 = .ok (.i2l, 1) := by decide +kernel
theorem dL_tick_8 : decode cL_tick 8 = .ok (.lastore, 1) := by decide +kernel
theorem dL_tick_9 : decode cL_tick 9 = .ok (.goto 6, 3) := by decide +kernel
theorem dL_tick_12 : decode cL_tick 12 = .ok (.astore_n 3, 1) := by decide +kernel
theorem dL_tick_13 : decode cL_tick 13 = .ok (.iconst 1, 1) := by decide +kernel
theorem dL_tick_14 : decode cL_tick 14 = .ok (.ireturn, 1) := by decide +kernel
theorem dL_tick_15 : decode cL_tick 15 = .ok (.iconst 0, 1) := by decide +kernel
theorem dL_tick_16 : decode cL_tick 16 = .ok (.ireturn, 1) := by decide +kernel
theorem dL_move_0 : decode cL_move 0 = .ok (.aload_n 1, 1) := by decide +kernel
theorem dL_move_1 : decode cL_move 1 = .ok (.iconst 0, 1) := by decide +kernel
theorem dL_move_2 : decode cL_move 2 = .ok (.aload_n 0, 1) := by decide +kernel
theorem dL_move_3 : decode cL_move 3 = .ok (.invokevirtual 104, 3) := by decide +kernel
theorem dL_move_6 : decode cL_move 6 = .ok (.i2l, 1) := by decide +kernel
theorem dL_move_7 : decode cL_move 7 = .ok (.lastore, 1) := by decide +kernel
theorem dL_move_8 : decode cL_move 8 = .ok (.goto 6, 3) := by decide +kernel
theorem dL_move_11 : decode cL_move 11 = .ok (.astore_n 2, 1) := by decide +kernel
theorem dL_move_12 : decode cL_move 12 = .ok (.iconst 1, 1) := by decide +kernel
theorem dL_move_13 : decode cL_move 13 = .ok (.ireturn, 1) := by decide +kernel
theorem dL_move_14 : decode cL_move 14 = .ok (.iconst 0, 1) := by decide +kernel
theorem dL_move_15 : decode cL_move 15 = .ok (.ireturn, 1) := by decide +kernel
theorem dL_pause_0 : decode cL_pause 0 = .ok (.aload_n 1, 1) := by decide +kernel
theorem dL_pause_1 : decode cL_pause 1 = .ok (.iconst 0, 1) := by decide +kernel
theorem dL_pause_2 : decode cL_pause 2 = .ok (.aload_n 0, 1) := by decide +kernel
theorem dL_pause_3 : decode cL_pause 3 = .ok (.invokevirtual 107, 3) := by decide +kernel
theorem dL_pause_6 : decode cL_pause 6 = .ok (.i2l, 1) := by decide +kernel
theorem dL_pause_7 : decode cL_pause 7 = .ok (.lastore, 1) := by decide +kernel
theorem dL_pause_8 : decode cL_pause 8 = .ok (.goto 6, 3) := by decide +kernel
theorem dL_pause_11 : decode cL_pause 11 = .ok (.astore_n 2, 1) := by decide +kernel
theorem dL_pause_12 : decode cL_pause 12 = .ok (.iconst 1, 1) := by decide +kernel
theorem dL_pause_13 : decode cL_pause 13 = .ok (.ireturn, 1) := by decide +kernel
theorem dL_pause_14 : decode cL_pause 14 = .ok (.iconst 0, 1) := by decide +kernel
theorem dL_pause_15 : decode cL_pause 15 = .ok (.ireturn, 1) := by decide +kernel
theorem dL_proceed_0 : decode cL_proceed 0 = .ok (.aload_n 1, 1) := by decide +kernel
theorem dL_proceed_1 : decode cL_proceed 1 = .ok (.iconst 0, 1) := by decide +kernel
theorem dL_proceed_2 : decode cL_proceed 2 = .ok (.aload_n 0, 1) := by decide +kernel
theorem dL_proceed_3 : decode cL_proceed 3 = .ok (.invokevirtual 110, 3) := by decide +kernel
theorem dL_proceed_6 : decode cL_proceed 6 = .ok (.i2l, 1) := by decide +kernel
theorem dL_proceed_7 : decode cL_proceed 7 = .ok (.lastore, 1) := by decide +kernel
theorem dL_proceed_8 : decode cL_proceed 8 = .ok (.goto 6, 3) := by decide +kernel
theorem dL_proceed_11 : decode cL_proceed 11 = .ok (.astore_n 2, 1) := by decide +kernel
theorem dL_proceed_12 : decode cL_proceed 12 = .ok (.iconst 1, 1) := by decide +kernel
theorem dL_proceed_13 : decode cL_proceed 13 = .ok (.ireturn, 1) := by decide +kernel
theorem dL_proceed_14 : decode cL_proceed 14 = .ok (.iconst 0, 1) := by decide +kernel
theorem dL_proceed_15 : decode cL_proceed 15 = .ok (.ireturn, 1) := by decide +kernel
theorem dL_seal_0 : decode cL_seal 0 = .ok (.aload_n 1, 1) := by decide +kernel
theorem dL_seal_1 : decode cL_seal 1 = .ok (.iconst 0, 1) := by decide +kernel
theorem dL_seal_2 : decode cL_seal 2 = .ok (.aload_n 0, 1) := by decide +kernel
theorem dL_seal_3 : decode cL_seal 3 = .ok (.invokevirtual 113, 3) := by decide +kernel
theorem dL_seal_6 : decode cL_seal 6 = .ok (.i2l, 1) := by decide +kernel
theorem dL_seal_7 : decode cL_seal 7 = .ok (.lastore, 1) := by decide +kernel
theorem dL_seal_8 : decode cL_seal 8 = .ok (.goto 6, 3) := by decide +kernel
theorem dL_seal_11 : decode cL_seal 11 = .ok (.astore_n 2, 1) := by decide +kernel
theorem dL_seal_12 : decode cL_seal 12 = .ok (.iconst 1, 1) := by decide +kernel
theorem dL_seal_13 : decode cL_seal 13 = .ok (.ireturn, 1) := by decide +kernel
theorem dL_seal_14 : decode cL_seal 14 = .ok (.iconst 0, 1) := by decide +kernel
theorem dL_seal_15 : decode cL_seal 15 = .ok (.ireturn, 1) := by decide +kernel
theorem dL_open_0 : decode cL_open 0 = .ok (.aload_n 1, 1) := by decide +kernel
theorem dL_open_1 : decode cL_open 1 = .ok (.iconst 0, 1) := by decide +kernel
theorem dL_open_2 : decode cL_open 2 = .ok (.aload_n 0, 1) := by decide +kernel
theorem dL_open_3 : decode cL_open 3 = .ok (.invokevirtual 116, 3) := by decide +kernel
theorem dL_open_6 : decode cL_open 6 = .ok (.i2l, 1) := by decide +kernel
theorem dL_open_7 : decode cL_open 7 = .ok (.lastore, 1) := by decide +kernel
theorem dL_open_8 : decode cL_open 8 = .ok (.goto 6, 3) := by decide +kernel
theorem dL_open_11 : decode cL_open 11 = .ok (.astore_n 2, 1) := by decide +kernel
theorem dL_open_12 : decode cL_open 12 = .ok (.iconst 1, 1) := by decide +kernel
theorem dL_open_13 : decode cL_open 13 = .ok (.ireturn, 1) := by decide +kernel
theorem dL_open_14 : decode cL_open 14 = .ok (.iconst 0, 1) := by decide +kernel
theorem dL_open_15 : decode cL_open 15 = .ok (.ireturn, 1) := by decide +kernel
theorem dL_claim_0 : decode cL_claim 0 = .ok (.aload_n 2, 1) := by decide +kernel
theorem dL_claim_1 : decode cL_claim 1 = .ok (.iconst 0, 1) := by decide +kernel
theorem dL_claim_2 : decode cL_claim 2 = .ok (.aload_n 0, 1) := by decide +kernel
theorem dL_claim_3 : decode cL_claim 3 = .ok (.iload_n 1, 1) := by decide +kernel
theorem dL_claim_4 : decode cL_claim 4 = .ok (.invokevirtual 119, 3) := by decide +kernel
theorem dL_claim_7 : decode cL_claim 7 = .ok (.i2l, 1) := by decide +kernel
theorem dL_claim_8 : decode cL_claim 8 = .ok (.lastore, 1) := by decide +kernel
theorem dL_claim_9 : decode cL_claim 9 = .ok (.goto 9, 3) := by decide +kernel
theorem dL_claim_12 : decode cL_claim 12 = .ok (.astore_n 3, 1) := by decide +kernel
theorem dL_claim_13 : decode cL_claim 13 = .ok (.iconst 1, 1) := by decide +kernel
theorem dL_claim_14 : decode cL_claim 14 = .ok (.ireturn, 1) := by decide +kernel
theorem dL_claim_15 : decode cL_claim 15 = .ok (.astore_n 3, 1) := by decide +kernel
theorem dL_claim_16 : decode cL_claim 16 = .ok (.iconst 2, 1) := by decide +kernel
theorem dL_claim_17 : decode cL_claim 17 = .ok (.ireturn, 1) := by decide +kernel
theorem dL_claim_18 : decode cL_claim 18 = .ok (.iconst 0, 1) := by decide +kernel
theorem dL_claim_19 : decode cL_claim 19 = .ok (.ireturn, 1) := by decide +kernel
theorem dL_resign_0 : decode cL_resign 0 = .ok (.aload_n 2, 1) := by decide +kernel
theorem dL_resign_1 : decode cL_resign 1 = .ok (.iconst 0, 1) := by decide +kernel
theorem dL_resign_2 : decode cL_resign 2 = .ok (.aload_n 0, 1) := by decide +kernel
theorem dL_resign_3 : decode cL_resign 3 = .ok (.iload_n 1, 1) := by decide +kernel
theorem dL_resign_4 : decode cL_resign 4 = .ok (.invokevirtual 122, 3) := by decide +kernel
theorem dL_resign_7 : decode cL_resign 7 = .ok (.i2l, 1) := by decide +kernel
theorem dL_resign_8 : decode cL_resign 8 = .ok (.lastore, 1) := by decide +kernel
theorem dL_resign_9 : decode cL_resign 9 = .ok (.goto 9, 3) := by decide +kernel
theorem dL_resign_12 : decode cL_resign 12 = .ok (.astore_n 3, 1) := by decide +kernel
theorem dL_resign_13 : decode cL_resign 13 = .ok (.iconst 1, 1) := by decide +kernel
theorem dL_resign_14 : decode cL_resign 14 = .ok (.ireturn, 1) := by decide +kernel
theorem dL_resign_15 : decode cL_resign 15 = .ok (.astore_n 3, 1) := by decide +kernel
theorem dL_resign_16 : decode cL_resign 16 = .ok (.iconst 2, 1) := by decide +kernel
theorem dL_resign_17 : decode cL_resign 17 = .ok (.ireturn, 1) := by decide +kernel
theorem dL_resign_18 : decode cL_resign 18 = .ok (.iconst 0, 1) := by decide +kernel
theorem dL_resign_19 : decode cL_resign 19 = .ok (.ireturn, 1) := by decide +kernel
theorem dL_give_0 : decode cL_give 0 = .ok (.aload_n 3, 1) := by decide +kernel
theorem dL_give_1 : decode cL_give 1 = .ok (.iconst 0, 1) := by decide +kernel
theorem dL_give_2 : decode cL_give 2 = .ok (.aload_n 0, 1) := by decide +kernel
theorem dL_give_3 : decode cL_give 3 = .ok (.iload_n 1, 1) := by decide +kernel
theorem dL_give_4 : decode cL_give 4 = .ok (.iload_n 2, 1) := by decide +kernel
theorem dL_give_5 : decode cL_give 5 = .ok (.invokevirtual 125, 3) := by decide +kernel
theorem dL_give_8 : decode cL_give 8 = .ok (.i2l, 1) := by decide +kernel
theorem dL_give_9 : decode cL_give 9 = .ok (.lastore, 1) := by decide +kernel
theorem dL_give_10 : decode cL_give 10 = .ok (.goto 15, 3) := by decide +kernel
theorem dL_give_13 : decode cL_give 13 = .ok (.astore 4, 2) := by decide +kernel
theorem dL_give_15 : decode cL_give 15 = .ok (.iconst 1, 1) := by decide +kernel
theorem dL_give_16 : decode cL_give 16 = .ok (.ireturn, 1) := by decide +kernel
theorem dL_give_17 : decode cL_give 17 = .ok (.astore 4, 2) := by decide +kernel
theorem dL_give_19 : decode cL_give 19 = .ok (.iconst 2, 1) := by decide +kernel
theorem dL_give_20 : decode cL_give 20 = .ok (.ireturn, 1) := by decide +kernel
theorem dL_give_21 : decode cL_give 21 = .ok (.astore 4, 2) := by decide +kernel
theorem dL_give_23 : decode cL_give 23 = .ok (.iconst 3, 1) := by decide +kernel
theorem dL_give_24 : decode cL_give 24 = .ok (.ireturn, 1) := by decide +kernel
theorem dL_give_25 : decode cL_give 25 = .ok (.iconst 0, 1) := by decide +kernel
theorem dL_give_26 : decode cL_give 26 = .ok (.ireturn, 1) := by decide +kernel
theorem dL_setBare_0 : decode cL_setBare 0 = .ok (.aload_n 3, 1) := by decide +kernel
theorem dL_setBare_1 : decode cL_setBare 1 = .ok (.iconst 0, 1) := by decide +kernel
theorem dL_setBare_2 : decode cL_setBare 2 = .ok (.aload_n 0, 1) := by decide +kernel
theorem dL_setBare_3 : decode cL_setBare 3 = .ok (.iload_n 1, 1) := by decide +kernel
theorem dL_setBare_4 : decode cL_setBare 4 = .ok (.iload_n 2, 1) := by decide +kernel
theorem dL_setBare_5 : decode cL_setBare 5 = .ok (.invokevirtual 128, 3) := by decide +kernel
theorem dL_setBare_8 : decode cL_setBare 8 = .ok (.ifCond .eq 7, 3) := by decide +kernel
theorem dL_setBare_11 : decode cL_setBare 11 = .ok (.lconst 1, 1) := by decide +kernel
theorem dL_setBare_12 : decode cL_setBare 12 = .ok (.goto 4, 3) := by decide +kernel
theorem dL_setBare_15 : decode cL_setBare 15 = .ok (.lconst 0, 1) := by decide +kernel
theorem dL_setBare_16 : decode cL_setBare 16 = .ok (.lastore, 1) := by decide +kernel
theorem dL_setBare_17 : decode cL_setBare 17 = .ok (.goto 7, 3) := by decide +kernel
theorem dL_setBare_20 : decode cL_setBare 20 = .ok (.astore 4, 2) := by decide +kernel
theorem dL_setBare_22 : decode cL_setBare 22 = .ok (.iconst 1, 1) := by decide +kernel
theorem dL_setBare_23 : decode cL_setBare 23 = .ok (.ireturn, 1) := by decide +kernel
theorem dL_setBare_24 : decode cL_setBare 24 = .ok (.iconst 0, 1) := by decide +kernel
theorem dL_setBare_25 : decode cL_setBare 25 = .ok (.ireturn, 1) := by decide +kernel
theorem dL_setPeriod_0 : decode cL_setPeriod 0 = .ok (.aload 4, 2) := by decide +kernel
theorem dL_setPeriod_2 : decode cL_setPeriod 2 = .ok (.iconst 0, 1) := by decide +kernel
theorem dL_setPeriod_3 : decode cL_setPeriod 3 = .ok (.aload_n 0, 1) := by decide +kernel
theorem dL_setPeriod_4 : decode cL_setPeriod 4 = .ok (.iload_n 1, 1) := by decide +kernel
theorem dL_setPeriod_5 : decode cL_setPeriod 5 = .ok (.iload_n 2, 1) := by decide +kernel
theorem dL_setPeriod_6 : decode cL_setPeriod 6 = .ok (.iload_n 3, 1) := by decide +kernel
theorem dL_setPeriod_7 : decode cL_setPeriod 7 = .ok (.invokevirtual 132, 3) := by decide +kernel
theorem dL_setPeriod_10 : decode cL_setPeriod 10 = .ok (.i2l, 1) := by decide +kernel
theorem dL_setPeriod_11 : decode cL_setPeriod 11 = .ok (.lastore, 1) := by decide +kernel
theorem dL_setPeriod_12 : decode cL_setPeriod 12 = .ok (.goto 11, 3) := by decide +kernel
theorem dL_setPeriod_15 : decode cL_setPeriod 15 = .ok (.astore 5, 2) := by decide +kernel
theorem dL_setPeriod_17 : decode cL_setPeriod 17 = .ok (.iconst 1, 1) := by decide +kernel
theorem dL_setPeriod_18 : decode cL_setPeriod 18 = .ok (.ireturn, 1) := by decide +kernel
theorem dL_setPeriod_19 : decode cL_setPeriod 19 = .ok (.astore 5, 2) := by decide +kernel
theorem dL_setPeriod_21 : decode cL_setPeriod 21 = .ok (.iconst 2, 1) := by decide +kernel
theorem dL_setPeriod_22 : decode cL_setPeriod 22 = .ok (.ireturn, 1) := by decide +kernel
theorem dL_setPeriod_23 : decode cL_setPeriod 23 = .ok (.iconst 0, 1) := by decide +kernel
theorem dL_setPeriod_24 : decode cL_setPeriod 24 = .ok (.ireturn, 1) := by decide +kernel
theorem dL_swap_0 : decode cL_swap 0 = .ok (.aload_n 1, 1) := by decide +kernel
theorem dL_swap_1 : decode cL_swap 1 = .ok (.iconst 0, 1) := by decide +kernel
theorem dL_swap_2 : decode cL_swap 2 = .ok (.aload_n 0, 1) := by decide +kernel
theorem dL_swap_3 : decode cL_swap 3 = .ok (.invokevirtual 135, 3) := by decide +kernel
theorem dL_swap_6 : decode cL_swap 6 = .ok (.i2l, 1) := by decide +kernel
theorem dL_swap_7 : decode cL_swap 7 = .ok (.lastore, 1) := by decide +kernel
theorem dL_swap_8 : decode cL_swap 8 = .ok (.goto 6, 3) := by decide +kernel
theorem dL_swap_11 : decode cL_swap 11 = .ok (.astore_n 2, 1) := by decide +kernel
theorem dL_swap_12 : decode cL_swap 12 = .ok (.iconst 1, 1) := by decide +kernel
theorem dL_swap_13 : decode cL_swap 13 = .ok (.ireturn, 1) := by decide +kernel
theorem dL_swap_14 : decode cL_swap 14 = .ok (.iconst 0, 1) := by decide +kernel
theorem dL_swap_15 : decode cL_swap 15 = .ok (.ireturn, 1) := by decide +kernel
theorem dL_keep_0 : decode cL_keep 0 = .ok (.aload_n 2, 1) := by decide +kernel
theorem dL_keep_1 : decode cL_keep 1 = .ok (.iconst 0, 1) := by decide +kernel
theorem dL_keep_2 : decode cL_keep 2 = .ok (.aload_n 0, 1) := by decide +kernel
theorem dL_keep_3 : decode cL_keep 3 = .ok (.iload_n 1, 1) := by decide +kernel
theorem dL_keep_4 : decode cL_keep 4 = .ok (.invokevirtual 138, 3) := by decide +kernel
theorem dL_keep_7 : decode cL_keep 7 = .ok (.i2l, 1) := by decide +kernel
theorem dL_keep_8 : decode cL_keep 8 = .ok (.lastore, 1) := by decide +kernel
theorem dL_keep_9 : decode cL_keep 9 = .ok (.goto 6, 3) := by decide +kernel
theorem dL_keep_12 : decode cL_keep 12 = .ok (.astore_n 3, 1) := by decide +kernel
theorem dL_keep_13 : decode cL_keep 13 = .ok (.iconst 1, 1) := by decide +kernel
theorem dL_keep_14 : decode cL_keep 14 = .ok (.ireturn, 1) := by decide +kernel
theorem dL_keep_15 : decode cL_keep 15 = .ok (.iconst 0, 1) := by decide +kernel
theorem dL_keep_16 : decode cL_keep 16 = .ok (.ireturn, 1) := by decide +kernel
theorem dL_restore_0 : decode cL_restore 0 = .ok (.aload_n 2, 1) := by decide +kernel
theorem dL_restore_1 : decode cL_restore 1 = .ok (.iconst 0, 1) := by decide +kernel
theorem dL_restore_2 : decode cL_restore 2 = .ok (.aload_n 0, 1) := by decide +kernel
theorem dL_restore_3 : decode cL_restore 3 = .ok (.iload_n 1, 1) := by decide +kernel
theorem dL_restore_4 : decode cL_restore 4 = .ok (.invokevirtual 141, 3) := by decide +kernel
theorem dL_restore_7 : decode cL_restore 7 = .ok (.i2l, 1) := by decide +kernel
theorem dL_restore_8 : decode cL_restore 8 = .ok (.lastore, 1) := by decide +kernel
theorem dL_restore_9 : decode cL_restore 9 = .ok (.goto 9, 3) := by decide +kernel
theorem dL_restore_12 : decode cL_restore 12 = .ok (.astore_n 3, 1) := by decide +kernel
theorem dL_restore_13 : decode cL_restore 13 = .ok (.iconst 1, 1) := by decide +kernel
theorem dL_restore_14 : decode cL_restore 14 = .ok (.ireturn, 1) := by decide +kernel
theorem dL_restore_15 : decode cL_restore 15 = .ok (.astore_n 3, 1) := by decide +kernel
theorem dL_restore_16 : decode cL_restore 16 = .ok (.iconst 2, 1) := by decide +kernel
theorem dL_restore_17 : decode cL_restore 17 = .ok (.ireturn, 1) := by decide +kernel
theorem dL_restore_18 : decode cL_restore 18 = .ok (.iconst 0, 1) := by decide +kernel
theorem dL_restore_19 : decode cL_restore 19 = .ok (.ireturn, 1) := by decide +kernel
theorem dL_undo_0 : decode cL_undo 0 = .ok (.aload_n 1, 1) := by decide +kernel
theorem dL_undo_1 : decode cL_undo 1 = .ok (.iconst 0, 1) := by decide +kernel
theorem dL_undo_2 : decode cL_undo 2 = .ok (.aload_n 0, 1) := by decide +kernel
theorem dL_undo_3 : decode cL_undo 3 = .ok (.invokevirtual 144, 3) := by decide +kernel
theorem dL_undo_6 : decode cL_undo 6 = .ok (.i2l, 1) := by decide +kernel
theorem dL_undo_7 : decode cL_undo 7 = .ok (.lastore, 1) := by decide +kernel
theorem dL_undo_8 : decode cL_undo 8 = .ok (.goto 6, 3) := by decide +kernel
theorem dL_undo_11 : decode cL_undo 11 = .ok (.astore_n 2, 1) := by decide +kernel
theorem dL_undo_12 : decode cL_undo 12 = .ok (.iconst 1, 1) := by decide +kernel
theorem dL_undo_13 : decode cL_undo 13 = .ok (.ireturn, 1) := by decide +kernel
theorem dL_undo_14 : decode cL_undo 14 = .ok (.iconst 0, 1) := by decide +kernel
theorem dL_undo_15 : decode cL_undo 15 = .ok (.ireturn, 1) := by decide +kernel
theorem dL_outputByte_0 : decode cL_outputByte 0 = .ok (.aload_n 2, 1) := by decide +kernel
theorem dL_outputByte_1 : decode cL_outputByte 1 = .ok (.iconst 0, 1) := by decide +kernel
theorem dL_outputByte_2 : decode cL_outputByte 2 = .ok (.aload_n 0, 1) := by decide +kernel
theorem dL_outputByte_3 : decode cL_outputByte 3 = .ok (.iload_n 1, 1) := by decide +kernel
theorem dL_outputByte_4 : decode cL_outputByte 4 = .ok (.invokevirtual 147, 3) := by decide +kernel
theorem dL_outputByte_7 : decode cL_outputByte 7 = .ok (.i2l, 1) := by decide +kernel
theorem dL_outputByte_8 : decode cL_outputByte 8 = .ok (.lastore, 1) := by decide +kernel
theorem dL_outputByte_9 : decode cL_outputByte 9 = .ok (.goto 6, 3) := by decide +kernel
theorem dL_outputByte_12 : decode cL_outputByte 12 = .ok (.astore_n 3, 1) := by decide +kernel
theorem dL_outputByte_13 : decode cL_outputByte 13 = .ok (.iconst 1, 1) := by decide +kernel
theorem dL_outputByte_14 : decode cL_outputByte 14 = .ok (.ireturn, 1) := by decide +kernel
theorem dL_outputByte_15 : decode cL_outputByte 15 = .ok (.iconst 0, 1) := by decide +kernel
theorem dL_outputByte_16 : decode cL_outputByte 16 = .ok (.ireturn, 1) := by decide +kernel
theorem dL_law_0 : decode cL_law 0 = .ok (.new 8, 3) := by decide +kernel
theorem dL_law_3 : decode cL_law 3 = .ok (.dup, 1) := by decide +kernel
theorem dL_law_4 : decode cL_law 4 = .ok (.invokespecial 152, 3) := by decide +kernel
theorem dL_law_7 : decode cL_law 7 = .ok (.astore_n 1, 1) := by decide +kernel
theorem dL_law_8 : decode cL_law 8 = .ok (.new 153, 3) := by decide +kernel
theorem dL_law_11 : decode cL_law 11 = .ok (.dup, 1) := by decide +kernel
theorem dL_law_12 : decode cL_law 12 = .ok (.invokespecial 155, 3) := by decide +kernel
theorem dL_law_15 : decode cL_law 15 = .ok (.astore_n 2, 1) := by decide +kernel
theorem dL_law_16 : decode cL_law 16 = .ok (.iconst 1, 1) := by decide +kernel
theorem dL_law_17 : decode cL_law 17 = .ok (.newarray .long, 2) := by decide +kernel
theorem dL_law_19 : decode cL_law 19 = .ok (.astore_n 3, 1) := by decide +kernel
theorem dL_law_20 : decode cL_law 20 = .ok (.iconst 1, 1) := by decide +kernel
theorem dL_law_21 : decode cL_law 21 = .ok (.newarray .double, 2) := by decide +kernel
theorem dL_law_23 : decode cL_law 23 = .ok (.astore 4, 2) := by decide +kernel
theorem dL_law_25 : decode cL_law 25 = .ok (.iconst 0, 1) := by decide +kernel
theorem dL_law_26 : decode cL_law 26 = .ok (.istore 5, 2) := by decide +kernel
theorem dL_law_28 : decode cL_law 28 = .ok (.iload 5, 2) := by decide +kernel
theorem dL_law_30 : decode cL_law 30 = .ok (.aload_n 0, 1) := by decide +kernel
theorem dL_law_31 : decode cL_law 31 = .ok (.arraylength, 1) := by decide +kernel
theorem dL_law_32 : decode cL_law 32 = .ok (.bipush 6, 2) := by decide +kernel
theorem dL_law_34 : decode cL_law 34 = .ok (.isub, 1) := by decide +kernel
theorem dL_law_35 : decode cL_law 35 = .ok (.if_icmp .gt 3038, 3) := by decide +kernel
theorem dL_law_38 : decode cL_law 38 = .ok (.aload_n 0, 1) := by decide +kernel
theorem dL_law_39 : decode cL_law 39 = .ok (.iload 5, 2) := by decide +kernel
theorem dL_law_41 : decode cL_law 41 = .ok (.iaload, 1) := by decide +kernel
theorem dL_law_42 : decode cL_law 42 = .ok (.bipush 63, 2) := by decide +kernel
theorem dL_law_44 : decode cL_law 44 = .ok (.iand, 1) := by decide +kernel
theorem dL_law_45 : decode cL_law 45 = .ok (.tableswitch 3022 0 54 #[235, 339, 375, 388, 401, 414, 470, 538, 606, 674, 730, 786, 842, 898, 966, 979, 1035, 1112, 1190, 1258, 1271, 1284, 1297, 1365, 1433, 1513, 1569, 1625, 1693, 1706, 1774, 1842, 1922, 2002, 2046, 2102, 2146, 2190, 2234, 2278, 2322, 2378, 2434, 2502, 2593, 2634, 2714, 2758, 2814, 2870, 2914, 2927, 2940, 2953, 2966], 235) := by decide +kernel
theorem dL_law_280 : decode cL_law 280 = .ok (.aload_n 1, 1) := by decide +kernel
theorem dL_law_281 : decode cL_law 281 = .ok (.aload_n 0, 1) := by decide +kernel
theorem dL_law_282 : decode cL_law 282 = .ok (.iload 5, 2) := by decide +kernel
theorem dL_law_284 : decode cL_law 284 = .ok (.iconst 1, 1) := by decide +kernel
theorem dL_law_285 : decode cL_law 285 = .ok (.iadd, 1) := by decide +kernel
theorem dL_law_286 : decode cL_law 286 = .ok (.iaload, 1) := by decide +kernel
theorem dL_law_287 : decode cL_law 287 = .ok (.aload_n 0, 1) := by decide +kernel
theorem dL_law_288 : decode cL_law 288 = .ok (.iload 5, 2) := by decide +kernel
theorem dL_law_290 : decode cL_law 290 = .ok (.iconst 2, 1) := by decide +kernel
theorem dL_law_291 : decode cL_law 291 = .ok (.iadd, 1) := by decide +kernel
theorem dL_law_292 : decode cL_law 292 = .ok (.iaload, 1) := by decide +kernel
theorem dL_law_293 : decode cL_law 293 = .ok (.aload_n 0, 1) := by decide +kernel
theorem dL_law_294 : decode cL_law 294 = .ok (.iload 5, 2) := by decide +kernel
theorem dL_law_296 : decode cL_law 296 = .ok (.iconst 3, 1) := by decide +kernel
theorem dL_law_297 : decode cL_law 297 = .ok (.iadd, 1) := by decide +kernel
theorem dL_law_298 : decode cL_law 298 = .ok (.iaload, 1) := by decide +kernel
theorem dL_law_299 : decode cL_law 299 = .ok (.aload_n 0, 1) := by decide +kernel
theorem dL_law_300 : decode cL_law 300 = .ok (.iload 5, 2) := by decide +kernel
theorem dL_law_302 : decode cL_law 302 = .ok (.iconst 4, 1) := by decide +kernel
theorem dL_law_303 : decode cL_law 303 = .ok (.iadd, 1) := by decide +kernel
theorem dL_law_304 : decode cL_law 304 = .ok (.iaload, 1) := by decide +kernel
theorem dL_law_305 : decode cL_law 305 = .ok (.aload_n 0, 1) := by decide +kernel
theorem dL_law_306 : decode cL_law 306 = .ok (.iload 5, 2) := by decide +kernel
theorem dL_law_308 : decode cL_law 308 = .ok (.iconst 5, 1) := by decide +kernel
theorem dL_law_309 : decode cL_law 309 = .ok (.iadd, 1) := by decide +kernel
theorem dL_law_310 : decode cL_law 310 = .ok (.iaload, 1) := by decide +kernel
theorem dL_law_311 : decode cL_law 311 = .ok (.aload_n 3, 1) := by decide +kernel
theorem dL_law_312 : decode cL_law 312 = .ok (.invokestatic 156, 3) := by decide +kernel
theorem dL_law_315 : decode cL_law 315 = .ok (.istore 6, 2) := by decide +kernel
theorem dL_law_317 : decode cL_law 317 = .ok (.aload_n 2, 1) := by decide +kernel
theorem dL_law_318 : decode cL_law 318 = .ok (.aload_n 0, 1) := by decide +kernel
theorem dL_law_319 : decode cL_law 319 = .ok (.iload 5, 2) := by decide +kernel
theorem dL_law_321 : decode cL_law 321 = .ok (.iconst 1, 1) := by decide +kernel
theorem dL_law_322 : decode cL_law 322 = .ok (.iadd, 1) := by decide +kernel
theorem dL_law_323 : decode cL_law 323 = .ok (.iaload, 1) := by decide +kernel
theorem dL_law_324 : decode cL_law 324 = .ok (.aload_n 0, 1) := by decide +kernel
theorem dL_law_325 : decode cL_law 325 = .ok (.iload 5, 2) := by decide +kernel
theorem dL_law_327 : decode cL_law 327 = .ok (.iconst 2, 1) := by decide +kernel
theorem dL_law_328 : decode cL_law 328 = .ok (.iadd, 1) := by decide +kernel
theorem dL_law_329 : decode cL_law 329 = .ok (.iaload, 1) := by decide +kernel
theorem dL_law_330 : decode cL_law 330 = .ok (.aload_n 0, 1) := by decide +kernel
theorem dL_law_331 : decode cL_law 331 = .ok (.iload 5, 2) := by decide +kernel
theorem dL_law_333 : decode cL_law 333 = .ok (.iconst 3, 1) := by decide +kernel
theorem dL_law_334 : decode cL_law 334 = .ok (.iadd, 1) := by decide +kernel
theorem dL_law_335 : decode cL_law 335 = .ok (.iaload, 1) := by decide +kernel
theorem dL_law_336 : decode cL_law 336 = .ok (.aload_n 0, 1) := by decide +kernel
theorem dL_law_337 : decode cL_law 337 = .ok (.iload 5, 2) := by decide +kernel
theorem dL_law_339 : decode cL_law 339 = .ok (.iconst 4, 1) := by decide +kernel
theorem dL_law_340 : decode cL_law 340 = .ok (.iadd, 1) := by decide +kernel
theorem dL_law_341 : decode cL_law 341 = .ok (.iaload, 1) := by decide +kernel
theorem dL_law_342 : decode cL_law 342 = .ok (.aload_n 0, 1) := by decide +kernel
theorem dL_law_343 : decode cL_law 343 = .ok (.iload 5, 2) := by decide +kernel
theorem dL_law_345 : decode cL_law 345 = .ok (.iconst 5, 1) := by decide +kernel
theorem dL_law_346 : decode cL_law 346 = .ok (.iadd, 1) := by decide +kernel
theorem dL_law_347 : decode cL_law 347 = .ok (.iaload, 1) := by decide +kernel
theorem dL_law_348 : decode cL_law 348 = .ok (.invokevirtual 161, 3) := by decide +kernel
theorem dL_law_351 : decode cL_law 351 = .ok (.istore 7, 2) := by decide +kernel
theorem dL_law_353 : decode cL_law 353 = .ok (.aload_n 2, 1) := by decide +kernel
theorem dL_law_354 : decode cL_law 354 = .ok (.invokevirtual 162, 3) := by decide +kernel
theorem dL_law_357 : decode cL_law 357 = .ok (.iload 6, 2) := by decide +kernel
theorem dL_law_359 : decode cL_law 359 = .ok (.if_icmp .eq 5, 3) := by decide +kernel
theorem dL_law_362 : decode cL_law 362 = .ok (.iconst 0, 1) := by decide +kernel
theorem dL_law_363 : decode cL_law 363 = .ok (.ireturn, 1) := by decide +kernel
theorem dL_law_364 : decode cL_law 364 = .ok (.iload 6, 2) := by decide +kernel
theorem dL_law_366 : decode cL_law 366 = .ok (.ifCond .ne 15, 3) := by decide +kernel
theorem dL_law_369 : decode cL_law 369 = .ok (.aload_n 3, 1) := by decide +kernel
theorem dL_law_370 : decode cL_law 370 = .ok (.iconst 0, 1) := by decide +kernel
theorem dL_law_371 : decode cL_law 371 = .ok (.laload, 1) := by decide +kernel
theorem dL_law_372 : decode cL_law 372 = .ok (.iload 7, 2) := by decide +kernel
theorem dL_law_374 : decode cL_law 374 = .ok (.i2l, 1) := by decide +kernel
theorem dL_law_375 : decode cL_law 375 = .ok (.lcmp, 1) := by decide +kernel
theorem dL_law_376 : decode cL_law 376 = .ok (.ifCond .eq 5, 3) := by decide +kernel
theorem dL_law_379 : decode cL_law 379 = .ok (.iconst 0, 1) := by decide +kernel
theorem dL_law_380 : decode cL_law 380 = .ok (.ireturn, 1) := by decide +kernel
theorem dL_law_381 : decode cL_law 381 = .ok (.goto 2686, 3) := by decide +kernel
theorem dL_law_384 : decode cL_law 384 = .ok (.aload_n 1, 1) := by decide +kernel
theorem dL_law_385 : decode cL_law 385 = .ok (.aload_n 0, 1) := by decide +kernel
theorem dL_law_386 : decode cL_law 386 = .ok (.iload 5, 2) := by decide +kernel
theorem dL_law_388 : decode cL_law 388 = .ok (.iconst 1, 1) := by decide +kernel
theorem dL_law_389 : decode cL_law 389 = .ok (.iadd, 1) := by decide +kernel
theorem dL_law_390 : decode cL_law 390 = .ok (.iaload, 1) := by decide +kernel
theorem dL_law_391 : decode cL_law 391 = .ok (.invokestatic 165, 3) := by decide +kernel
theorem dL_law_394 : decode cL_law 394 = .ok (.istore 6, 2) := by decide +kernel
theorem dL_law_396 : decode cL_law 396 = .ok (.aload_n 2, 1) := by decide +kernel
theorem dL_law_397 : decode cL_law 397 = .ok (.aload_n 0, 1) := by decide +kernel
theorem dL_law_398 : decode cL_law 398 = .ok (.iload 5, 2) := by decide +kernel
theorem dL_law_400 : decode cL_law 400 = .ok (.iconst 1, 1) := by decide +kernel
theorem dL_law_401 : decode cL_law 401 = .ok (.iadd, 1) := by decide +kernel
theorem dL_law_402 : decode cL_law 402 = .ok (.iaload, 1) := by decide +kernel
theorem dL_law_403 : decode cL_law 403 = .ok (.invokevirtual 168, 3) := by decide +kernel
theorem dL_law_406 : decode cL_law 406 = .ok (.aload_n 2, 1) := by decide +kernel
theorem dL_law_407 : decode cL_law 407 = .ok (.invokevirtual 162, 3) := by decide +kernel
theorem dL_law_410 : decode cL_law 410 = .ok (.iload 6, 2) := by decide +kernel
theorem dL_law_412 : decode cL_law 412 = .ok (.if_icmp .eq 5, 3) := by decide +kernel
theorem dL_law_415 : decode cL_law 415 = .ok (.iconst 0, 1) := by decide +kernel
theorem dL_law_416 : decode cL_law 416 = .ok (.ireturn, 1) := by decide +kernel
theorem dL_law_417 : decode cL_law 417 = .ok (.goto 2650, 3) := by decide +kernel
theorem dL_law_420 : decode cL_law 420 = .ok (.aload_n 1, 1) := by decide +kernel
theorem dL_law_421 : decode cL_law 421 = .ok (.invokevirtual 169, 3) := by decide +kernel
theorem dL_law_424 : decode cL_law 424 = .ok (.aload_n 2, 1) := by decide +kernel
theorem dL_law_425 : decode cL_law 425 = .ok (.invokevirtual 172, 3) := by decide +kernel
theorem dL_law_428 : decode cL_law 428 = .ok (.if_icmp .eq 2639, 3) := by decide +kernel
theorem dL_law_431 : decode cL_law 431 = .ok (.iconst 0, 1) := by decide +kernel
theorem dL_law_432 : decode cL_law 432 = .ok (.ireturn, 1) := by decide +kernel
theorem dL_law_433 : decode cL_law 433 = .ok (.aload_n 1, 1) := by decide +kernel
theorem dL_law_434 : decode cL_law 434 = .ok (.invokevirtual 173, 3) := by decide +kernel
theorem dL_law_437 : decode cL_law 437 = .ok (.aload_n 2, 1) := by decide +kernel
theorem dL_law_438 : decode cL_law 438 = .ok (.invokevirtual 176, 3) := by decide +kernel
theorem dL_law_441 : decode cL_law 441 = .ok (.if_icmp .eq 2626, 3) := by decide +kernel
theorem dL_law_444 : decode cL_law 444 = .ok (.iconst 0, 1) := by decide +kernel
theorem dL_law_445 : decode cL_law 445 = .ok (.ireturn, 1) := by decide +kernel
theorem dL_law_446 : decode cL_law 446 = .ok (.aload_n 1, 1) := by decide +kernel
theorem dL_law_447 : decode cL_law 447 = .ok (.invokevirtual 177, 3) := by decide +kernel
theorem dL_law_450 : decode cL_law 450 = .ok (.aload_n 2, 1) := by decide +kernel
theorem dL_law_451 : decode cL_law 451 = .ok (.invokevirtual 180, 3) := by decide +kernel
theorem dL_law_454 : decode cL_law 454 = .ok (.if_icmp .eq 2613, 3) := by decide +kernel
theorem dL_law_457 : decode cL_law 457 = .ok (.iconst 0, 1) := by decide +kernel
theorem dL_law_458 : decode cL_law 458 = .ok (.ireturn, 1) := by decide +kernel
theorem dL_law_459 : decode cL_law 459 = .ok (.aload_n 1, 1) := by decide +kernel
theorem dL_law_460 : decode cL_law 460 = .ok (.aload_n 0, 1) := by decide +kernel
theorem dL_law_461 : decode cL_law 461 = .ok (.iload 5, 2) := by decide +kernel
theorem dL_law_463 : decode cL_law 463 = .ok (.iconst 1, 1) := by decide +kernel
theorem dL_law_464 : decode cL_law 464 = .ok (.iadd, 1) := by decide +kernel
theorem dL_law_465 : decode cL_law 465 = .ok (.iaload, 1) := by decide +kernel
theorem dL_law_466 : decode cL_law 466 = .ok (.aload_n 3, 1) := by decide +kernel
theorem dL_law_467 : decode cL_law 467 = .ok (.invokestatic 181, 3) := by decide +kernel
theorem dL_law_470 : decode cL_law 470 = .ok (.istore 6, 2) := by decide +kernel
theorem dL_law_472 : decode cL_law 472 = .ok (.aload_n 2, 1) := by decide +kernel
theorem dL_law_473 : decode cL_law 473 = .ok (.aload_n 0, 1) := by decide +kernel
theorem dL_law_474 : decode cL_law 474 = .ok (.iload 5, 2) := by decide +kernel
theorem dL_law_476 : decode cL_law 476 = .ok (.iconst 1, 1) := by decide +kernel
theorem dL_law_477 : decode cL_law 477 = .ok (.iadd, 1) := by decide +kernel
theorem dL_law_478 : decode cL_law 478 = .ok (.iaload, 1) := by decide +kernel
theorem dL_law_479 : decode cL_law 479 = .ok (.invokevirtual 184, 3) := by decide +kernel
theorem dL_law_482 : decode cL_law 482 = .ok (.istore 7, 2) := by decide +kernel
theorem dL_law_484 : decode cL_law 484 = .ok (.aload_n 2, 1) := by decide +kernel
theorem dL_law_485 : decode cL_law 485 = .ok (.invokevirtual 162, 3) := by decide +kernel
theorem dL_law_488 : decode cL_law 488 = .ok (.iload 6, 2) := by decide +kernel
theorem dL_law_490 : decode cL_law 490 = .ok (.if_icmp .eq 5, 3) := by decide +kernel
theorem dL_law_493 : decode cL_law 493 = .ok (.iconst 0, 1) := by decide +kernel
theorem dL_law_494 : decode cL_law 494 = .ok (.ireturn, 1) := by decide +kernel
theorem dL_law_495 : decode cL_law 495 = .ok (.iload 6, 2) := by decide +kernel
theorem dL_law_497 : decode cL_law 497 = .ok (.ifCond .ne 15, 3) := by decide +kernel
theorem dL_law_500 : decode cL_law 500 = .ok (.aload_n 3, 1) := by decide +kernel
theorem dL_law_501 : decode cL_law 501 = .ok (.iconst 0, 1) := by decide +kernel
theorem dL_law_502 : decode cL_law 502 = .ok (.laload, 1) := by decide +kernel
theorem dL_law_503 : decode cL_law 503 = .ok (.iload 7, 2) := by decide +kernel
theorem dL_law_505 : decode cL_law 505 = .ok (.i2l, 1) := by decide +kernel
theorem dL_law_506 : decode cL_law 506 = .ok (.lcmp, 1) := by decide +kernel
theorem dL_law_507 : decode cL_law 507 = .ok (.ifCond .eq 5, 3) := by decide +kernel
theorem dL_law_510 : decode cL_law 510 = .ok (.iconst 0, 1) := by decide +kernel
theorem dL_law_511 : decode cL_law 511 = .ok (.ireturn, 1) := by decide +kernel
theorem dL_law_512 : decode cL_law 512 = .ok (.goto 2555, 3) := by decide +kernel
theorem dL_law_515 : decode cL_law 515 = .ok (.aload_n 1, 1) := by decide +kernel
theorem dL_law_516 : decode cL_law 516 = .ok (.aload_n 0, 1) := by decide +kernel
theorem dL_law_517 : decode cL_law 517 = .ok (.iload 5, 2) := by decide +kernel
theorem dL_law_519 : decode cL_law 519 = .ok (.iconst 1, 1) := by decide +kernel
theorem dL_law_520 : decode cL_law 520 = .ok (.iadd, 1) := by decide +kernel
theorem dL_law_521 : decode cL_law 521 = .ok (.iaload, 1) := by decide +kernel
theorem dL_law_522 : decode cL_law 522 = .ok (.aload_n 0, 1) := by decide +kernel
theorem dL_law_523 : decode cL_law 523 = .ok (.iload 5, 2) := by decide +kernel
theorem dL_law_525 : decode cL_law 525 = .ok (.iconst 2, 1) := by decide +kernel
theorem dL_law_526 : decode cL_law 526 = .ok (.iadd, 1) := by decide +kernel
theorem dL_law_527 : decode cL_law 527 = .ok (.iaload, 1) := by decide +kernel
theorem dL_law_528 : decode cL_law 528 = .ok (.aload_n 3, 1) := by decide +kernel
theorem dL_law_529 : decode cL_law 529 = .ok (.invokestatic 185, 3) := by decide +kernel
theorem dL_law_532 : decode cL_law 532 = .ok (.istore 6, 2) := by decide +kernel
theorem dL_law_534 : decode cL_law 534 = .ok (.aload_n 2, 1) := by decide +kernel
theorem dL_law_535 : decode cL_law 535 = .ok (.aload_n 0, 1) := by decide +kernel
theorem dL_law_536 : decode cL_law 536 = .ok (.iload 5, 2) := by decide +kernel
theorem dL_law_538 : decode cL_law 538 = .ok (.iconst 1, 1) := by decide +kernel
theorem dL_law_539 : decode cL_law 539 = .ok (.iadd, 1) := by decide +kernel
theorem dL_law_540 : decode cL_law 540 = .ok (.iaload, 1) := by decide +kernel
theorem dL_law_541 : decode cL_law 541 = .ok (.aload_n 0, 1) := by decide +kernel
theorem dL_law_542 : decode cL_law 542 = .ok (.iload 5, 2) := by decide +kernel
theorem dL_law_544 : decode cL_law 544 = .ok (.iconst 2, 1) := by decide +kernel
theorem dL_law_545 : decode cL_law 545 = .ok (.iadd, 1) := by decide +kernel
theorem dL_law_546 : decode cL_law 546 = .ok (.iaload, 1) := by decide +kernel
theorem dL_law_547 : decode cL_law 547 = .ok (.invokevirtual 188, 3) := by decide +kernel
theorem dL_law_550 : decode cL_law 550 = .ok (.istore 7, 2) := by decide +kernel
theorem dL_law_552 : decode cL_law 552 = .ok (.aload_n 2, 1) := by decide +kernel
theorem dL_law_553 : decode cL_law 553 = .ok (.invokevirtual 162, 3) := by decide +kernel
theorem dL_law_556 : decode cL_law 556 = .ok (.iload 6, 2) := by decide +kernel
theorem dL_law_558 : decode cL_law 558 = .ok (.if_icmp .eq 5, 3) := by decide +kernel
theorem dL_law_561 : decode cL_law 561 = .ok (.iconst 0, 1) := by decide +kernel
theorem dL_law_562 : decode cL_law 562 = .ok (.ireturn, 1) := by decide +kernel
theorem dL_law_563 : decode cL_law 563 = .ok (.iload 6, 2) := by decide +kernel
theorem dL_law_565 : decode cL_law 565 = .ok (.ifCond .ne 15, 3) := by decide +kernel
theorem dL_law_568 : decode cL_law 568 = .ok (.aload_n 3, 1) := by decide +kernel
theorem dL_law_569 : decode cL_law 569 = .ok (.iconst 0, 1) := by decide +kernel
theorem dL_law_570 : decode cL_law 570 = .ok (.laload, 1) := by decide +kernel
theorem dL_law_571 : decode cL_law 571 = .ok (.iload 7, 2) := by decide +kernel
theorem dL_law_573 : decode cL_law 573 = .ok (.i2l, 1) := by decide +kernel
theorem dL_law_574 : decode cL_law 574 = .ok (.lcmp, 1) := by decide +kernel
theorem dL_law_575 : decode cL_law 575 = .ok (.ifCond .eq 5, 3) := by decide +kernel
theorem dL_law_578 : decode cL_law 578 = .ok (.iconst 0, 1) := by decide +kernel
theorem dL_law_579 : decode cL_law 579 = .ok (.ireturn, 1) := by decide +kernel
theorem dL_law_580 : decode cL_law 580 = .ok (.goto 2487, 3) := by decide +kernel
theorem dL_law_583 : decode cL_law 583 = .ok (.aload_n 1, 1) := by decide +kernel
theorem dL_law_584 : decode cL_law 584 = .ok (.aload_n 0, 1) := by decide +kernel
theorem dL_law_585 : decode cL_law 585 = .ok (.iload 5, 2) := by decide +kernel
theorem dL_law_587 : decode cL_law 587 = .ok (.iconst 1, 1) := by decide +kernel
theorem dL_law_588 : decode cL_law 588 = .ok (.iadd, 1) := by decide +kernel
theorem dL_law_589 : decode cL_law 589 = .ok (.iaload, 1) := by decide +kernel
theorem dL_law_590 : decode cL_law 590 = .ok (.aload_n 0, 1) := by decide +kernel
theorem dL_law_591 : decode cL_law 591 = .ok (.iload 5, 2) := by decide +kernel
theorem dL_law_593 : decode cL_law 593 = .ok (.iconst 2, 1) := by decide +kernel
theorem dL_law_594 : decode cL_law 594 = .ok (.iadd, 1) := by decide +kernel
theorem dL_law_595 : decode cL_law 595 = .ok (.iaload, 1) := by decide +kernel
theorem dL_law_596 : decode cL_law 596 = .ok (.aload_n 3, 1) := by decide +kernel
theorem dL_law_597 : decode cL_law 597 = .ok (.invokestatic 189, 3) := by decide +kernel
theorem dL_law_600 : decode cL_law 600 = .ok (.istore 6, 2) := by decide +kernel
theorem dL_law_602 : decode cL_law 602 = .ok (.aload_n 2, 1) := by decide +kernel
theorem dL_law_603 : decode cL_law 603 = .ok (.aload_n 0, 1) := by decide +kernel
theorem dL_law_604 : decode cL_law 604 = .ok (.iload 5, 2) := by decide +kernel
theorem dL_law_606 : decode cL_law 606 = .ok (.iconst 1, 1) := by decide +kernel
theorem dL_law_607 : decode cL_law 607 = .ok (.iadd, 1) := by decide +kernel
theorem dL_law_608 : decode cL_law 608 = .ok (.iaload, 1) := by decide +kernel
theorem dL_law_609 : decode cL_law 609 = .ok (.aload_n 0, 1) := by decide +kernel
theorem dL_law_610 : decode cL_law 610 = .ok (.iload 5, 2) := by decide +kernel
theorem dL_law_612 : decode cL_law 612 = .ok (.iconst 2, 1) := by decide +kernel
theorem dL_law_613 : decode cL_law 613 = .ok (.iadd, 1) := by decide +kernel
theorem dL_law_614 : decode cL_law 614 = .ok (.iaload, 1) := by decide +kernel
theorem dL_law_615 : decode cL_law 615 = .ok (.invokevirtual 191, 3) := by decide +kernel
theorem dL_law_618 : decode cL_law 618 = .ok (.istore 7, 2) := by decide +kernel
theorem dL_law_620 : decode cL_law 620 = .ok (.aload_n 2, 1) := by decide +kernel
theorem dL_law_621 : decode cL_law 621 = .ok (.invokevirtual 162, 3) := by decide +kernel
theorem dL_law_624 : decode cL_law 624 = .ok (.iload 6, 2) := by decide +kernel
theorem dL_law_626 : decode cL_law 626 = .ok (.if_icmp .eq 5, 3) := by decide +kernel
theorem dL_law_629 : decode cL_law 629 = .ok (.iconst 0, 1) := by decide +kernel
theorem dL_law_630 : decode cL_law 630 = .ok (.ireturn, 1) := by decide +kernel
theorem dL_law_631 : decode cL_law 631 = .ok (.iload 6, 2) := by decide +kernel
theorem dL_law_633 : decode cL_law 633 = .ok (.ifCond .ne 15, 3) := by decide +kernel
theorem dL_law_636 : decode cL_law 636 = .ok (.aload_n 3, 1) := by decide +kernel
theorem dL_law_637 : decode cL_law 637 = .ok (.iconst 0, 1) := by decide +kernel
theorem dL_law_638 : decode cL_law 638 = .ok (.laload, 1) := by decide +kernel
theorem dL_law_639 : decode cL_law 639 = .ok (.iload 7, 2) := by decide +kernel
theorem dL_law_641 : decode cL_law 641 = .ok (.i2l, 1) := by decide +kernel
theorem dL_law_642 : decode cL_law 642 = .ok (.lcmp, 1) := by decide +kernel
theorem dL_law_643 : decode cL_law 643 = .ok (.ifCond .eq 5, 3) := by decide +kernel
theorem dL_law_646 : decode cL_law 646 = .ok (.iconst 0, 1) := by decide +kernel
theorem dL_law_647 : decode cL_law 647 = .ok (.ireturn, 1) := by decide +kernel
theorem dL_law_648 : decode cL_law 648 = .ok (.goto 2419, 3) := by decide +kernel
theorem dL_law_651 : decode cL_law 651 = .ok (.aload_n 1, 1) := by decide +kernel
theorem dL_law_652 : decode cL_law 652 = .ok (.aload_n 0, 1) := by decide +kernel
theorem dL_law_653 : decode cL_law 653 = .ok (.iload 5, 2) := by decide +kernel
theorem dL_law_655 : decode cL_law 655 = .ok (.iconst 1, 1) := by decide +kernel
theorem dL_law_656 : decode cL_law 656 = .ok (.iadd, 1) := by decide +kernel
theorem dL_law_657 : decode cL_law 657 = .ok (.iaload, 1) := by decide +kernel
theorem dL_law_658 : decode cL_law 658 = .ok (.aload_n 0, 1) := by decide +kernel
theorem dL_law_659 : decode cL_law 659 = .ok (.iload 5, 2) := by decide +kernel
theorem dL_law_661 : decode cL_law 661 = .ok (.iconst 2, 1) := by decide +kernel
theorem dL_law_662 : decode cL_law 662 = .ok (.iadd, 1) := by decide +kernel
theorem dL_law_663 : decode cL_law 663 = .ok (.iaload, 1) := by decide +kernel
theorem dL_law_664 : decode cL_law 664 = .ok (.aload_n 3, 1) := by decide +kernel
theorem dL_law_665 : decode cL_law 665 = .ok (.invokestatic 192, 3) := by decide +kernel
theorem dL_law_668 : decode cL_law 668 = .ok (.istore 6, 2) := by decide +kernel
theorem dL_law_670 : decode cL_law 670 = .ok (.aload_n 2, 1) := by decide +kernel
theorem dL_law_671 : decode cL_law 671 = .ok (.aload_n 0, 1) := by decide +kernel
theorem dL_law_672 : decode cL_law 672 = .ok (.iload 5, 2) := by decide +kernel
theorem dL_law_674 : decode cL_law 674 = .ok (.iconst 1, 1) := by decide +kernel
theorem dL_law_675 : decode cL_law 675 = .ok (.iadd, 1) := by decide +kernel
theorem dL_law_676 : decode cL_law 676 = .ok (.iaload, 1) := by decide +kernel
theorem dL_law_677 : decode cL_law 677 = .ok (.aload_n 0, 1) := by decide +kernel
theorem dL_law_678 : decode cL_law 678 = .ok (.iload 5, 2) := by decide +kernel
theorem dL_law_680 : decode cL_law 680 = .ok (.iconst 2, 1) := by decide +kernel
theorem dL_law_681 : decode cL_law 681 = .ok (.iadd, 1) := by decide +kernel
theorem dL_law_682 : decode cL_law 682 = .ok (.iaload, 1) := by decide +kernel
theorem dL_law_683 : decode cL_law 683 = .ok (.invokevirtual 194, 3) := by decide +kernel
theorem dL_law_686 : decode cL_law 686 = .ok (.istore 7, 2) := by decide +kernel
theorem dL_law_688 : decode cL_law 688 = .ok (.aload_n 2, 1) := by decide +kernel
theorem dL_law_689 : decode cL_law 689 = .ok (.invokevirtual 162, 3) := by decide +kernel
theorem dL_law_692 : decode cL_law 692 = .ok (.iload 6, 2) := by decide +kernel
theorem dL_law_694 : decode cL_law 694 = .ok (.if_icmp .eq 5, 3) := by decide +kernel
theorem dL_law_697 : decode cL_law 697 = .ok (.iconst 0, 1) := by decide +kernel
theorem dL_law_698 : decode cL_law 698 = .ok (.ireturn, 1) := by decide +kernel
theorem dL_law_699 : decode cL_law 699 = .ok (.iload 6, 2) := by decide +kernel
theorem dL_law_701 : decode cL_law 701 = .ok (.ifCond .ne 15, 3) := by decide +kernel
theorem dL_law_704 : decode cL_law 704 = .ok (.aload_n 3, 1) := by decide +kernel
theorem dL_law_705 : decode cL_law 705 = .ok (.iconst 0, 1) := by decide +kernel
theorem dL_law_706 : decode cL_law 706 = .ok (.laload, 1) := by decide +kernel
theorem dL_law_707 : decode cL_law 707 = .ok (.iload 7, 2) := by decide +kernel
theorem dL_law_709 : decode cL_law 709 = .ok (.i2l, 1) := by decide +kernel
theorem dL_law_710 : decode cL_law 710 = .ok (.lcmp, 1) := by decide +kernel
theorem dL_law_711 : decode cL_law 711 = .ok (.ifCond .eq 5, 3) := by decide +kernel
theorem dL_law_714 : decode cL_law 714 = .ok (.iconst 0, 1) := by decide +kernel
theorem dL_law_715 : decode cL_law 715 = .ok (.ireturn, 1) := by decide +kernel
theorem dL_law_716 : decode cL_law 716 = .ok (.goto 2351, 3) := by decide +kernel
theorem dL_law_719 : decode cL_law 719 = .ok (.aload_n 1, 1) := by decide +kernel
theorem dL_law_720 : decode cL_law 720 = .ok (.aload_n 0, 1) := by decide +kernel
theorem dL_law_721 : decode cL_law 721 = .ok (.iload 5, 2) := by decide +kernel
theorem dL_law_723 : decode cL_law 723 = .ok (.iconst 1, 1) := by decide +kernel
theorem dL_law_724 : decode cL_law 724 = .ok (.iadd, 1) := by decide +kernel
theorem dL_law_725 : decode cL_law 725 = .ok (.iaload, 1) := by decide +kernel
theorem dL_law_726 : decode cL_law 726 = .ok (.aload_n 3, 1) := by decide +kernel
theorem dL_law_727 : decode cL_law 727 = .ok (.invokestatic 195, 3) := by decide +kernel
theorem dL_law_730 : decode cL_law 730 = .ok (.istore 6, 2) := by decide +kernel
theorem dL_law_732 : decode cL_law 732 = .ok (.aload_n 2, 1) := by decide +kernel
theorem dL_law_733 : decode cL_law 733 = .ok (.aload_n 0, 1) := by decide +kernel
theorem dL_law_734 : decode cL_law 734 = .ok (.iload 5, 2) := by decide +kernel
theorem dL_law_736 : decode cL_law 736 = .ok (.iconst 1, 1) := by decide +kernel
theorem dL_law_737 : decode cL_law 737 = .ok (.iadd, 1) := by decide +kernel
theorem dL_law_738 : decode cL_law 738 = .ok (.iaload, 1) := by decide +kernel
theorem dL_law_739 : decode cL_law 739 = .ok (.invokevirtual 197, 3) := by decide +kernel
theorem dL_law_742 : decode cL_law 742 = .ok (.istore 7, 2) := by decide +kernel
theorem dL_law_744 : decode cL_law 744 = .ok (.aload_n 2, 1) := by decide +kernel
theorem dL_law_745 : decode cL_law 745 = .ok (.invokevirtual 162, 3) := by decide +kernel
theorem dL_law_748 : decode cL_law 748 = .ok (.iload 6, 2) := by decide +kernel
theorem dL_law_750 : decode cL_law 750 = .ok (.if_icmp .eq 5, 3) := by decide +kernel
theorem dL_law_753 : decode cL_law 753 = .ok (.iconst 0, 1) := by decide +kernel
theorem dL_law_754 : decode cL_law 754 = .ok (.ireturn, 1) := by decide +kernel
theorem dL_law_755 : decode cL_law 755 = .ok (.iload 6, 2) := by decide +kernel
theorem dL_law_757 : decode cL_law 757 = .ok (.ifCond .ne 15, 3) := by decide +kernel
theorem dL_law_760 : decode cL_law 760 = .ok (.aload_n 3, 1) := by decide +kernel
theorem dL_law_761 : decode cL_law 761 = .ok (.iconst 0, 1) := by decide +kernel
theorem dL_law_762 : decode cL_law 762 = .ok (.laload, 1) := by decide +kernel
theorem dL_law_763 : decode cL_law 763 = .ok (.iload 7, 2) := by decide +kernel
theorem dL_law_765 : decode cL_law 765 = .ok (.i2l, 1) := by decide +kernel
theorem dL_law_766 : decode cL_law 766 = .ok (.lcmp, 1) := by decide +kernel
theorem dL_law_767 : decode cL_law 767 = .ok (.ifCond .eq 5, 3) := by decide +kernel
theorem dL_law_770 : decode cL_law 770 = .ok (.iconst 0, 1) := by decide +kernel
theorem dL_law_771 : decode cL_law 771 = .ok (.ireturn, 1) := by decide +kernel
theorem dL_law_772 : decode cL_law 772 = .ok (.goto 2295, 3) := by decide +kernel
theorem dL_law_775 : decode cL_law 775 = .ok (.aload_n 1, 1) := by decide +kernel
theorem dL_law_776 : decode cL_law 776 = .ok (.aload_n 0, 1) := by decide +kernel
theorem dL_law_777 : decode cL_law 777 = .ok (.iload 5, 2) := by decide +kernel
theorem dL_law_779 : decode cL_law 779 = .ok (.iconst 1, 1) := by decide +kernel
theorem dL_law_780 : decode cL_law 780 = .ok (.iadd, 1) := by decide +kernel
theorem dL_law_781 : decode cL_law 781 = .ok (.iaload, 1) := by decide +kernel
theorem dL_law_782 : decode cL_law 782 = .ok (.aload_n 3, 1) := by decide +kernel
theorem dL_law_783 : decode cL_law 783 = .ok (.invokestatic 198, 3) := by decide +kernel
theorem dL_law_786 : decode cL_law 786 = .ok (.istore 6, 2) := by decide +kernel
theorem dL_law_788 : decode cL_law 788 = .ok (.aload_n 2, 1) := by decide +kernel
theorem dL_law_789 : decode cL_law 789 = .ok (.aload_n 0, 1) := by decide +kernel
theorem dL_law_790 : decode cL_law 790 = .ok (.iload 5, 2) := by decide +kernel
theorem dL_law_792 : decode cL_law 792 = .ok (.iconst 1, 1) := by decide +kernel
theorem dL_law_793 : decode cL_law 793 = .ok (.iadd, 1) := by decide +kernel
theorem dL_law_794 : decode cL_law 794 = .ok (.iaload, 1) := by decide +kernel
theorem dL_law_795 : decode cL_law 795 = .ok (.invokevirtual 200, 3) := by decide +kernel
theorem dL_law_798 : decode cL_law 798 = .ok (.istore 7, 2) := by decide +kernel
theorem dL_law_800 : decode cL_law 800 = .ok (.aload_n 2, 1) := by decide +kernel
theorem dL_law_801 : decode cL_law 801 = .ok (.invokevirtual 162, 3) := by decide +kernel
theorem dL_law_804 : decode cL_law 804 = .ok (.iload 6, 2) := by decide +kernel
theorem dL_law_806 : decode cL_law 806 = .ok (.if_icmp .eq 5, 3) := by decide +kernel
theorem dL_law_809 : decode cL_law 809 = .ok (.iconst 0, 1) := by decide +kernel
theorem dL_law_810 : decode cL_law 810 = .ok (.ireturn, 1) := by decide +kernel
theorem dL_law_811 : decode cL_law 811 = .ok (.iload 6, 2) := by decide +kernel
theorem dL_law_813 : decode cL_law 813 = .ok (.ifCond .ne 15, 3) := by decide +kernel
theorem dL_law_816 : decode cL_law 816 = .ok (.aload_n 3, 1) := by decide +kernel
theorem dL_law_817 : decode cL_law 817 = .ok (.iconst 0, 1) := by decide +kernel
theorem dL_law_818 : decode cL_law 818 = .ok (.laload, 1) := by decide +kernel
theorem dL_law_819 : decode cL_law 819 = .ok (.iload 7, 2) := by decide +kernel
theorem dL_law_821 : decode cL_law 821 = .ok (.i2l, 1) := by decide +kernel
theorem dL_law_822 : decode cL_law 822 = .ok (.lcmp, 1) := by decide +kernel
theorem dL_law_823 : decode cL_law 823 = .ok (.ifCond .eq 5, 3) := by decide +kernel
theorem dL_law_826 : decode cL_law 826 = .ok (.iconst 0, 1) := by decide +kernel
theorem dL_law_827 : decode cL_law 827 = .ok (.ireturn, 1) := by decide +kernel
theorem dL_law_828 : decode cL_law 828 = .ok (.goto 2239, 3) := by decide +kernel
theorem dL_law_831 : decode cL_law 831 = .ok (.aload_n 1, 1) := by decide +kernel
theorem dL_law_832 : decode cL_law 832 = .ok (.aload_n 0, 1) := by decide +kernel
theorem dL_law_833 : decode cL_law 833 = .ok (.iload 5, 2) := by decide +kernel
theorem dL_law_835 : decode cL_law 835 = .ok (.iconst 1, 1) := by decide +kernel
theorem dL_law_836 : decode cL_law 836 = .ok (.iadd, 1) := by decide +kernel
theorem dL_law_837 : decode cL_law 837 = .ok (.iaload, 1) := by decide +kernel
theorem dL_law_838 : decode cL_law 838 = .ok (.aload_n 3, 1) := by decide +kernel
theorem dL_law_839 : decode cL_law 839 = .ok (.invokestatic 201, 3) := by decide +kernel
theorem dL_law_842 : decode cL_law 842 = .ok (.istore 6, 2) := by decide +kernel
theorem dL_law_844 : decode cL_law 844 = .ok (.aload_n 2, 1) := by decide +kernel
theorem dL_law_845 : decode cL_law 845 = .ok (.aload_n 0, 1) := by decide +kernel
theorem dL_law_846 : decode cL_law 846 = .ok (.iload 5, 2) := by decide +kernel
theorem dL_law_848 : decode cL_law 848 = .ok (.iconst 1, 1) := by decide +kernel
theorem dL_law_849 : decode cL_law 849 = .ok (.iadd, 1) := by decide +kernel
theorem dL_law_850 : decode cL_law 850 = .ok (.iaload, 1) := by decide +kernel
theorem dL_law_851 : decode cL_law 851 = .ok (.invokevirtual 203, 3) := by decide +kernel
theorem dL_law_854 : decode cL_law 854 = .ok (.istore 7, 2) := by decide +kernel
theorem dL_law_856 : decode cL_law 856 = .ok (.aload_n 2, 1) := by decide +kernel
theorem dL_law_857 : decode cL_law 857 = .ok (.invokevirtual 162, 3) := by decide +kernel
theorem dL_law_860 : decode cL_law 860 = .ok (.iload 6, 2) := by decide +kernel
theorem dL_law_862 : decode cL_law 862 = .ok (.if_icmp .eq 5, 3) := by decide +kernel
theorem dL_law_865 : decode cL_law 865 = .ok (.iconst 0, 1) := by decide +kernel
theorem dL_law_866 : decode cL_law 866 = .ok (.ireturn, 1) := by decide +kernel
theorem dL_law_867 : decode cL_law 867 = .ok (.iload 6, 2) := by decide +kernel
theorem dL_law_869 : decode cL_law 869 = .ok (.ifCond .ne 15, 3) := by decide +kernel
theorem dL_law_872 : decode cL_law 872 = .ok (.aload_n 3, 1) := by decide +kernel
theorem dL_law_873 : decode cL_law 873 = .ok (.iconst 0, 1) := by decide +kernel
theorem dL_law_874 : decode cL_law 874 = .ok (.laload, 1) := by decide +kernel
theorem dL_law_875 : decode cL_law 875 = .ok (.iload 7, 2) := by decide +kernel
theorem dL_law_877 : decode cL_law 877 = .ok (.i2l, 1) := by decide +kernel
theorem dL_law_878 : decode cL_law 878 = .ok (.lcmp, 1) := by decide +kernel
theorem dL_law_879 : decode cL_law 879 = .ok (.ifCond .eq 5, 3) := by decide +kernel
theorem dL_law_882 : decode cL_law 882 = .ok (.iconst 0, 1) := by decide +kernel
theorem dL_law_883 : decode cL_law 883 = .ok (.ireturn, 1) := by decide +kernel
theorem dL_law_884 : decode cL_law 884 = .ok (.goto 2183, 3) := by decide +kernel
theorem dL_law_887 : decode cL_law 887 = .ok (.aload_n 1, 1) := by decide +kernel
theorem dL_law_888 : decode cL_law 888 = .ok (.aload_n 0, 1) := by decide +kernel
theorem dL_law_889 : decode cL_law 889 = .ok (.iload 5, 2) := by decide +kernel
theorem dL_law_891 : decode cL_law 891 = .ok (.iconst 1, 1) := by decide +kernel
theorem dL_law_892 : decode cL_law 892 = .ok (.iadd, 1) := by decide +kernel
theorem dL_law_893 : decode cL_law 893 = .ok (.iaload, 1) := by decide +kernel
theorem dL_law_894 : decode cL_law 894 = .ok (.aload_n 3, 1) := by decide +kernel
theorem dL_law_895 : decode cL_law 895 = .ok (.invokestatic 204, 3) := by decide +kernel
theorem dL_law_898 : decode cL_law 898 = .ok (.istore 6, 2) := by decide +kernel
theorem dL_law_900 : decode cL_law 900 = .ok (.aload_n 2, 1) := by decide +kernel
theorem dL_law_901 : decode cL_law 901 = .ok (.aload_n 0, 1) := by decide +kernel
theorem dL_law_902 : decode cL_law 902 = .ok (.iload 5, 2) := by decide +kernel
theorem dL_law_904 : decode cL_law 904 = .ok (.iconst 1, 1) := by decide +kernel
theorem dL_law_905 : decode cL_law 905 = .ok (.iadd, 1) := by decide +kernel
theorem dL_law_906 : decode cL_law 906 = .ok (.iaload, 1) := by decide +kernel
theorem dL_law_907 : decode cL_law 907 = .ok (.invokevirtual 206, 3) := by decide +kernel
theorem dL_law_910 : decode cL_law 910 = .ok (.istore 7, 2) := by decide +kernel
theorem dL_law_912 : decode cL_law 912 = .ok (.aload_n 2, 1) := by decide +kernel
theorem dL_law_913 : decode cL_law 913 = .ok (.invokevirtual 162, 3) := by decide +kernel
theorem dL_law_916 : decode cL_law 916 = .ok (.iload 6, 2) := by decide +kernel
theorem dL_law_918 : decode cL_law 918 = .ok (.if_icmp .eq 5, 3) := by decide +kernel
theorem dL_law_921 : decode cL_law 921 = .ok (.iconst 0, 1) := by decide +kernel
theorem dL_law_922 : decode cL_law 922 = .ok (.ireturn, 1) := by decide +kernel
theorem dL_law_923 : decode cL_law 923 = .ok (.iload 6, 2) := by decide +kernel
theorem dL_law_925 : decode cL_law 925 = .ok (.ifCond .ne 15, 3) := by decide +kernel
theorem dL_law_928 : decode cL_law 928 = .ok (.aload_n 3, 1) := by decide +kernel
theorem dL_law_929 : decode cL_law 929 = .ok (.iconst 0, 1) := by decide +kernel
theorem dL_law_930 : decode cL_law 930 = .ok (.laload, 1) := by decide +kernel
theorem dL_law_931 : decode cL_law 931 = .ok (.iload 7, 2) := by decide +kernel
theorem dL_law_933 : decode cL_law 933 = .ok (.i2l, 1) := by decide +kernel
theorem dL_law_934 : decode cL_law 934 = .ok (.lcmp, 1) := by decide +kernel
theorem dL_law_935 : decode cL_law 935 = .ok (.ifCond .eq 5, 3) := by decide +kernel
theorem dL_law_938 : decode cL_law 938 = .ok (.iconst 0, 1) := by decide +kernel
theorem dL_law_939 : decode cL_law 939 = .ok (.ireturn, 1) := by decide +kernel
theorem dL_law_940 : decode cL_law 940 = .ok (.goto 2127, 3) := by decide +kernel
theorem dL_law_943 : decode cL_law 943 = .ok (.aload_n 1, 1) := by decide +kernel
theorem dL_law_944 : decode cL_law 944 = .ok (.aload_n 0, 1) := by decide +kernel
theorem dL_law_945 : decode cL_law 945 = .ok (.iload 5, 2) := by decide +kernel
theorem dL_law_947 : decode cL_law 947 = .ok (.iconst 1, 1) := by decide +kernel
theorem dL_law_948 : decode cL_law 948 = .ok (.iadd, 1) := by decide +kernel
theorem dL_law_949 : decode cL_law 949 = .ok (.iaload, 1) := by decide +kernel
theorem dL_law_950 : decode cL_law 950 = .ok (.aload_n 0, 1) := by decide +kernel
theorem dL_law_951 : decode cL_law 951 = .ok (.iload 5, 2) := by decide +kernel
theorem dL_law_953 : decode cL_law 953 = .ok (.iconst 2, 1) := by decide +kernel
theorem dL_law_954 : decode cL_law 954 = .ok (.iadd, 1) := by decide +kernel
theorem dL_law_955 : decode cL_law 955 = .ok (.iaload, 1) := by decide +kernel
theorem dL_law_956 : decode cL_law 956 = .ok (.aload_n 3, 1) := by decide +kernel
theorem dL_law_957 : decode cL_law 957 = .ok (.invokestatic 207, 3) := by decide +kernel
theorem dL_law_960 : decode cL_law 960 = .ok (.istore 6, 2) := by decide +kernel
theorem dL_law_962 : decode cL_law 962 = .ok (.aload_n 2, 1) := by decide +kernel
theorem dL_law_963 : decode cL_law 963 = .ok (.aload_n 0, 1) := by decide +kernel
theorem dL_law_964 : decode cL_law 964 = .ok (.iload 5, 2) := by decide +kernel
theorem dL_law_966 : decode cL_law 966 = .ok (.iconst 1, 1) := by decide +kernel
theorem dL_law_967 : decode cL_law 967 = .ok (.iadd, 1) := by decide +kernel
theorem dL_law_968 : decode cL_law 968 = .ok (.iaload, 1) := by decide +kernel
theorem dL_law_969 : decode cL_law 969 = .ok (.aload_n 0, 1) := by decide +kernel
theorem dL_law_970 : decode cL_law 970 = .ok (.iload 5, 2) := by decide +kernel
theorem dL_law_972 : decode cL_law 972 = .ok (.iconst 2, 1) := by decide +kernel
theorem dL_law_973 : decode cL_law 973 = .ok (.iadd, 1) := by decide +kernel
theorem dL_law_974 : decode cL_law 974 = .ok (.iaload, 1) := by decide +kernel
theorem dL_law_975 : decode cL_law 975 = .ok (.invokevirtual 209, 3) := by decide +kernel
theorem dL_law_978 : decode cL_law 978 = .ok (.istore 7, 2) := by decide +kernel
theorem dL_law_980 : decode cL_law 980 = .ok (.aload_n 2, 1) := by decide +kernel
theorem dL_law_981 : decode cL_law 981 = .ok (.invokevirtual 162, 3) := by decide +kernel
theorem dL_law_984 : decode cL_law 984 = .ok (.iload 6, 2) := by decide +kernel
theorem dL_law_986 : decode cL_law 986 = .ok (.if_icmp .eq 5, 3) := by decide +kernel
theorem dL_law_989 : decode cL_law 989 = .ok (.iconst 0, 1) := by decide +kernel
theorem dL_law_990 : decode cL_law 990 = .ok (.ireturn, 1) := by decide +kernel
theorem dL_law_991 : decode cL_law 991 = .ok (.iload 6, 2) := by decide +kernel
theorem dL_law_993 : decode cL_law 993 = .ok (.ifCond .ne 15, 3) := by decide +kernel
theorem dL_law_996 : decode cL_law 996 = .ok (.aload_n 3, 1) := by decide +kernel
theorem dL_law_997 : decode cL_law 997 = .ok (.iconst 0, 1) := by decide +kernel
theorem dL_law_998 : decode cL_law 998 = .ok (.laload, 1) := by decide +kernel
theorem dL_law_999 : decode cL_law 999 = .ok (.iload 7, 2) := by decide +kernel
theorem dL_law_1001 : decode cL_law 1001 = .ok (.i2l, 1) := by decide +kernel
theorem dL_law_1002 : decode cL_law 1002 = .ok (.lcmp, 1) := by decide +kernel
theorem dL_law_1003 : decode cL_law 1003 = .ok (.ifCond .eq 5, 3) := by decide +kernel
theorem dL_law_1006 : decode cL_law 1006 = .ok (.iconst 0, 1) := by decide +kernel
theorem dL_law_1007 : decode cL_law 1007 = .ok (.ireturn, 1) := by decide +kernel
theorem dL_law_1008 : decode cL_law 1008 = .ok (.goto 2059, 3) := by decide +kernel
theorem dL_law_1011 : decode cL_law 1011 = .ok (.aload_n 1, 1) := by decide +kernel
theorem dL_law_1012 : decode cL_law 1012 = .ok (.invokevirtual 210, 3) := by decide +kernel
theorem dL_law_1015 : decode cL_law 1015 = .ok (.aload_n 2, 1) := by decide +kernel
theorem dL_law_1016 : decode cL_law 1016 = .ok (.invokevirtual 213, 3) := by decide +kernel
theorem dL_law_1019 : decode cL_law 1019 = .ok (.if_icmp .eq 2048, 3) := by decide +kernel
theorem dL_law_1022 : decode cL_law 1022 = .ok (.iconst 0, 1) := by decide +kernel
theorem dL_law_1023 : decode cL_law 1023 = .ok (.ireturn, 1) := by decide +kernel
theorem dL_law_1024 : decode cL_law 1024 = .ok (.aload_n 1, 1) := by decide +kernel
theorem dL_law_1025 : decode cL_law 1025 = .ok (.aload_n 0, 1) := by decide +kernel
theorem dL_law_1026 : decode cL_law 1026 = .ok (.iload 5, 2) := by decide +kernel
theorem dL_law_1028 : decode cL_law 1028 = .ok (.iconst 1, 1) := by decide +kernel
theorem dL_law_1029 : decode cL_law 1029 = .ok (.iadd, 1) := by decide +kernel
theorem dL_law_1030 : decode cL_law 1030 = .ok (.iaload, 1) := by decide +kernel
theorem dL_law_1031 : decode cL_law 1031 = .ok (.aload_n 3, 1) := by decide +kernel
theorem dL_law_1032 : decode cL_law 1032 = .ok (.invokestatic 214, 3) := by decide +kernel
theorem dL_law_1035 : decode cL_law 1035 = .ok (.istore 6, 2) := by decide +kernel
theorem dL_law_1037 : decode cL_law 1037 = .ok (.aload_n 2, 1) := by decide +kernel
theorem dL_law_1038 : decode cL_law 1038 = .ok (.aload_n 0, 1) := by decide +kernel
theorem dL_law_1039 : decode cL_law 1039 = .ok (.iload 5, 2) := by decide +kernel
theorem dL_law_1041 : decode cL_law 1041 = .ok (.iconst 1, 1) := by decide +kernel
theorem dL_law_1042 : decode cL_law 1042 = .ok (.iadd, 1) := by decide +kernel
theorem dL_law_1043 : decode cL_law 1043 = .ok (.iaload, 1) := by decide +kernel
theorem dL_law_1044 : decode cL_law 1044 = .ok (.invokevirtual 216, 3) := by decide +kernel
theorem dL_law_1047 : decode cL_law 1047 = .ok (.istore 7, 2) := by decide +kernel
theorem dL_law_1049 : decode cL_law 1049 = .ok (.aload_n 2, 1) := by decide +kernel
theorem dL_law_1050 : decode cL_law 1050 = .ok (.invokevirtual 162, 3) := by decide +kernel
theorem dL_law_1053 : decode cL_law 1053 = .ok (.iload 6, 2) := by decide +kernel
theorem dL_law_1055 : decode cL_law 1055 = .ok (.if_icmp .eq 5, 3) := by decide +kernel
theorem dL_law_1058 : decode cL_law 1058 = .ok (.iconst 0, 1) := by decide +kernel
theorem dL_law_1059 : decode cL_law 1059 = .ok (.ireturn, 1) := by decide +kernel
theorem dL_law_1060 : decode cL_law 1060 = .ok (.iload 6, 2) := by decide +kernel
theorem dL_law_1062 : decode cL_law 1062 = .ok (.ifCond .ne 15, 3) := by decide +kernel
theorem dL_law_1065 : decode cL_law 1065 = .ok (.aload_n 3, 1) := by decide +kernel
theorem dL_law_1066 : decode cL_law 1066 = .ok (.iconst 0, 1) := by decide +kernel
theorem dL_law_1067 : decode cL_law 1067 = .ok (.laload, 1) := by decide +kernel
theorem dL_law_1068 : decode cL_law 1068 = .ok (.iload 7, 2) := by decide +kernel
theorem dL_law_1070 : decode cL_law 1070 = .ok (.i2l, 1) := by decide +kernel
theorem dL_law_1071 : decode cL_law 1071 = .ok (.lcmp, 1) := by decide +kernel
theorem dL_law_1072 : decode cL_law 1072 = .ok (.ifCond .eq 5, 3) := by decide +kernel
theorem dL_law_1075 : decode cL_law 1075 = .ok (.iconst 0, 1) := by decide +kernel
theorem dL_law_1076 : decode cL_law 1076 = .ok (.ireturn, 1) := by decide +kernel
theorem dL_law_1077 : decode cL_law 1077 = .ok (.goto 1990, 3) := by decide +kernel
theorem dL_law_1080 : decode cL_law 1080 = .ok (.aload_n 1, 1) := by decide +kernel
theorem dL_law_1081 : decode cL_law 1081 = .ok (.aload_n 0, 1) := by decide +kernel
theorem dL_law_1082 : decode cL_law 1082 = .ok (.iload 5, 2) := by decide +kernel
theorem dL_law_1084 : decode cL_law 1084 = .ok (.iconst 1, 1) := by decide +kernel
theorem dL_law_1085 : decode cL_law 1085 = .ok (.iadd, 1) := by decide +kernel
theorem dL_law_1086 : decode cL_law 1086 = .ok (.iaload, 1) := by decide +kernel
theorem dL_law_1087 : decode cL_law 1087 = .ok (.aload 4, 2) := by decide +kernel
theorem dL_law_1089 : decode cL_law 1089 = .ok (.invokestatic 217, 3) := by decide +kernel
theorem dL_law_1092 : decode cL_law 1092 = .ok (.istore 6, 2) := by decide +kernel
theorem dL_law_1094 : decode cL_law 1094 = .ok (.aload_n 2, 1) := by decide +kernel
theorem dL_law_1095 : decode cL_law 1095 = .ok (.aload_n 0, 1) := by decide +kernel
theorem dL_law_1096 : decode cL_law 1096 = .ok (.iload 5, 2) := by decide +kernel
theorem dL_law_1098 : decode cL_law 1098 = .ok (.iconst 1, 1) := by decide +kernel
theorem dL_law_1099 : decode cL_law 1099 = .ok (.iadd, 1) := by decide +kernel
theorem dL_law_1100 : decode cL_law 1100 = .ok (.iaload, 1) := by decide +kernel
theorem dL_law_1101 : decode cL_law 1101 = .ok (.invokevirtual 220, 3) := by decide +kernel
theorem dL_law_1104 : decode cL_law 1104 = .ok (.dstore 7, 2) := by decide +kernel
theorem dL_law_1106 : decode cL_law 1106 = .ok (.aload_n 2, 1) := by decide +kernel
theorem dL_law_1107 : decode cL_law 1107 = .ok (.invokevirtual 162, 3) := by decide +kernel
theorem dL_law_1110 : decode cL_law 1110 = .ok (.iload 6, 2) := by decide +kernel
theorem dL_law_1112 : decode cL_law 1112 = .ok (.if_icmp .eq 5, 3) := by decide +kernel
theorem dL_law_1115 : decode cL_law 1115 = .ok (.iconst 0, 1) := by decide +kernel
theorem dL_law_1116 : decode cL_law 1116 = .ok (.ireturn, 1) := by decide +kernel
theorem dL_law_1117 : decode cL_law 1117 = .ok (.iload 6, 2) := by decide +kernel
theorem dL_law_1119 : decode cL_law 1119 = .ok (.ifCond .ne 35, 3) := by decide +kernel
theorem dL_law_1122 : decode cL_law 1122 = .ok (.aload 4, 2) := by decide +kernel
theorem dL_law_1124 : decode cL_law 1124 = .ok (.iconst 0, 1) := by decide +kernel
theorem dL_law_1125 : decode cL_law 1125 = .ok (.daload, 1) := by decide +kernel
theorem dL_law_1126 : decode cL_law 1126 = .ok (.dload 7, 2) := by decide +kernel
theorem dL_law_1128 : decode cL_law 1128 = .ok (.dcmp .l, 1) := by decide +kernel
theorem dL_law_1129 : decode cL_law 1129 = .ok (.ifCond .eq 25, 3) := by decide +kernel
theorem dL_law_1132 : decode cL_law 1132 = .ok (.aload 4, 2) := by decide +kernel
theorem dL_law_1134 : decode cL_law 1134 = .ok (.iconst 0, 1) := by decide +kernel
theorem dL_law_1135 : decode cL_law 1135 = .ok (.daload, 1) := by decide +kernel
theorem dL_law_1136 : decode cL_law 1136 = .ok (.aload 4, 2) := by decide +kernel
theorem dL_law_1138 : decode cL_law 1138 = .ok (.iconst 0, 1) := by decide +kernel
theorem dL_law_1139 : decode cL_law 1139 = .ok (.daload, 1) := by decide +kernel
theorem dL_law_1140 : decode cL_law 1140 = .ok (.dcmp .l, 1) := by decide +kernel
theorem dL_law_1141 : decode cL_law 1141 = .ok (.ifCond .eq 11, 3) := by decide +kernel
theorem dL_law_1144 : decode cL_law 1144 = .ok (.dload 7, 2) := by decide +kernel
theorem dL_law_1146 : decode cL_law 1146 = .ok (.dload 7, 2) := by decide +kernel
theorem dL_law_1148 : decode cL_law 1148 = .ok (.dcmp .l, 1) := by decide +kernel
theorem dL_law_1149 : decode cL_law 1149 = .ok (.ifCond .ne 5, 3) := by decide +kernel
theorem dL_law_1152 : decode cL_law 1152 = .ok (.iconst 0, 1) := by decide +kernel
theorem dL_law_1153 : decode cL_law 1153 = .ok (.ireturn, 1) := by decide +kernel
theorem dL_law_1154 : decode cL_law 1154 = .ok (.goto 1913, 3) := by decide +kernel
theorem dL_law_1157 : decode cL_law 1157 = .ok (.aload_n 1, 1) := by decide +kernel
theorem dL_law_1158 : decode cL_law 1158 = .ok (.aload_n 0, 1) := by decide +kernel
theorem dL_law_1159 : decode cL_law 1159 = .ok (.iload 5, 2) := by decide +kernel
theorem dL_law_1161 : decode cL_law 1161 = .ok (.iconst 1, 1) := by decide +kernel
theorem dL_law_1162 : decode cL_law 1162 = .ok (.iadd, 1) := by decide +kernel
theorem dL_law_1163 : decode cL_law 1163 = .ok (.iaload, 1) := by decide +kernel
theorem dL_law_1164 : decode cL_law 1164 = .ok (.aload 4, 2) := by decide +kernel
theorem dL_law_1166 : decode cL_law 1166 = .ok (.invokestatic 221, 3) := by decide +kernel
theorem dL_law_1169 : decode cL_law 1169 = .ok (.istore 6, 2) := by decide +kernel
theorem dL_law_1171 : decode cL_law 1171 = .ok (.aload_n 2, 1) := by decide +kernel
theorem dL_law_1172 : decode cL_law 1172 = .ok (.aload_n 0, 1) := by decide +kernel
theorem dL_law_1173 : decode cL_law 1173 = .ok (.iload 5, 2) := by decide +kernel
theorem dL_law_1175 : decode cL_law 1175 = .ok (.iconst 1, 1) := by decide +kernel
theorem dL_law_1176 : decode cL_law 1176 = .ok (.iadd, 1) := by decide +kernel
theorem dL_law_1177 : decode cL_law 1177 = .ok (.iaload, 1) := by decide +kernel
theorem dL_law_1178 : decode cL_law 1178 = .ok (.invokevirtual 223, 3) := by decide +kernel
theorem dL_law_1181 : decode cL_law 1181 = .ok (.fstore 7, 2) := by decide +kernel
theorem dL_law_1183 : decode cL_law 1183 = .ok (.aload_n 2, 1) := by decide +kernel
theorem dL_law_1184 : decode cL_law 1184 = .ok (.invokevirtual 162, 3) := by decide +kernel
theorem dL_law_1187 : decode cL_law 1187 = .ok (.iload 6, 2) := by decide +kernel
theorem dL_law_1189 : decode cL_law 1189 = .ok (.if_icmp .eq 5, 3) := by decide +kernel
theorem dL_law_1192 : decode cL_law 1192 = .ok (.iconst 0, 1) := by decide +kernel
theorem dL_law_1193 : decode cL_law 1193 = .ok (.ireturn, 1) := by decide +kernel
theorem dL_law_1194 : decode cL_law 1194 = .ok (.iload 6, 2) := by decide +kernel
theorem dL_law_1196 : decode cL_law 1196 = .ok (.ifCond .ne 36, 3) := by decide +kernel
theorem dL_law_1199 : decode cL_law 1199 = .ok (.aload 4, 2) := by decide +kernel
theorem dL_law_1201 : decode cL_law 1201 = .ok (.iconst 0, 1) := by decide +kernel
theorem dL_law_1202 : decode cL_law 1202 = .ok (.daload, 1) := by decide +kernel
theorem dL_law_1203 : decode cL_law 1203 = .ok (.fload 7, 2) := by decide +kernel
theorem dL_law_1205 : decode cL_law 1205 = .ok (.f2d, 1) := by decide +kernel
theorem dL_law_1206 : decode cL_law 1206 = .ok (.dcmp .l, 1) := by decide +kernel
theorem dL_law_1207 : decode cL_law 1207 = .ok (.ifCond .eq 25, 3) := by decide +kernel
theorem dL_law_1210 : decode cL_law 1210 = .ok (.aload 4, 2) := by decide +kernel
theorem dL_law_1212 : decode cL_law 1212 = .ok (.iconst 0, 1) := by decide +kernel
theorem dL_law_1213 : decode cL_law 1213 = .ok (.daload, 1) := by decide +kernel
theorem dL_law_1214 : decode cL_law 1214 = .ok (.aload 4, 2) := by decide +kernel
theorem dL_law_1216 : decode cL_law 1216 = .ok (.iconst 0, 1) := by decide +kernel
theorem dL_law_1217 : decode cL_law 1217 = .ok (.daload, 1) := by decide +kernel
theorem dL_law_1218 : decode cL_law 1218 = .ok (.dcmp .l, 1) := by decide +kernel
theorem dL_law_1219 : decode cL_law 1219 = .ok (.ifCond .eq 11, 3) := by decide +kernel
theorem dL_law_1222 : decode cL_law 1222 = .ok (.fload 7, 2) := by decide +kernel
theorem dL_law_1224 : decode cL_law 1224 = .ok (.fload 7, 2) := by decide +kernel
theorem dL_law_1226 : decode cL_law 1226 = .ok (.fcmp .l, 1) := by decide +kernel
theorem dL_law_1227 : decode cL_law 1227 = .ok (.ifCond .ne 5, 3) := by decide +kernel
theorem dL_law_1230 : decode cL_law 1230 = .ok (.iconst 0, 1) := by decide +kernel
theorem dL_law_1231 : decode cL_law 1231 = .ok (.ireturn, 1) := by decide +kernel
theorem dL_law_1232 : decode cL_law 1232 = .ok (.goto 1835, 3) := by decide +kernel
theorem dL_law_1235 : decode cL_law 1235 = .ok (.aload_n 1, 1) := by decide +kernel
theorem dL_law_1236 : decode cL_law 1236 = .ok (.aload_n 0, 1) := by decide +kernel
theorem dL_law_1237 : decode cL_law 1237 = .ok (.iload 5, 2) := by decide +kernel
theorem dL_law_1239 : decode cL_law 1239 = .ok (.iconst 1, 1) := by decide +kernel
theorem dL_law_1240 : decode cL_law 1240 = .ok (.iadd, 1) := by decide +kernel
theorem dL_law_1241 : decode cL_law 1241 = .ok (.iaload, 1) := by decide +kernel
theorem dL_law_1242 : decode cL_law 1242 = .ok (.aload_n 0, 1) := by decide +kernel
theorem dL_law_1243 : decode cL_law 1243 = .ok (.iload 5, 2) := by decide +kernel
theorem dL_law_1245 : decode cL_law 1245 = .ok (.iconst 2, 1) := by decide +kernel
theorem dL_law_1246 : decode cL_law 1246 = .ok (.iadd, 1) := by decide +kernel
theorem dL_law_1247 : decode cL_law 1247 = .ok (.iaload, 1) := by decide +kernel
theorem dL_law_1248 : decode cL_law 1248 = .ok (.aload_n 3, 1) := by decide +kernel
theorem dL_law_1249 : decode cL_law 1249 = .ok (.invokestatic 224, 3) := by decide +kernel
theorem dL_law_1252 : decode cL_law 1252 = .ok (.istore 6, 2) := by decide +kernel
theorem dL_law_1254 : decode cL_law 1254 = .ok (.aload_n 2, 1) := by decide +kernel
theorem dL_law_1255 : decode cL_law 1255 = .ok (.aload_n 0, 1) := by decide +kernel
theorem dL_law_1256 : decode cL_law 1256 = .ok (.iload 5, 2) := by decide +kernel
theorem dL_law_1258 : decode cL_law 1258 = .ok (.iconst 1, 1) := by decide +kernel
theorem dL_law_1259 : decode cL_law 1259 = .ok (.iadd, 1) := by decide +kernel
theorem dL_law_1260 : decode cL_law 1260 = .ok (.iaload, 1) := by decide +kernel
theorem dL_law_1261 : decode cL_law 1261 = .ok (.aload_n 0, 1) := by decide +kernel
theorem dL_law_1262 : decode cL_law 1262 = .ok (.iload 5, 2) := by decide +kernel
theorem dL_law_1264 : decode cL_law 1264 = .ok (.iconst 2, 1) := by decide +kernel
theorem dL_law_1265 : decode cL_law 1265 = .ok (.iadd, 1) := by decide +kernel
theorem dL_law_1266 : decode cL_law 1266 = .ok (.iaload, 1) := by decide +kernel
theorem dL_law_1267 : decode cL_law 1267 = .ok (.invokevirtual 226, 3) := by decide +kernel
theorem dL_law_1270 : decode cL_law 1270 = .ok (.istore 7, 2) := by decide +kernel
theorem dL_law_1272 : decode cL_law 1272 = .ok (.aload_n 2, 1) := by decide +kernel
theorem dL_law_1273 : decode cL_law 1273 = .ok (.invokevirtual 162, 3) := by decide +kernel
theorem dL_law_1276 : decode cL_law 1276 = .ok (.iload 6, 2) := by decide +kernel
theorem dL_law_1278 : decode cL_law 1278 = .ok (.if_icmp .eq 5, 3) := by decide +kernel
theorem dL_law_1281 : decode cL_law 1281 = .ok (.iconst 0, 1) := by decide +kernel
theorem dL_law_1282 : decode cL_law 1282 = .ok (.ireturn, 1) := by decide +kernel
theorem dL_law_1283 : decode cL_law 1283 = .ok (.iload 6, 2) := by decide +kernel
theorem dL_law_1285 : decode cL_law 1285 = .ok (.ifCond .ne 15, 3) := by decide +kernel
theorem dL_law_1288 : decode cL_law 1288 = .ok (.aload_n 3, 1) := by decide +kernel
theorem dL_law_1289 : decode cL_law 1289 = .ok (.iconst 0, 1) := by decide +kernel
theorem dL_law_1290 : decode cL_law 1290 = .ok (.laload, 1) := by decide +kernel
theorem dL_law_1291 : decode cL_law 1291 = .ok (.iload 7, 2) := by decide +kernel
theorem dL_law_1293 : decode cL_law 1293 = .ok (.i2l, 1) := by decide +kernel
theorem dL_law_1294 : decode cL_law 1294 = .ok (.lcmp, 1) := by decide +kernel
theorem dL_law_1295 : decode cL_law 1295 = .ok (.ifCond .eq 5, 3) := by decide +kernel
theorem dL_law_1298 : decode cL_law 1298 = .ok (.iconst 0, 1) := by decide +kernel
theorem dL_law_1299 : decode cL_law 1299 = .ok (.ireturn, 1) := by decide +kernel
theorem dL_law_1300 : decode cL_law 1300 = .ok (.goto 1767, 3) := by decide +kernel
theorem dL_law_1303 : decode cL_law 1303 = .ok (.aload_n 1, 1) := by decide +kernel
theorem dL_law_1304 : decode cL_law 1304 = .ok (.invokevirtual 227, 3) := by decide +kernel
theorem dL_law_1307 : decode cL_law 1307 = .ok (.aload_n 2, 1) := by decide +kernel
theorem dL_law_1308 : decode cL_law 1308 = .ok (.invokevirtual 230, 3) := by decide +kernel
theorem dL_law_1311 : decode cL_law 1311 = .ok (.if_icmp .eq 1756, 3) := by decide +kernel
theorem dL_law_1314 : decode cL_law 1314 = .ok (.iconst 0, 1) := by decide +kernel
theorem dL_law_1315 : decode cL_law 1315 = .ok (.ireturn, 1) := by decide +kernel
theorem dL_law_1316 : decode cL_law 1316 = .ok (.aload_n 1, 1) := by decide +kernel
theorem dL_law_1317 : decode cL_law 1317 = .ok (.invokevirtual 231, 3) := by decide +kernel
theorem dL_law_1320 : decode cL_law 1320 = .ok (.aload_n 2, 1) := by decide +kernel
theorem dL_law_1321 : decode cL_law 1321 = .ok (.invokevirtual 235, 3) := by decide +kernel
theorem dL_law_1324 : decode cL_law 1324 = .ok (.if_icmp .eq 1743, 3) := by decide +kernel
theorem dL_law_1327 : decode cL_law 1327 = .ok (.iconst 0, 1) := by decide +kernel
theorem dL_law_1328 : decode cL_law 1328 = .ok (.ireturn, 1) := by decide +kernel
theorem dL_law_1329 : decode cL_law 1329 = .ok (.aload_n 1, 1) := by decide +kernel
theorem dL_law_1330 : decode cL_law 1330 = .ok (.invokevirtual 236, 3) := by decide +kernel
theorem dL_law_1333 : decode cL_law 1333 = .ok (.aload_n 2, 1) := by decide +kernel
theorem dL_law_1334 : decode cL_law 1334 = .ok (.invokevirtual 239, 3) := by decide +kernel
theorem dL_law_1337 : decode cL_law 1337 = .ok (.if_icmp .eq 1730, 3) := by decide +kernel
theorem dL_law_1340 : decode cL_law 1340 = .ok (.iconst 0, 1) := by decide +kernel
theorem dL_law_1341 : decode cL_law 1341 = .ok (.ireturn, 1) := by decide +kernel
theorem dL_law_1342 : decode cL_law 1342 = .ok (.aload_n 1, 1) := by decide +kernel
theorem dL_law_1343 : decode cL_law 1343 = .ok (.aload_n 0, 1) := by decide +kernel
theorem dL_law_1344 : decode cL_law 1344 = .ok (.iload 5, 2) := by decide +kernel
theorem dL_law_1346 : decode cL_law 1346 = .ok (.iconst 1, 1) := by decide +kernel
theorem dL_law_1347 : decode cL_law 1347 = .ok (.iadd, 1) := by decide +kernel
theorem dL_law_1348 : decode cL_law 1348 = .ok (.iaload, 1) := by decide +kernel
theorem dL_law_1349 : decode cL_law 1349 = .ok (.aload_n 0, 1) := by decide +kernel
theorem dL_law_1350 : decode cL_law 1350 = .ok (.iload 5, 2) := by decide +kernel
theorem dL_law_1352 : decode cL_law 1352 = .ok (.iconst 2, 1) := by decide +kernel
theorem dL_law_1353 : decode cL_law 1353 = .ok (.iadd, 1) := by decide +kernel
theorem dL_law_1354 : decode cL_law 1354 = .ok (.iaload, 1) := by decide +kernel
theorem dL_law_1355 : decode cL_law 1355 = .ok (.aload_n 3, 1) := by decide +kernel
theorem dL_law_1356 : decode cL_law 1356 = .ok (.invokestatic 240, 3) := by decide +kernel
theorem dL_law_1359 : decode cL_law 1359 = .ok (.istore 6, 2) := by decide +kernel
theorem dL_law_1361 : decode cL_law 1361 = .ok (.aload_n 2, 1) := by decide +kernel
theorem dL_law_1362 : decode cL_law 1362 = .ok (.aload_n 0, 1) := by decide +kernel
theorem dL_law_1363 : decode cL_law 1363 = .ok (.iload 5, 2) := by decide +kernel
theorem dL_law_1365 : decode cL_law 1365 = .ok (.iconst 1, 1) := by decide +kernel
theorem dL_law_1366 : decode cL_law 1366 = .ok (.iadd, 1) := by decide +kernel
theorem dL_law_1367 : decode cL_law 1367 = .ok (.iaload, 1) := by decide +kernel
theorem dL_law_1368 : decode cL_law 1368 = .ok (.aload_n 0, 1) := by decide +kernel
theorem dL_law_1369 : decode cL_law 1369 = .ok (.iload 5, 2) := by decide +kernel
theorem dL_law_1371 : decode cL_law 1371 = .ok (.iconst 2, 1) := by decide +kernel
theorem dL_law_1372 : decode cL_law 1372 = .ok (.iadd, 1) := by decide +kernel
theorem dL_law_1373 : decode cL_law 1373 = .ok (.iaload, 1) := by decide +kernel
theorem dL_law_1374 : decode cL_law 1374 = .ok (.invokevirtual 242, 3) := by decide +kernel
theorem dL_law_1377 : decode cL_law 1377 = .ok (.istore 7, 2) := by decide +kernel
theorem dL_law_1379 : decode cL_law 1379 = .ok (.aload_n 2, 1) := by decide +kernel
theorem dL_law_1380 : decode cL_law 1380 = .ok (.invokevirtual 162, 3) := by decide +kernel
theorem dL_law_1383 : decode cL_law 1383 = .ok (.iload 6, 2) := by decide +kernel
theorem dL_law_1385 : decode cL_law 1385 = .ok (.if_icmp .eq 5, 3) := by decide +kernel
theorem dL_law_1388 : decode cL_law 1388 = .ok (.iconst 0, 1) := by decide +kernel
theorem dL_law_1389 : decode cL_law 1389 = .ok (.ireturn, 1) := by decide +kernel
theorem dL_law_1390 : decode cL_law 1390 = .ok (.iload 6, 2) := by decide +kernel
theorem dL_law_1392 : decode cL_law 1392 = .ok (.ifCond .ne 15, 3) := by decide +kernel
theorem dL_law_1395 : decode cL_law 1395 = .ok (.aload_n 3, 1) := by decide +kernel
theorem dL_law_1396 : decode cL_law 1396 = .ok (.iconst 0, 1) := by decide +kernel
theorem dL_law_1397 : decode cL_law 1397 = .ok (.laload, 1) := by decide +kernel
theorem dL_law_1398 : decode cL_law 1398 = .ok (.iload 7, 2) := by decide +kernel
theorem dL_law_1400 : decode cL_law 1400 = .ok (.i2l, 1) := by decide +kernel
theorem dL_law_1401 : decode cL_law 1401 = .ok (.lcmp, 1) := by decide +kernel
theorem dL_law_1402 : decode cL_law 1402 = .ok (.ifCond .eq 5, 3) := by decide +kernel
theorem dL_law_1405 : decode cL_law 1405 = .ok (.iconst 0, 1) := by decide +kernel
theorem dL_law_1406 : decode cL_law 1406 = .ok (.ireturn, 1) := by decide +kernel
theorem dL_law_1407 : decode cL_law 1407 = .ok (.goto 1660, 3) := by decide +kernel
theorem dL_law_1410 : decode cL_law 1410 = .ok (.aload_n 1, 1) := by decide +kernel
theorem dL_law_1411 : decode cL_law 1411 = .ok (.aload_n 0, 1) := by decide +kernel
theorem dL_law_1412 : decode cL_law 1412 = .ok (.iload 5, 2) := by decide +kernel
theorem dL_law_1414 : decode cL_law 1414 = .ok (.iconst 1, 1) := by decide +kernel
theorem dL_law_1415 : decode cL_law 1415 = .ok (.iadd, 1) := by decide +kernel
theorem dL_law_1416 : decode cL_law 1416 = .ok (.iaload, 1) := by decide +kernel
theorem dL_law_1417 : decode cL_law 1417 = .ok (.aload_n 0, 1) := by decide +kernel
theorem dL_law_1418 : decode cL_law 1418 = .ok (.iload 5, 2) := by decide +kernel
theorem dL_law_1420 : decode cL_law 1420 = .ok (.iconst 2, 1) := by decide +kernel
theorem dL_law_1421 : decode cL_law 1421 = .ok (.iadd, 1) := by decide +kernel
theorem dL_law_1422 : decode cL_law 1422 = .ok (.iaload, 1) := by decide +kernel
theorem dL_law_1423 : decode cL_law 1423 = .ok (.aload_n 3, 1) := by decide +kernel
theorem dL_law_1424 : decode cL_law 1424 = .ok (.invokestatic 243, 3) := by decide +kernel
theorem dL_law_1427 : decode cL_law 1427 = .ok (.istore 6, 2) := by decide +kernel
theorem dL_law_1429 : decode cL_law 1429 = .ok (.aload_n 2, 1) := by decide +kernel
theorem dL_law_1430 : decode cL_law 1430 = .ok (.aload_n 0, 1) := by decide +kernel
theorem dL_law_1431 : decode cL_law 1431 = .ok (.iload 5, 2) := by decide +kernel
theorem dL_law_1433 : decode cL_law 1433 = .ok (.iconst 1, 1) := by decide +kernel
theorem dL_law_1434 : decode cL_law 1434 = .ok (.iadd, 1) := by decide +kernel
theorem dL_law_1435 : decode cL_law 1435 = .ok (.iaload, 1) := by decide +kernel
theorem dL_law_1436 : decode cL_law 1436 = .ok (.aload_n 0, 1) := by decide +kernel
theorem dL_law_1437 : decode cL_law 1437 = .ok (.iload 5, 2) := by decide +kernel
theorem dL_law_1439 : decode cL_law 1439 = .ok (.iconst 2, 1) := by decide +kernel
theorem dL_law_1440 : decode cL_law 1440 = .ok (.iadd, 1) := by decide +kernel
theorem dL_law_1441 : decode cL_law 1441 = .ok (.iaload, 1) := by decide +kernel
theorem dL_law_1442 : decode cL_law 1442 = .ok (.invokevirtual 245, 3) := by decide +kernel
theorem dL_law_1445 : decode cL_law 1445 = .ok (.istore 7, 2) := by decide +kernel
theorem dL_law_1447 : decode cL_law 1447 = .ok (.aload_n 2, 1) := by decide +kernel
theorem dL_law_1448 : decode cL_law 1448 = .ok (.invokevirtual 162, 3) := by decide +kernel
theorem dL_law_1451 : decode cL_law 1451 = .ok (.iload 6, 2) := by decide +kernel
theorem dL_law_1453 : decode cL_law 1453 = .ok (.if_icmp .eq 5, 3) := by decide +kernel
theorem dL_law_1456 : decode cL_law 1456 = .ok (.iconst 0, 1) := by decide +kernel
theorem dL_law_1457 : decode cL_law 1457 = .ok (.ireturn, 1) := by decide +kernel
theorem dL_law_1458 : decode cL_law 1458 = .ok (.iload 6, 2) := by decide +kernel
theorem dL_law_1460 : decode cL_law 1460 = .ok (.ifCond .ne 15, 3) := by decide +kernel
theorem dL_law_1463 : decode cL_law 1463 = .ok (.aload_n 3, 1) := by decide +kernel
theorem dL_law_1464 : decode cL_law 1464 = .ok (.iconst 0, 1) := by decide +kernel
theorem dL_law_1465 : decode cL_law 1465 = .ok (.laload, 1) := by decide +kernel
theorem dL_law_1466 : decode cL_law 1466 = .ok (.iload 7, 2) := by decide +kernel
theorem dL_law_1468 : decode cL_law 1468 = .ok (.i2l, 1) := by decide +kernel
theorem dL_law_1469 : decode cL_law 1469 = .ok (.lcmp, 1) := by decide +kernel
theorem dL_law_1470 : decode cL_law 1470 = .ok (.ifCond .eq 5, 3) := by decide +kernel
theorem dL_law_1473 : decode cL_law 1473 = .ok (.iconst 0, 1) := by decide +kernel
theorem dL_law_1474 : decode cL_law 1474 = .ok (.ireturn, 1) := by decide +kernel
theorem dL_law_1475 : decode cL_law 1475 = .ok (.goto 1592, 3) := by decide +kernel
theorem dL_law_1478 : decode cL_law 1478 = .ok (.aload_n 1, 1) := by decide +kernel
theorem dL_law_1479 : decode cL_law 1479 = .ok (.aload_n 0, 1) := by decide +kernel
theorem dL_law_1480 : decode cL_law 1480 = .ok (.iload 5, 2) := by decide +kernel
theorem dL_law_1482 : decode cL_law 1482 = .ok (.iconst 1, 1) := by decide +kernel
theorem dL_law_1483 : decode cL_law 1483 = .ok (.iadd, 1) := by decide +kernel
theorem dL_law_1484 : decode cL_law 1484 = .ok (.iaload, 1) := by decide +kernel
theorem dL_law_1485 : decode cL_law 1485 = .ok (.aload_n 0, 1) := by decide +kernel
theorem dL_law_1486 : decode cL_law 1486 = .ok (.iload 5, 2) := by decide +kernel
theorem dL_law_1488 : decode cL_law 1488 = .ok (.iconst 2, 1) := by decide +kernel
theorem dL_law_1489 : decode cL_law 1489 = .ok (.iadd, 1) := by decide +kernel
theorem dL_law_1490 : decode cL_law 1490 = .ok (.iaload, 1) := by decide +kernel
theorem dL_law_1491 : decode cL_law 1491 = .ok (.aload_n 0, 1) := by decide +kernel
theorem dL_law_1492 : decode cL_law 1492 = .ok (.iload 5, 2) := by decide +kernel
theorem dL_law_1494 : decode cL_law 1494 = .ok (.iconst 3, 1) := by decide +kernel
theorem dL_law_1495 : decode cL_law 1495 = .ok (.iadd, 1) := by decide +kernel
theorem dL_law_1496 : decode cL_law 1496 = .ok (.iaload, 1) := by decide +kernel
theorem dL_law_1497 : decode cL_law 1497 = .ok (.aload_n 3, 1) := by decide +kernel
theorem dL_law_1498 : decode cL_law 1498 = .ok (.invokestatic 246, 3) := by decide +kernel
theorem dL_law_1501 : decode cL_law 1501 = .ok (.istore 6, 2) := by decide +kernel
theorem dL_law_1503 : decode cL_law 1503 = .ok (.aload_n 2, 1) := by decide +kernel
theorem dL_law_1504 : decode cL_law 1504 = .ok (.aload_n 0, 1) := by decide +kernel
theorem dL_law_1505 : decode cL_law 1505 = .ok (.iload 5, 2) := by decide +kernel
theorem dL_law_1507 : decode cL_law 1507 = .ok (.iconst 1, 1) := by decide +kernel
theorem dL_law_1508 : decode cL_law 1508 = .ok (.iadd, 1) := by decide +kernel
theorem dL_law_1509 : decode cL_law 1509 = .ok (.iaload, 1) := by decide +kernel
theorem dL_law_1510 : decode cL_law 1510 = .ok (.aload_n 0, 1) := by decide +kernel
theorem dL_law_1511 : decode cL_law 1511 = .ok (.iload 5, 2) := by decide +kernel
theorem dL_law_1513 : decode cL_law 1513 = .ok (.iconst 2, 1) := by decide +kernel
theorem dL_law_1514 : decode cL_law 1514 = .ok (.iadd, 1) := by decide +kernel
theorem dL_law_1515 : decode cL_law 1515 = .ok (.iaload, 1) := by decide +kernel
theorem dL_law_1516 : decode cL_law 1516 = .ok (.aload_n 0, 1) := by decide +kernel
theorem dL_law_1517 : decode cL_law 1517 = .ok (.iload 5, 2) := by decide +kernel
theorem dL_law_1519 : decode cL_law 1519 = .ok (.iconst 3, 1) := by decide +kernel
theorem dL_law_1520 : decode cL_law 1520 = .ok (.iadd, 1) := by decide +kernel
theorem dL_law_1521 : decode cL_law 1521 = .ok (.iaload, 1) := by decide +kernel
theorem dL_law_1522 : decode cL_law 1522 = .ok (.invokevirtual 249, 3) := by decide +kernel
theorem dL_law_1525 : decode cL_law 1525 = .ok (.istore 7, 2) := by decide +kernel
theorem dL_law_1527 : decode cL_law 1527 = .ok (.aload_n 2, 1) := by decide +kernel
theorem dL_law_1528 : decode cL_law 1528 = .ok (.invokevirtual 162, 3) := by decide +kernel
theorem dL_law_1531 : decode cL_law 1531 = .ok (.iload 6, 2) := by decide +kernel
theorem dL_law_1533 : decode cL_law 1533 = .ok (.if_icmp .eq 5, 3) := by decide +kernel
theorem dL_law_1536 : decode cL_law 1536 = .ok (.iconst 0, 1) := by decide +kernel
theorem dL_law_1537 : decode cL_law 1537 = .ok (.ireturn, 1) := by decide +kernel
theorem dL_law_1538 : decode cL_law 1538 = .ok (.iload 6, 2) := by decide +kernel
theorem dL_law_1540 : decode cL_law 1540 = .ok (.ifCond .ne 15, 3) := by decide +kernel
theorem dL_law_1543 : decode cL_law 1543 = .ok (.aload_n 3, 1) := by decide +kernel
theorem dL_law_1544 : decode cL_law 1544 = .ok (.iconst 0, 1) := by decide +kernel
theorem dL_law_1545 : decode cL_law 1545 = .ok (.laload, 1) := by decide +kernel
theorem dL_law_1546 : decode cL_law 1546 = .ok (.iload 7, 2) := by decide +kernel
theorem dL_law_1548 : decode cL_law 1548 = .ok (.i2l, 1) := by decide +kernel
theorem dL_law_1549 : decode cL_law 1549 = .ok (.lcmp, 1) := by decide +kernel
theorem dL_law_1550 : decode cL_law 1550 = .ok (.ifCond .eq 5, 3) := by decide +kernel
theorem dL_law_1553 : decode cL_law 1553 = .ok (.iconst 0, 1) := by decide +kernel
theorem dL_law_1554 : decode cL_law 1554 = .ok (.ireturn, 1) := by decide +kernel
theorem dL_law_1555 : decode cL_law 1555 = .ok (.goto 1512, 3) := by decide +kernel
theorem dL_law_1558 : decode cL_law 1558 = .ok (.aload_n 1, 1) := by decide +kernel
theorem dL_law_1559 : decode cL_law 1559 = .ok (.aload_n 0, 1) := by decide +kernel
theorem dL_law_1560 : decode cL_law 1560 = .ok (.iload 5, 2) := by decide +kernel
theorem dL_law_1562 : decode cL_law 1562 = .ok (.iconst 1, 1) := by decide +kernel
theorem dL_law_1563 : decode cL_law 1563 = .ok (.iadd, 1) := by decide +kernel
theorem dL_law_1564 : decode cL_law 1564 = .ok (.iaload, 1) := by decide +kernel
theorem dL_law_1565 : decode cL_law 1565 = .ok (.aload_n 3, 1) := by decide +kernel
theorem dL_law_1566 : decode cL_law 1566 = .ok (.invokestatic 250, 3) := by decide +kernel
theorem dL_law_1569 : decode cL_law 1569 = .ok (.istore 6, 2) := by decide +kernel
theorem dL_law_1571 : decode cL_law 1571 = .ok (.aload_n 2, 1) := by decide +kernel
theorem dL_law_1572 : decode cL_law 1572 = .ok (.aload_n 0, 1) := by decide +kernel
theorem dL_law_1573 : decode cL_law 1573 = .ok (.iload 5, 2) := by decide +kernel
theorem dL_law_1575 : decode cL_law 1575 = .ok (.iconst 1, 1) := by decide +kernel
theorem dL_law_1576 : decode cL_law 1576 = .ok (.iadd, 1) := by decide +kernel
theorem dL_law_1577 : decode cL_law 1577 = .ok (.iaload, 1) := by decide +kernel
theorem dL_law_1578 : decode cL_law 1578 = .ok (.invokevirtual 252, 3) := by decide +kernel
theorem dL_law_1581 : decode cL_law 1581 = .ok (.istore 7, 2) := by decide +kernel
theorem dL_law_1583 : decode cL_law 1583 = .ok (.aload_n 2, 1) := by decide +kernel
theorem dL_law_1584 : decode cL_law 1584 = .ok (.invokevirtual 162, 3) := by decide +kernel
theorem dL_law_1587 : decode cL_law 1587 = .ok (.iload 6, 2) := by decide +kernel
theorem dL_law_1589 : decode cL_law 1589 = .ok (.if_icmp .eq 5, 3) := by decide +kernel
theorem dL_law_1592 : decode cL_law 1592 = .ok (.iconst 0, 1) := by decide +kernel
theorem dL_law_1593 : decode cL_law 1593 = .ok (.ireturn, 1) := by decide +kernel
theorem dL_law_1594 : decode cL_law 1594 = .ok (.iload 6, 2) := by decide +kernel
theorem dL_law_1596 : decode cL_law 1596 = .ok (.ifCond .ne 15, 3) := by decide +kernel
theorem dL_law_1599 : decode cL_law 1599 = .ok (.aload_n 3, 1) := by decide +kernel
theorem dL_law_1600 : decode cL_law 1600 = .ok (.iconst 0, 1) := by decide +kernel
theorem dL_law_1601 : decode cL_law 1601 = .ok (.laload, 1) := by decide +kernel
theorem dL_law_1602 : decode cL_law 1602 = .ok (.iload 7, 2) := by decide +kernel
theorem dL_law_1604 : decode cL_law 1604 = .ok (.i2l, 1) := by decide +kernel
theorem dL_law_1605 : decode cL_law 1605 = .ok (.lcmp, 1) := by decide +kernel
theorem dL_law_1606 : decode cL_law 1606 = .ok (.ifCond .eq 5, 3) := by decide +kernel
theorem dL_law_1609 : decode cL_law 1609 = .ok (.iconst 0, 1) := by decide +kernel
theorem dL_law_1610 : decode cL_law 1610 = .ok (.ireturn, 1) := by decide +kernel
theorem dL_law_1611 : decode cL_law 1611 = .ok (.goto 1456, 3) := by decide +kernel
theorem dL_law_1614 : decode cL_law 1614 = .ok (.aload_n 1, 1) := by decide +kernel
theorem dL_law_1615 : decode cL_law 1615 = .ok (.aload_n 0, 1) := by decide +kernel
theorem dL_law_1616 : decode cL_law 1616 = .ok (.iload 5, 2) := by decide +kernel
theorem dL_law_1618 : decode cL_law 1618 = .ok (.iconst 1, 1) := by decide +kernel
theorem dL_law_1619 : decode cL_law 1619 = .ok (.iadd, 1) := by decide +kernel
theorem dL_law_1620 : decode cL_law 1620 = .ok (.iaload, 1) := by decide +kernel
theorem dL_law_1621 : decode cL_law 1621 = .ok (.aload_n 3, 1) := by decide +kernel
theorem dL_law_1622 : decode cL_law 1622 = .ok (.invokestatic 253, 3) := by decide +kernel
theorem dL_law_1625 : decode cL_law 1625 = .ok (.istore 6, 2) := by decide +kernel
theorem dL_law_1627 : decode cL_law 1627 = .ok (.aload_n 2, 1) := by decide +kernel
theorem dL_law_1628 : decode cL_law 1628 = .ok (.aload_n 0, 1) := by decide +kernel
theorem dL_law_1629 : decode cL_law 1629 = .ok (.iload 5, 2) := by decide +kernel
theorem dL_law_1631 : decode cL_law 1631 = .ok (.iconst 1, 1) := by decide +kernel
theorem dL_law_1632 : decode cL_law 1632 = .ok (.iadd, 1) := by decide +kernel
theorem dL_law_1633 : decode cL_law 1633 = .ok (.iaload, 1) := by decide +kernel
theorem dL_law_1634 : decode cL_law 1634 = .ok (.invokevirtual 255, 3) := by decide +kernel
theorem dL_law_1637 : decode cL_law 1637 = .ok (.istore 7, 2) := by decide +kernel
theorem dL_law_1639 : decode cL_law 1639 = .ok (.aload_n 2, 1) := by decide +kernel
theorem dL_law_1640 : decode cL_law 1640 = .ok (.invokevirtual 162, 3) := by decide +kernel
theorem dL_law_1643 : decode cL_law 1643 = .ok (.iload 6, 2) := by decide +kernel
theorem dL_law_1645 : decode cL_law 1645 = .ok (.if_icmp .eq 5, 3) := by decide +kernel
theorem dL_law_1648 : decode cL_law 1648 = .ok (.iconst 0, 1) := by decide +kernel
theorem dL_law_1649 : decode cL_law 1649 = .ok (.ireturn, 1) := by decide +kernel
theorem dL_law_1650 : decode cL_law 1650 = .ok (.iload 6, 2) := by decide +kernel
theorem dL_law_1652 : decode cL_law 1652 = .ok (.ifCond .ne 15, 3) := by decide +kernel
theorem dL_law_1655 : decode cL_law 1655 = .ok (.aload_n 3, 1) := by decide +kernel
theorem dL_law_1656 : decode cL_law 1656 = .ok (.iconst 0, 1) := by decide +kernel
theorem dL_law_1657 : decode cL_law 1657 = .ok (.laload, 1) := by decide +kernel
theorem dL_law_1658 : decode cL_law 1658 = .ok (.iload 7, 2) := by decide +kernel
theorem dL_law_1660 : decode cL_law 1660 = .ok (.i2l, 1) := by decide +kernel
theorem dL_law_1661 : decode cL_law 1661 = .ok (.lcmp, 1) := by decide +kernel
theorem dL_law_1662 : decode cL_law 1662 = .ok (.ifCond .eq 5, 3) := by decide +kernel
theorem dL_law_1665 : decode cL_law 1665 = .ok (.iconst 0, 1) := by decide +kernel
theorem dL_law_1666 : decode cL_law 1666 = .ok (.ireturn, 1) := by decide +kernel
theorem dL_law_1667 : decode cL_law 1667 = .ok (.goto 1400, 3) := by decide +kernel
theorem dL_law_1670 : decode cL_law 1670 = .ok (.aload_n 1, 1) := by decide +kernel
theorem dL_law_1671 : decode cL_law 1671 = .ok (.aload_n 0, 1) := by decide +kernel
theorem dL_law_1672 : decode cL_law 1672 = .ok (.iload 5, 2) := by decide +kernel
theorem dL_law_1674 : decode cL_law 1674 = .ok (.iconst 1, 1) := by decide +kernel
theorem dL_law_1675 : decode cL_law 1675 = .ok (.iadd, 1) := by decide +kernel
theorem dL_law_1676 : decode cL_law 1676 = .ok (.iaload, 1) := by decide +kernel
theorem dL_law_1677 : decode cL_law 1677 = .ok (.aload_n 0, 1) := by decide +kernel
theorem dL_law_1678 : decode cL_law 1678 = .ok (.iload 5, 2) := by decide +kernel
theorem dL_law_1680 : decode cL_law 1680 = .ok (.iconst 2, 1) := by decide +kernel
theorem dL_law_1681 : decode cL_law 1681 = .ok (.iadd, 1) := by decide +kernel
theorem dL_law_1682 : decode cL_law 1682 = .ok (.iaload, 1) := by decide +kernel
theorem dL_law_1683 : decode cL_law 1683 = .ok (.aload_n 3, 1) := by decide +kernel
theorem dL_law_1684 : decode cL_law 1684 = .ok (.invokestatic 256, 3) := by decide +kernel
theorem dL_law_1687 : decode cL_law 1687 = .ok (.istore 6, 2) := by decide +kernel
theorem dL_law_1689 : decode cL_law 1689 = .ok (.aload_n 2, 1) := by decide +kernel
theorem dL_law_1690 : decode cL_law 1690 = .ok (.aload_n 0, 1) := by decide +kernel
theorem dL_law_1691 : decode cL_law 1691 = .ok (.iload 5, 2) := by decide +kernel
theorem dL_law_1693 : decode cL_law 1693 = .ok (.iconst 1, 1) := by decide +kernel
theorem dL_law_1694 : decode cL_law 1694 = .ok (.iadd, 1) := by decide +kernel
theorem dL_law_1695 : decode cL_law 1695 = .ok (.iaload, 1) := by decide +kernel
theorem dL_law_1696 : decode cL_law 1696 = .ok (.aload_n 0, 1) := by decide +kernel
theorem dL_law_1697 : decode cL_law 1697 = .ok (.iload 5, 2) := by decide +kernel
theorem dL_law_1699 : decode cL_law 1699 = .ok (.iconst 2, 1) := by decide +kernel
theorem dL_law_1700 : decode cL_law 1700 = .ok (.iadd, 1) := by decide +kernel
theorem dL_law_1701 : decode cL_law 1701 = .ok (.iaload, 1) := by decide +kernel
theorem dL_law_1702 : decode cL_law 1702 = .ok (.invokevirtual 258, 3) := by decide +kernel
theorem dL_law_1705 : decode cL_law 1705 = .ok (.istore 7, 2) := by decide +kernel
theorem dL_law_1707 : decode cL_law 1707 = .ok (.aload_n 2, 1) := by decide +kernel
theorem dL_law_1708 : decode cL_law 1708 = .ok (.invokevirtual 162, 3) := by decide +kernel
theorem dL_law_1711 : decode cL_law 1711 = .ok (.iload 6, 2) := by decide +kernel
theorem dL_law_1713 : decode cL_law 1713 = .ok (.if_icmp .eq 5, 3) := by decide +kernel
theorem dL_law_1716 : decode cL_law 1716 = .ok (.iconst 0, 1) := by decide +kernel
theorem dL_law_1717 : decode cL_law 1717 = .ok (.ireturn, 1) := by decide +kernel
theorem dL_law_1718 : decode cL_law 1718 = .ok (.iload 6, 2) := by decide +kernel
theorem dL_law_1720 : decode cL_law 1720 = .ok (.ifCond .ne 15, 3) := by decide +kernel
theorem dL_law_1723 : decode cL_law 1723 = .ok (.aload_n 3, 1) := by decide +kernel
theorem dL_law_1724 : decode cL_law 1724 = .ok (.iconst 0, 1) := by decide +kernel
theorem dL_law_1725 : decode cL_law 1725 = .ok (.laload, 1) := by decide +kernel
theorem dL_law_1726 : decode cL_law 1726 = .ok (.iload 7, 2) := by decide +kernel
theorem dL_law_1728 : decode cL_law 1728 = .ok (.i2l, 1) := by decide +kernel
theorem dL_law_1729 : decode cL_law 1729 = .ok (.lcmp, 1) := by decide +kernel
theorem dL_law_1730 : decode cL_law 1730 = .ok (.ifCond .eq 5, 3) := by decide +kernel
theorem dL_law_1733 : decode cL_law 1733 = .ok (.iconst 0, 1) := by decide +kernel
theorem dL_law_1734 : decode cL_law 1734 = .ok (.ireturn, 1) := by decide +kernel
theorem dL_law_1735 : decode cL_law 1735 = .ok (.goto 1332, 3) := by decide +kernel
theorem dL_law_1738 : decode cL_law 1738 = .ok (.aload_n 1, 1) := by decide +kernel
theorem dL_law_1739 : decode cL_law 1739 = .ok (.invokevirtual 259, 3) := by decide +kernel
theorem dL_law_1742 : decode cL_law 1742 = .ok (.aload_n 2, 1) := by decide +kernel
theorem dL_law_1743 : decode cL_law 1743 = .ok (.invokevirtual 262, 3) := by decide +kernel
theorem dL_law_1746 : decode cL_law 1746 = .ok (.if_icmp .eq 1321, 3) := by decide +kernel
theorem dL_law_1749 : decode cL_law 1749 = .ok (.iconst 0, 1) := by decide +kernel
theorem dL_law_1750 : decode cL_law 1750 = .ok (.ireturn, 1) := by decide +kernel
theorem dL_law_1751 : decode cL_law 1751 = .ok (.aload_n 1, 1) := by decide +kernel
theorem dL_law_1752 : decode cL_law 1752 = .ok (.aload_n 0, 1) := by decide +kernel
theorem dL_law_1753 : decode cL_law 1753 = .ok (.iload 5, 2) := by decide +kernel
theorem dL_law_1755 : decode cL_law 1755 = .ok (.iconst 1, 1) := by decide +kernel
theorem dL_law_1756 : decode cL_law 1756 = .ok (.iadd, 1) := by decide +kernel
theorem dL_law_1757 : decode cL_law 1757 = .ok (.iaload, 1) := by decide +kernel
theorem dL_law_1758 : decode cL_law 1758 = .ok (.aload_n 0, 1) := by decide +kernel
theorem dL_law_1759 : decode cL_law 1759 = .ok (.iload 5, 2) := by decide +kernel
theorem dL_law_1761 : decode cL_law 1761 = .ok (.iconst 2, 1) := by decide +kernel
theorem dL_law_1762 : decode cL_law 1762 = .ok (.iadd, 1) := by decide +kernel
theorem dL_law_1763 : decode cL_law 1763 = .ok (.iaload, 1) := by decide +kernel
theorem dL_law_1764 : decode cL_law 1764 = .ok (.aload_n 3, 1) := by decide +kernel
theorem dL_law_1765 : decode cL_law 1765 = .ok (.invokestatic 263, 3) := by decide +kernel
theorem dL_law_1768 : decode cL_law 1768 = .ok (.istore 6, 2) := by decide +kernel
theorem dL_law_1770 : decode cL_law 1770 = .ok (.aload_n 2, 1) := by decide +kernel
theorem dL_law_1771 : decode cL_law 1771 = .ok (.aload_n 0, 1) := by decide +kernel
theorem dL_law_1772 : decode cL_law 1772 = .ok (.iload 5, 2) := by decide +kernel
theorem dL_law_1774 : decode cL_law 1774 = .ok (.iconst 1, 1) := by decide +kernel
theorem dL_law_1775 : decode cL_law 1775 = .ok (.iadd, 1) := by decide +kernel
theorem dL_law_1776 : decode cL_law 1776 = .ok (.iaload, 1) := by decide +kernel
theorem dL_law_1777 : decode cL_law 1777 = .ok (.aload_n 0, 1) := by decide +kernel
theorem dL_law_1778 : decode cL_law 1778 = .ok (.iload 5, 2) := by decide +kernel
theorem dL_law_1780 : decode cL_law 1780 = .ok (.iconst 2, 1) := by decide +kernel
theorem dL_law_1781 : decode cL_law 1781 = .ok (.iadd, 1) := by decide +kernel
theorem dL_law_1782 : decode cL_law 1782 = .ok (.iaload, 1) := by decide +kernel
theorem dL_law_1783 : decode cL_law 1783 = .ok (.invokevirtual 265, 3) := by decide +kernel
theorem dL_law_1786 : decode cL_law 1786 = .ok (.istore 7, 2) := by decide +kernel
theorem dL_law_1788 : decode cL_law 1788 = .ok (.aload_n 2, 1) := by decide +kernel
theorem dL_law_1789 : decode cL_law 1789 = .ok (.invokevirtual 162, 3) := by decide +kernel
theorem dL_law_1792 : decode cL_law 1792 = .ok (.iload 6, 2) := by decide +kernel
theorem dL_law_1794 : decode cL_law 1794 = .ok (.if_icmp .eq 5, 3) := by decide +kernel
theorem dL_law_1797 : decode cL_law 1797 = .ok (.iconst 0, 1) := by decide +kernel
theorem dL_law_1798 : decode cL_law 1798 = .ok (.ireturn, 1) := by decide +kernel
theorem dL_law_1799 : decode cL_law 1799 = .ok (.iload 6, 2) := by decide +kernel
theorem dL_law_1801 : decode cL_law 1801 = .ok (.ifCond .ne 15, 3) := by decide +kernel
theorem dL_law_1804 : decode cL_law 1804 = .ok (.aload_n 3, 1) := by decide +kernel
theorem dL_law_1805 : decode cL_law 1805 = .ok (.iconst 0, 1) := by decide +kernel
theorem dL_law_1806 : decode cL_law 1806 = .ok (.laload, 1) := by decide +kernel
theorem dL_law_1807 : decode cL_law 1807 = .ok (.iload 7, 2) := by decide +kernel
theorem dL_law_1809 : decode cL_law 1809 = .ok (.i2l, 1) := by decide +kernel
theorem dL_law_1810 : decode cL_law 1810 = .ok (.lcmp, 1) := by decide +kernel
theorem dL_law_1811 : decode cL_law 1811 = .ok (.ifCond .eq 5, 3) := by decide +kernel
theorem dL_law_1814 : decode cL_law 1814 = .ok (.iconst 0, 1) := by decide +kernel
theorem dL_law_1815 : decode cL_law 1815 = .ok (.ireturn, 1) := by decide +kernel
theorem dL_law_1816 : decode cL_law 1816 = .ok (.goto 1251, 3) := by decide +kernel
theorem dL_law_1819 : decode cL_law 1819 = .ok (.aload_n 1, 1) := by decide +kernel
theorem dL_law_1820 : decode cL_law 1820 = .ok (.aload_n 0, 1) := by decide +kernel
theorem dL_law_1821 : decode cL_law 1821 = .ok (.iload 5, 2) := by decide +kernel
theorem dL_law_1823 : decode cL_law 1823 = .ok (.iconst 1, 1) := by decide +kernel
theorem dL_law_1824 : decode cL_law 1824 = .ok (.iadd, 1) := by decide +kernel
theorem dL_law_1825 : decode cL_law 1825 = .ok (.iaload, 1) := by decide +kernel
theorem dL_law_1826 : decode cL_law 1826 = .ok (.aload_n 0, 1) := by decide +kernel
theorem dL_law_1827 : decode cL_law 1827 = .ok (.iload 5, 2) := by decide +kernel
theorem dL_law_1829 : decode cL_law 1829 = .ok (.iconst 2, 1) := by decide +kernel
theorem dL_law_1830 : decode cL_law 1830 = .ok (.iadd, 1) := by decide +kernel
theorem dL_law_1831 : decode cL_law 1831 = .ok (.iaload, 1) := by decide +kernel
theorem dL_law_1832 : decode cL_law 1832 = .ok (.aload_n 3, 1) := by decide +kernel
theorem dL_law_1833 : decode cL_law 1833 = .ok (.invokestatic 266, 3) := by decide +kernel
theorem dL_law_1836 : decode cL_law 1836 = .ok (.istore 6, 2) := by decide +kernel
theorem dL_law_1838 : decode cL_law 1838 = .ok (.aload_n 2, 1) := by decide +kernel
theorem dL_law_1839 : decode cL_law 1839 = .ok (.aload_n 0, 1) := by decide +kernel
theorem dL_law_1840 : decode cL_law 1840 = .ok (.iload 5, 2) := by decide +kernel
theorem dL_law_1842 : decode cL_law 1842 = .ok (.iconst 1, 1) := by decide +kernel
theorem dL_law_1843 : decode cL_law 1843 = .ok (.iadd, 1) := by decide +kernel
theorem dL_law_1844 : decode cL_law 1844 = .ok (.iaload, 1) := by decide +kernel
theorem dL_law_1845 : decode cL_law 1845 = .ok (.aload_n 0, 1) := by decide +kernel
theorem dL_law_1846 : decode cL_law 1846 = .ok (.iload 5, 2) := by decide +kernel
theorem dL_law_1848 : decode cL_law 1848 = .ok (.iconst 2, 1) := by decide +kernel
theorem dL_law_1849 : decode cL_law 1849 = .ok (.iadd, 1) := by decide +kernel
theorem dL_law_1850 : decode cL_law 1850 = .ok (.iaload, 1) := by decide +kernel
theorem dL_law_1851 : decode cL_law 1851 = .ok (.invokevirtual 268, 3) := by decide +kernel
theorem dL_law_1854 : decode cL_law 1854 = .ok (.istore 7, 2) := by decide +kernel
theorem dL_law_1856 : decode cL_law 1856 = .ok (.aload_n 2, 1) := by decide +kernel
theorem dL_law_1857 : decode cL_law 1857 = .ok (.invokevirtual 162, 3) := by decide +kernel
theorem dL_law_1860 : decode cL_law 1860 = .ok (.iload 6, 2) := by decide +kernel
theorem dL_law_1862 : decode cL_law 1862 = .ok (.if_icmp .eq 5, 3) := by decide +kernel
theorem dL_law_1865 : decode cL_law 1865 = .ok (.iconst 0, 1) := by decide +kernel
theorem dL_law_1866 : decode cL_law 1866 = .ok (.ireturn, 1) := by decide +kernel
theorem dL_law_1867 : decode cL_law 1867 = .ok (.iload 6, 2) := by decide +kernel
theorem dL_law_1869 : decode cL_law 1869 = .ok (.ifCond .ne 15, 3) := by decide +kernel
theorem dL_law_1872 : decode cL_law 1872 = .ok (.aload_n 3, 1) := by decide +kernel
theorem dL_law_1873 : decode cL_law 1873 = .ok (.iconst 0, 1) := by decide +kernel
theorem dL_law_1874 : decode cL_law 1874 = .ok (.laload, 1) := by decide +kernel
theorem dL_law_1875 : decode cL_law 1875 = .ok (.iload 7, 2) := by decide +kernel
theorem dL_law_1877 : decode cL_law 1877 = .ok (.i2l, 1) := by decide +kernel
theorem dL_law_1878 : decode cL_law 1878 = .ok (.lcmp, 1) := by decide +kernel
theorem dL_law_1879 : decode cL_law 1879 = .ok (.ifCond .eq 5, 3) := by decide +kernel
theorem dL_law_1882 : decode cL_law 1882 = .ok (.iconst 0, 1) := by decide +kernel
theorem dL_law_1883 : decode cL_law 1883 = .ok (.ireturn, 1) := by decide +kernel
theorem dL_law_1884 : decode cL_law 1884 = .ok (.goto 1183, 3) := by decide +kernel
theorem dL_law_1887 : decode cL_law 1887 = .ok (.aload_n 1, 1) := by decide +kernel
theorem dL_law_1888 : decode cL_law 1888 = .ok (.aload_n 0, 1) := by decide +kernel
theorem dL_law_1889 : decode cL_law 1889 = .ok (.iload 5, 2) := by decide +kernel
theorem dL_law_1891 : decode cL_law 1891 = .ok (.iconst 1, 1) := by decide +kernel
theorem dL_law_1892 : decode cL_law 1892 = .ok (.iadd, 1) := by decide +kernel
theorem dL_law_1893 : decode cL_law 1893 = .ok (.iaload, 1) := by decide +kernel
theorem dL_law_1894 : decode cL_law 1894 = .ok (.aload_n 0, 1) := by decide +kernel
theorem dL_law_1895 : decode cL_law 1895 = .ok (.iload 5, 2) := by decide +kernel
theorem dL_law_1897 : decode cL_law 1897 = .ok (.iconst 2, 1) := by decide +kernel
theorem dL_law_1898 : decode cL_law 1898 = .ok (.iadd, 1) := by decide +kernel
theorem dL_law_1899 : decode cL_law 1899 = .ok (.iaload, 1) := by decide +kernel
theorem dL_law_1900 : decode cL_law 1900 = .ok (.aload_n 0, 1) := by decide +kernel
theorem dL_law_1901 : decode cL_law 1901 = .ok (.iload 5, 2) := by decide +kernel
theorem dL_law_1903 : decode cL_law 1903 = .ok (.iconst 3, 1) := by decide +kernel
theorem dL_law_1904 : decode cL_law 1904 = .ok (.iadd, 1) := by decide +kernel
theorem dL_law_1905 : decode cL_law 1905 = .ok (.iaload, 1) := by decide +kernel
theorem dL_law_1906 : decode cL_law 1906 = .ok (.aload_n 3, 1) := by decide +kernel
theorem dL_law_1907 : decode cL_law 1907 = .ok (.invokestatic 269, 3) := by decide +kernel
theorem dL_law_1910 : decode cL_law 1910 = .ok (.istore 6, 2) := by decide +kernel
theorem dL_law_1912 : decode cL_law 1912 = .ok (.aload_n 2, 1) := by decide +kernel
theorem dL_law_1913 : decode cL_law 1913 = .ok (.aload_n 0, 1) := by decide +kernel
theorem dL_law_1914 : decode cL_law 1914 = .ok (.iload 5, 2) := by decide +kernel
theorem dL_law_1916 : decode cL_law 1916 = .ok (.iconst 1, 1) := by decide +kernel
theorem dL_law_1917 : decode cL_law 1917 = .ok (.iadd, 1) := by decide +kernel
theorem dL_law_1918 : decode cL_law 1918 = .ok (.iaload, 1) := by decide +kernel
theorem dL_law_1919 : decode cL_law 1919 = .ok (.aload_n 0, 1) := by decide +kernel
theorem dL_law_1920 : decode cL_law 1920 = .ok (.iload 5, 2) := by decide +kernel
theorem dL_law_1922 : decode cL_law 1922 = .ok (.iconst 2, 1) := by decide +kernel
theorem dL_law_1923 : decode cL_law 1923 = .ok (.iadd, 1) := by decide +kernel
theorem dL_law_1924 : decode cL_law 1924 = .ok (.iaload, 1) := by decide +kernel
theorem dL_law_1925 : decode cL_law 1925 = .ok (.aload_n 0, 1) := by decide +kernel
theorem dL_law_1926 : decode cL_law 1926 = .ok (.iload 5, 2) := by decide +kernel
theorem dL_law_1928 : decode cL_law 1928 = .ok (.iconst 3, 1) := by decide +kernel
theorem dL_law_1929 : decode cL_law 1929 = .ok (.iadd, 1) := by decide +kernel
theorem dL_law_1930 : decode cL_law 1930 = .ok (.iaload, 1) := by decide +kernel
theorem dL_law_1931 : decode cL_law 1931 = .ok (.invokevirtual 271, 3) := by decide +kernel
theorem dL_law_1934 : decode cL_law 1934 = .ok (.istore 7, 2) := by decide +kernel
theorem dL_law_1936 : decode cL_law 1936 = .ok (.aload_n 2, 1) := by decide +kernel
theorem dL_law_1937 : decode cL_law 1937 = .ok (.invokevirtual 162, 3) := by decide +kernel
theorem dL_law_1940 : decode cL_law 1940 = .ok (.iload 6, 2) := by decide +kernel
theorem dL_law_1942 : decode cL_law 1942 = .ok (.if_icmp .eq 5, 3) := by decide +kernel
theorem dL_law_1945 : decode cL_law 1945 = .ok (.iconst 0, 1) := by decide +kernel
theorem dL_law_1946 : decode cL_law 1946 = .ok (.ireturn, 1) := by decide +kernel
theorem dL_law_1947 : decode cL_law 1947 = .ok (.iload 6, 2) := by decide +kernel
theorem dL_law_1949 : decode cL_law 1949 = .ok (.ifCond .ne 15, 3) := by decide +kernel
theorem dL_law_1952 : decode cL_law 1952 = .ok (.aload_n 3, 1) := by decide +kernel
theorem dL_law_1953 : decode cL_law 1953 = .ok (.iconst 0, 1) := by decide +kernel
theorem dL_law_1954 : decode cL_law 1954 = .ok (.laload, 1) := by decide +kernel
theorem dL_law_1955 : decode cL_law 1955 = .ok (.iload 7, 2) := by decide +kernel
theorem dL_law_1957 : decode cL_law 1957 = .ok (.i2l, 1) := by decide +kernel
theorem dL_law_1958 : decode cL_law 1958 = .ok (.lcmp, 1) := by decide +kernel
theorem dL_law_1959 : decode cL_law 1959 = .ok (.ifCond .eq 5, 3) := by decide +kernel
theorem dL_law_1962 : decode cL_law 1962 = .ok (.iconst 0, 1) := by decide +kernel
theorem dL_law_1963 : decode cL_law 1963 = .ok (.ireturn, 1) := by decide +kernel
theorem dL_law_1964 : decode cL_law 1964 = .ok (.goto 1103, 3) := by decide +kernel
theorem dL_law_1967 : decode cL_law 1967 = .ok (.aload_n 1, 1) := by decide +kernel
theorem dL_law_1968 : decode cL_law 1968 = .ok (.aload_n 0, 1) := by decide +kernel
theorem dL_law_1969 : decode cL_law 1969 = .ok (.iload 5, 2) := by decide +kernel
theorem dL_law_1971 : decode cL_law 1971 = .ok (.iconst 1, 1) := by decide +kernel
theorem dL_law_1972 : decode cL_law 1972 = .ok (.iadd, 1) := by decide +kernel
theorem dL_law_1973 : decode cL_law 1973 = .ok (.iaload, 1) := by decide +kernel
theorem dL_law_1974 : decode cL_law 1974 = .ok (.aload_n 0, 1) := by decide +kernel
theorem dL_law_1975 : decode cL_law 1975 = .ok (.iload 5, 2) := by decide +kernel
theorem dL_law_1977 : decode cL_law 1977 = .ok (.iconst 2, 1) := by decide +kernel
theorem dL_law_1978 : decode cL_law 1978 = .ok (.iadd, 1) := by decide +kernel
theorem dL_law_1979 : decode cL_law 1979 = .ok (.iaload, 1) := by decide +kernel
theorem dL_law_1980 : decode cL_law 1980 = .ok (.aload_n 0, 1) := by decide +kernel
theorem dL_law_1981 : decode cL_law 1981 = .ok (.iload 5, 2) := by decide +kernel
theorem dL_law_1983 : decode cL_law 1983 = .ok (.iconst 3, 1) := by decide +kernel
theorem dL_law_1984 : decode cL_law 1984 = .ok (.iadd, 1) := by decide +kernel
theorem dL_law_1985 : decode cL_law 1985 = .ok (.iaload, 1) := by decide +kernel
theorem dL_law_1986 : decode cL_law 1986 = .ok (.aload_n 3, 1) := by decide +kernel
theorem dL_law_1987 : decode cL_law 1987 = .ok (.invokestatic 272, 3) := by decide +kernel
theorem dL_law_1990 : decode cL_law 1990 = .ok (.istore 6, 2) := by decide +kernel
theorem dL_law_1992 : decode cL_law 1992 = .ok (.aload_n 2, 1) := by decide +kernel
theorem dL_law_1993 : decode cL_law 1993 = .ok (.aload_n 0, 1) := by decide +kernel
theorem dL_law_1994 : decode cL_law 1994 = .ok (.iload 5, 2) := by decide +kernel
theorem dL_law_1996 : decode cL_law 1996 = .ok (.iconst 1, 1) := by decide +kernel
theorem dL_law_1997 : decode cL_law 1997 = .ok (.iadd, 1) := by decide +kernel
theorem dL_law_1998 : decode cL_law 1998 = .ok (.iaload, 1) := by decide +kernel
theorem dL_law_1999 : decode cL_law 1999 = .ok (.aload_n 0, 1) := by decide +kernel
theorem dL_law_2000 : decode cL_law 2000 = .ok (.iload 5, 2) := by decide +kernel
theorem dL_law_2002 : decode cL_law 2002 = .ok (.iconst 2, 1) := by decide +kernel
theorem dL_law_2003 : decode cL_law 2003 = .ok (.iadd, 1) := by decide +kernel
theorem dL_law_2004 : decode cL_law 2004 = .ok (.iaload, 1) := by decide +kernel
theorem dL_law_2005 : decode cL_law 2005 = .ok (.aload_n 0, 1) := by decide +kernel
theorem dL_law_2006 : decode cL_law 2006 = .ok (.iload 5, 2) := by decide +kernel
theorem dL_law_2008 : decode cL_law 2008 = .ok (.iconst 3, 1) := by decide +kernel
theorem dL_law_2009 : decode cL_law 2009 = .ok (.iadd, 1) := by decide +kernel
theorem dL_law_2010 : decode cL_law 2010 = .ok (.iaload, 1) := by decide +kernel
theorem dL_law_2011 : decode cL_law 2011 = .ok (.invokevirtual 274, 3) := by decide +kernel
theorem dL_law_2014 : decode cL_law 2014 = .ok (.istore 7, 2) := by decide +kernel
theorem dL_law_2016 : decode cL_law 2016 = .ok (.aload_n 2, 1) := by decide +kernel
theorem dL_law_2017 : decode cL_law 2017 = .ok (.invokevirtual 162, 3) := by decide +kernel
theorem dL_law_2020 : decode cL_law 2020 = .ok (.iload 6, 2) := by decide +kernel
theorem dL_law_2022 : decode cL_law 2022 = .ok (.if_icmp .eq 5, 3) := by decide +kernel
theorem dL_law_2025 : decode cL_law 2025 = .ok (.iconst 0, 1) := by decide +kernel
theorem dL_law_2026 : decode cL_law 2026 = .ok (.ireturn, 1) := by decide +kernel
theorem dL_law_2027 : decode cL_law 2027 = .ok (.iload 6, 2) := by decide +kernel
theorem dL_law_2029 : decode cL_law 2029 = .ok (.ifCond .ne 15, 3) := by decide +kernel
theorem dL_law_2032 : decode cL_law 2032 = .ok (.aload_n 3, 1) := by decide +kernel
theorem dL_law_2033 : decode cL_law 2033 = .ok (.iconst 0, 1) := by decide +kernel
theorem dL_law_2034 : decode cL_law 2034 = .ok (.laload, 1) := by decide +kernel
theorem dL_law_2035 : decode cL_law 2035 = .ok (.iload 7, 2) := by decide +kernel
theorem dL_law_2037 : decode cL_law 2037 = .ok (.i2l, 1) := by decide +kernel
theorem dL_law_2038 : decode cL_law 2038 = .ok (.lcmp, 1) := by decide +kernel
theorem dL_law_2039 : decode cL_law 2039 = .ok (.ifCond .eq 5, 3) := by decide +kernel
theorem dL_law_2042 : decode cL_law 2042 = .ok (.iconst 0, 1) := by decide +kernel
theorem dL_law_2043 : decode cL_law 2043 = .ok (.ireturn, 1) := by decide +kernel
theorem dL_law_2044 : decode cL_law 2044 = .ok (.goto 1023, 3) := by decide +kernel
theorem dL_law_2047 : decode cL_law 2047 = .ok (.aload_n 1, 1) := by decide +kernel
theorem dL_law_2048 : decode cL_law 2048 = .ok (.aload_n 3, 1) := by decide +kernel
theorem dL_law_2049 : decode cL_law 2049 = .ok (.invokestatic 275, 3) := by decide +kernel
theorem dL_law_2052 : decode cL_law 2052 = .ok (.istore 6, 2) := by decide +kernel
theorem dL_law_2054 : decode cL_law 2054 = .ok (.aload_n 2, 1) := by decide +kernel
theorem dL_law_2055 : decode cL_law 2055 = .ok (.invokevirtual 278, 3) := by decide +kernel
theorem dL_law_2058 : decode cL_law 2058 = .ok (.istore 7, 2) := by decide +kernel
theorem dL_law_2060 : decode cL_law 2060 = .ok (.aload_n 2, 1) := by decide +kernel
theorem dL_law_2061 : decode cL_law 2061 = .ok (.invokevirtual 162, 3) := by decide +kernel
theorem dL_law_2064 : decode cL_law 2064 = .ok (.iload 6, 2) := by decide +kernel
theorem dL_law_2066 : decode cL_law 2066 = .ok (.if_icmp .eq 5, 3) := by decide +kernel
theorem dL_law_2069 : decode cL_law 2069 = .ok (.iconst 0, 1) := by decide +kernel
theorem dL_law_2070 : decode cL_law 2070 = .ok (.ireturn, 1) := by decide +kernel
theorem dL_law_2071 : decode cL_law 2071 = .ok (.iload 6, 2) := by decide +kernel
theorem dL_law_2073 : decode cL_law 2073 = .ok (.ifCond .ne 15, 3) := by decide +kernel
theorem dL_law_2076 : decode cL_law 2076 = .ok (.aload_n 3, 1) := by decide +kernel
theorem dL_law_2077 : decode cL_law 2077 = .ok (.iconst 0, 1) := by decide +kernel
theorem dL_law_2078 : decode cL_law 2078 = .ok (.laload, 1) := by decide +kernel
theorem dL_law_2079 : decode cL_law 2079 = .ok (.iload 7, 2) := by decide +kernel
theorem dL_law_2081 : decode cL_law 2081 = .ok (.i2l, 1) := by decide +kernel
theorem dL_law_2082 : decode cL_law 2082 = .ok (.lcmp, 1) := by decide +kernel
theorem dL_law_2083 : decode cL_law 2083 = .ok (.ifCond .eq 5, 3) := by decide +kernel
theorem dL_law_2086 : decode cL_law 2086 = .ok (.iconst 0, 1) := by decide +kernel
theorem dL_law_2087 : decode cL_law 2087 = .ok (.ireturn, 1) := by decide +kernel
theorem dL_law_2088 : decode cL_law 2088 = .ok (.goto 979, 3) := by decide +kernel
theorem dL_law_2091 : decode cL_law 2091 = .ok (.aload_n 1, 1) := by decide +kernel
theorem dL_law_2092 : decode cL_law 2092 = .ok (.aload_n 0, 1) := by decide +kernel
theorem dL_law_2093 : decode cL_law 2093 = .ok (.iload 5, 2) := by decide +kernel
theorem dL_law_2095 : decode cL_law 2095 = .ok (.iconst 1, 1) := by decide +kernel
theorem dL_law_2096 : decode cL_law 2096 = .ok (.iadd, 1) := by decide +kernel
theorem dL_law_2097 : decode cL_law 2097 = .ok (.iaload, 1) := by decide +kernel
theorem dL_law_2098 : decode cL_law 2098 = .ok (.aload_n 3, 1) := by decide +kernel
theorem dL_law_2099 : decode cL_law 2099 = .ok (.invokestatic 279, 3) := by decide +kernel
theorem dL_law_2102 : decode cL_law 2102 = .ok (.istore 6, 2) := by decide +kernel
theorem dL_law_2104 : decode cL_law 2104 = .ok (.aload_n 2, 1) := by decide +kernel
theorem dL_law_2105 : decode cL_law 2105 = .ok (.aload_n 0, 1) := by decide +kernel
theorem dL_law_2106 : decode cL_law 2106 = .ok (.iload 5, 2) := by decide +kernel
theorem dL_law_2108 : decode cL_law 2108 = .ok (.iconst 1, 1) := by decide +kernel
theorem dL_law_2109 : decode cL_law 2109 = .ok (.iadd, 1) := by decide +kernel
theorem dL_law_2110 : decode cL_law 2110 = .ok (.iaload, 1) := by decide +kernel
theorem dL_law_2111 : decode cL_law 2111 = .ok (.invokevirtual 281, 3) := by decide +kernel
theorem dL_law_2114 : decode cL_law 2114 = .ok (.istore 7, 2) := by decide +kernel
theorem dL_law_2116 : decode cL_law 2116 = .ok (.aload_n 2, 1) := by decide +kernel
theorem dL_law_2117 : decode cL_law 2117 = .ok (.invokevirtual 162, 3) := by decide +kernel
theorem dL_law_2120 : decode cL_law 2120 = .ok (.iload 6, 2) := by decide +kernel
theorem dL_law_2122 : decode cL_law 2122 = .ok (.if_icmp .eq 5, 3) := by decide +kernel
theorem dL_law_2125 : decode cL_law 2125 = .ok (.iconst 0, 1) := by decide +kernel
theorem dL_law_2126 : decode cL_law 2126 = .ok (.ireturn, 1) := by decide +kernel
theorem dL_law_2127 : decode cL_law 2127 = .ok (.iload 6, 2) := by decide +kernel
theorem dL_law_2129 : decode cL_law 2129 = .ok (.ifCond .ne 15, 3) := by decide +kernel
theorem dL_law_2132 : decode cL_law 2132 = .ok (.aload_n 3, 1) := by decide +kernel
theorem dL_law_2133 : decode cL_law 2133 = .ok (.iconst 0, 1) := by decide +kernel
theorem dL_law_2134 : decode cL_law 2134 = .ok (.laload, 1) := by decide +kernel
theorem dL_law_2135 : decode cL_law 2135 = .ok (.iload 7, 2) := by decide +kernel
theorem dL_law_2137 : decode cL_law 2137 = .ok (.i2l, 1) := by decide +kernel
theorem dL_law_2138 : decode cL_law 2138 = .ok (.lcmp, 1) := by decide +kernel
theorem dL_law_2139 : decode cL_law 2139 = .ok (.ifCond .eq 5, 3) := by decide +kernel
theorem dL_law_2142 : decode cL_law 2142 = .ok (.iconst 0, 1) := by decide +kernel
theorem dL_law_2143 : decode cL_law 2143 = .ok (.ireturn, 1) := by decide +kernel
theorem dL_law_2144 : decode cL_law 2144 = .ok (.goto 923, 3) := by decide +kernel
theorem dL_law_2147 : decode cL_law 2147 = .ok (.aload_n 1, 1) := by decide +kernel
theorem dL_law_2148 : decode cL_law 2148 = .ok (.aload_n 3, 1) := by decide +kernel
theorem dL_law_2149 : decode cL_law 2149 = .ok (.invokestatic 282, 3) := by decide +kernel
theorem dL_law_2152 : decode cL_law 2152 = .ok (.istore 6, 2) := by decide +kernel
theorem dL_law_2154 : decode cL_law 2154 = .ok (.aload_n 2, 1) := by decide +kernel
theorem dL_law_2155 : decode cL_law 2155 = .ok (.invokevirtual 284, 3) := by decide +kernel
theorem dL_law_2158 : decode cL_law 2158 = .ok (.istore 7, 2) := by decide +kernel
theorem dL_law_2160 : decode cL_law 2160 = .ok (.aload_n 2, 1) := by decide +kernel
theorem dL_law_2161 : decode cL_law 2161 = .ok (.invokevirtual 162, 3) := by decide +kernel
theorem dL_law_2164 : decode cL_law 2164 = .ok (.iload 6, 2) := by decide +kernel
theorem dL_law_2166 : decode cL_law 2166 = .ok (.if_icmp .eq 5, 3) := by decide +kernel
theorem dL_law_2169 : decode cL_law 2169 = .ok (.iconst 0, 1) := by decide +kernel
theorem dL_law_2170 : decode cL_law 2170 = .ok (.ireturn, 1) := by decide +kernel
theorem dL_law_2171 : decode cL_law 2171 = .ok (.iload 6, 2) := by decide +kernel
theorem dL_law_2173 : decode cL_law 2173 = .ok (.ifCond .ne 15, 3) := by decide +kernel
theorem dL_law_2176 : decode cL_law 2176 = .ok (.aload_n 3, 1) := by decide +kernel
theorem dL_law_2177 : decode cL_law 2177 = .ok (.iconst 0, 1) := by decide +kernel
theorem dL_law_2178 : decode cL_law 2178 = .ok (.laload, 1) := by decide +kernel
theorem dL_law_2179 : decode cL_law 2179 = .ok (.iload 7, 2) := by decide +kernel
theorem dL_law_2181 : decode cL_law 2181 = .ok (.i2l, 1) := by decide +kernel
theorem dL_law_2182 : decode cL_law 2182 = .ok (.lcmp, 1) := by decide +kernel
theorem dL_law_2183 : decode cL_law 2183 = .ok (.ifCond .eq 5, 3) := by decide +kernel
theorem dL_law_2186 : decode cL_law 2186 = .ok (.iconst 0, 1) := by decide +kernel
theorem dL_law_2187 : decode cL_law 2187 = .ok (.ireturn, 1) := by decide +kernel
theorem dL_law_2188 : decode cL_law 2188 = .ok (.goto 879, 3) := by decide +kernel
theorem dL_law_2191 : decode cL_law 2191 = .ok (.aload_n 1, 1) := by decide +kernel
theorem dL_law_2192 : decode cL_law 2192 = .ok (.aload_n 3, 1) := by decide +kernel
theorem dL_law_2193 : decode cL_law 2193 = .ok (.invokestatic 285, 3) := by decide +kernel
theorem dL_law_2196 : decode cL_law 2196 = .ok (.istore 6, 2) := by decide +kernel
theorem dL_law_2198 : decode cL_law 2198 = .ok (.aload_n 2, 1) := by decide +kernel
theorem dL_law_2199 : decode cL_law 2199 = .ok (.invokevirtual 287, 3) := by decide +kernel
theorem dL_law_2202 : decode cL_law 2202 = .ok (.istore 7, 2) := by decide +kernel
theorem dL_law_2204 : decode cL_law 2204 = .ok (.aload_n 2, 1) := by decide +kernel
theorem dL_law_2205 : decode cL_law 2205 = .ok (.invokevirtual 162, 3) := by decide +kernel
theorem dL_law_2208 : decode cL_law 2208 = .ok (.iload 6, 2) := by decide +kernel
theorem dL_law_2210 : decode cL_law 2210 = .ok (.if_icmp .eq 5, 3) := by decide +kernel
theorem dL_law_2213 : decode cL_law 2213 = .ok (.iconst 0, 1) := by decide +kernel
theorem dL_law_2214 : decode cL_law 2214 = .ok (.ireturn, 1) := by decide +kernel
theorem dL_law_2215 : decode cL_law 2215 = .ok (.iload 6, 2) := by decide +kernel
theorem dL_law_2217 : decode cL_law 2217 = .ok (.ifCond .ne 15, 3) := by decide +kernel
theorem dL_law_2220 : decode cL_law 2220 = .ok (.aload_n 3, 1) := by decide +kernel
theorem dL_law_2221 : decode cL_law 2221 = .ok (.iconst 0, 1) := by decide +kernel
theorem dL_law_2222 : decode cL_law 2222 = .ok (.laload, 1) := by decide +kernel
theorem dL_law_2223 : decode cL_law 2223 = .ok (.iload 7, 2) := by decide +kernel
theorem dL_law_2225 : decode cL_law 2225 = .ok (.i2l, 1) := by decide +kernel
theorem dL_law_2226 : decode cL_law 2226 = .ok (.lcmp, 1) := by decide +kernel
theorem dL_law_2227 : decode cL_law 2227 = .ok (.ifCond .eq 5, 3) := by decide +kernel
theorem dL_law_2230 : decode cL_law 2230 = .ok (.iconst 0, 1) := by decide +kernel
theorem dL_law_2231 : decode cL_law 2231 = .ok (.ireturn, 1) := by decide +kernel
theorem dL_law_2232 : decode cL_law 2232 = .ok (.goto 835, 3) := by decide +kernel
theorem dL_law_2235 : decode cL_law 2235 = .ok (.aload_n 1, 1) := by decide +kernel
theorem dL_law_2236 : decode cL_law 2236 = .ok (.aload_n 3, 1) := by decide +kernel
theorem dL_law_2237 : decode cL_law 2237 = .ok (.invokestatic 288, 3) := by decide +kernel
theorem dL_law_2240 : decode cL_law 2240 = .ok (.istore 6, 2) := by decide +kernel
theorem dL_law_2242 : decode cL_law 2242 = .ok (.aload_n 2, 1) := by decide +kernel
theorem dL_law_2243 : decode cL_law 2243 = .ok (.invokevirtual 290, 3) := by decide +kernel
theorem dL_law_2246 : decode cL_law 2246 = .ok (.istore 7, 2) := by decide +kernel
theorem dL_law_2248 : decode cL_law 2248 = .ok (.aload_n 2, 1) := by decide +kernel
theorem dL_law_2249 : decode cL_law 2249 = .ok (.invokevirtual 162, 3) := by decide +kernel
theorem dL_law_2252 : decode cL_law 2252 = .ok (.iload 6, 2) := by decide +kernel
theorem dL_law_2254 : decode cL_law 2254 = .ok (.if_icmp .eq 5, 3) := by decide +kernel
theorem dL_law_2257 : decode cL_law 2257 = .ok (.iconst 0, 1) := by decide +kernel
theorem dL_law_2258 : decode cL_law 2258 = .ok (.ireturn, 1) := by decide +kernel
theorem dL_law_2259 : decode cL_law 2259 = .ok (.iload 6, 2) := by decide +kernel
theorem dL_law_2261 : decode cL_law 2261 = .ok (.ifCond .ne 15, 3) := by decide +kernel
theorem dL_law_2264 : decode cL_law 2264 = .ok (.aload_n 3, 1) := by decide +kernel
theorem dL_law_2265 : decode cL_law 2265 = .ok (.iconst 0, 1) := by decide +kernel
theorem dL_law_2266 : decode cL_law 2266 = .ok (.laload, 1) := by decide +kernel
theorem dL_law_2267 : decode cL_law 2267 = .ok (.iload 7, 2) := by decide +kernel
theorem dL_law_2269 : decode cL_law 2269 = .ok (.i2l, 1) := by decide +kernel
theorem dL_law_2270 : decode cL_law 2270 = .ok (.lcmp, 1) := by decide +kernel
theorem dL_law_2271 : decode cL_law 2271 = .ok (.ifCond .eq 5, 3) := by decide +kernel
theorem dL_law_2274 : decode cL_law 2274 = .ok (.iconst 0, 1) := by decide +kernel
theorem dL_law_2275 : decode cL_law 2275 = .ok (.ireturn, 1) := by decide +kernel
theorem dL_law_2276 : decode cL_law 2276 = .ok (.goto 791, 3) := by decide +kernel
theorem dL_law_2279 : decode cL_law 2279 = .ok (.aload_n 1, 1) := by decide +kernel
theorem dL_law_2280 : decode cL_law 2280 = .ok (.aload_n 3, 1) := by decide +kernel
theorem dL_law_2281 : decode cL_law 2281 = .ok (.invokestatic 291, 3) := by decide +kernel
theorem dL_law_2284 : decode cL_law 2284 = .ok (.istore 6, 2) := by decide +kernel
theorem dL_law_2286 : decode cL_law 2286 = .ok (.aload_n 2, 1) := by decide +kernel
theorem dL_law_2287 : decode cL_law 2287 = .ok (.invokevirtual 293, 3) := by decide +kernel
theorem dL_law_2290 : decode cL_law 2290 = .ok (.istore 7, 2) := by decide +kernel
theorem dL_law_2292 : decode cL_law 2292 = .ok (.aload_n 2, 1) := by decide +kernel
theorem dL_law_2293 : decode cL_law 2293 = .ok (.invokevirtual 162, 3) := by decide +kernel
theorem dL_law_2296 : decode cL_law 2296 = .ok (.iload 6, 2) := by decide +kernel
theorem dL_law_2298 : decode cL_law 2298 = .ok (.if_icmp .eq 5, 3) := by decide +kernel
theorem dL_law_2301 : decode cL_law 2301 = .ok (.iconst 0, 1) := by decide +kernel
theorem dL_law_2302 : decode cL_law 2302 = .ok (.ireturn, 1) := by decide +kernel
theorem dL_law_2303 : decode cL_law 2303 = .ok (.iload 6, 2) := by decide +kernel
theorem dL_law_2305 : decode cL_law 2305 = .ok (.ifCond .ne 15, 3) := by decide +kernel
theorem dL_law_2308 : decode cL_law 2308 = .ok (.aload_n 3, 1) := by decide +kernel
theorem dL_law_2309 : decode cL_law 2309 = .ok (.iconst 0, 1) := by decide +kernel
theorem dL_law_2310 : decode cL_law 2310 = .ok (.laload, 1) := by decide +kernel
theorem dL_law_2311 : decode cL_law 2311 = .ok (.iload 7, 2) := by decide +kernel
theorem dL_law_2313 : decode cL_law 2313 = .ok (.i2l, 1) := by decide +kernel
theorem dL_law_2314 : decode cL_law 2314 = .ok (.lcmp, 1) := by decide +kernel
theorem dL_law_2315 : decode cL_law 2315 = .ok (.ifCond .eq 5, 3) := by decide +kernel
theorem dL_law_2318 : decode cL_law 2318 = .ok (.iconst 0, 1) := by decide +kernel
theorem dL_law_2319 : decode cL_law 2319 = .ok (.ireturn, 1) := by decide +kernel
theorem dL_law_2320 : decode cL_law 2320 = .ok (.goto 747, 3) := by decide +kernel
theorem dL_law_2323 : decode cL_law 2323 = .ok (.aload_n 1, 1) := by decide +kernel
theorem dL_law_2324 : decode cL_law 2324 = .ok (.aload_n 3, 1) := by decide +kernel
theorem dL_law_2325 : decode cL_law 2325 = .ok (.invokestatic 294, 3) := by decide +kernel
theorem dL_law_2328 : decode cL_law 2328 = .ok (.istore 6, 2) := by decide +kernel
theorem dL_law_2330 : decode cL_law 2330 = .ok (.aload_n 2, 1) := by decide +kernel
theorem dL_law_2331 : decode cL_law 2331 = .ok (.invokevirtual 296, 3) := by decide +kernel
theorem dL_law_2334 : decode cL_law 2334 = .ok (.istore 7, 2) := by decide +kernel
theorem dL_law_2336 : decode cL_law 2336 = .ok (.aload_n 2, 1) := by decide +kernel
theorem dL_law_2337 : decode cL_law 2337 = .ok (.invokevirtual 162, 3) := by decide +kernel
theorem dL_law_2340 : decode cL_law 2340 = .ok (.iload 6, 2) := by decide +kernel
theorem dL_law_2342 : decode cL_law 2342 = .ok (.if_icmp .eq 5, 3) := by decide +kernel
theorem dL_law_2345 : decode cL_law 2345 = .ok (.iconst 0, 1) := by decide +kernel
theorem dL_law_2346 : decode cL_law 2346 = .ok (.ireturn, 1) := by decide +kernel
theorem dL_law_2347 : decode cL_law 2347 = .ok (.iload 6, 2) := by decide +kernel
theorem dL_law_2349 : decode cL_law 2349 = .ok (.ifCond .ne 15, 3) := by decide +kernel
theorem dL_law_2352 : decode cL_law 2352 = .ok (.aload_n 3, 1) := by decide +kernel
theorem dL_law_2353 : decode cL_law 2353 = .ok (.iconst 0, 1) := by decide +kernel
theorem dL_law_2354 : decode cL_law 2354 = .ok (.laload, 1) := by decide +kernel
theorem dL_law_2355 : decode cL_law 2355 = .ok (.iload 7, 2) := by decide +kernel
theorem dL_law_2357 : decode cL_law 2357 = .ok (.i2l, 1) := by decide +kernel
theorem dL_law_2358 : decode cL_law 2358 = .ok (.lcmp, 1) := by decide +kernel
theorem dL_law_2359 : decode cL_law 2359 = .ok (.ifCond .eq 5, 3) := by decide +kernel
theorem dL_law_2362 : decode cL_law 2362 = .ok (.iconst 0, 1) := by decide +kernel
theorem dL_law_2363 : decode cL_law 2363 = .ok (.ireturn, 1) := by decide +kernel
theorem dL_law_2364 : decode cL_law 2364 = .ok (.goto 703, 3) := by decide +kernel
theorem dL_law_2367 : decode cL_law 2367 = .ok (.aload_n 1, 1) := by decide +kernel
theorem dL_law_2368 : decode cL_law 2368 = .ok (.aload_n 0, 1) := by decide +kernel
theorem dL_law_2369 : decode cL_law 2369 = .ok (.iload 5, 2) := by decide +kernel
theorem dL_law_2371 : decode cL_law 2371 = .ok (.iconst 1, 1) := by decide +kernel
theorem dL_law_2372 : decode cL_law 2372 = .ok (.iadd, 1) := by decide +kernel
theorem dL_law_2373 : decode cL_law 2373 = .ok (.iaload, 1) := by decide +kernel
theorem dL_law_2374 : decode cL_law 2374 = .ok (.aload_n 3, 1) := by decide +kernel
theorem dL_law_2375 : decode cL_law 2375 = .ok (.invokestatic 297, 3) := by decide +kernel
theorem dL_law_2378 : decode cL_law 2378 = .ok (.istore 6, 2) := by decide +kernel
theorem dL_law_2380 : decode cL_law 2380 = .ok (.aload_n 2, 1) := by decide +kernel
theorem dL_law_2381 : decode cL_law 2381 = .ok (.aload_n 0, 1) := by decide +kernel
theorem dL_law_2382 : decode cL_law 2382 = .ok (.iload 5, 2) := by decide +kernel
theorem dL_law_2384 : decode cL_law 2384 = .ok (.iconst 1, 1) := by decide +kernel
theorem dL_law_2385 : decode cL_law 2385 = .ok (.iadd, 1) := by decide +kernel
theorem dL_law_2386 : decode cL_law 2386 = .ok (.iaload, 1) := by decide +kernel
theorem dL_law_2387 : decode cL_law 2387 = .ok (.invokevirtual 299, 3) := by decide +kernel
theorem dL_law_2390 : decode cL_law 2390 = .ok (.istore 7, 2) := by decide +kernel
theorem dL_law_2392 : decode cL_law 2392 = .ok (.aload_n 2, 1) := by decide +kernel
theorem dL_law_2393 : decode cL_law 2393 = .ok (.invokevirtual 162, 3) := by decide +kernel
theorem dL_law_2396 : decode cL_law 2396 = .ok (.iload 6, 2) := by decide +kernel
theorem dL_law_2398 : decode cL_law 2398 = .ok (.if_icmp .eq 5, 3) := by decide +kernel
theorem dL_law_2401 : decode cL_law 2401 = .ok (.iconst 0, 1) := by decide +kernel
theorem dL_law_2402 : decode cL_law 2402 = .ok (.ireturn, 1) := by decide +kernel
theorem dL_law_2403 : decode cL_law 2403 = .ok (.iload 6, 2) := by decide +kernel
theorem dL_law_2405 : decode cL_law 2405 = .ok (.ifCond .ne 15, 3) := by decide +kernel
theorem dL_law_2408 : decode cL_law 2408 = .ok (.aload_n 3, 1) := by decide +kernel
theorem dL_law_2409 : decode cL_law 2409 = .ok (.iconst 0, 1) := by decide +kernel
theorem dL_law_2410 : decode cL_law 2410 = .ok (.laload, 1) := by decide +kernel
theorem dL_law_2411 : decode cL_law 2411 = .ok (.iload 7, 2) := by decide +kernel
theorem dL_law_2413 : decode cL_law 2413 = .ok (.i2l, 1) := by decide +kernel
theorem dL_law_2414 : decode cL_law 2414 = .ok (.lcmp, 1) := by decide +kernel
theorem dL_law_2415 : decode cL_law 2415 = .ok (.ifCond .eq 5, 3) := by decide +kernel
theorem dL_law_2418 : decode cL_law 2418 = .ok (.iconst 0, 1) := by decide +kernel
theorem dL_law_2419 : decode cL_law 2419 = .ok (.ireturn, 1) := by decide +kernel
theorem dL_law_2420 : decode cL_law 2420 = .ok (.goto 647, 3) := by decide +kernel
theorem dL_law_2423 : decode cL_law 2423 = .ok (.aload_n 1, 1) := by decide +kernel
theorem dL_law_2424 : decode cL_law 2424 = .ok (.aload_n 0, 1) := by decide +kernel
theorem dL_law_2425 : decode cL_law 2425 = .ok (.iload 5, 2) := by decide +kernel
theorem dL_law_2427 : decode cL_law 2427 = .ok (.iconst 1, 1) := by decide +kernel
theorem dL_law_2428 : decode cL_law 2428 = .ok (.iadd, 1) := by decide +kernel
theorem dL_law_2429 : decode cL_law 2429 = .ok (.iaload, 1) := by decide +kernel
theorem dL_law_2430 : decode cL_law 2430 = .ok (.aload_n 3, 1) := by decide +kernel
theorem dL_law_2431 : decode cL_law 2431 = .ok (.invokestatic 300, 3) := by decide +kernel
theorem dL_law_2434 : decode cL_law 2434 = .ok (.istore 6, 2) := by decide +kernel
theorem dL_law_2436 : decode cL_law 2436 = .ok (.aload_n 2, 1) := by decide +kernel
theorem dL_law_2437 : decode cL_law 2437 = .ok (.aload_n 0, 1) := by decide +kernel
theorem dL_law_2438 : decode cL_law 2438 = .ok (.iload 5, 2) := by decide +kernel
theorem dL_law_2440 : decode cL_law 2440 = .ok (.iconst 1, 1) := by decide +kernel
theorem dL_law_2441 : decode cL_law 2441 = .ok (.iadd, 1) := by decide +kernel
theorem dL_law_2442 : decode cL_law 2442 = .ok (.iaload, 1) := by decide +kernel
theorem dL_law_2443 : decode cL_law 2443 = .ok (.invokevirtual 302, 3) := by decide +kernel
theorem dL_law_2446 : decode cL_law 2446 = .ok (.istore 7, 2) := by decide +kernel
theorem dL_law_2448 : decode cL_law 2448 = .ok (.aload_n 2, 1) := by decide +kernel
theorem dL_law_2449 : decode cL_law 2449 = .ok (.invokevirtual 162, 3) := by decide +kernel
theorem dL_law_2452 : decode cL_law 2452 = .ok (.iload 6, 2) := by decide +kernel
theorem dL_law_2454 : decode cL_law 2454 = .ok (.if_icmp .eq 5, 3) := by decide +kernel
theorem dL_law_2457 : decode cL_law 2457 = .ok (.iconst 0, 1) := by decide +kernel
theorem dL_law_2458 : decode cL_law 2458 = .ok (.ireturn, 1) := by decide +kernel
theorem dL_law_2459 : decode cL_law 2459 = .ok (.iload 6, 2) := by decide +kernel
theorem dL_law_2461 : decode cL_law 2461 = .ok (.ifCond .ne 15, 3) := by decide +kernel
theorem dL_law_2464 : decode cL_law 2464 = .ok (.aload_n 3, 1) := by decide +kernel
theorem dL_law_2465 : decode cL_law 2465 = .ok (.iconst 0, 1) := by decide +kernel
theorem dL_law_2466 : decode cL_law 2466 = .ok (.laload, 1) := by decide +kernel
theorem dL_law_2467 : decode cL_law 2467 = .ok (.iload 7, 2) := by decide +kernel
theorem dL_law_2469 : decode cL_law 2469 = .ok (.i2l, 1) := by decide +kernel
theorem dL_law_2470 : decode cL_law 2470 = .ok (.lcmp, 1) := by decide +kernel
theorem dL_law_2471 : decode cL_law 2471 = .ok (.ifCond .eq 5, 3) := by decide +kernel
theorem dL_law_2474 : decode cL_law 2474 = .ok (.iconst 0, 1) := by decide +kernel
theorem dL_law_2475 : decode cL_law 2475 = .ok (.ireturn, 1) := by decide +kernel
theorem dL_law_2476 : decode cL_law 2476 = .ok (.goto 591, 3) := by decide +kernel
theorem dL_law_2479 : decode cL_law 2479 = .ok (.aload_n 1, 1) := by decide +kernel
theorem dL_law_2480 : decode cL_law 2480 = .ok (.aload_n 0, 1) := by decide +kernel
theorem dL_law_2481 : decode cL_law 2481 = .ok (.iload 5, 2) := by decide +kernel
theorem dL_law_2483 : decode cL_law 2483 = .ok (.iconst 1, 1) := by decide +kernel
theorem dL_law_2484 : decode cL_law 2484 = .ok (.iadd, 1) := by decide +kernel
theorem dL_law_2485 : decode cL_law 2485 = .ok (.iaload, 1) := by decide +kernel
theorem dL_law_2486 : decode cL_law 2486 = .ok (.aload_n 0, 1) := by decide +kernel
theorem dL_law_2487 : decode cL_law 2487 = .ok (.iload 5, 2) := by decide +kernel
theorem dL_law_2489 : decode cL_law 2489 = .ok (.iconst 2, 1) := by decide +kernel
theorem dL_law_2490 : decode cL_law 2490 = .ok (.iadd, 1) := by decide +kernel
theorem dL_law_2491 : decode cL_law 2491 = .ok (.iaload, 1) := by decide +kernel
theorem dL_law_2492 : decode cL_law 2492 = .ok (.aload_n 3, 1) := by decide +kernel
theorem dL_law_2493 : decode cL_law 2493 = .ok (.invokestatic 303, 3) := by decide +kernel
theorem dL_law_2496 : decode cL_law 2496 = .ok (.istore 6, 2) := by decide +kernel
theorem dL_law_2498 : decode cL_law 2498 = .ok (.aload_n 2, 1) := by decide +kernel
theorem dL_law_2499 : decode cL_law 2499 = .ok (.aload_n 0, 1) := by decide +kernel
theorem dL_law_2500 : decode cL_law 2500 = .ok (.iload 5, 2) := by decide +kernel
theorem dL_law_2502 : decode cL_law 2502 = .ok (.iconst 1, 1) := by decide +kernel
theorem dL_law_2503 : decode cL_law 2503 = .ok (.iadd, 1) := by decide +kernel
theorem dL_law_2504 : decode cL_law 2504 = .ok (.iaload, 1) := by decide +kernel
theorem dL_law_2505 : decode cL_law 2505 = .ok (.aload_n 0, 1) := by decide +kernel
theorem dL_law_2506 : decode cL_law 2506 = .ok (.iload 5, 2) := by decide +kernel
theorem dL_law_2508 : decode cL_law 2508 = .ok (.iconst 2, 1) := by decide +kernel
theorem dL_law_2509 : decode cL_law 2509 = .ok (.iadd, 1) := by decide +kernel
theorem dL_law_2510 : decode cL_law 2510 = .ok (.iaload, 1) := by decide +kernel
theorem dL_law_2511 : decode cL_law 2511 = .ok (.invokevirtual 305, 3) := by decide +kernel
theorem dL_law_2514 : decode cL_law 2514 = .ok (.istore 7, 2) := by decide +kernel
theorem dL_law_2516 : decode cL_law 2516 = .ok (.aload_n 2, 1) := by decide +kernel
theorem dL_law_2517 : decode cL_law 2517 = .ok (.invokevirtual 162, 3) := by decide +kernel
theorem dL_law_2520 : decode cL_law 2520 = .ok (.iload 6, 2) := by decide +kernel
theorem dL_law_2522 : decode cL_law 2522 = .ok (.if_icmp .eq 5, 3) := by decide +kernel
theorem dL_law_2525 : decode cL_law 2525 = .ok (.iconst 0, 1) := by decide +kernel
theorem dL_law_2526 : decode cL_law 2526 = .ok (.ireturn, 1) := by decide +kernel
theorem dL_law_2527 : decode cL_law 2527 = .ok (.iload 6, 2) := by decide +kernel
theorem dL_law_2529 : decode cL_law 2529 = .ok (.ifCond .ne 15, 3) := by decide +kernel
theorem dL_law_2532 : decode cL_law 2532 = .ok (.aload_n 3, 1) := by decide +kernel
theorem dL_law_2533 : decode cL_law 2533 = .ok (.iconst 0, 1) := by decide +kernel
theorem dL_law_2534 : decode cL_law 2534 = .ok (.laload, 1) := by decide +kernel
theorem dL_law_2535 : decode cL_law 2535 = .ok (.iload 7, 2) := by decide +kernel
theorem dL_law_2537 : decode cL_law 2537 = .ok (.i2l, 1) := by decide +kernel
theorem dL_law_2538 : decode cL_law 2538 = .ok (.lcmp, 1) := by decide +kernel
theorem dL_law_2539 : decode cL_law 2539 = .ok (.ifCond .eq 5, 3) := by decide +kernel
theorem dL_law_2542 : decode cL_law 2542 = .ok (.iconst 0, 1) := by decide +kernel
theorem dL_law_2543 : decode cL_law 2543 = .ok (.ireturn, 1) := by decide +kernel
theorem dL_law_2544 : decode cL_law 2544 = .ok (.goto 523, 3) := by decide +kernel
theorem dL_law_2547 : decode cL_law 2547 = .ok (.aload_n 1, 1) := by decide +kernel
theorem dL_law_2548 : decode cL_law 2548 = .ok (.aload_n 0, 1) := by decide +kernel
theorem dL_law_2549 : decode cL_law 2549 = .ok (.iload 5, 2) := by decide +kernel
theorem dL_law_2551 : decode cL_law 2551 = .ok (.iconst 1, 1) := by decide +kernel
theorem dL_law_2552 : decode cL_law 2552 = .ok (.iadd, 1) := by decide +kernel
theorem dL_law_2553 : decode cL_law 2553 = .ok (.iaload, 1) := by decide +kernel
theorem dL_law_2554 : decode cL_law 2554 = .ok (.aload_n 0, 1) := by decide +kernel
theorem dL_law_2555 : decode cL_law 2555 = .ok (.iload 5, 2) := by decide +kernel
theorem dL_law_2557 : decode cL_law 2557 = .ok (.iconst 2, 1) := by decide +kernel
theorem dL_law_2558 : decode cL_law 2558 = .ok (.iadd, 1) := by decide +kernel
theorem dL_law_2559 : decode cL_law 2559 = .ok (.iaload, 1) := by decide +kernel
theorem dL_law_2560 : decode cL_law 2560 = .ok (.ifCond .eq 7, 3) := by decide +kernel
theorem dL_law_2563 : decode cL_law 2563 = .ok (.iconst 1, 1) := by decide +kernel
theorem dL_law_2564 : decode cL_law 2564 = .ok (.goto 4, 3) := by decide +kernel
theorem dL_law_2567 : decode cL_law 2567 = .ok (.iconst 0, 1) := by decide +kernel
theorem dL_law_2568 : decode cL_law 2568 = .ok (.aload_n 3, 1) := by decide +kernel
theorem dL_law_2569 : decode cL_law 2569 = .ok (.invokestatic 306, 3) := by decide +kernel
theorem dL_law_2572 : decode cL_law 2572 = .ok (.istore 6, 2) := by decide +kernel
theorem dL_law_2574 : decode cL_law 2574 = .ok (.aload_n 2, 1) := by decide +kernel
theorem dL_law_2575 : decode cL_law 2575 = .ok (.aload_n 0, 1) := by decide +kernel
theorem dL_law_2576 : decode cL_law 2576 = .ok (.iload 5, 2) := by decide +kernel
theorem dL_law_2578 : decode cL_law 2578 = .ok (.iconst 1, 1) := by decide +kernel
theorem dL_law_2579 : decode cL_law 2579 = .ok (.iadd, 1) := by decide +kernel
theorem dL_law_2580 : decode cL_law 2580 = .ok (.iaload, 1) := by decide +kernel
theorem dL_law_2581 : decode cL_law 2581 = .ok (.aload_n 0, 1) := by decide +kernel
theorem dL_law_2582 : decode cL_law 2582 = .ok (.iload 5, 2) := by decide +kernel
theorem dL_law_2584 : decode cL_law 2584 = .ok (.iconst 2, 1) := by decide +kernel
theorem dL_law_2585 : decode cL_law 2585 = .ok (.iadd, 1) := by decide +kernel
theorem dL_law_2586 : decode cL_law 2586 = .ok (.iaload, 1) := by decide +kernel
theorem dL_law_2587 : decode cL_law 2587 = .ok (.ifCond .eq 7, 3) := by decide +kernel
theorem dL_law_2590 : decode cL_law 2590 = .ok (.iconst 1, 1) := by decide +kernel
theorem dL_law_2591 : decode cL_law 2591 = .ok (.goto 4, 3) := by decide +kernel
theorem dL_law_2594 : decode cL_law 2594 = .ok (.iconst 0, 1) := by decide +kernel
theorem dL_law_2595 : decode cL_law 2595 = .ok (.invokevirtual 309, 3) := by decide +kernel
theorem dL_law_2598 : decode cL_law 2598 = .ok (.istore 7, 2) := by decide +kernel
theorem dL_law_2600 : decode cL_law 2600 = .ok (.aload_n 2, 1) := by decide +kernel
theorem dL_law_2601 : decode cL_law 2601 = .ok (.invokevirtual 162, 3) := by decide +kernel
theorem dL_law_2604 : decode cL_law 2604 = .ok (.iload 6, 2) := by decide +kernel
theorem dL_law_2606 : decode cL_law 2606 = .ok (.if_icmp .eq 5, 3) := by decide +kernel
theorem dL_law_2609 : decode cL_law 2609 = .ok (.iconst 0, 1) := by decide +kernel
theorem dL_law_2610 : decode cL_law 2610 = .ok (.ireturn, 1) := by decide +kernel
theorem dL_law_2611 : decode cL_law 2611 = .ok (.iload 6, 2) := by decide +kernel
theorem dL_law_2613 : decode cL_law 2613 = .ok (.ifCond .ne 22, 3) := by decide +kernel
theorem dL_law_2616 : decode cL_law 2616 = .ok (.aload_n 3, 1) := by decide +kernel
theorem dL_law_2617 : decode cL_law 2617 = .ok (.iconst 0, 1) := by decide +kernel
theorem dL_law_2618 : decode cL_law 2618 = .ok (.laload, 1) := by decide +kernel
theorem dL_law_2619 : decode cL_law 2619 = .ok (.iload 7, 2) := by decide +kernel
theorem dL_law_2621 : decode cL_law 2621 = .ok (.ifCond .eq 7, 3) := by decide +kernel
theorem dL_law_2624 : decode cL_law 2624 = .ok (.lconst 1, 1) := by decide +kernel
theorem dL_law_2625 : decode cL_law 2625 = .ok (.goto 4, 3) := by decide +kernel
theorem dL_law_2628 : decode cL_law 2628 = .ok (.lconst 0, 1) := by decide +kernel
theorem dL_law_2629 : decode cL_law 2629 = .ok (.lcmp, 1) := by decide +kernel
theorem dL_law_2630 : decode cL_law 2630 = .ok (.ifCond .eq 5, 3) := by decide +kernel
theorem dL_law_2633 : decode cL_law 2633 = .ok (.iconst 0, 1) := by decide +kernel
theorem dL_law_2634 : decode cL_law 2634 = .ok (.ireturn, 1) := by decide +kernel
theorem dL_law_2635 : decode cL_law 2635 = .ok (.goto 432, 3) := by decide +kernel
theorem dL_law_2638 : decode cL_law 2638 = .ok (.aload_n 1, 1) := by decide +kernel
theorem dL_law_2639 : decode cL_law 2639 = .ok (.aload_n 0, 1) := by decide +kernel
theorem dL_law_2640 : decode cL_law 2640 = .ok (.iload 5, 2) := by decide +kernel
theorem dL_law_2642 : decode cL_law 2642 = .ok (.iconst 1, 1) := by decide +kernel
theorem dL_law_2643 : decode cL_law 2643 = .ok (.iadd, 1) := by decide +kernel
theorem dL_law_2644 : decode cL_law 2644 = .ok (.iaload, 1) := by decide +kernel
theorem dL_law_2645 : decode cL_law 2645 = .ok (.ifCond .eq 7, 3) := by decide +kernel
theorem dL_law_2648 : decode cL_law 2648 = .ok (.iconst 1, 1) := by decide +kernel
theorem dL_law_2649 : decode cL_law 2649 = .ok (.goto 4, 3) := by decide +kernel
theorem dL_law_2652 : decode cL_law 2652 = .ok (.iconst 0, 1) := by decide +kernel
theorem dL_law_2653 : decode cL_law 2653 = .ok (.invokevirtual 310, 3) := by decide +kernel
theorem dL_law_2656 : decode cL_law 2656 = .ok (.aload_n 2, 1) := by decide +kernel
theorem dL_law_2657 : decode cL_law 2657 = .ok (.aload_n 0, 1) := by decide +kernel
theorem dL_law_2658 : decode cL_law 2658 = .ok (.iload 5, 2) := by decide +kernel
theorem dL_law_2660 : decode cL_law 2660 = .ok (.iconst 1, 1) := by decide +kernel
theorem dL_law_2661 : decode cL_law 2661 = .ok (.iadd, 1) := by decide +kernel
theorem dL_law_2662 : decode cL_law 2662 = .ok (.iaload, 1) := by decide +kernel
theorem dL_law_2663 : decode cL_law 2663 = .ok (.ifCond .eq 7, 3) := by decide +kernel
theorem dL_law_2666 : decode cL_law 2666 = .ok (.iconst 1, 1) := by decide +kernel
theorem dL_law_2667 : decode cL_law 2667 = .ok (.goto 4, 3) := by decide +kernel
theorem dL_law_2670 : decode cL_law 2670 = .ok (.iconst 0, 1) := by decide +kernel
theorem dL_law_2671 : decode cL_law 2671 = .ok (.invokevirtual 314, 3) := by decide +kernel
theorem dL_law_2674 : decode cL_law 2674 = .ok (.if_icmp .eq 393, 3) := by decide +kernel
theorem dL_law_2677 : decode cL_law 2677 = .ok (.iconst 0, 1) := by decide +kernel
theorem dL_law_2678 : decode cL_law 2678 = .ok (.ireturn, 1) := by decide +kernel
theorem dL_law_2679 : decode cL_law 2679 = .ok (.aload_n 1, 1) := by decide +kernel
theorem dL_law_2680 : decode cL_law 2680 = .ok (.aload_n 0, 1) := by decide +kernel
theorem dL_law_2681 : decode cL_law 2681 = .ok (.iload 5, 2) := by decide +kernel
theorem dL_law_2683 : decode cL_law 2683 = .ok (.iconst 1, 1) := by decide +kernel
theorem dL_law_2684 : decode cL_law 2684 = .ok (.iadd, 1) := by decide +kernel
theorem dL_law_2685 : decode cL_law 2685 = .ok (.iaload, 1) := by decide +kernel
theorem dL_law_2686 : decode cL_law 2686 = .ok (.aload_n 0, 1) := by decide +kernel
theorem dL_law_2687 : decode cL_law 2687 = .ok (.iload 5, 2) := by decide +kernel
theorem dL_law_2689 : decode cL_law 2689 = .ok (.iconst 2, 1) := by decide +kernel
theorem dL_law_2690 : decode cL_law 2690 = .ok (.iadd, 1) := by decide +kernel
theorem dL_law_2691 : decode cL_law 2691 = .ok (.iaload, 1) := by decide +kernel
theorem dL_law_2692 : decode cL_law 2692 = .ok (.aload_n 0, 1) := by decide +kernel
theorem dL_law_2693 : decode cL_law 2693 = .ok (.iload 5, 2) := by decide +kernel
theorem dL_law_2695 : decode cL_law 2695 = .ok (.iconst 3, 1) := by decide +kernel
theorem dL_law_2696 : decode cL_law 2696 = .ok (.iadd, 1) := by decide +kernel
theorem dL_law_2697 : decode cL_law 2697 = .ok (.iaload, 1) := by decide +kernel
theorem dL_law_2698 : decode cL_law 2698 = .ok (.aload_n 3, 1) := by decide +kernel
theorem dL_law_2699 : decode cL_law 2699 = .ok (.invokestatic 315, 3) := by decide +kernel
theorem dL_law_2702 : decode cL_law 2702 = .ok (.istore 6, 2) := by decide +kernel
theorem dL_law_2704 : decode cL_law 2704 = .ok (.aload_n 2, 1) := by decide +kernel
theorem dL_law_2705 : decode cL_law 2705 = .ok (.aload_n 0, 1) := by decide +kernel
theorem dL_law_2706 : decode cL_law 2706 = .ok (.iload 5, 2) := by decide +kernel
theorem dL_law_2708 : decode cL_law 2708 = .ok (.iconst 1, 1) := by decide +kernel
theorem dL_law_2709 : decode cL_law 2709 = .ok (.iadd, 1) := by decide +kernel
theorem dL_law_2710 : decode cL_law 2710 = .ok (.iaload, 1) := by decide +kernel
theorem dL_law_2711 : decode cL_law 2711 = .ok (.aload_n 0, 1) := by decide +kernel
theorem dL_law_2712 : decode cL_law 2712 = .ok (.iload 5, 2) := by decide +kernel
theorem dL_law_2714 : decode cL_law 2714 = .ok (.iconst 2, 1) := by decide +kernel
theorem dL_law_2715 : decode cL_law 2715 = .ok (.iadd, 1) := by decide +kernel
theorem dL_law_2716 : decode cL_law 2716 = .ok (.iaload, 1) := by decide +kernel
theorem dL_law_2717 : decode cL_law 2717 = .ok (.aload_n 0, 1) := by decide +kernel
theorem dL_law_2718 : decode cL_law 2718 = .ok (.iload 5, 2) := by decide +kernel
theorem dL_law_2720 : decode cL_law 2720 = .ok (.iconst 3, 1) := by decide +kernel
theorem dL_law_2721 : decode cL_law 2721 = .ok (.iadd, 1) := by decide +kernel
theorem dL_law_2722 : decode cL_law 2722 = .ok (.iaload, 1) := by decide +kernel
theorem dL_law_2723 : decode cL_law 2723 = .ok (.invokevirtual 317, 3) := by decide +kernel
theorem dL_law_2726 : decode cL_law 2726 = .ok (.istore 7, 2) := by decide +kernel
theorem dL_law_2728 : decode cL_law 2728 = .ok (.aload_n 2, 1) := by decide +kernel
theorem dL_law_2729 : decode cL_law 2729 = .ok (.invokevirtual 162, 3) := by decide +kernel
theorem dL_law_2732 : decode cL_law 2732 = .ok (.iload 6, 2) := by decide +kernel
theorem dL_law_2734 : decode cL_law 2734 = .ok (.if_icmp .eq 5, 3) := by decide +kernel
theorem dL_law_2737 : decode cL_law 2737 = .ok (.iconst 0, 1) := by decide +kernel
theorem dL_law_2738 : decode cL_law 2738 = .ok (.ireturn, 1) := by decide +kernel
theorem dL_law_2739 : decode cL_law 2739 = .ok (.iload 6, 2) := by decide +kernel
theorem dL_law_2741 : decode cL_law 2741 = .ok (.ifCond .ne 15, 3) := by decide +kernel
theorem dL_law_2744 : decode cL_law 2744 = .ok (.aload_n 3, 1) := by decide +kernel
theorem dL_law_2745 : decode cL_law 2745 = .ok (.iconst 0, 1) := by decide +kernel
theorem dL_law_2746 : decode cL_law 2746 = .ok (.laload, 1) := by decide +kernel
theorem dL_law_2747 : decode cL_law 2747 = .ok (.iload 7, 2) := by decide +kernel
theorem dL_law_2749 : decode cL_law 2749 = .ok (.i2l, 1) := by decide +kernel
theorem dL_law_2750 : decode cL_law 2750 = .ok (.lcmp, 1) := by decide +kernel
theorem dL_law_2751 : decode cL_law 2751 = .ok (.ifCond .eq 5, 3) := by decide +kernel
theorem dL_law_2754 : decode cL_law 2754 = .ok (.iconst 0, 1) := by decide +kernel
theorem dL_law_2755 : decode cL_law 2755 = .ok (.ireturn, 1) := by decide +kernel
theorem dL_law_2756 : decode cL_law 2756 = .ok (.goto 311, 3) := by decide +kernel
theorem dL_law_2759 : decode cL_law 2759 = .ok (.aload_n 1, 1) := by decide +kernel
theorem dL_law_2760 : decode cL_law 2760 = .ok (.aload_n 3, 1) := by decide +kernel
theorem dL_law_2761 : decode cL_law 2761 = .ok (.invokestatic 318, 3) := by decide +kernel
theorem dL_law_2764 : decode cL_law 2764 = .ok (.istore 6, 2) := by decide +kernel
theorem dL_law_2766 : decode cL_law 2766 = .ok (.aload_n 2, 1) := by decide +kernel
theorem dL_law_2767 : decode cL_law 2767 = .ok (.invokevirtual 320, 3) := by decide +kernel
theorem dL_law_2770 : decode cL_law 2770 = .ok (.istore 7, 2) := by decide +kernel
theorem dL_law_2772 : decode cL_law 2772 = .ok (.aload_n 2, 1) := by decide +kernel
theorem dL_law_2773 : decode cL_law 2773 = .ok (.invokevirtual 162, 3) := by decide +kernel
theorem dL_law_2776 : decode cL_law 2776 = .ok (.iload 6, 2) := by decide +kernel
theorem dL_law_2778 : decode cL_law 2778 = .ok (.if_icmp .eq 5, 3) := by decide +kernel
theorem dL_law_2781 : decode cL_law 2781 = .ok (.iconst 0, 1) := by decide +kernel
theorem dL_law_2782 : decode cL_law 2782 = .ok (.ireturn, 1) := by decide +kernel
theorem dL_law_2783 : decode cL_law 2783 = .ok (.iload 6, 2) := by decide +kernel
theorem dL_law_2785 : decode cL_law 2785 = .ok (.ifCond .ne 15, 3) := by decide +kernel
theorem dL_law_2788 : decode cL_law 2788 = .ok (.aload_n 3, 1) := by decide +kernel
theorem dL_law_2789 : decode cL_law 2789 = .ok (.iconst 0, 1) := by decide +kernel
theorem dL_law_2790 : decode cL_law 2790 = .ok (.laload, 1) := by decide +kernel
theorem dL_law_2791 : decode cL_law 2791 = .ok (.iload 7, 2) := by decide +kernel
theorem dL_law_2793 : decode cL_law 2793 = .ok (.i2l, 1) := by decide +kernel
theorem dL_law_2794 : decode cL_law 2794 = .ok (.lcmp, 1) := by decide +kernel
theorem dL_law_2795 : decode cL_law 2795 = .ok (.ifCond .eq 5, 3) := by decide +kernel
theorem dL_law_2798 : decode cL_law 2798 = .ok (.iconst 0, 1) := by decide +kernel
theorem dL_law_2799 : decode cL_law 2799 = .ok (.ireturn, 1) := by decide +kernel
theorem dL_law_2800 : decode cL_law 2800 = .ok (.goto 267, 3) := by decide +kernel
theorem dL_law_2803 : decode cL_law 2803 = .ok (.aload_n 1, 1) := by decide +kernel
theorem dL_law_2804 : decode cL_law 2804 = .ok (.aload_n 0, 1) := by decide +kernel
theorem dL_law_2805 : decode cL_law 2805 = .ok (.iload 5, 2) := by decide +kernel
theorem dL_law_2807 : decode cL_law 2807 = .ok (.iconst 1, 1) := by decide +kernel
theorem dL_law_2808 : decode cL_law 2808 = .ok (.iadd, 1) := by decide +kernel
theorem dL_law_2809 : decode cL_law 2809 = .ok (.iaload, 1) := by decide +kernel
theorem dL_law_2810 : decode cL_law 2810 = .ok (.aload_n 3, 1) := by decide +kernel
theorem dL_law_2811 : decode cL_law 2811 = .ok (.invokestatic 321, 3) := by decide +kernel
theorem dL_law_2814 : decode cL_law 2814 = .ok (.istore 6, 2) := by decide +kernel
theorem dL_law_2816 : decode cL_law 2816 = .ok (.aload_n 2, 1) := by decide +kernel
theorem dL_law_2817 : decode cL_law 2817 = .ok (.aload_n 0, 1) := by decide +kernel
theorem dL_law_2818 : decode cL_law 2818 = .ok (.iload 5, 2) := by decide +kernel
theorem dL_law_2820 : decode cL_law 2820 = .ok (.iconst 1, 1) := by decide +kernel
theorem dL_law_2821 : decode cL_law 2821 = .ok (.iadd, 1) := by decide +kernel
theorem dL_law_2822 : decode cL_law 2822 = .ok (.iaload, 1) := by decide +kernel
theorem dL_law_2823 : decode cL_law 2823 = .ok (.invokevirtual 323, 3) := by decide +kernel
theorem dL_law_2826 : decode cL_law 2826 = .ok (.istore 7, 2) := by decide +kernel
theorem dL_law_2828 : decode cL_law 2828 = .ok (.aload_n 2, 1) := by decide +kernel
theorem dL_law_2829 : decode cL_law 2829 = .ok (.invokevirtual 162, 3) := by decide +kernel
theorem dL_law_2832 : decode cL_law 2832 = .ok (.iload 6, 2) := by decide +kernel
theorem dL_law_2834 : decode cL_law 2834 = .ok (.if_icmp .eq 5, 3) := by decide +kernel
theorem dL_law_2837 : decode cL_law 2837 = .ok (.iconst 0, 1) := by decide +kernel
theorem dL_law_2838 : decode cL_law 2838 = .ok (.ireturn, 1) := by decide +kernel
theorem dL_law_2839 : decode cL_law 2839 = .ok (.iload 6, 2) := by decide +kernel
theorem dL_law_2841 : decode cL_law 2841 = .ok (.ifCond .ne 15, 3) := by decide +kernel
theorem dL_law_2844 : decode cL_law 2844 = .ok (.aload_n 3, 1) := by decide +kernel
theorem dL_law_2845 : decode cL_law 2845 = .ok (.iconst 0, 1) := by decide +kernel
theorem dL_law_2846 : decode cL_law 2846 = .ok (.laload, 1) := by decide +kernel
theorem dL_law_2847 : decode cL_law 2847 = .ok (.iload 7, 2) := by decide +kernel
theorem dL_law_2849 : decode cL_law 2849 = .ok (.i2l, 1) := by decide +kernel
theorem dL_law_2850 : decode cL_law 2850 = .ok (.lcmp, 1) := by decide +kernel
theorem dL_law_2851 : decode cL_law 2851 = .ok (.ifCond .eq 5, 3) := by decide +kernel
theorem dL_law_2854 : decode cL_law 2854 = .ok (.iconst 0, 1) := by decide +kernel
theorem dL_law_2855 : decode cL_law 2855 = .ok (.ireturn, 1) := by decide +kernel
theorem dL_law_2856 : decode cL_law 2856 = .ok (.goto 211, 3) := by decide +kernel
theorem dL_law_2859 : decode cL_law 2859 = .ok (.aload_n 1, 1) := by decide +kernel
theorem dL_law_2860 : decode cL_law 2860 = .ok (.aload_n 0, 1) := by decide +kernel
theorem dL_law_2861 : decode cL_law 2861 = .ok (.iload 5, 2) := by decide +kernel
theorem dL_law_2863 : decode cL_law 2863 = .ok (.iconst 1, 1) := by decide +kernel
theorem dL_law_2864 : decode cL_law 2864 = .ok (.iadd, 1) := by decide +kernel
theorem dL_law_2865 : decode cL_law 2865 = .ok (.iaload, 1) := by decide +kernel
theorem dL_law_2866 : decode cL_law 2866 = .ok (.aload_n 3, 1) := by decide +kernel
theorem dL_law_2867 : decode cL_law 2867 = .ok (.invokestatic 324, 3) := by decide +kernel
theorem dL_law_2870 : decode cL_law 2870 = .ok (.istore 6, 2) := by decide +kernel
theorem dL_law_2872 : decode cL_law 2872 = .ok (.aload_n 2, 1) := by decide +kernel
theorem dL_law_2873 : decode cL_law 2873 = .ok (.aload_n 0, 1) := by decide +kernel
theorem dL_law_2874 : decode cL_law 2874 = .ok (.iload 5, 2) := by decide +kernel
theorem dL_law_2876 : decode cL_law 2876 = .ok (.iconst 1, 1) := by decide +kernel
theorem dL_law_2877 : decode cL_law 2877 = .ok (.iadd, 1) := by decide +kernel
theorem dL_law_2878 : decode cL_law 2878 = .ok (.iaload, 1) := by decide +kernel
theorem dL_law_2879 : decode cL_law 2879 = .ok (.invokevirtual 326, 3) := by decide +kernel
theorem dL_law_2882 : decode cL_law 2882 = .ok (.istore 7, 2) := by decide +kernel
theorem dL_law_2884 : decode cL_law 2884 = .ok (.aload_n 2, 1) := by decide +kernel
theorem dL_law_2885 : decode cL_law 2885 = .ok (.invokevirtual 162, 3) := by decide +kernel
theorem dL_law_2888 : decode cL_law 2888 = .ok (.iload 6, 2) := by decide +kernel
theorem dL_law_2890 : decode cL_law 2890 = .ok (.if_icmp .eq 5, 3) := by decide +kernel
theorem dL_law_2893 : decode cL_law 2893 = .ok (.iconst 0, 1) := by decide +kernel
theorem dL_law_2894 : decode cL_law 2894 = .ok (.ireturn, 1) := by decide +kernel
theorem dL_law_2895 : decode cL_law 2895 = .ok (.iload 6, 2) := by decide +kernel
theorem dL_law_2897 : decode cL_law 2897 = .ok (.ifCond .ne 15, 3) := by decide +kernel
theorem dL_law_2900 : decode cL_law 2900 = .ok (.aload_n 3, 1) := by decide +kernel
theorem dL_law_2901 : decode cL_law 2901 = .ok (.iconst 0, 1) := by decide +kernel
theorem dL_law_2902 : decode cL_law 2902 = .ok (.laload, 1) := by decide +kernel
theorem dL_law_2903 : decode cL_law 2903 = .ok (.iload 7, 2) := by decide +kernel
theorem dL_law_2905 : decode cL_law 2905 = .ok (.i2l, 1) := by decide +kernel
theorem dL_law_2906 : decode cL_law 2906 = .ok (.lcmp, 1) := by decide +kernel
theorem dL_law_2907 : decode cL_law 2907 = .ok (.ifCond .eq 5, 3) := by decide +kernel
theorem dL_law_2910 : decode cL_law 2910 = .ok (.iconst 0, 1) := by decide +kernel
theorem dL_law_2911 : decode cL_law 2911 = .ok (.ireturn, 1) := by decide +kernel
theorem dL_law_2912 : decode cL_law 2912 = .ok (.goto 155, 3) := by decide +kernel
theorem dL_law_2915 : decode cL_law 2915 = .ok (.aload_n 1, 1) := by decide +kernel
theorem dL_law_2916 : decode cL_law 2916 = .ok (.aload_n 3, 1) := by decide +kernel
theorem dL_law_2917 : decode cL_law 2917 = .ok (.invokestatic 327, 3) := by decide +kernel
theorem dL_law_2920 : decode cL_law 2920 = .ok (.istore 6, 2) := by decide +kernel
theorem dL_law_2922 : decode cL_law 2922 = .ok (.aload_n 2, 1) := by decide +kernel
theorem dL_law_2923 : decode cL_law 2923 = .ok (.invokevirtual 329, 3) := by decide +kernel
theorem dL_law_2926 : decode cL_law 2926 = .ok (.istore 7, 2) := by decide +kernel
theorem dL_law_2928 : decode cL_law 2928 = .ok (.aload_n 2, 1) := by decide +kernel
theorem dL_law_2929 : decode cL_law 2929 = .ok (.invokevirtual 162, 3) := by decide +kernel
theorem dL_law_2932 : decode cL_law 2932 = .ok (.iload 6, 2) := by decide +kernel
theorem dL_law_2934 : decode cL_law 2934 = .ok (.if_icmp .eq 5, 3) := by decide +kernel
theorem dL_law_2937 : decode cL_law 2937 = .ok (.iconst 0, 1) := by decide +kernel
theorem dL_law_2938 : decode cL_law 2938 = .ok (.ireturn, 1) := by decide +kernel
theorem dL_law_2939 : decode cL_law 2939 = .ok (.iload 6, 2) := by decide +kernel
theorem dL_law_2941 : decode cL_law 2941 = .ok (.ifCond .ne 15, 3) := by decide +kernel
theorem dL_law_2944 : decode cL_law 2944 = .ok (.aload_n 3, 1) := by decide +kernel
theorem dL_law_2945 : decode cL_law 2945 = .ok (.iconst 0, 1) := by decide +kernel
theorem dL_law_2946 : decode cL_law 2946 = .ok (.laload, 1) := by decide +kernel
theorem dL_law_2947 : decode cL_law 2947 = .ok (.iload 7, 2) := by decide +kernel
theorem dL_law_2949 : decode cL_law 2949 = .ok (.i2l, 1) := by decide +kernel
theorem dL_law_2950 : decode cL_law 2950 = .ok (.lcmp, 1) := by decide +kernel
theorem dL_law_2951 : decode cL_law 2951 = .ok (.ifCond .eq 5, 3) := by decide +kernel
theorem dL_law_2954 : decode cL_law 2954 = .ok (.iconst 0, 1) := by decide +kernel
theorem dL_law_2955 : decode cL_law 2955 = .ok (.ireturn, 1) := by decide +kernel
theorem dL_law_2956 : decode cL_law 2956 = .ok (.goto 111, 3) := by decide +kernel
theorem dL_law_2959 : decode cL_law 2959 = .ok (.aload_n 1, 1) := by decide +kernel
theorem dL_law_2960 : decode cL_law 2960 = .ok (.invokevirtual 330, 3) := by decide +kernel
theorem dL_law_2963 : decode cL_law 2963 = .ok (.aload_n 2, 1) := by decide +kernel
theorem dL_law_2964 : decode cL_law 2964 = .ok (.invokevirtual 333, 3) := by decide +kernel
theorem dL_law_2967 : decode cL_law 2967 = .ok (.if_icmp .eq 100, 3) := by decide +kernel
theorem dL_law_2970 : decode cL_law 2970 = .ok (.iconst 0, 1) := by decide +kernel
theorem dL_law_2971 : decode cL_law 2971 = .ok (.ireturn, 1) := by decide +kernel
theorem dL_law_2972 : decode cL_law 2972 = .ok (.aload_n 1, 1) := by decide +kernel
theorem dL_law_2973 : decode cL_law 2973 = .ok (.invokevirtual 334, 3) := by decide +kernel
theorem dL_law_2976 : decode cL_law 2976 = .ok (.aload_n 2, 1) := by decide +kernel
theorem dL_law_2977 : decode cL_law 2977 = .ok (.invokevirtual 337, 3) := by decide +kernel
theorem dL_law_2980 : decode cL_law 2980 = .ok (.if_icmp .eq 87, 3) := by decide +kernel
theorem dL_law_2983 : decode cL_law 2983 = .ok (.iconst 0, 1) := by decide +kernel
theorem dL_law_2984 : decode cL_law 2984 = .ok (.ireturn, 1) := by decide +kernel
theorem dL_law_2985 : decode cL_law 2985 = .ok (.aload_n 1, 1) := by decide +kernel
theorem dL_law_2986 : decode cL_law 2986 = .ok (.invokevirtual 338, 3) := by decide +kernel
theorem dL_law_2989 : decode cL_law 2989 = .ok (.aload_n 2, 1) := by decide +kernel
theorem dL_law_2990 : decode cL_law 2990 = .ok (.invokevirtual 341, 3) := by decide +kernel
theorem dL_law_2993 : decode cL_law 2993 = .ok (.if_icmp .eq 74, 3) := by decide +kernel
theorem dL_law_2996 : decode cL_law 2996 = .ok (.iconst 0, 1) := by decide +kernel
theorem dL_law_2997 : decode cL_law 2997 = .ok (.ireturn, 1) := by decide +kernel
theorem dL_law_2998 : decode cL_law 2998 = .ok (.aload_n 1, 1) := by decide +kernel
theorem dL_law_2999 : decode cL_law 2999 = .ok (.invokevirtual 342, 3) := by decide +kernel
theorem dL_law_3002 : decode cL_law 3002 = .ok (.aload_n 2, 1) := by decide +kernel
theorem dL_law_3003 : decode cL_law 3003 = .ok (.invokevirtual 345, 3) := by decide +kernel
theorem dL_law_3006 : decode cL_law 3006 = .ok (.if_icmp .eq 61, 3) := by decide +kernel
theorem dL_law_3009 : decode cL_law 3009 = .ok (.iconst 0, 1) := by decide +kernel
theorem dL_law_3010 : decode cL_law 3010 = .ok (.ireturn, 1) := by decide +kernel
theorem dL_law_3011 : decode cL_law 3011 = .ok (.aload_n 1, 1) := by decide +kernel
theorem dL_law_3012 : decode cL_law 3012 = .ok (.aload_n 0, 1) := by decide +kernel
theorem dL_law_3013 : decode cL_law 3013 = .ok (.iload 5, 2) := by decide +kernel
theorem dL_law_3015 : decode cL_law 3015 = .ok (.iconst 1, 1) := by decide +kernel
theorem dL_law_3016 : decode cL_law 3016 = .ok (.iadd, 1) := by decide +kernel
theorem dL_law_3017 : decode cL_law 3017 = .ok (.iaload, 1) := by decide +kernel
theorem dL_law_3018 : decode cL_law 3018 = .ok (.aload_n 3, 1) := by decide +kernel
theorem dL_law_3019 : decode cL_law 3019 = .ok (.invokestatic 346, 3) := by decide +kernel
theorem dL_law_3022 : decode cL_law 3022 = .ok (.istore 6, 2) := by decide +kernel
theorem dL_law_3024 : decode cL_law 3024 = .ok (.aload_n 2, 1) := by decide +kernel
theorem dL_law_3025 : decode cL_law 3025 = .ok (.aload_n 0, 1) := by decide +kernel
theorem dL_law_3026 : decode cL_law 3026 = .ok (.iload 5, 2) := by decide +kernel
theorem dL_law_3028 : decode cL_law 3028 = .ok (.iconst 1, 1) := by decide +kernel
theorem dL_law_3029 : decode cL_law 3029 = .ok (.iadd, 1) := by decide +kernel
theorem dL_law_3030 : decode cL_law 3030 = .ok (.iaload, 1) := by decide +kernel
theorem dL_law_3031 : decode cL_law 3031 = .ok (.invokevirtual 348, 3) := by decide +kernel
theorem dL_law_3034 : decode cL_law 3034 = .ok (.istore 7, 2) := by decide +kernel
theorem dL_law_3036 : decode cL_law 3036 = .ok (.aload_n 2, 1) := by decide +kernel
theorem dL_law_3037 : decode cL_law 3037 = .ok (.invokevirtual 162, 3) := by decide +kernel
theorem dL_law_3040 : decode cL_law 3040 = .ok (.iload 6, 2) := by decide +kernel
theorem dL_law_3042 : decode cL_law 3042 = .ok (.if_icmp .eq 5, 3) := by decide +kernel
theorem dL_law_3045 : decode cL_law 3045 = .ok (.iconst 0, 1) := by decide +kernel
theorem dL_law_3046 : decode cL_law 3046 = .ok (.ireturn, 1) := by decide +kernel
theorem dL_law_3047 : decode cL_law 3047 = .ok (.iload 6, 2) := by decide +kernel
theorem dL_law_3049 : decode cL_law 3049 = .ok (.ifCond .ne 15, 3) := by decide +kernel
theorem dL_law_3052 : decode cL_law 3052 = .ok (.aload_n 3, 1) := by decide +kernel
theorem dL_law_3053 : decode cL_law 3053 = .ok (.iconst 0, 1) := by decide +kernel
theorem dL_law_3054 : decode cL_law 3054 = .ok (.laload, 1) := by decide +kernel
theorem dL_law_3055 : decode cL_law 3055 = .ok (.iload 7, 2) := by decide +kernel
theorem dL_law_3057 : decode cL_law 3057 = .ok (.i2l, 1) := by decide +kernel
theorem dL_law_3058 : decode cL_law 3058 = .ok (.lcmp, 1) := by decide +kernel
theorem dL_law_3059 : decode cL_law 3059 = .ok (.ifCond .eq 5, 3) := by decide +kernel
theorem dL_law_3062 : decode cL_law 3062 = .ok (.iconst 0, 1) := by decide +kernel
theorem dL_law_3063 : decode cL_law 3063 = .ok (.ireturn, 1) := by decide +kernel
theorem dL_law_3064 : decode cL_law 3064 = .ok (.goto 3, 3) := by decide +kernel
theorem dL_law_3067 : decode cL_law 3067 = .ok (.iinc 5 6, 3) := by decide +kernel
theorem dL_law_3070 : decode cL_law 3070 = .ok (.goto (-3042), 3) := by decide +kernel
theorem dL_law_3073 : decode cL_law 3073 = .ok (.iconst 1, 1) := by decide +kernel
theorem dL_law_3074 : decode cL_law 3074 = .ok (.ireturn, 1) := by decide +kernel
