theorem dX8_init_0 : decode cX8_init 0 = .ok (.aload_n 0, 1) := by decide +kernel
theorem dX8_init_1 : decode cX8_init 1 = .ok (.invokespecial 3, 3) := by decide +kernel
theorem dX8_init_4 : decode cX8_init 4 = .ok (.aload_n 0, 1) := by decide +kernel
theorem dX8_init_5 : decode cX8_init 5 = .ok (.sipush 933, 3) := by decide +kernel
theorem dX8_init_8 : decode cX8_init 8 = .ok (.newarray .int, 2) := by decide +kernel
theorem dX8_init_10 : decode cX8_init 10 = .ok (.putfield 9, 3) := by decide +kernel
theorem dX8_init_13 : decode cX8_init 13 = .ok (.aload_n 0, 1) := by decide +kernel
theorem dX8_init_14 : decode cX8_init 14 = .ok (.sipush 933, 3) := by decide +kernel
theorem dX8_init_17 : decode cX8_init 17 = .ok (.newarray .int, 2) := by decide +kernel
theorem dX8_init_19 : decode cX8_init 19 = .ok (.putfield 15, 3) := by decide +kernel
theorem dX8_init_22 : decode cX8_init 22 = .ok (.aload_n 0, 1) := by decide +kernel
theorem dX8_init_23 : decode cX8_init 23 = .ok (.bipush 33, 2) := by decide +kernel
theorem dX8_init_25 : decode cX8_init 25 = .ok (.newarray .int, 2) := by decide +kernel
theorem dX8_init_27 : decode cX8_init 27 = .ok (.putfield 18, 3) := by decide +kernel
theorem dX8_init_30 : decode cX8_init 30 = .ok (.aload_n 0, 1) := by decide +kernel
theorem dX8_init_31 : decode cX8_init 31 = .ok (.bipush 6, 2) := by decide +kernel
theorem dX8_init_33 : decode cX8_init 33 = .ok (.newarray .int, 2) := by decide +kernel
theorem dX8_init_35 : decode cX8_init 35 = .ok (.putfield 21, 3) := by decide +kernel
theorem dX8_init_38 : decode cX8_init 38 = .ok (.aload_n 0, 1) := by decide +kernel
theorem dX8_init_39 : decode cX8_init 39 = .ok (.bipush 64, 2) := by decide +kernel
theorem dX8_init_41 : decode cX8_init 41 = .ok (.newarray .boolean, 2) := by decide +kernel
theorem dX8_init_43 : decode cX8_init 43 = .ok (.putfield 24, 3) := by decide +kernel
theorem dX8_init_46 : decode cX8_init 46 = .ok (.aload_n 0, 1) := by decide +kernel
theorem dX8_init_47 : decode cX8_init 47 = .ok (.bipush 20, 2) := by decide +kernel
theorem dX8_init_49 : decode cX8_init 49 = .ok (.newarray .int, 2) := by decide +kernel
theorem dX8_init_51 : decode cX8_init 51 = .ok (.putfield 28, 3) := by decide +kernel
theorem dX8_init_54 : decode cX8_init 54 = .ok (.aload_n 0, 1) := by decide +kernel
theorem dX8_init_55 : decode cX8_init 55 = .ok (.getfield 9, 3) := by decide +kernel
theorem dX8_init_58 : decode cX8_init 58 = .ok (.bipush 39, 2) := by decide +kernel
theorem dX8_init_60 : decode cX8_init 60 = .ok (.iconst (-1), 1) := by decide +kernel
theorem dX8_init_61 : decode cX8_init 61 = .ok (.iastore, 1) := by decide +kernel
theorem dX8_init_62 : decode cX8_init 62 = .ok (.aload_n 0, 1) := by decide +kernel
theorem dX8_init_63 : decode cX8_init 63 = .ok (.getfield 9, 3) := by decide +kernel
theorem dX8_init_66 : decode cX8_init 66 = .ok (.iconst 1, 1) := by decide +kernel
theorem dX8_init_67 : decode cX8_init 67 = .ok (.iconst 5, 1) := by decide +kernel
theorem dX8_init_68 : decode cX8_init 68 = .ok (.iastore, 1) := by decide +kernel
theorem dX8_init_69 : decode cX8_init 69 = .ok (.return_, 1) := by decide +kernel
theorem dX8_in_0 : decode cX8_in 0 = .ok (.iload_n 0, 1) := by decide +kernel
theorem dX8_in_1 : decode cX8_in 1 = .ok (.iload_n 1, 1) := by decide +kernel
theorem dX8_in_2 : decode cX8_in 2 = .ok (.if_icmp .lt 12, 3) := by decide +kernel
theorem dX8_in_5 : decode cX8_in 5 = .ok (.iload_n 0, 1) := by decide +kernel
theorem dX8_in_6 : decode cX8_in 6 = .ok (.iload_n 2, 1) := by decide +kernel
theorem dX8_in_7 : decode cX8_in 7 = .ok (.if_icmp .gt 7, 3) := by decide +kernel
theorem dX8_in_10 : decode cX8_in 10 = .ok (.iconst 1, 1) := by decide +kernel
theorem dX8_in_11 : decode cX8_in 11 = .ok (.goto 4, 3) := by decide +kernel
theorem dX8_in_14 : decode cX8_in 14 = .ok (.iconst 0, 1) := by decide +kernel
theorem dX8_in_15 : decode cX8_in 15 = .ok (.ireturn, 1) := by decide +kernel
theorem dX8_isDeed_0 : decode cX8_isDeed 0 = .ok (.iload_n 1, 1) := by decide +kernel
theorem dX8_isDeed_1 : decode cX8_isDeed 1 = .ok (.iconst 0, 1) := by decide +kernel
theorem dX8_isDeed_2 : decode cX8_isDeed 2 = .ok (.aload_n 0, 1) := by decide +kernel
theorem dX8_isDeed_3 : decode cX8_isDeed 3 = .ok (.getfield 9, 3) := by decide +kernel
theorem dX8_isDeed_6 : decode cX8_isDeed 6 = .ok (.bipush 33, 2) := by decide +kernel
theorem dX8_isDeed_8 : decode cX8_isDeed 8 = .ok (.iaload, 1) := by decide +kernel
theorem dX8_isDeed_9 : decode cX8_isDeed 9 = .ok (.iconst 1, 1) := by decide +kernel
theorem dX8_isDeed_10 : decode cX8_isDeed 10 = .ok (.isub, 1) := by decide +kernel
theorem dX8_isDeed_11 : decode cX8_isDeed 11 = .ok (.invokestatic 35, 3) := by decide +kernel
theorem dX8_isDeed_14 : decode cX8_isDeed 14 = .ok (.ireturn, 1) := by decide +kernel
theorem dX8_held_0 : decode cX8_held 0 = .ok (.iload_n 0, 1) := by decide +kernel
theorem dX8_held_1 : decode cX8_held 1 = .ok (.ifCond .ge 7, 3) := by decide +kernel
theorem dX8_held_4 : decode cX8_held 4 = .ok (.iconst 0, 1) := by decide +kernel
theorem dX8_held_5 : decode cX8_held 5 = .ok (.goto 13, 3) := by decide +kernel
theorem dX8_held_8 : decode cX8_held 8 = .ok (.iload_n 0, 1) := by decide +kernel
theorem dX8_held_9 : decode cX8_held 9 = .ok (.iload_n 1, 1) := by decide +kernel
theorem dX8_held_10 : decode cX8_held 10 = .ok (.if_icmp .le 7, 3) := by decide +kernel
theorem dX8_held_13 : decode cX8_held 13 = .ok (.iload_n 1, 1) := by decide +kernel
theorem dX8_held_14 : decode cX8_held 14 = .ok (.goto 4, 3) := by decide +kernel
theorem dX8_held_17 : decode cX8_held 17 = .ok (.iload_n 0, 1) := by decide +kernel
theorem dX8_held_18 : decode cX8_held 18 = .ok (.ireturn, 1) := by decide +kernel
theorem dX8_keeps_0 : decode cX8_keeps 0 = .ok (.iconst 0, 1) := by decide +kernel
theorem dX8_keeps_1 : decode cX8_keeps 1 = .ok (.istore_n 1, 1) := by decide +kernel
theorem dX8_keeps_2 : decode cX8_keeps 2 = .ok (.iload_n 1, 1) := by decide +kernel
theorem dX8_keeps_3 : decode cX8_keeps 3 = .ok (.bipush 33, 2) := by decide +kernel
theorem dX8_keeps_5 : decode cX8_keeps 5 = .ok (.if_icmp .ge 21, 3) := by decide +kernel
theorem dX8_keeps_8 : decode cX8_keeps 8 = .ok (.aload_n 0, 1) := by decide +kernel
theorem dX8_keeps_9 : decode cX8_keeps 9 = .ok (.getfield 18, 3) := by decide +kernel
theorem dX8_keeps_12 : decode cX8_keeps 12 = .ok (.iload_n 1, 1) := by decide +kernel
theorem dX8_keeps_13 : decode cX8_keeps 13 = .ok (.aload_n 0, 1) := by decide +kernel
theorem dX8_keeps_14 : decode cX8_keeps 14 = .ok (.getfield 9, 3) := by decide +kernel
theorem dX8_keeps_17 : decode cX8_keeps 17 = .ok (.iload_n 1, 1) := by decide +kernel
theorem dX8_keeps_18 : decode cX8_keeps 18 = .ok (.iaload, 1) := by decide +kernel
theorem dX8_keeps_19 : decode cX8_keeps 19 = .ok (.iastore, 1) := by decide +kernel
theorem dX8_keeps_20 : decode cX8_keeps 20 = .ok (.iinc 1 1, 3) := by decide +kernel
theorem dX8_keeps_23 : decode cX8_keeps 23 = .ok (.goto (-21), 3) := by decide +kernel
theorem dX8_keeps_26 : decode cX8_keeps 26 = .ok (.return_, 1) := by decide +kernel
theorem dX8_goesBack_0 : decode cX8_goesBack 0 = .ok (.iconst 0, 1) := by decide +kernel
theorem dX8_goesBack_1 : decode cX8_goesBack 1 = .ok (.istore_n 1, 1) := by decide +kernel
theorem dX8_goesBack_2 : decode cX8_goesBack 2 = .ok (.iload_n 1, 1) := by decide +kernel
theorem dX8_goesBack_3 : decode cX8_goesBack 3 = .ok (.bipush 33, 2) := by decide +kernel
theorem dX8_goesBack_5 : decode cX8_goesBack 5 = .ok (.if_icmp .ge 21, 3) := by decide +kernel
theorem dX8_goesBack_8 : decode cX8_goesBack 8 = .ok (.aload_n 0, 1) := by decide +kernel
theorem dX8_goesBack_9 : decode cX8_goesBack 9 = .ok (.getfield 9, 3) := by decide +kernel
theorem dX8_goesBack_12 : decode cX8_goesBack 12 = .ok (.iload_n 1, 1) := by decide +kernel
theorem dX8_goesBack_13 : decode cX8_goesBack 13 = .ok (.aload_n 0, 1) := by decide +kernel
theorem dX8_goesBack_14 : decode cX8_goesBack 14 = .ok (.getfield 18, 3) := by decide +kernel
theorem dX8_goesBack_17 : decode cX8_goesBack 17 = .ok (.iload_n 1, 1) := by decide +kernel
theorem dX8_goesBack_18 : decode cX8_goesBack 18 = .ok (.iaload, 1) := by decide +kernel
theorem dX8_goesBack_19 : decode cX8_goesBack 19 = .ok (.iastore, 1) := by decide +kernel
theorem dX8_goesBack_20 : decode cX8_goesBack 20 = .ok (.iinc 1 1, 3) := by decide +kernel
theorem dX8_goesBack_23 : decode cX8_goesBack 23 = .ok (.goto (-21), 3) := by decide +kernel
theorem dX8_goesBack_26 : decode cX8_goesBack 26 = .ok (.return_, 1) := by decide +kernel
theorem dX8_feed_0 : decode cX8_feed 0 = .ok (.iload_n 1, 1) := by decide +kernel
theorem dX8_feed_1 : decode cX8_feed 1 = .ok (.iconst 0, 1) := by decide +kernel
theorem dX8_feed_2 : decode cX8_feed 2 = .ok (.bipush 127, 2) := by decide +kernel
theorem dX8_feed_4 : decode cX8_feed 4 = .ok (.invokestatic 35, 3) := by decide +kernel
theorem dX8_feed_7 : decode cX8_feed 7 = .ok (.ifCond .ne 6, 3) := by decide +kernel
theorem dX8_feed_10 : decode cX8_feed 10 = .ok (.bipush (-2), 2) := by decide +kernel
theorem dX8_feed_12 : decode cX8_feed 12 = .ok (.ireturn, 1) := by decide +kernel
theorem dX8_feed_13 : decode cX8_feed 13 = .ok (.aload_n 0, 1) := by decide +kernel
theorem dX8_feed_14 : decode cX8_feed 14 = .ok (.getfield 9, 3) := by decide +kernel
theorem dX8_feed_17 : decode cX8_feed 17 = .ok (.bipush 38, 2) := by decide +kernel
theorem dX8_feed_19 : decode cX8_feed 19 = .ok (.iaload, 1) := by decide +kernel
theorem dX8_feed_20 : decode cX8_feed 20 = .ok (.bipush 100, 2) := by decide +kernel
theorem dX8_feed_22 : decode cX8_feed 22 = .ok (.if_icmp .ne 6, 3) := by decide +kernel
theorem dX8_feed_25 : decode cX8_feed 25 = .ok (.bipush (-4), 2) := by decide +kernel
theorem dX8_feed_27 : decode cX8_feed 27 = .ok (.ireturn, 1) := by decide +kernel
theorem dX8_feed_28 : decode cX8_feed 28 = .ok (.aload_n 0, 1) := by decide +kernel
theorem dX8_feed_29 : decode cX8_feed 29 = .ok (.getfield 9, 3) := by decide +kernel
theorem dX8_feed_32 : decode cX8_feed 32 = .ok (.bipush 123, 2) := by decide +kernel
theorem dX8_feed_34 : decode cX8_feed 34 = .ok (.aload_n 0, 1) := by decide +kernel
theorem dX8_feed_35 : decode cX8_feed 35 = .ok (.getfield 9, 3) := by decide +kernel
theorem dX8_feed_38 : decode cX8_feed 38 = .ok (.bipush 38, 2) := by decide +kernel
theorem dX8_feed_40 : decode cX8_feed 40 = .ok (.iaload, 1) := by decide +kernel
theorem dX8_feed_41 : decode cX8_feed 41 = .ok (.iadd, 1) := by decide +kernel
theorem dX8_feed_42 : decode cX8_feed 42 = .ok (.iload_n 1, 1) := by decide +kernel
theorem dX8_feed_43 : decode cX8_feed 43 = .ok (.iastore, 1) := by decide +kernel
theorem dX8_feed_44 : decode cX8_feed 44 = .ok (.aload_n 0, 1) := by decide +kernel
theorem dX8_feed_45 : decode cX8_feed 45 = .ok (.getfield 9, 3) := by decide +kernel
theorem dX8_feed_48 : decode cX8_feed 48 = .ok (.bipush 38, 2) := by decide +kernel
theorem dX8_feed_50 : decode cX8_feed 50 = .ok (.dup2, 1) := by decide +kernel
theorem dX8_feed_51 : decode cX8_feed 51 = .ok (.iaload, 1) := by decide +kernel
theorem dX8_feed_52 : decode cX8_feed 52 = .ok (.iconst 1, 1) := by decide +kernel
theorem dX8_feed_53 : decode cX8_feed 53 = .ok (.iadd, 1) := by decide +kernel
theorem dX8_feed_54 : decode cX8_feed 54 = .ok (.iastore, 1) := by decide +kernel
theorem dX8_feed_55 : decode cX8_feed 55 = .ok (.aload_n 0, 1) := by decide +kernel
theorem dX8_feed_56 : decode cX8_feed 56 = .ok (.getfield 9, 3) := by decide +kernel
theorem dX8_feed_59 : decode cX8_feed 59 = .ok (.bipush 38, 2) := by decide +kernel
theorem dX8_feed_61 : decode cX8_feed 61 = .ok (.iaload, 1) := by decide +kernel
theorem dX8_feed_62 : decode cX8_feed 62 = .ok (.ireturn, 1) := by decide +kernel
theorem dX8_here_0 : decode cX8_here 0 = .ok (.aload_n 0, 1) := by decide +kernel
theorem dX8_here_1 : decode cX8_here 1 = .ok (.getfield 39, 3) := by decide +kernel
theorem dX8_here_4 : decode cX8_here 4 = .ok (.aload_n 0, 1) := by decide +kernel
theorem dX8_here_5 : decode cX8_here 5 = .ok (.getfield 42, 3) := by decide +kernel
theorem dX8_here_8 : decode cX8_here 8 = .ok (.if_icmp .ge 18, 3) := by decide +kernel
theorem dX8_here_11 : decode cX8_here 11 = .ok (.aload_n 0, 1) := by decide +kernel
theorem dX8_here_12 : decode cX8_here 12 = .ok (.getfield 9, 3) := by decide +kernel
theorem dX8_here_15 : decode cX8_here 15 = .ok (.bipush 123, 2) := by decide +kernel
theorem dX8_here_17 : decode cX8_here 17 = .ok (.aload_n 0, 1) := by decide +kernel
theorem dX8_here_18 : decode cX8_here 18 = .ok (.getfield 39, 3) := by decide +kernel
theorem dX8_here_21 : decode cX8_here 21 = .ok (.iadd, 1) := by decide +kernel
theorem dX8_here_22 : decode cX8_here 22 = .ok (.iaload, 1) := by decide +kernel
theorem dX8_here_23 : decode cX8_here 23 = .ok (.goto 4, 3) := by decide +kernel
theorem dX8_here_26 : decode cX8_here 26 = .ok (.iconst (-1), 1) := by decide +kernel
theorem dX8_here_27 : decode cX8_here 27 = .ok (.ireturn, 1) := by decide +kernel
theorem dX8_must_0 : decode cX8_must 0 = .ok (.aload_n 0, 1) := by decide +kernel
theorem dX8_must_1 : decode cX8_must 1 = .ok (.aload_n 0, 1) := by decide +kernel
theorem dX8_must_2 : decode cX8_must 2 = .ok (.getfield 45, 3) := by decide +kernel
theorem dX8_must_5 : decode cX8_must 5 = .ok (.ifCond .ne 11, 3) := by decide +kernel
theorem dX8_must_8 : decode cX8_must 8 = .ok (.aload_n 0, 1) := by decide +kernel
theorem dX8_must_9 : decode cX8_must 9 = .ok (.invokevirtual 49, 3) := by decide +kernel
theorem dX8_must_12 : decode cX8_must 12 = .ok (.iload_n 1, 1) := by decide +kernel
theorem dX8_must_13 : decode cX8_must 13 = .ok (.if_icmp .eq 7, 3) := by decide +kernel
theorem dX8_must_16 : decode cX8_must 16 = .ok (.iconst 1, 1) := by decide +kernel
theorem dX8_must_17 : decode cX8_must 17 = .ok (.goto 4, 3) := by decide +kernel
theorem dX8_must_20 : decode cX8_must 20 = .ok (.iconst 0, 1) := by decide +kernel
theorem dX8_must_21 : decode cX8_must 21 = .ok (.putfield 45, 3) := by decide +kernel
theorem dX8_must_24 : decode cX8_must 24 = .ok (.aload_n 0, 1) := by decide +kernel
theorem dX8_must_25 : decode cX8_must 25 = .ok (.dup, 1) := by decide +kernel
theorem dX8_must_26 : decode cX8_must 26 = .ok (.getfield 39, 3) := by decide +kernel
theorem dX8_must_29 : decode cX8_must 29 = .ok (.aload_n 0, 1) := by decide +kernel
theorem dX8_must_30 : decode cX8_must 30 = .ok (.getfield 45, 3) := by decide +kernel
theorem dX8_must_33 : decode cX8_must 33 = .ok (.ifCond .eq 7, 3) := by decide +kernel
theorem dX8_must_36 : decode cX8_must 36 = .ok (.iconst 0, 1) := by decide +kernel
theorem dX8_must_37 : decode cX8_must 37 = .ok (.goto 4, 3) := by decide +kernel
theorem dX8_must_40 : decode cX8_must 40 = .ok (.iconst 1, 1) := by decide +kernel
theorem dX8_must_41 : decode cX8_must 41 = .ok (.iadd, 1) := by decide +kernel
theorem dX8_must_42 : decode cX8_must 42 = .ok (.putfield 39, 3) := by decide +kernel
theorem dX8_must_45 : decode cX8_must 45 = .ok (.return_, 1) := by decide +kernel
theorem dX8_spells_0 : decode cX8_spells 0 = .ok (.iconst 0, 1) := by decide +kernel
theorem dX8_spells_1 : decode cX8_spells 1 = .ok (.istore_n 2, 1) := by decide +kernel
theorem dX8_spells_2 : decode cX8_spells 2 = .ok (.iload_n 2, 1) := by decide +kernel
theorem dX8_spells_3 : decode cX8_spells 3 = .ok (.aload_n 1, 1) := by decide +kernel
theorem dX8_spells_4 : decode cX8_spells 4 = .ok (.invokevirtual 53, 3) := by decide +kernel
theorem dX8_spells_7 : decode cX8_spells 7 = .ok (.if_icmp .ge 18, 3) := by decide +kernel
theorem dX8_spells_10 : decode cX8_spells 10 = .ok (.aload_n 0, 1) := by decide +kernel
theorem dX8_spells_11 : decode cX8_spells 11 = .ok (.aload_n 1, 1) := by decide +kernel
theorem dX8_spells_12 : decode cX8_spells 12 = .ok (.iload_n 2, 1) := by decide +kernel
theorem dX8_spells_13 : decode cX8_spells 13 = .ok (.invokevirtual 58, 3) := by decide +kernel
theorem dX8_spells_16 : decode cX8_spells 16 = .ok (.invokevirtual 62, 3) := by decide +kernel
theorem dX8_spells_19 : decode cX8_spells 19 = .ok (.iinc 2 1, 3) := by decide +kernel
theorem dX8_spells_22 : decode cX8_spells 22 = .ok (.goto (-20), 3) := by decide +kernel
theorem dX8_spells_25 : decode cX8_spells 25 = .ok (.return_, 1) := by decide +kernel
theorem dX8_figures_0 : decode cX8_figures 0 = .ok (.aload_n 0, 1) := by decide +kernel
theorem dX8_figures_1 : decode cX8_figures 1 = .ok (.aload_n 0, 1) := by decide +kernel
theorem dX8_figures_2 : decode cX8_figures 2 = .ok (.getfield 45, 3) := by decide +kernel
theorem dX8_figures_5 : decode cX8_figures 5 = .ok (.ifCond .ne 17, 3) := by decide +kernel
theorem dX8_figures_8 : decode cX8_figures 8 = .ok (.aload_n 0, 1) := by decide +kernel
theorem dX8_figures_9 : decode cX8_figures 9 = .ok (.invokevirtual 49, 3) := by decide +kernel
theorem dX8_figures_12 : decode cX8_figures 12 = .ok (.bipush 48, 2) := by decide +kernel
theorem dX8_figures_14 : decode cX8_figures 14 = .ok (.bipush 57, 2) := by decide +kernel
theorem dX8_figures_16 : decode cX8_figures 16 = .ok (.invokestatic 35, 3) := by decide +kernel
theorem dX8_figures_19 : decode cX8_figures 19 = .ok (.ifCond .ne 7, 3) := by decide +kernel
theorem dX8_figures_22 : decode cX8_figures 22 = .ok (.iconst 1, 1) := by decide +kernel
theorem dX8_figures_23 : decode cX8_figures 23 = .ok (.goto 4, 3) := by decide +kernel
theorem dX8_figures_26 : decode cX8_figures 26 = .ok (.iconst 0, 1) := by decide +kernel
theorem dX8_figures_27 : decode cX8_figures 27 = .ok (.putfield 45, 3) := by decide +kernel
theorem dX8_figures_30 : decode cX8_figures 30 = .ok (.iconst 0, 1) := by decide +kernel
theorem dX8_figures_31 : decode cX8_figures 31 = .ok (.istore_n 1, 1) := by decide +kernel
theorem dX8_figures_32 : decode cX8_figures 32 = .ok (.iconst 0, 1) := by decide +kernel
theorem dX8_figures_33 : decode cX8_figures 33 = .ok (.istore_n 2, 1) := by decide +kernel
theorem dX8_figures_34 : decode cX8_figures 34 = .ok (.iload_n 2, 1) := by decide +kernel
theorem dX8_figures_35 : decode cX8_figures 35 = .ok (.iconst 2, 1) := by decide +kernel
theorem dX8_figures_36 : decode cX8_figures 36 = .ok (.if_icmp .ge 61, 3) := by decide +kernel
theorem dX8_figures_39 : decode cX8_figures 39 = .ok (.aload_n 0, 1) := by decide +kernel
theorem dX8_figures_40 : decode cX8_figures 40 = .ok (.getfield 45, 3) := by decide +kernel
theorem dX8_figures_43 : decode cX8_figures 43 = .ok (.ifCond .ne 54, 3) := by decide +kernel
theorem dX8_figures_46 : decode cX8_figures 46 = .ok (.aload_n 0, 1) := by decide +kernel
theorem dX8_figures_47 : decode cX8_figures 47 = .ok (.invokevirtual 49, 3) := by decide +kernel
theorem dX8_figures_50 : decode cX8_figures 50 = .ok (.bipush 48, 2) := by decide +kernel
theorem dX8_figures_52 : decode cX8_figures 52 = .ok (.bipush 57, 2) := by decide +kernel
theorem dX8_figures_54 : decode cX8_figures 54 = .ok (.invokestatic 35, 3) := by decide +kernel
theorem dX8_figures_57 : decode cX8_figures 57 = .ok (.ifCond .eq 40, 3) := by decide +kernel
theorem dX8_figures_60 : decode cX8_figures 60 = .ok (.iload_n 2, 1) := by decide +kernel
theorem dX8_figures_61 : decode cX8_figures 61 = .ok (.ifCond .eq 7, 3) := by decide +kernel
theorem dX8_figures_64 : decode cX8_figures 64 = .ok (.iload_n 1, 1) := by decide +kernel
theorem dX8_figures_65 : decode cX8_figures 65 = .ok (.ifCond .le 32, 3) := by decide +kernel
theorem dX8_figures_68 : decode cX8_figures 68 = .ok (.bipush 10, 2) := by decide +kernel
theorem dX8_figures_70 : decode cX8_figures 70 = .ok (.iload_n 1, 1) := by decide +kernel
theorem dX8_figures_71 : decode cX8_figures 71 = .ok (.imul, 1) := by decide +kernel
theorem dX8_figures_72 : decode cX8_figures 72 = .ok (.aload_n 0, 1) := by decide +kernel
theorem dX8_figures_73 : decode cX8_figures 73 = .ok (.invokevirtual 49, 3) := by decide +kernel
theorem dX8_figures_76 : decode cX8_figures 76 = .ok (.iadd, 1) := by decide +kernel
theorem dX8_figures_77 : decode cX8_figures 77 = .ok (.bipush 48, 2) := by decide +kernel
theorem dX8_figures_79 : decode cX8_figures 79 = .ok (.isub, 1) := by decide +kernel
theorem dX8_figures_80 : decode cX8_figures 80 = .ok (.istore_n 1, 1) := by decide +kernel
theorem dX8_figures_81 : decode cX8_figures 81 = .ok (.aload_n 0, 1) := by decide +kernel
theorem dX8_figures_82 : decode cX8_figures 82 = .ok (.dup, 1) := by decide +kernel
theorem dX8_figures_83 : decode cX8_figures 83 = .ok (.getfield 39, 3) := by decide +kernel
theorem dX8_figures_86 : decode cX8_figures 86 = .ok (.iconst 1, 1) := by decide +kernel
theorem dX8_figures_87 : decode cX8_figures 87 = .ok (.iadd, 1) := by decide +kernel
theorem dX8_figures_88 : decode cX8_figures 88 = .ok (.putfield 39, 3) := by decide +kernel
theorem dX8_figures_91 : decode cX8_figures 91 = .ok (.iinc 2 1, 3) := by decide +kernel
theorem dX8_figures_94 : decode cX8_figures 94 = .ok (.goto (-60), 3) := by decide +kernel
theorem dX8_figures_97 : decode cX8_figures 97 = .ok (.iload_n 1, 1) := by decide +kernel
theorem dX8_figures_98 : decode cX8_figures 98 = .ok (.ireturn, 1) := by decide +kernel
theorem dX8_among_0 : decode cX8_among 0 = .ok (.iconst 0, 1) := by decide +kernel
theorem dX8_among_1 : decode cX8_among 1 = .ok (.istore_n 2, 1) := by decide +kernel
theorem dX8_among_2 : decode cX8_among 2 = .ok (.iload_n 2, 1) := by decide +kernel
theorem dX8_among_3 : decode cX8_among 3 = .ok (.aload_n 1, 1) := by decide +kernel
theorem dX8_among_4 : decode cX8_among 4 = .ok (.invokevirtual 53, 3) := by decide +kernel
theorem dX8_among_7 : decode cX8_among 7 = .ok (.if_icmp .ge 33, 3) := by decide +kernel
theorem dX8_among_10 : decode cX8_among 10 = .ok (.aload_n 0, 1) := by decide +kernel
theorem dX8_among_11 : decode cX8_among 11 = .ok (.invokevirtual 49, 3) := by decide +kernel
theorem dX8_among_14 : decode cX8_among 14 = .ok (.aload_n 1, 1) := by decide +kernel
theorem dX8_among_15 : decode cX8_among 15 = .ok (.iload_n 2, 1) := by decide +kernel
theorem dX8_among_16 : decode cX8_among 16 = .ok (.invokevirtual 58, 3) := by decide +kernel
theorem dX8_among_19 : decode cX8_among 19 = .ok (.if_icmp .ne 15, 3) := by decide +kernel
theorem dX8_among_22 : decode cX8_among 22 = .ok (.aload_n 0, 1) := by decide +kernel
theorem dX8_among_23 : decode cX8_among 23 = .ok (.dup, 1) := by decide +kernel
theorem dX8_among_24 : decode cX8_among 24 = .ok (.getfield 39, 3) := by decide +kernel
theorem dX8_among_27 : decode cX8_among 27 = .ok (.iconst 1, 1) := by decide +kernel
theorem dX8_among_28 : decode cX8_among 28 = .ok (.iadd, 1) := by decide +kernel
theorem dX8_among_29 : decode cX8_among 29 = .ok (.putfield 39, 3) := by decide +kernel
theorem dX8_among_32 : decode cX8_among 32 = .ok (.iload_n 2, 1) := by decide +kernel
theorem dX8_among_33 : decode cX8_among 33 = .ok (.ireturn, 1) := by decide +kernel
theorem dX8_among_34 : decode cX8_among 34 = .ok (.iinc 2 1, 3) := by decide +kernel
theorem dX8_among_37 : decode cX8_among 37 = .ok (.goto (-35), 3) := by decide +kernel
theorem dX8_among_40 : decode cX8_among 40 = .ok (.iconst (-1), 1) := by decide +kernel
theorem dX8_among_41 : decode cX8_among 41 = .ok (.ireturn, 1) := by decide +kernel
theorem dX8_emits_0 : decode cX8_emits 0 = .ok (.aload_n 0, 1) := by decide +kernel
theorem dX8_emits_1 : decode cX8_emits 1 = .ok (.getfield 45, 3) := by decide +kernel
theorem dX8_emits_4 : decode cX8_emits 4 = .ok (.ifCond .ne 52, 3) := by decide +kernel
theorem dX8_emits_7 : decode cX8_emits 7 = .ok (.aload_n 0, 1) := by decide +kernel
theorem dX8_emits_8 : decode cX8_emits 8 = .ok (.getfield 9, 3) := by decide +kernel
theorem dX8_emits_11 : decode cX8_emits 11 = .ok (.sipush 233, 3) := by decide +kernel
theorem dX8_emits_14 : decode cX8_emits 14 = .ok (.sipush 140, 3) := by decide +kernel
theorem dX8_emits_17 : decode cX8_emits 17 = .ok (.aload_n 0, 1) := by decide +kernel
theorem dX8_emits_18 : decode cX8_emits 18 = .ok (.getfield 66, 3) := by decide +kernel
theorem dX8_emits_21 : decode cX8_emits 21 = .ok (.imul, 1) := by decide +kernel
theorem dX8_emits_22 : decode cX8_emits 22 = .ok (.iadd, 1) := by decide +kernel
theorem dX8_emits_23 : decode cX8_emits 23 = .ok (.aload_n 0, 1) := by decide +kernel
theorem dX8_emits_24 : decode cX8_emits 24 = .ok (.getfield 9, 3) := by decide +kernel
theorem dX8_emits_27 : decode cX8_emits 27 = .ok (.sipush 228, 3) := by decide +kernel
theorem dX8_emits_30 : decode cX8_emits 30 = .ok (.aload_n 0, 1) := by decide +kernel
theorem dX8_emits_31 : decode cX8_emits 31 = .ok (.getfield 66, 3) := by decide +kernel
theorem dX8_emits_34 : decode cX8_emits 34 = .ok (.iadd, 1) := by decide +kernel
theorem dX8_emits_35 : decode cX8_emits 35 = .ok (.iaload, 1) := by decide +kernel
theorem dX8_emits_36 : decode cX8_emits 36 = .ok (.iadd, 1) := by decide +kernel
theorem dX8_emits_37 : decode cX8_emits 37 = .ok (.iload_n 1, 1) := by decide +kernel
theorem dX8_emits_38 : decode cX8_emits 38 = .ok (.iastore, 1) := by decide +kernel
theorem dX8_emits_39 : decode cX8_emits 39 = .ok (.aload_n 0, 1) := by decide +kernel
theorem dX8_emits_40 : decode cX8_emits 40 = .ok (.getfield 9, 3) := by decide +kernel
theorem dX8_emits_43 : decode cX8_emits 43 = .ok (.sipush 228, 3) := by decide +kernel
theorem dX8_emits_46 : decode cX8_emits 46 = .ok (.aload_n 0, 1) := by decide +kernel
theorem dX8_emits_47 : decode cX8_emits 47 = .ok (.getfield 66, 3) := by decide +kernel
theorem dX8_emits_50 : decode cX8_emits 50 = .ok (.iadd, 1) := by decide +kernel
theorem dX8_emits_51 : decode cX8_emits 51 = .ok (.dup2, 1) := by decide +kernel
theorem dX8_emits_52 : decode cX8_emits 52 = .ok (.iaload, 1) := by decide +kernel
theorem dX8_emits_53 : decode cX8_emits 53 = .ok (.iconst 1, 1) := by decide +kernel
theorem dX8_emits_54 : decode cX8_emits 54 = .ok (.iadd, 1) := by decide +kernel
theorem dX8_emits_55 : decode cX8_emits 55 = .ok (.iastore, 1) := by decide +kernel
theorem dX8_emits_56 : decode cX8_emits 56 = .ok (.return_, 1) := by decide +kernel
theorem dX8_factor_0 : decode cX8_factor 0 = .ok (.aload_n 0, 1) := by decide +kernel
theorem dX8_factor_1 : decode cX8_factor 1 = .ok (.getfield 45, 3) := by decide +kernel
theorem dX8_factor_4 : decode cX8_factor 4 = .ok (.ifCond .eq 4, 3) := by decide +kernel
theorem dX8_factor_7 : decode cX8_factor 7 = .ok (.return_, 1) := by decide +kernel
theorem dX8_factor_8 : decode cX8_factor 8 = .ok (.aload_n 0, 1) := by decide +kernel
theorem dX8_factor_9 : decode cX8_factor 9 = .ok (.invokevirtual 49, 3) := by decide +kernel
theorem dX8_factor_12 : decode cX8_factor 12 = .ok (.istore_n 1, 1) := by decide +kernel
theorem dX8_factor_13 : decode cX8_factor 13 = .ok (.iload_n 1, 1) := by decide +kernel
theorem dX8_factor_14 : decode cX8_factor 14 = .ok (.bipush 33, 2) := by decide +kernel
theorem dX8_factor_16 : decode cX8_factor 16 = .ok (.if_icmp .eq 9, 3) := by decide +kernel
theorem dX8_factor_19 : decode cX8_factor 19 = .ok (.iload_n 1, 1) := by decide +kernel
theorem dX8_factor_20 : decode cX8_factor 20 = .ok (.bipush 40, 2) := by decide +kernel
theorem dX8_factor_22 : decode cX8_factor 22 = .ok (.if_icmp .ne 90, 3) := by decide +kernel
theorem dX8_factor_25 : decode cX8_factor 25 = .ok (.aload_n 0, 1) := by decide +kernel
theorem dX8_factor_26 : decode cX8_factor 26 = .ok (.aload_n 0, 1) := by decide +kernel
theorem dX8_factor_27 : decode cX8_factor 27 = .ok (.getfield 69, 3) := by decide +kernel
theorem dX8_factor_30 : decode cX8_factor 30 = .ok (.iconst 5, 1) := by decide +kernel
theorem dX8_factor_31 : decode cX8_factor 31 = .ok (.if_icmp .ne 7, 3) := by decide +kernel
theorem dX8_factor_34 : decode cX8_factor 34 = .ok (.iconst 1, 1) := by decide +kernel
theorem dX8_factor_35 : decode cX8_factor 35 = .ok (.goto 4, 3) := by decide +kernel
theorem dX8_factor_38 : decode cX8_factor 38 = .ok (.iconst 0, 1) := by decide +kernel
theorem dX8_factor_39 : decode cX8_factor 39 = .ok (.putfield 45, 3) := by decide +kernel
theorem dX8_factor_42 : decode cX8_factor 42 = .ok (.aload_n 0, 1) := by decide +kernel
theorem dX8_factor_43 : decode cX8_factor 43 = .ok (.dup, 1) := by decide +kernel
theorem dX8_factor_44 : decode cX8_factor 44 = .ok (.getfield 69, 3) := by decide +kernel
theorem dX8_factor_47 : decode cX8_factor 47 = .ok (.iconst 1, 1) := by decide +kernel
theorem dX8_factor_48 : decode cX8_factor 48 = .ok (.iadd, 1) := by decide +kernel
theorem dX8_factor_49 : decode cX8_factor 49 = .ok (.putfield 69, 3) := by decide +kernel
theorem dX8_factor_52 : decode cX8_factor 52 = .ok (.aload_n 0, 1) := by decide +kernel
theorem dX8_factor_53 : decode cX8_factor 53 = .ok (.dup, 1) := by decide +kernel
theorem dX8_factor_54 : decode cX8_factor 54 = .ok (.getfield 39, 3) := by decide +kernel
theorem dX8_factor_57 : decode cX8_factor 57 = .ok (.aload_n 0, 1) := by decide +kernel
theorem dX8_factor_58 : decode cX8_factor 58 = .ok (.getfield 45, 3) := by decide +kernel
theorem dX8_factor_61 : decode cX8_factor 61 = .ok (.ifCond .eq 7, 3) := by decide +kernel
theorem dX8_factor_64 : decode cX8_factor 64 = .ok (.iconst 0, 1) := by decide +kernel
theorem dX8_factor_65 : decode cX8_factor 65 = .ok (.goto 4, 3) := by decide +kernel
theorem dX8_factor_68 : decode cX8_factor 68 = .ok (.iconst 1, 1) := by decide +kernel
theorem dX8_factor_69 : decode cX8_factor 69 = .ok (.iadd, 1) := by decide +kernel
theorem dX8_factor_70 : decode cX8_factor 70 = .ok (.putfield 39, 3) := by decide +kernel
theorem dX8_factor_73 : decode cX8_factor 73 = .ok (.iload_n 1, 1) := by decide +kernel
theorem dX8_factor_74 : decode cX8_factor 74 = .ok (.bipush 33, 2) := by decide +kernel
theorem dX8_factor_76 : decode cX8_factor 76 = .ok (.if_icmp .ne 15, 3) := by decide +kernel
theorem dX8_factor_79 : decode cX8_factor 79 = .ok (.aload_n 0, 1) := by decide +kernel
theorem dX8_factor_80 : decode cX8_factor 80 = .ok (.invokevirtual 72, 3) := by decide +kernel
theorem dX8_factor_83 : decode cX8_factor 83 = .ok (.aload_n 0, 1) := by decide +kernel
theorem dX8_factor_84 : decode cX8_factor 84 = .ok (.iconst (-1), 1) := by decide +kernel
theorem dX8_factor_85 : decode cX8_factor 85 = .ok (.invokevirtual 75, 3) := by decide +kernel
theorem dX8_factor_88 : decode cX8_factor 88 = .ok (.goto 13, 3) := by decide +kernel
theorem dX8_factor_91 : decode cX8_factor 91 = .ok (.aload_n 0, 1) := by decide +kernel
theorem dX8_factor_92 : decode cX8_factor 92 = .ok (.invokevirtual 78, 3) := by decide +kernel
theorem dX8_factor_95 : decode cX8_factor 95 = .ok (.aload_n 0, 1) := by decide +kernel
theorem dX8_factor_96 : decode cX8_factor 96 = .ok (.bipush 41, 2) := by decide +kernel
theorem dX8_factor_98 : decode cX8_factor 98 = .ok (.invokevirtual 62, 3) := by decide +kernel
theorem dX8_factor_101 : decode cX8_factor 101 = .ok (.aload_n 0, 1) := by decide +kernel
theorem dX8_factor_102 : decode cX8_factor 102 = .ok (.dup, 1) := by decide +kernel
theorem dX8_factor_103 : decode cX8_factor 103 = .ok (.getfield 69, 3) := by decide +kernel
theorem dX8_factor_106 : decode cX8_factor 106 = .ok (.iconst 1, 1) := by decide +kernel
theorem dX8_factor_107 : decode cX8_factor 107 = .ok (.isub, 1) := by decide +kernel
theorem dX8_factor_108 : decode cX8_factor 108 = .ok (.putfield 69, 3) := by decide +kernel
theorem dX8_factor_111 : decode cX8_factor 111 = .ok (.return_, 1) := by decide +kernel
theorem dX8_factor_112 : decode cX8_factor 112 = .ok (.aload_n 0, 1) := by decide +kernel
theorem dX8_factor_113 : decode cX8_factor 113 = .ok (.ldc 81, 2) := by decide +kernel
theorem dX8_factor_115 : decode cX8_factor 115 = .ok (.invokevirtual 83, 3) := by decide +kernel
theorem dX8_factor_118 : decode cX8_factor 118 = .ok (.istore_n 2, 1) := by decide +kernel
theorem dX8_factor_119 : decode cX8_factor 119 = .ok (.aload_n 0, 1) := by decide +kernel
theorem dX8_factor_120 : decode cX8_factor 120 = .ok (.iload_n 2, 1) := by decide +kernel
theorem dX8_factor_121 : decode cX8_factor 121 = .ok (.iconst (-1), 1) := by decide +kernel
theorem dX8_factor_122 : decode cX8_factor 122 = .ok (.if_icmp .ne 7, 3) := by decide +kernel
theorem dX8_factor_125 : decode cX8_factor 125 = .ok (.iconst 1, 1) := by decide +kernel
theorem dX8_factor_126 : decode cX8_factor 126 = .ok (.goto 4, 3) := by decide +kernel
theorem dX8_factor_129 : decode cX8_factor 129 = .ok (.iconst 0, 1) := by decide +kernel
theorem dX8_factor_130 : decode cX8_factor 130 = .ok (.putfield 45, 3) := by decide +kernel
theorem dX8_factor_133 : decode cX8_factor 133 = .ok (.aload_n 0, 1) := by decide +kernel
theorem dX8_factor_134 : decode cX8_factor 134 = .ok (.getfield 45, 3) := by decide +kernel
theorem dX8_factor_137 : decode cX8_factor 137 = .ok (.ifCond .eq 7, 3) := by decide +kernel
theorem dX8_factor_140 : decode cX8_factor 140 = .ok (.iconst 0, 1) := by decide +kernel
theorem dX8_factor_141 : decode cX8_factor 141 = .ok (.goto 9, 3) := by decide +kernel
theorem dX8_factor_144 : decode cX8_factor 144 = .ok (.aload_n 0, 1) := by decide +kernel
theorem dX8_factor_145 : decode cX8_factor 145 = .ok (.ldc 87, 2) := by decide +kernel
theorem dX8_factor_147 : decode cX8_factor 147 = .ok (.invokevirtual 83, 3) := by decide +kernel
theorem dX8_factor_150 : decode cX8_factor 150 = .ok (.istore_n 3, 1) := by decide +kernel
theorem dX8_factor_151 : decode cX8_factor 151 = .ok (.aload_n 0, 1) := by decide +kernel
theorem dX8_factor_152 : decode cX8_factor 152 = .ok (.aload_n 0, 1) := by decide +kernel
theorem dX8_factor_153 : decode cX8_factor 153 = .ok (.getfield 45, 3) := by decide +kernel
theorem dX8_factor_156 : decode cX8_factor 156 = .ok (.ifCond .ne 8, 3) := by decide +kernel
theorem dX8_factor_159 : decode cX8_factor 159 = .ok (.iload_n 3, 1) := by decide +kernel
theorem dX8_factor_160 : decode cX8_factor 160 = .ok (.iconst (-1), 1) := by decide +kernel
theorem dX8_factor_161 : decode cX8_factor 161 = .ok (.if_icmp .ne 7, 3) := by decide +kernel
theorem dX8_factor_164 : decode cX8_factor 164 = .ok (.iconst 1, 1) := by decide +kernel
theorem dX8_factor_165 : decode cX8_factor 165 = .ok (.goto 4, 3) := by decide +kernel
theorem dX8_factor_168 : decode cX8_factor 168 = .ok (.iconst 0, 1) := by decide +kernel
theorem dX8_factor_169 : decode cX8_factor 169 = .ok (.putfield 45, 3) := by decide +kernel
theorem dX8_factor_172 : decode cX8_factor 172 = .ok (.aload_n 0, 1) := by decide +kernel
theorem dX8_factor_173 : decode cX8_factor 173 = .ok (.invokevirtual 89, 3) := by decide +kernel
theorem dX8_factor_176 : decode cX8_factor 176 = .ok (.istore 4, 2) := by decide +kernel
theorem dX8_factor_178 : decode cX8_factor 178 = .ok (.aload_n 0, 1) := by decide +kernel
theorem dX8_factor_179 : decode cX8_factor 179 = .ok (.iload_n 2, 1) := by decide +kernel
theorem dX8_factor_180 : decode cX8_factor 180 = .ok (.bipush 8, 2) := by decide +kernel
theorem dX8_factor_182 : decode cX8_factor 182 = .ok (.iload_n 3, 1) := by decide +kernel
theorem dX8_factor_183 : decode cX8_factor 183 = .ok (.imul, 1) := by decide +kernel
theorem dX8_factor_184 : decode cX8_factor 184 = .ok (.iadd, 1) := by decide +kernel
theorem dX8_factor_185 : decode cX8_factor 185 = .ok (.bipush 32, 2) := by decide +kernel
theorem dX8_factor_187 : decode cX8_factor 187 = .ok (.iload 4, 2) := by decide +kernel
theorem dX8_factor_189 : decode cX8_factor 189 = .ok (.imul, 1) := by decide +kernel
theorem dX8_factor_190 : decode cX8_factor 190 = .ok (.iadd, 1) := by decide +kernel
theorem dX8_factor_191 : decode cX8_factor 191 = .ok (.invokevirtual 75, 3) := by decide +kernel
theorem dX8_factor_194 : decode cX8_factor 194 = .ok (.return_, 1) := by decide +kernel
theorem dX8_every_0 : decode cX8_every 0 = .ok (.aload_n 0, 1) := by decide +kernel
theorem dX8_every_1 : decode cX8_every 1 = .ok (.invokevirtual 72, 3) := by decide +kernel
theorem dX8_every_4 : decode cX8_every 4 = .ok (.aload_n 0, 1) := by decide +kernel
theorem dX8_every_5 : decode cX8_every 5 = .ok (.getfield 45, 3) := by decide +kernel
theorem dX8_every_8 : decode cX8_every 8 = .ok (.ifCond .ne 35, 3) := by decide +kernel
theorem dX8_every_11 : decode cX8_every 11 = .ok (.aload_n 0, 1) := by decide +kernel
theorem dX8_every_12 : decode cX8_every 12 = .ok (.invokevirtual 49, 3) := by decide +kernel
theorem dX8_every_15 : decode cX8_every 15 = .ok (.bipush 38, 2) := by decide +kernel
theorem dX8_every_17 : decode cX8_every 17 = .ok (.if_icmp .ne 26, 3) := by decide +kernel
theorem dX8_every_20 : decode cX8_every 20 = .ok (.aload_n 0, 1) := by decide +kernel
theorem dX8_every_21 : decode cX8_every 21 = .ok (.dup, 1) := by decide +kernel
theorem dX8_every_22 : decode cX8_every 22 = .ok (.getfield 39, 3) := by decide +kernel
theorem dX8_every_25 : decode cX8_every 25 = .ok (.iconst 1, 1) := by decide +kernel
theorem dX8_every_26 : decode cX8_every 26 = .ok (.iadd, 1) := by decide +kernel
theorem dX8_every_27 : decode cX8_every 27 = .ok (.putfield 39, 3) := by decide +kernel
theorem dX8_every_30 : decode cX8_every 30 = .ok (.aload_n 0, 1) := by decide +kernel
theorem dX8_every_31 : decode cX8_every 31 = .ok (.invokevirtual 72, 3) := by decide +kernel
theorem dX8_every_34 : decode cX8_every 34 = .ok (.aload_n 0, 1) := by decide +kernel
theorem dX8_every_35 : decode cX8_every 35 = .ok (.bipush (-2), 2) := by decide +kernel
theorem dX8_every_37 : decode cX8_every 37 = .ok (.invokevirtual 75, 3) := by decide +kernel
theorem dX8_every_40 : decode cX8_every 40 = .ok (.goto (-36), 3) := by decide +kernel
theorem dX8_every_43 : decode cX8_every 43 = .ok (.return_, 1) := by decide +kernel
theorem dX8_some_0 : decode cX8_some 0 = .ok (.aload_n 0, 1) := by decide +kernel
theorem dX8_some_1 : decode cX8_some 1 = .ok (.invokevirtual 92, 3) := by decide +kernel
theorem dX8_some_4 : decode cX8_some 4 = .ok (.aload_n 0, 1) := by decide +kernel
theorem dX8_some_5 : decode cX8_some 5 = .ok (.getfield 45, 3) := by decide +kernel
theorem dX8_some_8 : decode cX8_some 8 = .ok (.ifCond .ne 35, 3) := by decide +kernel
theorem dX8_some_11 : decode cX8_some 11 = .ok (.aload_n 0, 1) := by decide +kernel
theorem dX8_some_12 : decode cX8_some 12 = .ok (.invokevirtual 49, 3) := by decide +kernel
theorem dX8_some_15 : decode cX8_some 15 = .ok (.bipush 124, 2) := by decide +kernel
theorem dX8_some_17 : decode cX8_some 17 = .ok (.if_icmp .ne 26, 3) := by decide +kernel
theorem dX8_some_20 : decode cX8_some 20 = .ok (.aload_n 0, 1) := by decide +kernel
theorem dX8_some_21 : decode cX8_some 21 = .ok (.dup, 1) := by decide +kernel
theorem dX8_some_22 : decode cX8_some 22 = .ok (.getfield 39, 3) := by decide +kernel
theorem dX8_some_25 : decode cX8_some 25 = .ok (.iconst 1, 1) := by decide +kernel
theorem dX8_some_26 : decode cX8_some 26 = .ok (.iadd, 1) := by decide +kernel
theorem dX8_some_27 : decode cX8_some 27 = .ok (.putfield 39, 3) := by decide +kernel
theorem dX8_some_30 : decode cX8_some 30 = .ok (.aload_n 0, 1) := by decide +kernel
theorem dX8_some_31 : decode cX8_some 31 = .ok (.invokevirtual 92, 3) := by decide +kernel
theorem dX8_some_34 : decode cX8_some 34 = .ok (.aload_n 0, 1) := by decide +kernel
theorem dX8_some_35 : decode cX8_some 35 = .ok (.bipush (-3), 2) := by decide +kernel
theorem dX8_some_37 : decode cX8_some 37 = .ok (.invokevirtual 75, 3) := by decide +kernel
theorem dX8_some_40 : decode cX8_some 40 = .ok (.goto (-36), 3) := by decide +kernel
theorem dX8_some_43 : decode cX8_some 43 = .ok (.return_, 1) := by decide +kernel
theorem dX8_much_0 : decode cX8_much 0 = .ok (.aload_n 0, 1) := by decide +kernel
theorem dX8_much_1 : decode cX8_much 1 = .ok (.aload_n 2, 1) := by decide +kernel
theorem dX8_much_2 : decode cX8_much 2 = .ok (.invokevirtual 95, 3) := by decide +kernel
theorem dX8_much_5 : decode cX8_much 5 = .ok (.aload_n 0, 1) := by decide +kernel
theorem dX8_much_6 : decode cX8_much 6 = .ok (.invokevirtual 89, 3) := by decide +kernel
theorem dX8_much_9 : decode cX8_much 9 = .ok (.istore_n 3, 1) := by decide +kernel
theorem dX8_much_10 : decode cX8_much 10 = .ok (.aload_n 0, 1) := by decide +kernel
theorem dX8_much_11 : decode cX8_much 11 = .ok (.bipush 32, 2) := by decide +kernel
theorem dX8_much_13 : decode cX8_much 13 = .ok (.invokevirtual 62, 3) := by decide +kernel
theorem dX8_much_16 : decode cX8_much 16 = .ok (.aload_n 0, 1) := by decide +kernel
theorem dX8_much_17 : decode cX8_much 17 = .ok (.invokevirtual 78, 3) := by decide +kernel
theorem dX8_much_20 : decode cX8_much 20 = .ok (.aload_n 0, 1) := by decide +kernel
theorem dX8_much_21 : decode cX8_much 21 = .ok (.iload_n 1, 1) := by decide +kernel
theorem dX8_much_22 : decode cX8_much 22 = .ok (.iload_n 3, 1) := by decide +kernel
theorem dX8_much_23 : decode cX8_much 23 = .ok (.isub, 1) := by decide +kernel
theorem dX8_much_24 : decode cX8_much 24 = .ok (.invokevirtual 75, 3) := by decide +kernel
theorem dX8_much_27 : decode cX8_much 27 = .ok (.return_, 1) := by decide +kernel
theorem dX8_tellsHere_0 : decode cX8_tellsHere 0 = .ok (.aload_n 0, 1) := by decide +kernel
theorem dX8_tellsHere_1 : decode cX8_tellsHere 1 = .ok (.aload_n 2, 1) := by decide +kernel
theorem dX8_tellsHere_2 : decode cX8_tellsHere 2 = .ok (.invokevirtual 95, 3) := by decide +kernel
theorem dX8_tellsHere_5 : decode cX8_tellsHere 5 = .ok (.aload_n 0, 1) := by decide +kernel
theorem dX8_tellsHere_6 : decode cX8_tellsHere 6 = .ok (.invokevirtual 89, 3) := by decide +kernel
theorem dX8_tellsHere_9 : decode cX8_tellsHere 9 = .ok (.istore_n 3, 1) := by decide +kernel
theorem dX8_tellsHere_10 : decode cX8_tellsHere 10 = .ok (.aload_n 0, 1) := by decide +kernel
theorem dX8_tellsHere_11 : decode cX8_tellsHere 11 = .ok (.getfield 45, 3) := by decide +kernel
theorem dX8_tellsHere_14 : decode cX8_tellsHere 14 = .ok (.ifCond .ne 15, 3) := by decide +kernel
theorem dX8_tellsHere_17 : decode cX8_tellsHere 17 = .ok (.aload_n 0, 1) := by decide +kernel
theorem dX8_tellsHere_18 : decode cX8_tellsHere 18 = .ok (.getfield 9, 3) := by decide +kernel
theorem dX8_tellsHere_21 : decode cX8_tellsHere 21 = .ok (.iload_n 1, 1) := by decide +kernel
theorem dX8_tellsHere_22 : decode cX8_tellsHere 22 = .ok (.aload_n 0, 1) := by decide +kernel
theorem dX8_tellsHere_23 : decode cX8_tellsHere 23 = .ok (.getfield 66, 3) := by decide +kernel
theorem dX8_tellsHere_26 : decode cX8_tellsHere 26 = .ok (.iadd, 1) := by decide +kernel
theorem dX8_tellsHere_27 : decode cX8_tellsHere 27 = .ok (.iload_n 3, 1) := by decide +kernel
theorem dX8_tellsHere_28 : decode cX8_tellsHere 28 = .ok (.iastore, 1) := by decide +kernel
theorem dX8_tellsHere_29 : decode cX8_tellsHere 29 = .ok (.return_, 1) := by decide +kernel
theorem dX8_second_0 : decode cX8_second 0 = .ok (.aload_n 0, 1) := by decide +kernel
theorem dX8_second_1 : decode cX8_second 1 = .ok (.getfield 39, 3) := by decide +kernel
theorem dX8_second_4 : decode cX8_second 4 = .ok (.iconst 1, 1) := by decide +kernel
theorem dX8_second_5 : decode cX8_second 5 = .ok (.iadd, 1) := by decide +kernel
theorem dX8_second_6 : decode cX8_second 6 = .ok (.aload_n 0, 1) := by decide +kernel
theorem dX8_second_7 : decode cX8_second 7 = .ok (.getfield 42, 3) := by decide +kernel
theorem dX8_second_10 : decode cX8_second 10 = .ok (.if_icmp .ge 20, 3) := by decide +kernel
theorem dX8_second_13 : decode cX8_second 13 = .ok (.aload_n 0, 1) := by decide +kernel
theorem dX8_second_14 : decode cX8_second 14 = .ok (.getfield 9, 3) := by decide +kernel
theorem dX8_second_17 : decode cX8_second 17 = .ok (.bipush 123, 2) := by decide +kernel
theorem dX8_second_19 : decode cX8_second 19 = .ok (.aload_n 0, 1) := by decide +kernel
theorem dX8_second_20 : decode cX8_second 20 = .ok (.getfield 39, 3) := by decide +kernel
theorem dX8_second_23 : decode cX8_second 23 = .ok (.iadd, 1) := by decide +kernel
theorem dX8_second_24 : decode cX8_second 24 = .ok (.iconst 1, 1) := by decide +kernel
theorem dX8_second_25 : decode cX8_second 25 = .ok (.iadd, 1) := by decide +kernel
theorem dX8_second_26 : decode cX8_second 26 = .ok (.iaload, 1) := by decide +kernel
theorem dX8_second_27 : decode cX8_second 27 = .ok (.goto 4, 3) := by decide +kernel
theorem dX8_second_30 : decode cX8_second 30 = .ok (.iconst (-1), 1) := by decide +kernel
theorem dX8_second_31 : decode cX8_second 31 = .ok (.ireturn, 1) := by decide +kernel
theorem dX8_clauseHere_0 : decode cX8_clauseHere 0 = .ok (.aload_n 0, 1) := by decide +kernel
theorem dX8_clauseHere_1 : decode cX8_clauseHere 1 = .ok (.invokevirtual 49, 3) := by decide +kernel
theorem dX8_clauseHere_4 : decode cX8_clauseHere 4 = .ok (.bipush 119, 2) := by decide +kernel
theorem dX8_clauseHere_6 : decode cX8_clauseHere 6 = .ok (.if_icmp .ne 15, 3) := by decide +kernel
theorem dX8_clauseHere_9 : decode cX8_clauseHere 9 = .ok (.aload_n 0, 1) := by decide +kernel
theorem dX8_clauseHere_10 : decode cX8_clauseHere 10 = .ok (.sipush 223, 3) := by decide +kernel
theorem dX8_clauseHere_13 : decode cX8_clauseHere 13 = .ok (.ldc 99, 2) := by decide +kernel
theorem dX8_clauseHere_15 : decode cX8_clauseHere 15 = .ok (.invokevirtual 101, 3) := by decide +kernel
theorem dX8_clauseHere_18 : decode cX8_clauseHere 18 = .ok (.goto 58, 3) := by decide +kernel
theorem dX8_clauseHere_21 : decode cX8_clauseHere 21 = .ok (.aload_n 0, 1) := by decide +kernel
theorem dX8_clauseHere_22 : decode cX8_clauseHere 22 = .ok (.invokevirtual 49, 3) := by decide +kernel
theorem dX8_clauseHere_25 : decode cX8_clauseHere 25 = .ok (.bipush 104, 2) := by decide +kernel
theorem dX8_clauseHere_27 : decode cX8_clauseHere 27 = .ok (.if_icmp .ne 23, 3) := by decide +kernel
theorem dX8_clauseHere_30 : decode cX8_clauseHere 30 = .ok (.aload_n 0, 1) := by decide +kernel
theorem dX8_clauseHere_31 : decode cX8_clauseHere 31 = .ok (.invokevirtual 105, 3) := by decide +kernel
theorem dX8_clauseHere_34 : decode cX8_clauseHere 34 = .ok (.bipush 101, 2) := by decide +kernel
theorem dX8_clauseHere_36 : decode cX8_clauseHere 36 = .ok (.if_icmp .ne 14, 3) := by decide +kernel
theorem dX8_clauseHere_39 : decode cX8_clauseHere 39 = .ok (.aload_n 0, 1) := by decide +kernel
theorem dX8_clauseHere_40 : decode cX8_clauseHere 40 = .ok (.bipush (-10), 2) := by decide +kernel
theorem dX8_clauseHere_42 : decode cX8_clauseHere 42 = .ok (.ldc 108, 2) := by decide +kernel
theorem dX8_clauseHere_44 : decode cX8_clauseHere 44 = .ok (.invokevirtual 110, 3) := by decide +kernel
theorem dX8_clauseHere_47 : decode cX8_clauseHere 47 = .ok (.goto 29, 3) := by decide +kernel
theorem dX8_clauseHere_50 : decode cX8_clauseHere 50 = .ok (.aload_n 0, 1) := by decide +kernel
theorem dX8_clauseHere_51 : decode cX8_clauseHere 51 = .ok (.invokevirtual 49, 3) := by decide +kernel
theorem dX8_clauseHere_54 : decode cX8_clauseHere 54 = .ok (.bipush 104, 2) := by decide +kernel
theorem dX8_clauseHere_56 : decode cX8_clauseHere 56 = .ok (.if_icmp .ne 15, 3) := by decide +kernel
theorem dX8_clauseHere_59 : decode cX8_clauseHere 59 = .ok (.aload_n 0, 1) := by decide +kernel
theorem dX8_clauseHere_60 : decode cX8_clauseHere 60 = .ok (.sipush (-200), 3) := by decide +kernel
theorem dX8_clauseHere_63 : decode cX8_clauseHere 63 = .ok (.ldc 113, 2) := by decide +kernel
theorem dX8_clauseHere_65 : decode cX8_clauseHere 65 = .ok (.invokevirtual 110, 3) := by decide +kernel
theorem dX8_clauseHere_68 : decode cX8_clauseHere 68 = .ok (.goto 8, 3) := by decide +kernel
theorem dX8_clauseHere_71 : decode cX8_clauseHere 71 = .ok (.aload_n 0, 1) := by decide +kernel
theorem dX8_clauseHere_72 : decode cX8_clauseHere 72 = .ok (.iconst 1, 1) := by decide +kernel
theorem dX8_clauseHere_73 : decode cX8_clauseHere 73 = .ok (.putfield 45, 3) := by decide +kernel
theorem dX8_clauseHere_76 : decode cX8_clauseHere 76 = .ok (.return_, 1) := by decide +kernel
theorem dX8_house_0 : decode cX8_house 0 = .ok (.aload_n 0, 1) := by decide +kernel
theorem dX8_house_1 : decode cX8_house 1 = .ok (.getfield 9, 3) := by decide +kernel
theorem dX8_house_4 : decode cX8_house 4 = .ok (.bipush 34, 2) := by decide +kernel
theorem dX8_house_6 : decode cX8_house 6 = .ok (.iaload, 1) := by decide +kernel
theorem dX8_house_7 : decode cX8_house 7 = .ok (.iconst 5, 1) := by decide +kernel
theorem dX8_house_8 : decode cX8_house 8 = .ok (.if_icmp .ne 6, 3) := by decide +kernel
theorem dX8_house_11 : decode cX8_house 11 = .ok (.bipush (-4), 2) := by decide +kernel
theorem dX8_house_13 : decode cX8_house 13 = .ok (.ireturn, 1) := by decide +kernel
theorem dX8_house_14 : decode cX8_house 14 = .ok (.aload_n 0, 1) := by decide +kernel
theorem dX8_house_15 : decode cX8_house 15 = .ok (.aload_n 0, 1) := by decide +kernel
theorem dX8_house_16 : decode cX8_house 16 = .ok (.getfield 9, 3) := by decide +kernel
theorem dX8_house_19 : decode cX8_house 19 = .ok (.bipush 34, 2) := by decide +kernel
theorem dX8_house_21 : decode cX8_house 21 = .ok (.iaload, 1) := by decide +kernel
theorem dX8_house_22 : decode cX8_house 22 = .ok (.putfield 66, 3) := by decide +kernel
theorem dX8_house_25 : decode cX8_house 25 = .ok (.aload_n 0, 1) := by decide +kernel
theorem dX8_house_26 : decode cX8_house 26 = .ok (.aload_n 0, 1) := by decide +kernel
theorem dX8_house_27 : decode cX8_house 27 = .ok (.getfield 9, 3) := by decide +kernel
theorem dX8_house_30 : decode cX8_house 30 = .ok (.bipush 38, 2) := by decide +kernel
theorem dX8_house_32 : decode cX8_house 32 = .ok (.iaload, 1) := by decide +kernel
theorem dX8_house_33 : decode cX8_house 33 = .ok (.putfield 42, 3) := by decide +kernel
theorem dX8_house_36 : decode cX8_house 36 = .ok (.aload_n 0, 1) := by decide +kernel
theorem dX8_house_37 : decode cX8_house 37 = .ok (.getfield 9, 3) := by decide +kernel
theorem dX8_house_40 : decode cX8_house 40 = .ok (.bipush 38, 2) := by decide +kernel
theorem dX8_house_42 : decode cX8_house 42 = .ok (.iconst 0, 1) := by decide +kernel
theorem dX8_house_43 : decode cX8_house 43 = .ok (.iastore, 1) := by decide +kernel
theorem dX8_house_44 : decode cX8_house 44 = .ok (.aload_n 0, 1) := by decide +kernel
theorem dX8_house_45 : decode cX8_house 45 = .ok (.getfield 9, 3) := by decide +kernel
theorem dX8_house_48 : decode cX8_house 48 = .ok (.sipush 223, 3) := by decide +kernel
theorem dX8_house_51 : decode cX8_house 51 = .ok (.aload_n 0, 1) := by decide +kernel
theorem dX8_house_52 : decode cX8_house 52 = .ok (.getfield 66, 3) := by decide +kernel
theorem dX8_house_55 : decode cX8_house 55 = .ok (.iadd, 1) := by decide +kernel
theorem dX8_house_56 : decode cX8_house 56 = .ok (.iconst 2, 1) := by decide +kernel
theorem dX8_house_57 : decode cX8_house 57 = .ok (.iastore, 1) := by decide +kernel
theorem dX8_house_58 : decode cX8_house 58 = .ok (.aload_n 0, 1) := by decide +kernel
theorem dX8_house_59 : decode cX8_house 59 = .ok (.getfield 9, 3) := by decide +kernel
theorem dX8_house_62 : decode cX8_house 62 = .ok (.sipush 228, 3) := by decide +kernel
theorem dX8_house_65 : decode cX8_house 65 = .ok (.aload_n 0, 1) := by decide +kernel
theorem dX8_house_66 : decode cX8_house 66 = .ok (.getfield 66, 3) := by decide +kernel
theorem dX8_house_69 : decode cX8_house 69 = .ok (.iadd, 1) := by decide +kernel
theorem dX8_house_70 : decode cX8_house 70 = .ok (.iconst 0, 1) := by decide +kernel
theorem dX8_house_71 : decode cX8_house 71 = .ok (.iastore, 1) := by decide +kernel
theorem dX8_house_72 : decode cX8_house 72 = .ok (.aload_n 0, 1) := by decide +kernel
theorem dX8_house_73 : decode cX8_house 73 = .ok (.iconst 0, 1) := by decide +kernel
theorem dX8_house_74 : decode cX8_house 74 = .ok (.putfield 39, 3) := by decide +kernel
theorem dX8_house_77 : decode cX8_house 77 = .ok (.aload_n 0, 1) := by decide +kernel
theorem dX8_house_78 : decode cX8_house 78 = .ok (.iconst 0, 1) := by decide +kernel
theorem dX8_house_79 : decode cX8_house 79 = .ok (.putfield 45, 3) := by decide +kernel
theorem dX8_house_82 : decode cX8_house 82 = .ok (.aload_n 0, 1) := by decide +kernel
theorem dX8_house_83 : decode cX8_house 83 = .ok (.iconst 0, 1) := by decide +kernel
theorem dX8_house_84 : decode cX8_house 84 = .ok (.putfield 69, 3) := by decide +kernel
theorem dX8_house_87 : decode cX8_house 87 = .ok (.iconst 1, 1) := by decide +kernel
theorem dX8_house_88 : decode cX8_house 88 = .ok (.istore_n 1, 1) := by decide +kernel
theorem dX8_house_89 : decode cX8_house 89 = .ok (.aload_n 0, 1) := by decide +kernel
theorem dX8_house_90 : decode cX8_house 90 = .ok (.invokevirtual 115, 3) := by decide +kernel
theorem dX8_house_93 : decode cX8_house 93 = .ok (.aload_n 0, 1) := by decide +kernel
theorem dX8_house_94 : decode cX8_house 94 = .ok (.getfield 45, 3) := by decide +kernel
theorem dX8_house_97 : decode cX8_house 97 = .ok (.ifCond .ne 38, 3) := by decide +kernel
theorem dX8_house_100 : decode cX8_house 100 = .ok (.iload_n 1, 1) := by decide +kernel
theorem dX8_house_101 : decode cX8_house 101 = .ok (.bipush 10, 2) := by decide +kernel
theorem dX8_house_103 : decode cX8_house 103 = .ok (.if_icmp .ge 32, 3) := by decide +kernel
theorem dX8_house_106 : decode cX8_house 106 = .ok (.aload_n 0, 1) := by decide +kernel
theorem dX8_house_107 : decode cX8_house 107 = .ok (.invokevirtual 49, 3) := by decide +kernel
theorem dX8_house_110 : decode cX8_house 110 = .ok (.bipush 59, 2) := by decide +kernel
theorem dX8_house_112 : decode cX8_house 112 = .ok (.if_icmp .ne 23, 3) := by decide +kernel
theorem dX8_house_115 : decode cX8_house 115 = .ok (.aload_n 0, 1) := by decide +kernel
theorem dX8_house_116 : decode cX8_house 116 = .ok (.dup, 1) := by decide +kernel
theorem dX8_house_117 : decode cX8_house 117 = .ok (.getfield 39, 3) := by decide +kernel
theorem dX8_house_120 : decode cX8_house 120 = .ok (.iconst 1, 1) := by decide +kernel
theorem dX8_house_121 : decode cX8_house 121 = .ok (.iadd, 1) := by decide +kernel
theorem dX8_house_122 : decode cX8_house 122 = .ok (.putfield 39, 3) := by decide +kernel
theorem dX8_house_125 : decode cX8_house 125 = .ok (.aload_n 0, 1) := by decide +kernel
theorem dX8_house_126 : decode cX8_house 126 = .ok (.invokevirtual 115, 3) := by decide +kernel
theorem dX8_house_129 : decode cX8_house 129 = .ok (.iinc 1 1, 3) := by decide +kernel
theorem dX8_house_132 : decode cX8_house 132 = .ok (.goto (-39), 3) := by decide +kernel
theorem dX8_house_135 : decode cX8_house 135 = .ok (.aload_n 0, 1) := by decide +kernel
theorem dX8_house_136 : decode cX8_house 136 = .ok (.getfield 45, 3) := by decide +kernel
theorem dX8_house_139 : decode cX8_house 139 = .ok (.ifCond .ne 14, 3) := by decide +kernel
theorem dX8_house_142 : decode cX8_house 142 = .ok (.aload_n 0, 1) := by decide +kernel
theorem dX8_house_143 : decode cX8_house 143 = .ok (.getfield 39, 3) := by decide +kernel
theorem dX8_house_146 : decode cX8_house 146 = .ok (.aload_n 0, 1) := by decide +kernel
theorem dX8_house_147 : decode cX8_house 147 = .ok (.getfield 42, 3) := by decide +kernel
theorem dX8_house_150 : decode cX8_house 150 = .ok (.if_icmp .eq 11, 3) := by decide +kernel
theorem dX8_house_153 : decode cX8_house 153 = .ok (.bipush (-10), 2) := by decide +kernel
theorem dX8_house_155 : decode cX8_house 155 = .ok (.aload_n 0, 1) := by decide +kernel
theorem dX8_house_156 : decode cX8_house 156 = .ok (.getfield 39, 3) := by decide +kernel
theorem dX8_house_159 : decode cX8_house 159 = .ok (.isub, 1) := by decide +kernel
theorem dX8_house_160 : decode cX8_house 160 = .ok (.ireturn, 1) := by decide +kernel
theorem dX8_house_161 : decode cX8_house 161 = .ok (.aload_n 0, 1) := by decide +kernel
theorem dX8_house_162 : decode cX8_house 162 = .ok (.getfield 9, 3) := by decide +kernel
theorem dX8_house_165 : decode cX8_house 165 = .ok (.bipush 34, 2) := by decide +kernel
theorem dX8_house_167 : decode cX8_house 167 = .ok (.dup2, 1) := by decide +kernel
theorem dX8_house_168 : decode cX8_house 168 = .ok (.iaload, 1) := by decide +kernel
theorem dX8_house_169 : decode cX8_house 169 = .ok (.iconst 1, 1) := by decide +kernel
theorem dX8_house_170 : decode cX8_house 170 = .ok (.iadd, 1) := by decide +kernel
theorem dX8_house_171 : decode cX8_house 171 = .ok (.iastore, 1) := by decide +kernel
theorem dX8_house_172 : decode cX8_house 172 = .ok (.aload_n 0, 1) := by decide +kernel
theorem dX8_house_173 : decode cX8_house 173 = .ok (.getfield 9, 3) := by decide +kernel
theorem dX8_house_176 : decode cX8_house 176 = .ok (.bipush 39, 2) := by decide +kernel
theorem dX8_house_178 : decode cX8_house 178 = .ok (.aload_n 0, 1) := by decide +kernel
theorem dX8_house_179 : decode cX8_house 179 = .ok (.getfield 66, 3) := by decide +kernel
theorem dX8_house_182 : decode cX8_house 182 = .ok (.iastore, 1) := by decide +kernel
theorem dX8_house_183 : decode cX8_house 183 = .ok (.aload_n 0, 1) := by decide +kernel
theorem dX8_house_184 : decode cX8_house 184 = .ok (.getfield 66, 3) := by decide +kernel
theorem dX8_house_187 : decode cX8_house 187 = .ok (.ireturn, 1) := by decide +kernel
theorem dX8_tellsOf_0 : decode cX8_tellsOf 0 = .ok (.aload_n 0, 1) := by decide +kernel
theorem dX8_tellsOf_1 : decode cX8_tellsOf 1 = .ok (.getfield 9, 3) := by decide +kernel
theorem dX8_tellsOf_4 : decode cX8_tellsOf 4 = .ok (.bipush 39, 2) := by decide +kernel
theorem dX8_tellsOf_6 : decode cX8_tellsOf 6 = .ok (.iaload, 1) := by decide +kernel
theorem dX8_tellsOf_7 : decode cX8_tellsOf 7 = .ok (.iconst (-1), 1) := by decide +kernel
theorem dX8_tellsOf_8 : decode cX8_tellsOf 8 = .ok (.if_icmp .ne 7, 3) := by decide +kernel
theorem dX8_tellsOf_11 : decode cX8_tellsOf 11 = .ok (.iload_n 2, 1) := by decide +kernel
theorem dX8_tellsOf_12 : decode cX8_tellsOf 12 = .ok (.goto 17, 3) := by decide +kernel
theorem dX8_tellsOf_15 : decode cX8_tellsOf 15 = .ok (.aload_n 0, 1) := by decide +kernel
theorem dX8_tellsOf_16 : decode cX8_tellsOf 16 = .ok (.getfield 9, 3) := by decide +kernel
theorem dX8_tellsOf_19 : decode cX8_tellsOf 19 = .ok (.iload_n 1, 1) := by decide +kernel
theorem dX8_tellsOf_20 : decode cX8_tellsOf 20 = .ok (.aload_n 0, 1) := by decide +kernel
theorem dX8_tellsOf_21 : decode cX8_tellsOf 21 = .ok (.getfield 9, 3) := by decide +kernel
theorem dX8_tellsOf_24 : decode cX8_tellsOf 24 = .ok (.bipush 39, 2) := by decide +kernel
theorem dX8_tellsOf_26 : decode cX8_tellsOf 26 = .ok (.iaload, 1) := by decide +kernel
theorem dX8_tellsOf_27 : decode cX8_tellsOf 27 = .ok (.iadd, 1) := by decide +kernel
theorem dX8_tellsOf_28 : decode cX8_tellsOf 28 = .ok (.iaload, 1) := by decide +kernel
theorem dX8_tellsOf_29 : decode cX8_tellsOf 29 = .ok (.ireturn, 1) := by decide +kernel
theorem dX8_sumOf_0 : decode cX8_sumOf 0 = .ok (.aload_n 0, 1) := by decide +kernel
theorem dX8_sumOf_1 : decode cX8_sumOf 1 = .ok (.getfield 21, 3) := by decide +kernel
theorem dX8_sumOf_4 : decode cX8_sumOf 4 = .ok (.iconst 0, 1) := by decide +kernel
theorem dX8_sumOf_5 : decode cX8_sumOf 5 = .ok (.iload_n 1, 1) := by decide +kernel
theorem dX8_sumOf_6 : decode cX8_sumOf 6 = .ok (.iastore, 1) := by decide +kernel
theorem dX8_sumOf_7 : decode cX8_sumOf 7 = .ok (.aload_n 0, 1) := by decide +kernel
theorem dX8_sumOf_8 : decode cX8_sumOf 8 = .ok (.getfield 21, 3) := by decide +kernel
theorem dX8_sumOf_11 : decode cX8_sumOf 11 = .ok (.iconst 1, 1) := by decide +kernel
theorem dX8_sumOf_12 : decode cX8_sumOf 12 = .ok (.aload_n 0, 1) := by decide +kernel
theorem dX8_sumOf_13 : decode cX8_sumOf 13 = .ok (.getfield 9, 3) := by decide +kernel
theorem dX8_sumOf_16 : decode cX8_sumOf 16 = .ok (.bipush 40, 2) := by decide +kernel
theorem dX8_sumOf_18 : decode cX8_sumOf 18 = .ok (.iload_n 1, 1) := by decide +kernel
theorem dX8_sumOf_19 : decode cX8_sumOf 19 = .ok (.iadd, 1) := by decide +kernel
theorem dX8_sumOf_20 : decode cX8_sumOf 20 = .ok (.iaload, 1) := by decide +kernel
theorem dX8_sumOf_21 : decode cX8_sumOf 21 = .ok (.iastore, 1) := by decide +kernel
theorem dX8_sumOf_22 : decode cX8_sumOf 22 = .ok (.aload_n 0, 1) := by decide +kernel
theorem dX8_sumOf_23 : decode cX8_sumOf 23 = .ok (.getfield 21, 3) := by decide +kernel
theorem dX8_sumOf_26 : decode cX8_sumOf 26 = .ok (.iconst 2, 1) := by decide +kernel
theorem dX8_sumOf_27 : decode cX8_sumOf 27 = .ok (.aload_n 0, 1) := by decide +kernel
theorem dX8_sumOf_28 : decode cX8_sumOf 28 = .ok (.getfield 9, 3) := by decide +kernel
theorem dX8_sumOf_31 : decode cX8_sumOf 31 = .ok (.bipush 46, 2) := by decide +kernel
theorem dX8_sumOf_33 : decode cX8_sumOf 33 = .ok (.iload_n 1, 1) := by decide +kernel
theorem dX8_sumOf_34 : decode cX8_sumOf 34 = .ok (.iadd, 1) := by decide +kernel
theorem dX8_sumOf_35 : decode cX8_sumOf 35 = .ok (.iaload, 1) := by decide +kernel
theorem dX8_sumOf_36 : decode cX8_sumOf 36 = .ok (.iastore, 1) := by decide +kernel
theorem dX8_sumOf_37 : decode cX8_sumOf 37 = .ok (.aload_n 0, 1) := by decide +kernel
theorem dX8_sumOf_38 : decode cX8_sumOf 38 = .ok (.getfield 21, 3) := by decide +kernel
theorem dX8_sumOf_41 : decode cX8_sumOf 41 = .ok (.iconst 3, 1) := by decide +kernel
theorem dX8_sumOf_42 : decode cX8_sumOf 42 = .ok (.aload_n 0, 1) := by decide +kernel
theorem dX8_sumOf_43 : decode cX8_sumOf 43 = .ok (.getfield 9, 3) := by decide +kernel
theorem dX8_sumOf_46 : decode cX8_sumOf 46 = .ok (.bipush 15, 2) := by decide +kernel
theorem dX8_sumOf_48 : decode cX8_sumOf 48 = .ok (.iload_n 1, 1) := by decide +kernel
theorem dX8_sumOf_49 : decode cX8_sumOf 49 = .ok (.iadd, 1) := by decide +kernel
theorem dX8_sumOf_50 : decode cX8_sumOf 50 = .ok (.iaload, 1) := by decide +kernel
theorem dX8_sumOf_51 : decode cX8_sumOf 51 = .ok (.bipush 10, 2) := by decide +kernel
theorem dX8_sumOf_53 : decode cX8_sumOf 53 = .ok (.idiv, 1) := by decide +kernel
theorem dX8_sumOf_54 : decode cX8_sumOf 54 = .ok (.iastore, 1) := by decide +kernel
theorem dX8_sumOf_55 : decode cX8_sumOf 55 = .ok (.aload_n 0, 1) := by decide +kernel
theorem dX8_sumOf_56 : decode cX8_sumOf 56 = .ok (.getfield 21, 3) := by decide +kernel
theorem dX8_sumOf_59 : decode cX8_sumOf 59 = .ok (.iconst 4, 1) := by decide +kernel
theorem dX8_sumOf_60 : decode cX8_sumOf 60 = .ok (.aload_n 0, 1) := by decide +kernel
theorem dX8_sumOf_61 : decode cX8_sumOf 61 = .ok (.getfield 9, 3) := by decide +kernel
theorem dX8_sumOf_64 : decode cX8_sumOf 64 = .ok (.bipush 21, 2) := by decide +kernel
theorem dX8_sumOf_66 : decode cX8_sumOf 66 = .ok (.iload_n 1, 1) := by decide +kernel
theorem dX8_sumOf_67 : decode cX8_sumOf 67 = .ok (.iadd, 1) := by decide +kernel
theorem dX8_sumOf_68 : decode cX8_sumOf 68 = .ok (.iaload, 1) := by decide +kernel
theorem dX8_sumOf_69 : decode cX8_sumOf 69 = .ok (.iastore, 1) := by decide +kernel
theorem dX8_sumOf_70 : decode cX8_sumOf 70 = .ok (.aload_n 0, 1) := by decide +kernel
theorem dX8_sumOf_71 : decode cX8_sumOf 71 = .ok (.getfield 21, 3) := by decide +kernel
theorem dX8_sumOf_74 : decode cX8_sumOf 74 = .ok (.iconst 5, 1) := by decide +kernel
theorem dX8_sumOf_75 : decode cX8_sumOf 75 = .ok (.aload_n 0, 1) := by decide +kernel
theorem dX8_sumOf_76 : decode cX8_sumOf 76 = .ok (.getfield 9, 3) := by decide +kernel
theorem dX8_sumOf_79 : decode cX8_sumOf 79 = .ok (.iconst 0, 1) := by decide +kernel
theorem dX8_sumOf_80 : decode cX8_sumOf 80 = .ok (.iaload, 1) := by decide +kernel
theorem dX8_sumOf_81 : decode cX8_sumOf 81 = .ok (.bipush 7, 2) := by decide +kernel
theorem dX8_sumOf_83 : decode cX8_sumOf 83 = .ok (.irem, 1) := by decide +kernel
theorem dX8_sumOf_84 : decode cX8_sumOf 84 = .ok (.iastore, 1) := by decide +kernel
theorem dX8_sumOf_85 : decode cX8_sumOf 85 = .ok (.bipush 8, 2) := by decide +kernel
theorem dX8_sumOf_87 : decode cX8_sumOf 87 = .ok (.istore_n 2, 1) := by decide +kernel
theorem dX8_sumOf_88 : decode cX8_sumOf 88 = .ok (.aload_n 0, 1) := by decide +kernel
theorem dX8_sumOf_89 : decode cX8_sumOf 89 = .ok (.sipush 228, 3) := by decide +kernel
theorem dX8_sumOf_92 : decode cX8_sumOf 92 = .ok (.iconst 0, 1) := by decide +kernel
theorem dX8_sumOf_93 : decode cX8_sumOf 93 = .ok (.invokevirtual 118, 3) := by decide +kernel
theorem dX8_sumOf_96 : decode cX8_sumOf 96 = .ok (.istore_n 3, 1) := by decide +kernel
theorem dX8_sumOf_97 : decode cX8_sumOf 97 = .ok (.sipush 233, 3) := by decide +kernel
theorem dX8_sumOf_100 : decode cX8_sumOf 100 = .ok (.sipush 140, 3) := by decide +kernel
theorem dX8_sumOf_103 : decode cX8_sumOf 103 = .ok (.aload_n 0, 1) := by decide +kernel
theorem dX8_sumOf_104 : decode cX8_sumOf 104 = .ok (.getfield 9, 3) := by decide +kernel
theorem dX8_sumOf_107 : decode cX8_sumOf 107 = .ok (.bipush 39, 2) := by decide +kernel
theorem dX8_sumOf_109 : decode cX8_sumOf 109 = .ok (.iaload, 1) := by decide +kernel
theorem dX8_sumOf_110 : decode cX8_sumOf 110 = .ok (.imul, 1) := by decide +kernel
theorem dX8_sumOf_111 : decode cX8_sumOf 111 = .ok (.iadd, 1) := by decide +kernel
theorem dX8_sumOf_112 : decode cX8_sumOf 112 = .ok (.istore 4, 2) := by decide +kernel
theorem dX8_sumOf_114 : decode cX8_sumOf 114 = .ok (.iconst 0, 1) := by decide +kernel
theorem dX8_sumOf_115 : decode cX8_sumOf 115 = .ok (.istore 5, 2) := by decide +kernel
theorem dX8_sumOf_117 : decode cX8_sumOf 117 = .ok (.iload 4, 2) := by decide +kernel
theorem dX8_sumOf_119 : decode cX8_sumOf 119 = .ok (.istore 6, 2) := by decide +kernel
theorem dX8_sumOf_121 : decode cX8_sumOf 121 = .ok (.iload 6, 2) := by decide +kernel
theorem dX8_sumOf_123 : decode cX8_sumOf 123 = .ok (.iload 4, 2) := by decide +kernel
theorem dX8_sumOf_125 : decode cX8_sumOf 125 = .ok (.iload_n 3, 1) := by decide +kernel
theorem dX8_sumOf_126 : decode cX8_sumOf 126 = .ok (.iadd, 1) := by decide +kernel
theorem dX8_sumOf_127 : decode cX8_sumOf 127 = .ok (.if_icmp .ge 300, 3) := by decide +kernel
theorem dX8_sumOf_130 : decode cX8_sumOf 130 = .ok (.aload_n 0, 1) := by decide +kernel
theorem dX8_sumOf_131 : decode cX8_sumOf 131 = .ok (.getfield 9, 3) := by decide +kernel
theorem dX8_sumOf_134 : decode cX8_sumOf 134 = .ok (.iload 6, 2) := by decide +kernel
theorem dX8_sumOf_136 : decode cX8_sumOf 136 = .ok (.iaload, 1) := by decide +kernel
theorem dX8_sumOf_137 : decode cX8_sumOf 137 = .ok (.istore 7, 2) := by decide +kernel
theorem dX8_sumOf_139 : decode cX8_sumOf 139 = .ok (.iload 7, 2) := by decide +kernel
theorem dX8_sumOf_141 : decode cX8_sumOf 141 = .ok (.ifCond .lt 97, 3) := by decide +kernel
theorem dX8_sumOf_144 : decode cX8_sumOf 144 = .ok (.aload_n 0, 1) := by decide +kernel
theorem dX8_sumOf_145 : decode cX8_sumOf 145 = .ok (.getfield 21, 3) := by decide +kernel
theorem dX8_sumOf_148 : decode cX8_sumOf 148 = .ok (.iload 7, 2) := by decide +kernel
theorem dX8_sumOf_150 : decode cX8_sumOf 150 = .ok (.bipush 8, 2) := by decide +kernel
theorem dX8_sumOf_152 : decode cX8_sumOf 152 = .ok (.irem, 1) := by decide +kernel
theorem dX8_sumOf_153 : decode cX8_sumOf 153 = .ok (.iaload, 1) := by decide +kernel
theorem dX8_sumOf_154 : decode cX8_sumOf 154 = .ok (.istore 8, 2) := by decide +kernel
theorem dX8_sumOf_156 : decode cX8_sumOf 156 = .ok (.iload 7, 2) := by decide +kernel
theorem dX8_sumOf_158 : decode cX8_sumOf 158 = .ok (.bipush 8, 2) := by decide +kernel
theorem dX8_sumOf_160 : decode cX8_sumOf 160 = .ok (.idiv, 1) := by decide +kernel
theorem dX8_sumOf_161 : decode cX8_sumOf 161 = .ok (.iconst 4, 1) := by decide +kernel
theorem dX8_sumOf_162 : decode cX8_sumOf 162 = .ok (.irem, 1) := by decide +kernel
theorem dX8_sumOf_163 : decode cX8_sumOf 163 = .ok (.istore 9, 2) := by decide +kernel
theorem dX8_sumOf_165 : decode cX8_sumOf 165 = .ok (.iload 7, 2) := by decide +kernel
theorem dX8_sumOf_167 : decode cX8_sumOf 167 = .ok (.bipush 32, 2) := by decide +kernel
theorem dX8_sumOf_169 : decode cX8_sumOf 169 = .ok (.idiv, 1) := by decide +kernel
theorem dX8_sumOf_170 : decode cX8_sumOf 170 = .ok (.istore 10, 2) := by decide +kernel
theorem dX8_sumOf_172 : decode cX8_sumOf 172 = .ok (.aload_n 0, 1) := by decide +kernel
theorem dX8_sumOf_173 : decode cX8_sumOf 173 = .ok (.getfield 24, 3) := by decide +kernel
theorem dX8_sumOf_176 : decode cX8_sumOf 176 = .ok (.iload 5, 2) := by decide +kernel
theorem dX8_sumOf_178 : decode cX8_sumOf 178 = .ok (.iload 9, 2) := by decide +kernel
theorem dX8_sumOf_180 : decode cX8_sumOf 180 = .ok (.ifCond .ne 18, 3) := by decide +kernel
theorem dX8_sumOf_183 : decode cX8_sumOf 183 = .ok (.iload 8, 2) := by decide +kernel
theorem dX8_sumOf_185 : decode cX8_sumOf 185 = .ok (.iload 10, 2) := by decide +kernel
theorem dX8_sumOf_187 : decode cX8_sumOf 187 = .ok (.if_icmp .ge 7, 3) := by decide +kernel
theorem dX8_sumOf_190 : decode cX8_sumOf 190 = .ok (.iconst 1, 1) := by decide +kernel
theorem dX8_sumOf_191 : decode cX8_sumOf 191 = .ok (.goto 40, 3) := by decide +kernel
theorem dX8_sumOf_194 : decode cX8_sumOf 194 = .ok (.iconst 0, 1) := by decide +kernel
theorem dX8_sumOf_195 : decode cX8_sumOf 195 = .ok (.goto 36, 3) := by decide +kernel
theorem dX8_sumOf_198 : decode cX8_sumOf 198 = .ok (.iload 9, 2) := by decide +kernel
theorem dX8_sumOf_200 : decode cX8_sumOf 200 = .ok (.iconst 1, 1) := by decide +kernel
theorem dX8_sumOf_201 : decode cX8_sumOf 201 = .ok (.if_icmp .ne 18, 3) := by decide +kernel
theorem dX8_sumOf_204 : decode cX8_sumOf 204 = .ok (.iload 8, 2) := by decide +kernel
theorem dX8_sumOf_206 : decode cX8_sumOf 206 = .ok (.iload 10, 2) := by decide +kernel
theorem dX8_sumOf_208 : decode cX8_sumOf 208 = .ok (.if_icmp .ne 7, 3) := by decide +kernel
theorem dX8_sumOf_211 : decode cX8_sumOf 211 = .ok (.iconst 1, 1) := by decide +kernel
theorem dX8_sumOf_212 : decode cX8_sumOf 212 = .ok (.goto 19, 3) := by decide +kernel
theorem dX8_sumOf_215 : decode cX8_sumOf 215 = .ok (.iconst 0, 1) := by decide +kernel
theorem dX8_sumOf_216 : decode cX8_sumOf 216 = .ok (.goto 15, 3) := by decide +kernel
theorem dX8_sumOf_219 : decode cX8_sumOf 219 = .ok (.iload 8, 2) := by decide +kernel
theorem dX8_sumOf_221 : decode cX8_sumOf 221 = .ok (.iload 10, 2) := by decide +kernel
theorem dX8_sumOf_223 : decode cX8_sumOf 223 = .ok (.if_icmp .le 7, 3) := by decide +kernel
theorem dX8_sumOf_226 : decode cX8_sumOf 226 = .ok (.iconst 1, 1) := by decide +kernel
theorem dX8_sumOf_227 : decode cX8_sumOf 227 = .ok (.goto 4, 3) := by decide +kernel
theorem dX8_sumOf_230 : decode cX8_sumOf 230 = .ok (.iconst 0, 1) := by decide +kernel
theorem dX8_sumOf_231 : decode cX8_sumOf 231 = .ok (.bastore, 1) := by decide +kernel
theorem dX8_sumOf_232 : decode cX8_sumOf 232 = .ok (.iinc 5 1, 3) := by decide +kernel
theorem dX8_sumOf_235 : decode cX8_sumOf 235 = .ok (.goto 186, 3) := by decide +kernel
theorem dX8_sumOf_238 : decode cX8_sumOf 238 = .ok (.iload 7, 2) := by decide +kernel
theorem dX8_sumOf_240 : decode cX8_sumOf 240 = .ok (.iconst (-1), 1) := by decide +kernel
theorem dX8_sumOf_241 : decode cX8_sumOf 241 = .ok (.if_icmp .ne 32, 3) := by decide +kernel
theorem dX8_sumOf_244 : decode cX8_sumOf 244 = .ok (.aload_n 0, 1) := by decide +kernel
theorem dX8_sumOf_245 : decode cX8_sumOf 245 = .ok (.getfield 24, 3) := by decide +kernel
theorem dX8_sumOf_248 : decode cX8_sumOf 248 = .ok (.iload 5, 2) := by decide +kernel
theorem dX8_sumOf_250 : decode cX8_sumOf 250 = .ok (.iconst 1, 1) := by decide +kernel
theorem dX8_sumOf_251 : decode cX8_sumOf 251 = .ok (.isub, 1) := by decide +kernel
theorem dX8_sumOf_252 : decode cX8_sumOf 252 = .ok (.aload_n 0, 1) := by decide +kernel
theorem dX8_sumOf_253 : decode cX8_sumOf 253 = .ok (.getfield 24, 3) := by decide +kernel
theorem dX8_sumOf_256 : decode cX8_sumOf 256 = .ok (.iload 5, 2) := by decide +kernel
theorem dX8_sumOf_258 : decode cX8_sumOf 258 = .ok (.iconst 1, 1) := by decide +kernel
theorem dX8_sumOf_259 : decode cX8_sumOf 259 = .ok (.isub, 1) := by decide +kernel
theorem dX8_sumOf_260 : decode cX8_sumOf 260 = .ok (.baload, 1) := by decide +kernel
theorem dX8_sumOf_261 : decode cX8_sumOf 261 = .ok (.ifCond .ne 7, 3) := by decide +kernel
theorem dX8_sumOf_264 : decode cX8_sumOf 264 = .ok (.iconst 1, 1) := by decide +kernel
theorem dX8_sumOf_265 : decode cX8_sumOf 265 = .ok (.goto 4, 3) := by decide +kernel
theorem dX8_sumOf_268 : decode cX8_sumOf 268 = .ok (.iconst 0, 1) := by decide +kernel
theorem dX8_sumOf_269 : decode cX8_sumOf 269 = .ok (.bastore, 1) := by decide +kernel
theorem dX8_sumOf_270 : decode cX8_sumOf 270 = .ok (.goto 151, 3) := by decide +kernel
theorem dX8_sumOf_273 : decode cX8_sumOf 273 = .ok (.iload 7, 2) := by decide +kernel
theorem dX8_sumOf_275 : decode cX8_sumOf 275 = .ok (.bipush (-10), 2) := by decide +kernel
theorem dX8_sumOf_277 : decode cX8_sumOf 277 = .ok (.if_icmp .le 82, 3) := by decide +kernel
theorem dX8_sumOf_280 : decode cX8_sumOf 280 = .ok (.iinc 5 (-1), 3) := by decide +kernel
theorem dX8_sumOf_283 : decode cX8_sumOf 283 = .ok (.aload_n 0, 1) := by decide +kernel
theorem dX8_sumOf_284 : decode cX8_sumOf 284 = .ok (.getfield 24, 3) := by decide +kernel
theorem dX8_sumOf_287 : decode cX8_sumOf 287 = .ok (.iload 5, 2) := by decide +kernel
theorem dX8_sumOf_289 : decode cX8_sumOf 289 = .ok (.iconst 1, 1) := by decide +kernel
theorem dX8_sumOf_290 : decode cX8_sumOf 290 = .ok (.isub, 1) := by decide +kernel
theorem dX8_sumOf_291 : decode cX8_sumOf 291 = .ok (.iload 7, 2) := by decide +kernel
theorem dX8_sumOf_293 : decode cX8_sumOf 293 = .ok (.bipush (-2), 2) := by decide +kernel
theorem dX8_sumOf_295 : decode cX8_sumOf 295 = .ok (.if_icmp .ne 33, 3) := by decide +kernel
theorem dX8_sumOf_298 : decode cX8_sumOf 298 = .ok (.aload_n 0, 1) := by decide +kernel
theorem dX8_sumOf_299 : decode cX8_sumOf 299 = .ok (.getfield 24, 3) := by decide +kernel
theorem dX8_sumOf_302 : decode cX8_sumOf 302 = .ok (.iload 5, 2) := by decide +kernel
theorem dX8_sumOf_304 : decode cX8_sumOf 304 = .ok (.iconst 1, 1) := by decide +kernel
theorem dX8_sumOf_305 : decode cX8_sumOf 305 = .ok (.isub, 1) := by decide +kernel
theorem dX8_sumOf_306 : decode cX8_sumOf 306 = .ok (.baload, 1) := by decide +kernel
theorem dX8_sumOf_307 : decode cX8_sumOf 307 = .ok (.ifCond .eq 17, 3) := by decide +kernel
theorem dX8_sumOf_310 : decode cX8_sumOf 310 = .ok (.aload_n 0, 1) := by decide +kernel
theorem dX8_sumOf_311 : decode cX8_sumOf 311 = .ok (.getfield 24, 3) := by decide +kernel
theorem dX8_sumOf_314 : decode cX8_sumOf 314 = .ok (.iload 5, 2) := by decide +kernel
theorem dX8_sumOf_316 : decode cX8_sumOf 316 = .ok (.baload, 1) := by decide +kernel
theorem dX8_sumOf_317 : decode cX8_sumOf 317 = .ok (.ifCond .eq 7, 3) := by decide +kernel
theorem dX8_sumOf_320 : decode cX8_sumOf 320 = .ok (.iconst 1, 1) := by decide +kernel
theorem dX8_sumOf_321 : decode cX8_sumOf 321 = .ok (.goto 34, 3) := by decide +kernel
theorem dX8_sumOf_324 : decode cX8_sumOf 324 = .ok (.iconst 0, 1) := by decide +kernel
theorem dX8_sumOf_325 : decode cX8_sumOf 325 = .ok (.goto 30, 3) := by decide +kernel
theorem dX8_sumOf_328 : decode cX8_sumOf 328 = .ok (.aload_n 0, 1) := by decide +kernel
theorem dX8_sumOf_329 : decode cX8_sumOf 329 = .ok (.getfield 24, 3) := by decide +kernel
theorem dX8_sumOf_332 : decode cX8_sumOf 332 = .ok (.iload 5, 2) := by decide +kernel
theorem dX8_sumOf_334 : decode cX8_sumOf 334 = .ok (.iconst 1, 1) := by decide +kernel
theorem dX8_sumOf_335 : decode cX8_sumOf 335 = .ok (.isub, 1) := by decide +kernel
theorem dX8_sumOf_336 : decode cX8_sumOf 336 = .ok (.baload, 1) := by decide +kernel
theorem dX8_sumOf_337 : decode cX8_sumOf 337 = .ok (.ifCond .ne 13, 3) := by decide +kernel
theorem dX8_sumOf_340 : decode cX8_sumOf 340 = .ok (.aload_n 0, 1) := by decide +kernel
theorem dX8_sumOf_341 : decode cX8_sumOf 341 = .ok (.getfield 24, 3) := by decide +kernel
theorem dX8_sumOf_344 : decode cX8_sumOf 344 = .ok (.iload 5, 2) := by decide +kernel
theorem dX8_sumOf_346 : decode cX8_sumOf 346 = .ok (.baload, 1) := by decide +kernel
theorem dX8_sumOf_347 : decode cX8_sumOf 347 = .ok (.ifCond .eq 7, 3) := by decide +kernel
theorem dX8_sumOf_350 : decode cX8_sumOf 350 = .ok (.iconst 1, 1) := by decide +kernel
theorem dX8_sumOf_351 : decode cX8_sumOf 351 = .ok (.goto 4, 3) := by decide +kernel
theorem dX8_sumOf_354 : decode cX8_sumOf 354 = .ok (.iconst 0, 1) := by decide +kernel
theorem dX8_sumOf_355 : decode cX8_sumOf 355 = .ok (.bastore, 1) := by decide +kernel
theorem dX8_sumOf_356 : decode cX8_sumOf 356 = .ok (.goto 65, 3) := by decide +kernel
theorem dX8_sumOf_359 : decode cX8_sumOf 359 = .ok (.iconst 0, 1) := by decide +kernel
theorem dX8_sumOf_360 : decode cX8_sumOf 360 = .ok (.istore 5, 2) := by decide +kernel
theorem dX8_sumOf_362 : decode cX8_sumOf 362 = .ok (.aload_n 0, 1) := by decide +kernel
theorem dX8_sumOf_363 : decode cX8_sumOf 363 = .ok (.getfield 24, 3) := by decide +kernel
theorem dX8_sumOf_366 : decode cX8_sumOf 366 = .ok (.iconst 0, 1) := by decide +kernel
theorem dX8_sumOf_367 : decode cX8_sumOf 367 = .ok (.baload, 1) := by decide +kernel
theorem dX8_sumOf_368 : decode cX8_sumOf 368 = .ok (.istore 8, 2) := by decide +kernel
theorem dX8_sumOf_370 : decode cX8_sumOf 370 = .ok (.iload_n 2, 1) := by decide +kernel
theorem dX8_sumOf_371 : decode cX8_sumOf 371 = .ok (.iload 8, 2) := by decide +kernel
theorem dX8_sumOf_373 : decode cX8_sumOf 373 = .ok (.ifCond .eq 19, 3) := by decide +kernel
theorem dX8_sumOf_376 : decode cX8_sumOf 376 = .ok (.iload 7, 2) := by decide +kernel
theorem dX8_sumOf_378 : decode cX8_sumOf 378 = .ok (.sipush (-200), 3) := by decide +kernel
theorem dX8_sumOf_381 : decode cX8_sumOf 381 = .ok (.if_icmp .le 11, 3) := by decide +kernel
theorem dX8_sumOf_384 : decode cX8_sumOf 384 = .ok (.bipush (-10), 2) := by decide +kernel
theorem dX8_sumOf_386 : decode cX8_sumOf 386 = .ok (.iload 7, 2) := by decide +kernel
theorem dX8_sumOf_388 : decode cX8_sumOf 388 = .ok (.isub, 1) := by decide +kernel
theorem dX8_sumOf_389 : decode cX8_sumOf 389 = .ok (.goto 4, 3) := by decide +kernel
theorem dX8_sumOf_392 : decode cX8_sumOf 392 = .ok (.iconst 0, 1) := by decide +kernel
theorem dX8_sumOf_393 : decode cX8_sumOf 393 = .ok (.iadd, 1) := by decide +kernel
theorem dX8_sumOf_394 : decode cX8_sumOf 394 = .ok (.istore_n 2, 1) := by decide +kernel
theorem dX8_sumOf_395 : decode cX8_sumOf 395 = .ok (.iload_n 2, 1) := by decide +kernel
theorem dX8_sumOf_396 : decode cX8_sumOf 396 = .ok (.iload 8, 2) := by decide +kernel
theorem dX8_sumOf_398 : decode cX8_sumOf 398 = .ok (.ifCond .eq 20, 3) := by decide +kernel
theorem dX8_sumOf_401 : decode cX8_sumOf 401 = .ok (.iload 7, 2) := by decide +kernel
theorem dX8_sumOf_403 : decode cX8_sumOf 403 = .ok (.sipush (-200), 3) := by decide +kernel
theorem dX8_sumOf_406 : decode cX8_sumOf 406 = .ok (.if_icmp .gt 12, 3) := by decide +kernel
theorem dX8_sumOf_409 : decode cX8_sumOf 409 = .ok (.sipush (-200), 3) := by decide +kernel
theorem dX8_sumOf_412 : decode cX8_sumOf 412 = .ok (.iload 7, 2) := by decide +kernel
theorem dX8_sumOf_414 : decode cX8_sumOf 414 = .ok (.isub, 1) := by decide +kernel
theorem dX8_sumOf_415 : decode cX8_sumOf 415 = .ok (.goto 4, 3) := by decide +kernel
theorem dX8_sumOf_418 : decode cX8_sumOf 418 = .ok (.iconst 0, 1) := by decide +kernel
theorem dX8_sumOf_419 : decode cX8_sumOf 419 = .ok (.isub, 1) := by decide +kernel
theorem dX8_sumOf_420 : decode cX8_sumOf 420 = .ok (.istore_n 2, 1) := by decide +kernel
theorem dX8_sumOf_421 : decode cX8_sumOf 421 = .ok (.iinc 6 1, 3) := by decide +kernel
theorem dX8_sumOf_424 : decode cX8_sumOf 424 = .ok (.goto (-303), 3) := by decide +kernel
theorem dX8_sumOf_427 : decode cX8_sumOf 427 = .ok (.iload_n 2, 1) := by decide +kernel
theorem dX8_sumOf_428 : decode cX8_sumOf 428 = .ok (.ireturn, 1) := by decide +kernel
theorem dX8_careOf_0 : decode cX8_careOf 0 = .ok (.aload_n 0, 1) := by decide +kernel
theorem dX8_careOf_1 : decode cX8_careOf 1 = .ok (.iload_n 1, 1) := by decide +kernel
theorem dX8_careOf_2 : decode cX8_careOf 2 = .ok (.invokevirtual 122, 3) := by decide +kernel
theorem dX8_careOf_5 : decode cX8_careOf 5 = .ok (.istore_n 2, 1) := by decide +kernel
theorem dX8_careOf_6 : decode cX8_careOf 6 = .ok (.iload_n 2, 1) := by decide +kernel
theorem dX8_careOf_7 : decode cX8_careOf 7 = .ok (.aload_n 0, 1) := by decide +kernel
theorem dX8_careOf_8 : decode cX8_careOf 8 = .ok (.getfield 9, 3) := by decide +kernel
theorem dX8_careOf_11 : decode cX8_careOf 11 = .ok (.bipush 15, 2) := by decide +kernel
theorem dX8_careOf_13 : decode cX8_careOf 13 = .ok (.iload_n 1, 1) := by decide +kernel
theorem dX8_careOf_14 : decode cX8_careOf 14 = .ok (.iadd, 1) := by decide +kernel
theorem dX8_careOf_15 : decode cX8_careOf 15 = .ok (.iaload, 1) := by decide +kernel
theorem dX8_careOf_16 : decode cX8_careOf 16 = .ok (.bipush 10, 2) := by decide +kernel
theorem dX8_careOf_18 : decode cX8_careOf 18 = .ok (.idiv, 1) := by decide +kernel
theorem dX8_careOf_19 : decode cX8_careOf 19 = .ok (.isub, 1) := by decide +kernel
theorem dX8_careOf_20 : decode cX8_careOf 20 = .ok (.istore_n 3, 1) := by decide +kernel
theorem dX8_careOf_21 : decode cX8_careOf 21 = .ok (.aload_n 0, 1) := by decide +kernel
theorem dX8_careOf_22 : decode cX8_careOf 22 = .ok (.getfield 9, 3) := by decide +kernel
theorem dX8_careOf_25 : decode cX8_careOf 25 = .ok (.bipush 40, 2) := by decide +kernel
theorem dX8_careOf_27 : decode cX8_careOf 27 = .ok (.iload_n 1, 1) := by decide +kernel
theorem dX8_careOf_28 : decode cX8_careOf 28 = .ok (.iadd, 1) := by decide +kernel
theorem dX8_careOf_29 : decode cX8_careOf 29 = .ok (.iaload, 1) := by decide +kernel
theorem dX8_careOf_30 : decode cX8_careOf 30 = .ok (.tableswitch 123 1 6 #[38, 50, 54, 56, 86, 100], 38) := by decide +kernel
theorem dX8_careOf_68 : decode cX8_careOf 68 = .ok (.iload_n 2, 1) := by decide +kernel
theorem dX8_careOf_69 : decode cX8_careOf 69 = .ok (.aload_n 0, 1) := by decide +kernel
theorem dX8_careOf_70 : decode cX8_careOf 70 = .ok (.getfield 9, 3) := by decide +kernel
theorem dX8_careOf_73 : decode cX8_careOf 73 = .ok (.bipush 46, 2) := by decide +kernel
theorem dX8_careOf_75 : decode cX8_careOf 75 = .ok (.iload_n 1, 1) := by decide +kernel
theorem dX8_careOf_76 : decode cX8_careOf 76 = .ok (.iadd, 1) := by decide +kernel
theorem dX8_careOf_77 : decode cX8_careOf 77 = .ok (.iaload, 1) := by decide +kernel
theorem dX8_careOf_78 : decode cX8_careOf 78 = .ok (.iadd, 1) := by decide +kernel
theorem dX8_careOf_79 : decode cX8_careOf 79 = .ok (.ireturn, 1) := by decide +kernel
theorem dX8_careOf_80 : decode cX8_careOf 80 = .ok (.iload_n 2, 1) := by decide +kernel
theorem dX8_careOf_81 : decode cX8_careOf 81 = .ok (.iconst 2, 1) := by decide +kernel
theorem dX8_careOf_82 : decode cX8_careOf 82 = .ok (.idiv, 1) := by decide +kernel
theorem dX8_careOf_83 : decode cX8_careOf 83 = .ok (.ireturn, 1) := by decide +kernel
theorem dX8_careOf_84 : decode cX8_careOf 84 = .ok (.iload_n 3, 1) := by decide +kernel
theorem dX8_careOf_85 : decode cX8_careOf 85 = .ok (.ireturn, 1) := by decide +kernel
theorem dX8_careOf_86 : decode cX8_careOf 86 = .ok (.aload_n 0, 1) := by decide +kernel
theorem dX8_careOf_87 : decode cX8_careOf 87 = .ok (.getfield 9, 3) := by decide +kernel
theorem dX8_careOf_90 : decode cX8_careOf 90 = .ok (.iconst 0, 1) := by decide +kernel
theorem dX8_careOf_91 : decode cX8_careOf 91 = .ok (.iaload, 1) := by decide +kernel
theorem dX8_careOf_92 : decode cX8_careOf 92 = .ok (.bipush 7, 2) := by decide +kernel
theorem dX8_careOf_94 : decode cX8_careOf 94 = .ok (.irem, 1) := by decide +kernel
theorem dX8_careOf_95 : decode cX8_careOf 95 = .ok (.bipush 6, 2) := by decide +kernel
theorem dX8_careOf_97 : decode cX8_careOf 97 = .ok (.if_icmp .ne 7, 3) := by decide +kernel
theorem dX8_careOf_100 : decode cX8_careOf 100 = .ok (.iconst 0, 1) := by decide +kernel
theorem dX8_careOf_101 : decode cX8_careOf 101 = .ok (.goto 14, 3) := by decide +kernel
theorem dX8_careOf_104 : decode cX8_careOf 104 = .ok (.iload_n 2, 1) := by decide +kernel
theorem dX8_careOf_105 : decode cX8_careOf 105 = .ok (.aload_n 0, 1) := by decide +kernel
theorem dX8_careOf_106 : decode cX8_careOf 106 = .ok (.getfield 9, 3) := by decide +kernel
theorem dX8_careOf_109 : decode cX8_careOf 109 = .ok (.bipush 46, 2) := by decide +kernel
theorem dX8_careOf_111 : decode cX8_careOf 111 = .ok (.iload_n 1, 1) := by decide +kernel
theorem dX8_careOf_112 : decode cX8_careOf 112 = .ok (.iadd, 1) := by decide +kernel
theorem dX8_careOf_113 : decode cX8_careOf 113 = .ok (.iaload, 1) := by decide +kernel
theorem dX8_careOf_114 : decode cX8_careOf 114 = .ok (.iadd, 1) := by decide +kernel
theorem dX8_careOf_115 : decode cX8_careOf 115 = .ok (.ireturn, 1) := by decide +kernel
theorem dX8_careOf_116 : decode cX8_careOf 116 = .ok (.iload_n 2, 1) := by decide +kernel
theorem dX8_careOf_117 : decode cX8_careOf 117 = .ok (.iconst 2, 1) := by decide +kernel
theorem dX8_careOf_118 : decode cX8_careOf 118 = .ok (.idiv, 1) := by decide +kernel
theorem dX8_careOf_119 : decode cX8_careOf 119 = .ok (.aload_n 0, 1) := by decide +kernel
theorem dX8_careOf_120 : decode cX8_careOf 120 = .ok (.getfield 9, 3) := by decide +kernel
theorem dX8_careOf_123 : decode cX8_careOf 123 = .ok (.bipush 21, 2) := by decide +kernel
theorem dX8_careOf_125 : decode cX8_careOf 125 = .ok (.iload_n 1, 1) := by decide +kernel
theorem dX8_careOf_126 : decode cX8_careOf 126 = .ok (.iadd, 1) := by decide +kernel
theorem dX8_careOf_127 : decode cX8_careOf 127 = .ok (.iaload, 1) := by decide +kernel
theorem dX8_careOf_128 : decode cX8_careOf 128 = .ok (.iadd, 1) := by decide +kernel
theorem dX8_careOf_129 : decode cX8_careOf 129 = .ok (.ireturn, 1) := by decide +kernel
theorem dX8_careOf_130 : decode cX8_careOf 130 = .ok (.iload_n 3, 1) := by decide +kernel
theorem dX8_careOf_131 : decode cX8_careOf 131 = .ok (.aload_n 0, 1) := by decide +kernel
theorem dX8_careOf_132 : decode cX8_careOf 132 = .ok (.getfield 9, 3) := by decide +kernel
theorem dX8_careOf_135 : decode cX8_careOf 135 = .ok (.bipush 52, 2) := by decide +kernel
theorem dX8_careOf_137 : decode cX8_careOf 137 = .ok (.iconst 4, 1) := by decide +kernel
theorem dX8_careOf_138 : decode cX8_careOf 138 = .ok (.iload_n 1, 1) := by decide +kernel
theorem dX8_careOf_139 : decode cX8_careOf 139 = .ok (.imul, 1) := by decide +kernel
theorem dX8_careOf_140 : decode cX8_careOf 140 = .ok (.iadd, 1) := by decide +kernel
theorem dX8_careOf_141 : decode cX8_careOf 141 = .ok (.aload_n 0, 1) := by decide +kernel
theorem dX8_careOf_142 : decode cX8_careOf 142 = .ok (.getfield 9, 3) := by decide +kernel
theorem dX8_careOf_145 : decode cX8_careOf 145 = .ok (.iconst 0, 1) := by decide +kernel
theorem dX8_careOf_146 : decode cX8_careOf 146 = .ok (.iaload, 1) := by decide +kernel
theorem dX8_careOf_147 : decode cX8_careOf 147 = .ok (.iconst 4, 1) := by decide +kernel
theorem dX8_careOf_148 : decode cX8_careOf 148 = .ok (.irem, 1) := by decide +kernel
theorem dX8_careOf_149 : decode cX8_careOf 149 = .ok (.iadd, 1) := by decide +kernel
theorem dX8_careOf_150 : decode cX8_careOf 150 = .ok (.iaload, 1) := by decide +kernel
theorem dX8_careOf_151 : decode cX8_careOf 151 = .ok (.iadd, 1) := by decide +kernel
theorem dX8_careOf_152 : decode cX8_careOf 152 = .ok (.ireturn, 1) := by decide +kernel
theorem dX8_careOf_153 : decode cX8_careOf 153 = .ok (.iload_n 2, 1) := by decide +kernel
theorem dX8_careOf_154 : decode cX8_careOf 154 = .ok (.ireturn, 1) := by decide +kernel
theorem dX8_doubtOf_0 : decode cX8_doubtOf 0 = .ok (.aload_n 0, 1) := by decide +kernel
theorem dX8_doubtOf_1 : decode cX8_doubtOf 1 = .ok (.sipush 223, 3) := by decide +kernel
theorem dX8_doubtOf_4 : decode cX8_doubtOf 4 = .ok (.iconst 2, 1) := by decide +kernel
theorem dX8_doubtOf_5 : decode cX8_doubtOf 5 = .ok (.invokevirtual 118, 3) := by decide +kernel
theorem dX8_doubtOf_8 : decode cX8_doubtOf 8 = .ok (.iload_n 2, 1) := by decide +kernel
theorem dX8_doubtOf_9 : decode cX8_doubtOf 9 = .ok (.imul, 1) := by decide +kernel
theorem dX8_doubtOf_10 : decode cX8_doubtOf 10 = .ok (.aload_n 0, 1) := by decide +kernel
theorem dX8_doubtOf_11 : decode cX8_doubtOf 11 = .ok (.getfield 9, 3) := by decide +kernel
theorem dX8_doubtOf_14 : decode cX8_doubtOf 14 = .ok (.bipush 9, 2) := by decide +kernel
theorem dX8_doubtOf_16 : decode cX8_doubtOf 16 = .ok (.iload_n 1, 1) := by decide +kernel
theorem dX8_doubtOf_17 : decode cX8_doubtOf 17 = .ok (.iadd, 1) := by decide +kernel
theorem dX8_doubtOf_18 : decode cX8_doubtOf 18 = .ok (.iaload, 1) := by decide +kernel
theorem dX8_doubtOf_19 : decode cX8_doubtOf 19 = .ok (.isub, 1) := by decide +kernel
theorem dX8_doubtOf_20 : decode cX8_doubtOf 20 = .ok (.ireturn, 1) := by decide +kernel
theorem dX8_backOf_0 : decode cX8_backOf 0 = .ok (.iconst 0, 1) := by decide +kernel
theorem dX8_backOf_1 : decode cX8_backOf 1 = .ok (.istore_n 2, 1) := by decide +kernel
theorem dX8_backOf_2 : decode cX8_backOf 2 = .ok (.iload_n 2, 1) := by decide +kernel
theorem dX8_backOf_3 : decode cX8_backOf 3 = .ok (.bipush 60, 2) := by decide +kernel
theorem dX8_backOf_5 : decode cX8_backOf 5 = .ok (.if_icmp .gt 20, 3) := by decide +kernel
theorem dX8_backOf_8 : decode cX8_backOf 8 = .ok (.aload_n 0, 1) := by decide +kernel
theorem dX8_backOf_9 : decode cX8_backOf 9 = .ok (.iload_n 1, 1) := by decide +kernel
theorem dX8_backOf_10 : decode cX8_backOf 10 = .ok (.iload_n 2, 1) := by decide +kernel
theorem dX8_backOf_11 : decode cX8_backOf 11 = .ok (.invokevirtual 126, 3) := by decide +kernel
theorem dX8_backOf_14 : decode cX8_backOf 14 = .ok (.ifCond .le 5, 3) := by decide +kernel
theorem dX8_backOf_17 : decode cX8_backOf 17 = .ok (.iload_n 2, 1) := by decide +kernel
theorem dX8_backOf_18 : decode cX8_backOf 18 = .ok (.ireturn, 1) := by decide +kernel
theorem dX8_backOf_19 : decode cX8_backOf 19 = .ok (.iinc 2 1, 3) := by decide +kernel
theorem dX8_backOf_22 : decode cX8_backOf 22 = .ok (.goto (-20), 3) := by decide +kernel
theorem dX8_backOf_25 : decode cX8_backOf 25 = .ok (.bipush (-5), 2) := by decide +kernel
theorem dX8_backOf_27 : decode cX8_backOf 27 = .ok (.ireturn, 1) := by decide +kernel
theorem dX8_becomes_0 : decode cX8_becomes 0 = .ok (.aload_n 0, 1) := by decide +kernel
theorem dX8_becomes_1 : decode cX8_becomes 1 = .ok (.getfield 9, 3) := by decide +kernel
theorem dX8_becomes_4 : decode cX8_becomes 4 = .ok (.iload_n 1, 1) := by decide +kernel
theorem dX8_becomes_5 : decode cX8_becomes 5 = .ok (.iaload, 1) := by decide +kernel
theorem dX8_becomes_6 : decode cX8_becomes 6 = .ok (.istore_n 3, 1) := by decide +kernel
theorem dX8_becomes_7 : decode cX8_becomes 7 = .ok (.aload_n 0, 1) := by decide +kernel
theorem dX8_becomes_8 : decode cX8_becomes 8 = .ok (.getfield 9, 3) := by decide +kernel
theorem dX8_becomes_11 : decode cX8_becomes 11 = .ok (.iload_n 1, 1) := by decide +kernel
theorem dX8_becomes_12 : decode cX8_becomes 12 = .ok (.iload_n 2, 1) := by decide +kernel
theorem dX8_becomes_13 : decode cX8_becomes 13 = .ok (.iastore, 1) := by decide +kernel
theorem dX8_becomes_14 : decode cX8_becomes 14 = .ok (.iload_n 3, 1) := by decide +kernel
theorem dX8_becomes_15 : decode cX8_becomes 15 = .ok (.ireturn, 1) := by decide +kernel
theorem dX8_deed_0 : decode cX8_deed 0 = .ok (.iload_n 1, 1) := by decide +kernel
theorem dX8_deed_1 : decode cX8_deed 1 = .ok (.iconst 0, 1) := by decide +kernel
theorem dX8_deed_2 : decode cX8_deed 2 = .ok (.bipush 6, 2) := by decide +kernel
theorem dX8_deed_4 : decode cX8_deed 4 = .ok (.invokestatic 35, 3) := by decide +kernel
theorem dX8_deed_7 : decode cX8_deed 7 = .ok (.ifCond .ne 5, 3) := by decide +kernel
theorem dX8_deed_10 : decode cX8_deed 10 = .ok (.iconst (-1), 1) := by decide +kernel
theorem dX8_deed_11 : decode cX8_deed 11 = .ok (.ireturn, 1) := by decide +kernel
theorem dX8_deed_12 : decode cX8_deed 12 = .ok (.iload_n 2, 1) := by decide +kernel
theorem dX8_deed_13 : decode cX8_deed 13 = .ok (.iconst 0, 1) := by decide +kernel
theorem dX8_deed_14 : decode cX8_deed 14 = .ok (.bipush 9, 2) := by decide +kernel
theorem dX8_deed_16 : decode cX8_deed 16 = .ok (.invokestatic 35, 3) := by decide +kernel
theorem dX8_deed_19 : decode cX8_deed 19 = .ok (.ifCond .ne 6, 3) := by decide +kernel
theorem dX8_deed_22 : decode cX8_deed 22 = .ok (.bipush (-2), 2) := by decide +kernel
theorem dX8_deed_24 : decode cX8_deed 24 = .ok (.ireturn, 1) := by decide +kernel
theorem dX8_deed_25 : decode cX8_deed 25 = .ok (.aload_n 0, 1) := by decide +kernel
theorem dX8_deed_26 : decode cX8_deed 26 = .ok (.getfield 9, 3) := by decide +kernel
theorem dX8_deed_29 : decode cX8_deed 29 = .ok (.bipush 33, 2) := by decide +kernel
theorem dX8_deed_31 : decode cX8_deed 31 = .ok (.iaload, 1) := by decide +kernel
theorem dX8_deed_32 : decode cX8_deed 32 = .ok (.bipush 6, 2) := by decide +kernel
theorem dX8_deed_34 : decode cX8_deed 34 = .ok (.if_icmp .ne 6, 3) := by decide +kernel
theorem dX8_deed_37 : decode cX8_deed 37 = .ok (.bipush (-4), 2) := by decide +kernel
theorem dX8_deed_39 : decode cX8_deed 39 = .ok (.ireturn, 1) := by decide +kernel
theorem dX8_deed_40 : decode cX8_deed 40 = .ok (.aload_n 0, 1) := by decide +kernel
theorem dX8_deed_41 : decode cX8_deed 41 = .ok (.getfield 9, 3) := by decide +kernel
theorem dX8_deed_44 : decode cX8_deed 44 = .ok (.bipush 33, 2) := by decide +kernel
theorem dX8_deed_46 : decode cX8_deed 46 = .ok (.iaload, 1) := by decide +kernel
theorem dX8_deed_47 : decode cX8_deed 47 = .ok (.istore_n 3, 1) := by decide +kernel
theorem dX8_deed_48 : decode cX8_deed 48 = .ok (.aload_n 0, 1) := by decide +kernel
theorem dX8_deed_49 : decode cX8_deed 49 = .ok (.getfield 9, 3) := by decide +kernel
theorem dX8_deed_52 : decode cX8_deed 52 = .ok (.bipush 40, 2) := by decide +kernel
theorem dX8_deed_54 : decode cX8_deed 54 = .ok (.iload_n 3, 1) := by decide +kernel
theorem dX8_deed_55 : decode cX8_deed 55 = .ok (.iadd, 1) := by decide +kernel
theorem dX8_deed_56 : decode cX8_deed 56 = .ok (.iload_n 1, 1) := by decide +kernel
theorem dX8_deed_57 : decode cX8_deed 57 = .ok (.iastore, 1) := by decide +kernel
theorem dX8_deed_58 : decode cX8_deed 58 = .ok (.aload_n 0, 1) := by decide +kernel
theorem dX8_deed_59 : decode cX8_deed 59 = .ok (.getfield 9, 3) := by decide +kernel
theorem dX8_deed_62 : decode cX8_deed 62 = .ok (.bipush 46, 2) := by decide +kernel
theorem dX8_deed_64 : decode cX8_deed 64 = .ok (.iload_n 3, 1) := by decide +kernel
theorem dX8_deed_65 : decode cX8_deed 65 = .ok (.iadd, 1) := by decide +kernel
theorem dX8_deed_66 : decode cX8_deed 66 = .ok (.iload_n 2, 1) := by decide +kernel
theorem dX8_deed_67 : decode cX8_deed 67 = .ok (.iastore, 1) := by decide +kernel
theorem dX8_deed_68 : decode cX8_deed 68 = .ok (.aload_n 0, 1) := by decide +kernel
theorem dX8_deed_69 : decode cX8_deed 69 = .ok (.getfield 9, 3) := by decide +kernel
theorem dX8_deed_72 : decode cX8_deed 72 = .ok (.iconst 3, 1) := by decide +kernel
theorem dX8_deed_73 : decode cX8_deed 73 = .ok (.iload_n 3, 1) := by decide +kernel
theorem dX8_deed_74 : decode cX8_deed 74 = .ok (.iadd, 1) := by decide +kernel
theorem dX8_deed_75 : decode cX8_deed 75 = .ok (.iconst 0, 1) := by decide +kernel
theorem dX8_deed_76 : decode cX8_deed 76 = .ok (.iastore, 1) := by decide +kernel
theorem dX8_deed_77 : decode cX8_deed 77 = .ok (.aload_n 0, 1) := by decide +kernel
theorem dX8_deed_78 : decode cX8_deed 78 = .ok (.getfield 9, 3) := by decide +kernel
theorem dX8_deed_81 : decode cX8_deed 81 = .ok (.bipush 9, 2) := by decide +kernel
theorem dX8_deed_83 : decode cX8_deed 83 = .ok (.iload_n 3, 1) := by decide +kernel
theorem dX8_deed_84 : decode cX8_deed 84 = .ok (.iadd, 1) := by decide +kernel
theorem dX8_deed_85 : decode cX8_deed 85 = .ok (.bipush 50, 2) := by decide +kernel
theorem dX8_deed_87 : decode cX8_deed 87 = .ok (.iastore, 1) := by decide +kernel
theorem dX8_deed_88 : decode cX8_deed 88 = .ok (.aload_n 0, 1) := by decide +kernel
theorem dX8_deed_89 : decode cX8_deed 89 = .ok (.getfield 9, 3) := by decide +kernel
theorem dX8_deed_92 : decode cX8_deed 92 = .ok (.bipush 15, 2) := by decide +kernel
theorem dX8_deed_94 : decode cX8_deed 94 = .ok (.iload_n 3, 1) := by decide +kernel
theorem dX8_deed_95 : decode cX8_deed 95 = .ok (.iadd, 1) := by decide +kernel
theorem dX8_deed_96 : decode cX8_deed 96 = .ok (.iconst 0, 1) := by decide +kernel
theorem dX8_deed_97 : decode cX8_deed 97 = .ok (.iastore, 1) := by decide +kernel
theorem dX8_deed_98 : decode cX8_deed 98 = .ok (.aload_n 0, 1) := by decide +kernel
theorem dX8_deed_99 : decode cX8_deed 99 = .ok (.getfield 9, 3) := by decide +kernel
theorem dX8_deed_102 : decode cX8_deed 102 = .ok (.bipush 21, 2) := by decide +kernel
theorem dX8_deed_104 : decode cX8_deed 104 = .ok (.iload_n 3, 1) := by decide +kernel
theorem dX8_deed_105 : decode cX8_deed 105 = .ok (.iadd, 1) := by decide +kernel
theorem dX8_deed_106 : decode cX8_deed 106 = .ok (.iconst 0, 1) := by decide +kernel
theorem dX8_deed_107 : decode cX8_deed 107 = .ok (.iastore, 1) := by decide +kernel
theorem dX8_deed_108 : decode cX8_deed 108 = .ok (.aload_n 0, 1) := by decide +kernel
theorem dX8_deed_109 : decode cX8_deed 109 = .ok (.getfield 9, 3) := by decide +kernel
theorem dX8_deed_112 : decode cX8_deed 112 = .ok (.bipush 27, 2) := by decide +kernel
theorem dX8_deed_114 : decode cX8_deed 114 = .ok (.iload_n 3, 1) := by decide +kernel
theorem dX8_deed_115 : decode cX8_deed 115 = .ok (.iadd, 1) := by decide +kernel
theorem dX8_deed_116 : decode cX8_deed 116 = .ok (.iconst 0, 1) := by decide +kernel
theorem dX8_deed_117 : decode cX8_deed 117 = .ok (.iastore, 1) := by decide +kernel
theorem dX8_deed_118 : decode cX8_deed 118 = .ok (.iconst 0, 1) := by decide +kernel
theorem dX8_deed_119 : decode cX8_deed 119 = .ok (.istore 4, 2) := by decide +kernel
theorem dX8_deed_121 : decode cX8_deed 121 = .ok (.iload 4, 2) := by decide +kernel
theorem dX8_deed_123 : decode cX8_deed 123 = .ok (.iconst 4, 1) := by decide +kernel
theorem dX8_deed_124 : decode cX8_deed 124 = .ok (.if_icmp .ge 24, 3) := by decide +kernel
theorem dX8_deed_127 : decode cX8_deed 127 = .ok (.aload_n 0, 1) := by decide +kernel
theorem dX8_deed_128 : decode cX8_deed 128 = .ok (.getfield 9, 3) := by decide +kernel
theorem dX8_deed_131 : decode cX8_deed 131 = .ok (.bipush 52, 2) := by decide +kernel
theorem dX8_deed_133 : decode cX8_deed 133 = .ok (.iconst 4, 1) := by decide +kernel
theorem dX8_deed_134 : decode cX8_deed 134 = .ok (.iload_n 3, 1) := by decide +kernel
theorem dX8_deed_135 : decode cX8_deed 135 = .ok (.imul, 1) := by decide +kernel
theorem dX8_deed_136 : decode cX8_deed 136 = .ok (.iadd, 1) := by decide +kernel
theorem dX8_deed_137 : decode cX8_deed 137 = .ok (.iload 4, 2) := by decide +kernel
theorem dX8_deed_139 : decode cX8_deed 139 = .ok (.iadd, 1) := by decide +kernel
theorem dX8_deed_140 : decode cX8_deed 140 = .ok (.iconst 0, 1) := by decide +kernel
theorem dX8_deed_141 : decode cX8_deed 141 = .ok (.iastore, 1) := by decide +kernel
theorem dX8_deed_142 : decode cX8_deed 142 = .ok (.iinc 4 1, 3) := by decide +kernel
theorem dX8_deed_145 : decode cX8_deed 145 = .ok (.goto (-24), 3) := by decide +kernel
theorem dX8_deed_148 : decode cX8_deed 148 = .ok (.aload_n 0, 1) := by decide +kernel
theorem dX8_deed_149 : decode cX8_deed 149 = .ok (.getfield 9, 3) := by decide +kernel
theorem dX8_deed_152 : decode cX8_deed 152 = .ok (.bipush 33, 2) := by decide +kernel
theorem dX8_deed_154 : decode cX8_deed 154 = .ok (.dup2, 1) := by decide +kernel
theorem dX8_deed_155 : decode cX8_deed 155 = .ok (.iaload, 1) := by decide +kernel
theorem dX8_deed_156 : decode cX8_deed 156 = .ok (.iconst 1, 1) := by decide +kernel
theorem dX8_deed_157 : decode cX8_deed 157 = .ok (.iadd, 1) := by decide +kernel
theorem dX8_deed_158 : decode cX8_deed 158 = .ok (.iastore, 1) := by decide +kernel
theorem dX8_deed_159 : decode cX8_deed 159 = .ok (.iload_n 3, 1) := by decide +kernel
theorem dX8_deed_160 : decode cX8_deed 160 = .ok (.ireturn, 1) := by decide +kernel
theorem dX8_of_0 : decode cX8_of 0 = .ok (.aload_n 0, 1) := by decide +kernel
theorem dX8_of_1 : decode cX8_of 1 = .ok (.iload_n 1, 1) := by decide +kernel
theorem dX8_of_2 : decode cX8_of 2 = .ok (.invokevirtual 129, 3) := by decide +kernel
theorem dX8_of_5 : decode cX8_of 5 = .ok (.ifCond .ne 6, 3) := by decide +kernel
theorem dX8_of_8 : decode cX8_of 8 = .ok (.ldc 133, 2) := by decide +kernel
theorem dX8_of_10 : decode cX8_of 10 = .ok (.ireturn, 1) := by decide +kernel
theorem dX8_of_11 : decode cX8_of 11 = .ok (.iload_n 2, 1) := by decide +kernel
theorem dX8_of_12 : decode cX8_of 12 = .ok (.tableswitch 133 0 8 #[52, 62, 72, 81, 91, 101, 111, 121, 127], 52) := by decide +kernel
theorem dX8_of_64 : decode cX8_of 64 = .ok (.aload_n 0, 1) := by decide +kernel
theorem dX8_of_65 : decode cX8_of 65 = .ok (.getfield 9, 3) := by decide +kernel
theorem dX8_of_68 : decode cX8_of 68 = .ok (.bipush 40, 2) := by decide +kernel
theorem dX8_of_70 : decode cX8_of 70 = .ok (.iload_n 1, 1) := by decide +kernel
theorem dX8_of_71 : decode cX8_of 71 = .ok (.iadd, 1) := by decide +kernel
theorem dX8_of_72 : decode cX8_of 72 = .ok (.iaload, 1) := by decide +kernel
theorem dX8_of_73 : decode cX8_of 73 = .ok (.ireturn, 1) := by decide +kernel
theorem dX8_of_74 : decode cX8_of 74 = .ok (.aload_n 0, 1) := by decide +kernel
theorem dX8_of_75 : decode cX8_of 75 = .ok (.getfield 9, 3) := by decide +kernel
theorem dX8_of_78 : decode cX8_of 78 = .ok (.bipush 46, 2) := by decide +kernel
theorem dX8_of_80 : decode cX8_of 80 = .ok (.iload_n 1, 1) := by decide +kernel
theorem dX8_of_81 : decode cX8_of 81 = .ok (.iadd, 1) := by decide +kernel
theorem dX8_of_82 : decode cX8_of 82 = .ok (.iaload, 1) := by decide +kernel
theorem dX8_of_83 : decode cX8_of 83 = .ok (.ireturn, 1) := by decide +kernel
theorem dX8_of_84 : decode cX8_of 84 = .ok (.aload_n 0, 1) := by decide +kernel
theorem dX8_of_85 : decode cX8_of 85 = .ok (.getfield 9, 3) := by decide +kernel
theorem dX8_of_88 : decode cX8_of 88 = .ok (.iconst 3, 1) := by decide +kernel
theorem dX8_of_89 : decode cX8_of 89 = .ok (.iload_n 1, 1) := by decide +kernel
theorem dX8_of_90 : decode cX8_of 90 = .ok (.iadd, 1) := by decide +kernel
theorem dX8_of_91 : decode cX8_of 91 = .ok (.iaload, 1) := by decide +kernel
theorem dX8_of_92 : decode cX8_of 92 = .ok (.ireturn, 1) := by decide +kernel
theorem dX8_of_93 : decode cX8_of 93 = .ok (.aload_n 0, 1) := by decide +kernel
theorem dX8_of_94 : decode cX8_of 94 = .ok (.getfield 9, 3) := by decide +kernel
theorem dX8_of_97 : decode cX8_of 97 = .ok (.bipush 9, 2) := by decide +kernel
theorem dX8_of_99 : decode cX8_of 99 = .ok (.iload_n 1, 1) := by decide +kernel
theorem dX8_of_100 : decode cX8_of 100 = .ok (.iadd, 1) := by decide +kernel
theorem dX8_of_101 : decode cX8_of 101 = .ok (.iaload, 1) := by decide +kernel
theorem dX8_of_102 : decode cX8_of 102 = .ok (.ireturn, 1) := by decide +kernel
theorem dX8_of_103 : decode cX8_of 103 = .ok (.aload_n 0, 1) := by decide +kernel
theorem dX8_of_104 : decode cX8_of 104 = .ok (.getfield 9, 3) := by decide +kernel
theorem dX8_of_107 : decode cX8_of 107 = .ok (.bipush 15, 2) := by decide +kernel
theorem dX8_of_109 : decode cX8_of 109 = .ok (.iload_n 1, 1) := by decide +kernel
theorem dX8_of_110 : decode cX8_of 110 = .ok (.iadd, 1) := by decide +kernel
theorem dX8_of_111 : decode cX8_of 111 = .ok (.iaload, 1) := by decide +kernel
theorem dX8_of_112 : decode cX8_of 112 = .ok (.ireturn, 1) := by decide +kernel
theorem dX8_of_113 : decode cX8_of 113 = .ok (.aload_n 0, 1) := by decide +kernel
theorem dX8_of_114 : decode cX8_of 114 = .ok (.getfield 9, 3) := by decide +kernel
theorem dX8_of_117 : decode cX8_of 117 = .ok (.bipush 21, 2) := by decide +kernel
theorem dX8_of_119 : decode cX8_of 119 = .ok (.iload_n 1, 1) := by decide +kernel
theorem dX8_of_120 : decode cX8_of 120 = .ok (.iadd, 1) := by decide +kernel
theorem dX8_of_121 : decode cX8_of 121 = .ok (.iaload, 1) := by decide +kernel
theorem dX8_of_122 : decode cX8_of 122 = .ok (.ireturn, 1) := by decide +kernel
theorem dX8_of_123 : decode cX8_of 123 = .ok (.aload_n 0, 1) := by decide +kernel
theorem dX8_of_124 : decode cX8_of 124 = .ok (.getfield 9, 3) := by decide +kernel
theorem dX8_of_127 : decode cX8_of 127 = .ok (.bipush 27, 2) := by decide +kernel
theorem dX8_of_129 : decode cX8_of 129 = .ok (.iload_n 1, 1) := by decide +kernel
theorem dX8_of_130 : decode cX8_of 130 = .ok (.iadd, 1) := by decide +kernel
theorem dX8_of_131 : decode cX8_of 131 = .ok (.iaload, 1) := by decide +kernel
theorem dX8_of_132 : decode cX8_of 132 = .ok (.ireturn, 1) := by decide +kernel
theorem dX8_of_133 : decode cX8_of 133 = .ok (.aload_n 0, 1) := by decide +kernel
theorem dX8_of_134 : decode cX8_of 134 = .ok (.iload_n 1, 1) := by decide +kernel
theorem dX8_of_135 : decode cX8_of 135 = .ok (.invokevirtual 134, 3) := by decide +kernel
theorem dX8_of_138 : decode cX8_of 138 = .ok (.ireturn, 1) := by decide +kernel
theorem dX8_of_139 : decode cX8_of 139 = .ok (.aload_n 0, 1) := by decide +kernel
theorem dX8_of_140 : decode cX8_of 140 = .ok (.iload_n 1, 1) := by decide +kernel
theorem dX8_of_141 : decode cX8_of 141 = .ok (.invokevirtual 137, 3) := by decide +kernel
theorem dX8_of_144 : decode cX8_of 144 = .ok (.ireturn, 1) := by decide +kernel
theorem dX8_of_145 : decode cX8_of 145 = .ok (.ldc 133, 2) := by decide +kernel
theorem dX8_of_147 : decode cX8_of 147 = .ok (.ireturn, 1) := by decide +kernel
theorem dX8_row_0 : decode cX8_row 0 = .ok (.aload_n 0, 1) := by decide +kernel
theorem dX8_row_1 : decode cX8_row 1 = .ok (.iload_n 1, 1) := by decide +kernel
theorem dX8_row_2 : decode cX8_row 2 = .ok (.invokevirtual 129, 3) := by decide +kernel
theorem dX8_row_5 : decode cX8_row 5 = .ok (.ifCond .eq 12, 3) := by decide +kernel
theorem dX8_row_8 : decode cX8_row 8 = .ok (.iload_n 2, 1) := by decide +kernel
theorem dX8_row_9 : decode cX8_row 9 = .ok (.iconst 0, 1) := by decide +kernel
theorem dX8_row_10 : decode cX8_row 10 = .ok (.iconst 3, 1) := by decide +kernel
theorem dX8_row_11 : decode cX8_row 11 = .ok (.invokestatic 35, 3) := by decide +kernel
theorem dX8_row_14 : decode cX8_row 14 = .ok (.ifCond .ne 5, 3) := by decide +kernel
theorem dX8_row_17 : decode cX8_row 17 = .ok (.iconst (-1), 1) := by decide +kernel
theorem dX8_row_18 : decode cX8_row 18 = .ok (.ireturn, 1) := by decide +kernel
theorem dX8_row_19 : decode cX8_row 19 = .ok (.iload_n 3, 1) := by decide +kernel
theorem dX8_row_20 : decode cX8_row 20 = .ok (.iconst 0, 1) := by decide +kernel
theorem dX8_row_21 : decode cX8_row 21 = .ok (.bipush 9, 2) := by decide +kernel
theorem dX8_row_23 : decode cX8_row 23 = .ok (.invokestatic 35, 3) := by decide +kernel
theorem dX8_row_26 : decode cX8_row 26 = .ok (.ifCond .ne 6, 3) := by decide +kernel
theorem dX8_row_29 : decode cX8_row 29 = .ok (.bipush (-2), 2) := by decide +kernel
theorem dX8_row_31 : decode cX8_row 31 = .ok (.ireturn, 1) := by decide +kernel
theorem dX8_row_32 : decode cX8_row 32 = .ok (.aload_n 0, 1) := by decide +kernel
theorem dX8_row_33 : decode cX8_row 33 = .ok (.getfield 9, 3) := by decide +kernel
theorem dX8_row_36 : decode cX8_row 36 = .ok (.bipush 40, 2) := by decide +kernel
theorem dX8_row_38 : decode cX8_row 38 = .ok (.iload_n 1, 1) := by decide +kernel
theorem dX8_row_39 : decode cX8_row 39 = .ok (.iadd, 1) := by decide +kernel
theorem dX8_row_40 : decode cX8_row 40 = .ok (.iaload, 1) := by decide +kernel
theorem dX8_row_41 : decode cX8_row 41 = .ok (.bipush 6, 2) := by decide +kernel
theorem dX8_row_43 : decode cX8_row 43 = .ok (.if_icmp .ne 19, 3) := by decide +kernel
theorem dX8_row_46 : decode cX8_row 46 = .ok (.aload_n 0, 1) := by decide +kernel
theorem dX8_row_47 : decode cX8_row 47 = .ok (.bipush 52, 2) := by decide +kernel
theorem dX8_row_49 : decode cX8_row 49 = .ok (.iconst 4, 1) := by decide +kernel
theorem dX8_row_50 : decode cX8_row 50 = .ok (.iload_n 1, 1) := by decide +kernel
theorem dX8_row_51 : decode cX8_row 51 = .ok (.imul, 1) := by decide +kernel
theorem dX8_row_52 : decode cX8_row 52 = .ok (.iadd, 1) := by decide +kernel
theorem dX8_row_53 : decode cX8_row 53 = .ok (.iload_n 2, 1) := by decide +kernel
theorem dX8_row_54 : decode cX8_row 54 = .ok (.iadd, 1) := by decide +kernel
theorem dX8_row_55 : decode cX8_row 55 = .ok (.iload_n 3, 1) := by decide +kernel
theorem dX8_row_56 : decode cX8_row 56 = .ok (.invokevirtual 140, 3) := by decide +kernel
theorem dX8_row_59 : decode cX8_row 59 = .ok (.goto 5, 3) := by decide +kernel
theorem dX8_row_62 : decode cX8_row 62 = .ok (.bipush (-3), 2) := by decide +kernel
theorem dX8_row_64 : decode cX8_row 64 = .ok (.ireturn, 1) := by decide +kernel
theorem dX8_set_0 : decode cX8_set 0 = .ok (.aload_n 0, 1) := by decide +kernel
theorem dX8_set_1 : decode cX8_set 1 = .ok (.iload_n 1, 1) := by decide +kernel
theorem dX8_set_2 : decode cX8_set 2 = .ok (.invokevirtual 129, 3) := by decide +kernel
theorem dX8_set_5 : decode cX8_set 5 = .ok (.ifCond .eq 12, 3) := by decide +kernel
theorem dX8_set_8 : decode cX8_set 8 = .ok (.iload_n 2, 1) := by decide +kernel
theorem dX8_set_9 : decode cX8_set 9 = .ok (.iconst 0, 1) := by decide +kernel
theorem dX8_set_10 : decode cX8_set 10 = .ok (.iconst 2, 1) := by decide +kernel
theorem dX8_set_11 : decode cX8_set 11 = .ok (.invokestatic 35, 3) := by decide +kernel
theorem dX8_set_14 : decode cX8_set 14 = .ok (.ifCond .ne 5, 3) := by decide +kernel
theorem dX8_set_17 : decode cX8_set 17 = .ok (.iconst (-1), 1) := by decide +kernel
theorem dX8_set_18 : decode cX8_set 18 = .ok (.ireturn, 1) := by decide +kernel
theorem dX8_set_19 : decode cX8_set 19 = .ok (.iload_n 3, 1) := by decide +kernel
theorem dX8_set_20 : decode cX8_set 20 = .ok (.iconst 0, 1) := by decide +kernel
theorem dX8_set_21 : decode cX8_set 21 = .ok (.iload_n 2, 1) := by decide +kernel
theorem dX8_set_22 : decode cX8_set 22 = .ok (.iconst 2, 1) := by decide +kernel
theorem dX8_set_23 : decode cX8_set 23 = .ok (.if_icmp .ne 8, 3) := by decide +kernel
theorem dX8_set_26 : decode cX8_set 26 = .ok (.bipush 9, 2) := by decide +kernel
theorem dX8_set_28 : decode cX8_set 28 = .ok (.goto 5, 3) := by decide +kernel
theorem dX8_set_31 : decode cX8_set 31 = .ok (.bipush 99, 2) := by decide +kernel
theorem dX8_set_33 : decode cX8_set 33 = .ok (.invokestatic 35, 3) := by decide +kernel
theorem dX8_set_36 : decode cX8_set 36 = .ok (.ifCond .ne 6, 3) := by decide +kernel
theorem dX8_set_39 : decode cX8_set 39 = .ok (.bipush (-2), 2) := by decide +kernel
theorem dX8_set_41 : decode cX8_set 41 = .ok (.ireturn, 1) := by decide +kernel
theorem dX8_set_42 : decode cX8_set 42 = .ok (.aload_n 0, 1) := by decide +kernel
theorem dX8_set_43 : decode cX8_set 43 = .ok (.iload_n 2, 1) := by decide +kernel
theorem dX8_set_44 : decode cX8_set 44 = .ok (.ifCond .ne 8, 3) := by decide +kernel
theorem dX8_set_47 : decode cX8_set 47 = .ok (.bipush 9, 2) := by decide +kernel
theorem dX8_set_49 : decode cX8_set 49 = .ok (.goto 15, 3) := by decide +kernel
theorem dX8_set_52 : decode cX8_set 52 = .ok (.iload_n 2, 1) := by decide +kernel
theorem dX8_set_53 : decode cX8_set 53 = .ok (.iconst 1, 1) := by decide +kernel
theorem dX8_set_54 : decode cX8_set 54 = .ok (.if_icmp .ne 8, 3) := by decide +kernel
theorem dX8_set_57 : decode cX8_set 57 = .ok (.bipush 15, 2) := by decide +kernel
theorem dX8_set_59 : decode cX8_set 59 = .ok (.goto 5, 3) := by decide +kernel
theorem dX8_set_62 : decode cX8_set 62 = .ok (.bipush 21, 2) := by decide +kernel
theorem dX8_set_64 : decode cX8_set 64 = .ok (.iload_n 1, 1) := by decide +kernel
theorem dX8_set_65 : decode cX8_set 65 = .ok (.iadd, 1) := by decide +kernel
theorem dX8_set_66 : decode cX8_set 66 = .ok (.iload_n 3, 1) := by decide +kernel
theorem dX8_set_67 : decode cX8_set 67 = .ok (.invokevirtual 140, 3) := by decide +kernel
theorem dX8_set_70 : decode cX8_set 70 = .ok (.ireturn, 1) := by decide +kernel
theorem dX8_hurry_0 : decode cX8_hurry 0 = .ok (.iload_n 1, 1) := by decide +kernel
theorem dX8_hurry_1 : decode cX8_hurry 1 = .ok (.iconst 0, 1) := by decide +kernel
theorem dX8_hurry_2 : decode cX8_hurry 2 = .ok (.bipush 20, 2) := by decide +kernel
theorem dX8_hurry_4 : decode cX8_hurry 4 = .ok (.invokestatic 35, 3) := by decide +kernel
theorem dX8_hurry_7 : decode cX8_hurry 7 = .ok (.ifCond .eq 12, 3) := by decide +kernel
theorem dX8_hurry_10 : decode cX8_hurry 10 = .ok (.aload_n 0, 1) := by decide +kernel
theorem dX8_hurry_11 : decode cX8_hurry 11 = .ok (.iconst 1, 1) := by decide +kernel
theorem dX8_hurry_12 : decode cX8_hurry 12 = .ok (.iload_n 1, 1) := by decide +kernel
theorem dX8_hurry_13 : decode cX8_hurry 13 = .ok (.invokevirtual 140, 3) := by decide +kernel
theorem dX8_hurry_16 : decode cX8_hurry 16 = .ok (.goto 5, 3) := by decide +kernel
theorem dX8_hurry_19 : decode cX8_hurry 19 = .ok (.bipush (-2), 2) := by decide +kernel
theorem dX8_hurry_21 : decode cX8_hurry 21 = .ok (.ireturn, 1) := by decide +kernel
theorem dX8_looksAfter_0 : decode cX8_looksAfter 0 = .ok (.aload_n 0, 1) := by decide +kernel
theorem dX8_looksAfter_1 : decode cX8_looksAfter 1 = .ok (.getfield 9, 3) := by decide +kernel
theorem dX8_looksAfter_4 : decode cX8_looksAfter 4 = .ok (.bipush 9, 2) := by decide +kernel
theorem dX8_looksAfter_6 : decode cX8_looksAfter 6 = .ok (.iload_n 1, 1) := by decide +kernel
theorem dX8_looksAfter_7 : decode cX8_looksAfter 7 = .ok (.iadd, 1) := by decide +kernel
theorem dX8_looksAfter_8 : decode cX8_looksAfter 8 = .ok (.bipush 90, 2) := by decide +kernel
theorem dX8_looksAfter_10 : decode cX8_looksAfter 10 = .ok (.bipush 10, 2) := by decide +kernel
theorem dX8_looksAfter_12 : decode cX8_looksAfter 12 = .ok (.aload_n 0, 1) := by decide +kernel
theorem dX8_looksAfter_13 : decode cX8_looksAfter 13 = .ok (.getfield 9, 3) := by decide +kernel
theorem dX8_looksAfter_16 : decode cX8_looksAfter 16 = .ok (.bipush 27, 2) := by decide +kernel
theorem dX8_looksAfter_18 : decode cX8_looksAfter 18 = .ok (.iload_n 1, 1) := by decide +kernel
theorem dX8_looksAfter_19 : decode cX8_looksAfter 19 = .ok (.iadd, 1) := by decide +kernel
theorem dX8_looksAfter_20 : decode cX8_looksAfter 20 = .ok (.iaload, 1) := by decide +kernel
theorem dX8_looksAfter_21 : decode cX8_looksAfter 21 = .ok (.imul, 1) := by decide +kernel
theorem dX8_looksAfter_22 : decode cX8_looksAfter 22 = .ok (.isub, 1) := by decide +kernel
theorem dX8_looksAfter_23 : decode cX8_looksAfter 23 = .ok (.bipush 99, 2) := by decide +kernel
theorem dX8_looksAfter_25 : decode cX8_looksAfter 25 = .ok (.invokestatic 143, 3) := by decide +kernel
theorem dX8_looksAfter_28 : decode cX8_looksAfter 28 = .ok (.iastore, 1) := by decide +kernel
theorem dX8_looksAfter_29 : decode cX8_looksAfter 29 = .ok (.aload_n 0, 1) := by decide +kernel
theorem dX8_looksAfter_30 : decode cX8_looksAfter 30 = .ok (.getfield 9, 3) := by decide +kernel
theorem dX8_looksAfter_33 : decode cX8_looksAfter 33 = .ok (.bipush 27, 2) := by decide +kernel
theorem dX8_looksAfter_35 : decode cX8_looksAfter 35 = .ok (.iload_n 1, 1) := by decide +kernel
theorem dX8_looksAfter_36 : decode cX8_looksAfter 36 = .ok (.iadd, 1) := by decide +kernel
theorem dX8_looksAfter_37 : decode cX8_looksAfter 37 = .ok (.aload_n 0, 1) := by decide +kernel
theorem dX8_looksAfter_38 : decode cX8_looksAfter 38 = .ok (.getfield 9, 3) := by decide +kernel
theorem dX8_looksAfter_41 : decode cX8_looksAfter 41 = .ok (.bipush 27, 2) := by decide +kernel
theorem dX8_looksAfter_43 : decode cX8_looksAfter 43 = .ok (.iload_n 1, 1) := by decide +kernel
theorem dX8_looksAfter_44 : decode cX8_looksAfter 44 = .ok (.iadd, 1) := by decide +kernel
theorem dX8_looksAfter_45 : decode cX8_looksAfter 45 = .ok (.iaload, 1) := by decide +kernel
theorem dX8_looksAfter_46 : decode cX8_looksAfter 46 = .ok (.iconst 1, 1) := by decide +kernel
theorem dX8_looksAfter_47 : decode cX8_looksAfter 47 = .ok (.iadd, 1) := by decide +kernel
theorem dX8_looksAfter_48 : decode cX8_looksAfter 48 = .ok (.bipush 9, 2) := by decide +kernel
theorem dX8_looksAfter_50 : decode cX8_looksAfter 50 = .ok (.invokestatic 143, 3) := by decide +kernel
theorem dX8_looksAfter_53 : decode cX8_looksAfter 53 = .ok (.iastore, 1) := by decide +kernel
theorem dX8_looksAfter_54 : decode cX8_looksAfter 54 = .ok (.aload_n 0, 1) := by decide +kernel
theorem dX8_looksAfter_55 : decode cX8_looksAfter 55 = .ok (.getfield 9, 3) := by decide +kernel
theorem dX8_looksAfter_58 : decode cX8_looksAfter 58 = .ok (.bipush 15, 2) := by decide +kernel
theorem dX8_looksAfter_60 : decode cX8_looksAfter 60 = .ok (.iload_n 1, 1) := by decide +kernel
theorem dX8_looksAfter_61 : decode cX8_looksAfter 61 = .ok (.iadd, 1) := by decide +kernel
theorem dX8_looksAfter_62 : decode cX8_looksAfter 62 = .ok (.aload_n 0, 1) := by decide +kernel
theorem dX8_looksAfter_63 : decode cX8_looksAfter 63 = .ok (.getfield 9, 3) := by decide +kernel
theorem dX8_looksAfter_66 : decode cX8_looksAfter 66 = .ok (.bipush 15, 2) := by decide +kernel
theorem dX8_looksAfter_68 : decode cX8_looksAfter 68 = .ok (.iload_n 1, 1) := by decide +kernel
theorem dX8_looksAfter_69 : decode cX8_looksAfter 69 = .ok (.iadd, 1) := by decide +kernel
theorem dX8_looksAfter_70 : decode cX8_looksAfter 70 = .ok (.iaload, 1) := by decide +kernel
theorem dX8_looksAfter_71 : decode cX8_looksAfter 71 = .ok (.iconst 2, 1) := by decide +kernel
theorem dX8_looksAfter_72 : decode cX8_looksAfter 72 = .ok (.iadd, 1) := by decide +kernel
theorem dX8_looksAfter_73 : decode cX8_looksAfter 73 = .ok (.bipush 99, 2) := by decide +kernel
theorem dX8_looksAfter_75 : decode cX8_looksAfter 75 = .ok (.invokestatic 143, 3) := by decide +kernel
theorem dX8_looksAfter_78 : decode cX8_looksAfter 78 = .ok (.iastore, 1) := by decide +kernel
theorem dX8_looksAfter_79 : decode cX8_looksAfter 79 = .ok (.aload_n 0, 1) := by decide +kernel
theorem dX8_looksAfter_80 : decode cX8_looksAfter 80 = .ok (.iconst 3, 1) := by decide +kernel
theorem dX8_looksAfter_81 : decode cX8_looksAfter 81 = .ok (.iload_n 1, 1) := by decide +kernel
theorem dX8_looksAfter_82 : decode cX8_looksAfter 82 = .ok (.iadd, 1) := by decide +kernel
theorem dX8_looksAfter_83 : decode cX8_looksAfter 83 = .ok (.iconst 0, 1) := by decide +kernel
theorem dX8_looksAfter_84 : decode cX8_looksAfter 84 = .ok (.invokevirtual 140, 3) := by decide +kernel
theorem dX8_looksAfter_87 : decode cX8_looksAfter 87 = .ok (.ireturn, 1) := by decide +kernel
theorem dX8_look_0 : decode cX8_look 0 = .ok (.aload_n 0, 1) := by decide +kernel
theorem dX8_look_1 : decode cX8_look 1 = .ok (.iload_n 1, 1) := by decide +kernel
theorem dX8_look_2 : decode cX8_look 2 = .ok (.invokevirtual 129, 3) := by decide +kernel
theorem dX8_look_5 : decode cX8_look 5 = .ok (.ifCond .eq 11, 3) := by decide +kernel
theorem dX8_look_8 : decode cX8_look 8 = .ok (.aload_n 0, 1) := by decide +kernel
theorem dX8_look_9 : decode cX8_look 9 = .ok (.iload_n 1, 1) := by decide +kernel
theorem dX8_look_10 : decode cX8_look 10 = .ok (.invokevirtual 146, 3) := by decide +kernel
theorem dX8_look_13 : decode cX8_look 13 = .ok (.goto 4, 3) := by decide +kernel
theorem dX8_look_16 : decode cX8_look 16 = .ok (.iconst (-1), 1) := by decide +kernel
theorem dX8_look_17 : decode cX8_look 17 = .ok (.ireturn, 1) := by decide +kernel
theorem dX8_doubt_0 : decode cX8_doubt 0 = .ok (.aload_n 0, 1) := by decide +kernel
theorem dX8_doubt_1 : decode cX8_doubt 1 = .ok (.iload_n 1, 1) := by decide +kernel
theorem dX8_doubt_2 : decode cX8_doubt 2 = .ok (.invokevirtual 129, 3) := by decide +kernel
theorem dX8_doubt_5 : decode cX8_doubt 5 = .ok (.ifCond .eq 22, 3) := by decide +kernel
theorem dX8_doubt_8 : decode cX8_doubt 8 = .ok (.iload_n 2, 1) := by decide +kernel
theorem dX8_doubt_9 : decode cX8_doubt 9 = .ok (.iconst 0, 1) := by decide +kernel
theorem dX8_doubt_10 : decode cX8_doubt 10 = .ok (.bipush 60, 2) := by decide +kernel
theorem dX8_doubt_12 : decode cX8_doubt 12 = .ok (.invokestatic 35, 3) := by decide +kernel
theorem dX8_doubt_15 : decode cX8_doubt 15 = .ok (.ifCond .eq 12, 3) := by decide +kernel
theorem dX8_doubt_18 : decode cX8_doubt 18 = .ok (.aload_n 0, 1) := by decide +kernel
theorem dX8_doubt_19 : decode cX8_doubt 19 = .ok (.iload_n 1, 1) := by decide +kernel
theorem dX8_doubt_20 : decode cX8_doubt 20 = .ok (.iload_n 2, 1) := by decide +kernel
theorem dX8_doubt_21 : decode cX8_doubt 21 = .ok (.invokevirtual 126, 3) := by decide +kernel
theorem dX8_doubt_24 : decode cX8_doubt 24 = .ok (.goto 5, 3) := by decide +kernel
theorem dX8_doubt_27 : decode cX8_doubt 27 = .ok (.ldc 133, 2) := by decide +kernel
theorem dX8_doubt_29 : decode cX8_doubt 29 = .ok (.ireturn, 1) := by decide +kernel
theorem dX8_leftOnes_0 : decode cX8_leftOnes 0 = .ok (.iconst 0, 1) := by decide +kernel
theorem dX8_leftOnes_1 : decode cX8_leftOnes 1 = .ok (.istore_n 1, 1) := by decide +kernel
theorem dX8_leftOnes_2 : decode cX8_leftOnes 2 = .ok (.iconst 0, 1) := by decide +kernel
theorem dX8_leftOnes_3 : decode cX8_leftOnes 3 = .ok (.istore_n 2, 1) := by decide +kernel
theorem dX8_leftOnes_4 : decode cX8_leftOnes 4 = .ok (.iload_n 2, 1) := by decide +kernel
theorem dX8_leftOnes_5 : decode cX8_leftOnes 5 = .ok (.aload_n 0, 1) := by decide +kernel
theorem dX8_leftOnes_6 : decode cX8_leftOnes 6 = .ok (.getfield 9, 3) := by decide +kernel
theorem dX8_leftOnes_9 : decode cX8_leftOnes 9 = .ok (.bipush 33, 2) := by decide +kernel
theorem dX8_leftOnes_11 : decode cX8_leftOnes 11 = .ok (.iaload, 1) := by decide +kernel
theorem dX8_leftOnes_12 : decode cX8_leftOnes 12 = .ok (.if_icmp .ge 22, 3) := by decide +kernel
theorem dX8_leftOnes_15 : decode cX8_leftOnes 15 = .ok (.iload_n 1, 1) := by decide +kernel
theorem dX8_leftOnes_16 : decode cX8_leftOnes 16 = .ok (.aload_n 0, 1) := by decide +kernel
theorem dX8_leftOnes_17 : decode cX8_leftOnes 17 = .ok (.getfield 9, 3) := by decide +kernel
theorem dX8_leftOnes_20 : decode cX8_leftOnes 20 = .ok (.iconst 3, 1) := by decide +kernel
theorem dX8_leftOnes_21 : decode cX8_leftOnes 21 = .ok (.iload_n 2, 1) := by decide +kernel
theorem dX8_leftOnes_22 : decode cX8_leftOnes 22 = .ok (.iadd, 1) := by decide +kernel
theorem dX8_leftOnes_23 : decode cX8_leftOnes 23 = .ok (.iaload, 1) := by decide +kernel
theorem dX8_leftOnes_24 : decode cX8_leftOnes 24 = .ok (.iload_n 2, 1) := by decide +kernel
theorem dX8_leftOnes_25 : decode cX8_leftOnes 25 = .ok (.ishl, 1) := by decide +kernel
theorem dX8_leftOnes_26 : decode cX8_leftOnes 26 = .ok (.ior, 1) := by decide +kernel
theorem dX8_leftOnes_27 : decode cX8_leftOnes 27 = .ok (.istore_n 1, 1) := by decide +kernel
theorem dX8_leftOnes_28 : decode cX8_leftOnes 28 = .ok (.iinc 2 1, 3) := by decide +kernel
theorem dX8_leftOnes_31 : decode cX8_leftOnes 31 = .ok (.goto (-27), 3) := by decide +kernel
theorem dX8_leftOnes_34 : decode cX8_leftOnes 34 = .ok (.iload_n 1, 1) := by decide +kernel
theorem dX8_leftOnes_35 : decode cX8_leftOnes 35 = .ok (.ireturn, 1) := by decide +kernel
theorem dX8_told_0 : decode cX8_told 0 = .ok (.iload_n 1, 1) := by decide +kernel
theorem dX8_told_1 : decode cX8_told 1 = .ok (.tableswitch 70 0 4 #[35, 42, 51, 58, 65], 35) := by decide +kernel
theorem dX8_told_36 : decode cX8_told 36 = .ok (.aload_n 0, 1) := by decide +kernel
theorem dX8_told_37 : decode cX8_told 37 = .ok (.getfield 9, 3) := by decide +kernel
theorem dX8_told_40 : decode cX8_told 40 = .ok (.iconst 0, 1) := by decide +kernel
theorem dX8_told_41 : decode cX8_told 41 = .ok (.iaload, 1) := by decide +kernel
theorem dX8_told_42 : decode cX8_told 42 = .ok (.ireturn, 1) := by decide +kernel
theorem dX8_told_43 : decode cX8_told 43 = .ok (.aload_n 0, 1) := by decide +kernel
theorem dX8_told_44 : decode cX8_told 44 = .ok (.sipush 223, 3) := by decide +kernel
theorem dX8_told_47 : decode cX8_told 47 = .ok (.iconst 2, 1) := by decide +kernel
theorem dX8_told_48 : decode cX8_told 48 = .ok (.invokevirtual 118, 3) := by decide +kernel
theorem dX8_told_51 : decode cX8_told 51 = .ok (.ireturn, 1) := by decide +kernel
theorem dX8_told_52 : decode cX8_told 52 = .ok (.aload_n 0, 1) := by decide +kernel
theorem dX8_told_53 : decode cX8_told 53 = .ok (.getfield 9, 3) := by decide +kernel
theorem dX8_told_56 : decode cX8_told 56 = .ok (.iconst 1, 1) := by decide +kernel
theorem dX8_told_57 : decode cX8_told 57 = .ok (.iaload, 1) := by decide +kernel
theorem dX8_told_58 : decode cX8_told 58 = .ok (.ireturn, 1) := by decide +kernel
theorem dX8_told_59 : decode cX8_told 59 = .ok (.aload_n 0, 1) := by decide +kernel
theorem dX8_told_60 : decode cX8_told 60 = .ok (.getfield 9, 3) := by decide +kernel
theorem dX8_told_63 : decode cX8_told 63 = .ok (.iconst 2, 1) := by decide +kernel
theorem dX8_told_64 : decode cX8_told 64 = .ok (.iaload, 1) := by decide +kernel
theorem dX8_told_65 : decode cX8_told 65 = .ok (.ireturn, 1) := by decide +kernel
theorem dX8_told_66 : decode cX8_told 66 = .ok (.aload_n 0, 1) := by decide +kernel
theorem dX8_told_67 : decode cX8_told 67 = .ok (.invokevirtual 149, 3) := by decide +kernel
theorem dX8_told_70 : decode cX8_told 70 = .ok (.ireturn, 1) := by decide +kernel
theorem dX8_told_71 : decode cX8_told 71 = .ok (.iconst (-1), 1) := by decide +kernel
theorem dX8_told_72 : decode cX8_told 72 = .ok (.ireturn, 1) := by decide +kernel
theorem dX8_isDone_0 : decode cX8_isDone 0 = .ok (.aload_n 0, 1) := by decide +kernel
theorem dX8_isDone_1 : decode cX8_isDone 1 = .ok (.iload_n 1, 1) := by decide +kernel
theorem dX8_isDone_2 : decode cX8_isDone 2 = .ok (.invokevirtual 134, 3) := by decide +kernel
theorem dX8_isDone_5 : decode cX8_isDone 5 = .ok (.aload_n 0, 1) := by decide +kernel
theorem dX8_isDone_6 : decode cX8_isDone 6 = .ok (.getfield 9, 3) := by decide +kernel
theorem dX8_isDone_9 : decode cX8_isDone 9 = .ok (.iconst 1, 1) := by decide +kernel
theorem dX8_isDone_10 : decode cX8_isDone 10 = .ok (.iaload, 1) := by decide +kernel
theorem dX8_isDone_11 : decode cX8_isDone 11 = .ok (.if_icmp .lt 7, 3) := by decide +kernel
theorem dX8_isDone_14 : decode cX8_isDone 14 = .ok (.iconst 1, 1) := by decide +kernel
theorem dX8_isDone_15 : decode cX8_isDone 15 = .ok (.goto 4, 3) := by decide +kernel
theorem dX8_isDone_18 : decode cX8_isDone 18 = .ok (.iconst 0, 1) := by decide +kernel
theorem dX8_isDone_19 : decode cX8_isDone 19 = .ok (.istore_n 2, 1) := by decide +kernel
theorem dX8_isDone_20 : decode cX8_isDone 20 = .ok (.aload_n 0, 1) := by decide +kernel
theorem dX8_isDone_21 : decode cX8_isDone 21 = .ok (.getfield 9, 3) := by decide +kernel
theorem dX8_isDone_24 : decode cX8_isDone 24 = .ok (.iconst 3, 1) := by decide +kernel
theorem dX8_isDone_25 : decode cX8_isDone 25 = .ok (.iload_n 1, 1) := by decide +kernel
theorem dX8_isDone_26 : decode cX8_isDone 26 = .ok (.iadd, 1) := by decide +kernel
theorem dX8_isDone_27 : decode cX8_isDone 27 = .ok (.iload_n 2, 1) := by decide +kernel
theorem dX8_isDone_28 : decode cX8_isDone 28 = .ok (.ifCond .eq 7, 3) := by decide +kernel
theorem dX8_isDone_31 : decode cX8_isDone 31 = .ok (.iconst 0, 1) := by decide +kernel
theorem dX8_isDone_32 : decode cX8_isDone 32 = .ok (.goto 4, 3) := by decide +kernel
theorem dX8_isDone_35 : decode cX8_isDone 35 = .ok (.iconst 1, 1) := by decide +kernel
theorem dX8_isDone_36 : decode cX8_isDone 36 = .ok (.iastore, 1) := by decide +kernel
theorem dX8_isDone_37 : decode cX8_isDone 37 = .ok (.aload_n 0, 1) := by decide +kernel
theorem dX8_isDone_38 : decode cX8_isDone 38 = .ok (.getfield 9, 3) := by decide +kernel
theorem dX8_isDone_41 : decode cX8_isDone 41 = .ok (.bipush 9, 2) := by decide +kernel
theorem dX8_isDone_43 : decode cX8_isDone 43 = .ok (.iload_n 1, 1) := by decide +kernel
theorem dX8_isDone_44 : decode cX8_isDone 44 = .ok (.iadd, 1) := by decide +kernel
theorem dX8_isDone_45 : decode cX8_isDone 45 = .ok (.iload_n 2, 1) := by decide +kernel
theorem dX8_isDone_46 : decode cX8_isDone 46 = .ok (.ifCond .eq 37, 3) := by decide +kernel
theorem dX8_isDone_49 : decode cX8_isDone 49 = .ok (.bipush 50, 2) := by decide +kernel
theorem dX8_isDone_51 : decode cX8_isDone 51 = .ok (.iconst 2, 1) := by decide +kernel
theorem dX8_isDone_52 : decode cX8_isDone 52 = .ok (.aload_n 0, 1) := by decide +kernel
theorem dX8_isDone_53 : decode cX8_isDone 53 = .ok (.getfield 9, 3) := by decide +kernel
theorem dX8_isDone_56 : decode cX8_isDone 56 = .ok (.bipush 15, 2) := by decide +kernel
theorem dX8_isDone_58 : decode cX8_isDone 58 = .ok (.iload_n 1, 1) := by decide +kernel
theorem dX8_isDone_59 : decode cX8_isDone 59 = .ok (.iadd, 1) := by decide +kernel
theorem dX8_isDone_60 : decode cX8_isDone 60 = .ok (.iaload, 1) := by decide +kernel
theorem dX8_isDone_61 : decode cX8_isDone 61 = .ok (.imul, 1) := by decide +kernel
theorem dX8_isDone_62 : decode cX8_isDone 62 = .ok (.isub, 1) := by decide +kernel
theorem dX8_isDone_63 : decode cX8_isDone 63 = .ok (.iconst 4, 1) := by decide +kernel
theorem dX8_isDone_64 : decode cX8_isDone 64 = .ok (.aload_n 0, 1) := by decide +kernel
theorem dX8_isDone_65 : decode cX8_isDone 65 = .ok (.getfield 9, 3) := by decide +kernel
theorem dX8_isDone_68 : decode cX8_isDone 68 = .ok (.bipush 21, 2) := by decide +kernel
theorem dX8_isDone_70 : decode cX8_isDone 70 = .ok (.iload_n 1, 1) := by decide +kernel
theorem dX8_isDone_71 : decode cX8_isDone 71 = .ok (.iadd, 1) := by decide +kernel
theorem dX8_isDone_72 : decode cX8_isDone 72 = .ok (.iaload, 1) := by decide +kernel
theorem dX8_isDone_73 : decode cX8_isDone 73 = .ok (.imul, 1) := by decide +kernel
theorem dX8_isDone_74 : decode cX8_isDone 74 = .ok (.iadd, 1) := by decide +kernel
theorem dX8_isDone_75 : decode cX8_isDone 75 = .ok (.bipush 99, 2) := by decide +kernel
theorem dX8_isDone_77 : decode cX8_isDone 77 = .ok (.invokestatic 143, 3) := by decide +kernel
theorem dX8_isDone_80 : decode cX8_isDone 80 = .ok (.goto 20, 3) := by decide +kernel
theorem dX8_isDone_83 : decode cX8_isDone 83 = .ok (.bipush 25, 2) := by decide +kernel
theorem dX8_isDone_85 : decode cX8_isDone 85 = .ok (.aload_n 0, 1) := by decide +kernel
theorem dX8_isDone_86 : decode cX8_isDone 86 = .ok (.getfield 9, 3) := by decide +kernel
theorem dX8_isDone_89 : decode cX8_isDone 89 = .ok (.bipush 15, 2) := by decide +kernel
theorem dX8_isDone_91 : decode cX8_isDone 91 = .ok (.iload_n 1, 1) := by decide +kernel
theorem dX8_isDone_92 : decode cX8_isDone 92 = .ok (.iadd, 1) := by decide +kernel
theorem dX8_isDone_93 : decode cX8_isDone 93 = .ok (.iaload, 1) := by decide +kernel
theorem dX8_isDone_94 : decode cX8_isDone 94 = .ok (.isub, 1) := by decide +kernel
theorem dX8_isDone_95 : decode cX8_isDone 95 = .ok (.bipush 99, 2) := by decide +kernel
theorem dX8_isDone_97 : decode cX8_isDone 97 = .ok (.invokestatic 143, 3) := by decide +kernel
theorem dX8_isDone_100 : decode cX8_isDone 100 = .ok (.iastore, 1) := by decide +kernel
theorem dX8_isDone_101 : decode cX8_isDone 101 = .ok (.aload_n 0, 1) := by decide +kernel
theorem dX8_isDone_102 : decode cX8_isDone 102 = .ok (.getfield 9, 3) := by decide +kernel
theorem dX8_isDone_105 : decode cX8_isDone 105 = .ok (.bipush 21, 2) := by decide +kernel
theorem dX8_isDone_107 : decode cX8_isDone 107 = .ok (.iload_n 1, 1) := by decide +kernel
theorem dX8_isDone_108 : decode cX8_isDone 108 = .ok (.iadd, 1) := by decide +kernel
theorem dX8_isDone_109 : decode cX8_isDone 109 = .ok (.iload_n 2, 1) := by decide +kernel
theorem dX8_isDone_110 : decode cX8_isDone 110 = .ok (.ifCond .eq 22, 3) := by decide +kernel
theorem dX8_isDone_113 : decode cX8_isDone 113 = .ok (.aload_n 0, 1) := by decide +kernel
theorem dX8_isDone_114 : decode cX8_isDone 114 = .ok (.getfield 9, 3) := by decide +kernel
theorem dX8_isDone_117 : decode cX8_isDone 117 = .ok (.bipush 21, 2) := by decide +kernel
theorem dX8_isDone_119 : decode cX8_isDone 119 = .ok (.iload_n 1, 1) := by decide +kernel
theorem dX8_isDone_120 : decode cX8_isDone 120 = .ok (.iadd, 1) := by decide +kernel
theorem dX8_isDone_121 : decode cX8_isDone 121 = .ok (.iaload, 1) := by decide +kernel
theorem dX8_isDone_122 : decode cX8_isDone 122 = .ok (.iconst 1, 1) := by decide +kernel
theorem dX8_isDone_123 : decode cX8_isDone 123 = .ok (.isub, 1) := by decide +kernel
theorem dX8_isDone_124 : decode cX8_isDone 124 = .ok (.bipush 9, 2) := by decide +kernel
theorem dX8_isDone_126 : decode cX8_isDone 126 = .ok (.invokestatic 143, 3) := by decide +kernel
theorem dX8_isDone_129 : decode cX8_isDone 129 = .ok (.goto 12, 3) := by decide +kernel
theorem dX8_isDone_132 : decode cX8_isDone 132 = .ok (.aload_n 0, 1) := by decide +kernel
theorem dX8_isDone_133 : decode cX8_isDone 133 = .ok (.getfield 9, 3) := by decide +kernel
theorem dX8_isDone_136 : decode cX8_isDone 136 = .ok (.bipush 21, 2) := by decide +kernel
theorem dX8_isDone_138 : decode cX8_isDone 138 = .ok (.iload_n 1, 1) := by decide +kernel
theorem dX8_isDone_139 : decode cX8_isDone 139 = .ok (.iadd, 1) := by decide +kernel
theorem dX8_isDone_140 : decode cX8_isDone 140 = .ok (.iaload, 1) := by decide +kernel
theorem dX8_isDone_141 : decode cX8_isDone 141 = .ok (.iastore, 1) := by decide +kernel
theorem dX8_isDone_142 : decode cX8_isDone 142 = .ok (.aload_n 0, 1) := by decide +kernel
theorem dX8_isDone_143 : decode cX8_isDone 143 = .ok (.getfield 9, 3) := by decide +kernel
theorem dX8_isDone_146 : decode cX8_isDone 146 = .ok (.bipush 15, 2) := by decide +kernel
theorem dX8_isDone_148 : decode cX8_isDone 148 = .ok (.iload_n 1, 1) := by decide +kernel
theorem dX8_isDone_149 : decode cX8_isDone 149 = .ok (.iadd, 1) := by decide +kernel
theorem dX8_isDone_150 : decode cX8_isDone 150 = .ok (.aload_n 0, 1) := by decide +kernel
theorem dX8_isDone_151 : decode cX8_isDone 151 = .ok (.getfield 9, 3) := by decide +kernel
theorem dX8_isDone_154 : decode cX8_isDone 154 = .ok (.bipush 15, 2) := by decide +kernel
theorem dX8_isDone_156 : decode cX8_isDone 156 = .ok (.iload_n 1, 1) := by decide +kernel
theorem dX8_isDone_157 : decode cX8_isDone 157 = .ok (.iadd, 1) := by decide +kernel
theorem dX8_isDone_158 : decode cX8_isDone 158 = .ok (.iaload, 1) := by decide +kernel
theorem dX8_isDone_159 : decode cX8_isDone 159 = .ok (.iconst 1, 1) := by decide +kernel
theorem dX8_isDone_160 : decode cX8_isDone 160 = .ok (.iadd, 1) := by decide +kernel
theorem dX8_isDone_161 : decode cX8_isDone 161 = .ok (.bipush 99, 2) := by decide +kernel
theorem dX8_isDone_163 : decode cX8_isDone 163 = .ok (.invokestatic 143, 3) := by decide +kernel
theorem dX8_isDone_166 : decode cX8_isDone 166 = .ok (.iastore, 1) := by decide +kernel
theorem dX8_isDone_167 : decode cX8_isDone 167 = .ok (.aload_n 0, 1) := by decide +kernel
theorem dX8_isDone_168 : decode cX8_isDone 168 = .ok (.getfield 9, 3) := by decide +kernel
theorem dX8_isDone_171 : decode cX8_isDone 171 = .ok (.bipush 27, 2) := by decide +kernel
theorem dX8_isDone_173 : decode cX8_isDone 173 = .ok (.iload_n 1, 1) := by decide +kernel
theorem dX8_isDone_174 : decode cX8_isDone 174 = .ok (.iadd, 1) := by decide +kernel
theorem dX8_isDone_175 : decode cX8_isDone 175 = .ok (.iconst 0, 1) := by decide +kernel
theorem dX8_isDone_176 : decode cX8_isDone 176 = .ok (.iastore, 1) := by decide +kernel
theorem dX8_isDone_177 : decode cX8_isDone 177 = .ok (.return_, 1) := by decide +kernel
theorem dX8_goes_0 : decode cX8_goes 0 = .ok (.iconst 0, 1) := by decide +kernel
theorem dX8_goes_1 : decode cX8_goes 1 = .ok (.istore_n 1, 1) := by decide +kernel
theorem dX8_goes_2 : decode cX8_goes 2 = .ok (.iload_n 1, 1) := by decide +kernel
theorem dX8_goes_3 : decode cX8_goes 3 = .ok (.aload_n 0, 1) := by decide +kernel
theorem dX8_goes_4 : decode cX8_goes 4 = .ok (.getfield 9, 3) := by decide +kernel
theorem dX8_goes_7 : decode cX8_goes 7 = .ok (.bipush 33, 2) := by decide +kernel
theorem dX8_goes_9 : decode cX8_goes 9 = .ok (.iaload, 1) := by decide +kernel
theorem dX8_goes_10 : decode cX8_goes 10 = .ok (.if_icmp .ge 43, 3) := by decide +kernel
theorem dX8_goes_13 : decode cX8_goes 13 = .ok (.aload_n 0, 1) := by decide +kernel
theorem dX8_goes_14 : decode cX8_goes 14 = .ok (.iload_n 1, 1) := by decide +kernel
theorem dX8_goes_15 : decode cX8_goes 15 = .ok (.invokevirtual 152, 3) := by decide +kernel
theorem dX8_goes_18 : decode cX8_goes 18 = .ok (.aload_n 0, 1) := by decide +kernel
theorem dX8_goes_19 : decode cX8_goes 19 = .ok (.getfield 9, 3) := by decide +kernel
theorem dX8_goes_22 : decode cX8_goes 22 = .ok (.iconst 2, 1) := by decide +kernel
theorem dX8_goes_23 : decode cX8_goes 23 = .ok (.dup2, 1) := by decide +kernel
theorem dX8_goes_24 : decode cX8_goes 24 = .ok (.iaload, 1) := by decide +kernel
theorem dX8_goes_25 : decode cX8_goes 25 = .ok (.aload_n 0, 1) := by decide +kernel
theorem dX8_goes_26 : decode cX8_goes 26 = .ok (.getfield 9, 3) := by decide +kernel
theorem dX8_goes_29 : decode cX8_goes 29 = .ok (.iconst 3, 1) := by decide +kernel
theorem dX8_goes_30 : decode cX8_goes 30 = .ok (.iload_n 1, 1) := by decide +kernel
theorem dX8_goes_31 : decode cX8_goes 31 = .ok (.iadd, 1) := by decide +kernel
theorem dX8_goes_32 : decode cX8_goes 32 = .ok (.iaload, 1) := by decide +kernel
theorem dX8_goes_33 : decode cX8_goes 33 = .ok (.aload_n 0, 1) := by decide +kernel
theorem dX8_goes_34 : decode cX8_goes 34 = .ok (.getfield 9, 3) := by decide +kernel
theorem dX8_goes_37 : decode cX8_goes 37 = .ok (.bipush 46, 2) := by decide +kernel
theorem dX8_goes_39 : decode cX8_goes 39 = .ok (.iload_n 1, 1) := by decide +kernel
theorem dX8_goes_40 : decode cX8_goes 40 = .ok (.iadd, 1) := by decide +kernel
theorem dX8_goes_41 : decode cX8_goes 41 = .ok (.iaload, 1) := by decide +kernel
theorem dX8_goes_42 : decode cX8_goes 42 = .ok (.iconst 1, 1) := by decide +kernel
theorem dX8_goes_43 : decode cX8_goes 43 = .ok (.iadd, 1) := by decide +kernel
theorem dX8_goes_44 : decode cX8_goes 44 = .ok (.imul, 1) := by decide +kernel
theorem dX8_goes_45 : decode cX8_goes 45 = .ok (.iadd, 1) := by decide +kernel
theorem dX8_goes_46 : decode cX8_goes 46 = .ok (.iastore, 1) := by decide +kernel
theorem dX8_goes_47 : decode cX8_goes 47 = .ok (.iinc 1 1, 3) := by decide +kernel
theorem dX8_goes_50 : decode cX8_goes 50 = .ok (.goto (-48), 3) := by decide +kernel
theorem dX8_goes_53 : decode cX8_goes 53 = .ok (.aload_n 0, 1) := by decide +kernel
theorem dX8_goes_54 : decode cX8_goes 54 = .ok (.getfield 9, 3) := by decide +kernel
theorem dX8_goes_57 : decode cX8_goes 57 = .ok (.iconst 0, 1) := by decide +kernel
theorem dX8_goes_58 : decode cX8_goes 58 = .ok (.dup2, 1) := by decide +kernel
theorem dX8_goes_59 : decode cX8_goes 59 = .ok (.iaload, 1) := by decide +kernel
theorem dX8_goes_60 : decode cX8_goes 60 = .ok (.iconst 1, 1) := by decide +kernel
theorem dX8_goes_61 : decode cX8_goes 61 = .ok (.iadd, 1) := by decide +kernel
theorem dX8_goes_62 : decode cX8_goes 62 = .ok (.iastore, 1) := by decide +kernel
theorem dX8_goes_63 : decode cX8_goes 63 = .ok (.return_, 1) := by decide +kernel
theorem dX8_goesOn_0 : decode cX8_goesOn 0 = .ok (.iconst 0, 1) := by decide +kernel
theorem dX8_goesOn_1 : decode cX8_goesOn 1 = .ok (.istore_n 2, 1) := by decide +kernel
theorem dX8_goesOn_2 : decode cX8_goesOn 2 = .ok (.iload_n 2, 1) := by decide +kernel
theorem dX8_goesOn_3 : decode cX8_goesOn 3 = .ok (.iload_n 1, 1) := by decide +kernel
theorem dX8_goesOn_4 : decode cX8_goesOn 4 = .ok (.if_icmp .ge 13, 3) := by decide +kernel
theorem dX8_goesOn_7 : decode cX8_goesOn 7 = .ok (.aload_n 0, 1) := by decide +kernel
theorem dX8_goesOn_8 : decode cX8_goesOn 8 = .ok (.invokevirtual 155, 3) := by decide +kernel
theorem dX8_goesOn_11 : decode cX8_goesOn 11 = .ok (.iinc 2 1, 3) := by decide +kernel
theorem dX8_goesOn_14 : decode cX8_goesOn 14 = .ok (.goto (-12), 3) := by decide +kernel
theorem dX8_goesOn_17 : decode cX8_goesOn 17 = .ok (.return_, 1) := by decide +kernel
theorem dX8_isDoneOn_0 : decode cX8_isDoneOn 0 = .ok (.iconst 0, 1) := by decide +kernel
theorem dX8_isDoneOn_1 : decode cX8_isDoneOn 1 = .ok (.istore_n 3, 1) := by decide +kernel
theorem dX8_isDoneOn_2 : decode cX8_isDoneOn 2 = .ok (.iload_n 3, 1) := by decide +kernel
theorem dX8_isDoneOn_3 : decode cX8_isDoneOn 3 = .ok (.iload_n 2, 1) := by decide +kernel
theorem dX8_isDoneOn_4 : decode cX8_isDoneOn 4 = .ok (.if_icmp .ge 24, 3) := by decide +kernel
theorem dX8_isDoneOn_7 : decode cX8_isDoneOn 7 = .ok (.aload_n 0, 1) := by decide +kernel
theorem dX8_isDoneOn_8 : decode cX8_isDoneOn 8 = .ok (.iload_n 1, 1) := by decide +kernel
theorem dX8_isDoneOn_9 : decode cX8_isDoneOn 9 = .ok (.invokevirtual 152, 3) := by decide +kernel
theorem dX8_isDoneOn_12 : decode cX8_isDoneOn 12 = .ok (.aload_n 0, 1) := by decide +kernel
theorem dX8_isDoneOn_13 : decode cX8_isDoneOn 13 = .ok (.getfield 9, 3) := by decide +kernel
theorem dX8_isDoneOn_16 : decode cX8_isDoneOn 16 = .ok (.iconst 0, 1) := by decide +kernel
theorem dX8_isDoneOn_17 : decode cX8_isDoneOn 17 = .ok (.dup2, 1) := by decide +kernel
theorem dX8_isDoneOn_18 : decode cX8_isDoneOn 18 = .ok (.iaload, 1) := by decide +kernel
theorem dX8_isDoneOn_19 : decode cX8_isDoneOn 19 = .ok (.iconst 1, 1) := by decide +kernel
theorem dX8_isDoneOn_20 : decode cX8_isDoneOn 20 = .ok (.iadd, 1) := by decide +kernel
theorem dX8_isDoneOn_21 : decode cX8_isDoneOn 21 = .ok (.iastore, 1) := by decide +kernel
theorem dX8_isDoneOn_22 : decode cX8_isDoneOn 22 = .ok (.iinc 3 1, 3) := by decide +kernel
theorem dX8_isDoneOn_25 : decode cX8_isDoneOn 25 = .ok (.goto (-23), 3) := by decide +kernel
theorem dX8_isDoneOn_28 : decode cX8_isDoneOn 28 = .ok (.return_, 1) := by decide +kernel
theorem dX8_pass_0 : decode cX8_pass 0 = .ok (.iload_n 1, 1) := by decide +kernel
theorem dX8_pass_1 : decode cX8_pass 1 = .ok (.iconst 0, 1) := by decide +kernel
theorem dX8_pass_2 : decode cX8_pass 2 = .ok (.bipush 60, 2) := by decide +kernel
theorem dX8_pass_4 : decode cX8_pass 4 = .ok (.invokestatic 35, 3) := by decide +kernel
theorem dX8_pass_7 : decode cX8_pass 7 = .ok (.ifCond .ne 6, 3) := by decide +kernel
theorem dX8_pass_10 : decode cX8_pass 10 = .ok (.bipush (-2), 2) := by decide +kernel
theorem dX8_pass_12 : decode cX8_pass 12 = .ok (.ireturn, 1) := by decide +kernel
theorem dX8_pass_13 : decode cX8_pass 13 = .ok (.aload_n 0, 1) := by decide +kernel
theorem dX8_pass_14 : decode cX8_pass 14 = .ok (.getfield 9, 3) := by decide +kernel
theorem dX8_pass_17 : decode cX8_pass 17 = .ok (.iconst 0, 1) := by decide +kernel
theorem dX8_pass_18 : decode cX8_pass 18 = .ok (.iaload, 1) := by decide +kernel
theorem dX8_pass_19 : decode cX8_pass 19 = .ok (.iload_n 1, 1) := by decide +kernel
theorem dX8_pass_20 : decode cX8_pass 20 = .ok (.iadd, 1) := by decide +kernel
theorem dX8_pass_21 : decode cX8_pass 21 = .ok (.sipush 9999, 3) := by decide +kernel
theorem dX8_pass_24 : decode cX8_pass 24 = .ok (.if_icmp .le 6, 3) := by decide +kernel
theorem dX8_pass_27 : decode cX8_pass 27 = .ok (.bipush (-3), 2) := by decide +kernel
theorem dX8_pass_29 : decode cX8_pass 29 = .ok (.ireturn, 1) := by decide +kernel
theorem dX8_pass_30 : decode cX8_pass 30 = .ok (.iconst 0, 1) := by decide +kernel
theorem dX8_pass_31 : decode cX8_pass 31 = .ok (.istore_n 2, 1) := by decide +kernel
theorem dX8_pass_32 : decode cX8_pass 32 = .ok (.iload_n 2, 1) := by decide +kernel
theorem dX8_pass_33 : decode cX8_pass 33 = .ok (.iload_n 1, 1) := by decide +kernel
theorem dX8_pass_34 : decode cX8_pass 34 = .ok (.if_icmp .ge 30, 3) := by decide +kernel
theorem dX8_pass_37 : decode cX8_pass 37 = .ok (.aload_n 0, 1) := by decide +kernel
theorem dX8_pass_38 : decode cX8_pass 38 = .ok (.invokevirtual 155, 3) := by decide +kernel
theorem dX8_pass_41 : decode cX8_pass 41 = .ok (.aload_n 0, 1) := by decide +kernel
theorem dX8_pass_42 : decode cX8_pass 42 = .ok (.getfield 9, 3) := by decide +kernel
theorem dX8_pass_45 : decode cX8_pass 45 = .ok (.iconst 2, 1) := by decide +kernel
theorem dX8_pass_46 : decode cX8_pass 46 = .ok (.aload_n 0, 1) := by decide +kernel
theorem dX8_pass_47 : decode cX8_pass 47 = .ok (.getfield 9, 3) := by decide +kernel
theorem dX8_pass_50 : decode cX8_pass 50 = .ok (.iconst 2, 1) := by decide +kernel
theorem dX8_pass_51 : decode cX8_pass 51 = .ok (.iaload, 1) := by decide +kernel
theorem dX8_pass_52 : decode cX8_pass 52 = .ok (.ldc 158, 2) := by decide +kernel
theorem dX8_pass_54 : decode cX8_pass 54 = .ok (.invokestatic 143, 3) := by decide +kernel
theorem dX8_pass_57 : decode cX8_pass 57 = .ok (.iastore, 1) := by decide +kernel
theorem dX8_pass_58 : decode cX8_pass 58 = .ok (.iinc 2 1, 3) := by decide +kernel
theorem dX8_pass_61 : decode cX8_pass 61 = .ok (.goto (-29), 3) := by decide +kernel
theorem dX8_pass_64 : decode cX8_pass 64 = .ok (.aload_n 0, 1) := by decide +kernel
theorem dX8_pass_65 : decode cX8_pass 65 = .ok (.getfield 9, 3) := by decide +kernel
theorem dX8_pass_68 : decode cX8_pass 68 = .ok (.iconst 0, 1) := by decide +kernel
theorem dX8_pass_69 : decode cX8_pass 69 = .ok (.iaload, 1) := by decide +kernel
theorem dX8_pass_70 : decode cX8_pass 70 = .ok (.ireturn, 1) := by decide +kernel
theorem dX8_on_0 : decode cX8_on 0 = .ok (.iload_n 2, 1) := by decide +kernel
theorem dX8_on_1 : decode cX8_on 1 = .ok (.iconst 0, 1) := by decide +kernel
theorem dX8_on_2 : decode cX8_on 2 = .ok (.iconst 1, 1) := by decide +kernel
theorem dX8_on_3 : decode cX8_on 3 = .ok (.invokestatic 35, 3) := by decide +kernel
theorem dX8_on_6 : decode cX8_on 6 = .ok (.ifCond .ne 27, 3) := by decide +kernel
theorem dX8_on_9 : decode cX8_on 9 = .ok (.aload_n 0, 1) := by decide +kernel
theorem dX8_on_10 : decode cX8_on 10 = .ok (.iload_n 2, 1) := by decide +kernel
theorem dX8_on_11 : decode cX8_on 11 = .ok (.bipush 10, 2) := by decide +kernel
theorem dX8_on_13 : decode cX8_on 13 = .ok (.isub, 1) := by decide +kernel
theorem dX8_on_14 : decode cX8_on 14 = .ok (.invokevirtual 129, 3) := by decide +kernel
theorem dX8_on_17 : decode cX8_on 17 = .ok (.ifCond .ne 16, 3) := by decide +kernel
theorem dX8_on_20 : decode cX8_on 20 = .ok (.aload_n 0, 1) := by decide +kernel
theorem dX8_on_21 : decode cX8_on 21 = .ok (.iload_n 2, 1) := by decide +kernel
theorem dX8_on_22 : decode cX8_on 22 = .ok (.bipush 20, 2) := by decide +kernel
theorem dX8_on_24 : decode cX8_on 24 = .ok (.isub, 1) := by decide +kernel
theorem dX8_on_25 : decode cX8_on 25 = .ok (.invokevirtual 129, 3) := by decide +kernel
theorem dX8_on_28 : decode cX8_on 28 = .ok (.ifCond .ne 5, 3) := by decide +kernel
theorem dX8_on_31 : decode cX8_on 31 = .ok (.iconst (-1), 1) := by decide +kernel
theorem dX8_on_32 : decode cX8_on 32 = .ok (.ireturn, 1) := by decide +kernel
theorem dX8_on_33 : decode cX8_on 33 = .ok (.iload_n 1, 1) := by decide +kernel
theorem dX8_on_34 : decode cX8_on 34 = .ok (.iconst 0, 1) := by decide +kernel
theorem dX8_on_35 : decode cX8_on 35 = .ok (.bipush 60, 2) := by decide +kernel
theorem dX8_on_37 : decode cX8_on 37 = .ok (.invokestatic 35, 3) := by decide +kernel
theorem dX8_on_40 : decode cX8_on 40 = .ok (.ifCond .ne 6, 3) := by decide +kernel
theorem dX8_on_43 : decode cX8_on 43 = .ok (.bipush (-2), 2) := by decide +kernel
theorem dX8_on_45 : decode cX8_on 45 = .ok (.ireturn, 1) := by decide +kernel
theorem dX8_on_46 : decode cX8_on 46 = .ok (.aload_n 0, 1) := by decide +kernel
theorem dX8_on_47 : decode cX8_on 47 = .ok (.invokevirtual 159, 3) := by decide +kernel
theorem dX8_on_50 : decode cX8_on 50 = .ok (.aload_n 0, 1) := by decide +kernel
theorem dX8_on_51 : decode cX8_on 51 = .ok (.iload_n 1, 1) := by decide +kernel
theorem dX8_on_52 : decode cX8_on 52 = .ok (.invokevirtual 162, 3) := by decide +kernel
theorem dX8_on_55 : decode cX8_on 55 = .ok (.iload_n 2, 1) := by decide +kernel
theorem dX8_on_56 : decode cX8_on 56 = .ok (.ifCond .ne 10, 3) := by decide +kernel
theorem dX8_on_59 : decode cX8_on 59 = .ok (.aload_n 0, 1) := by decide +kernel
theorem dX8_on_60 : decode cX8_on 60 = .ok (.invokevirtual 149, 3) := by decide +kernel
theorem dX8_on_63 : decode cX8_on 63 = .ok (.goto 50, 3) := by decide +kernel
theorem dX8_on_66 : decode cX8_on 66 = .ok (.iload_n 2, 1) := by decide +kernel
theorem dX8_on_67 : decode cX8_on 67 = .ok (.iconst 1, 1) := by decide +kernel
theorem dX8_on_68 : decode cX8_on 68 = .ok (.if_icmp .ne 12, 3) := by decide +kernel
theorem dX8_on_71 : decode cX8_on 71 = .ok (.aload_n 0, 1) := by decide +kernel
theorem dX8_on_72 : decode cX8_on 72 = .ok (.getfield 9, 3) := by decide +kernel
theorem dX8_on_75 : decode cX8_on 75 = .ok (.iconst 2, 1) := by decide +kernel
theorem dX8_on_76 : decode cX8_on 76 = .ok (.iaload, 1) := by decide +kernel
theorem dX8_on_77 : decode cX8_on 77 = .ok (.goto 36, 3) := by decide +kernel
theorem dX8_on_80 : decode cX8_on 80 = .ok (.iload_n 2, 1) := by decide +kernel
theorem dX8_on_81 : decode cX8_on 81 = .ok (.bipush 20, 2) := by decide +kernel
theorem dX8_on_83 : decode cX8_on 83 = .ok (.if_icmp .ge 18, 3) := by decide +kernel
theorem dX8_on_86 : decode cX8_on 86 = .ok (.aload_n 0, 1) := by decide +kernel
theorem dX8_on_87 : decode cX8_on 87 = .ok (.getfield 9, 3) := by decide +kernel
theorem dX8_on_90 : decode cX8_on 90 = .ok (.bipush 9, 2) := by decide +kernel
theorem dX8_on_92 : decode cX8_on 92 = .ok (.iload_n 2, 1) := by decide +kernel
theorem dX8_on_93 : decode cX8_on 93 = .ok (.iadd, 1) := by decide +kernel
theorem dX8_on_94 : decode cX8_on 94 = .ok (.bipush 10, 2) := by decide +kernel
theorem dX8_on_96 : decode cX8_on 96 = .ok (.isub, 1) := by decide +kernel
theorem dX8_on_97 : decode cX8_on 97 = .ok (.iaload, 1) := by decide +kernel
theorem dX8_on_98 : decode cX8_on 98 = .ok (.goto 15, 3) := by decide +kernel
theorem dX8_on_101 : decode cX8_on 101 = .ok (.aload_n 0, 1) := by decide +kernel
theorem dX8_on_102 : decode cX8_on 102 = .ok (.getfield 9, 3) := by decide +kernel
theorem dX8_on_105 : decode cX8_on 105 = .ok (.bipush 15, 2) := by decide +kernel
theorem dX8_on_107 : decode cX8_on 107 = .ok (.iload_n 2, 1) := by decide +kernel
theorem dX8_on_108 : decode cX8_on 108 = .ok (.iadd, 1) := by decide +kernel
theorem dX8_on_109 : decode cX8_on 109 = .ok (.bipush 20, 2) := by decide +kernel
theorem dX8_on_111 : decode cX8_on 111 = .ok (.isub, 1) := by decide +kernel
theorem dX8_on_112 : decode cX8_on 112 = .ok (.iaload, 1) := by decide +kernel
theorem dX8_on_113 : decode cX8_on 113 = .ok (.istore_n 3, 1) := by decide +kernel
theorem dX8_on_114 : decode cX8_on 114 = .ok (.aload_n 0, 1) := by decide +kernel
theorem dX8_on_115 : decode cX8_on 115 = .ok (.invokevirtual 165, 3) := by decide +kernel
theorem dX8_on_118 : decode cX8_on 118 = .ok (.iload_n 3, 1) := by decide +kernel
theorem dX8_on_119 : decode cX8_on 119 = .ok (.ireturn, 1) := by decide +kernel
theorem dX8_minutesOf_0 : decode cX8_minutesOf 0 = .ok (.iconst 0, 1) := by decide +kernel
theorem dX8_minutesOf_1 : decode cX8_minutesOf 1 = .ok (.istore_n 2, 1) := by decide +kernel
theorem dX8_minutesOf_2 : decode cX8_minutesOf 2 = .ok (.iconst 0, 1) := by decide +kernel
theorem dX8_minutesOf_3 : decode cX8_minutesOf 3 = .ok (.istore_n 3, 1) := by decide +kernel
theorem dX8_minutesOf_4 : decode cX8_minutesOf 4 = .ok (.iload_n 3, 1) := by decide +kernel
theorem dX8_minutesOf_5 : decode cX8_minutesOf 5 = .ok (.aload_n 0, 1) := by decide +kernel
theorem dX8_minutesOf_6 : decode cX8_minutesOf 6 = .ok (.getfield 9, 3) := by decide +kernel
theorem dX8_minutesOf_9 : decode cX8_minutesOf 9 = .ok (.bipush 33, 2) := by decide +kernel
theorem dX8_minutesOf_11 : decode cX8_minutesOf 11 = .ok (.iaload, 1) := by decide +kernel
theorem dX8_minutesOf_12 : decode cX8_minutesOf 12 = .ok (.if_icmp .ge 38, 3) := by decide +kernel
theorem dX8_minutesOf_15 : decode cX8_minutesOf 15 = .ok (.iload_n 2, 1) := by decide +kernel
theorem dX8_minutesOf_16 : decode cX8_minutesOf 16 = .ok (.iload_n 1, 1) := by decide +kernel
theorem dX8_minutesOf_17 : decode cX8_minutesOf 17 = .ok (.iload_n 3, 1) := by decide +kernel
theorem dX8_minutesOf_18 : decode cX8_minutesOf 18 = .ok (.ishr, 1) := by decide +kernel
theorem dX8_minutesOf_19 : decode cX8_minutesOf 19 = .ok (.iconst 1, 1) := by decide +kernel
theorem dX8_minutesOf_20 : decode cX8_minutesOf 20 = .ok (.iand, 1) := by decide +kernel
theorem dX8_minutesOf_21 : decode cX8_minutesOf 21 = .ok (.iconst 1, 1) := by decide +kernel
theorem dX8_minutesOf_22 : decode cX8_minutesOf 22 = .ok (.if_icmp .ne 19, 3) := by decide +kernel
theorem dX8_minutesOf_25 : decode cX8_minutesOf 25 = .ok (.aload_n 0, 1) := by decide +kernel
theorem dX8_minutesOf_26 : decode cX8_minutesOf 26 = .ok (.getfield 9, 3) := by decide +kernel
theorem dX8_minutesOf_29 : decode cX8_minutesOf 29 = .ok (.bipush 46, 2) := by decide +kernel
theorem dX8_minutesOf_31 : decode cX8_minutesOf 31 = .ok (.iload_n 3, 1) := by decide +kernel
theorem dX8_minutesOf_32 : decode cX8_minutesOf 32 = .ok (.iadd, 1) := by decide +kernel
theorem dX8_minutesOf_33 : decode cX8_minutesOf 33 = .ok (.iaload, 1) := by decide +kernel
theorem dX8_minutesOf_34 : decode cX8_minutesOf 34 = .ok (.iconst 4, 1) := by decide +kernel
theorem dX8_minutesOf_35 : decode cX8_minutesOf 35 = .ok (.irem, 1) := by decide +kernel
theorem dX8_minutesOf_36 : decode cX8_minutesOf 36 = .ok (.iconst 1, 1) := by decide +kernel
theorem dX8_minutesOf_37 : decode cX8_minutesOf 37 = .ok (.iadd, 1) := by decide +kernel
theorem dX8_minutesOf_38 : decode cX8_minutesOf 38 = .ok (.goto 4, 3) := by decide +kernel
theorem dX8_minutesOf_41 : decode cX8_minutesOf 41 = .ok (.iconst 0, 1) := by decide +kernel
theorem dX8_minutesOf_42 : decode cX8_minutesOf 42 = .ok (.iadd, 1) := by decide +kernel
theorem dX8_minutesOf_43 : decode cX8_minutesOf 43 = .ok (.istore_n 2, 1) := by decide +kernel
theorem dX8_minutesOf_44 : decode cX8_minutesOf 44 = .ok (.iinc 3 1, 3) := by decide +kernel
theorem dX8_minutesOf_47 : decode cX8_minutesOf 47 = .ok (.goto (-43), 3) := by decide +kernel
theorem dX8_minutesOf_50 : decode cX8_minutesOf 50 = .ok (.iload_n 2, 1) := by decide +kernel
theorem dX8_minutesOf_51 : decode cX8_minutesOf 51 = .ok (.ireturn, 1) := by decide +kernel
theorem dX8_doubtsOf_0 : decode cX8_doubtsOf 0 = .ok (.iconst 0, 1) := by decide +kernel
theorem dX8_doubtsOf_1 : decode cX8_doubtsOf 1 = .ok (.istore_n 2, 1) := by decide +kernel
theorem dX8_doubtsOf_2 : decode cX8_doubtsOf 2 = .ok (.iconst 0, 1) := by decide +kernel
theorem dX8_doubtsOf_3 : decode cX8_doubtsOf 3 = .ok (.istore_n 3, 1) := by decide +kernel
theorem dX8_doubtsOf_4 : decode cX8_doubtsOf 4 = .ok (.iload_n 3, 1) := by decide +kernel
theorem dX8_doubtsOf_5 : decode cX8_doubtsOf 5 = .ok (.aload_n 0, 1) := by decide +kernel
theorem dX8_doubtsOf_6 : decode cX8_doubtsOf 6 = .ok (.getfield 9, 3) := by decide +kernel
theorem dX8_doubtsOf_9 : decode cX8_doubtsOf 9 = .ok (.bipush 33, 2) := by decide +kernel
theorem dX8_doubtsOf_11 : decode cX8_doubtsOf 11 = .ok (.iaload, 1) := by decide +kernel
theorem dX8_doubtsOf_12 : decode cX8_doubtsOf 12 = .ok (.if_icmp .ge 53, 3) := by decide +kernel
theorem dX8_doubtsOf_15 : decode cX8_doubtsOf 15 = .ok (.aload_n 0, 1) := by decide +kernel
theorem dX8_doubtsOf_16 : decode cX8_doubtsOf 16 = .ok (.iload_n 3, 1) := by decide +kernel
theorem dX8_doubtsOf_17 : decode cX8_doubtsOf 17 = .ok (.bipush 20, 2) := by decide +kernel
theorem dX8_doubtsOf_19 : decode cX8_doubtsOf 19 = .ok (.invokevirtual 126, 3) := by decide +kernel
theorem dX8_doubtsOf_22 : decode cX8_doubtsOf 22 = .ok (.istore 4, 2) := by decide +kernel
theorem dX8_doubtsOf_24 : decode cX8_doubtsOf 24 = .ok (.iload_n 2, 1) := by decide +kernel
theorem dX8_doubtsOf_25 : decode cX8_doubtsOf 25 = .ok (.iload_n 1, 1) := by decide +kernel
theorem dX8_doubtsOf_26 : decode cX8_doubtsOf 26 = .ok (.iload_n 3, 1) := by decide +kernel
theorem dX8_doubtsOf_27 : decode cX8_doubtsOf 27 = .ok (.ishr, 1) := by decide +kernel
theorem dX8_doubtsOf_28 : decode cX8_doubtsOf 28 = .ok (.iconst 1, 1) := by decide +kernel
theorem dX8_doubtsOf_29 : decode cX8_doubtsOf 29 = .ok (.iand, 1) := by decide +kernel
theorem dX8_doubtsOf_30 : decode cX8_doubtsOf 30 = .ok (.iconst 1, 1) := by decide +kernel
theorem dX8_doubtsOf_31 : decode cX8_doubtsOf 31 = .ok (.if_icmp .ne 25, 3) := by decide +kernel
theorem dX8_doubtsOf_34 : decode cX8_doubtsOf 34 = .ok (.iload 4, 2) := by decide +kernel
theorem dX8_doubtsOf_36 : decode cX8_doubtsOf 36 = .ok (.ifCond .le 20, 3) := by decide +kernel
theorem dX8_doubtsOf_39 : decode cX8_doubtsOf 39 = .ok (.iload 4, 2) := by decide +kernel
theorem dX8_doubtsOf_41 : decode cX8_doubtsOf 41 = .ok (.aload_n 0, 1) := by decide +kernel
theorem dX8_doubtsOf_42 : decode cX8_doubtsOf 42 = .ok (.getfield 9, 3) := by decide +kernel
theorem dX8_doubtsOf_45 : decode cX8_doubtsOf 45 = .ok (.bipush 46, 2) := by decide +kernel
theorem dX8_doubtsOf_47 : decode cX8_doubtsOf 47 = .ok (.iload_n 3, 1) := by decide +kernel
theorem dX8_doubtsOf_48 : decode cX8_doubtsOf 48 = .ok (.iadd, 1) := by decide +kernel
theorem dX8_doubtsOf_49 : decode cX8_doubtsOf 49 = .ok (.iaload, 1) := by decide +kernel
theorem dX8_doubtsOf_50 : decode cX8_doubtsOf 50 = .ok (.iconst 1, 1) := by decide +kernel
theorem dX8_doubtsOf_51 : decode cX8_doubtsOf 51 = .ok (.iadd, 1) := by decide +kernel
theorem dX8_doubtsOf_52 : decode cX8_doubtsOf 52 = .ok (.imul, 1) := by decide +kernel
theorem dX8_doubtsOf_53 : decode cX8_doubtsOf 53 = .ok (.goto 4, 3) := by decide +kernel
theorem dX8_doubtsOf_56 : decode cX8_doubtsOf 56 = .ok (.iconst 0, 1) := by decide +kernel
theorem dX8_doubtsOf_57 : decode cX8_doubtsOf 57 = .ok (.iadd, 1) := by decide +kernel
theorem dX8_doubtsOf_58 : decode cX8_doubtsOf 58 = .ok (.istore_n 2, 1) := by decide +kernel
theorem dX8_doubtsOf_59 : decode cX8_doubtsOf 59 = .ok (.iinc 3 1, 3) := by decide +kernel
theorem dX8_doubtsOf_62 : decode cX8_doubtsOf 62 = .ok (.goto (-58), 3) := by decide +kernel
theorem dX8_doubtsOf_65 : decode cX8_doubtsOf 65 = .ok (.iload_n 2, 1) := by decide +kernel
theorem dX8_doubtsOf_66 : decode cX8_doubtsOf 66 = .ok (.ireturn, 1) := by decide +kernel
theorem dX8_best_0 : decode cX8_best 0 = .ok (.iload_n 2, 1) := by decide +kernel
theorem dX8_best_1 : decode cX8_best 1 = .ok (.iconst 0, 1) := by decide +kernel
theorem dX8_best_2 : decode cX8_best 2 = .ok (.iconst 1, 1) := by decide +kernel
theorem dX8_best_3 : decode cX8_best 3 = .ok (.invokestatic 35, 3) := by decide +kernel
theorem dX8_best_6 : decode cX8_best 6 = .ok (.ifCond .ne 5, 3) := by decide +kernel
theorem dX8_best_9 : decode cX8_best 9 = .ok (.iconst (-1), 1) := by decide +kernel
theorem dX8_best_10 : decode cX8_best 10 = .ok (.ireturn, 1) := by decide +kernel
theorem dX8_best_11 : decode cX8_best 11 = .ok (.iload_n 1, 1) := by decide +kernel
theorem dX8_best_12 : decode cX8_best 12 = .ok (.iconst 0, 1) := by decide +kernel
theorem dX8_best_13 : decode cX8_best 13 = .ok (.bipush 30, 2) := by decide +kernel
theorem dX8_best_15 : decode cX8_best 15 = .ok (.invokestatic 35, 3) := by decide +kernel
theorem dX8_best_18 : decode cX8_best 18 = .ok (.ifCond .ne 6, 3) := by decide +kernel
theorem dX8_best_21 : decode cX8_best 21 = .ok (.bipush (-2), 2) := by decide +kernel
theorem dX8_best_23 : decode cX8_best 23 = .ok (.ireturn, 1) := by decide +kernel
theorem dX8_best_24 : decode cX8_best 24 = .ok (.iconst 0, 1) := by decide +kernel
theorem dX8_best_25 : decode cX8_best 25 = .ok (.istore_n 3, 1) := by decide +kernel
theorem dX8_best_26 : decode cX8_best 26 = .ok (.iconst 1, 1) := by decide +kernel
theorem dX8_best_27 : decode cX8_best 27 = .ok (.istore 4, 2) := by decide +kernel
theorem dX8_best_29 : decode cX8_best 29 = .ok (.iload 4, 2) := by decide +kernel
theorem dX8_best_31 : decode cX8_best 31 = .ok (.iconst 1, 1) := by decide +kernel
theorem dX8_best_32 : decode cX8_best 32 = .ok (.aload_n 0, 1) := by decide +kernel
theorem dX8_best_33 : decode cX8_best 33 = .ok (.getfield 9, 3) := by decide +kernel
theorem dX8_best_36 : decode cX8_best 36 = .ok (.bipush 33, 2) := by decide +kernel
theorem dX8_best_38 : decode cX8_best 38 = .ok (.iaload, 1) := by decide +kernel
theorem dX8_best_39 : decode cX8_best 39 = .ok (.ishl, 1) := by decide +kernel
theorem dX8_best_40 : decode cX8_best 40 = .ok (.if_icmp .ge 40, 3) := by decide +kernel
theorem dX8_best_43 : decode cX8_best 43 = .ok (.aload_n 0, 1) := by decide +kernel
theorem dX8_best_44 : decode cX8_best 44 = .ok (.iload 4, 2) := by decide +kernel
theorem dX8_best_46 : decode cX8_best 46 = .ok (.invokevirtual 168, 3) := by decide +kernel
theorem dX8_best_49 : decode cX8_best 49 = .ok (.iload_n 1, 1) := by decide +kernel
theorem dX8_best_50 : decode cX8_best 50 = .ok (.if_icmp .gt 22, 3) := by decide +kernel
theorem dX8_best_53 : decode cX8_best 53 = .ok (.aload_n 0, 1) := by decide +kernel
theorem dX8_best_54 : decode cX8_best 54 = .ok (.iload 4, 2) := by decide +kernel
theorem dX8_best_56 : decode cX8_best 56 = .ok (.invokevirtual 171, 3) := by decide +kernel
theorem dX8_best_59 : decode cX8_best 59 = .ok (.aload_n 0, 1) := by decide +kernel
theorem dX8_best_60 : decode cX8_best 60 = .ok (.iload_n 3, 1) := by decide +kernel
theorem dX8_best_61 : decode cX8_best 61 = .ok (.invokevirtual 171, 3) := by decide +kernel
theorem dX8_best_64 : decode cX8_best 64 = .ok (.if_icmp .le 8, 3) := by decide +kernel
theorem dX8_best_67 : decode cX8_best 67 = .ok (.iload 4, 2) := by decide +kernel
theorem dX8_best_69 : decode cX8_best 69 = .ok (.goto 4, 3) := by decide +kernel
theorem dX8_best_72 : decode cX8_best 72 = .ok (.iload_n 3, 1) := by decide +kernel
theorem dX8_best_73 : decode cX8_best 73 = .ok (.istore_n 3, 1) := by decide +kernel
theorem dX8_best_74 : decode cX8_best 74 = .ok (.iinc 4 1, 3) := by decide +kernel
theorem dX8_best_77 : decode cX8_best 77 = .ok (.goto (-48), 3) := by decide +kernel
theorem dX8_best_80 : decode cX8_best 80 = .ok (.iload_n 2, 1) := by decide +kernel
theorem dX8_best_81 : decode cX8_best 81 = .ok (.ifCond .ne 7, 3) := by decide +kernel
theorem dX8_best_84 : decode cX8_best 84 = .ok (.iload_n 3, 1) := by decide +kernel
theorem dX8_best_85 : decode cX8_best 85 = .ok (.goto 8, 3) := by decide +kernel
theorem dX8_best_88 : decode cX8_best 88 = .ok (.aload_n 0, 1) := by decide +kernel
theorem dX8_best_89 : decode cX8_best 89 = .ok (.iload_n 3, 1) := by decide +kernel
theorem dX8_best_90 : decode cX8_best 90 = .ok (.invokevirtual 171, 3) := by decide +kernel
theorem dX8_best_93 : decode cX8_best 93 = .ok (.ireturn, 1) := by decide +kernel
theorem dX8_staysBy_0 : decode cX8_staysBy 0 = .ok (.aload_n 0, 1) := by decide +kernel
theorem dX8_staysBy_1 : decode cX8_staysBy 1 = .ok (.invokevirtual 159, 3) := by decide +kernel
theorem dX8_staysBy_4 : decode cX8_staysBy 4 = .ok (.iconst 1, 1) := by decide +kernel
theorem dX8_staysBy_5 : decode cX8_staysBy 5 = .ok (.istore 5, 2) := by decide +kernel
theorem dX8_staysBy_7 : decode cX8_staysBy 7 = .ok (.iconst 0, 1) := by decide +kernel
theorem dX8_staysBy_8 : decode cX8_staysBy 8 = .ok (.istore 6, 2) := by decide +kernel
theorem dX8_staysBy_10 : decode cX8_staysBy 10 = .ok (.iload 6, 2) := by decide +kernel
theorem dX8_staysBy_12 : decode cX8_staysBy 12 = .ok (.iload_n 3, 1) := by decide +kernel
theorem dX8_staysBy_13 : decode cX8_staysBy 13 = .ok (.if_icmp .ge 74, 3) := by decide +kernel
theorem dX8_staysBy_16 : decode cX8_staysBy 16 = .ok (.iload 5, 2) := by decide +kernel
theorem dX8_staysBy_18 : decode cX8_staysBy 18 = .ok (.ifCond .eq 69, 3) := by decide +kernel
theorem dX8_staysBy_21 : decode cX8_staysBy 21 = .ok (.aload_n 0, 1) := by decide +kernel
theorem dX8_staysBy_22 : decode cX8_staysBy 22 = .ok (.getfield 9, 3) := by decide +kernel
theorem dX8_staysBy_25 : decode cX8_staysBy 25 = .ok (.bipush 21, 2) := by decide +kernel
theorem dX8_staysBy_27 : decode cX8_staysBy 27 = .ok (.iload_n 1, 1) := by decide +kernel
theorem dX8_staysBy_28 : decode cX8_staysBy 28 = .ok (.iadd, 1) := by decide +kernel
theorem dX8_staysBy_29 : decode cX8_staysBy 29 = .ok (.iload_n 2, 1) := by decide +kernel
theorem dX8_staysBy_30 : decode cX8_staysBy 30 = .ok (.iload 6, 2) := by decide +kernel
theorem dX8_staysBy_32 : decode cX8_staysBy 32 = .ok (.ishr, 1) := by decide +kernel
theorem dX8_staysBy_33 : decode cX8_staysBy 33 = .ok (.iconst 1, 1) := by decide +kernel
theorem dX8_staysBy_34 : decode cX8_staysBy 34 = .ok (.iand, 1) := by decide +kernel
theorem dX8_staysBy_35 : decode cX8_staysBy 35 = .ok (.iconst 1, 1) := by decide +kernel
theorem dX8_staysBy_36 : decode cX8_staysBy 36 = .ok (.if_icmp .ne 8, 3) := by decide +kernel
theorem dX8_staysBy_39 : decode cX8_staysBy 39 = .ok (.bipush 9, 2) := by decide +kernel
theorem dX8_staysBy_41 : decode cX8_staysBy 41 = .ok (.goto 12, 3) := by decide +kernel
theorem dX8_staysBy_44 : decode cX8_staysBy 44 = .ok (.aload_n 0, 1) := by decide +kernel
theorem dX8_staysBy_45 : decode cX8_staysBy 45 = .ok (.getfield 9, 3) := by decide +kernel
theorem dX8_staysBy_48 : decode cX8_staysBy 48 = .ok (.bipush 21, 2) := by decide +kernel
theorem dX8_staysBy_50 : decode cX8_staysBy 50 = .ok (.iload_n 1, 1) := by decide +kernel
theorem dX8_staysBy_51 : decode cX8_staysBy 51 = .ok (.iadd, 1) := by decide +kernel
theorem dX8_staysBy_52 : decode cX8_staysBy 52 = .ok (.iaload, 1) := by decide +kernel
theorem dX8_staysBy_53 : decode cX8_staysBy 53 = .ok (.iastore, 1) := by decide +kernel
theorem dX8_staysBy_54 : decode cX8_staysBy 54 = .ok (.aload_n 0, 1) := by decide +kernel
theorem dX8_staysBy_55 : decode cX8_staysBy 55 = .ok (.iload_n 1, 1) := by decide +kernel
theorem dX8_staysBy_56 : decode cX8_staysBy 56 = .ok (.iconst 1, 1) := by decide +kernel
theorem dX8_staysBy_57 : decode cX8_staysBy 57 = .ok (.invokevirtual 174, 3) := by decide +kernel
theorem dX8_staysBy_60 : decode cX8_staysBy 60 = .ok (.aload_n 0, 1) := by decide +kernel
theorem dX8_staysBy_61 : decode cX8_staysBy 61 = .ok (.getfield 9, 3) := by decide +kernel
theorem dX8_staysBy_64 : decode cX8_staysBy 64 = .ok (.bipush 9, 2) := by decide +kernel
theorem dX8_staysBy_66 : decode cX8_staysBy 66 = .ok (.iload_n 1, 1) := by decide +kernel
theorem dX8_staysBy_67 : decode cX8_staysBy 67 = .ok (.iadd, 1) := by decide +kernel
theorem dX8_staysBy_68 : decode cX8_staysBy 68 = .ok (.iaload, 1) := by decide +kernel
theorem dX8_staysBy_69 : decode cX8_staysBy 69 = .ok (.iload 4, 2) := by decide +kernel
theorem dX8_staysBy_71 : decode cX8_staysBy 71 = .ok (.if_icmp .lt 7, 3) := by decide +kernel
theorem dX8_staysBy_74 : decode cX8_staysBy 74 = .ok (.iconst 1, 1) := by decide +kernel
theorem dX8_staysBy_75 : decode cX8_staysBy 75 = .ok (.goto 4, 3) := by decide +kernel
theorem dX8_staysBy_78 : decode cX8_staysBy 78 = .ok (.iconst 0, 1) := by decide +kernel
theorem dX8_staysBy_79 : decode cX8_staysBy 79 = .ok (.istore 5, 2) := by decide +kernel
theorem dX8_staysBy_81 : decode cX8_staysBy 81 = .ok (.iinc 6 1, 3) := by decide +kernel
theorem dX8_staysBy_84 : decode cX8_staysBy 84 = .ok (.goto (-74), 3) := by decide +kernel
theorem dX8_staysBy_87 : decode cX8_staysBy 87 = .ok (.aload_n 0, 1) := by decide +kernel
theorem dX8_staysBy_88 : decode cX8_staysBy 88 = .ok (.invokevirtual 165, 3) := by decide +kernel
theorem dX8_staysBy_91 : decode cX8_staysBy 91 = .ok (.iload 5, 2) := by decide +kernel
theorem dX8_staysBy_93 : decode cX8_staysBy 93 = .ok (.ireturn, 1) := by decide +kernel
theorem dX8_countOf_0 : decode cX8_countOf 0 = .ok (.iconst 0, 1) := by decide +kernel
theorem dX8_countOf_1 : decode cX8_countOf 1 = .ok (.istore_n 1, 1) := by decide +kernel
theorem dX8_countOf_2 : decode cX8_countOf 2 = .ok (.iconst 0, 1) := by decide +kernel
theorem dX8_countOf_3 : decode cX8_countOf 3 = .ok (.istore_n 2, 1) := by decide +kernel
theorem dX8_countOf_4 : decode cX8_countOf 4 = .ok (.iload_n 2, 1) := by decide +kernel
theorem dX8_countOf_5 : decode cX8_countOf 5 = .ok (.bipush 8, 2) := by decide +kernel
theorem dX8_countOf_7 : decode cX8_countOf 7 = .ok (.if_icmp .ge 17, 3) := by decide +kernel
theorem dX8_countOf_10 : decode cX8_countOf 10 = .ok (.iload_n 1, 1) := by decide +kernel
theorem dX8_countOf_11 : decode cX8_countOf 11 = .ok (.iload_n 0, 1) := by decide +kernel
theorem dX8_countOf_12 : decode cX8_countOf 12 = .ok (.iload_n 2, 1) := by decide +kernel
theorem dX8_countOf_13 : decode cX8_countOf 13 = .ok (.ishr, 1) := by decide +kernel
theorem dX8_countOf_14 : decode cX8_countOf 14 = .ok (.iconst 1, 1) := by decide +kernel
theorem dX8_countOf_15 : decode cX8_countOf 15 = .ok (.iand, 1) := by decide +kernel
theorem dX8_countOf_16 : decode cX8_countOf 16 = .ok (.iadd, 1) := by decide +kernel
theorem dX8_countOf_17 : decode cX8_countOf 17 = .ok (.istore_n 1, 1) := by decide +kernel
theorem dX8_countOf_18 : decode cX8_countOf 18 = .ok (.iinc 2 1, 3) := by decide +kernel
theorem dX8_countOf_21 : decode cX8_countOf 21 = .ok (.goto (-17), 3) := by decide +kernel
theorem dX8_countOf_24 : decode cX8_countOf 24 = .ok (.iload_n 1, 1) := by decide +kernel
theorem dX8_countOf_25 : decode cX8_countOf 25 = .ok (.ireturn, 1) := by decide +kernel
theorem dX8_renew_0 : decode cX8_renew 0 = .ok (.aload_n 0, 1) := by decide +kernel
theorem dX8_renew_1 : decode cX8_renew 1 = .ok (.iload_n 1, 1) := by decide +kernel
theorem dX8_renew_2 : decode cX8_renew 2 = .ok (.invokevirtual 129, 3) := by decide +kernel
theorem dX8_renew_5 : decode cX8_renew 5 = .ok (.ifCond .ne 5, 3) := by decide +kernel
theorem dX8_renew_8 : decode cX8_renew 8 = .ok (.iconst (-1), 1) := by decide +kernel
theorem dX8_renew_9 : decode cX8_renew 9 = .ok (.ireturn, 1) := by decide +kernel
theorem dX8_renew_10 : decode cX8_renew 10 = .ok (.iload_n 2, 1) := by decide +kernel
theorem dX8_renew_11 : decode cX8_renew 11 = .ok (.iconst 1, 1) := by decide +kernel
theorem dX8_renew_12 : decode cX8_renew 12 = .ok (.bipush 8, 2) := by decide +kernel
theorem dX8_renew_14 : decode cX8_renew 14 = .ok (.invokestatic 35, 3) := by decide +kernel
theorem dX8_renew_17 : decode cX8_renew 17 = .ok (.ifCond .eq 13, 3) := by decide +kernel
theorem dX8_renew_20 : decode cX8_renew 20 = .ok (.iload_n 3, 1) := by decide +kernel
theorem dX8_renew_21 : decode cX8_renew 21 = .ok (.iconst 0, 1) := by decide +kernel
theorem dX8_renew_22 : decode cX8_renew 22 = .ok (.bipush 99, 2) := by decide +kernel
theorem dX8_renew_24 : decode cX8_renew 24 = .ok (.invokestatic 35, 3) := by decide +kernel
theorem dX8_renew_27 : decode cX8_renew 27 = .ok (.ifCond .ne 6, 3) := by decide +kernel
theorem dX8_renew_30 : decode cX8_renew 30 = .ok (.bipush (-2), 2) := by decide +kernel
theorem dX8_renew_32 : decode cX8_renew 32 = .ok (.ireturn, 1) := by decide +kernel
theorem dX8_renew_33 : decode cX8_renew 33 = .ok (.bipush (-5), 2) := by decide +kernel
theorem dX8_renew_35 : decode cX8_renew 35 = .ok (.istore 4, 2) := by decide +kernel
theorem dX8_renew_37 : decode cX8_renew 37 = .ok (.iconst 0, 1) := by decide +kernel
theorem dX8_renew_38 : decode cX8_renew 38 = .ok (.istore 5, 2) := by decide +kernel
theorem dX8_renew_40 : decode cX8_renew 40 = .ok (.iload 5, 2) := by decide +kernel
theorem dX8_renew_42 : decode cX8_renew 42 = .ok (.iconst 1, 1) := by decide +kernel
theorem dX8_renew_43 : decode cX8_renew 43 = .ok (.iload_n 2, 1) := by decide +kernel
theorem dX8_renew_44 : decode cX8_renew 44 = .ok (.ishl, 1) := by decide +kernel
theorem dX8_renew_45 : decode cX8_renew 45 = .ok (.if_icmp .ge 62, 3) := by decide +kernel
theorem dX8_renew_48 : decode cX8_renew 48 = .ok (.iload 4, 2) := by decide +kernel
theorem dX8_renew_50 : decode cX8_renew 50 = .ok (.bipush (-5), 2) := by decide +kernel
theorem dX8_renew_52 : decode cX8_renew 52 = .ok (.if_icmp .eq 16, 3) := by decide +kernel
theorem dX8_renew_55 : decode cX8_renew 55 = .ok (.iload 5, 2) := by decide +kernel
theorem dX8_renew_57 : decode cX8_renew 57 = .ok (.invokestatic 178, 3) := by decide +kernel
theorem dX8_renew_60 : decode cX8_renew 60 = .ok (.iload 4, 2) := by decide +kernel
theorem dX8_renew_62 : decode cX8_renew 62 = .ok (.invokestatic 178, 3) := by decide +kernel
theorem dX8_renew_65 : decode cX8_renew 65 = .ok (.if_icmp .ge 7, 3) := by decide +kernel
theorem dX8_renew_68 : decode cX8_renew 68 = .ok (.iconst 1, 1) := by decide +kernel
theorem dX8_renew_69 : decode cX8_renew 69 = .ok (.goto 4, 3) := by decide +kernel
theorem dX8_renew_72 : decode cX8_renew 72 = .ok (.iconst 0, 1) := by decide +kernel
theorem dX8_renew_73 : decode cX8_renew 73 = .ok (.istore 6, 2) := by decide +kernel
theorem dX8_renew_75 : decode cX8_renew 75 = .ok (.iload 6, 2) := by decide +kernel
theorem dX8_renew_77 : decode cX8_renew 77 = .ok (.ifCond .eq 20, 3) := by decide +kernel
theorem dX8_renew_80 : decode cX8_renew 80 = .ok (.aload_n 0, 1) := by decide +kernel
theorem dX8_renew_81 : decode cX8_renew 81 = .ok (.iload_n 1, 1) := by decide +kernel
theorem dX8_renew_82 : decode cX8_renew 82 = .ok (.iload 5, 2) := by decide +kernel
theorem dX8_renew_84 : decode cX8_renew 84 = .ok (.iload_n 2, 1) := by decide +kernel
theorem dX8_renew_85 : decode cX8_renew 85 = .ok (.iload_n 3, 1) := by decide +kernel
theorem dX8_renew_86 : decode cX8_renew 86 = .ok (.invokevirtual 181, 3) := by decide +kernel
theorem dX8_renew_89 : decode cX8_renew 89 = .ok (.ifCond .eq 8, 3) := by decide +kernel
theorem dX8_renew_92 : decode cX8_renew 92 = .ok (.iload 5, 2) := by decide +kernel
theorem dX8_renew_94 : decode cX8_renew 94 = .ok (.goto 5, 3) := by decide +kernel
theorem dX8_renew_97 : decode cX8_renew 97 = .ok (.iload 4, 2) := by decide +kernel
theorem dX8_renew_99 : decode cX8_renew 99 = .ok (.istore 4, 2) := by decide +kernel
theorem dX8_renew_101 : decode cX8_renew 101 = .ok (.iinc 5 1, 3) := by decide +kernel
theorem dX8_renew_104 : decode cX8_renew 104 = .ok (.goto (-64), 3) := by decide +kernel
theorem dX8_renew_107 : decode cX8_renew 107 = .ok (.iload 4, 2) := by decide +kernel
theorem dX8_renew_109 : decode cX8_renew 109 = .ok (.ireturn, 1) := by decide +kernel
theorem dX8_see_0 : decode cX8_see 0 = .ok (.iload_n 1, 1) := by decide +kernel
theorem dX8_see_1 : decode cX8_see 1 = .ok (.iconst (-1), 1) := by decide +kernel
theorem dX8_see_2 : decode cX8_see 2 = .ok (.if_icmp .ne 13, 3) := by decide +kernel
theorem dX8_see_5 : decode cX8_see 5 = .ok (.aload_n 0, 1) := by decide +kernel
theorem dX8_see_6 : decode cX8_see 6 = .ok (.getfield 9, 3) := by decide +kernel
theorem dX8_see_9 : decode cX8_see 9 = .ok (.bipush 35, 2) := by decide +kernel
theorem dX8_see_11 : decode cX8_see 11 = .ok (.iconst 0, 1) := by decide +kernel
theorem dX8_see_12 : decode cX8_see 12 = .ok (.iastore, 1) := by decide +kernel
theorem dX8_see_13 : decode cX8_see 13 = .ok (.iconst 0, 1) := by decide +kernel
theorem dX8_see_14 : decode cX8_see 14 = .ok (.ireturn, 1) := by decide +kernel
theorem dX8_see_15 : decode cX8_see 15 = .ok (.aload_n 0, 1) := by decide +kernel
theorem dX8_see_16 : decode cX8_see 16 = .ok (.iload_n 1, 1) := by decide +kernel
theorem dX8_see_17 : decode cX8_see 17 = .ok (.invokevirtual 129, 3) := by decide +kernel
theorem dX8_see_20 : decode cX8_see 20 = .ok (.ifCond .ne 5, 3) := by decide +kernel
theorem dX8_see_23 : decode cX8_see 23 = .ok (.iconst (-1), 1) := by decide +kernel
theorem dX8_see_24 : decode cX8_see 24 = .ok (.ireturn, 1) := by decide +kernel
theorem dX8_see_25 : decode cX8_see 25 = .ok (.iload_n 2, 1) := by decide +kernel
theorem dX8_see_26 : decode cX8_see 26 = .ok (.iconst 0, 1) := by decide +kernel
theorem dX8_see_27 : decode cX8_see 27 = .ok (.bipush 20, 2) := by decide +kernel
theorem dX8_see_29 : decode cX8_see 29 = .ok (.invokestatic 35, 3) := by decide +kernel
theorem dX8_see_32 : decode cX8_see 32 = .ok (.ifCond .ne 6, 3) := by decide +kernel
theorem dX8_see_35 : decode cX8_see 35 = .ok (.bipush (-2), 2) := by decide +kernel
theorem dX8_see_37 : decode cX8_see 37 = .ok (.ireturn, 1) := by decide +kernel
theorem dX8_see_38 : decode cX8_see 38 = .ok (.aload_n 0, 1) := by decide +kernel
theorem dX8_see_39 : decode cX8_see 39 = .ok (.getfield 9, 3) := by decide +kernel
theorem dX8_see_42 : decode cX8_see 42 = .ok (.bipush 35, 2) := by decide +kernel
theorem dX8_see_44 : decode cX8_see 44 = .ok (.iaload, 1) := by decide +kernel
theorem dX8_see_45 : decode cX8_see 45 = .ok (.iconst 5, 1) := by decide +kernel
theorem dX8_see_46 : decode cX8_see 46 = .ok (.if_icmp .ne 6, 3) := by decide +kernel
theorem dX8_see_49 : decode cX8_see 49 = .ok (.bipush (-4), 2) := by decide +kernel
theorem dX8_see_51 : decode cX8_see 51 = .ok (.ireturn, 1) := by decide +kernel
theorem dX8_see_52 : decode cX8_see 52 = .ok (.aload_n 0, 1) := by decide +kernel
theorem dX8_see_53 : decode cX8_see 53 = .ok (.getfield 9, 3) := by decide +kernel
theorem dX8_see_56 : decode cX8_see 56 = .ok (.bipush 76, 2) := by decide +kernel
theorem dX8_see_58 : decode cX8_see 58 = .ok (.aload_n 0, 1) := by decide +kernel
theorem dX8_see_59 : decode cX8_see 59 = .ok (.getfield 9, 3) := by decide +kernel
theorem dX8_see_62 : decode cX8_see 62 = .ok (.bipush 35, 2) := by decide +kernel
theorem dX8_see_64 : decode cX8_see 64 = .ok (.iaload, 1) := by decide +kernel
theorem dX8_see_65 : decode cX8_see 65 = .ok (.iadd, 1) := by decide +kernel
theorem dX8_see_66 : decode cX8_see 66 = .ok (.iload_n 1, 1) := by decide +kernel
theorem dX8_see_67 : decode cX8_see 67 = .ok (.iastore, 1) := by decide +kernel
theorem dX8_see_68 : decode cX8_see 68 = .ok (.aload_n 0, 1) := by decide +kernel
theorem dX8_see_69 : decode cX8_see 69 = .ok (.getfield 9, 3) := by decide +kernel
theorem dX8_see_72 : decode cX8_see 72 = .ok (.bipush 81, 2) := by decide +kernel
theorem dX8_see_74 : decode cX8_see 74 = .ok (.aload_n 0, 1) := by decide +kernel
theorem dX8_see_75 : decode cX8_see 75 = .ok (.getfield 9, 3) := by decide +kernel
theorem dX8_see_78 : decode cX8_see 78 = .ok (.bipush 35, 2) := by decide +kernel
theorem dX8_see_80 : decode cX8_see 80 = .ok (.iaload, 1) := by decide +kernel
theorem dX8_see_81 : decode cX8_see 81 = .ok (.iadd, 1) := by decide +kernel
theorem dX8_see_82 : decode cX8_see 82 = .ok (.iload_n 2, 1) := by decide +kernel
theorem dX8_see_83 : decode cX8_see 83 = .ok (.iastore, 1) := by decide +kernel
theorem dX8_see_84 : decode cX8_see 84 = .ok (.aload_n 0, 1) := by decide +kernel
theorem dX8_see_85 : decode cX8_see 85 = .ok (.getfield 9, 3) := by decide +kernel
theorem dX8_see_88 : decode cX8_see 88 = .ok (.bipush 86, 2) := by decide +kernel
theorem dX8_see_90 : decode cX8_see 90 = .ok (.aload_n 0, 1) := by decide +kernel
theorem dX8_see_91 : decode cX8_see 91 = .ok (.getfield 9, 3) := by decide +kernel
theorem dX8_see_94 : decode cX8_see 94 = .ok (.bipush 35, 2) := by decide +kernel
theorem dX8_see_96 : decode cX8_see 96 = .ok (.iaload, 1) := by decide +kernel
theorem dX8_see_97 : decode cX8_see 97 = .ok (.iadd, 1) := by decide +kernel
theorem dX8_see_98 : decode cX8_see 98 = .ok (.iload_n 3, 1) := by decide +kernel
theorem dX8_see_99 : decode cX8_see 99 = .ok (.ifCond .eq 7, 3) := by decide +kernel
theorem dX8_see_102 : decode cX8_see 102 = .ok (.iconst 1, 1) := by decide +kernel
theorem dX8_see_103 : decode cX8_see 103 = .ok (.goto 4, 3) := by decide +kernel
theorem dX8_see_106 : decode cX8_see 106 = .ok (.iconst 0, 1) := by decide +kernel
theorem dX8_see_107 : decode cX8_see 107 = .ok (.iastore, 1) := by decide +kernel
theorem dX8_see_108 : decode cX8_see 108 = .ok (.aload_n 0, 1) := by decide +kernel
theorem dX8_see_109 : decode cX8_see 109 = .ok (.getfield 9, 3) := by decide +kernel
theorem dX8_see_112 : decode cX8_see 112 = .ok (.bipush 35, 2) := by decide +kernel
theorem dX8_see_114 : decode cX8_see 114 = .ok (.dup2, 1) := by decide +kernel
theorem dX8_see_115 : decode cX8_see 115 = .ok (.iaload, 1) := by decide +kernel
theorem dX8_see_116 : decode cX8_see 116 = .ok (.iconst 1, 1) := by decide +kernel
theorem dX8_see_117 : decode cX8_see 117 = .ok (.iadd, 1) := by decide +kernel
theorem dX8_see_118 : decode cX8_see 118 = .ok (.iastore, 1) := by decide +kernel
theorem dX8_see_119 : decode cX8_see 119 = .ok (.aload_n 0, 1) := by decide +kernel
theorem dX8_see_120 : decode cX8_see 120 = .ok (.getfield 9, 3) := by decide +kernel
theorem dX8_see_123 : decode cX8_see 123 = .ok (.bipush 35, 2) := by decide +kernel
theorem dX8_see_125 : decode cX8_see 125 = .ok (.iaload, 1) := by decide +kernel
theorem dX8_see_126 : decode cX8_see 126 = .ok (.ireturn, 1) := by decide +kernel
theorem dX8_areAsSeen_0 : decode cX8_areAsSeen 0 = .ok (.aload_n 0, 1) := by decide +kernel
theorem dX8_areAsSeen_1 : decode cX8_areAsSeen 1 = .ok (.getfield 9, 3) := by decide +kernel
theorem dX8_areAsSeen_4 : decode cX8_areAsSeen 4 = .ok (.iload_n 1, 1) := by decide +kernel
theorem dX8_areAsSeen_5 : decode cX8_areAsSeen 5 = .ok (.iaload, 1) := by decide +kernel
theorem dX8_areAsSeen_6 : decode cX8_areAsSeen 6 = .ok (.istore_n 3, 1) := by decide +kernel
theorem dX8_areAsSeen_7 : decode cX8_areAsSeen 7 = .ok (.iconst 1, 1) := by decide +kernel
theorem dX8_areAsSeen_8 : decode cX8_areAsSeen 8 = .ok (.istore 4, 2) := by decide +kernel
theorem dX8_areAsSeen_10 : decode cX8_areAsSeen 10 = .ok (.iconst 0, 1) := by decide +kernel
theorem dX8_areAsSeen_11 : decode cX8_areAsSeen 11 = .ok (.istore 5, 2) := by decide +kernel
theorem dX8_areAsSeen_13 : decode cX8_areAsSeen 13 = .ok (.iload 5, 2) := by decide +kernel
theorem dX8_areAsSeen_15 : decode cX8_areAsSeen 15 = .ok (.aload_n 0, 1) := by decide +kernel
theorem dX8_areAsSeen_16 : decode cX8_areAsSeen 16 = .ok (.getfield 9, 3) := by decide +kernel
theorem dX8_areAsSeen_19 : decode cX8_areAsSeen 19 = .ok (.bipush 35, 2) := by decide +kernel
theorem dX8_areAsSeen_21 : decode cX8_areAsSeen 21 = .ok (.iaload, 1) := by decide +kernel
theorem dX8_areAsSeen_22 : decode cX8_areAsSeen 22 = .ok (.if_icmp .ge 97, 3) := by decide +kernel
theorem dX8_areAsSeen_25 : decode cX8_areAsSeen 25 = .ok (.iload 4, 2) := by decide +kernel
theorem dX8_areAsSeen_27 : decode cX8_areAsSeen 27 = .ok (.ifCond .eq 92, 3) := by decide +kernel
theorem dX8_areAsSeen_30 : decode cX8_areAsSeen 30 = .ok (.aload_n 0, 1) := by decide +kernel
theorem dX8_areAsSeen_31 : decode cX8_areAsSeen 31 = .ok (.invokevirtual 159, 3) := by decide +kernel
theorem dX8_areAsSeen_34 : decode cX8_areAsSeen 34 = .ok (.aload_n 0, 1) := by decide +kernel
theorem dX8_areAsSeen_35 : decode cX8_areAsSeen 35 = .ok (.getfield 9, 3) := by decide +kernel
theorem dX8_areAsSeen_38 : decode cX8_areAsSeen 38 = .ok (.iload_n 1, 1) := by decide +kernel
theorem dX8_areAsSeen_39 : decode cX8_areAsSeen 39 = .ok (.iload_n 2, 1) := by decide +kernel
theorem dX8_areAsSeen_40 : decode cX8_areAsSeen 40 = .ok (.iastore, 1) := by decide +kernel
theorem dX8_areAsSeen_41 : decode cX8_areAsSeen 41 = .ok (.aload_n 0, 1) := by decide +kernel
theorem dX8_areAsSeen_42 : decode cX8_areAsSeen 42 = .ok (.aload_n 0, 1) := by decide +kernel
theorem dX8_areAsSeen_43 : decode cX8_areAsSeen 43 = .ok (.getfield 9, 3) := by decide +kernel
theorem dX8_areAsSeen_46 : decode cX8_areAsSeen 46 = .ok (.bipush 76, 2) := by decide +kernel
theorem dX8_areAsSeen_48 : decode cX8_areAsSeen 48 = .ok (.iload 5, 2) := by decide +kernel
theorem dX8_areAsSeen_50 : decode cX8_areAsSeen 50 = .ok (.iadd, 1) := by decide +kernel
theorem dX8_areAsSeen_51 : decode cX8_areAsSeen 51 = .ok (.iaload, 1) := by decide +kernel
theorem dX8_areAsSeen_52 : decode cX8_areAsSeen 52 = .ok (.aload_n 0, 1) := by decide +kernel
theorem dX8_areAsSeen_53 : decode cX8_areAsSeen 53 = .ok (.getfield 9, 3) := by decide +kernel
theorem dX8_areAsSeen_56 : decode cX8_areAsSeen 56 = .ok (.bipush 81, 2) := by decide +kernel
theorem dX8_areAsSeen_58 : decode cX8_areAsSeen 58 = .ok (.iload 5, 2) := by decide +kernel
theorem dX8_areAsSeen_60 : decode cX8_areAsSeen 60 = .ok (.iadd, 1) := by decide +kernel
theorem dX8_areAsSeen_61 : decode cX8_areAsSeen 61 = .ok (.iaload, 1) := by decide +kernel
theorem dX8_areAsSeen_62 : decode cX8_areAsSeen 62 = .ok (.invokevirtual 174, 3) := by decide +kernel
theorem dX8_areAsSeen_65 : decode cX8_areAsSeen 65 = .ok (.aload_n 0, 1) := by decide +kernel
theorem dX8_areAsSeen_66 : decode cX8_areAsSeen 66 = .ok (.getfield 9, 3) := by decide +kernel
theorem dX8_areAsSeen_69 : decode cX8_areAsSeen 69 = .ok (.iconst 3, 1) := by decide +kernel
theorem dX8_areAsSeen_70 : decode cX8_areAsSeen 70 = .ok (.aload_n 0, 1) := by decide +kernel
theorem dX8_areAsSeen_71 : decode cX8_areAsSeen 71 = .ok (.getfield 9, 3) := by decide +kernel
theorem dX8_areAsSeen_74 : decode cX8_areAsSeen 74 = .ok (.bipush 76, 2) := by decide +kernel
theorem dX8_areAsSeen_76 : decode cX8_areAsSeen 76 = .ok (.iload 5, 2) := by decide +kernel
theorem dX8_areAsSeen_78 : decode cX8_areAsSeen 78 = .ok (.iadd, 1) := by decide +kernel
theorem dX8_areAsSeen_79 : decode cX8_areAsSeen 79 = .ok (.iaload, 1) := by decide +kernel
theorem dX8_areAsSeen_80 : decode cX8_areAsSeen 80 = .ok (.iadd, 1) := by decide +kernel
theorem dX8_areAsSeen_81 : decode cX8_areAsSeen 81 = .ok (.iaload, 1) := by decide +kernel
theorem dX8_areAsSeen_82 : decode cX8_areAsSeen 82 = .ok (.aload_n 0, 1) := by decide +kernel
theorem dX8_areAsSeen_83 : decode cX8_areAsSeen 83 = .ok (.getfield 9, 3) := by decide +kernel
theorem dX8_areAsSeen_86 : decode cX8_areAsSeen 86 = .ok (.bipush 86, 2) := by decide +kernel
theorem dX8_areAsSeen_88 : decode cX8_areAsSeen 88 = .ok (.iload 5, 2) := by decide +kernel
theorem dX8_areAsSeen_90 : decode cX8_areAsSeen 90 = .ok (.iadd, 1) := by decide +kernel
theorem dX8_areAsSeen_91 : decode cX8_areAsSeen 91 = .ok (.iaload, 1) := by decide +kernel
theorem dX8_areAsSeen_92 : decode cX8_areAsSeen 92 = .ok (.if_icmp .ne 7, 3) := by decide +kernel
theorem dX8_areAsSeen_95 : decode cX8_areAsSeen 95 = .ok (.iconst 1, 1) := by decide +kernel
theorem dX8_areAsSeen_96 : decode cX8_areAsSeen 96 = .ok (.goto 4, 3) := by decide +kernel
theorem dX8_areAsSeen_99 : decode cX8_areAsSeen 99 = .ok (.iconst 0, 1) := by decide +kernel
theorem dX8_areAsSeen_100 : decode cX8_areAsSeen 100 = .ok (.istore 4, 2) := by decide +kernel
theorem dX8_areAsSeen_102 : decode cX8_areAsSeen 102 = .ok (.aload_n 0, 1) := by decide +kernel
theorem dX8_areAsSeen_103 : decode cX8_areAsSeen 103 = .ok (.invokevirtual 165, 3) := by decide +kernel
theorem dX8_areAsSeen_106 : decode cX8_areAsSeen 106 = .ok (.aload_n 0, 1) := by decide +kernel
theorem dX8_areAsSeen_107 : decode cX8_areAsSeen 107 = .ok (.getfield 9, 3) := by decide +kernel
theorem dX8_areAsSeen_110 : decode cX8_areAsSeen 110 = .ok (.iload_n 1, 1) := by decide +kernel
theorem dX8_areAsSeen_111 : decode cX8_areAsSeen 111 = .ok (.iload_n 3, 1) := by decide +kernel
theorem dX8_areAsSeen_112 : decode cX8_areAsSeen 112 = .ok (.iastore, 1) := by decide +kernel
theorem dX8_areAsSeen_113 : decode cX8_areAsSeen 113 = .ok (.iinc 5 1, 3) := by decide +kernel
theorem dX8_areAsSeen_116 : decode cX8_areAsSeen 116 = .ok (.goto (-103), 3) := by decide +kernel
theorem dX8_areAsSeen_119 : decode cX8_areAsSeen 119 = .ok (.iload 4, 2) := by decide +kernel
theorem dX8_areAsSeen_121 : decode cX8_areAsSeen 121 = .ok (.ireturn, 1) := by decide +kernel
theorem dX8_fitting_0 : decode cX8_fitting 0 = .ok (.iconst 0, 1) := by decide +kernel
theorem dX8_fitting_1 : decode cX8_fitting 1 = .ok (.istore 4, 2) := by decide +kernel
theorem dX8_fitting_3 : decode cX8_fitting 3 = .ok (.bipush (-5), 2) := by decide +kernel
theorem dX8_fitting_5 : decode cX8_fitting 5 = .ok (.istore 5, 2) := by decide +kernel
theorem dX8_fitting_7 : decode cX8_fitting 7 = .ok (.iload_n 2, 1) := by decide +kernel
theorem dX8_fitting_8 : decode cX8_fitting 8 = .ok (.istore 6, 2) := by decide +kernel
theorem dX8_fitting_10 : decode cX8_fitting 10 = .ok (.iload 6, 2) := by decide +kernel
theorem dX8_fitting_12 : decode cX8_fitting 12 = .ok (.ifCond .lt 47, 3) := by decide +kernel
theorem dX8_fitting_15 : decode cX8_fitting 15 = .ok (.aload_n 0, 1) := by decide +kernel
theorem dX8_fitting_16 : decode cX8_fitting 16 = .ok (.iload_n 1, 1) := by decide +kernel
theorem dX8_fitting_17 : decode cX8_fitting 17 = .ok (.iload 6, 2) := by decide +kernel
theorem dX8_fitting_19 : decode cX8_fitting 19 = .ok (.invokevirtual 185, 3) := by decide +kernel
theorem dX8_fitting_22 : decode cX8_fitting 22 = .ok (.istore 7, 2) := by decide +kernel
theorem dX8_fitting_24 : decode cX8_fitting 24 = .ok (.iload 4, 2) := by decide +kernel
theorem dX8_fitting_26 : decode cX8_fitting 26 = .ok (.iload 7, 2) := by decide +kernel
theorem dX8_fitting_28 : decode cX8_fitting 28 = .ok (.ifCond .eq 7, 3) := by decide +kernel
theorem dX8_fitting_31 : decode cX8_fitting 31 = .ok (.iconst 1, 1) := by decide +kernel
theorem dX8_fitting_32 : decode cX8_fitting 32 = .ok (.goto 4, 3) := by decide +kernel
theorem dX8_fitting_35 : decode cX8_fitting 35 = .ok (.iconst 0, 1) := by decide +kernel
theorem dX8_fitting_36 : decode cX8_fitting 36 = .ok (.iadd, 1) := by decide +kernel
theorem dX8_fitting_37 : decode cX8_fitting 37 = .ok (.istore 4, 2) := by decide +kernel
theorem dX8_fitting_39 : decode cX8_fitting 39 = .ok (.iload 7, 2) := by decide +kernel
theorem dX8_fitting_41 : decode cX8_fitting 41 = .ok (.ifCond .eq 8, 3) := by decide +kernel
theorem dX8_fitting_44 : decode cX8_fitting 44 = .ok (.iload 6, 2) := by decide +kernel
theorem dX8_fitting_46 : decode cX8_fitting 46 = .ok (.goto 5, 3) := by decide +kernel
theorem dX8_fitting_49 : decode cX8_fitting 49 = .ok (.iload 5, 2) := by decide +kernel
theorem dX8_fitting_51 : decode cX8_fitting 51 = .ok (.istore 5, 2) := by decide +kernel
theorem dX8_fitting_53 : decode cX8_fitting 53 = .ok (.iinc 6 (-1), 3) := by decide +kernel
theorem dX8_fitting_56 : decode cX8_fitting 56 = .ok (.goto (-46), 3) := by decide +kernel
theorem dX8_fitting_59 : decode cX8_fitting 59 = .ok (.iload_n 3, 1) := by decide +kernel
theorem dX8_fitting_60 : decode cX8_fitting 60 = .ok (.ifCond .ne 8, 3) := by decide +kernel
theorem dX8_fitting_63 : decode cX8_fitting 63 = .ok (.iload 4, 2) := by decide +kernel
theorem dX8_fitting_65 : decode cX8_fitting 65 = .ok (.goto 5, 3) := by decide +kernel
theorem dX8_fitting_68 : decode cX8_fitting 68 = .ok (.iload 5, 2) := by decide +kernel
theorem dX8_fitting_70 : decode cX8_fitting 70 = .ok (.ireturn, 1) := by decide +kernel
theorem dX8_hurries_0 : decode cX8_hurries 0 = .ok (.iload_n 1, 1) := by decide +kernel
theorem dX8_hurries_1 : decode cX8_hurries 1 = .ok (.iconst 0, 1) := by decide +kernel
theorem dX8_hurries_2 : decode cX8_hurries 2 = .ok (.iconst 1, 1) := by decide +kernel
theorem dX8_hurries_3 : decode cX8_hurries 3 = .ok (.invokestatic 35, 3) := by decide +kernel
theorem dX8_hurries_6 : decode cX8_hurries 6 = .ok (.ifCond .eq 14, 3) := by decide +kernel
theorem dX8_hurries_9 : decode cX8_hurries 9 = .ok (.aload_n 0, 1) := by decide +kernel
theorem dX8_hurries_10 : decode cX8_hurries 10 = .ok (.iconst 1, 1) := by decide +kernel
theorem dX8_hurries_11 : decode cX8_hurries 11 = .ok (.bipush 20, 2) := by decide +kernel
theorem dX8_hurries_13 : decode cX8_hurries 13 = .ok (.iload_n 1, 1) := by decide +kernel
theorem dX8_hurries_14 : decode cX8_hurries 14 = .ok (.invokevirtual 189, 3) := by decide +kernel
theorem dX8_hurries_17 : decode cX8_hurries 17 = .ok (.goto 4, 3) := by decide +kernel
theorem dX8_hurries_20 : decode cX8_hurries 20 = .ok (.iconst (-1), 1) := by decide +kernel
theorem dX8_hurries_21 : decode cX8_hurries 21 = .ok (.ireturn, 1) := by decide +kernel
theorem dX8_firm_0 : decode cX8_firm 0 = .ok (.aload_n 0, 1) := by decide +kernel
theorem dX8_firm_1 : decode cX8_firm 1 = .ok (.iload_n 1, 1) := by decide +kernel
theorem dX8_firm_2 : decode cX8_firm 2 = .ok (.invokevirtual 129, 3) := by decide +kernel
theorem dX8_firm_5 : decode cX8_firm 5 = .ok (.ifCond .eq 26, 3) := by decide +kernel
theorem dX8_firm_8 : decode cX8_firm 8 = .ok (.iload_n 2, 1) := by decide +kernel
theorem dX8_firm_9 : decode cX8_firm 9 = .ok (.iconst 0, 1) := by decide +kernel
theorem dX8_firm_10 : decode cX8_firm 10 = .ok (.iconst 1, 1) := by decide +kernel
theorem dX8_firm_11 : decode cX8_firm 11 = .ok (.invokestatic 35, 3) := by decide +kernel
theorem dX8_firm_14 : decode cX8_firm 14 = .ok (.ifCond .eq 17, 3) := by decide +kernel
theorem dX8_firm_17 : decode cX8_firm 17 = .ok (.aload_n 0, 1) := by decide +kernel
theorem dX8_firm_18 : decode cX8_firm 18 = .ok (.bipush 46, 2) := by decide +kernel
theorem dX8_firm_20 : decode cX8_firm 20 = .ok (.iload_n 1, 1) := by decide +kernel
theorem dX8_firm_21 : decode cX8_firm 21 = .ok (.iadd, 1) := by decide +kernel
theorem dX8_firm_22 : decode cX8_firm 22 = .ok (.bipush 9, 2) := by decide +kernel
theorem dX8_firm_24 : decode cX8_firm 24 = .ok (.iload_n 2, 1) := by decide +kernel
theorem dX8_firm_25 : decode cX8_firm 25 = .ok (.invokevirtual 189, 3) := by decide +kernel
theorem dX8_firm_28 : decode cX8_firm 28 = .ok (.goto 4, 3) := by decide +kernel
theorem dX8_firm_31 : decode cX8_firm 31 = .ok (.iconst (-1), 1) := by decide +kernel
theorem dX8_firm_32 : decode cX8_firm 32 = .ok (.ireturn, 1) := by decide +kernel
theorem dX8_alikes_0 : decode cX8_alikes 0 = .ok (.aload_n 0, 1) := by decide +kernel
theorem dX8_alikes_1 : decode cX8_alikes 1 = .ok (.iload_n 1, 1) := by decide +kernel
theorem dX8_alikes_2 : decode cX8_alikes 2 = .ok (.invokevirtual 129, 3) := by decide +kernel
theorem dX8_alikes_5 : decode cX8_alikes 5 = .ok (.ifCond .ne 5, 3) := by decide +kernel
theorem dX8_alikes_8 : decode cX8_alikes 8 = .ok (.iconst (-1), 1) := by decide +kernel
theorem dX8_alikes_9 : decode cX8_alikes 9 = .ok (.ireturn, 1) := by decide +kernel
theorem dX8_alikes_10 : decode cX8_alikes 10 = .ok (.iconst 0, 1) := by decide +kernel
theorem dX8_alikes_11 : decode cX8_alikes 11 = .ok (.istore_n 2, 1) := by decide +kernel
theorem dX8_alikes_12 : decode cX8_alikes 12 = .ok (.iconst 0, 1) := by decide +kernel
theorem dX8_alikes_13 : decode cX8_alikes 13 = .ok (.istore_n 3, 1) := by decide +kernel
theorem dX8_alikes_14 : decode cX8_alikes 14 = .ok (.iload_n 3, 1) := by decide +kernel
theorem dX8_alikes_15 : decode cX8_alikes 15 = .ok (.bipush 10, 2) := by decide +kernel
theorem dX8_alikes_17 : decode cX8_alikes 17 = .ok (.if_icmp .ge 34, 3) := by decide +kernel
theorem dX8_alikes_20 : decode cX8_alikes 20 = .ok (.iload_n 2, 1) := by decide +kernel
theorem dX8_alikes_21 : decode cX8_alikes 21 = .ok (.aload_n 0, 1) := by decide +kernel
theorem dX8_alikes_22 : decode cX8_alikes 22 = .ok (.bipush 15, 2) := by decide +kernel
theorem dX8_alikes_24 : decode cX8_alikes 24 = .ok (.iload_n 1, 1) := by decide +kernel
theorem dX8_alikes_25 : decode cX8_alikes 25 = .ok (.iadd, 1) := by decide +kernel
theorem dX8_alikes_26 : decode cX8_alikes 26 = .ok (.bipush 10, 2) := by decide +kernel
theorem dX8_alikes_28 : decode cX8_alikes 28 = .ok (.iload_n 3, 1) := by decide +kernel
theorem dX8_alikes_29 : decode cX8_alikes 29 = .ok (.imul, 1) := by decide +kernel
theorem dX8_alikes_30 : decode cX8_alikes 30 = .ok (.invokevirtual 185, 3) := by decide +kernel
theorem dX8_alikes_33 : decode cX8_alikes 33 = .ok (.ifCond .eq 9, 3) := by decide +kernel
theorem dX8_alikes_36 : decode cX8_alikes 36 = .ok (.iconst 1, 1) := by decide +kernel
theorem dX8_alikes_37 : decode cX8_alikes 37 = .ok (.iload_n 3, 1) := by decide +kernel
theorem dX8_alikes_38 : decode cX8_alikes 38 = .ok (.ishl, 1) := by decide +kernel
theorem dX8_alikes_39 : decode cX8_alikes 39 = .ok (.goto 4, 3) := by decide +kernel
theorem dX8_alikes_42 : decode cX8_alikes 42 = .ok (.iconst 0, 1) := by decide +kernel
theorem dX8_alikes_43 : decode cX8_alikes 43 = .ok (.ior, 1) := by decide +kernel
theorem dX8_alikes_44 : decode cX8_alikes 44 = .ok (.istore_n 2, 1) := by decide +kernel
theorem dX8_alikes_45 : decode cX8_alikes 45 = .ok (.iinc 3 1, 3) := by decide +kernel
theorem dX8_alikes_48 : decode cX8_alikes 48 = .ok (.goto (-34), 3) := by decide +kernel
theorem dX8_alikes_51 : decode cX8_alikes 51 = .ok (.iload_n 2, 1) := by decide +kernel
theorem dX8_alikes_52 : decode cX8_alikes 52 = .ok (.ireturn, 1) := by decide +kernel
theorem dX8_lowest_0 : decode cX8_lowest 0 = .ok (.lload_n 0, 1) := by decide +kernel
theorem dX8_lowest_1 : decode cX8_lowest 1 = .ok (.lconst 0, 1) := by decide +kernel
theorem dX8_lowest_2 : decode cX8_lowest 2 = .ok (.lcmp, 1) := by decide +kernel
theorem dX8_lowest_3 : decode cX8_lowest 3 = .ok (.ifCond .ge 8, 3) := by decide +kernel
theorem dX8_lowest_6 : decode cX8_lowest 6 = .ok (.lload_n 0, 1) := by decide +kernel
theorem dX8_lowest_7 : decode cX8_lowest 7 = .ok (.lneg, 1) := by decide +kernel
theorem dX8_lowest_8 : decode cX8_lowest 8 = .ok (.goto 4, 3) := by decide +kernel
theorem dX8_lowest_11 : decode cX8_lowest 11 = .ok (.lload_n 0, 1) := by decide +kernel
theorem dX8_lowest_12 : decode cX8_lowest 12 = .ok (.lstore 5, 2) := by decide +kernel
theorem dX8_lowest_14 : decode cX8_lowest 14 = .ok (.lload_n 2, 1) := by decide +kernel
theorem dX8_lowest_15 : decode cX8_lowest 15 = .ok (.lstore 7, 2) := by decide +kernel
theorem dX8_lowest_17 : decode cX8_lowest 17 = .ok (.lload 7, 2) := by decide +kernel
theorem dX8_lowest_19 : decode cX8_lowest 19 = .ok (.lconst 0, 1) := by decide +kernel
theorem dX8_lowest_20 : decode cX8_lowest 20 = .ok (.lcmp, 1) := by decide +kernel
theorem dX8_lowest_21 : decode cX8_lowest 21 = .ok (.ifCond .eq 21, 3) := by decide +kernel
theorem dX8_lowest_24 : decode cX8_lowest 24 = .ok (.lload 5, 2) := by decide +kernel
theorem dX8_lowest_26 : decode cX8_lowest 26 = .ok (.lload 7, 2) := by decide +kernel
theorem dX8_lowest_28 : decode cX8_lowest 28 = .ok (.lrem, 1) := by decide +kernel
theorem dX8_lowest_29 : decode cX8_lowest 29 = .ok (.lstore 9, 2) := by decide +kernel
theorem dX8_lowest_31 : decode cX8_lowest 31 = .ok (.lload 7, 2) := by decide +kernel
theorem dX8_lowest_33 : decode cX8_lowest 33 = .ok (.lstore 5, 2) := by decide +kernel
theorem dX8_lowest_35 : decode cX8_lowest 35 = .ok (.lload 9, 2) := by decide +kernel
theorem dX8_lowest_37 : decode cX8_lowest 37 = .ok (.lstore 7, 2) := by decide +kernel
theorem dX8_lowest_39 : decode cX8_lowest 39 = .ok (.goto (-22), 3) := by decide +kernel
theorem dX8_lowest_42 : decode cX8_lowest 42 = .ok (.iload 4, 2) := by decide +kernel
theorem dX8_lowest_44 : decode cX8_lowest 44 = .ok (.ifCond .ne 7, 3) := by decide +kernel
theorem dX8_lowest_47 : decode cX8_lowest 47 = .ok (.lload_n 0, 1) := by decide +kernel
theorem dX8_lowest_48 : decode cX8_lowest 48 = .ok (.goto 4, 3) := by decide +kernel
theorem dX8_lowest_51 : decode cX8_lowest 51 = .ok (.lload_n 2, 1) := by decide +kernel
theorem dX8_lowest_52 : decode cX8_lowest 52 = .ok (.lload 5, 2) := by decide +kernel
theorem dX8_lowest_54 : decode cX8_lowest 54 = .ok (.ldiv, 1) := by decide +kernel
theorem dX8_lowest_55 : decode cX8_lowest 55 = .ok (.lreturn, 1) := by decide +kernel
theorem dX8_odds_0 : decode cX8_odds 0 = .ok (.aload_n 0, 1) := by decide +kernel
theorem dX8_odds_1 : decode cX8_odds 1 = .ok (.iload_n 1, 1) := by decide +kernel
theorem dX8_odds_2 : decode cX8_odds 2 = .ok (.invokevirtual 129, 3) := by decide +kernel
theorem dX8_odds_5 : decode cX8_odds 5 = .ok (.ifCond .eq 22, 3) := by decide +kernel
theorem dX8_odds_8 : decode cX8_odds 8 = .ok (.iload_n 2, 1) := by decide +kernel
theorem dX8_odds_9 : decode cX8_odds 9 = .ok (.iconst 0, 1) := by decide +kernel
theorem dX8_odds_10 : decode cX8_odds 10 = .ok (.bipush 60, 2) := by decide +kernel
theorem dX8_odds_12 : decode cX8_odds 12 = .ok (.invokestatic 35, 3) := by decide +kernel
theorem dX8_odds_15 : decode cX8_odds 15 = .ok (.ifCond .eq 12, 3) := by decide +kernel
theorem dX8_odds_18 : decode cX8_odds 18 = .ok (.iload_n 3, 1) := by decide +kernel
theorem dX8_odds_19 : decode cX8_odds 19 = .ok (.iconst 0, 1) := by decide +kernel
theorem dX8_odds_20 : decode cX8_odds 20 = .ok (.iconst 1, 1) := by decide +kernel
theorem dX8_odds_21 : decode cX8_odds 21 = .ok (.invokestatic 35, 3) := by decide +kernel
theorem dX8_odds_24 : decode cX8_odds 24 = .ok (.ifCond .ne 7, 3) := by decide +kernel
theorem dX8_odds_27 : decode cX8_odds 27 = .ok (.ldc2_w 193, 3) := by decide +kernel
theorem dX8_odds_30 : decode cX8_odds 30 = .ok (.lreturn, 1) := by decide +kernel
theorem dX8_odds_31 : decode cX8_odds 31 = .ok (.lconst 0, 1) := by decide +kernel
theorem dX8_odds_32 : decode cX8_odds 32 = .ok (.lstore 4, 2) := by decide +kernel
theorem dX8_odds_34 : decode cX8_odds 34 = .ok (.iconst 0, 1) := by decide +kernel
theorem dX8_odds_35 : decode cX8_odds 35 = .ok (.istore 6, 2) := by decide +kernel
theorem dX8_odds_37 : decode cX8_odds 37 = .ok (.iload 6, 2) := by decide +kernel
theorem dX8_odds_39 : decode cX8_odds 39 = .ok (.bipush 20, 2) := by decide +kernel
theorem dX8_odds_41 : decode cX8_odds 41 = .ok (.if_icmp .gt 45, 3) := by decide +kernel
theorem dX8_odds_44 : decode cX8_odds 44 = .ok (.aload_n 0, 1) := by decide +kernel
theorem dX8_odds_45 : decode cX8_odds 45 = .ok (.invokevirtual 159, 3) := by decide +kernel
theorem dX8_odds_48 : decode cX8_odds 48 = .ok (.aload_n 0, 1) := by decide +kernel
theorem dX8_odds_49 : decode cX8_odds 49 = .ok (.getfield 9, 3) := by decide +kernel
theorem dX8_odds_52 : decode cX8_odds 52 = .ok (.iconst 1, 1) := by decide +kernel
theorem dX8_odds_53 : decode cX8_odds 53 = .ok (.iload 6, 2) := by decide +kernel
theorem dX8_odds_55 : decode cX8_odds 55 = .ok (.iastore, 1) := by decide +kernel
theorem dX8_odds_56 : decode cX8_odds 56 = .ok (.aload_n 0, 1) := by decide +kernel
theorem dX8_odds_57 : decode cX8_odds 57 = .ok (.iload_n 1, 1) := by decide +kernel
theorem dX8_odds_58 : decode cX8_odds 58 = .ok (.iload_n 2, 1) := by decide +kernel
theorem dX8_odds_59 : decode cX8_odds 59 = .ok (.invokevirtual 174, 3) := by decide +kernel
theorem dX8_odds_62 : decode cX8_odds 62 = .ok (.lload 4, 2) := by decide +kernel
theorem dX8_odds_64 : decode cX8_odds 64 = .ok (.aload_n 0, 1) := by decide +kernel
theorem dX8_odds_65 : decode cX8_odds 65 = .ok (.getfield 9, 3) := by decide +kernel
theorem dX8_odds_68 : decode cX8_odds 68 = .ok (.iconst 3, 1) := by decide +kernel
theorem dX8_odds_69 : decode cX8_odds 69 = .ok (.iload_n 1, 1) := by decide +kernel
theorem dX8_odds_70 : decode cX8_odds 70 = .ok (.iadd, 1) := by decide +kernel
theorem dX8_odds_71 : decode cX8_odds 71 = .ok (.iaload, 1) := by decide +kernel
theorem dX8_odds_72 : decode cX8_odds 72 = .ok (.i2l, 1) := by decide +kernel
theorem dX8_odds_73 : decode cX8_odds 73 = .ok (.ladd, 1) := by decide +kernel
theorem dX8_odds_74 : decode cX8_odds 74 = .ok (.lstore 4, 2) := by decide +kernel
theorem dX8_odds_76 : decode cX8_odds 76 = .ok (.aload_n 0, 1) := by decide +kernel
theorem dX8_odds_77 : decode cX8_odds 77 = .ok (.invokevirtual 165, 3) := by decide +kernel
theorem dX8_odds_80 : decode cX8_odds 80 = .ok (.iinc 6 1, 3) := by decide +kernel
theorem dX8_odds_83 : decode cX8_odds 83 = .ok (.goto (-46), 3) := by decide +kernel
theorem dX8_odds_86 : decode cX8_odds 86 = .ok (.lload 4, 2) := by decide +kernel
theorem dX8_odds_88 : decode cX8_odds 88 = .ok (.ldc2_w 195, 3) := by decide +kernel
theorem dX8_odds_91 : decode cX8_odds 91 = .ok (.iload_n 3, 1) := by decide +kernel
theorem dX8_odds_92 : decode cX8_odds 92 = .ok (.invokestatic 197, 3) := by decide +kernel
theorem dX8_odds_95 : decode cX8_odds 95 = .ok (.lreturn, 1) := by decide +kernel
theorem dX8_mean_0 : decode cX8_mean 0 = .ok (.lconst 0, 1) := by decide +kernel
theorem dX8_mean_1 : decode cX8_mean 1 = .ok (.lstore_n 2, 1) := by decide +kernel
theorem dX8_mean_2 : decode cX8_mean 2 = .ok (.iconst 0, 1) := by decide +kernel
theorem dX8_mean_3 : decode cX8_mean 3 = .ok (.istore 4, 2) := by decide +kernel
theorem dX8_mean_5 : decode cX8_mean 5 = .ok (.iload 4, 2) := by decide +kernel
theorem dX8_mean_7 : decode cX8_mean 7 = .ok (.aload_n 0, 1) := by decide +kernel
theorem dX8_mean_8 : decode cX8_mean 8 = .ok (.getfield 9, 3) := by decide +kernel
theorem dX8_mean_11 : decode cX8_mean 11 = .ok (.bipush 33, 2) := by decide +kernel
theorem dX8_mean_13 : decode cX8_mean 13 = .ok (.iaload, 1) := by decide +kernel
theorem dX8_mean_14 : decode cX8_mean 14 = .ok (.if_icmp .ge 23, 3) := by decide +kernel
theorem dX8_mean_17 : decode cX8_mean 17 = .ok (.lload_n 2, 1) := by decide +kernel
theorem dX8_mean_18 : decode cX8_mean 18 = .ok (.aload_n 0, 1) := by decide +kernel
theorem dX8_mean_19 : decode cX8_mean 19 = .ok (.getfield 9, 3) := by decide +kernel
theorem dX8_mean_22 : decode cX8_mean 22 = .ok (.bipush 9, 2) := by decide +kernel
theorem dX8_mean_24 : decode cX8_mean 24 = .ok (.iload 4, 2) := by decide +kernel
theorem dX8_mean_26 : decode cX8_mean 26 = .ok (.iadd, 1) := by decide +kernel
theorem dX8_mean_27 : decode cX8_mean 27 = .ok (.iaload, 1) := by decide +kernel
theorem dX8_mean_28 : decode cX8_mean 28 = .ok (.i2l, 1) := by decide +kernel
theorem dX8_mean_29 : decode cX8_mean 29 = .ok (.ladd, 1) := by decide +kernel
theorem dX8_mean_30 : decode cX8_mean 30 = .ok (.lstore_n 2, 1) := by decide +kernel
theorem dX8_mean_31 : decode cX8_mean 31 = .ok (.iinc 4 1, 3) := by decide +kernel
theorem dX8_mean_34 : decode cX8_mean 34 = .ok (.goto (-29), 3) := by decide +kernel
theorem dX8_mean_37 : decode cX8_mean 37 = .ok (.iload_n 1, 1) := by decide +kernel
theorem dX8_mean_38 : decode cX8_mean 38 = .ok (.iconst 0, 1) := by decide +kernel
theorem dX8_mean_39 : decode cX8_mean 39 = .ok (.iconst 1, 1) := by decide +kernel
theorem dX8_mean_40 : decode cX8_mean 40 = .ok (.invokestatic 35, 3) := by decide +kernel
theorem dX8_mean_43 : decode cX8_mean 43 = .ok (.ifCond .eq 13, 3) := by decide +kernel
theorem dX8_mean_46 : decode cX8_mean 46 = .ok (.aload_n 0, 1) := by decide +kernel
theorem dX8_mean_47 : decode cX8_mean 47 = .ok (.getfield 9, 3) := by decide +kernel
theorem dX8_mean_50 : decode cX8_mean 50 = .ok (.bipush 33, 2) := by decide +kernel
theorem dX8_mean_52 : decode cX8_mean 52 = .ok (.iaload, 1) := by decide +kernel
theorem dX8_mean_53 : decode cX8_mean 53 = .ok (.ifCond .ne 9, 3) := by decide +kernel
theorem dX8_mean_56 : decode cX8_mean 56 = .ok (.ldc2_w 193, 3) := by decide +kernel
theorem dX8_mean_59 : decode cX8_mean 59 = .ok (.goto 16, 3) := by decide +kernel
theorem dX8_mean_62 : decode cX8_mean 62 = .ok (.lload_n 2, 1) := by decide +kernel
theorem dX8_mean_63 : decode cX8_mean 63 = .ok (.aload_n 0, 1) := by decide +kernel
theorem dX8_mean_64 : decode cX8_mean 64 = .ok (.getfield 9, 3) := by decide +kernel
theorem dX8_mean_67 : decode cX8_mean 67 = .ok (.bipush 33, 2) := by decide +kernel
theorem dX8_mean_69 : decode cX8_mean 69 = .ok (.iaload, 1) := by decide +kernel
theorem dX8_mean_70 : decode cX8_mean 70 = .ok (.i2l, 1) := by decide +kernel
theorem dX8_mean_71 : decode cX8_mean 71 = .ok (.iload_n 1, 1) := by decide +kernel
theorem dX8_mean_72 : decode cX8_mean 72 = .ok (.invokestatic 197, 3) := by decide +kernel
theorem dX8_mean_75 : decode cX8_mean 75 = .ok (.lreturn, 1) := by decide +kernel
theorem dX8_plan_0 : decode cX8_plan 0 = .ok (.iload_n 1, 1) := by decide +kernel
theorem dX8_plan_1 : decode cX8_plan 1 = .ok (.iconst (-1), 1) := by decide +kernel
theorem dX8_plan_2 : decode cX8_plan 2 = .ok (.if_icmp .ne 13, 3) := by decide +kernel
theorem dX8_plan_5 : decode cX8_plan 5 = .ok (.aload_n 0, 1) := by decide +kernel
theorem dX8_plan_6 : decode cX8_plan 6 = .ok (.getfield 9, 3) := by decide +kernel
theorem dX8_plan_9 : decode cX8_plan 9 = .ok (.bipush 36, 2) := by decide +kernel
theorem dX8_plan_11 : decode cX8_plan 11 = .ok (.iconst 0, 1) := by decide +kernel
theorem dX8_plan_12 : decode cX8_plan 12 = .ok (.iastore, 1) := by decide +kernel
theorem dX8_plan_13 : decode cX8_plan 13 = .ok (.iconst 0, 1) := by decide +kernel
theorem dX8_plan_14 : decode cX8_plan 14 = .ok (.ireturn, 1) := by decide +kernel
theorem dX8_plan_15 : decode cX8_plan 15 = .ok (.iload_n 1, 1) := by decide +kernel
theorem dX8_plan_16 : decode cX8_plan 16 = .ok (.iconst 0, 1) := by decide +kernel
theorem dX8_plan_17 : decode cX8_plan 17 = .ok (.iconst 3, 1) := by decide +kernel
theorem dX8_plan_18 : decode cX8_plan 18 = .ok (.invokestatic 35, 3) := by decide +kernel
theorem dX8_plan_21 : decode cX8_plan 21 = .ok (.ifCond .eq 20, 3) := by decide +kernel
theorem dX8_plan_24 : decode cX8_plan 24 = .ok (.iload_n 1, 1) := by decide +kernel
theorem dX8_plan_25 : decode cX8_plan 25 = .ok (.iconst 1, 1) := by decide +kernel
theorem dX8_plan_26 : decode cX8_plan 26 = .ok (.iconst 2, 1) := by decide +kernel
theorem dX8_plan_27 : decode cX8_plan 27 = .ok (.invokestatic 35, 3) := by decide +kernel
theorem dX8_plan_30 : decode cX8_plan 30 = .ok (.ifCond .eq 13, 3) := by decide +kernel
theorem dX8_plan_33 : decode cX8_plan 33 = .ok (.aload_n 0, 1) := by decide +kernel
theorem dX8_plan_34 : decode cX8_plan 34 = .ok (.iload_n 2, 1) := by decide +kernel
theorem dX8_plan_35 : decode cX8_plan 35 = .ok (.invokevirtual 129, 3) := by decide +kernel
theorem dX8_plan_38 : decode cX8_plan 38 = .ok (.ifCond .ne 5, 3) := by decide +kernel
theorem dX8_plan_41 : decode cX8_plan 41 = .ok (.iconst (-1), 1) := by decide +kernel
theorem dX8_plan_42 : decode cX8_plan 42 = .ok (.ireturn, 1) := by decide +kernel
theorem dX8_plan_43 : decode cX8_plan 43 = .ok (.iload_n 1, 1) := by decide +kernel
theorem dX8_plan_44 : decode cX8_plan 44 = .ok (.iconst 3, 1) := by decide +kernel
theorem dX8_plan_45 : decode cX8_plan 45 = .ok (.if_icmp .ne 16, 3) := by decide +kernel
theorem dX8_plan_48 : decode cX8_plan 48 = .ok (.iload_n 2, 1) := by decide +kernel
theorem dX8_plan_49 : decode cX8_plan 49 = .ok (.iconst 0, 1) := by decide +kernel
theorem dX8_plan_50 : decode cX8_plan 50 = .ok (.bipush 20, 2) := by decide +kernel
theorem dX8_plan_52 : decode cX8_plan 52 = .ok (.invokestatic 35, 3) := by decide +kernel
theorem dX8_plan_55 : decode cX8_plan 55 = .ok (.ifCond .ne 6, 3) := by decide +kernel
theorem dX8_plan_58 : decode cX8_plan 58 = .ok (.bipush (-2), 2) := by decide +kernel
theorem dX8_plan_60 : decode cX8_plan 60 = .ok (.ireturn, 1) := by decide +kernel
theorem dX8_plan_61 : decode cX8_plan 61 = .ok (.aload_n 0, 1) := by decide +kernel
theorem dX8_plan_62 : decode cX8_plan 62 = .ok (.getfield 9, 3) := by decide +kernel
theorem dX8_plan_65 : decode cX8_plan 65 = .ok (.bipush 36, 2) := by decide +kernel
theorem dX8_plan_67 : decode cX8_plan 67 = .ok (.iaload, 1) := by decide +kernel
theorem dX8_plan_68 : decode cX8_plan 68 = .ok (.bipush 8, 2) := by decide +kernel
theorem dX8_plan_70 : decode cX8_plan 70 = .ok (.if_icmp .ne 6, 3) := by decide +kernel
theorem dX8_plan_73 : decode cX8_plan 73 = .ok (.bipush (-4), 2) := by decide +kernel
theorem dX8_plan_75 : decode cX8_plan 75 = .ok (.ireturn, 1) := by decide +kernel
theorem dX8_plan_76 : decode cX8_plan 76 = .ok (.aload_n 0, 1) := by decide +kernel
theorem dX8_plan_77 : decode cX8_plan 77 = .ok (.getfield 9, 3) := by decide +kernel
theorem dX8_plan_80 : decode cX8_plan 80 = .ok (.bipush 91, 2) := by decide +kernel
theorem dX8_plan_82 : decode cX8_plan 82 = .ok (.aload_n 0, 1) := by decide +kernel
theorem dX8_plan_83 : decode cX8_plan 83 = .ok (.getfield 9, 3) := by decide +kernel
theorem dX8_plan_86 : decode cX8_plan 86 = .ok (.bipush 36, 2) := by decide +kernel
theorem dX8_plan_88 : decode cX8_plan 88 = .ok (.iaload, 1) := by decide +kernel
theorem dX8_plan_89 : decode cX8_plan 89 = .ok (.iadd, 1) := by decide +kernel
theorem dX8_plan_90 : decode cX8_plan 90 = .ok (.iload_n 1, 1) := by decide +kernel
theorem dX8_plan_91 : decode cX8_plan 91 = .ok (.iastore, 1) := by decide +kernel
theorem dX8_plan_92 : decode cX8_plan 92 = .ok (.aload_n 0, 1) := by decide +kernel
theorem dX8_plan_93 : decode cX8_plan 93 = .ok (.getfield 9, 3) := by decide +kernel
theorem dX8_plan_96 : decode cX8_plan 96 = .ok (.bipush 99, 2) := by decide +kernel
theorem dX8_plan_98 : decode cX8_plan 98 = .ok (.aload_n 0, 1) := by decide +kernel
theorem dX8_plan_99 : decode cX8_plan 99 = .ok (.getfield 9, 3) := by decide +kernel
theorem dX8_plan_102 : decode cX8_plan 102 = .ok (.bipush 36, 2) := by decide +kernel
theorem dX8_plan_104 : decode cX8_plan 104 = .ok (.iaload, 1) := by decide +kernel
theorem dX8_plan_105 : decode cX8_plan 105 = .ok (.iadd, 1) := by decide +kernel
theorem dX8_plan_106 : decode cX8_plan 106 = .ok (.iload_n 2, 1) := by decide +kernel
theorem dX8_plan_107 : decode cX8_plan 107 = .ok (.iastore, 1) := by decide +kernel
theorem dX8_plan_108 : decode cX8_plan 108 = .ok (.aload_n 0, 1) := by decide +kernel
theorem dX8_plan_109 : decode cX8_plan 109 = .ok (.getfield 9, 3) := by decide +kernel
theorem dX8_plan_112 : decode cX8_plan 112 = .ok (.bipush 36, 2) := by decide +kernel
theorem dX8_plan_114 : decode cX8_plan 114 = .ok (.dup2, 1) := by decide +kernel
theorem dX8_plan_115 : decode cX8_plan 115 = .ok (.iaload, 1) := by decide +kernel
theorem dX8_plan_116 : decode cX8_plan 116 = .ok (.iconst 1, 1) := by decide +kernel
theorem dX8_plan_117 : decode cX8_plan 117 = .ok (.iadd, 1) := by decide +kernel
theorem dX8_plan_118 : decode cX8_plan 118 = .ok (.iastore, 1) := by decide +kernel
theorem dX8_plan_119 : decode cX8_plan 119 = .ok (.aload_n 0, 1) := by decide +kernel
theorem dX8_plan_120 : decode cX8_plan 120 = .ok (.getfield 9, 3) := by decide +kernel
theorem dX8_plan_123 : decode cX8_plan 123 = .ok (.bipush 36, 2) := by decide +kernel
theorem dX8_plan_125 : decode cX8_plan 125 = .ok (.iaload, 1) := by decide +kernel
theorem dX8_plan_126 : decode cX8_plan 126 = .ok (.ireturn, 1) := by decide +kernel
theorem dX8_goesBy_0 : decode cX8_goesBy 0 = .ok (.iload_n 1, 1) := by decide +kernel
theorem dX8_goesBy_1 : decode cX8_goesBy 1 = .ok (.tableswitch 57 0 2 #[27, 34, 43], 27) := by decide +kernel
theorem dX8_goesBy_28 : decode cX8_goesBy 28 = .ok (.aload_n 0, 1) := by decide +kernel
theorem dX8_goesBy_29 : decode cX8_goesBy 29 = .ok (.invokevirtual 155, 3) := by decide +kernel
theorem dX8_goesBy_32 : decode cX8_goesBy 32 = .ok (.goto 33, 3) := by decide +kernel
theorem dX8_goesBy_35 : decode cX8_goesBy 35 = .ok (.aload_n 0, 1) := by decide +kernel
theorem dX8_goesBy_36 : decode cX8_goesBy 36 = .ok (.iload_n 2, 1) := by decide +kernel
theorem dX8_goesBy_37 : decode cX8_goesBy 37 = .ok (.invokevirtual 146, 3) := by decide +kernel
theorem dX8_goesBy_40 : decode cX8_goesBy 40 = .ok (.pop, 1) := by decide +kernel
theorem dX8_goesBy_41 : decode cX8_goesBy 41 = .ok (.goto 24, 3) := by decide +kernel
theorem dX8_goesBy_44 : decode cX8_goesBy 44 = .ok (.aload_n 0, 1) := by decide +kernel
theorem dX8_goesBy_45 : decode cX8_goesBy 45 = .ok (.getfield 9, 3) := by decide +kernel
theorem dX8_goesBy_48 : decode cX8_goesBy 48 = .ok (.bipush 21, 2) := by decide +kernel
theorem dX8_goesBy_50 : decode cX8_goesBy 50 = .ok (.iload_n 2, 1) := by decide +kernel
theorem dX8_goesBy_51 : decode cX8_goesBy 51 = .ok (.iadd, 1) := by decide +kernel
theorem dX8_goesBy_52 : decode cX8_goesBy 52 = .ok (.bipush 9, 2) := by decide +kernel
theorem dX8_goesBy_54 : decode cX8_goesBy 54 = .ok (.iastore, 1) := by decide +kernel
theorem dX8_goesBy_55 : decode cX8_goesBy 55 = .ok (.goto 10, 3) := by decide +kernel
theorem dX8_goesBy_58 : decode cX8_goesBy 58 = .ok (.aload_n 0, 1) := by decide +kernel
theorem dX8_goesBy_59 : decode cX8_goesBy 59 = .ok (.getfield 9, 3) := by decide +kernel
theorem dX8_goesBy_62 : decode cX8_goesBy 62 = .ok (.iconst 1, 1) := by decide +kernel
theorem dX8_goesBy_63 : decode cX8_goesBy 63 = .ok (.iload_n 2, 1) := by decide +kernel
theorem dX8_goesBy_64 : decode cX8_goesBy 64 = .ok (.iastore, 1) := by decide +kernel
theorem dX8_goesBy_65 : decode cX8_goesBy 65 = .ok (.return_, 1) := by decide +kernel
theorem dX8_done_0 : decode cX8_done 0 = .ok (.iload_n 1, 1) := by decide +kernel
theorem dX8_done_1 : decode cX8_done 1 = .ok (.iconst 0, 1) := by decide +kernel
theorem dX8_done_2 : decode cX8_done 2 = .ok (.iconst 1, 1) := by decide +kernel
theorem dX8_done_3 : decode cX8_done 3 = .ok (.invokestatic 35, 3) := by decide +kernel
theorem dX8_done_6 : decode cX8_done 6 = .ok (.ifCond .ne 5, 3) := by decide +kernel
theorem dX8_done_9 : decode cX8_done 9 = .ok (.iconst (-1), 1) := by decide +kernel
theorem dX8_done_10 : decode cX8_done 10 = .ok (.ireturn, 1) := by decide +kernel
theorem dX8_done_11 : decode cX8_done 11 = .ok (.aload_n 0, 1) := by decide +kernel
theorem dX8_done_12 : decode cX8_done 12 = .ok (.invokevirtual 159, 3) := by decide +kernel
theorem dX8_done_15 : decode cX8_done 15 = .ok (.iconst 0, 1) := by decide +kernel
theorem dX8_done_16 : decode cX8_done 16 = .ok (.istore_n 2, 1) := by decide +kernel
theorem dX8_done_17 : decode cX8_done 17 = .ok (.iload_n 2, 1) := by decide +kernel
theorem dX8_done_18 : decode cX8_done 18 = .ok (.aload_n 0, 1) := by decide +kernel
theorem dX8_done_19 : decode cX8_done 19 = .ok (.getfield 9, 3) := by decide +kernel
theorem dX8_done_22 : decode cX8_done 22 = .ok (.bipush 36, 2) := by decide +kernel
theorem dX8_done_24 : decode cX8_done 24 = .ok (.iaload, 1) := by decide +kernel
theorem dX8_done_25 : decode cX8_done 25 = .ok (.if_icmp .ge 31, 3) := by decide +kernel
theorem dX8_done_28 : decode cX8_done 28 = .ok (.aload_n 0, 1) := by decide +kernel
theorem dX8_done_29 : decode cX8_done 29 = .ok (.aload_n 0, 1) := by decide +kernel
theorem dX8_done_30 : decode cX8_done 30 = .ok (.getfield 9, 3) := by decide +kernel
theorem dX8_done_33 : decode cX8_done 33 = .ok (.bipush 91, 2) := by decide +kernel
theorem dX8_done_35 : decode cX8_done 35 = .ok (.iload_n 2, 1) := by decide +kernel
theorem dX8_done_36 : decode cX8_done 36 = .ok (.iadd, 1) := by decide +kernel
theorem dX8_done_37 : decode cX8_done 37 = .ok (.iaload, 1) := by decide +kernel
theorem dX8_done_38 : decode cX8_done 38 = .ok (.aload_n 0, 1) := by decide +kernel
theorem dX8_done_39 : decode cX8_done 39 = .ok (.getfield 9, 3) := by decide +kernel
theorem dX8_done_42 : decode cX8_done 42 = .ok (.bipush 99, 2) := by decide +kernel
theorem dX8_done_44 : decode cX8_done 44 = .ok (.iload_n 2, 1) := by decide +kernel
theorem dX8_done_45 : decode cX8_done 45 = .ok (.iadd, 1) := by decide +kernel
theorem dX8_done_46 : decode cX8_done 46 = .ok (.iaload, 1) := by decide +kernel
theorem dX8_done_47 : decode cX8_done 47 = .ok (.invokevirtual 201, 3) := by decide +kernel
theorem dX8_done_50 : decode cX8_done 50 = .ok (.iinc 2 1, 3) := by decide +kernel
theorem dX8_done_53 : decode cX8_done 53 = .ok (.goto (-36), 3) := by decide +kernel
theorem dX8_done_56 : decode cX8_done 56 = .ok (.iload_n 1, 1) := by decide +kernel
theorem dX8_done_57 : decode cX8_done 57 = .ok (.ifCond .ne 12, 3) := by decide +kernel
theorem dX8_done_60 : decode cX8_done 60 = .ok (.aload_n 0, 1) := by decide +kernel
theorem dX8_done_61 : decode cX8_done 61 = .ok (.getfield 9, 3) := by decide +kernel
theorem dX8_done_64 : decode cX8_done 64 = .ok (.iconst 2, 1) := by decide +kernel
theorem dX8_done_65 : decode cX8_done 65 = .ok (.iaload, 1) := by decide +kernel
theorem dX8_done_66 : decode cX8_done 66 = .ok (.goto 7, 3) := by decide +kernel
theorem dX8_done_69 : decode cX8_done 69 = .ok (.aload_n 0, 1) := by decide +kernel
theorem dX8_done_70 : decode cX8_done 70 = .ok (.invokevirtual 149, 3) := by decide +kernel
theorem dX8_done_73 : decode cX8_done 73 = .ok (.istore_n 2, 1) := by decide +kernel
theorem dX8_done_74 : decode cX8_done 74 = .ok (.aload_n 0, 1) := by decide +kernel
theorem dX8_done_75 : decode cX8_done 75 = .ok (.invokevirtual 165, 3) := by decide +kernel
theorem dX8_done_78 : decode cX8_done 78 = .ok (.iload_n 2, 1) := by decide +kernel
theorem dX8_done_79 : decode cX8_done 79 = .ok (.ireturn, 1) := by decide +kernel
theorem dX8_book_0 : decode cX8_book 0 = .ok (.iload_n 1, 1) := by decide +kernel
theorem dX8_book_1 : decode cX8_book 1 = .ok (.iconst (-1), 1) := by decide +kernel
theorem dX8_book_2 : decode cX8_book 2 = .ok (.if_icmp .ne 13, 3) := by decide +kernel
theorem dX8_book_5 : decode cX8_book 5 = .ok (.aload_n 0, 1) := by decide +kernel
theorem dX8_book_6 : decode cX8_book 6 = .ok (.getfield 9, 3) := by decide +kernel
theorem dX8_book_9 : decode cX8_book 9 = .ok (.bipush 37, 2) := by decide +kernel
theorem dX8_book_11 : decode cX8_book 11 = .ok (.iconst 0, 1) := by decide +kernel
theorem dX8_book_12 : decode cX8_book 12 = .ok (.iastore, 1) := by decide +kernel
theorem dX8_book_13 : decode cX8_book 13 = .ok (.iconst 0, 1) := by decide +kernel
theorem dX8_book_14 : decode cX8_book 14 = .ok (.ireturn, 1) := by decide +kernel
theorem dX8_book_15 : decode cX8_book 15 = .ok (.aload_n 0, 1) := by decide +kernel
theorem dX8_book_16 : decode cX8_book 16 = .ok (.iload_n 1, 1) := by decide +kernel
theorem dX8_book_17 : decode cX8_book 17 = .ok (.invokevirtual 129, 3) := by decide +kernel
theorem dX8_book_20 : decode cX8_book 20 = .ok (.ifCond .ne 5, 3) := by decide +kernel
theorem dX8_book_23 : decode cX8_book 23 = .ok (.iconst (-1), 1) := by decide +kernel
theorem dX8_book_24 : decode cX8_book 24 = .ok (.ireturn, 1) := by decide +kernel
theorem dX8_book_25 : decode cX8_book 25 = .ok (.iload_n 2, 1) := by decide +kernel
theorem dX8_book_26 : decode cX8_book 26 = .ok (.iconst 0, 1) := by decide +kernel
theorem dX8_book_27 : decode cX8_book 27 = .ok (.bipush 99, 2) := by decide +kernel
theorem dX8_book_29 : decode cX8_book 29 = .ok (.invokestatic 35, 3) := by decide +kernel
theorem dX8_book_32 : decode cX8_book 32 = .ok (.ifCond .ne 6, 3) := by decide +kernel
theorem dX8_book_35 : decode cX8_book 35 = .ok (.bipush (-2), 2) := by decide +kernel
theorem dX8_book_37 : decode cX8_book 37 = .ok (.ireturn, 1) := by decide +kernel
theorem dX8_book_38 : decode cX8_book 38 = .ok (.aload_n 0, 1) := by decide +kernel
theorem dX8_book_39 : decode cX8_book 39 = .ok (.getfield 9, 3) := by decide +kernel
theorem dX8_book_42 : decode cX8_book 42 = .ok (.bipush 37, 2) := by decide +kernel
theorem dX8_book_44 : decode cX8_book 44 = .ok (.iaload, 1) := by decide +kernel
theorem dX8_book_45 : decode cX8_book 45 = .ok (.bipush 8, 2) := by decide +kernel
theorem dX8_book_47 : decode cX8_book 47 = .ok (.if_icmp .ne 6, 3) := by decide +kernel
theorem dX8_book_50 : decode cX8_book 50 = .ok (.bipush (-4), 2) := by decide +kernel
theorem dX8_book_52 : decode cX8_book 52 = .ok (.ireturn, 1) := by decide +kernel
theorem dX8_book_53 : decode cX8_book 53 = .ok (.aload_n 0, 1) := by decide +kernel
theorem dX8_book_54 : decode cX8_book 54 = .ok (.getfield 9, 3) := by decide +kernel
theorem dX8_book_57 : decode cX8_book 57 = .ok (.bipush 107, 2) := by decide +kernel
theorem dX8_book_59 : decode cX8_book 59 = .ok (.aload_n 0, 1) := by decide +kernel
theorem dX8_book_60 : decode cX8_book 60 = .ok (.getfield 9, 3) := by decide +kernel
theorem dX8_book_63 : decode cX8_book 63 = .ok (.bipush 37, 2) := by decide +kernel
theorem dX8_book_65 : decode cX8_book 65 = .ok (.iaload, 1) := by decide +kernel
theorem dX8_book_66 : decode cX8_book 66 = .ok (.iadd, 1) := by decide +kernel
theorem dX8_book_67 : decode cX8_book 67 = .ok (.iload_n 1, 1) := by decide +kernel
theorem dX8_book_68 : decode cX8_book 68 = .ok (.iastore, 1) := by decide +kernel
theorem dX8_book_69 : decode cX8_book 69 = .ok (.aload_n 0, 1) := by decide +kernel
theorem dX8_book_70 : decode cX8_book 70 = .ok (.getfield 9, 3) := by decide +kernel
theorem dX8_book_73 : decode cX8_book 73 = .ok (.bipush 115, 2) := by decide +kernel
theorem dX8_book_75 : decode cX8_book 75 = .ok (.aload_n 0, 1) := by decide +kernel
theorem dX8_book_76 : decode cX8_book 76 = .ok (.getfield 9, 3) := by decide +kernel
theorem dX8_book_79 : decode cX8_book 79 = .ok (.bipush 37, 2) := by decide +kernel
theorem dX8_book_81 : decode cX8_book 81 = .ok (.iaload, 1) := by decide +kernel
theorem dX8_book_82 : decode cX8_book 82 = .ok (.iadd, 1) := by decide +kernel
theorem dX8_book_83 : decode cX8_book 83 = .ok (.iload_n 2, 1) := by decide +kernel
theorem dX8_book_84 : decode cX8_book 84 = .ok (.iastore, 1) := by decide +kernel
theorem dX8_book_85 : decode cX8_book 85 = .ok (.aload_n 0, 1) := by decide +kernel
theorem dX8_book_86 : decode cX8_book 86 = .ok (.getfield 9, 3) := by decide +kernel
theorem dX8_book_89 : decode cX8_book 89 = .ok (.bipush 37, 2) := by decide +kernel
theorem dX8_book_91 : decode cX8_book 91 = .ok (.dup2, 1) := by decide +kernel
theorem dX8_book_92 : decode cX8_book 92 = .ok (.iaload, 1) := by decide +kernel
theorem dX8_book_93 : decode cX8_book 93 = .ok (.iconst 1, 1) := by decide +kernel
theorem dX8_book_94 : decode cX8_book 94 = .ok (.iadd, 1) := by decide +kernel
theorem dX8_book_95 : decode cX8_book 95 = .ok (.iastore, 1) := by decide +kernel
theorem dX8_book_96 : decode cX8_book 96 = .ok (.aload_n 0, 1) := by decide +kernel
theorem dX8_book_97 : decode cX8_book 97 = .ok (.getfield 9, 3) := by decide +kernel
theorem dX8_book_100 : decode cX8_book 100 = .ok (.bipush 37, 2) := by decide +kernel
theorem dX8_book_102 : decode cX8_book 102 = .ok (.iaload, 1) := by decide +kernel
theorem dX8_book_103 : decode cX8_book 103 = .ok (.ireturn, 1) := by decide +kernel
theorem dX8_struck_0 : decode cX8_struck 0 = .ok (.iconst 0, 1) := by decide +kernel
theorem dX8_struck_1 : decode cX8_struck 1 = .ok (.istore_n 1, 1) := by decide +kernel
theorem dX8_struck_2 : decode cX8_struck 2 = .ok (.iload_n 1, 1) := by decide +kernel
theorem dX8_struck_3 : decode cX8_struck 3 = .ok (.aload_n 0, 1) := by decide +kernel
theorem dX8_struck_4 : decode cX8_struck 4 = .ok (.getfield 9, 3) := by decide +kernel
theorem dX8_struck_7 : decode cX8_struck 7 = .ok (.bipush 37, 2) := by decide +kernel
theorem dX8_struck_9 : decode cX8_struck 9 = .ok (.iaload, 1) := by decide +kernel
theorem dX8_struck_10 : decode cX8_struck 10 = .ok (.if_icmp .ge 40, 3) := by decide +kernel
theorem dX8_struck_13 : decode cX8_struck 13 = .ok (.aload_n 0, 1) := by decide +kernel
theorem dX8_struck_14 : decode cX8_struck 14 = .ok (.getfield 9, 3) := by decide +kernel
theorem dX8_struck_17 : decode cX8_struck 17 = .ok (.bipush 9, 2) := by decide +kernel
theorem dX8_struck_19 : decode cX8_struck 19 = .ok (.aload_n 0, 1) := by decide +kernel
theorem dX8_struck_20 : decode cX8_struck 20 = .ok (.getfield 9, 3) := by decide +kernel
theorem dX8_struck_23 : decode cX8_struck 23 = .ok (.bipush 107, 2) := by decide +kernel
theorem dX8_struck_25 : decode cX8_struck 25 = .ok (.iload_n 1, 1) := by decide +kernel
theorem dX8_struck_26 : decode cX8_struck 26 = .ok (.iadd, 1) := by decide +kernel
theorem dX8_struck_27 : decode cX8_struck 27 = .ok (.iaload, 1) := by decide +kernel
theorem dX8_struck_28 : decode cX8_struck 28 = .ok (.iadd, 1) := by decide +kernel
theorem dX8_struck_29 : decode cX8_struck 29 = .ok (.iaload, 1) := by decide +kernel
theorem dX8_struck_30 : decode cX8_struck 30 = .ok (.aload_n 0, 1) := by decide +kernel
theorem dX8_struck_31 : decode cX8_struck 31 = .ok (.getfield 9, 3) := by decide +kernel
theorem dX8_struck_34 : decode cX8_struck 34 = .ok (.bipush 115, 2) := by decide +kernel
theorem dX8_struck_36 : decode cX8_struck 36 = .ok (.iload_n 1, 1) := by decide +kernel
theorem dX8_struck_37 : decode cX8_struck 37 = .ok (.iadd, 1) := by decide +kernel
theorem dX8_struck_38 : decode cX8_struck 38 = .ok (.iaload, 1) := by decide +kernel
theorem dX8_struck_39 : decode cX8_struck 39 = .ok (.if_icmp .eq 5, 3) := by decide +kernel
theorem dX8_struck_42 : decode cX8_struck 42 = .ok (.iload_n 1, 1) := by decide +kernel
theorem dX8_struck_43 : decode cX8_struck 43 = .ok (.ireturn, 1) := by decide +kernel
theorem dX8_struck_44 : decode cX8_struck 44 = .ok (.iinc 1 1, 3) := by decide +kernel
theorem dX8_struck_47 : decode cX8_struck 47 = .ok (.goto (-45), 3) := by decide +kernel
theorem dX8_struck_50 : decode cX8_struck 50 = .ok (.bipush (-5), 2) := by decide +kernel
theorem dX8_struck_52 : decode cX8_struck 52 = .ok (.ireturn, 1) := by decide +kernel
theorem dX8_ranBody_0 : decode cX8_ranBody 0 = .ok (.aload_n 0, 1) := by decide +kernel
theorem dX8_ranBody_1 : decode cX8_ranBody 1 = .ok (.getfield 204, 3) := by decide +kernel
theorem dX8_ranBody_4 : decode cX8_ranBody 4 = .ok (.bipush 20, 2) := by decide +kernel
theorem dX8_ranBody_6 : decode cX8_ranBody 6 = .ok (.if_icmp .ge 13, 3) := by decide +kernel
theorem dX8_ranBody_9 : decode cX8_ranBody 9 = .ok (.aload_n 0, 1) := by decide +kernel
theorem dX8_ranBody_10 : decode cX8_ranBody 10 = .ok (.getfield 28, 3) := by decide +kernel
theorem dX8_ranBody_13 : decode cX8_ranBody 13 = .ok (.aload_n 0, 1) := by decide +kernel
theorem dX8_ranBody_14 : decode cX8_ranBody 14 = .ok (.getfield 204, 3) := by decide +kernel
theorem dX8_ranBody_17 : decode cX8_ranBody 17 = .ok (.iload_n 1, 1) := by decide +kernel
theorem dX8_ranBody_18 : decode cX8_ranBody 18 = .ok (.iastore, 1) := by decide +kernel
theorem dX8_ranBody_19 : decode cX8_ranBody 19 = .ok (.aload_n 0, 1) := by decide +kernel
theorem dX8_ranBody_20 : decode cX8_ranBody 20 = .ok (.dup, 1) := by decide +kernel
theorem dX8_ranBody_21 : decode cX8_ranBody 21 = .ok (.getfield 204, 3) := by decide +kernel
theorem dX8_ranBody_24 : decode cX8_ranBody 24 = .ok (.iconst 1, 1) := by decide +kernel
theorem dX8_ranBody_25 : decode cX8_ranBody 25 = .ok (.iadd, 1) := by decide +kernel
theorem dX8_ranBody_26 : decode cX8_ranBody 26 = .ok (.putfield 204, 3) := by decide +kernel
theorem dX8_ranBody_29 : decode cX8_ranBody 29 = .ok (.return_, 1) := by decide +kernel
theorem dX8_isUnder_0 : decode cX8_isUnder 0 = .ok (.iload_n 1, 1) := by decide +kernel
theorem dX8_isUnder_1 : decode cX8_isUnder 1 = .ok (.ifCond .eq 24, 3) := by decide +kernel
theorem dX8_isUnder_4 : decode cX8_isUnder 4 = .ok (.iload_n 1, 1) := by decide +kernel
theorem dX8_isUnder_5 : decode cX8_isUnder 5 = .ok (.iload_n 0, 1) := by decide +kernel
theorem dX8_isUnder_6 : decode cX8_isUnder 6 = .ok (.if_icmp .eq 19, 3) := by decide +kernel
theorem dX8_isUnder_9 : decode cX8_isUnder 9 = .ok (.iload_n 1, 1) := by decide +kernel
theorem dX8_isUnder_10 : decode cX8_isUnder 10 = .ok (.ifCond .le 19, 3) := by decide +kernel
theorem dX8_isUnder_13 : decode cX8_isUnder 13 = .ok (.iload_n 1, 1) := by decide +kernel
theorem dX8_isUnder_14 : decode cX8_isUnder 14 = .ok (.iconst 4, 1) := by decide +kernel
theorem dX8_isUnder_15 : decode cX8_isUnder 15 = .ok (.if_icmp .ge 14, 3) := by decide +kernel
theorem dX8_isUnder_18 : decode cX8_isUnder 18 = .ok (.iload_n 0, 1) := by decide +kernel
theorem dX8_isUnder_19 : decode cX8_isUnder 19 = .ok (.iload_n 1, 1) := by decide +kernel
theorem dX8_isUnder_20 : decode cX8_isUnder 20 = .ok (.iconst 3, 1) := by decide +kernel
theorem dX8_isUnder_21 : decode cX8_isUnder 21 = .ok (.iadd, 1) := by decide +kernel
theorem dX8_isUnder_22 : decode cX8_isUnder 22 = .ok (.if_icmp .ne 7, 3) := by decide +kernel
theorem dX8_isUnder_25 : decode cX8_isUnder 25 = .ok (.iconst 1, 1) := by decide +kernel
theorem dX8_isUnder_26 : decode cX8_isUnder 26 = .ok (.goto 4, 3) := by decide +kernel
theorem dX8_isUnder_29 : decode cX8_isUnder 29 = .ok (.iconst 0, 1) := by decide +kernel
theorem dX8_isUnder_30 : decode cX8_isUnder 30 = .ok (.ireturn, 1) := by decide +kernel
theorem dX8_plainClicks_0 : decode cX8_plainClicks 0 = .ok (.aload_n 0, 1) := by decide +kernel
theorem dX8_plainClicks_1 : decode cX8_plainClicks 1 = .ok (.iconst 1, 1) := by decide +kernel
theorem dX8_plainClicks_2 : decode cX8_plainClicks 2 = .ok (.invokevirtual 207, 3) := by decide +kernel
theorem dX8_plainClicks_5 : decode cX8_plainClicks 5 = .ok (.iload_n 1, 1) := by decide +kernel
theorem dX8_plainClicks_6 : decode cX8_plainClicks 6 = .ok (.aload_n 0, 1) := by decide +kernel
theorem dX8_plainClicks_7 : decode cX8_plainClicks 7 = .ok (.getfield 210, 3) := by decide +kernel
theorem dX8_plainClicks_10 : decode cX8_plainClicks 10 = .ok (.iadd, 1) := by decide +kernel
theorem dX8_plainClicks_11 : decode cX8_plainClicks 11 = .ok (.ireturn, 1) := by decide +kernel
theorem dX8_clicksActs_0 : decode cX8_clicksActs 0 = .ok (.aload_n 0, 1) := by decide +kernel
theorem dX8_clicksActs_1 : decode cX8_clicksActs 1 = .ok (.getfield 213, 3) := by decide +kernel
theorem dX8_clicksActs_4 : decode cX8_clicksActs 4 = .ok (.iconst 1, 1) := by decide +kernel
theorem dX8_clicksActs_5 : decode cX8_clicksActs 5 = .ok (.invokestatic 216, 3) := by decide +kernel
theorem dX8_clicksActs_8 : decode cX8_clicksActs 8 = .ok (.ifCond .eq 17, 3) := by decide +kernel
theorem dX8_clicksActs_11 : decode cX8_clicksActs 11 = .ok (.aload_n 0, 1) := by decide +kernel
theorem dX8_clicksActs_12 : decode cX8_clicksActs 12 = .ok (.bipush 11, 2) := by decide +kernel
theorem dX8_clicksActs_14 : decode cX8_clicksActs 14 = .ok (.invokevirtual 207, 3) := by decide +kernel
theorem dX8_clicksActs_17 : decode cX8_clicksActs 17 = .ok (.aload_n 0, 1) := by decide +kernel
theorem dX8_clicksActs_18 : decode cX8_clicksActs 18 = .ok (.iload_n 1, 1) := by decide +kernel
theorem dX8_clicksActs_19 : decode cX8_clicksActs 19 = .ok (.iconst 3, 1) := by decide +kernel
theorem dX8_clicksActs_20 : decode cX8_clicksActs 20 = .ok (.imul, 1) := by decide +kernel
theorem dX8_clicksActs_21 : decode cX8_clicksActs 21 = .ok (.invokevirtual 219, 3) := by decide +kernel
theorem dX8_clicksActs_24 : decode cX8_clicksActs 24 = .ok (.ireturn, 1) := by decide +kernel
theorem dX8_clicksActs_25 : decode cX8_clicksActs 25 = .ok (.aload_n 0, 1) := by decide +kernel
theorem dX8_clicksActs_26 : decode cX8_clicksActs 26 = .ok (.getfield 213, 3) := by decide +kernel
theorem dX8_clicksActs_29 : decode cX8_clicksActs 29 = .ok (.iconst 5, 1) := by decide +kernel
theorem dX8_clicksActs_30 : decode cX8_clicksActs 30 = .ok (.if_icmp .ne 20, 3) := by decide +kernel
theorem dX8_clicksActs_33 : decode cX8_clicksActs 33 = .ok (.aload_n 0, 1) := by decide +kernel
theorem dX8_clicksActs_34 : decode cX8_clicksActs 34 = .ok (.bipush 51, 2) := by decide +kernel
theorem dX8_clicksActs_36 : decode cX8_clicksActs 36 = .ok (.invokevirtual 207, 3) := by decide +kernel
theorem dX8_clicksActs_39 : decode cX8_clicksActs 39 = .ok (.aload_n 0, 1) := by decide +kernel
theorem dX8_clicksActs_40 : decode cX8_clicksActs 40 = .ok (.iload_n 1, 1) := by decide +kernel
theorem dX8_clicksActs_41 : decode cX8_clicksActs 41 = .ok (.invokevirtual 219, 3) := by decide +kernel
theorem dX8_clicksActs_44 : decode cX8_clicksActs 44 = .ok (.aload_n 0, 1) := by decide +kernel
theorem dX8_clicksActs_45 : decode cX8_clicksActs 45 = .ok (.getfield 210, 3) := by decide +kernel
theorem dX8_clicksActs_48 : decode cX8_clicksActs 48 = .ok (.ixor, 1) := by decide +kernel
theorem dX8_clicksActs_49 : decode cX8_clicksActs 49 = .ok (.ireturn, 1) := by decide +kernel
theorem dX8_clicksActs_50 : decode cX8_clicksActs 50 = .ok (.aload_n 0, 1) := by decide +kernel
theorem dX8_clicksActs_51 : decode cX8_clicksActs 51 = .ok (.iload_n 1, 1) := by decide +kernel
theorem dX8_clicksActs_52 : decode cX8_clicksActs 52 = .ok (.invokevirtual 219, 3) := by decide +kernel
theorem dX8_clicksActs_55 : decode cX8_clicksActs 55 = .ok (.ireturn, 1) := by decide +kernel
theorem dX8_plainPulls_0 : decode cX8_plainPulls 0 = .ok (.aload_n 0, 1) := by decide +kernel
theorem dX8_plainPulls_1 : decode cX8_plainPulls 1 = .ok (.iconst 2, 1) := by decide +kernel
theorem dX8_plainPulls_2 : decode cX8_plainPulls 2 = .ok (.invokevirtual 207, 3) := by decide +kernel
theorem dX8_plainPulls_5 : decode cX8_plainPulls 5 = .ok (.aload_n 0, 1) := by decide +kernel
theorem dX8_plainPulls_6 : decode cX8_plainPulls 6 = .ok (.iload_n 1, 1) := by decide +kernel
theorem dX8_plainPulls_7 : decode cX8_plainPulls 7 = .ok (.invokevirtual 222, 3) := by decide +kernel
theorem dX8_plainPulls_10 : decode cX8_plainPulls 10 = .ok (.aload_n 0, 1) := by decide +kernel
theorem dX8_plainPulls_11 : decode cX8_plainPulls 11 = .ok (.getfield 225, 3) := by decide +kernel
theorem dX8_plainPulls_14 : decode cX8_plainPulls 14 = .ok (.isub, 1) := by decide +kernel
theorem dX8_plainPulls_15 : decode cX8_plainPulls 15 = .ok (.ireturn, 1) := by decide +kernel
theorem dX8_pullsActs_0 : decode cX8_pullsActs 0 = .ok (.aload_n 0, 1) := by decide +kernel
theorem dX8_pullsActs_1 : decode cX8_pullsActs 1 = .ok (.getfield 213, 3) := by decide +kernel
theorem dX8_pullsActs_4 : decode cX8_pullsActs 4 = .ok (.iconst 2, 1) := by decide +kernel
theorem dX8_pullsActs_5 : decode cX8_pullsActs 5 = .ok (.invokestatic 216, 3) := by decide +kernel
theorem dX8_pullsActs_8 : decode cX8_pullsActs 8 = .ok (.ifCond .eq 16, 3) := by decide +kernel
theorem dX8_pullsActs_11 : decode cX8_pullsActs 11 = .ok (.aload_n 0, 1) := by decide +kernel
theorem dX8_pullsActs_12 : decode cX8_pullsActs 12 = .ok (.bipush 21, 2) := by decide +kernel
theorem dX8_pullsActs_14 : decode cX8_pullsActs 14 = .ok (.invokevirtual 207, 3) := by decide +kernel
theorem dX8_pullsActs_17 : decode cX8_pullsActs 17 = .ok (.aload_n 0, 1) := by decide +kernel
theorem dX8_pullsActs_18 : decode cX8_pullsActs 18 = .ok (.iload_n 1, 1) := by decide +kernel
theorem dX8_pullsActs_19 : decode cX8_pullsActs 19 = .ok (.invokevirtual 228, 3) := by decide +kernel
theorem dX8_pullsActs_22 : decode cX8_pullsActs 22 = .ok (.ineg, 1) := by decide +kernel
theorem dX8_pullsActs_23 : decode cX8_pullsActs 23 = .ok (.ireturn, 1) := by decide +kernel
theorem dX8_pullsActs_24 : decode cX8_pullsActs 24 = .ok (.aload_n 0, 1) := by decide +kernel
theorem dX8_pullsActs_25 : decode cX8_pullsActs 25 = .ok (.getfield 213, 3) := by decide +kernel
theorem dX8_pullsActs_28 : decode cX8_pullsActs 28 = .ok (.bipush 6, 2) := by decide +kernel
theorem dX8_pullsActs_30 : decode cX8_pullsActs 30 = .ok (.if_icmp .ne 20, 3) := by decide +kernel
theorem dX8_pullsActs_33 : decode cX8_pullsActs 33 = .ok (.aload_n 0, 1) := by decide +kernel
theorem dX8_pullsActs_34 : decode cX8_pullsActs 34 = .ok (.bipush 61, 2) := by decide +kernel
theorem dX8_pullsActs_36 : decode cX8_pullsActs 36 = .ok (.invokevirtual 207, 3) := by decide +kernel
theorem dX8_pullsActs_39 : decode cX8_pullsActs 39 = .ok (.aload_n 0, 1) := by decide +kernel
theorem dX8_pullsActs_40 : decode cX8_pullsActs 40 = .ok (.iload_n 1, 1) := by decide +kernel
theorem dX8_pullsActs_41 : decode cX8_pullsActs 41 = .ok (.invokevirtual 228, 3) := by decide +kernel
theorem dX8_pullsActs_44 : decode cX8_pullsActs 44 = .ok (.aload_n 0, 1) := by decide +kernel
theorem dX8_pullsActs_45 : decode cX8_pullsActs 45 = .ok (.getfield 225, 3) := by decide +kernel
theorem dX8_pullsActs_48 : decode cX8_pullsActs 48 = .ok (.iadd, 1) := by decide +kernel
theorem dX8_pullsActs_49 : decode cX8_pullsActs 49 = .ok (.ireturn, 1) := by decide +kernel
theorem dX8_pullsActs_50 : decode cX8_pullsActs 50 = .ok (.aload_n 0, 1) := by decide +kernel
theorem dX8_pullsActs_51 : decode cX8_pullsActs 51 = .ok (.iload_n 1, 1) := by decide +kernel
theorem dX8_pullsActs_52 : decode cX8_pullsActs 52 = .ok (.invokevirtual 228, 3) := by decide +kernel
theorem dX8_pullsActs_55 : decode cX8_pullsActs 55 = .ok (.ireturn, 1) := by decide +kernel
theorem dX8_plainTelling_0 : decode cX8_plainTelling 0 = .ok (.aload_n 0, 1) := by decide +kernel
theorem dX8_plainTelling_1 : decode cX8_plainTelling 1 = .ok (.iconst 3, 1) := by decide +kernel
theorem dX8_plainTelling_2 : decode cX8_plainTelling 2 = .ok (.invokevirtual 207, 3) := by decide +kernel
theorem dX8_plainTelling_5 : decode cX8_plainTelling 5 = .ok (.aload_n 0, 1) := by decide +kernel
theorem dX8_plainTelling_6 : decode cX8_plainTelling 6 = .ok (.iload_n 1, 1) := by decide +kernel
theorem dX8_plainTelling_7 : decode cX8_plainTelling 7 = .ok (.invokevirtual 231, 3) := by decide +kernel
theorem dX8_plainTelling_10 : decode cX8_plainTelling 10 = .ok (.iconst 2, 1) := by decide +kernel
theorem dX8_plainTelling_11 : decode cX8_plainTelling 11 = .ok (.imul, 1) := by decide +kernel
theorem dX8_plainTelling_12 : decode cX8_plainTelling 12 = .ok (.ireturn, 1) := by decide +kernel
theorem dX8_looksActs_0 : decode cX8_looksActs 0 = .ok (.aload_n 0, 1) := by decide +kernel
theorem dX8_looksActs_1 : decode cX8_looksActs 1 = .ok (.getfield 213, 3) := by decide +kernel
theorem dX8_looksActs_4 : decode cX8_looksActs 4 = .ok (.iconst 3, 1) := by decide +kernel
theorem dX8_looksActs_5 : decode cX8_looksActs 5 = .ok (.invokestatic 216, 3) := by decide +kernel
theorem dX8_looksActs_8 : decode cX8_looksActs 8 = .ok (.ifCond .eq 18, 3) := by decide +kernel
theorem dX8_looksActs_11 : decode cX8_looksActs 11 = .ok (.aload_n 0, 1) := by decide +kernel
theorem dX8_looksActs_12 : decode cX8_looksActs 12 = .ok (.bipush 31, 2) := by decide +kernel
theorem dX8_looksActs_14 : decode cX8_looksActs 14 = .ok (.invokevirtual 207, 3) := by decide +kernel
theorem dX8_looksActs_17 : decode cX8_looksActs 17 = .ok (.aload_n 0, 1) := by decide +kernel
theorem dX8_looksActs_18 : decode cX8_looksActs 18 = .ok (.iload_n 1, 1) := by decide +kernel
theorem dX8_looksActs_19 : decode cX8_looksActs 19 = .ok (.invokevirtual 234, 3) := by decide +kernel
theorem dX8_looksActs_22 : decode cX8_looksActs 22 = .ok (.bipush 7, 2) := by decide +kernel
theorem dX8_looksActs_24 : decode cX8_looksActs 24 = .ok (.ixor, 1) := by decide +kernel
theorem dX8_looksActs_25 : decode cX8_looksActs 25 = .ok (.ireturn, 1) := by decide +kernel
theorem dX8_looksActs_26 : decode cX8_looksActs 26 = .ok (.aload_n 0, 1) := by decide +kernel
theorem dX8_looksActs_27 : decode cX8_looksActs 27 = .ok (.getfield 213, 3) := by decide +kernel
theorem dX8_looksActs_30 : decode cX8_looksActs 30 = .ok (.iconst 4, 1) := by decide +kernel
theorem dX8_looksActs_31 : decode cX8_looksActs 31 = .ok (.if_icmp .ne 25, 3) := by decide +kernel
theorem dX8_looksActs_34 : decode cX8_looksActs 34 = .ok (.aload_n 0, 1) := by decide +kernel
theorem dX8_looksActs_35 : decode cX8_looksActs 35 = .ok (.bipush 41, 2) := by decide +kernel
theorem dX8_looksActs_37 : decode cX8_looksActs 37 = .ok (.invokevirtual 207, 3) := by decide +kernel
theorem dX8_looksActs_40 : decode cX8_looksActs 40 = .ok (.aload_n 0, 1) := by decide +kernel
theorem dX8_looksActs_41 : decode cX8_looksActs 41 = .ok (.iload_n 1, 1) := by decide +kernel
theorem dX8_looksActs_42 : decode cX8_looksActs 42 = .ok (.iconst 1, 1) := by decide +kernel
theorem dX8_looksActs_43 : decode cX8_looksActs 43 = .ok (.isub, 1) := by decide +kernel
theorem dX8_looksActs_44 : decode cX8_looksActs 44 = .ok (.invokevirtual 234, 3) := by decide +kernel
theorem dX8_looksActs_47 : decode cX8_looksActs 47 = .ok (.istore_n 2, 1) := by decide +kernel
theorem dX8_looksActs_48 : decode cX8_looksActs 48 = .ok (.iload_n 2, 1) := by decide +kernel
theorem dX8_looksActs_49 : decode cX8_looksActs 49 = .ok (.aload_n 0, 1) := by decide +kernel
theorem dX8_looksActs_50 : decode cX8_looksActs 50 = .ok (.iconst 2, 1) := by decide +kernel
theorem dX8_looksActs_51 : decode cX8_looksActs 51 = .ok (.invokevirtual 222, 3) := by decide +kernel
theorem dX8_looksActs_54 : decode cX8_looksActs 54 = .ok (.iadd, 1) := by decide +kernel
theorem dX8_looksActs_55 : decode cX8_looksActs 55 = .ok (.ireturn, 1) := by decide +kernel
theorem dX8_looksActs_56 : decode cX8_looksActs 56 = .ok (.aload_n 0, 1) := by decide +kernel
theorem dX8_looksActs_57 : decode cX8_looksActs 57 = .ok (.iload_n 1, 1) := by decide +kernel
theorem dX8_looksActs_58 : decode cX8_looksActs 58 = .ok (.invokevirtual 234, 3) := by decide +kernel
theorem dX8_looksActs_61 : decode cX8_looksActs 61 = .ok (.ireturn, 1) := by decide +kernel
theorem dX8_act_0 : decode cX8_act 0 = .ok (.aload_n 0, 1) := by decide +kernel
theorem dX8_act_1 : decode cX8_act 1 = .ok (.iconst 0, 1) := by decide +kernel
theorem dX8_act_2 : decode cX8_act 2 = .ok (.putfield 204, 3) := by decide +kernel
theorem dX8_act_5 : decode cX8_act 5 = .ok (.aload_n 0, 1) := by decide +kernel
theorem dX8_act_6 : decode cX8_act 6 = .ok (.iload_n 1, 1) := by decide +kernel
theorem dX8_act_7 : decode cX8_act 7 = .ok (.invokevirtual 129, 3) := by decide +kernel
theorem dX8_act_10 : decode cX8_act 10 = .ok (.ifCond .eq 12, 3) := by decide +kernel
theorem dX8_act_13 : decode cX8_act 13 = .ok (.iload_n 2, 1) := by decide +kernel
theorem dX8_act_14 : decode cX8_act 14 = .ok (.iconst 0, 1) := by decide +kernel
theorem dX8_act_15 : decode cX8_act 15 = .ok (.iconst 2, 1) := by decide +kernel
theorem dX8_act_16 : decode cX8_act 16 = .ok (.invokestatic 35, 3) := by decide +kernel
theorem dX8_act_19 : decode cX8_act 19 = .ok (.ifCond .ne 5, 3) := by decide +kernel
theorem dX8_act_22 : decode cX8_act 22 = .ok (.iconst 0, 1) := by decide +kernel
theorem dX8_act_23 : decode cX8_act 23 = .ok (.ireturn, 1) := by decide +kernel
theorem dX8_act_24 : decode cX8_act 24 = .ok (.aload_n 0, 1) := by decide +kernel
theorem dX8_act_25 : decode cX8_act 25 = .ok (.aload_n 0, 1) := by decide +kernel
theorem dX8_act_26 : decode cX8_act 26 = .ok (.getfield 9, 3) := by decide +kernel
theorem dX8_act_29 : decode cX8_act 29 = .ok (.bipush 40, 2) := by decide +kernel
theorem dX8_act_31 : decode cX8_act 31 = .ok (.iload_n 1, 1) := by decide +kernel
theorem dX8_act_32 : decode cX8_act 32 = .ok (.iadd, 1) := by decide +kernel
theorem dX8_act_33 : decode cX8_act 33 = .ok (.iaload, 1) := by decide +kernel
theorem dX8_act_34 : decode cX8_act 34 = .ok (.putfield 213, 3) := by decide +kernel
theorem dX8_act_37 : decode cX8_act 37 = .ok (.aload_n 0, 1) := by decide +kernel
theorem dX8_act_38 : decode cX8_act 38 = .ok (.iload_n 1, 1) := by decide +kernel
theorem dX8_act_39 : decode cX8_act 39 = .ok (.putfield 210, 3) := by decide +kernel
theorem dX8_act_42 : decode cX8_act 42 = .ok (.aload_n 0, 1) := by decide +kernel
theorem dX8_act_43 : decode cX8_act 43 = .ok (.aload_n 0, 1) := by decide +kernel
theorem dX8_act_44 : decode cX8_act 44 = .ok (.getfield 9, 3) := by decide +kernel
theorem dX8_act_47 : decode cX8_act 47 = .ok (.bipush 46, 2) := by decide +kernel
theorem dX8_act_49 : decode cX8_act 49 = .ok (.iload_n 1, 1) := by decide +kernel
theorem dX8_act_50 : decode cX8_act 50 = .ok (.iadd, 1) := by decide +kernel
theorem dX8_act_51 : decode cX8_act 51 = .ok (.iaload, 1) := by decide +kernel
theorem dX8_act_52 : decode cX8_act 52 = .ok (.putfield 225, 3) := by decide +kernel
theorem dX8_act_55 : decode cX8_act 55 = .ok (.iload_n 2, 1) := by decide +kernel
theorem dX8_act_56 : decode cX8_act 56 = .ok (.ifCond .ne 11, 3) := by decide +kernel
theorem dX8_act_59 : decode cX8_act 59 = .ok (.aload_n 0, 1) := by decide +kernel
theorem dX8_act_60 : decode cX8_act 60 = .ok (.iload_n 3, 1) := by decide +kernel
theorem dX8_act_61 : decode cX8_act 61 = .ok (.invokevirtual 222, 3) := by decide +kernel
theorem dX8_act_64 : decode cX8_act 64 = .ok (.goto 21, 3) := by decide +kernel
theorem dX8_act_67 : decode cX8_act 67 = .ok (.iload_n 2, 1) := by decide +kernel
theorem dX8_act_68 : decode cX8_act 68 = .ok (.iconst 1, 1) := by decide +kernel
theorem dX8_act_69 : decode cX8_act 69 = .ok (.if_icmp .ne 11, 3) := by decide +kernel
theorem dX8_act_72 : decode cX8_act 72 = .ok (.aload_n 0, 1) := by decide +kernel
theorem dX8_act_73 : decode cX8_act 73 = .ok (.iload_n 3, 1) := by decide +kernel
theorem dX8_act_74 : decode cX8_act 74 = .ok (.invokevirtual 231, 3) := by decide +kernel
theorem dX8_act_77 : decode cX8_act 77 = .ok (.goto 8, 3) := by decide +kernel
theorem dX8_act_80 : decode cX8_act 80 = .ok (.aload_n 0, 1) := by decide +kernel
theorem dX8_act_81 : decode cX8_act 81 = .ok (.iload_n 3, 1) := by decide +kernel
theorem dX8_act_82 : decode cX8_act 82 = .ok (.invokevirtual 237, 3) := by decide +kernel
theorem dX8_act_85 : decode cX8_act 85 = .ok (.ireturn, 1) := by decide +kernel
theorem dX8_trace_0 : decode cX8_trace 0 = .ok (.iload_n 1, 1) := by decide +kernel
theorem dX8_trace_1 : decode cX8_trace 1 = .ok (.iconst 0, 1) := by decide +kernel
theorem dX8_trace_2 : decode cX8_trace 2 = .ok (.aload_n 0, 1) := by decide +kernel
theorem dX8_trace_3 : decode cX8_trace 3 = .ok (.getfield 204, 3) := by decide +kernel
theorem dX8_trace_6 : decode cX8_trace 6 = .ok (.bipush 20, 2) := by decide +kernel
theorem dX8_trace_8 : decode cX8_trace 8 = .ok (.if_icmp .ge 10, 3) := by decide +kernel
theorem dX8_trace_11 : decode cX8_trace 11 = .ok (.aload_n 0, 1) := by decide +kernel
theorem dX8_trace_12 : decode cX8_trace 12 = .ok (.getfield 204, 3) := by decide +kernel
theorem dX8_trace_15 : decode cX8_trace 15 = .ok (.goto 5, 3) := by decide +kernel
theorem dX8_trace_18 : decode cX8_trace 18 = .ok (.bipush 20, 2) := by decide +kernel
theorem dX8_trace_20 : decode cX8_trace 20 = .ok (.iconst 1, 1) := by decide +kernel
theorem dX8_trace_21 : decode cX8_trace 21 = .ok (.isub, 1) := by decide +kernel
theorem dX8_trace_22 : decode cX8_trace 22 = .ok (.invokestatic 35, 3) := by decide +kernel
theorem dX8_trace_25 : decode cX8_trace 25 = .ok (.ifCond .eq 12, 3) := by decide +kernel
theorem dX8_trace_28 : decode cX8_trace 28 = .ok (.aload_n 0, 1) := by decide +kernel
theorem dX8_trace_29 : decode cX8_trace 29 = .ok (.getfield 28, 3) := by decide +kernel
theorem dX8_trace_32 : decode cX8_trace 32 = .ok (.iload_n 1, 1) := by decide +kernel
theorem dX8_trace_33 : decode cX8_trace 33 = .ok (.iaload, 1) := by decide +kernel
theorem dX8_trace_34 : decode cX8_trace 34 = .ok (.goto 4, 3) := by decide +kernel
theorem dX8_trace_37 : decode cX8_trace 37 = .ok (.iconst (-1), 1) := by decide +kernel
theorem dX8_trace_38 : decode cX8_trace 38 = .ok (.ireturn, 1) := by decide +kernel
theorem dX8_as_0 : decode cX8_as 0 = .ok (.aload_n 0, 1) := by decide +kernel
theorem dX8_as_1 : decode cX8_as 1 = .ok (.iload_n 1, 1) := by decide +kernel
theorem dX8_as_2 : decode cX8_as 2 = .ok (.invokevirtual 129, 3) := by decide +kernel
theorem dX8_as_5 : decode cX8_as 5 = .ok (.ifCond .eq 13, 3) := by decide +kernel
theorem dX8_as_8 : decode cX8_as 8 = .ok (.iload_n 2, 1) := by decide +kernel
theorem dX8_as_9 : decode cX8_as 9 = .ok (.iconst 0, 1) := by decide +kernel
theorem dX8_as_10 : decode cX8_as 10 = .ok (.bipush 6, 2) := by decide +kernel
theorem dX8_as_12 : decode cX8_as 12 = .ok (.invokestatic 35, 3) := by decide +kernel
theorem dX8_as_15 : decode cX8_as 15 = .ok (.ifCond .ne 5, 3) := by decide +kernel
theorem dX8_as_18 : decode cX8_as 18 = .ok (.iconst (-1), 1) := by decide +kernel
theorem dX8_as_19 : decode cX8_as 19 = .ok (.ireturn, 1) := by decide +kernel
theorem dX8_as_20 : decode cX8_as 20 = .ok (.aload_n 0, 1) := by decide +kernel
theorem dX8_as_21 : decode cX8_as 21 = .ok (.getfield 9, 3) := by decide +kernel
theorem dX8_as_24 : decode cX8_as 24 = .ok (.bipush 40, 2) := by decide +kernel
theorem dX8_as_26 : decode cX8_as 26 = .ok (.iload_n 1, 1) := by decide +kernel
theorem dX8_as_27 : decode cX8_as 27 = .ok (.iadd, 1) := by decide +kernel
theorem dX8_as_28 : decode cX8_as 28 = .ok (.iaload, 1) := by decide +kernel
theorem dX8_as_29 : decode cX8_as 29 = .ok (.iload_n 2, 1) := by decide +kernel
theorem dX8_as_30 : decode cX8_as 30 = .ok (.invokestatic 216, 3) := by decide +kernel
theorem dX8_as_33 : decode cX8_as 33 = .ok (.ifCond .eq 15, 3) := by decide +kernel
theorem dX8_as_36 : decode cX8_as 36 = .ok (.aload_n 0, 1) := by decide +kernel
theorem dX8_as_37 : decode cX8_as 37 = .ok (.getfield 9, 3) := by decide +kernel
theorem dX8_as_40 : decode cX8_as 40 = .ok (.bipush 46, 2) := by decide +kernel
theorem dX8_as_42 : decode cX8_as 42 = .ok (.iload_n 1, 1) := by decide +kernel
theorem dX8_as_43 : decode cX8_as 43 = .ok (.iadd, 1) := by decide +kernel
theorem dX8_as_44 : decode cX8_as 44 = .ok (.iaload, 1) := by decide +kernel
theorem dX8_as_45 : decode cX8_as 45 = .ok (.goto 5, 3) := by decide +kernel
theorem dX8_as_48 : decode cX8_as 48 = .ok (.bipush (-6), 2) := by decide +kernel
theorem dX8_as_50 : decode cX8_as 50 = .ok (.ireturn, 1) := by decide +kernel
theorem dX8_image_0 : decode cX8_image 0 = .ok (.iconst 0, 1) := by decide +kernel
theorem dX8_image_1 : decode cX8_image 1 = .ok (.istore_n 1, 1) := by decide +kernel
theorem dX8_image_2 : decode cX8_image 2 = .ok (.iload_n 1, 1) := by decide +kernel
theorem dX8_image_3 : decode cX8_image 3 = .ok (.sipush 933, 3) := by decide +kernel
theorem dX8_image_6 : decode cX8_image 6 = .ok (.if_icmp .ge 21, 3) := by decide +kernel
theorem dX8_image_9 : decode cX8_image 9 = .ok (.aload_n 0, 1) := by decide +kernel
theorem dX8_image_10 : decode cX8_image 10 = .ok (.getfield 15, 3) := by decide +kernel
theorem dX8_image_13 : decode cX8_image 13 = .ok (.iload_n 1, 1) := by decide +kernel
theorem dX8_image_14 : decode cX8_image 14 = .ok (.aload_n 0, 1) := by decide +kernel
theorem dX8_image_15 : decode cX8_image 15 = .ok (.getfield 9, 3) := by decide +kernel
theorem dX8_image_18 : decode cX8_image 18 = .ok (.iload_n 1, 1) := by decide +kernel
theorem dX8_image_19 : decode cX8_image 19 = .ok (.iaload, 1) := by decide +kernel
theorem dX8_image_20 : decode cX8_image 20 = .ok (.iastore, 1) := by decide +kernel
theorem dX8_image_21 : decode cX8_image 21 = .ok (.iinc 1 1, 3) := by decide +kernel
theorem dX8_image_24 : decode cX8_image 24 = .ok (.goto (-22), 3) := by decide +kernel
theorem dX8_image_27 : decode cX8_image 27 = .ok (.aload_n 0, 1) := by decide +kernel
theorem dX8_image_28 : decode cX8_image 28 = .ok (.iconst 1, 1) := by decide +kernel
theorem dX8_image_29 : decode cX8_image 29 = .ok (.putfield 240, 3) := by decide +kernel
theorem dX8_image_32 : decode cX8_image 32 = .ok (.aload_n 0, 1) := by decide +kernel
theorem dX8_image_33 : decode cX8_image 33 = .ok (.getfield 9, 3) := by decide +kernel
theorem dX8_image_36 : decode cX8_image 36 = .ok (.bipush 33, 2) := by decide +kernel
theorem dX8_image_38 : decode cX8_image 38 = .ok (.iaload, 1) := by decide +kernel
theorem dX8_image_39 : decode cX8_image 39 = .ok (.ireturn, 1) := by decide +kernel
theorem dX8_undo_0 : decode cX8_undo 0 = .ok (.aload_n 0, 1) := by decide +kernel
theorem dX8_undo_1 : decode cX8_undo 1 = .ok (.getfield 240, 3) := by decide +kernel
theorem dX8_undo_4 : decode cX8_undo 4 = .ok (.ifCond .ne 6, 3) := by decide +kernel
theorem dX8_undo_7 : decode cX8_undo 7 = .ok (.bipush (-3), 2) := by decide +kernel
theorem dX8_undo_9 : decode cX8_undo 9 = .ok (.ireturn, 1) := by decide +kernel
theorem dX8_undo_10 : decode cX8_undo 10 = .ok (.iconst 0, 1) := by decide +kernel
theorem dX8_undo_11 : decode cX8_undo 11 = .ok (.istore_n 1, 1) := by decide +kernel
theorem dX8_undo_12 : decode cX8_undo 12 = .ok (.iload_n 1, 1) := by decide +kernel
theorem dX8_undo_13 : decode cX8_undo 13 = .ok (.sipush 933, 3) := by decide +kernel
theorem dX8_undo_16 : decode cX8_undo 16 = .ok (.if_icmp .ge 21, 3) := by decide +kernel
theorem dX8_undo_19 : decode cX8_undo 19 = .ok (.aload_n 0, 1) := by decide +kernel
theorem dX8_undo_20 : decode cX8_undo 20 = .ok (.getfield 9, 3) := by decide +kernel
theorem dX8_undo_23 : decode cX8_undo 23 = .ok (.iload_n 1, 1) := by decide +kernel
theorem dX8_undo_24 : decode cX8_undo 24 = .ok (.aload_n 0, 1) := by decide +kernel
theorem dX8_undo_25 : decode cX8_undo 25 = .ok (.getfield 15, 3) := by decide +kernel
theorem dX8_undo_28 : decode cX8_undo 28 = .ok (.iload_n 1, 1) := by decide +kernel
theorem dX8_undo_29 : decode cX8_undo 29 = .ok (.iaload, 1) := by decide +kernel
theorem dX8_undo_30 : decode cX8_undo 30 = .ok (.iastore, 1) := by decide +kernel
theorem dX8_undo_31 : decode cX8_undo 31 = .ok (.iinc 1 1, 3) := by decide +kernel
theorem dX8_undo_34 : decode cX8_undo 34 = .ok (.goto (-22), 3) := by decide +kernel
theorem dX8_undo_37 : decode cX8_undo 37 = .ok (.aload_n 0, 1) := by decide +kernel
theorem dX8_undo_38 : decode cX8_undo 38 = .ok (.getfield 9, 3) := by decide +kernel
theorem dX8_undo_41 : decode cX8_undo 41 = .ok (.bipush 33, 2) := by decide +kernel
theorem dX8_undo_43 : decode cX8_undo 43 = .ok (.iaload, 1) := by decide +kernel
theorem dX8_undo_44 : decode cX8_undo 44 = .ok (.ireturn, 1) := by decide +kernel
theorem dX8_count_0 : decode cX8_count 0 = .ok (.iload_n 1, 1) := by decide +kernel
theorem dX8_count_1 : decode cX8_count 1 = .ok (.bipush 6, 2) := by decide +kernel
theorem dX8_count_3 : decode cX8_count 3 = .ok (.if_icmp .ne 10, 3) := by decide +kernel
theorem dX8_count_6 : decode cX8_count 6 = .ok (.aload_n 0, 1) := by decide +kernel
theorem dX8_count_7 : decode cX8_count 7 = .ok (.getfield 204, 3) := by decide +kernel
theorem dX8_count_10 : decode cX8_count 10 = .ok (.goto 25, 3) := by decide +kernel
theorem dX8_count_13 : decode cX8_count 13 = .ok (.iload_n 1, 1) := by decide +kernel
theorem dX8_count_14 : decode cX8_count 14 = .ok (.iconst 0, 1) := by decide +kernel
theorem dX8_count_15 : decode cX8_count 15 = .ok (.iconst 5, 1) := by decide +kernel
theorem dX8_count_16 : decode cX8_count 16 = .ok (.invokestatic 35, 3) := by decide +kernel
theorem dX8_count_19 : decode cX8_count 19 = .ok (.ifCond .eq 15, 3) := by decide +kernel
theorem dX8_count_22 : decode cX8_count 22 = .ok (.aload_n 0, 1) := by decide +kernel
theorem dX8_count_23 : decode cX8_count 23 = .ok (.getfield 9, 3) := by decide +kernel
theorem dX8_count_26 : decode cX8_count 26 = .ok (.bipush 33, 2) := by decide +kernel
theorem dX8_count_28 : decode cX8_count 28 = .ok (.iload_n 1, 1) := by decide +kernel
theorem dX8_count_29 : decode cX8_count 29 = .ok (.iadd, 1) := by decide +kernel
theorem dX8_count_30 : decode cX8_count 30 = .ok (.iaload, 1) := by decide +kernel
theorem dX8_count_31 : decode cX8_count 31 = .ok (.goto 4, 3) := by decide +kernel
theorem dX8_count_34 : decode cX8_count 34 = .ok (.iconst (-1), 1) := by decide +kernel
theorem dX8_count_35 : decode cX8_count 35 = .ok (.ireturn, 1) := by decide +kernel
