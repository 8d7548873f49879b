theorem dOn_step_0 : decode cOn_step 0 = .ok (.aload_n 0, 1) := by decide +kernel
theorem dOn_step_1 : decode cOn_step 1 = .ok (.iload_n 1, 1) := by decide +kernel
theorem dOn_step_2 : decode cOn_step 2 = .ok (.invokevirtual 84, 3) := by decide +kernel
theorem dOn_step_5 : decode cOn_step 5 = .ok (.iload_n 2, 1) := by decide +kernel
theorem dOn_step_6 : decode cOn_step 6 = .ok (.iload_n 3, 1) := by decide +kernel
theorem dOn_step_7 : decode cOn_step 7 = .ok (.iload 4, 2) := by decide +kernel
theorem dOn_step_9 : decode cOn_step 9 = .ok (.iload 5, 2) := by decide +kernel
theorem dOn_step_11 : decode cOn_step 11 = .ok (.invokestatic 87, 3) := by decide +kernel
theorem dOn_step_14 : decode cOn_step 14 = .ok (.aload_n 0, 1) := by decide +kernel
theorem dOn_step_15 : decode cOn_step 15 = .ok (.getfield 27, 3) := by decide +kernel
theorem dOn_step_18 : decode cOn_step 18 = .ok (.iload_n 1, 1) := by decide +kernel
theorem dOn_step_19 : decode cOn_step 19 = .ok (.invokevirtual 91, 3) := by decide +kernel
theorem dOn_step_22 : decode cOn_step 22 = .ok (.bipush 6, 2) := by decide +kernel
theorem dOn_step_24 : decode cOn_step 24 = .ok (.if_icmp .lt 13, 3) := by decide +kernel
theorem dOn_step_27 : decode cOn_step 27 = .ok (.new 95, 3) := by decide +kernel
theorem dOn_step_30 : decode cOn_step 30 = .ok (.dup, 1) := by decide +kernel
theorem dOn_step_31 : decode cOn_step 31 = .ok (.ldc 97, 2) := by decide +kernel
theorem dOn_step_33 : decode cOn_step 33 = .ok (.invokespecial 99, 3) := by decide +kernel
theorem dOn_step_36 : decode cOn_step 36 = .ok (.athrow, 1) := by decide +kernel
theorem dOn_step_37 : decode cOn_step 37 = .ok (.aload_n 0, 1) := by decide +kernel
theorem dOn_step_38 : decode cOn_step 38 = .ok (.getfield 27, 3) := by decide +kernel
theorem dOn_step_41 : decode cOn_step 41 = .ok (.iload_n 1, 1) := by decide +kernel
theorem dOn_step_42 : decode cOn_step 42 = .ok (.iload_n 2, 1) := by decide +kernel
theorem dOn_step_43 : decode cOn_step 43 = .ok (.iload_n 3, 1) := by decide +kernel
theorem dOn_step_44 : decode cOn_step 44 = .ok (.iload 4, 2) := by decide +kernel
theorem dOn_step_46 : decode cOn_step 46 = .ok (.iload 5, 2) := by decide +kernel
theorem dOn_step_48 : decode cOn_step 48 = .ok (.invokevirtual 102, 3) := by decide +kernel
theorem dOn_step_51 : decode cOn_step 51 = .ok (.aload_n 0, 1) := by decide +kernel
theorem dOn_step_52 : decode cOn_step 52 = .ok (.iconst 0, 1) := by decide +kernel
theorem dOn_step_53 : decode cOn_step 53 = .ok (.putfield 76, 3) := by decide +kernel
theorem dOn_step_56 : decode cOn_step 56 = .ok (.aload_n 0, 1) := by decide +kernel
theorem dOn_step_57 : decode cOn_step 57 = .ok (.getfield 27, 3) := by decide +kernel
theorem dOn_step_60 : decode cOn_step 60 = .ok (.iload_n 1, 1) := by decide +kernel
theorem dOn_step_61 : decode cOn_step 61 = .ok (.invokevirtual 91, 3) := by decide +kernel
theorem dOn_step_64 : decode cOn_step 64 = .ok (.ireturn, 1) := by decide +kernel
theorem dOn_go_0 : decode cOn_go 0 = .ok (.aload_n 0, 1) := by decide +kernel
theorem dOn_go_1 : decode cOn_go 1 = .ok (.iload_n 1, 1) := by decide +kernel
theorem dOn_go_2 : decode cOn_go 2 = .ok (.invokevirtual 84, 3) := by decide +kernel
theorem dOn_go_5 : decode cOn_go 5 = .ok (.aload_n 0, 1) := by decide +kernel
theorem dOn_go_6 : decode cOn_go 6 = .ok (.iload_n 2, 1) := by decide +kernel
theorem dOn_go_7 : decode cOn_go 7 = .ok (.invokevirtual 84, 3) := by decide +kernel
theorem dOn_go_10 : decode cOn_go 10 = .ok (.aload_n 0, 1) := by decide +kernel
theorem dOn_go_11 : decode cOn_go 11 = .ok (.iload_n 1, 1) := by decide +kernel
theorem dOn_go_12 : decode cOn_go 12 = .ok (.iconst (-1), 1) := by decide +kernel
theorem dOn_go_13 : decode cOn_go 13 = .ok (.iload_n 2, 1) := by decide +kernel
theorem dOn_go_14 : decode cOn_go 14 = .ok (.iload_n 2, 1) := by decide +kernel
theorem dOn_go_15 : decode cOn_go 15 = .ok (.invokevirtual 106, 3) := by decide +kernel
theorem dOn_go_18 : decode cOn_go 18 = .ok (.return_, 1) := by decide +kernel
theorem dOn_fork_0 : decode cOn_fork 0 = .ok (.aload_n 0, 1) := by decide +kernel
theorem dOn_fork_1 : decode cOn_fork 1 = .ok (.iload_n 1, 1) := by decide +kernel
theorem dOn_fork_2 : decode cOn_fork 2 = .ok (.invokevirtual 84, 3) := by decide +kernel
theorem dOn_fork_5 : decode cOn_fork 5 = .ok (.iload_n 2, 1) := by decide +kernel
theorem dOn_fork_6 : decode cOn_fork 6 = .ok (.invokestatic 109, 3) := by decide +kernel
theorem dOn_fork_9 : decode cOn_fork 9 = .ok (.aload_n 0, 1) := by decide +kernel
theorem dOn_fork_10 : decode cOn_fork 10 = .ok (.iload_n 3, 1) := by decide +kernel
theorem dOn_fork_11 : decode cOn_fork 11 = .ok (.invokevirtual 84, 3) := by decide +kernel
theorem dOn_fork_14 : decode cOn_fork 14 = .ok (.aload_n 0, 1) := by decide +kernel
theorem dOn_fork_15 : decode cOn_fork 15 = .ok (.iload 4, 2) := by decide +kernel
theorem dOn_fork_17 : decode cOn_fork 17 = .ok (.invokevirtual 84, 3) := by decide +kernel
theorem dOn_fork_20 : decode cOn_fork 20 = .ok (.aload_n 0, 1) := by decide +kernel
theorem dOn_fork_21 : decode cOn_fork 21 = .ok (.iload_n 1, 1) := by decide +kernel
theorem dOn_fork_22 : decode cOn_fork 22 = .ok (.iload_n 2, 1) := by decide +kernel
theorem dOn_fork_23 : decode cOn_fork 23 = .ok (.iload_n 3, 1) := by decide +kernel
theorem dOn_fork_24 : decode cOn_fork 24 = .ok (.iload 4, 2) := by decide +kernel
theorem dOn_fork_26 : decode cOn_fork 26 = .ok (.invokevirtual 106, 3) := by decide +kernel
theorem dOn_fork_29 : decode cOn_fork 29 = .ok (.return_, 1) := by decide +kernel
theorem dOn_stop_0 : decode cOn_stop 0 = .ok (.aload_n 0, 1) := by decide +kernel
theorem dOn_stop_1 : decode cOn_stop 1 = .ok (.iload_n 1, 1) := by decide +kernel
theorem dOn_stop_2 : decode cOn_stop 2 = .ok (.invokevirtual 84, 3) := by decide +kernel
theorem dOn_stop_5 : decode cOn_stop 5 = .ok (.aload_n 0, 1) := by decide +kernel
theorem dOn_stop_6 : decode cOn_stop 6 = .ok (.iload_n 1, 1) := by decide +kernel
theorem dOn_stop_7 : decode cOn_stop 7 = .ok (.iconst (-1), 1) := by decide +kernel
theorem dOn_stop_8 : decode cOn_stop 8 = .ok (.iconst (-1), 1) := by decide +kernel
theorem dOn_stop_9 : decode cOn_stop 9 = .ok (.iconst (-1), 1) := by decide +kernel
theorem dOn_stop_10 : decode cOn_stop 10 = .ok (.invokevirtual 106, 3) := by decide +kernel
theorem dOn_stop_13 : decode cOn_stop 13 = .ok (.return_, 1) := by decide +kernel
theorem dOn_start_0 : decode cOn_start 0 = .ok (.iload_n 1, 1) := by decide +kernel
theorem dOn_start_1 : decode cOn_start 1 = .ok (.invokestatic 109, 3) := by decide +kernel
theorem dOn_start_4 : decode cOn_start 4 = .ok (.aload_n 0, 1) := by decide +kernel
theorem dOn_start_5 : decode cOn_start 5 = .ok (.getfield 27, 3) := by decide +kernel
theorem dOn_start_8 : decode cOn_start 8 = .ok (.iload_n 1, 1) := by decide +kernel
theorem dOn_start_9 : decode cOn_start 9 = .ok (.iload_n 2, 1) := by decide +kernel
theorem dOn_start_10 : decode cOn_start 10 = .ok (.invokevirtual 112, 3) := by decide +kernel
theorem dOn_start_13 : decode cOn_start 13 = .ok (.aload_n 0, 1) := by decide +kernel
theorem dOn_start_14 : decode cOn_start 14 = .ok (.iconst 0, 1) := by decide +kernel
theorem dOn_start_15 : decode cOn_start 15 = .ok (.putfield 76, 3) := by decide +kernel
theorem dOn_start_18 : decode cOn_start 18 = .ok (.return_, 1) := by decide +kernel
theorem dOn_build_0 : decode cOn_build 0 = .ok (.aload_n 0, 1) := by decide +kernel
theorem dOn_build_1 : decode cOn_build 1 = .ok (.iconst 1, 1) := by decide +kernel
theorem dOn_build_2 : decode cOn_build 2 = .ok (.putfield 76, 3) := by decide +kernel
theorem dOn_build_5 : decode cOn_build 5 = .ok (.aload_n 0, 1) := by decide +kernel
theorem dOn_build_6 : decode cOn_build 6 = .ok (.getfield 43, 3) := by decide +kernel
theorem dOn_build_9 : decode cOn_build 9 = .ok (.invokevirtual 116, 3) := by decide +kernel
theorem dOn_build_12 : decode cOn_build 12 = .ok (.ireturn, 1) := by decide +kernel
theorem dOn_propagate_0 : decode cOn_propagate 0 = .ok (.aload_n 0, 1) := by decide +kernel
theorem dOn_propagate_1 : decode cOn_propagate 1 = .ok (.invokevirtual 120, 3) := by decide +kernel
theorem dOn_propagate_4 : decode cOn_propagate 4 = .ok (.aload_n 0, 1) := by decide +kernel
theorem dOn_propagate_5 : decode cOn_propagate 5 = .ok (.getfield 43, 3) := by decide +kernel
theorem dOn_propagate_8 : decode cOn_propagate 8 = .ok (.invokevirtual 123, 3) := by decide +kernel
theorem dOn_propagate_11 : decode cOn_propagate 11 = .ok (.ifCond .ne 13, 3) := by decide +kernel
theorem dOn_propagate_14 : decode cOn_propagate 14 = .ok (.new 95, 3) := by decide +kernel
theorem dOn_propagate_17 : decode cOn_propagate 17 = .ok (.dup, 1) := by decide +kernel
theorem dOn_propagate_18 : decode cOn_propagate 18 = .ok (.ldc 127, 2) := by decide +kernel
theorem dOn_propagate_20 : decode cOn_propagate 20 = .ok (.invokespecial 99, 3) := by decide +kernel
theorem dOn_propagate_23 : decode cOn_propagate 23 = .ok (.athrow, 1) := by decide +kernel
theorem dOn_propagate_24 : decode cOn_propagate 24 = .ok (.aload_n 0, 1) := by decide +kernel
theorem dOn_propagate_25 : decode cOn_propagate 25 = .ok (.getfield 43, 3) := by decide +kernel
theorem dOn_propagate_28 : decode cOn_propagate 28 = .ok (.invokevirtual 129, 3) := by decide +kernel
theorem dOn_propagate_31 : decode cOn_propagate 31 = .ok (.ireturn, 1) := by decide +kernel
theorem dOn_parent_0 : decode cOn_parent 0 = .ok (.aload_n 0, 1) := by decide +kernel
theorem dOn_parent_1 : decode cOn_parent 1 = .ok (.iload_n 1, 1) := by decide +kernel
theorem dOn_parent_2 : decode cOn_parent 2 = .ok (.invokevirtual 84, 3) := by decide +kernel
theorem dOn_parent_5 : decode cOn_parent 5 = .ok (.aload_n 0, 1) := by decide +kernel
theorem dOn_parent_6 : decode cOn_parent 6 = .ok (.getfield 34, 3) := by decide +kernel
theorem dOn_parent_9 : decode cOn_parent 9 = .ok (.iload_n 1, 1) := by decide +kernel
theorem dOn_parent_10 : decode cOn_parent 10 = .ok (.invokevirtual 132, 3) := by decide +kernel
theorem dOn_parent_13 : decode cOn_parent 13 = .ok (.ireturn, 1) := by decide +kernel
theorem dOn_dominates_0 : decode cOn_dominates 0 = .ok (.aload_n 0, 1) := by decide +kernel
theorem dOn_dominates_1 : decode cOn_dominates 1 = .ok (.iload_n 1, 1) := by decide +kernel
theorem dOn_dominates_2 : decode cOn_dominates 2 = .ok (.invokevirtual 84, 3) := by decide +kernel
theorem dOn_dominates_5 : decode cOn_dominates 5 = .ok (.aload_n 0, 1) := by decide +kernel
theorem dOn_dominates_6 : decode cOn_dominates 6 = .ok (.iload_n 2, 1) := by decide +kernel
theorem dOn_dominates_7 : decode cOn_dominates 7 = .ok (.invokevirtual 84, 3) := by decide +kernel
theorem dOn_dominates_10 : decode cOn_dominates 10 = .ok (.aload_n 0, 1) := by decide +kernel
theorem dOn_dominates_11 : decode cOn_dominates 11 = .ok (.getfield 34, 3) := by decide +kernel
theorem dOn_dominates_14 : decode cOn_dominates 14 = .ok (.iload_n 1, 1) := by decide +kernel
theorem dOn_dominates_15 : decode cOn_dominates 15 = .ok (.iload_n 2, 1) := by decide +kernel
theorem dOn_dominates_16 : decode cOn_dominates 16 = .ok (.invokevirtual 135, 3) := by decide +kernel
theorem dOn_dominates_19 : decode cOn_dominates 19 = .ok (.ireturn, 1) := by decide +kernel
theorem dOn_frontier_0 : decode cOn_frontier 0 = .ok (.aload_n 0, 1) := by decide +kernel
theorem dOn_frontier_1 : decode cOn_frontier 1 = .ok (.iload_n 1, 1) := by decide +kernel
theorem dOn_frontier_2 : decode cOn_frontier 2 = .ok (.invokevirtual 84, 3) := by decide +kernel
theorem dOn_frontier_5 : decode cOn_frontier 5 = .ok (.aload_n 0, 1) := by decide +kernel
theorem dOn_frontier_6 : decode cOn_frontier 6 = .ok (.iload_n 2, 1) := by decide +kernel
theorem dOn_frontier_7 : decode cOn_frontier 7 = .ok (.invokevirtual 84, 3) := by decide +kernel
theorem dOn_frontier_10 : decode cOn_frontier 10 = .ok (.aload_n 0, 1) := by decide +kernel
theorem dOn_frontier_11 : decode cOn_frontier 11 = .ok (.getfield 34, 3) := by decide +kernel
theorem dOn_frontier_14 : decode cOn_frontier 14 = .ok (.iload_n 1, 1) := by decide +kernel
theorem dOn_frontier_15 : decode cOn_frontier 15 = .ok (.invokevirtual 139, 3) := by decide +kernel
theorem dOn_frontier_18 : decode cOn_frontier 18 = .ok (.iload_n 2, 1) := by decide +kernel
theorem dOn_frontier_19 : decode cOn_frontier 19 = .ok (.invokestatic 142, 3) := by decide +kernel
theorem dOn_frontier_22 : decode cOn_frontier 22 = .ok (.ireturn, 1) := by decide +kernel
theorem dOn_meeting_0 : decode cOn_meeting 0 = .ok (.aload_n 0, 1) := by decide +kernel
theorem dOn_meeting_1 : decode cOn_meeting 1 = .ok (.invokevirtual 120, 3) := by decide +kernel
theorem dOn_meeting_4 : decode cOn_meeting 4 = .ok (.aload_n 0, 1) := by decide +kernel
theorem dOn_meeting_5 : decode cOn_meeting 5 = .ok (.iload_n 1, 1) := by decide +kernel
theorem dOn_meeting_6 : decode cOn_meeting 6 = .ok (.invokevirtual 84, 3) := by decide +kernel
theorem dOn_meeting_9 : decode cOn_meeting 9 = .ok (.iload_n 2, 1) := by decide +kernel
theorem dOn_meeting_10 : decode cOn_meeting 10 = .ok (.invokestatic 109, 3) := by decide +kernel
theorem dOn_meeting_13 : decode cOn_meeting 13 = .ok (.aload_n 0, 1) := by decide +kernel
theorem dOn_meeting_14 : decode cOn_meeting 14 = .ok (.getfield 43, 3) := by decide +kernel
theorem dOn_meeting_17 : decode cOn_meeting 17 = .ok (.iload_n 1, 1) := by decide +kernel
theorem dOn_meeting_18 : decode cOn_meeting 18 = .ok (.iload_n 2, 1) := by decide +kernel
theorem dOn_meeting_19 : decode cOn_meeting 19 = .ok (.invokevirtual 145, 3) := by decide +kernel
theorem dOn_meeting_22 : decode cOn_meeting 22 = .ok (.ireturn, 1) := by decide +kernel
theorem dOn_source_0 : decode cOn_source 0 = .ok (.aload_n 0, 1) := by decide +kernel
theorem dOn_source_1 : decode cOn_source 1 = .ok (.invokevirtual 120, 3) := by decide +kernel
theorem dOn_source_4 : decode cOn_source 4 = .ok (.aload_n 0, 1) := by decide +kernel
theorem dOn_source_5 : decode cOn_source 5 = .ok (.iload_n 1, 1) := by decide +kernel
theorem dOn_source_6 : decode cOn_source 6 = .ok (.iload_n 2, 1) := by decide +kernel
theorem dOn_source_7 : decode cOn_source 7 = .ok (.iload_n 3, 1) := by decide +kernel
theorem dOn_source_8 : decode cOn_source 8 = .ok (.invokevirtual 148, 3) := by decide +kernel
theorem dOn_source_11 : decode cOn_source 11 = .ok (.aload_n 0, 1) := by decide +kernel
theorem dOn_source_12 : decode cOn_source 12 = .ok (.getfield 43, 3) := by decide +kernel
theorem dOn_source_15 : decode cOn_source 15 = .ok (.iload_n 1, 1) := by decide +kernel
theorem dOn_source_16 : decode cOn_source 16 = .ok (.iload_n 2, 1) := by decide +kernel
theorem dOn_source_17 : decode cOn_source 17 = .ok (.iload_n 3, 1) := by decide +kernel
theorem dOn_source_18 : decode cOn_source 18 = .ok (.invokevirtual 152, 3) := by decide +kernel
theorem dOn_source_21 : decode cOn_source 21 = .ok (.ireturn, 1) := by decide +kernel
theorem dOn_sets_0 : decode cOn_sets 0 = .ok (.aload_n 0, 1) := by decide +kernel
theorem dOn_sets_1 : decode cOn_sets 1 = .ok (.invokevirtual 120, 3) := by decide +kernel
theorem dOn_sets_4 : decode cOn_sets 4 = .ok (.aload_n 0, 1) := by decide +kernel
theorem dOn_sets_5 : decode cOn_sets 5 = .ok (.iload_n 1, 1) := by decide +kernel
theorem dOn_sets_6 : decode cOn_sets 6 = .ok (.invokevirtual 84, 3) := by decide +kernel
theorem dOn_sets_9 : decode cOn_sets 9 = .ok (.aload_n 0, 1) := by decide +kernel
theorem dOn_sets_10 : decode cOn_sets 10 = .ok (.iload_n 1, 1) := by decide +kernel
theorem dOn_sets_11 : decode cOn_sets 11 = .ok (.iload_n 2, 1) := by decide +kernel
theorem dOn_sets_12 : decode cOn_sets 12 = .ok (.invokevirtual 156, 3) := by decide +kernel
theorem dOn_sets_15 : decode cOn_sets 15 = .ok (.aload_n 0, 1) := by decide +kernel
theorem dOn_sets_16 : decode cOn_sets 16 = .ok (.getfield 43, 3) := by decide +kernel
theorem dOn_sets_19 : decode cOn_sets 19 = .ok (.iload_n 1, 1) := by decide +kernel
theorem dOn_sets_20 : decode cOn_sets 20 = .ok (.iload_n 2, 1) := by decide +kernel
theorem dOn_sets_21 : decode cOn_sets 21 = .ok (.invokevirtual 159, 3) := by decide +kernel
theorem dOn_sets_24 : decode cOn_sets 24 = .ok (.ireturn, 1) := by decide +kernel
theorem dOn_use_0 : decode cOn_use 0 = .ok (.aload_n 0, 1) := by decide +kernel
theorem dOn_use_1 : decode cOn_use 1 = .ok (.invokevirtual 120, 3) := by decide +kernel
theorem dOn_use_4 : decode cOn_use 4 = .ok (.aload_n 0, 1) := by decide +kernel
theorem dOn_use_5 : decode cOn_use 5 = .ok (.iload_n 1, 1) := by decide +kernel
theorem dOn_use_6 : decode cOn_use 6 = .ok (.iload_n 2, 1) := by decide +kernel
theorem dOn_use_7 : decode cOn_use 7 = .ok (.iload_n 3, 1) := by decide +kernel
theorem dOn_use_8 : decode cOn_use 8 = .ok (.invokevirtual 162, 3) := by decide +kernel
theorem dOn_use_11 : decode cOn_use 11 = .ok (.aload_n 0, 1) := by decide +kernel
theorem dOn_use_12 : decode cOn_use 12 = .ok (.iload_n 1, 1) := by decide +kernel
theorem dOn_use_13 : decode cOn_use 13 = .ok (.iload_n 2, 1) := by decide +kernel
theorem dOn_use_14 : decode cOn_use 14 = .ok (.iload_n 3, 1) := by decide +kernel
theorem dOn_use_15 : decode cOn_use 15 = .ok (.invokevirtual 165, 3) := by decide +kernel
theorem dOn_use_18 : decode cOn_use 18 = .ok (.ireturn, 1) := by decide +kernel
theorem dOn_alter_0 : decode cOn_alter 0 = .ok (.aload_n 0, 1) := by decide +kernel
theorem dOn_alter_1 : decode cOn_alter 1 = .ok (.invokevirtual 120, 3) := by decide +kernel
theorem dOn_alter_4 : decode cOn_alter 4 = .ok (.aload_n 0, 1) := by decide +kernel
theorem dOn_alter_5 : decode cOn_alter 5 = .ok (.iload_n 1, 1) := by decide +kernel
theorem dOn_alter_6 : decode cOn_alter 6 = .ok (.iload_n 2, 1) := by decide +kernel
theorem dOn_alter_7 : decode cOn_alter 7 = .ok (.iload_n 3, 1) := by decide +kernel
theorem dOn_alter_8 : decode cOn_alter 8 = .ok (.invokevirtual 162, 3) := by decide +kernel
theorem dOn_alter_11 : decode cOn_alter 11 = .ok (.aload_n 0, 1) := by decide +kernel
theorem dOn_alter_12 : decode cOn_alter 12 = .ok (.iload_n 1, 1) := by decide +kernel
theorem dOn_alter_13 : decode cOn_alter 13 = .ok (.iload_n 2, 1) := by decide +kernel
theorem dOn_alter_14 : decode cOn_alter 14 = .ok (.iload_n 3, 1) := by decide +kernel
theorem dOn_alter_15 : decode cOn_alter 15 = .ok (.invokevirtual 165, 3) := by decide +kernel
theorem dOn_alter_18 : decode cOn_alter 18 = .ok (.invokestatic 168, 3) := by decide +kernel
theorem dOn_alter_21 : decode cOn_alter 21 = .ok (.aload_n 0, 1) := by decide +kernel
theorem dOn_alter_22 : decode cOn_alter 22 = .ok (.iload 4, 2) := by decide +kernel
theorem dOn_alter_24 : decode cOn_alter 24 = .ok (.invokevirtual 171, 3) := by decide +kernel
theorem dOn_alter_27 : decode cOn_alter 27 = .ok (.iload_n 2, 1) := by decide +kernel
theorem dOn_alter_28 : decode cOn_alter 28 = .ok (.iconst (-1), 1) := by decide +kernel
theorem dOn_alter_29 : decode cOn_alter 29 = .ok (.if_icmp .ne 16, 3) := by decide +kernel
theorem dOn_alter_32 : decode cOn_alter 32 = .ok (.aload_n 0, 1) := by decide +kernel
theorem dOn_alter_33 : decode cOn_alter 33 = .ok (.getfield 43, 3) := by decide +kernel
theorem dOn_alter_36 : decode cOn_alter 36 = .ok (.iload_n 1, 1) := by decide +kernel
theorem dOn_alter_37 : decode cOn_alter 37 = .ok (.iload 4, 2) := by decide +kernel
theorem dOn_alter_39 : decode cOn_alter 39 = .ok (.invokevirtual 174, 3) := by decide +kernel
theorem dOn_alter_42 : decode cOn_alter 42 = .ok (.goto 15, 3) := by decide +kernel
theorem dOn_alter_45 : decode cOn_alter 45 = .ok (.aload_n 0, 1) := by decide +kernel
theorem dOn_alter_46 : decode cOn_alter 46 = .ok (.getfield 43, 3) := by decide +kernel
theorem dOn_alter_49 : decode cOn_alter 49 = .ok (.iload_n 1, 1) := by decide +kernel
theorem dOn_alter_50 : decode cOn_alter 50 = .ok (.iload_n 2, 1) := by decide +kernel
theorem dOn_alter_51 : decode cOn_alter 51 = .ok (.iload_n 3, 1) := by decide +kernel
theorem dOn_alter_52 : decode cOn_alter 52 = .ok (.iload 4, 2) := by decide +kernel
theorem dOn_alter_54 : decode cOn_alter 54 = .ok (.invokevirtual 177, 3) := by decide +kernel
theorem dOn_alter_57 : decode cOn_alter 57 = .ok (.return_, 1) := by decide +kernel
theorem dOn_turn_0 : decode cOn_turn 0 = .ok (.aload_n 0, 1) := by decide +kernel
theorem dOn_turn_1 : decode cOn_turn 1 = .ok (.invokevirtual 120, 3) := by decide +kernel
theorem dOn_turn_4 : decode cOn_turn 4 = .ok (.aload_n 0, 1) := by decide +kernel
theorem dOn_turn_5 : decode cOn_turn 5 = .ok (.iload_n 1, 1) := by decide +kernel
theorem dOn_turn_6 : decode cOn_turn 6 = .ok (.iload_n 2, 1) := by decide +kernel
theorem dOn_turn_7 : decode cOn_turn 7 = .ok (.iload_n 3, 1) := by decide +kernel
theorem dOn_turn_8 : decode cOn_turn 8 = .ok (.invokevirtual 148, 3) := by decide +kernel
theorem dOn_turn_11 : decode cOn_turn 11 = .ok (.aload_n 0, 1) := by decide +kernel
theorem dOn_turn_12 : decode cOn_turn 12 = .ok (.getfield 43, 3) := by decide +kernel
theorem dOn_turn_15 : decode cOn_turn 15 = .ok (.iload_n 1, 1) := by decide +kernel
theorem dOn_turn_16 : decode cOn_turn 16 = .ok (.iload_n 2, 1) := by decide +kernel
theorem dOn_turn_17 : decode cOn_turn 17 = .ok (.iload_n 3, 1) := by decide +kernel
theorem dOn_turn_18 : decode cOn_turn 18 = .ok (.invokevirtual 152, 3) := by decide +kernel
theorem dOn_turn_21 : decode cOn_turn 21 = .ok (.invokestatic 168, 3) := by decide +kernel
theorem dOn_turn_24 : decode cOn_turn 24 = .ok (.aload_n 0, 1) := by decide +kernel
theorem dOn_turn_25 : decode cOn_turn 25 = .ok (.iload 4, 2) := by decide +kernel
theorem dOn_turn_27 : decode cOn_turn 27 = .ok (.invokevirtual 171, 3) := by decide +kernel
theorem dOn_turn_30 : decode cOn_turn 30 = .ok (.aload_n 0, 1) := by decide +kernel
theorem dOn_turn_31 : decode cOn_turn 31 = .ok (.getfield 43, 3) := by decide +kernel
theorem dOn_turn_34 : decode cOn_turn 34 = .ok (.iload_n 1, 1) := by decide +kernel
theorem dOn_turn_35 : decode cOn_turn 35 = .ok (.iload_n 2, 1) := by decide +kernel
theorem dOn_turn_36 : decode cOn_turn 36 = .ok (.iload_n 3, 1) := by decide +kernel
theorem dOn_turn_37 : decode cOn_turn 37 = .ok (.iload 4, 2) := by decide +kernel
theorem dOn_turn_39 : decode cOn_turn 39 = .ok (.invokevirtual 180, 3) := by decide +kernel
theorem dOn_turn_42 : decode cOn_turn 42 = .ok (.return_, 1) := by decide +kernel
theorem dOn_valid_0 : decode cOn_valid 0 = .ok (.aload_n 0, 1) := by decide +kernel
theorem dOn_valid_1 : decode cOn_valid 1 = .ok (.invokevirtual 120, 3) := by decide +kernel
theorem dOn_valid_4 : decode cOn_valid 4 = .ok (.aload_n 0, 1) := by decide +kernel
theorem dOn_valid_5 : decode cOn_valid 5 = .ok (.getfield 43, 3) := by decide +kernel
theorem dOn_valid_8 : decode cOn_valid 8 = .ok (.invokevirtual 123, 3) := by decide +kernel
theorem dOn_valid_11 : decode cOn_valid 11 = .ok (.ireturn, 1) := by decide +kernel
theorem dOn_copies_0 : decode cOn_copies 0 = .ok (.aload_n 0, 1) := by decide +kernel
theorem dOn_copies_1 : decode cOn_copies 1 = .ok (.invokevirtual 120, 3) := by decide +kernel
theorem dOn_copies_4 : decode cOn_copies 4 = .ok (.aload_n 0, 1) := by decide +kernel
theorem dOn_copies_5 : decode cOn_copies 5 = .ok (.iload_n 1, 1) := by decide +kernel
theorem dOn_copies_6 : decode cOn_copies 6 = .ok (.invokevirtual 84, 3) := by decide +kernel
theorem dOn_copies_9 : decode cOn_copies 9 = .ok (.aload_n 0, 1) := by decide +kernel
theorem dOn_copies_10 : decode cOn_copies 10 = .ok (.iload_n 2, 1) := by decide +kernel
theorem dOn_copies_11 : decode cOn_copies 11 = .ok (.invokevirtual 183, 3) := by decide +kernel
theorem dOn_copies_14 : decode cOn_copies 14 = .ok (.aload_n 0, 1) := by decide +kernel
theorem dOn_copies_15 : decode cOn_copies 15 = .ok (.getfield 50, 3) := by decide +kernel
theorem dOn_copies_18 : decode cOn_copies 18 = .ok (.aload_n 0, 1) := by decide +kernel
theorem dOn_copies_19 : decode cOn_copies 19 = .ok (.getfield 43, 3) := by decide +kernel
theorem dOn_copies_22 : decode cOn_copies 22 = .ok (.iload_n 1, 1) := by decide +kernel
theorem dOn_copies_23 : decode cOn_copies 23 = .ok (.iload_n 2, 1) := by decide +kernel
theorem dOn_copies_24 : decode cOn_copies 24 = .ok (.invokevirtual 186, 3) := by decide +kernel
theorem dOn_copies_27 : decode cOn_copies 27 = .ok (.aload_n 0, 1) := by decide +kernel
theorem dOn_copies_28 : decode cOn_copies 28 = .ok (.getfield 50, 3) := by decide +kernel
theorem dOn_copies_31 : decode cOn_copies 31 = .ok (.invokevirtual 190, 3) := by decide +kernel
theorem dOn_copies_34 : decode cOn_copies 34 = .ok (.ireturn, 1) := by decide +kernel
theorem dOn_run_0 : decode cOn_run 0 = .ok (.aload_n 0, 1) := by decide +kernel
theorem dOn_run_1 : decode cOn_run 1 = .ok (.iload_n 1, 1) := by decide +kernel
theorem dOn_run_2 : decode cOn_run 2 = .ok (.invokevirtual 193, 3) := by decide +kernel
theorem dOn_run_5 : decode cOn_run 5 = .ok (.aload_n 0, 1) := by decide +kernel
theorem dOn_run_6 : decode cOn_run 6 = .ok (.getfield 59, 3) := by decide +kernel
theorem dOn_run_9 : decode cOn_run 9 = .ok (.iload_n 1, 1) := by decide +kernel
theorem dOn_run_10 : decode cOn_run 10 = .ok (.aload_n 0, 1) := by decide +kernel
theorem dOn_run_11 : decode cOn_run 11 = .ok (.getfield 66, 3) := by decide +kernel
theorem dOn_run_14 : decode cOn_run 14 = .ok (.invokevirtual 196, 3) := by decide +kernel
theorem dOn_run_17 : decode cOn_run 17 = .ok (.aload_n 0, 1) := by decide +kernel
theorem dOn_run_18 : decode cOn_run 18 = .ok (.getfield 66, 3) := by decide +kernel
theorem dOn_run_21 : decode cOn_run 21 = .ok (.invokevirtual 200, 3) := by decide +kernel
theorem dOn_run_24 : decode cOn_run 24 = .ok (.iconst 1, 1) := by decide +kernel
theorem dOn_run_25 : decode cOn_run 25 = .ok (.if_icmp .ne 13, 3) := by decide +kernel
theorem dOn_run_28 : decode cOn_run 28 = .ok (.new 203, 3) := by decide +kernel
theorem dOn_run_31 : decode cOn_run 31 = .ok (.dup, 1) := by decide +kernel
theorem dOn_run_32 : decode cOn_run 32 = .ok (.ldc 205, 2) := by decide +kernel
theorem dOn_run_34 : decode cOn_run 34 = .ok (.invokespecial 207, 3) := by decide +kernel
theorem dOn_run_37 : decode cOn_run 37 = .ok (.athrow, 1) := by decide +kernel
theorem dOn_run_38 : decode cOn_run 38 = .ok (.aload_n 0, 1) := by decide +kernel
theorem dOn_run_39 : decode cOn_run 39 = .ok (.getfield 66, 3) := by decide +kernel
theorem dOn_run_42 : decode cOn_run 42 = .ok (.invokevirtual 200, 3) := by decide +kernel
theorem dOn_run_45 : decode cOn_run 45 = .ok (.iconst 2, 1) := by decide +kernel
theorem dOn_run_46 : decode cOn_run 46 = .ok (.if_icmp .ne 13, 3) := by decide +kernel
theorem dOn_run_49 : decode cOn_run 49 = .ok (.new 95, 3) := by decide +kernel
theorem dOn_run_52 : decode cOn_run 52 = .ok (.dup, 1) := by decide +kernel
theorem dOn_run_53 : decode cOn_run 53 = .ok (.ldc 208, 2) := by decide +kernel
theorem dOn_run_55 : decode cOn_run 55 = .ok (.invokespecial 99, 3) := by decide +kernel
theorem dOn_run_58 : decode cOn_run 58 = .ok (.athrow, 1) := by decide +kernel
theorem dOn_run_59 : decode cOn_run 59 = .ok (.aload_n 0, 1) := by decide +kernel
theorem dOn_run_60 : decode cOn_run 60 = .ok (.getfield 66, 3) := by decide +kernel
theorem dOn_run_63 : decode cOn_run 63 = .ok (.invokevirtual 210, 3) := by decide +kernel
theorem dOn_run_66 : decode cOn_run 66 = .ok (.ireturn, 1) := by decide +kernel
theorem dOn_said_0 : decode cOn_said 0 = .ok (.iload_n 1, 1) := by decide +kernel
theorem dOn_said_1 : decode cOn_said 1 = .ok (.ifCond .lt 14, 3) := by decide +kernel
theorem dOn_said_4 : decode cOn_said 4 = .ok (.iload_n 1, 1) := by decide +kernel
theorem dOn_said_5 : decode cOn_said 5 = .ok (.aload_n 0, 1) := by decide +kernel
theorem dOn_said_6 : decode cOn_said 6 = .ok (.getfield 66, 3) := by decide +kernel
theorem dOn_said_9 : decode cOn_said 9 = .ok (.invokevirtual 210, 3) := by decide +kernel
theorem dOn_said_12 : decode cOn_said 12 = .ok (.if_icmp .lt 13, 3) := by decide +kernel
theorem dOn_said_15 : decode cOn_said 15 = .ok (.new 213, 3) := by decide +kernel
theorem dOn_said_18 : decode cOn_said 18 = .ok (.dup, 1) := by decide +kernel
theorem dOn_said_19 : decode cOn_said 19 = .ok (.ldc 215, 2) := by decide +kernel
theorem dOn_said_21 : decode cOn_said 21 = .ok (.invokespecial 217, 3) := by decide +kernel
theorem dOn_said_24 : decode cOn_said 24 = .ok (.athrow, 1) := by decide +kernel
theorem dOn_said_25 : decode cOn_said 25 = .ok (.aload_n 0, 1) := by decide +kernel
theorem dOn_said_26 : decode cOn_said 26 = .ok (.getfield 66, 3) := by decide +kernel
theorem dOn_said_29 : decode cOn_said 29 = .ok (.iload_n 1, 1) := by decide +kernel
theorem dOn_said_30 : decode cOn_said 30 = .ok (.invokevirtual 218, 3) := by decide +kernel
theorem dOn_said_33 : decode cOn_said 33 = .ok (.ireturn, 1) := by decide +kernel
theorem dOn_same_0 : decode cOn_same 0 = .ok (.aload_n 0, 1) := by decide +kernel
theorem dOn_same_1 : decode cOn_same 1 = .ok (.iload_n 1, 1) := by decide +kernel
theorem dOn_same_2 : decode cOn_same 2 = .ok (.invokevirtual 193, 3) := by decide +kernel
theorem dOn_same_5 : decode cOn_same 5 = .ok (.aload_n 0, 1) := by decide +kernel
theorem dOn_same_6 : decode cOn_same 6 = .ok (.getfield 59, 3) := by decide +kernel
theorem dOn_same_9 : decode cOn_same 9 = .ok (.iconst 0, 1) := by decide +kernel
theorem dOn_same_10 : decode cOn_same 10 = .ok (.aload_n 0, 1) := by decide +kernel
theorem dOn_same_11 : decode cOn_same 11 = .ok (.getfield 70, 3) := by decide +kernel
theorem dOn_same_14 : decode cOn_same 14 = .ok (.invokevirtual 196, 3) := by decide +kernel
theorem dOn_same_17 : decode cOn_same 17 = .ok (.aload_n 0, 1) := by decide +kernel
theorem dOn_same_18 : decode cOn_same 18 = .ok (.getfield 59, 3) := by decide +kernel
theorem dOn_same_21 : decode cOn_same 21 = .ok (.iload_n 1, 1) := by decide +kernel
theorem dOn_same_22 : decode cOn_same 22 = .ok (.aload_n 0, 1) := by decide +kernel
theorem dOn_same_23 : decode cOn_same 23 = .ok (.getfield 73, 3) := by decide +kernel
theorem dOn_same_26 : decode cOn_same 26 = .ok (.invokevirtual 196, 3) := by decide +kernel
theorem dOn_same_29 : decode cOn_same 29 = .ok (.aload_n 0, 1) := by decide +kernel
theorem dOn_same_30 : decode cOn_same 30 = .ok (.getfield 70, 3) := by decide +kernel
theorem dOn_same_33 : decode cOn_same 33 = .ok (.aload_n 0, 1) := by decide +kernel
theorem dOn_same_34 : decode cOn_same 34 = .ok (.getfield 73, 3) := by decide +kernel
theorem dOn_same_37 : decode cOn_same 37 = .ok (.invokevirtual 221, 3) := by decide +kernel
theorem dOn_same_40 : decode cOn_same 40 = .ok (.ireturn, 1) := by decide +kernel
theorem dOn_giveEnd_0 : decode cOn_giveEnd 0 = .ok (.aload_n 0, 1) := by decide +kernel
theorem dOn_giveEnd_1 : decode cOn_giveEnd 1 = .ok (.getfield 27, 3) := by decide +kernel
theorem dOn_giveEnd_4 : decode cOn_giveEnd 4 = .ok (.iload_n 1, 1) := by decide +kernel
theorem dOn_giveEnd_5 : decode cOn_giveEnd 5 = .ok (.iload_n 2, 1) := by decide +kernel
theorem dOn_giveEnd_6 : decode cOn_giveEnd 6 = .ok (.iload_n 3, 1) := by decide +kernel
theorem dOn_giveEnd_7 : decode cOn_giveEnd 7 = .ok (.iload 4, 2) := by decide +kernel
theorem dOn_giveEnd_9 : decode cOn_giveEnd 9 = .ok (.invokevirtual 225, 3) := by decide +kernel
theorem dOn_giveEnd_12 : decode cOn_giveEnd 12 = .ok (.aload_n 0, 1) := by decide +kernel
theorem dOn_giveEnd_13 : decode cOn_giveEnd 13 = .ok (.getfield 34, 3) := by decide +kernel
theorem dOn_giveEnd_16 : decode cOn_giveEnd 16 = .ok (.aload_n 0, 1) := by decide +kernel
theorem dOn_giveEnd_17 : decode cOn_giveEnd 17 = .ok (.getfield 27, 3) := by decide +kernel
theorem dOn_giveEnd_20 : decode cOn_giveEnd 20 = .ok (.invokevirtual 80, 3) := by decide +kernel
theorem dOn_giveEnd_23 : decode cOn_giveEnd 23 = .ok (.aload_n 0, 1) := by decide +kernel
theorem dOn_giveEnd_24 : decode cOn_giveEnd 24 = .ok (.iconst 0, 1) := by decide +kernel
theorem dOn_giveEnd_25 : decode cOn_giveEnd 25 = .ok (.putfield 76, 3) := by decide +kernel
theorem dOn_giveEnd_28 : decode cOn_giveEnd 28 = .ok (.return_, 1) := by decide +kernel
theorem dOn_nameUsed_0 : decode cOn_nameUsed 0 = .ok (.iload_n 2, 1) := by decide +kernel
theorem dOn_nameUsed_1 : decode cOn_nameUsed 1 = .ok (.iconst (-1), 1) := by decide +kernel
theorem dOn_nameUsed_2 : decode cOn_nameUsed 2 = .ok (.if_icmp .ne 14, 3) := by decide +kernel
theorem dOn_nameUsed_5 : decode cOn_nameUsed 5 = .ok (.aload_n 0, 1) := by decide +kernel
theorem dOn_nameUsed_6 : decode cOn_nameUsed 6 = .ok (.getfield 43, 3) := by decide +kernel
theorem dOn_nameUsed_9 : decode cOn_nameUsed 9 = .ok (.iload_n 1, 1) := by decide +kernel
theorem dOn_nameUsed_10 : decode cOn_nameUsed 10 = .ok (.invokevirtual 228, 3) := by decide +kernel
theorem dOn_nameUsed_13 : decode cOn_nameUsed 13 = .ok (.goto 13, 3) := by decide +kernel
theorem dOn_nameUsed_16 : decode cOn_nameUsed 16 = .ok (.aload_n 0, 1) := by decide +kernel
theorem dOn_nameUsed_17 : decode cOn_nameUsed 17 = .ok (.getfield 43, 3) := by decide +kernel
theorem dOn_nameUsed_20 : decode cOn_nameUsed 20 = .ok (.iload_n 1, 1) := by decide +kernel
theorem dOn_nameUsed_21 : decode cOn_nameUsed 21 = .ok (.iload_n 2, 1) := by decide +kernel
theorem dOn_nameUsed_22 : decode cOn_nameUsed 22 = .ok (.iload_n 3, 1) := by decide +kernel
theorem dOn_nameUsed_23 : decode cOn_nameUsed 23 = .ok (.invokevirtual 231, 3) := by decide +kernel
theorem dOn_nameUsed_26 : decode cOn_nameUsed 26 = .ok (.ireturn, 1) := by decide +kernel
theorem dOn_requireBlock_0 : decode cOn_requireBlock 0 = .ok (.iload_n 1, 1) := by decide +kernel
theorem dOn_requireBlock_1 : decode cOn_requireBlock 1 = .ok (.ifCond .lt 11, 3) := by decide +kernel
theorem dOn_requireBlock_4 : decode cOn_requireBlock 4 = .ok (.iload_n 1, 1) := by decide +kernel
theorem dOn_requireBlock_5 : decode cOn_requireBlock 5 = .ok (.aload_n 0, 1) := by decide +kernel
theorem dOn_requireBlock_6 : decode cOn_requireBlock 6 = .ok (.getfield 18, 3) := by decide +kernel
theorem dOn_requireBlock_9 : decode cOn_requireBlock 9 = .ok (.if_icmp .lt 13, 3) := by decide +kernel
theorem dOn_requireBlock_12 : decode cOn_requireBlock 12 = .ok (.new 234, 3) := by decide +kernel
theorem dOn_requireBlock_15 : decode cOn_requireBlock 15 = .ok (.dup, 1) := by decide +kernel
theorem dOn_requireBlock_16 : decode cOn_requireBlock 16 = .ok (.ldc 236, 2) := by decide +kernel
theorem dOn_requireBlock_18 : decode cOn_requireBlock 18 = .ok (.invokespecial 238, 3) := by decide +kernel
theorem dOn_requireBlock_21 : decode cOn_requireBlock 21 = .ok (.athrow, 1) := by decide +kernel
theorem dOn_requireBlock_22 : decode cOn_requireBlock 22 = .ok (.return_, 1) := by decide +kernel
theorem dOn_requireBlockOrEntry_0 : decode cOn_requireBlockOrEntry 0 = .ok (.iload_n 1, 1) := by decide +kernel
theorem dOn_requireBlockOrEntry_1 : decode cOn_requireBlockOrEntry 1 = .ok (.ifCond .lt 11, 3) := by decide +kernel
theorem dOn_requireBlockOrEntry_4 : decode cOn_requireBlockOrEntry 4 = .ok (.iload_n 1, 1) := by decide +kernel
theorem dOn_requireBlockOrEntry_5 : decode cOn_requireBlockOrEntry 5 = .ok (.aload_n 0, 1) := by decide +kernel
theorem dOn_requireBlockOrEntry_6 : decode cOn_requireBlockOrEntry 6 = .ok (.getfield 18, 3) := by decide +kernel
theorem dOn_requireBlockOrEntry_9 : decode cOn_requireBlockOrEntry 9 = .ok (.if_icmp .le 13, 3) := by decide +kernel
theorem dOn_requireBlockOrEntry_12 : decode cOn_requireBlockOrEntry 12 = .ok (.new 234, 3) := by decide +kernel
theorem dOn_requireBlockOrEntry_15 : decode cOn_requireBlockOrEntry 15 = .ok (.dup, 1) := by decide +kernel
theorem dOn_requireBlockOrEntry_16 : decode cOn_requireBlockOrEntry 16 = .ok (.ldc 239, 2) := by decide +kernel
theorem dOn_requireBlockOrEntry_18 : decode cOn_requireBlockOrEntry 18 = .ok (.invokespecial 238, 3) := by decide +kernel
theorem dOn_requireBlockOrEntry_21 : decode cOn_requireBlockOrEntry 21 = .ok (.athrow, 1) := by decide +kernel
theorem dOn_requireBlockOrEntry_22 : decode cOn_requireBlockOrEntry 22 = .ok (.return_, 1) := by decide +kernel
theorem dOn_requireVariable_0 : decode cOn_requireVariable 0 = .ok (.iload_n 0, 1) := by decide +kernel
theorem dOn_requireVariable_1 : decode cOn_requireVariable 1 = .ok (.ifCond .lt 9, 3) := by decide +kernel
theorem dOn_requireVariable_4 : decode cOn_requireVariable 4 = .ok (.iload_n 0, 1) := by decide +kernel
theorem dOn_requireVariable_5 : decode cOn_requireVariable 5 = .ok (.bipush 6, 2) := by decide +kernel
theorem dOn_requireVariable_7 : decode cOn_requireVariable 7 = .ok (.if_icmp .lt 13, 3) := by decide +kernel
theorem dOn_requireVariable_10 : decode cOn_requireVariable 10 = .ok (.new 234, 3) := by decide +kernel
theorem dOn_requireVariable_13 : decode cOn_requireVariable 13 = .ok (.dup, 1) := by decide +kernel
theorem dOn_requireVariable_14 : decode cOn_requireVariable 14 = .ok (.ldc 241, 2) := by decide +kernel
theorem dOn_requireVariable_16 : decode cOn_requireVariable 16 = .ok (.invokespecial 238, 3) := by decide +kernel
theorem dOn_requireVariable_19 : decode cOn_requireVariable 19 = .ok (.athrow, 1) := by decide +kernel
theorem dOn_requireVariable_20 : decode cOn_requireVariable 20 = .ok (.return_, 1) := by decide +kernel
theorem dOn_requireStepParts_0 : decode cOn_requireStepParts 0 = .ok (.iload_n 0, 1) := by decide +kernel
theorem dOn_requireStepParts_1 : decode cOn_requireStepParts 1 = .ok (.ifCond .lt 9, 3) := by decide +kernel
theorem dOn_requireStepParts_4 : decode cOn_requireStepParts 4 = .ok (.iload_n 0, 1) := by decide +kernel
theorem dOn_requireStepParts_5 : decode cOn_requireStepParts 5 = .ok (.bipush 8, 2) := by decide +kernel
theorem dOn_requireStepParts_7 : decode cOn_requireStepParts 7 = .ok (.if_icmp .lt 13, 3) := by decide +kernel
theorem dOn_requireStepParts_10 : decode cOn_requireStepParts 10 = .ok (.new 234, 3) := by decide +kernel
theorem dOn_requireStepParts_13 : decode cOn_requireStepParts 13 = .ok (.dup, 1) := by decide +kernel
theorem dOn_requireStepParts_14 : decode cOn_requireStepParts 14 = .ok (.ldc 243, 2) := by decide +kernel
theorem dOn_requireStepParts_16 : decode cOn_requireStepParts 16 = .ok (.invokespecial 238, 3) := by decide +kernel
theorem dOn_requireStepParts_19 : decode cOn_requireStepParts 19 = .ok (.athrow, 1) := by decide +kernel
theorem dOn_requireStepParts_20 : decode cOn_requireStepParts 20 = .ok (.iload_n 0, 1) := by decide +kernel
theorem dOn_requireStepParts_21 : decode cOn_requireStepParts 21 = .ok (.ifCond .ne 27, 3) := by decide +kernel
theorem dOn_requireStepParts_24 : decode cOn_requireStepParts 24 = .ok (.iload_n 2, 1) := by decide +kernel
theorem dOn_requireStepParts_25 : decode cOn_requireStepParts 25 = .ok (.sipush (-999), 3) := by decide +kernel
theorem dOn_requireStepParts_28 : decode cOn_requireStepParts 28 = .ok (.if_icmp .lt 10, 3) := by decide +kernel
theorem dOn_requireStepParts_31 : decode cOn_requireStepParts 31 = .ok (.iload_n 2, 1) := by decide +kernel
theorem dOn_requireStepParts_32 : decode cOn_requireStepParts 32 = .ok (.sipush 999, 3) := by decide +kernel
theorem dOn_requireStepParts_35 : decode cOn_requireStepParts 35 = .ok (.if_icmp .le 13, 3) := by decide +kernel
theorem dOn_requireStepParts_38 : decode cOn_requireStepParts 38 = .ok (.new 234, 3) := by decide +kernel
theorem dOn_requireStepParts_41 : decode cOn_requireStepParts 41 = .ok (.dup, 1) := by decide +kernel
theorem dOn_requireStepParts_42 : decode cOn_requireStepParts 42 = .ok (.ldc 245, 2) := by decide +kernel
theorem dOn_requireStepParts_44 : decode cOn_requireStepParts 44 = .ok (.invokespecial 238, 3) := by decide +kernel
theorem dOn_requireStepParts_47 : decode cOn_requireStepParts 47 = .ok (.athrow, 1) := by decide +kernel
theorem dOn_requireStepParts_48 : decode cOn_requireStepParts 48 = .ok (.iload_n 0, 1) := by decide +kernel
theorem dOn_requireStepParts_49 : decode cOn_requireStepParts 49 = .ok (.invokestatic 247, 3) := by decide +kernel
theorem dOn_requireStepParts_52 : decode cOn_requireStepParts 52 = .ok (.ifCond .eq 7, 3) := by decide +kernel
theorem dOn_requireStepParts_55 : decode cOn_requireStepParts 55 = .ok (.iload_n 1, 1) := by decide +kernel
theorem dOn_requireStepParts_56 : decode cOn_requireStepParts 56 = .ok (.invokestatic 109, 3) := by decide +kernel
theorem dOn_requireStepParts_59 : decode cOn_requireStepParts 59 = .ok (.iload_n 0, 1) := by decide +kernel
theorem dOn_requireStepParts_60 : decode cOn_requireStepParts 60 = .ok (.invokestatic 251, 3) := by decide +kernel
theorem dOn_requireStepParts_63 : decode cOn_requireStepParts 63 = .ok (.ifCond .eq 7, 3) := by decide +kernel
theorem dOn_requireStepParts_66 : decode cOn_requireStepParts 66 = .ok (.iload_n 2, 1) := by decide +kernel
theorem dOn_requireStepParts_67 : decode cOn_requireStepParts 67 = .ok (.invokestatic 109, 3) := by decide +kernel
theorem dOn_requireStepParts_70 : decode cOn_requireStepParts 70 = .ok (.iload_n 0, 1) := by decide +kernel
theorem dOn_requireStepParts_71 : decode cOn_requireStepParts 71 = .ok (.invokestatic 254, 3) := by decide +kernel
theorem dOn_requireStepParts_74 : decode cOn_requireStepParts 74 = .ok (.ifCond .eq 7, 3) := by decide +kernel
theorem dOn_requireStepParts_77 : decode cOn_requireStepParts 77 = .ok (.iload_n 3, 1) := by decide +kernel
theorem dOn_requireStepParts_78 : decode cOn_requireStepParts 78 = .ok (.invokestatic 109, 3) := by decide +kernel
theorem dOn_requireStepParts_81 : decode cOn_requireStepParts 81 = .ok (.return_, 1) := by decide +kernel
theorem dOn_requireStep_0 : decode cOn_requireStep 0 = .ok (.iload_n 2, 1) := by decide +kernel
theorem dOn_requireStep_1 : decode cOn_requireStep 1 = .ok (.ifCond .lt 15, 3) := by decide +kernel
theorem dOn_requireStep_4 : decode cOn_requireStep 4 = .ok (.iload_n 2, 1) := by decide +kernel
theorem dOn_requireStep_5 : decode cOn_requireStep 5 = .ok (.aload_n 0, 1) := by decide +kernel
theorem dOn_requireStep_6 : decode cOn_requireStep 6 = .ok (.getfield 27, 3) := by decide +kernel
theorem dOn_requireStep_9 : decode cOn_requireStep 9 = .ok (.iload_n 1, 1) := by decide +kernel
theorem dOn_requireStep_10 : decode cOn_requireStep 10 = .ok (.invokevirtual 91, 3) := by decide +kernel
theorem dOn_requireStep_13 : decode cOn_requireStep 13 = .ok (.if_icmp .lt 14, 3) := by decide +kernel
theorem dOn_requireStep_16 : decode cOn_requireStep 16 = .ok (.new 234, 3) := by decide +kernel
theorem dOn_requireStep_19 : decode cOn_requireStep 19 = .ok (.dup, 1) := by decide +kernel
theorem dOn_requireStep_20 : decode cOn_requireStep 20 = .ok (.ldc_w 257, 3) := by decide +kernel
theorem dOn_requireStep_23 : decode cOn_requireStep 23 = .ok (.invokespecial 238, 3) := by decide +kernel
theorem dOn_requireStep_26 : decode cOn_requireStep 26 = .ok (.athrow, 1) := by decide +kernel
theorem dOn_requireStep_27 : decode cOn_requireStep 27 = .ok (.return_, 1) := by decide +kernel
theorem dOn_requireUse_0 : decode cOn_requireUse 0 = .ok (.aload_n 0, 1) := by decide +kernel
theorem dOn_requireUse_1 : decode cOn_requireUse 1 = .ok (.iload_n 1, 1) := by decide +kernel
theorem dOn_requireUse_2 : decode cOn_requireUse 2 = .ok (.invokevirtual 84, 3) := by decide +kernel
theorem dOn_requireUse_5 : decode cOn_requireUse 5 = .ok (.iload_n 2, 1) := by decide +kernel
theorem dOn_requireUse_6 : decode cOn_requireUse 6 = .ok (.iconst (-1), 1) := by decide +kernel
theorem dOn_requireUse_7 : decode cOn_requireUse 7 = .ok (.if_icmp .ne 4, 3) := by decide +kernel
theorem dOn_requireUse_10 : decode cOn_requireUse 10 = .ok (.return_, 1) := by decide +kernel
theorem dOn_requireUse_11 : decode cOn_requireUse 11 = .ok (.aload_n 0, 1) := by decide +kernel
theorem dOn_requireUse_12 : decode cOn_requireUse 12 = .ok (.iload_n 1, 1) := by decide +kernel
theorem dOn_requireUse_13 : decode cOn_requireUse 13 = .ok (.iload_n 2, 1) := by decide +kernel
theorem dOn_requireUse_14 : decode cOn_requireUse 14 = .ok (.invokevirtual 156, 3) := by decide +kernel
theorem dOn_requireUse_17 : decode cOn_requireUse 17 = .ok (.iload_n 3, 1) := by decide +kernel
theorem dOn_requireUse_18 : decode cOn_requireUse 18 = .ok (.ifCond .eq 19, 3) := by decide +kernel
theorem dOn_requireUse_21 : decode cOn_requireUse 21 = .ok (.iload_n 3, 1) := by decide +kernel
theorem dOn_requireUse_22 : decode cOn_requireUse 22 = .ok (.iconst 1, 1) := by decide +kernel
theorem dOn_requireUse_23 : decode cOn_requireUse 23 = .ok (.if_icmp .eq 14, 3) := by decide +kernel
theorem dOn_requireUse_26 : decode cOn_requireUse 26 = .ok (.new 234, 3) := by decide +kernel
theorem dOn_requireUse_29 : decode cOn_requireUse 29 = .ok (.dup, 1) := by decide +kernel
theorem dOn_requireUse_30 : decode cOn_requireUse 30 = .ok (.ldc_w 259, 3) := by decide +kernel
theorem dOn_requireUse_33 : decode cOn_requireUse 33 = .ok (.invokespecial 238, 3) := by decide +kernel
theorem dOn_requireUse_36 : decode cOn_requireUse 36 = .ok (.athrow, 1) := by decide +kernel
theorem dOn_requireUse_37 : decode cOn_requireUse 37 = .ok (.return_, 1) := by decide +kernel
theorem dOn_requireMeetingUse_0 : decode cOn_requireMeetingUse 0 = .ok (.aload_n 0, 1) := by decide +kernel
theorem dOn_requireMeetingUse_1 : decode cOn_requireMeetingUse 1 = .ok (.iload_n 1, 1) := by decide +kernel
theorem dOn_requireMeetingUse_2 : decode cOn_requireMeetingUse 2 = .ok (.invokevirtual 84, 3) := by decide +kernel
theorem dOn_requireMeetingUse_5 : decode cOn_requireMeetingUse 5 = .ok (.iload_n 2, 1) := by decide +kernel
theorem dOn_requireMeetingUse_6 : decode cOn_requireMeetingUse 6 = .ok (.invokestatic 109, 3) := by decide +kernel
theorem dOn_requireMeetingUse_9 : decode cOn_requireMeetingUse 9 = .ok (.aload_n 0, 1) := by decide +kernel
theorem dOn_requireMeetingUse_10 : decode cOn_requireMeetingUse 10 = .ok (.iload_n 3, 1) := by decide +kernel
theorem dOn_requireMeetingUse_11 : decode cOn_requireMeetingUse 11 = .ok (.invokevirtual 183, 3) := by decide +kernel
theorem dOn_requireMeetingUse_14 : decode cOn_requireMeetingUse 14 = .ok (.return_, 1) := by decide +kernel
theorem dOn_requireThere_0 : decode cOn_requireThere 0 = .ok (.iload_n 0, 1) := by decide +kernel
theorem dOn_requireThere_1 : decode cOn_requireThere 1 = .ok (.iconst (-1), 1) := by decide +kernel
theorem dOn_requireThere_2 : decode cOn_requireThere 2 = .ok (.if_icmp .ne 14, 3) := by decide +kernel
theorem dOn_requireThere_5 : decode cOn_requireThere 5 = .ok (.new 234, 3) := by decide +kernel
theorem dOn_requireThere_8 : decode cOn_requireThere 8 = .ok (.dup, 1) := by decide +kernel
theorem dOn_requireThere_9 : decode cOn_requireThere 9 = .ok (.ldc_w 261, 3) := by decide +kernel
theorem dOn_requireThere_12 : decode cOn_requireThere 12 = .ok (.invokespecial 238, 3) := by decide +kernel
theorem dOn_requireThere_15 : decode cOn_requireThere 15 = .ok (.athrow, 1) := by decide +kernel
theorem dOn_requireThere_16 : decode cOn_requireThere 16 = .ok (.return_, 1) := by decide +kernel
theorem dOn_requireName_0 : decode cOn_requireName 0 = .ok (.aload_n 0, 1) := by decide +kernel
theorem dOn_requireName_1 : decode cOn_requireName 1 = .ok (.getfield 43, 3) := by decide +kernel
theorem dOn_requireName_4 : decode cOn_requireName 4 = .ok (.iload_n 1, 1) := by decide +kernel
theorem dOn_requireName_5 : decode cOn_requireName 5 = .ok (.invokevirtual 263, 3) := by decide +kernel
theorem dOn_requireName_8 : decode cOn_requireName 8 = .ok (.ifCond .ne 14, 3) := by decide +kernel
theorem dOn_requireName_11 : decode cOn_requireName 11 = .ok (.new 234, 3) := by decide +kernel
theorem dOn_requireName_14 : decode cOn_requireName 14 = .ok (.dup, 1) := by decide +kernel
theorem dOn_requireName_15 : decode cOn_requireName 15 = .ok (.ldc_w 266, 3) := by decide +kernel
theorem dOn_requireName_18 : decode cOn_requireName 18 = .ok (.invokespecial 238, 3) := by decide +kernel
theorem dOn_requireName_21 : decode cOn_requireName 21 = .ok (.athrow, 1) := by decide +kernel
theorem dOn_requireName_22 : decode cOn_requireName 22 = .ok (.return_, 1) := by decide +kernel
theorem dOn_requireForm_0 : decode cOn_requireForm 0 = .ok (.aload_n 0, 1) := by decide +kernel
theorem dOn_requireForm_1 : decode cOn_requireForm 1 = .ok (.getfield 76, 3) := by decide +kernel
theorem dOn_requireForm_4 : decode cOn_requireForm 4 = .ok (.ifCond .ne 14, 3) := by decide +kernel
theorem dOn_requireForm_7 : decode cOn_requireForm 7 = .ok (.new 268, 3) := by decide +kernel
theorem dOn_requireForm_10 : decode cOn_requireForm 10 = .ok (.dup, 1) := by decide +kernel
theorem dOn_requireForm_11 : decode cOn_requireForm 11 = .ok (.ldc_w 270, 3) := by decide +kernel
theorem dOn_requireForm_14 : decode cOn_requireForm 14 = .ok (.invokespecial 272, 3) := by decide +kernel
theorem dOn_requireForm_17 : decode cOn_requireForm 17 = .ok (.athrow, 1) := by decide +kernel
theorem dOn_requireForm_18 : decode cOn_requireForm 18 = .ok (.return_, 1) := by decide +kernel
theorem dOn_requireRunnable_0 : decode cOn_requireRunnable 0 = .ok (.iload_n 1, 1) := by decide +kernel
theorem dOn_requireRunnable_1 : decode cOn_requireRunnable 1 = .ok (.ifCond .lt 8, 3) := by decide +kernel
theorem dOn_requireRunnable_4 : decode cOn_requireRunnable 4 = .ok (.iload_n 1, 1) := by decide +kernel
theorem dOn_requireRunnable_5 : decode cOn_requireRunnable 5 = .ok (.iconst 2, 1) := by decide +kernel
theorem dOn_requireRunnable_6 : decode cOn_requireRunnable 6 = .ok (.if_icmp .le 14, 3) := by decide +kernel
theorem dOn_requireRunnable_9 : decode cOn_requireRunnable 9 = .ok (.new 234, 3) := by decide +kernel
theorem dOn_requireRunnable_12 : decode cOn_requireRunnable 12 = .ok (.dup, 1) := by decide +kernel
theorem dOn_requireRunnable_13 : decode cOn_requireRunnable 13 = .ok (.ldc_w 273, 3) := by decide +kernel
theorem dOn_requireRunnable_16 : decode cOn_requireRunnable 16 = .ok (.invokespecial 238, 3) := by decide +kernel
theorem dOn_requireRunnable_19 : decode cOn_requireRunnable 19 = .ok (.athrow, 1) := by decide +kernel
theorem dOn_requireRunnable_20 : decode cOn_requireRunnable 20 = .ok (.iload_n 1, 1) := by decide +kernel
theorem dOn_requireRunnable_21 : decode cOn_requireRunnable 21 = .ok (.ifCond .eq 7, 3) := by decide +kernel
theorem dOn_requireRunnable_24 : decode cOn_requireRunnable 24 = .ok (.aload_n 0, 1) := by decide +kernel
theorem dOn_requireRunnable_25 : decode cOn_requireRunnable 25 = .ok (.invokevirtual 120, 3) := by decide +kernel
theorem dOn_requireRunnable_28 : decode cOn_requireRunnable 28 = .ok (.return_, 1) := by decide +kernel
