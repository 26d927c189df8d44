theorem dX0_init_0 : decode cX0_init 0 = .ok (.aload_n 0, 1) := by decide +kernel
theorem dX0_init_1 : decode cX0_init 1 = .ok (.invokespecial 1, 3) := by decide +kernel
theorem dX0_init_4 : decode cX0_init 4 = .ok (.aload_n 0, 1) := by decide +kernel
theorem dX0_init_5 : decode cX0_init 5 = .ok (.bipush 120, 2) := by decide +kernel
theorem dX0_init_7 : decode cX0_init 7 = .ok (.newarray .long, 2) := by decide +kernel
theorem dX0_init_9 : decode cX0_init 9 = .ok (.putfield 9, 3) := by decide +kernel
theorem dX0_init_12 : decode cX0_init 12 = .ok (.aload_n 0, 1) := by decide +kernel
theorem dX0_init_13 : decode cX0_init 13 = .ok (.bipush 12, 2) := by decide +kernel
theorem dX0_init_15 : decode cX0_init 15 = .ok (.newarray .long, 2) := by decide +kernel
theorem dX0_init_17 : decode cX0_init 17 = .ok (.putfield 13, 3) := by decide +kernel
theorem dX0_init_20 : decode cX0_init 20 = .ok (.aload_n 0, 1) := by decide +kernel
theorem dX0_init_21 : decode cX0_init 21 = .ok (.bipush 8, 2) := by decide +kernel
theorem dX0_init_23 : decode cX0_init 23 = .ok (.newarray .int, 2) := by decide +kernel
theorem dX0_init_25 : decode cX0_init 25 = .ok (.putfield 16, 3) := by decide +kernel
theorem dX0_init_28 : decode cX0_init 28 = .ok (.aload_n 0, 1) := by decide +kernel
theorem dX0_init_29 : decode cX0_init 29 = .ok (.ldc2_w 20, 3) := by decide +kernel
theorem dX0_init_32 : decode cX0_init 32 = .ok (.putfield 22, 3) := by decide +kernel
theorem dX0_init_35 : decode cX0_init 35 = .ok (.iconst 0, 1) := by decide +kernel
theorem dX0_init_36 : decode cX0_init 36 = .ok (.istore_n 1, 1) := by decide +kernel
theorem dX0_init_37 : decode cX0_init 37 = .ok (.iload_n 1, 1) := by decide +kernel
theorem dX0_init_38 : decode cX0_init 38 = .ok (.bipush 8, 2) := by decide +kernel
theorem dX0_init_40 : decode cX0_init 40 = .ok (.if_icmp .ge 16, 3) := by decide +kernel
theorem dX0_init_43 : decode cX0_init 43 = .ok (.aload_n 0, 1) := by decide +kernel
theorem dX0_init_44 : decode cX0_init 44 = .ok (.getfield 16, 3) := by decide +kernel
theorem dX0_init_47 : decode cX0_init 47 = .ok (.iload_n 1, 1) := by decide +kernel
theorem dX0_init_48 : decode cX0_init 48 = .ok (.iload_n 1, 1) := by decide +kernel
theorem dX0_init_49 : decode cX0_init 49 = .ok (.iastore, 1) := by decide +kernel
theorem dX0_init_50 : decode cX0_init 50 = .ok (.iinc 1 1, 3) := by decide +kernel
theorem dX0_init_53 : decode cX0_init 53 = .ok (.goto (-16), 3) := by decide +kernel
theorem dX0_init_56 : decode cX0_init 56 = .ok (.return_, 1) := by decide +kernel
theorem dX0_pack_0 : decode cX0_pack 0 = .ok (.aload_n 0, 1) := by decide +kernel
theorem dX0_pack_1 : decode cX0_pack 1 = .ok (.getfield 26, 3) := by decide +kernel
theorem dX0_pack_4 : decode cX0_pack 4 = .ok (.bipush 8, 2) := by decide +kernel
theorem dX0_pack_6 : decode cX0_pack 6 = .ok (.if_icmp .ge 13, 3) := by decide +kernel
theorem dX0_pack_9 : decode cX0_pack 9 = .ok (.iload_n 1, 1) := by decide +kernel
theorem dX0_pack_10 : decode cX0_pack 10 = .ok (.ifCond .lt 9, 3) := by decide +kernel
theorem dX0_pack_13 : decode cX0_pack 13 = .ok (.iload_n 1, 1) := by decide +kernel
theorem dX0_pack_14 : decode cX0_pack 14 = .ok (.bipush 6, 2) := by decide +kernel
theorem dX0_pack_16 : decode cX0_pack 16 = .ok (.if_icmp .le 5, 3) := by decide +kernel
theorem dX0_pack_19 : decode cX0_pack 19 = .ok (.iconst (-1), 1) := by decide +kernel
theorem dX0_pack_20 : decode cX0_pack 20 = .ok (.ireturn, 1) := by decide +kernel
theorem dX0_pack_21 : decode cX0_pack 21 = .ok (.aload_n 0, 1) := by decide +kernel
theorem dX0_pack_22 : decode cX0_pack 22 = .ok (.getfield 26, 3) := by decide +kernel
theorem dX0_pack_25 : decode cX0_pack 25 = .ok (.istore_n 2, 1) := by decide +kernel
theorem dX0_pack_26 : decode cX0_pack 26 = .ok (.aload_n 0, 1) := by decide +kernel
theorem dX0_pack_27 : decode cX0_pack 27 = .ok (.dup, 1) := by decide +kernel
theorem dX0_pack_28 : decode cX0_pack 28 = .ok (.getfield 22, 3) := by decide +kernel
theorem dX0_pack_31 : decode cX0_pack 31 = .ok (.iload_n 2, 1) := by decide +kernel
theorem dX0_pack_32 : decode cX0_pack 32 = .ok (.iconst 1, 1) := by decide +kernel
theorem dX0_pack_33 : decode cX0_pack 33 = .ok (.iload_n 1, 1) := by decide +kernel
theorem dX0_pack_34 : decode cX0_pack 34 = .ok (.ishl, 1) := by decide +kernel
theorem dX0_pack_35 : decode cX0_pack 35 = .ok (.iconst 1, 1) := by decide +kernel
theorem dX0_pack_36 : decode cX0_pack 36 = .ok (.isub, 1) := by decide +kernel
theorem dX0_pack_37 : decode cX0_pack 37 = .ok (.invokestatic 30, 3) := by decide +kernel
theorem dX0_pack_40 : decode cX0_pack 40 = .ok (.lor, 1) := by decide +kernel
theorem dX0_pack_41 : decode cX0_pack 41 = .ok (.putfield 22, 3) := by decide +kernel
theorem dX0_pack_44 : decode cX0_pack 44 = .ok (.aload_n 0, 1) := by decide +kernel
theorem dX0_pack_45 : decode cX0_pack 45 = .ok (.dup, 1) := by decide +kernel
theorem dX0_pack_46 : decode cX0_pack 46 = .ok (.getfield 26, 3) := by decide +kernel
theorem dX0_pack_49 : decode cX0_pack 49 = .ok (.iconst 1, 1) := by decide +kernel
theorem dX0_pack_50 : decode cX0_pack 50 = .ok (.iadd, 1) := by decide +kernel
theorem dX0_pack_51 : decode cX0_pack 51 = .ok (.putfield 26, 3) := by decide +kernel
theorem dX0_pack_54 : decode cX0_pack 54 = .ok (.iload_n 2, 1) := by decide +kernel
theorem dX0_pack_55 : decode cX0_pack 55 = .ok (.ireturn, 1) := by decide +kernel
theorem dX0_row_0 : decode cX0_row 0 = .ok (.aload_n 0, 1) := by decide +kernel
theorem dX0_row_1 : decode cX0_row 1 = .ok (.getfield 34, 3) := by decide +kernel
theorem dX0_row_4 : decode cX0_row 4 = .ok (.bipush 120, 2) := by decide +kernel
theorem dX0_row_6 : decode cX0_row 6 = .ok (.if_icmp .ge 28, 3) := by decide +kernel
theorem dX0_row_9 : decode cX0_row 9 = .ok (.aload_n 0, 1) := by decide +kernel
theorem dX0_row_10 : decode cX0_row 10 = .ok (.iload_n 1, 1) := by decide +kernel
theorem dX0_row_11 : decode cX0_row 11 = .ok (.iload_n 2, 1) := by decide +kernel
theorem dX0_row_12 : decode cX0_row 12 = .ok (.invokevirtual 37, 3) := by decide +kernel
theorem dX0_row_15 : decode cX0_row 15 = .ok (.ifCond .eq 19, 3) := by decide +kernel
theorem dX0_row_18 : decode cX0_row 18 = .ok (.iload_n 3, 1) := by decide +kernel
theorem dX0_row_19 : decode cX0_row 19 = .ok (.invokestatic 41, 3) := by decide +kernel
theorem dX0_row_22 : decode cX0_row 22 = .ok (.ifCond .eq 12, 3) := by decide +kernel
theorem dX0_row_25 : decode cX0_row 25 = .ok (.aload_n 0, 1) := by decide +kernel
theorem dX0_row_26 : decode cX0_row 26 = .ok (.iload 4, 2) := by decide +kernel
theorem dX0_row_28 : decode cX0_row 28 = .ok (.invokevirtual 45, 3) := by decide +kernel
theorem dX0_row_31 : decode cX0_row 31 = .ok (.ifCond .ne 5, 3) := by decide +kernel
theorem dX0_row_34 : decode cX0_row 34 = .ok (.iconst 0, 1) := by decide +kernel
theorem dX0_row_35 : decode cX0_row 35 = .ok (.ireturn, 1) := by decide +kernel
theorem dX0_row_36 : decode cX0_row 36 = .ok (.iload_n 1, 1) := by decide +kernel
theorem dX0_row_37 : decode cX0_row 37 = .ok (.invokestatic 48, 3) := by decide +kernel
theorem dX0_row_40 : decode cX0_row 40 = .ok (.iload_n 1, 1) := by decide +kernel
theorem dX0_row_41 : decode cX0_row 41 = .ok (.iload_n 2, 1) := by decide +kernel
theorem dX0_row_42 : decode cX0_row 42 = .ok (.invokestatic 52, 3) := by decide +kernel
theorem dX0_row_45 : decode cX0_row 45 = .ok (.ldc2_w 55, 3) := by decide +kernel
theorem dX0_row_48 : decode cX0_row 48 = .ok (.lxor, 1) := by decide +kernel
theorem dX0_row_49 : decode cX0_row 49 = .ok (.land, 1) := by decide +kernel
theorem dX0_row_50 : decode cX0_row 50 = .ok (.lstore 6, 2) := by decide +kernel
theorem dX0_row_52 : decode cX0_row 52 = .ok (.aload_n 0, 1) := by decide +kernel
theorem dX0_row_53 : decode cX0_row 53 = .ok (.getfield 9, 3) := by decide +kernel
theorem dX0_row_56 : decode cX0_row 56 = .ok (.aload_n 0, 1) := by decide +kernel
theorem dX0_row_57 : decode cX0_row 57 = .ok (.getfield 34, 3) := by decide +kernel
theorem dX0_row_60 : decode cX0_row 60 = .ok (.lload 6, 2) := by decide +kernel
theorem dX0_row_62 : decode cX0_row 62 = .ok (.iload_n 3, 1) := by decide +kernel
theorem dX0_row_63 : decode cX0_row 63 = .ok (.iload 4, 2) := by decide +kernel
theorem dX0_row_65 : decode cX0_row 65 = .ok (.iload 5, 2) := by decide +kernel
theorem dX0_row_67 : decode cX0_row 67 = .ok (.invokestatic 57, 3) := by decide +kernel
theorem dX0_row_70 : decode cX0_row 70 = .ok (.lor, 1) := by decide +kernel
theorem dX0_row_71 : decode cX0_row 71 = .ok (.lastore, 1) := by decide +kernel
theorem dX0_row_72 : decode cX0_row 72 = .ok (.aload_n 0, 1) := by decide +kernel
theorem dX0_row_73 : decode cX0_row 73 = .ok (.dup, 1) := by decide +kernel
theorem dX0_row_74 : decode cX0_row 74 = .ok (.getfield 34, 3) := by decide +kernel
theorem dX0_row_77 : decode cX0_row 77 = .ok (.iconst 1, 1) := by decide +kernel
theorem dX0_row_78 : decode cX0_row 78 = .ok (.iadd, 1) := by decide +kernel
theorem dX0_row_79 : decode cX0_row 79 = .ok (.putfield 34, 3) := by decide +kernel
theorem dX0_row_82 : decode cX0_row 82 = .ok (.aload_n 0, 1) := by decide +kernel
theorem dX0_row_83 : decode cX0_row 83 = .ok (.iload_n 3, 1) := by decide +kernel
theorem dX0_row_84 : decode cX0_row 84 = .ok (.iconst 0, 1) := by decide +kernel
theorem dX0_row_85 : decode cX0_row 85 = .ok (.invokevirtual 61, 3) := by decide +kernel
theorem dX0_row_88 : decode cX0_row 88 = .ok (.iconst 1, 1) := by decide +kernel
theorem dX0_row_89 : decode cX0_row 89 = .ok (.ireturn, 1) := by decide +kernel
theorem dX0_demand_0 : decode cX0_demand 0 = .ok (.aload_n 0, 1) := by decide +kernel
theorem dX0_demand_1 : decode cX0_demand 1 = .ok (.getfield 65, 3) := by decide +kernel
theorem dX0_demand_4 : decode cX0_demand 4 = .ok (.bipush 12, 2) := by decide +kernel
theorem dX0_demand_6 : decode cX0_demand 6 = .ok (.if_icmp .ge 18, 3) := by decide +kernel
theorem dX0_demand_9 : decode cX0_demand 9 = .ok (.iload_n 1, 1) := by decide +kernel
theorem dX0_demand_10 : decode cX0_demand 10 = .ok (.invokestatic 41, 3) := by decide +kernel
theorem dX0_demand_13 : decode cX0_demand 13 = .ok (.ifCond .eq 11, 3) := by decide +kernel
theorem dX0_demand_16 : decode cX0_demand 16 = .ok (.aload_n 0, 1) := by decide +kernel
theorem dX0_demand_17 : decode cX0_demand 17 = .ok (.iload_n 2, 1) := by decide +kernel
theorem dX0_demand_18 : decode cX0_demand 18 = .ok (.invokevirtual 45, 3) := by decide +kernel
theorem dX0_demand_21 : decode cX0_demand 21 = .ok (.ifCond .ne 5, 3) := by decide +kernel
theorem dX0_demand_24 : decode cX0_demand 24 = .ok (.iconst (-1), 1) := by decide +kernel
theorem dX0_demand_25 : decode cX0_demand 25 = .ok (.ireturn, 1) := by decide +kernel
theorem dX0_demand_26 : decode cX0_demand 26 = .ok (.aload_n 0, 1) := by decide +kernel
theorem dX0_demand_27 : decode cX0_demand 27 = .ok (.getfield 65, 3) := by decide +kernel
theorem dX0_demand_30 : decode cX0_demand 30 = .ok (.istore 4, 2) := by decide +kernel
theorem dX0_demand_32 : decode cX0_demand 32 = .ok (.aload_n 0, 1) := by decide +kernel
theorem dX0_demand_33 : decode cX0_demand 33 = .ok (.getfield 13, 3) := by decide +kernel
theorem dX0_demand_36 : decode cX0_demand 36 = .ok (.iload 4, 2) := by decide +kernel
theorem dX0_demand_38 : decode cX0_demand 38 = .ok (.iload_n 1, 1) := by decide +kernel
theorem dX0_demand_39 : decode cX0_demand 39 = .ok (.iload_n 2, 1) := by decide +kernel
theorem dX0_demand_40 : decode cX0_demand 40 = .ok (.iload_n 3, 1) := by decide +kernel
theorem dX0_demand_41 : decode cX0_demand 41 = .ok (.invokestatic 57, 3) := by decide +kernel
theorem dX0_demand_44 : decode cX0_demand 44 = .ok (.lastore, 1) := by decide +kernel
theorem dX0_demand_45 : decode cX0_demand 45 = .ok (.aload_n 0, 1) := by decide +kernel
theorem dX0_demand_46 : decode cX0_demand 46 = .ok (.dup, 1) := by decide +kernel
theorem dX0_demand_47 : decode cX0_demand 47 = .ok (.getfield 65, 3) := by decide +kernel
theorem dX0_demand_50 : decode cX0_demand 50 = .ok (.iconst 1, 1) := by decide +kernel
theorem dX0_demand_51 : decode cX0_demand 51 = .ok (.iadd, 1) := by decide +kernel
theorem dX0_demand_52 : decode cX0_demand 52 = .ok (.putfield 65, 3) := by decide +kernel
theorem dX0_demand_55 : decode cX0_demand 55 = .ok (.aload_n 0, 1) := by decide +kernel
theorem dX0_demand_56 : decode cX0_demand 56 = .ok (.iload_n 1, 1) := by decide +kernel
theorem dX0_demand_57 : decode cX0_demand 57 = .ok (.iconst 1, 1) := by decide +kernel
theorem dX0_demand_58 : decode cX0_demand 58 = .ok (.invokevirtual 61, 3) := by decide +kernel
theorem dX0_demand_61 : decode cX0_demand 61 = .ok (.iload_n 1, 1) := by decide +kernel
theorem dX0_demand_62 : decode cX0_demand 62 = .ok (.ifCond .ne 8, 3) := by decide +kernel
theorem dX0_demand_65 : decode cX0_demand 65 = .ok (.aload_n 0, 1) := by decide +kernel
theorem dX0_demand_66 : decode cX0_demand 66 = .ok (.iload_n 2, 1) := by decide +kernel
theorem dX0_demand_67 : decode cX0_demand 67 = .ok (.invokevirtual 68, 3) := by decide +kernel
theorem dX0_demand_70 : decode cX0_demand 70 = .ok (.iload 4, 2) := by decide +kernel
theorem dX0_demand_72 : decode cX0_demand 72 = .ok (.ireturn, 1) := by decide +kernel
theorem dX0_or_0 : decode cX0_or 0 = .ok (.aload_n 0, 1) := by decide +kernel
theorem dX0_or_1 : decode cX0_or 1 = .ok (.getfield 72, 3) := by decide +kernel
theorem dX0_or_4 : decode cX0_or 4 = .ok (.ifCond .le 11, 3) := by decide +kernel
theorem dX0_or_7 : decode cX0_or 7 = .ok (.aload_n 0, 1) := by decide +kernel
theorem dX0_or_8 : decode cX0_or 8 = .ok (.iload_n 1, 1) := by decide +kernel
theorem dX0_or_9 : decode cX0_or 9 = .ok (.invokevirtual 45, 3) := by decide +kernel
theorem dX0_or_12 : decode cX0_or 12 = .ok (.ifCond .ne 5, 3) := by decide +kernel
theorem dX0_or_15 : decode cX0_or 15 = .ok (.iconst 0, 1) := by decide +kernel
theorem dX0_or_16 : decode cX0_or 16 = .ok (.ireturn, 1) := by decide +kernel
theorem dX0_or_17 : decode cX0_or 17 = .ok (.aload_n 0, 1) := by decide +kernel
theorem dX0_or_18 : decode cX0_or 18 = .ok (.dup, 1) := by decide +kernel
theorem dX0_or_19 : decode cX0_or 19 = .ok (.getfield 72, 3) := by decide +kernel
theorem dX0_or_22 : decode cX0_or 22 = .ok (.iconst 1, 1) := by decide +kernel
theorem dX0_or_23 : decode cX0_or 23 = .ok (.isub, 1) := by decide +kernel
theorem dX0_or_24 : decode cX0_or 24 = .ok (.putfield 72, 3) := by decide +kernel
theorem dX0_or_27 : decode cX0_or 27 = .ok (.aload_n 0, 1) := by decide +kernel
theorem dX0_or_28 : decode cX0_or 28 = .ok (.getfield 75, 3) := by decide +kernel
theorem dX0_or_31 : decode cX0_or 31 = .ok (.ifCond .eq 12, 3) := by decide +kernel
theorem dX0_or_34 : decode cX0_or 34 = .ok (.aload_n 0, 1) := by decide +kernel
theorem dX0_or_35 : decode cX0_or 35 = .ok (.iload_n 1, 1) := by decide +kernel
theorem dX0_or_36 : decode cX0_or 36 = .ok (.iload_n 2, 1) := by decide +kernel
theorem dX0_or_37 : decode cX0_or 37 = .ok (.invokevirtual 79, 3) := by decide +kernel
theorem dX0_or_40 : decode cX0_or 40 = .ok (.goto 9, 3) := by decide +kernel
theorem dX0_or_43 : decode cX0_or 43 = .ok (.aload_n 0, 1) := by decide +kernel
theorem dX0_or_44 : decode cX0_or 44 = .ok (.iload_n 1, 1) := by decide +kernel
theorem dX0_or_45 : decode cX0_or 45 = .ok (.iload_n 2, 1) := by decide +kernel
theorem dX0_or_46 : decode cX0_or 46 = .ok (.invokevirtual 83, 3) := by decide +kernel
theorem dX0_or_49 : decode cX0_or 49 = .ok (.iconst 1, 1) := by decide +kernel
theorem dX0_or_50 : decode cX0_or 50 = .ok (.ireturn, 1) := by decide +kernel
theorem dX0_leaveOut_0 : decode cX0_leaveOut 0 = .ok (.iload_n 1, 1) := by decide +kernel
theorem dX0_leaveOut_1 : decode cX0_leaveOut 1 = .ok (.ifCond .lt 11, 3) := by decide +kernel
theorem dX0_leaveOut_4 : decode cX0_leaveOut 4 = .ok (.iload_n 1, 1) := by decide +kernel
theorem dX0_leaveOut_5 : decode cX0_leaveOut 5 = .ok (.aload_n 0, 1) := by decide +kernel
theorem dX0_leaveOut_6 : decode cX0_leaveOut 6 = .ok (.getfield 65, 3) := by decide +kernel
theorem dX0_leaveOut_9 : decode cX0_leaveOut 9 = .ok (.if_icmp .lt 5, 3) := by decide +kernel
theorem dX0_leaveOut_12 : decode cX0_leaveOut 12 = .ok (.iconst 0, 1) := by decide +kernel
theorem dX0_leaveOut_13 : decode cX0_leaveOut 13 = .ok (.ireturn, 1) := by decide +kernel
theorem dX0_leaveOut_14 : decode cX0_leaveOut 14 = .ok (.iconst 1, 1) := by decide +kernel
theorem dX0_leaveOut_15 : decode cX0_leaveOut 15 = .ok (.iload_n 1, 1) := by decide +kernel
theorem dX0_leaveOut_16 : decode cX0_leaveOut 16 = .ok (.ishl, 1) := by decide +kernel
theorem dX0_leaveOut_17 : decode cX0_leaveOut 17 = .ok (.istore_n 3, 1) := by decide +kernel
theorem dX0_leaveOut_18 : decode cX0_leaveOut 18 = .ok (.aload_n 0, 1) := by decide +kernel
theorem dX0_leaveOut_19 : decode cX0_leaveOut 19 = .ok (.getfield 86, 3) := by decide +kernel
theorem dX0_leaveOut_22 : decode cX0_leaveOut 22 = .ok (.iload_n 3, 1) := by decide +kernel
theorem dX0_leaveOut_23 : decode cX0_leaveOut 23 = .ok (.iand, 1) := by decide +kernel
theorem dX0_leaveOut_24 : decode cX0_leaveOut 24 = .ok (.ifCond .eq 7, 3) := by decide +kernel
theorem dX0_leaveOut_27 : decode cX0_leaveOut 27 = .ok (.iconst 1, 1) := by decide +kernel
theorem dX0_leaveOut_28 : decode cX0_leaveOut 28 = .ok (.goto 4, 3) := by decide +kernel
theorem dX0_leaveOut_31 : decode cX0_leaveOut 31 = .ok (.iconst 0, 1) := by decide +kernel
theorem dX0_leaveOut_32 : decode cX0_leaveOut 32 = .ok (.istore 4, 2) := by decide +kernel
theorem dX0_leaveOut_34 : decode cX0_leaveOut 34 = .ok (.iload 4, 2) := by decide +kernel
theorem dX0_leaveOut_36 : decode cX0_leaveOut 36 = .ok (.iload_n 2, 1) := by decide +kernel
theorem dX0_leaveOut_37 : decode cX0_leaveOut 37 = .ok (.if_icmp .ne 5, 3) := by decide +kernel
theorem dX0_leaveOut_40 : decode cX0_leaveOut 40 = .ok (.iconst 0, 1) := by decide +kernel
theorem dX0_leaveOut_41 : decode cX0_leaveOut 41 = .ok (.ireturn, 1) := by decide +kernel
theorem dX0_leaveOut_42 : decode cX0_leaveOut 42 = .ok (.aload_n 0, 1) := by decide +kernel
theorem dX0_leaveOut_43 : decode cX0_leaveOut 43 = .ok (.dup, 1) := by decide +kernel
theorem dX0_leaveOut_44 : decode cX0_leaveOut 44 = .ok (.getfield 86, 3) := by decide +kernel
theorem dX0_leaveOut_47 : decode cX0_leaveOut 47 = .ok (.iload_n 3, 1) := by decide +kernel
theorem dX0_leaveOut_48 : decode cX0_leaveOut 48 = .ok (.ixor, 1) := by decide +kernel
theorem dX0_leaveOut_49 : decode cX0_leaveOut 49 = .ok (.putfield 86, 3) := by decide +kernel
theorem dX0_leaveOut_52 : decode cX0_leaveOut 52 = .ok (.iconst 1, 1) := by decide +kernel
theorem dX0_leaveOut_53 : decode cX0_leaveOut 53 = .ok (.ireturn, 1) := by decide +kernel
theorem dX0_lock_0 : decode cX0_lock 0 = .ok (.aload_n 0, 1) := by decide +kernel
theorem dX0_lock_1 : decode cX0_lock 1 = .ok (.iload_n 1, 1) := by decide +kernel
theorem dX0_lock_2 : decode cX0_lock 2 = .ok (.iload_n 2, 1) := by decide +kernel
theorem dX0_lock_3 : decode cX0_lock 3 = .ok (.invokevirtual 89, 3) := by decide +kernel
theorem dX0_lock_6 : decode cX0_lock 6 = .ok (.ifCond .ne 5, 3) := by decide +kernel
theorem dX0_lock_9 : decode cX0_lock 9 = .ok (.iconst 0, 1) := by decide +kernel
theorem dX0_lock_10 : decode cX0_lock 10 = .ok (.ireturn, 1) := by decide +kernel
theorem dX0_lock_11 : decode cX0_lock 11 = .ok (.aload_n 0, 1) := by decide +kernel
theorem dX0_lock_12 : decode cX0_lock 12 = .ok (.dup, 1) := by decide +kernel
theorem dX0_lock_13 : decode cX0_lock 13 = .ok (.getfield 92, 3) := by decide +kernel
theorem dX0_lock_16 : decode cX0_lock 16 = .ok (.iload_n 1, 1) := by decide +kernel
theorem dX0_lock_17 : decode cX0_lock 17 = .ok (.invokestatic 48, 3) := by decide +kernel
theorem dX0_lock_20 : decode cX0_lock 20 = .ok (.ldc2_w 55, 3) := by decide +kernel
theorem dX0_lock_23 : decode cX0_lock 23 = .ok (.lxor, 1) := by decide +kernel
theorem dX0_lock_24 : decode cX0_lock 24 = .ok (.land, 1) := by decide +kernel
theorem dX0_lock_25 : decode cX0_lock 25 = .ok (.putfield 92, 3) := by decide +kernel
theorem dX0_lock_28 : decode cX0_lock 28 = .ok (.iload_n 2, 1) := by decide +kernel
theorem dX0_lock_29 : decode cX0_lock 29 = .ok (.iconst (-1), 1) := by decide +kernel
theorem dX0_lock_30 : decode cX0_lock 30 = .ok (.if_icmp .eq 17, 3) := by decide +kernel
theorem dX0_lock_33 : decode cX0_lock 33 = .ok (.aload_n 0, 1) := by decide +kernel
theorem dX0_lock_34 : decode cX0_lock 34 = .ok (.dup, 1) := by decide +kernel
theorem dX0_lock_35 : decode cX0_lock 35 = .ok (.getfield 92, 3) := by decide +kernel
theorem dX0_lock_38 : decode cX0_lock 38 = .ok (.iload_n 1, 1) := by decide +kernel
theorem dX0_lock_39 : decode cX0_lock 39 = .ok (.iload_n 2, 1) := by decide +kernel
theorem dX0_lock_40 : decode cX0_lock 40 = .ok (.invokestatic 52, 3) := by decide +kernel
theorem dX0_lock_43 : decode cX0_lock 43 = .ok (.lor, 1) := by decide +kernel
theorem dX0_lock_44 : decode cX0_lock 44 = .ok (.putfield 92, 3) := by decide +kernel
theorem dX0_lock_47 : decode cX0_lock 47 = .ok (.iconst 1, 1) := by decide +kernel
theorem dX0_lock_48 : decode cX0_lock 48 = .ok (.ireturn, 1) := by decide +kernel
theorem dX0_solve_0 : decode cX0_solve 0 = .ok (.aload_n 0, 1) := by decide +kernel
theorem dX0_solve_1 : decode cX0_solve 1 = .ok (.aload_n 0, 1) := by decide +kernel
theorem dX0_solve_2 : decode cX0_solve 2 = .ok (.aload_n 0, 1) := by decide +kernel
theorem dX0_solve_3 : decode cX0_solve 3 = .ok (.getfield 22, 3) := by decide +kernel
theorem dX0_solve_6 : decode cX0_solve 6 = .ok (.aload_n 0, 1) := by decide +kernel
theorem dX0_solve_7 : decode cX0_solve 7 = .ok (.invokevirtual 95, 3) := by decide +kernel
theorem dX0_solve_10 : decode cX0_solve 10 = .ok (.iconst 0, 1) := by decide +kernel
theorem dX0_solve_11 : decode cX0_solve 11 = .ok (.invokevirtual 99, 3) := by decide +kernel
theorem dX0_solve_14 : decode cX0_solve 14 = .ok (.putfield 103, 3) := by decide +kernel
theorem dX0_solve_17 : decode cX0_solve 17 = .ok (.aload_n 0, 1) := by decide +kernel
theorem dX0_solve_18 : decode cX0_solve 18 = .ok (.getfield 103, 3) := by decide +kernel
theorem dX0_solve_21 : decode cX0_solve 21 = .ok (.lconst 0, 1) := by decide +kernel
theorem dX0_solve_22 : decode cX0_solve 22 = .ok (.lcmp, 1) := by decide +kernel
theorem dX0_solve_23 : decode cX0_solve 23 = .ok (.ifCond .ne 7, 3) := by decide +kernel
theorem dX0_solve_26 : decode cX0_solve 26 = .ok (.iconst 0, 1) := by decide +kernel
theorem dX0_solve_27 : decode cX0_solve 27 = .ok (.goto 4, 3) := by decide +kernel
theorem dX0_solve_30 : decode cX0_solve 30 = .ok (.iconst 1, 1) := by decide +kernel
theorem dX0_solve_31 : decode cX0_solve 31 = .ok (.ireturn, 1) := by decide +kernel
theorem dX0_chosen_0 : decode cX0_chosen 0 = .ok (.aload_n 0, 1) := by decide +kernel
theorem dX0_chosen_1 : decode cX0_chosen 1 = .ok (.iload_n 1, 1) := by decide +kernel
theorem dX0_chosen_2 : decode cX0_chosen 2 = .ok (.invokevirtual 45, 3) := by decide +kernel
theorem dX0_chosen_5 : decode cX0_chosen 5 = .ok (.ifCond .ne 5, 3) := by decide +kernel
theorem dX0_chosen_8 : decode cX0_chosen 8 = .ok (.iconst (-1), 1) := by decide +kernel
theorem dX0_chosen_9 : decode cX0_chosen 9 = .ok (.ireturn, 1) := by decide +kernel
theorem dX0_chosen_10 : decode cX0_chosen 10 = .ok (.iconst 0, 1) := by decide +kernel
theorem dX0_chosen_11 : decode cX0_chosen 11 = .ok (.istore_n 2, 1) := by decide +kernel
theorem dX0_chosen_12 : decode cX0_chosen 12 = .ok (.iload_n 2, 1) := by decide +kernel
theorem dX0_chosen_13 : decode cX0_chosen 13 = .ok (.bipush 6, 2) := by decide +kernel
theorem dX0_chosen_15 : decode cX0_chosen 15 = .ok (.if_icmp .ge 26, 3) := by decide +kernel
theorem dX0_chosen_18 : decode cX0_chosen 18 = .ok (.aload_n 0, 1) := by decide +kernel
theorem dX0_chosen_19 : decode cX0_chosen 19 = .ok (.getfield 103, 3) := by decide +kernel
theorem dX0_chosen_22 : decode cX0_chosen 22 = .ok (.iload_n 1, 1) := by decide +kernel
theorem dX0_chosen_23 : decode cX0_chosen 23 = .ok (.iload_n 2, 1) := by decide +kernel
theorem dX0_chosen_24 : decode cX0_chosen 24 = .ok (.invokestatic 52, 3) := by decide +kernel
theorem dX0_chosen_27 : decode cX0_chosen 27 = .ok (.land, 1) := by decide +kernel
theorem dX0_chosen_28 : decode cX0_chosen 28 = .ok (.lconst 0, 1) := by decide +kernel
theorem dX0_chosen_29 : decode cX0_chosen 29 = .ok (.lcmp, 1) := by decide +kernel
theorem dX0_chosen_30 : decode cX0_chosen 30 = .ok (.ifCond .eq 5, 3) := by decide +kernel
theorem dX0_chosen_33 : decode cX0_chosen 33 = .ok (.iload_n 2, 1) := by decide +kernel
theorem dX0_chosen_34 : decode cX0_chosen 34 = .ok (.ireturn, 1) := by decide +kernel
theorem dX0_chosen_35 : decode cX0_chosen 35 = .ok (.iinc 2 1, 3) := by decide +kernel
theorem dX0_chosen_38 : decode cX0_chosen 38 = .ok (.goto (-26), 3) := by decide +kernel
theorem dX0_chosen_41 : decode cX0_chosen 41 = .ok (.iconst (-1), 1) := by decide +kernel
theorem dX0_chosen_42 : decode cX0_chosen 42 = .ok (.ireturn, 1) := by decide +kernel
theorem dX0_blame_0 : decode cX0_blame 0 = .ok (.aload_n 0, 1) := by decide +kernel
theorem dX0_blame_1 : decode cX0_blame 1 = .ok (.invokevirtual 95, 3) := by decide +kernel
theorem dX0_blame_4 : decode cX0_blame 4 = .ok (.istore_n 1, 1) := by decide +kernel
theorem dX0_blame_5 : decode cX0_blame 5 = .ok (.aload_n 0, 1) := by decide +kernel
theorem dX0_blame_6 : decode cX0_blame 6 = .ok (.iconst 0, 1) := by decide +kernel
theorem dX0_blame_7 : decode cX0_blame 7 = .ok (.putfield 106, 3) := by decide +kernel
theorem dX0_blame_10 : decode cX0_blame 10 = .ok (.aload_n 0, 1) := by decide +kernel
theorem dX0_blame_11 : decode cX0_blame 11 = .ok (.iload_n 1, 1) := by decide +kernel
theorem dX0_blame_12 : decode cX0_blame 12 = .ok (.invokevirtual 109, 3) := by decide +kernel
theorem dX0_blame_15 : decode cX0_blame 15 = .ok (.ifCond .eq 5, 3) := by decide +kernel
theorem dX0_blame_18 : decode cX0_blame 18 = .ok (.iconst 0, 1) := by decide +kernel
theorem dX0_blame_19 : decode cX0_blame 19 = .ok (.ireturn, 1) := by decide +kernel
theorem dX0_blame_20 : decode cX0_blame 20 = .ok (.iconst 0, 1) := by decide +kernel
theorem dX0_blame_21 : decode cX0_blame 21 = .ok (.istore_n 2, 1) := by decide +kernel
theorem dX0_blame_22 : decode cX0_blame 22 = .ok (.iload_n 2, 1) := by decide +kernel
theorem dX0_blame_23 : decode cX0_blame 23 = .ok (.aload_n 0, 1) := by decide +kernel
theorem dX0_blame_24 : decode cX0_blame 24 = .ok (.getfield 65, 3) := by decide +kernel
theorem dX0_blame_27 : decode cX0_blame 27 = .ok (.if_icmp .ge 32, 3) := by decide +kernel
theorem dX0_blame_30 : decode cX0_blame 30 = .ok (.iload_n 1, 1) := by decide +kernel
theorem dX0_blame_31 : decode cX0_blame 31 = .ok (.iconst 1, 1) := by decide +kernel
theorem dX0_blame_32 : decode cX0_blame 32 = .ok (.iload_n 2, 1) := by decide +kernel
theorem dX0_blame_33 : decode cX0_blame 33 = .ok (.ishl, 1) := by decide +kernel
theorem dX0_blame_34 : decode cX0_blame 34 = .ok (.iconst (-1), 1) := by decide +kernel
theorem dX0_blame_35 : decode cX0_blame 35 = .ok (.ixor, 1) := by decide +kernel
theorem dX0_blame_36 : decode cX0_blame 36 = .ok (.iand, 1) := by decide +kernel
theorem dX0_blame_37 : decode cX0_blame 37 = .ok (.istore_n 3, 1) := by decide +kernel
theorem dX0_blame_38 : decode cX0_blame 38 = .ok (.iload_n 3, 1) := by decide +kernel
theorem dX0_blame_39 : decode cX0_blame 39 = .ok (.iload_n 1, 1) := by decide +kernel
theorem dX0_blame_40 : decode cX0_blame 40 = .ok (.if_icmp .eq 13, 3) := by decide +kernel
theorem dX0_blame_43 : decode cX0_blame 43 = .ok (.aload_n 0, 1) := by decide +kernel
theorem dX0_blame_44 : decode cX0_blame 44 = .ok (.iload_n 3, 1) := by decide +kernel
theorem dX0_blame_45 : decode cX0_blame 45 = .ok (.invokevirtual 109, 3) := by decide +kernel
theorem dX0_blame_48 : decode cX0_blame 48 = .ok (.ifCond .ne 5, 3) := by decide +kernel
theorem dX0_blame_51 : decode cX0_blame 51 = .ok (.iload_n 3, 1) := by decide +kernel
theorem dX0_blame_52 : decode cX0_blame 52 = .ok (.istore_n 1, 1) := by decide +kernel
theorem dX0_blame_53 : decode cX0_blame 53 = .ok (.iinc 2 1, 3) := by decide +kernel
theorem dX0_blame_56 : decode cX0_blame 56 = .ok (.goto (-34), 3) := by decide +kernel
theorem dX0_blame_59 : decode cX0_blame 59 = .ok (.aload_n 0, 1) := by decide +kernel
theorem dX0_blame_60 : decode cX0_blame 60 = .ok (.iload_n 1, 1) := by decide +kernel
theorem dX0_blame_61 : decode cX0_blame 61 = .ok (.putfield 106, 3) := by decide +kernel
theorem dX0_blame_64 : decode cX0_blame 64 = .ok (.iload_n 1, 1) := by decide +kernel
theorem dX0_blame_65 : decode cX0_blame 65 = .ok (.invokestatic 112, 3) := by decide +kernel
theorem dX0_blame_68 : decode cX0_blame 68 = .ok (.ireturn, 1) := by decide +kernel
theorem dX0_blamed_0 : decode cX0_blamed 0 = .ok (.iconst 0, 1) := by decide +kernel
theorem dX0_blamed_1 : decode cX0_blamed 1 = .ok (.istore_n 2, 1) := by decide +kernel
theorem dX0_blamed_2 : decode cX0_blamed 2 = .ok (.iconst 0, 1) := by decide +kernel
theorem dX0_blamed_3 : decode cX0_blamed 3 = .ok (.istore_n 3, 1) := by decide +kernel
theorem dX0_blamed_4 : decode cX0_blamed 4 = .ok (.iload_n 3, 1) := by decide +kernel
theorem dX0_blamed_5 : decode cX0_blamed 5 = .ok (.bipush 12, 2) := by decide +kernel
theorem dX0_blamed_7 : decode cX0_blamed 7 = .ok (.if_icmp .ge 30, 3) := by decide +kernel
theorem dX0_blamed_10 : decode cX0_blamed 10 = .ok (.aload_n 0, 1) := by decide +kernel
theorem dX0_blamed_11 : decode cX0_blamed 11 = .ok (.getfield 106, 3) := by decide +kernel
theorem dX0_blamed_14 : decode cX0_blamed 14 = .ok (.iconst 1, 1) := by decide +kernel
theorem dX0_blamed_15 : decode cX0_blamed 15 = .ok (.iload_n 3, 1) := by decide +kernel
theorem dX0_blamed_16 : decode cX0_blamed 16 = .ok (.ishl, 1) := by decide +kernel
theorem dX0_blamed_17 : decode cX0_blamed 17 = .ok (.iand, 1) := by decide +kernel
theorem dX0_blamed_18 : decode cX0_blamed 18 = .ok (.ifCond .eq 13, 3) := by decide +kernel
theorem dX0_blamed_21 : decode cX0_blamed 21 = .ok (.iload_n 2, 1) := by decide +kernel
theorem dX0_blamed_22 : decode cX0_blamed 22 = .ok (.iload_n 1, 1) := by decide +kernel
theorem dX0_blamed_23 : decode cX0_blamed 23 = .ok (.if_icmp .ne 5, 3) := by decide +kernel
theorem dX0_blamed_26 : decode cX0_blamed 26 = .ok (.iload_n 3, 1) := by decide +kernel
theorem dX0_blamed_27 : decode cX0_blamed 27 = .ok (.ireturn, 1) := by decide +kernel
theorem dX0_blamed_28 : decode cX0_blamed 28 = .ok (.iinc 2 1, 3) := by decide +kernel
theorem dX0_blamed_31 : decode cX0_blamed 31 = .ok (.iinc 3 1, 3) := by decide +kernel
theorem dX0_blamed_34 : decode cX0_blamed 34 = .ok (.goto (-30), 3) := by decide +kernel
theorem dX0_blamed_37 : decode cX0_blamed 37 = .ok (.iconst (-1), 1) := by decide +kernel
theorem dX0_blamed_38 : decode cX0_blamed 38 = .ok (.ireturn, 1) := by decide +kernel
theorem dX0_can_0 : decode cX0_can 0 = .ok (.aload_n 0, 1) := by decide +kernel
theorem dX0_can_1 : decode cX0_can 1 = .ok (.iload_n 1, 1) := by decide +kernel
theorem dX0_can_2 : decode cX0_can 2 = .ok (.iload_n 2, 1) := by decide +kernel
theorem dX0_can_3 : decode cX0_can 3 = .ok (.invokevirtual 89, 3) := by decide +kernel
theorem dX0_can_6 : decode cX0_can 6 = .ok (.ifCond .eq 16, 3) := by decide +kernel
theorem dX0_can_9 : decode cX0_can 9 = .ok (.aload_n 0, 1) := by decide +kernel
theorem dX0_can_10 : decode cX0_can 10 = .ok (.iload_n 1, 1) := by decide +kernel
theorem dX0_can_11 : decode cX0_can 11 = .ok (.iload_n 2, 1) := by decide +kernel
theorem dX0_can_12 : decode cX0_can 12 = .ok (.invokevirtual 118, 3) := by decide +kernel
theorem dX0_can_15 : decode cX0_can 15 = .ok (.ifCond .eq 7, 3) := by decide +kernel
theorem dX0_can_18 : decode cX0_can 18 = .ok (.iconst 1, 1) := by decide +kernel
theorem dX0_can_19 : decode cX0_can 19 = .ok (.goto 4, 3) := by decide +kernel
theorem dX0_can_22 : decode cX0_can 22 = .ok (.iconst 0, 1) := by decide +kernel
theorem dX0_can_23 : decode cX0_can 23 = .ok (.ireturn, 1) := by decide +kernel
theorem dX0_must_0 : decode cX0_must 0 = .ok (.aload_n 0, 1) := by decide +kernel
theorem dX0_must_1 : decode cX0_must 1 = .ok (.iload_n 1, 1) := by decide +kernel
theorem dX0_must_2 : decode cX0_must 2 = .ok (.invokevirtual 45, 3) := by decide +kernel
theorem dX0_must_5 : decode cX0_must 5 = .ok (.ifCond .eq 16, 3) := by decide +kernel
theorem dX0_must_8 : decode cX0_must 8 = .ok (.aload_n 0, 1) := by decide +kernel
theorem dX0_must_9 : decode cX0_must 9 = .ok (.iload_n 1, 1) := by decide +kernel
theorem dX0_must_10 : decode cX0_must 10 = .ok (.iconst (-1), 1) := by decide +kernel
theorem dX0_must_11 : decode cX0_must 11 = .ok (.invokevirtual 118, 3) := by decide +kernel
theorem dX0_must_14 : decode cX0_must 14 = .ok (.ifCond .ne 7, 3) := by decide +kernel
theorem dX0_must_17 : decode cX0_must 17 = .ok (.iconst 1, 1) := by decide +kernel
theorem dX0_must_18 : decode cX0_must 18 = .ok (.goto 4, 3) := by decide +kernel
theorem dX0_must_21 : decode cX0_must 21 = .ok (.iconst 0, 1) := by decide +kernel
theorem dX0_must_22 : decode cX0_must 22 = .ok (.ireturn, 1) := by decide +kernel
theorem dX0_hasPack_0 : decode cX0_hasPack 0 = .ok (.iload_n 1, 1) := by decide +kernel
theorem dX0_hasPack_1 : decode cX0_hasPack 1 = .ok (.ifCond .lt 15, 3) := by decide +kernel
theorem dX0_hasPack_4 : decode cX0_hasPack 4 = .ok (.iload_n 1, 1) := by decide +kernel
theorem dX0_hasPack_5 : decode cX0_hasPack 5 = .ok (.aload_n 0, 1) := by decide +kernel
theorem dX0_hasPack_6 : decode cX0_hasPack 6 = .ok (.getfield 26, 3) := by decide +kernel
theorem dX0_hasPack_9 : decode cX0_hasPack 9 = .ok (.if_icmp .ge 7, 3) := by decide +kernel
theorem dX0_hasPack_12 : decode cX0_hasPack 12 = .ok (.iconst 1, 1) := by decide +kernel
theorem dX0_hasPack_13 : decode cX0_hasPack 13 = .ok (.goto 4, 3) := by decide +kernel
theorem dX0_hasPack_16 : decode cX0_hasPack 16 = .ok (.iconst 0, 1) := by decide +kernel
theorem dX0_hasPack_17 : decode cX0_hasPack 17 = .ok (.ireturn, 1) := by decide +kernel
theorem dX0_hasVersion_0 : decode cX0_hasVersion 0 = .ok (.aload_n 0, 1) := by decide +kernel
theorem dX0_hasVersion_1 : decode cX0_hasVersion 1 = .ok (.iload_n 1, 1) := by decide +kernel
theorem dX0_hasVersion_2 : decode cX0_hasVersion 2 = .ok (.invokevirtual 45, 3) := by decide +kernel
theorem dX0_hasVersion_5 : decode cX0_hasVersion 5 = .ok (.ifCond .eq 32, 3) := by decide +kernel
theorem dX0_hasVersion_8 : decode cX0_hasVersion 8 = .ok (.iload_n 2, 1) := by decide +kernel
theorem dX0_hasVersion_9 : decode cX0_hasVersion 9 = .ok (.ifCond .lt 28, 3) := by decide +kernel
theorem dX0_hasVersion_12 : decode cX0_hasVersion 12 = .ok (.iload_n 2, 1) := by decide +kernel
theorem dX0_hasVersion_13 : decode cX0_hasVersion 13 = .ok (.bipush 6, 2) := by decide +kernel
theorem dX0_hasVersion_15 : decode cX0_hasVersion 15 = .ok (.if_icmp .ge 22, 3) := by decide +kernel
theorem dX0_hasVersion_18 : decode cX0_hasVersion 18 = .ok (.aload_n 0, 1) := by decide +kernel
theorem dX0_hasVersion_19 : decode cX0_hasVersion 19 = .ok (.getfield 22, 3) := by decide +kernel
theorem dX0_hasVersion_22 : decode cX0_hasVersion 22 = .ok (.iload_n 1, 1) := by decide +kernel
theorem dX0_hasVersion_23 : decode cX0_hasVersion 23 = .ok (.iload_n 2, 1) := by decide +kernel
theorem dX0_hasVersion_24 : decode cX0_hasVersion 24 = .ok (.invokestatic 52, 3) := by decide +kernel
theorem dX0_hasVersion_27 : decode cX0_hasVersion 27 = .ok (.land, 1) := by decide +kernel
theorem dX0_hasVersion_28 : decode cX0_hasVersion 28 = .ok (.lconst 0, 1) := by decide +kernel
theorem dX0_hasVersion_29 : decode cX0_hasVersion 29 = .ok (.lcmp, 1) := by decide +kernel
theorem dX0_hasVersion_30 : decode cX0_hasVersion 30 = .ok (.ifCond .eq 7, 3) := by decide +kernel
theorem dX0_hasVersion_33 : decode cX0_hasVersion 33 = .ok (.iconst 1, 1) := by decide +kernel
theorem dX0_hasVersion_34 : decode cX0_hasVersion 34 = .ok (.goto 4, 3) := by decide +kernel
theorem dX0_hasVersion_37 : decode cX0_hasVersion 37 = .ok (.iconst 0, 1) := by decide +kernel
theorem dX0_hasVersion_38 : decode cX0_hasVersion 38 = .ok (.ireturn, 1) := by decide +kernel
theorem dX0_hasPlace_0 : decode cX0_hasPlace 0 = .ok (.iload_n 2, 1) := by decide +kernel
theorem dX0_hasPlace_1 : decode cX0_hasPlace 1 = .ok (.iconst (-1), 1) := by decide +kernel
theorem dX0_hasPlace_2 : decode cX0_hasPlace 2 = .ok (.if_icmp .ne 11, 3) := by decide +kernel
theorem dX0_hasPlace_5 : decode cX0_hasPlace 5 = .ok (.aload_n 0, 1) := by decide +kernel
theorem dX0_hasPlace_6 : decode cX0_hasPlace 6 = .ok (.iload_n 1, 1) := by decide +kernel
theorem dX0_hasPlace_7 : decode cX0_hasPlace 7 = .ok (.invokevirtual 45, 3) := by decide +kernel
theorem dX0_hasPlace_10 : decode cX0_hasPlace 10 = .ok (.goto 9, 3) := by decide +kernel
theorem dX0_hasPlace_13 : decode cX0_hasPlace 13 = .ok (.aload_n 0, 1) := by decide +kernel
theorem dX0_hasPlace_14 : decode cX0_hasPlace 14 = .ok (.iload_n 1, 1) := by decide +kernel
theorem dX0_hasPlace_15 : decode cX0_hasPlace 15 = .ok (.iload_n 2, 1) := by decide +kernel
theorem dX0_hasPlace_16 : decode cX0_hasPlace 16 = .ok (.invokevirtual 37, 3) := by decide +kernel
theorem dX0_hasPlace_19 : decode cX0_hasPlace 19 = .ok (.ireturn, 1) := by decide +kernel
theorem dX0_isKind_0 : decode cX0_isKind 0 = .ok (.iload_n 0, 1) := by decide +kernel
theorem dX0_isKind_1 : decode cX0_isKind 1 = .ok (.ifCond .eq 13, 3) := by decide +kernel
theorem dX0_isKind_4 : decode cX0_isKind 4 = .ok (.iload_n 0, 1) := by decide +kernel
theorem dX0_isKind_5 : decode cX0_isKind 5 = .ok (.iconst 1, 1) := by decide +kernel
theorem dX0_isKind_6 : decode cX0_isKind 6 = .ok (.if_icmp .eq 8, 3) := by decide +kernel
theorem dX0_isKind_9 : decode cX0_isKind 9 = .ok (.iload_n 0, 1) := by decide +kernel
theorem dX0_isKind_10 : decode cX0_isKind 10 = .ok (.iconst 2, 1) := by decide +kernel
theorem dX0_isKind_11 : decode cX0_isKind 11 = .ok (.if_icmp .ne 7, 3) := by decide +kernel
theorem dX0_isKind_14 : decode cX0_isKind 14 = .ok (.iconst 1, 1) := by decide +kernel
theorem dX0_isKind_15 : decode cX0_isKind 15 = .ok (.goto 4, 3) := by decide +kernel
theorem dX0_isKind_18 : decode cX0_isKind 18 = .ok (.iconst 0, 1) := by decide +kernel
theorem dX0_isKind_19 : decode cX0_isKind 19 = .ok (.ireturn, 1) := by decide +kernel
theorem dX0_allOf_0 : decode cX0_allOf 0 = .ok (.ldc2_w 121, 3) := by decide +kernel
theorem dX0_allOf_3 : decode cX0_allOf 3 = .ok (.iload_n 0, 1) := by decide +kernel
theorem dX0_allOf_4 : decode cX0_allOf 4 = .ok (.bipush 8, 2) := by decide +kernel
theorem dX0_allOf_6 : decode cX0_allOf 6 = .ok (.imul, 1) := by decide +kernel
theorem dX0_allOf_7 : decode cX0_allOf 7 = .ok (.lshl, 1) := by decide +kernel
theorem dX0_allOf_8 : decode cX0_allOf 8 = .ok (.lreturn, 1) := by decide +kernel
theorem dX0_noneOf_0 : decode cX0_noneOf 0 = .ok (.ldc2_w 123, 3) := by decide +kernel
theorem dX0_noneOf_3 : decode cX0_noneOf 3 = .ok (.iload_n 0, 1) := by decide +kernel
theorem dX0_noneOf_4 : decode cX0_noneOf 4 = .ok (.bipush 8, 2) := by decide +kernel
theorem dX0_noneOf_6 : decode cX0_noneOf 6 = .ok (.imul, 1) := by decide +kernel
theorem dX0_noneOf_7 : decode cX0_noneOf 7 = .ok (.lshl, 1) := by decide +kernel
theorem dX0_noneOf_8 : decode cX0_noneOf 8 = .ok (.lreturn, 1) := by decide +kernel
theorem dX0_versionsOf_0 : decode cX0_versionsOf 0 = .ok (.iload_n 1, 1) := by decide +kernel
theorem dX0_versionsOf_1 : decode cX0_versionsOf 1 = .ok (.i2l, 1) := by decide +kernel
theorem dX0_versionsOf_2 : decode cX0_versionsOf 2 = .ok (.ldc2_w 125, 3) := by decide +kernel
theorem dX0_versionsOf_5 : decode cX0_versionsOf 5 = .ok (.land, 1) := by decide +kernel
theorem dX0_versionsOf_6 : decode cX0_versionsOf 6 = .ok (.iload_n 0, 1) := by decide +kernel
theorem dX0_versionsOf_7 : decode cX0_versionsOf 7 = .ok (.bipush 8, 2) := by decide +kernel
theorem dX0_versionsOf_9 : decode cX0_versionsOf 9 = .ok (.imul, 1) := by decide +kernel
theorem dX0_versionsOf_10 : decode cX0_versionsOf 10 = .ok (.lshl, 1) := by decide +kernel
theorem dX0_versionsOf_11 : decode cX0_versionsOf 11 = .ok (.lreturn, 1) := by decide +kernel
theorem dX0_placeOf_0 : decode cX0_placeOf 0 = .ok (.iload_n 1, 1) := by decide +kernel
theorem dX0_placeOf_1 : decode cX0_placeOf 1 = .ok (.iconst (-1), 1) := by decide +kernel
theorem dX0_placeOf_2 : decode cX0_placeOf 2 = .ok (.if_icmp .ne 10, 3) := by decide +kernel
theorem dX0_placeOf_5 : decode cX0_placeOf 5 = .ok (.iload_n 0, 1) := by decide +kernel
theorem dX0_placeOf_6 : decode cX0_placeOf 6 = .ok (.invokestatic 127, 3) := by decide +kernel
theorem dX0_placeOf_9 : decode cX0_placeOf 9 = .ok (.goto 10, 3) := by decide +kernel
theorem dX0_placeOf_12 : decode cX0_placeOf 12 = .ok (.iload_n 0, 1) := by decide +kernel
theorem dX0_placeOf_13 : decode cX0_placeOf 13 = .ok (.iconst 1, 1) := by decide +kernel
theorem dX0_placeOf_14 : decode cX0_placeOf 14 = .ok (.iload_n 1, 1) := by decide +kernel
theorem dX0_placeOf_15 : decode cX0_placeOf 15 = .ok (.ishl, 1) := by decide +kernel
theorem dX0_placeOf_16 : decode cX0_placeOf 16 = .ok (.invokestatic 30, 3) := by decide +kernel
theorem dX0_placeOf_19 : decode cX0_placeOf 19 = .ok (.lreturn, 1) := by decide +kernel
theorem dX0_keeping_0 : decode cX0_keeping 0 = .ok (.iload_n 1, 1) := by decide +kernel
theorem dX0_keeping_1 : decode cX0_keeping 1 = .ok (.iload_n 2, 1) := by decide +kernel
theorem dX0_keeping_2 : decode cX0_keeping 2 = .ok (.invokestatic 30, 3) := by decide +kernel
theorem dX0_keeping_5 : decode cX0_keeping 5 = .ok (.lstore_n 3, 1) := by decide +kernel
theorem dX0_keeping_6 : decode cX0_keeping 6 = .ok (.iload_n 0, 1) := by decide +kernel
theorem dX0_keeping_7 : decode cX0_keeping 7 = .ok (.iconst 1, 1) := by decide +kernel
theorem dX0_keeping_8 : decode cX0_keeping 8 = .ok (.if_icmp .ne 14, 3) := by decide +kernel
theorem dX0_keeping_11 : decode cX0_keeping 11 = .ok (.iload_n 1, 1) := by decide +kernel
theorem dX0_keeping_12 : decode cX0_keeping 12 = .ok (.invokestatic 48, 3) := by decide +kernel
theorem dX0_keeping_15 : decode cX0_keeping 15 = .ok (.lload_n 3, 1) := by decide +kernel
theorem dX0_keeping_16 : decode cX0_keeping 16 = .ok (.ldc2_w 55, 3) := by decide +kernel
theorem dX0_keeping_19 : decode cX0_keeping 19 = .ok (.lxor, 1) := by decide +kernel
theorem dX0_keeping_20 : decode cX0_keeping 20 = .ok (.land, 1) := by decide +kernel
theorem dX0_keeping_21 : decode cX0_keeping 21 = .ok (.lreturn, 1) := by decide +kernel
theorem dX0_keeping_22 : decode cX0_keeping 22 = .ok (.iload_n 0, 1) := by decide +kernel
theorem dX0_keeping_23 : decode cX0_keeping 23 = .ok (.iconst 2, 1) := by decide +kernel
theorem dX0_keeping_24 : decode cX0_keeping 24 = .ok (.if_icmp .ne 12, 3) := by decide +kernel
theorem dX0_keeping_27 : decode cX0_keeping 27 = .ok (.lload_n 3, 1) := by decide +kernel
theorem dX0_keeping_28 : decode cX0_keeping 28 = .ok (.iload_n 1, 1) := by decide +kernel
theorem dX0_keeping_29 : decode cX0_keeping 29 = .ok (.invokestatic 127, 3) := by decide +kernel
theorem dX0_keeping_32 : decode cX0_keeping 32 = .ok (.lor, 1) := by decide +kernel
theorem dX0_keeping_33 : decode cX0_keeping 33 = .ok (.goto 4, 3) := by decide +kernel
theorem dX0_keeping_36 : decode cX0_keeping 36 = .ok (.lload_n 3, 1) := by decide +kernel
theorem dX0_keeping_37 : decode cX0_keeping 37 = .ok (.lreturn, 1) := by decide +kernel
theorem dX0_startAlternatives_0 : decode cX0_startAlternatives 0 = .ok (.aload_n 0, 1) := by decide +kernel
theorem dX0_startAlternatives_1 : decode cX0_startAlternatives 1 = .ok (.iload_n 1, 1) := by decide +kernel
theorem dX0_startAlternatives_2 : decode cX0_startAlternatives 2 = .ok (.ifCond .ne 7, 3) := by decide +kernel
theorem dX0_startAlternatives_5 : decode cX0_startAlternatives 5 = .ok (.iconst 2, 1) := by decide +kernel
theorem dX0_startAlternatives_6 : decode cX0_startAlternatives 6 = .ok (.goto 4, 3) := by decide +kernel
theorem dX0_startAlternatives_9 : decode cX0_startAlternatives 9 = .ok (.iconst 0, 1) := by decide +kernel
theorem dX0_startAlternatives_10 : decode cX0_startAlternatives 10 = .ok (.putfield 72, 3) := by decide +kernel
theorem dX0_startAlternatives_13 : decode cX0_startAlternatives 13 = .ok (.aload_n 0, 1) := by decide +kernel
theorem dX0_startAlternatives_14 : decode cX0_startAlternatives 14 = .ok (.iload_n 2, 1) := by decide +kernel
theorem dX0_startAlternatives_15 : decode cX0_startAlternatives 15 = .ok (.putfield 75, 3) := by decide +kernel
theorem dX0_startAlternatives_18 : decode cX0_startAlternatives 18 = .ok (.return_, 1) := by decide +kernel
theorem dX0_addToLatestDemand_0 : decode cX0_addToLatestDemand 0 = .ok (.aload_n 0, 1) := by decide +kernel
theorem dX0_addToLatestDemand_1 : decode cX0_addToLatestDemand 1 = .ok (.getfield 65, 3) := by decide +kernel
theorem dX0_addToLatestDemand_4 : decode cX0_addToLatestDemand 4 = .ok (.ifCond .le 27, 3) := by decide +kernel
theorem dX0_addToLatestDemand_7 : decode cX0_addToLatestDemand 7 = .ok (.aload_n 0, 1) := by decide +kernel
theorem dX0_addToLatestDemand_8 : decode cX0_addToLatestDemand 8 = .ok (.getfield 13, 3) := by decide +kernel
theorem dX0_addToLatestDemand_11 : decode cX0_addToLatestDemand 11 = .ok (.aload_n 0, 1) := by decide +kernel
theorem dX0_addToLatestDemand_12 : decode cX0_addToLatestDemand 12 = .ok (.getfield 65, 3) := by decide +kernel
theorem dX0_addToLatestDemand_15 : decode cX0_addToLatestDemand 15 = .ok (.iconst 1, 1) := by decide +kernel
theorem dX0_addToLatestDemand_16 : decode cX0_addToLatestDemand 16 = .ok (.isub, 1) := by decide +kernel
theorem dX0_addToLatestDemand_17 : decode cX0_addToLatestDemand 17 = .ok (.dup2, 1) := by decide +kernel
theorem dX0_addToLatestDemand_18 : decode cX0_addToLatestDemand 18 = .ok (.laload, 1) := by decide +kernel
theorem dX0_addToLatestDemand_19 : decode cX0_addToLatestDemand 19 = .ok (.iload_n 1, 1) := by decide +kernel
theorem dX0_addToLatestDemand_20 : decode cX0_addToLatestDemand 20 = .ok (.iload_n 2, 1) := by decide +kernel
theorem dX0_addToLatestDemand_21 : decode cX0_addToLatestDemand 21 = .ok (.invokestatic 30, 3) := by decide +kernel
theorem dX0_addToLatestDemand_24 : decode cX0_addToLatestDemand 24 = .ok (.lor, 1) := by decide +kernel
theorem dX0_addToLatestDemand_25 : decode cX0_addToLatestDemand 25 = .ok (.lastore, 1) := by decide +kernel
theorem dX0_addToLatestDemand_26 : decode cX0_addToLatestDemand 26 = .ok (.aload_n 0, 1) := by decide +kernel
theorem dX0_addToLatestDemand_27 : decode cX0_addToLatestDemand 27 = .ok (.iload_n 1, 1) := by decide +kernel
theorem dX0_addToLatestDemand_28 : decode cX0_addToLatestDemand 28 = .ok (.invokevirtual 68, 3) := by decide +kernel
theorem dX0_addToLatestDemand_31 : decode cX0_addToLatestDemand 31 = .ok (.return_, 1) := by decide +kernel
theorem dX0_addToLatestRow_0 : decode cX0_addToLatestRow 0 = .ok (.aload_n 0, 1) := by decide +kernel
theorem dX0_addToLatestRow_1 : decode cX0_addToLatestRow 1 = .ok (.getfield 34, 3) := by decide +kernel
theorem dX0_addToLatestRow_4 : decode cX0_addToLatestRow 4 = .ok (.ifCond .le 22, 3) := by decide +kernel
theorem dX0_addToLatestRow_7 : decode cX0_addToLatestRow 7 = .ok (.aload_n 0, 1) := by decide +kernel
theorem dX0_addToLatestRow_8 : decode cX0_addToLatestRow 8 = .ok (.getfield 9, 3) := by decide +kernel
theorem dX0_addToLatestRow_11 : decode cX0_addToLatestRow 11 = .ok (.aload_n 0, 1) := by decide +kernel
theorem dX0_addToLatestRow_12 : decode cX0_addToLatestRow 12 = .ok (.getfield 34, 3) := by decide +kernel
theorem dX0_addToLatestRow_15 : decode cX0_addToLatestRow 15 = .ok (.iconst 1, 1) := by decide +kernel
theorem dX0_addToLatestRow_16 : decode cX0_addToLatestRow 16 = .ok (.isub, 1) := by decide +kernel
theorem dX0_addToLatestRow_17 : decode cX0_addToLatestRow 17 = .ok (.dup2, 1) := by decide +kernel
theorem dX0_addToLatestRow_18 : decode cX0_addToLatestRow 18 = .ok (.laload, 1) := by decide +kernel
theorem dX0_addToLatestRow_19 : decode cX0_addToLatestRow 19 = .ok (.iload_n 1, 1) := by decide +kernel
theorem dX0_addToLatestRow_20 : decode cX0_addToLatestRow 20 = .ok (.iload_n 2, 1) := by decide +kernel
theorem dX0_addToLatestRow_21 : decode cX0_addToLatestRow 21 = .ok (.invokestatic 30, 3) := by decide +kernel
theorem dX0_addToLatestRow_24 : decode cX0_addToLatestRow 24 = .ok (.lor, 1) := by decide +kernel
theorem dX0_addToLatestRow_25 : decode cX0_addToLatestRow 25 = .ok (.lastore, 1) := by decide +kernel
theorem dX0_addToLatestRow_26 : decode cX0_addToLatestRow 26 = .ok (.return_, 1) := by decide +kernel
theorem dX0_moveToNeeded_0 : decode cX0_moveToNeeded 0 = .ok (.aload_n 0, 1) := by decide +kernel
theorem dX0_moveToNeeded_1 : decode cX0_moveToNeeded 1 = .ok (.iload_n 1, 1) := by decide +kernel
theorem dX0_moveToNeeded_2 : decode cX0_moveToNeeded 2 = .ok (.invokevirtual 130, 3) := by decide +kernel
theorem dX0_moveToNeeded_5 : decode cX0_moveToNeeded 5 = .ok (.istore_n 2, 1) := by decide +kernel
theorem dX0_moveToNeeded_6 : decode cX0_moveToNeeded 6 = .ok (.iload_n 2, 1) := by decide +kernel
theorem dX0_moveToNeeded_7 : decode cX0_moveToNeeded 7 = .ok (.aload_n 0, 1) := by decide +kernel
theorem dX0_moveToNeeded_8 : decode cX0_moveToNeeded 8 = .ok (.getfield 133, 3) := by decide +kernel
theorem dX0_moveToNeeded_11 : decode cX0_moveToNeeded 11 = .ok (.if_icmp .lt 9, 3) := by decide +kernel
theorem dX0_moveToNeeded_14 : decode cX0_moveToNeeded 14 = .ok (.iload_n 2, 1) := by decide +kernel
theorem dX0_moveToNeeded_15 : decode cX0_moveToNeeded 15 = .ok (.bipush 8, 2) := by decide +kernel
theorem dX0_moveToNeeded_17 : decode cX0_moveToNeeded 17 = .ok (.if_icmp .lt 4, 3) := by decide +kernel
theorem dX0_moveToNeeded_20 : decode cX0_moveToNeeded 20 = .ok (.return_, 1) := by decide +kernel
theorem dX0_moveToNeeded_21 : decode cX0_moveToNeeded 21 = .ok (.iload_n 2, 1) := by decide +kernel
theorem dX0_moveToNeeded_22 : decode cX0_moveToNeeded 22 = .ok (.istore_n 3, 1) := by decide +kernel
theorem dX0_moveToNeeded_23 : decode cX0_moveToNeeded 23 = .ok (.iload_n 3, 1) := by decide +kernel
theorem dX0_moveToNeeded_24 : decode cX0_moveToNeeded 24 = .ok (.aload_n 0, 1) := by decide +kernel
theorem dX0_moveToNeeded_25 : decode cX0_moveToNeeded 25 = .ok (.getfield 133, 3) := by decide +kernel
theorem dX0_moveToNeeded_28 : decode cX0_moveToNeeded 28 = .ok (.if_icmp .le 23, 3) := by decide +kernel
theorem dX0_moveToNeeded_31 : decode cX0_moveToNeeded 31 = .ok (.aload_n 0, 1) := by decide +kernel
theorem dX0_moveToNeeded_32 : decode cX0_moveToNeeded 32 = .ok (.getfield 16, 3) := by decide +kernel
theorem dX0_moveToNeeded_35 : decode cX0_moveToNeeded 35 = .ok (.iload_n 3, 1) := by decide +kernel
theorem dX0_moveToNeeded_36 : decode cX0_moveToNeeded 36 = .ok (.aload_n 0, 1) := by decide +kernel
theorem dX0_moveToNeeded_37 : decode cX0_moveToNeeded 37 = .ok (.getfield 16, 3) := by decide +kernel
theorem dX0_moveToNeeded_40 : decode cX0_moveToNeeded 40 = .ok (.iload_n 3, 1) := by decide +kernel
theorem dX0_moveToNeeded_41 : decode cX0_moveToNeeded 41 = .ok (.iconst 1, 1) := by decide +kernel
theorem dX0_moveToNeeded_42 : decode cX0_moveToNeeded 42 = .ok (.isub, 1) := by decide +kernel
theorem dX0_moveToNeeded_43 : decode cX0_moveToNeeded 43 = .ok (.iaload, 1) := by decide +kernel
theorem dX0_moveToNeeded_44 : decode cX0_moveToNeeded 44 = .ok (.iastore, 1) := by decide +kernel
theorem dX0_moveToNeeded_45 : decode cX0_moveToNeeded 45 = .ok (.iinc 3 (-1), 3) := by decide +kernel
theorem dX0_moveToNeeded_48 : decode cX0_moveToNeeded 48 = .ok (.goto (-25), 3) := by decide +kernel
theorem dX0_moveToNeeded_51 : decode cX0_moveToNeeded 51 = .ok (.aload_n 0, 1) := by decide +kernel
theorem dX0_moveToNeeded_52 : decode cX0_moveToNeeded 52 = .ok (.getfield 16, 3) := by decide +kernel
theorem dX0_moveToNeeded_55 : decode cX0_moveToNeeded 55 = .ok (.aload_n 0, 1) := by decide +kernel
theorem dX0_moveToNeeded_56 : decode cX0_moveToNeeded 56 = .ok (.getfield 133, 3) := by decide +kernel
theorem dX0_moveToNeeded_59 : decode cX0_moveToNeeded 59 = .ok (.iload_n 1, 1) := by decide +kernel
theorem dX0_moveToNeeded_60 : decode cX0_moveToNeeded 60 = .ok (.iastore, 1) := by decide +kernel
theorem dX0_moveToNeeded_61 : decode cX0_moveToNeeded 61 = .ok (.aload_n 0, 1) := by decide +kernel
theorem dX0_moveToNeeded_62 : decode cX0_moveToNeeded 62 = .ok (.dup, 1) := by decide +kernel
theorem dX0_moveToNeeded_63 : decode cX0_moveToNeeded 63 = .ok (.getfield 133, 3) := by decide +kernel
theorem dX0_moveToNeeded_66 : decode cX0_moveToNeeded 66 = .ok (.iconst 1, 1) := by decide +kernel
theorem dX0_moveToNeeded_67 : decode cX0_moveToNeeded 67 = .ok (.iadd, 1) := by decide +kernel
theorem dX0_moveToNeeded_68 : decode cX0_moveToNeeded 68 = .ok (.putfield 133, 3) := by decide +kernel
theorem dX0_moveToNeeded_71 : decode cX0_moveToNeeded 71 = .ok (.return_, 1) := by decide +kernel
theorem dX0_positionOf_0 : decode cX0_positionOf 0 = .ok (.iconst 0, 1) := by decide +kernel
theorem dX0_positionOf_1 : decode cX0_positionOf 1 = .ok (.istore_n 2, 1) := by decide +kernel
theorem dX0_positionOf_2 : decode cX0_positionOf 2 = .ok (.iload_n 2, 1) := by decide +kernel
theorem dX0_positionOf_3 : decode cX0_positionOf 3 = .ok (.bipush 8, 2) := by decide +kernel
theorem dX0_positionOf_5 : decode cX0_positionOf 5 = .ok (.if_icmp .ge 21, 3) := by decide +kernel
theorem dX0_positionOf_8 : decode cX0_positionOf 8 = .ok (.aload_n 0, 1) := by decide +kernel
theorem dX0_positionOf_9 : decode cX0_positionOf 9 = .ok (.getfield 16, 3) := by decide +kernel
theorem dX0_positionOf_12 : decode cX0_positionOf 12 = .ok (.iload_n 2, 1) := by decide +kernel
theorem dX0_positionOf_13 : decode cX0_positionOf 13 = .ok (.iaload, 1) := by decide +kernel
theorem dX0_positionOf_14 : decode cX0_positionOf 14 = .ok (.iload_n 1, 1) := by decide +kernel
theorem dX0_positionOf_15 : decode cX0_positionOf 15 = .ok (.if_icmp .ne 5, 3) := by decide +kernel
theorem dX0_positionOf_18 : decode cX0_positionOf 18 = .ok (.iload_n 2, 1) := by decide +kernel
theorem dX0_positionOf_19 : decode cX0_positionOf 19 = .ok (.ireturn, 1) := by decide +kernel
theorem dX0_positionOf_20 : decode cX0_positionOf 20 = .ok (.iinc 2 1, 3) := by decide +kernel
theorem dX0_positionOf_23 : decode cX0_positionOf 23 = .ok (.goto (-21), 3) := by decide +kernel
theorem dX0_positionOf_26 : decode cX0_positionOf 26 = .ok (.bipush 8, 2) := by decide +kernel
theorem dX0_positionOf_28 : decode cX0_positionOf 28 = .ok (.ireturn, 1) := by decide +kernel
theorem dX0_demandsThatCount_0 : decode cX0_demandsThatCount 0 = .ok (.iconst 1, 1) := by decide +kernel
theorem dX0_demandsThatCount_1 : decode cX0_demandsThatCount 1 = .ok (.aload_n 0, 1) := by decide +kernel
theorem dX0_demandsThatCount_2 : decode cX0_demandsThatCount 2 = .ok (.getfield 65, 3) := by decide +kernel
theorem dX0_demandsThatCount_5 : decode cX0_demandsThatCount 5 = .ok (.ishl, 1) := by decide +kernel
theorem dX0_demandsThatCount_6 : decode cX0_demandsThatCount 6 = .ok (.iconst 1, 1) := by decide +kernel
theorem dX0_demandsThatCount_7 : decode cX0_demandsThatCount 7 = .ok (.isub, 1) := by decide +kernel
theorem dX0_demandsThatCount_8 : decode cX0_demandsThatCount 8 = .ok (.aload_n 0, 1) := by decide +kernel
theorem dX0_demandsThatCount_9 : decode cX0_demandsThatCount 9 = .ok (.getfield 86, 3) := by decide +kernel
theorem dX0_demandsThatCount_12 : decode cX0_demandsThatCount 12 = .ok (.iconst (-1), 1) := by decide +kernel
theorem dX0_demandsThatCount_13 : decode cX0_demandsThatCount 13 = .ok (.ixor, 1) := by decide +kernel
theorem dX0_demandsThatCount_14 : decode cX0_demandsThatCount 14 = .ok (.iand, 1) := by decide +kernel
theorem dX0_demandsThatCount_15 : decode cX0_demandsThatCount 15 = .ok (.ireturn, 1) := by decide +kernel
theorem dX0_someRightGives_0 : decode cX0_someRightGives 0 = .ok (.aload_n 0, 1) := by decide +kernel
theorem dX0_someRightGives_1 : decode cX0_someRightGives 1 = .ok (.getfield 22, 3) := by decide +kernel
theorem dX0_someRightGives_4 : decode cX0_someRightGives 4 = .ok (.iload_n 1, 1) := by decide +kernel
theorem dX0_someRightGives_5 : decode cX0_someRightGives 5 = .ok (.invokestatic 48, 3) := by decide +kernel
theorem dX0_someRightGives_8 : decode cX0_someRightGives 8 = .ok (.ldc2_w 55, 3) := by decide +kernel
theorem dX0_someRightGives_11 : decode cX0_someRightGives 11 = .ok (.lxor, 1) := by decide +kernel
theorem dX0_someRightGives_12 : decode cX0_someRightGives 12 = .ok (.land, 1) := by decide +kernel
theorem dX0_someRightGives_13 : decode cX0_someRightGives 13 = .ok (.iload_n 1, 1) := by decide +kernel
theorem dX0_someRightGives_14 : decode cX0_someRightGives 14 = .ok (.iload_n 2, 1) := by decide +kernel
theorem dX0_someRightGives_15 : decode cX0_someRightGives 15 = .ok (.invokestatic 52, 3) := by decide +kernel
theorem dX0_someRightGives_18 : decode cX0_someRightGives 18 = .ok (.lor, 1) := by decide +kernel
theorem dX0_someRightGives_19 : decode cX0_someRightGives 19 = .ok (.lstore_n 3, 1) := by decide +kernel
theorem dX0_someRightGives_20 : decode cX0_someRightGives 20 = .ok (.aload_n 0, 1) := by decide +kernel
theorem dX0_someRightGives_21 : decode cX0_someRightGives 21 = .ok (.lload_n 3, 1) := by decide +kernel
theorem dX0_someRightGives_22 : decode cX0_someRightGives 22 = .ok (.aload_n 0, 1) := by decide +kernel
theorem dX0_someRightGives_23 : decode cX0_someRightGives 23 = .ok (.invokevirtual 95, 3) := by decide +kernel
theorem dX0_someRightGives_26 : decode cX0_someRightGives 26 = .ok (.iconst 0, 1) := by decide +kernel
theorem dX0_someRightGives_27 : decode cX0_someRightGives 27 = .ok (.invokevirtual 99, 3) := by decide +kernel
theorem dX0_someRightGives_30 : decode cX0_someRightGives 30 = .ok (.lconst 0, 1) := by decide +kernel
theorem dX0_someRightGives_31 : decode cX0_someRightGives 31 = .ok (.lcmp, 1) := by decide +kernel
theorem dX0_someRightGives_32 : decode cX0_someRightGives 32 = .ok (.ifCond .eq 7, 3) := by decide +kernel
theorem dX0_someRightGives_35 : decode cX0_someRightGives 35 = .ok (.iconst 1, 1) := by decide +kernel
theorem dX0_someRightGives_36 : decode cX0_someRightGives 36 = .ok (.goto 4, 3) := by decide +kernel
theorem dX0_someRightGives_39 : decode cX0_someRightGives 39 = .ok (.iconst 0, 1) := by decide +kernel
theorem dX0_someRightGives_40 : decode cX0_someRightGives 40 = .ok (.ireturn, 1) := by decide +kernel
theorem dX0_someRightKeeps_0 : decode cX0_someRightKeeps 0 = .ok (.aload_n 0, 1) := by decide +kernel
theorem dX0_someRightKeeps_1 : decode cX0_someRightKeeps 1 = .ok (.aload_n 0, 1) := by decide +kernel
theorem dX0_someRightKeeps_2 : decode cX0_someRightKeeps 2 = .ok (.getfield 22, 3) := by decide +kernel
theorem dX0_someRightKeeps_5 : decode cX0_someRightKeeps 5 = .ok (.iload_n 1, 1) := by decide +kernel
theorem dX0_someRightKeeps_6 : decode cX0_someRightKeeps 6 = .ok (.iconst 0, 1) := by decide +kernel
theorem dX0_someRightKeeps_7 : decode cX0_someRightKeeps 7 = .ok (.invokevirtual 99, 3) := by decide +kernel
theorem dX0_someRightKeeps_10 : decode cX0_someRightKeeps 10 = .ok (.lconst 0, 1) := by decide +kernel
theorem dX0_someRightKeeps_11 : decode cX0_someRightKeeps 11 = .ok (.lcmp, 1) := by decide +kernel
theorem dX0_someRightKeeps_12 : decode cX0_someRightKeeps 12 = .ok (.ifCond .eq 7, 3) := by decide +kernel
theorem dX0_someRightKeeps_15 : decode cX0_someRightKeeps 15 = .ok (.iconst 1, 1) := by decide +kernel
theorem dX0_someRightKeeps_16 : decode cX0_someRightKeeps 16 = .ok (.goto 4, 3) := by decide +kernel
theorem dX0_someRightKeeps_19 : decode cX0_someRightKeeps 19 = .ok (.iconst 0, 1) := by decide +kernel
theorem dX0_someRightKeeps_20 : decode cX0_someRightKeeps 20 = .ok (.ireturn, 1) := by decide +kernel
theorem dX0_firstWithin_0 : decode cX0_firstWithin 0 = .ok (.aload_n 0, 1) := by decide +kernel
theorem dX0_firstWithin_1 : decode cX0_firstWithin 1 = .ok (.lload_n 1, 1) := by decide +kernel
theorem dX0_firstWithin_2 : decode cX0_firstWithin 2 = .ok (.iload_n 3, 1) := by decide +kernel
theorem dX0_firstWithin_3 : decode cX0_firstWithin 3 = .ok (.invokevirtual 136, 3) := by decide +kernel
theorem dX0_firstWithin_6 : decode cX0_firstWithin 6 = .ok (.lstore 5, 2) := by decide +kernel
theorem dX0_firstWithin_8 : decode cX0_firstWithin 8 = .ok (.lload 5, 2) := by decide +kernel
theorem dX0_firstWithin_10 : decode cX0_firstWithin 10 = .ok (.lconst 0, 1) := by decide +kernel
theorem dX0_firstWithin_11 : decode cX0_firstWithin 11 = .ok (.lcmp, 1) := by decide +kernel
theorem dX0_firstWithin_12 : decode cX0_firstWithin 12 = .ok (.ifCond .ne 7, 3) := by decide +kernel
theorem dX0_firstWithin_15 : decode cX0_firstWithin 15 = .ok (.lconst 0, 1) := by decide +kernel
theorem dX0_firstWithin_16 : decode cX0_firstWithin 16 = .ok (.goto 12, 3) := by decide +kernel
theorem dX0_firstWithin_19 : decode cX0_firstWithin 19 = .ok (.aload_n 0, 1) := by decide +kernel
theorem dX0_firstWithin_20 : decode cX0_firstWithin 20 = .ok (.lload 5, 2) := by decide +kernel
theorem dX0_firstWithin_22 : decode cX0_firstWithin 22 = .ok (.iload_n 3, 1) := by decide +kernel
theorem dX0_firstWithin_23 : decode cX0_firstWithin 23 = .ok (.iload 4, 2) := by decide +kernel
theorem dX0_firstWithin_25 : decode cX0_firstWithin 25 = .ok (.invokevirtual 140, 3) := by decide +kernel
theorem dX0_firstWithin_28 : decode cX0_firstWithin 28 = .ok (.lreturn, 1) := by decide +kernel
theorem dX0_firstOf_0 : decode cX0_firstOf 0 = .ok (.iload 4, 2) := by decide +kernel
theorem dX0_firstOf_2 : decode cX0_firstOf 2 = .ok (.ifCond .lt 10, 3) := by decide +kernel
theorem dX0_firstOf_5 : decode cX0_firstOf 5 = .ok (.iload 4, 2) := by decide +kernel
theorem dX0_firstOf_7 : decode cX0_firstOf 7 = .ok (.bipush 8, 2) := by decide +kernel
theorem dX0_firstOf_9 : decode cX0_firstOf 9 = .ok (.if_icmp .lt 5, 3) := by decide +kernel
theorem dX0_firstOf_12 : decode cX0_firstOf 12 = .ok (.lload_n 1, 1) := by decide +kernel
theorem dX0_firstOf_13 : decode cX0_firstOf 13 = .ok (.lreturn, 1) := by decide +kernel
theorem dX0_firstOf_14 : decode cX0_firstOf 14 = .ok (.aload_n 0, 1) := by decide +kernel
theorem dX0_firstOf_15 : decode cX0_firstOf 15 = .ok (.getfield 16, 3) := by decide +kernel
theorem dX0_firstOf_18 : decode cX0_firstOf 18 = .ok (.iload 4, 2) := by decide +kernel
theorem dX0_firstOf_20 : decode cX0_firstOf 20 = .ok (.iaload, 1) := by decide +kernel
theorem dX0_firstOf_21 : decode cX0_firstOf 21 = .ok (.istore 5, 2) := by decide +kernel
theorem dX0_firstOf_23 : decode cX0_firstOf 23 = .ok (.iload 4, 2) := by decide +kernel
theorem dX0_firstOf_25 : decode cX0_firstOf 25 = .ok (.aload_n 0, 1) := by decide +kernel
theorem dX0_firstOf_26 : decode cX0_firstOf 26 = .ok (.getfield 133, 3) := by decide +kernel
theorem dX0_firstOf_29 : decode cX0_firstOf 29 = .ok (.if_icmp .ge 7, 3) := by decide +kernel
theorem dX0_firstOf_32 : decode cX0_firstOf 32 = .ok (.iconst 1, 1) := by decide +kernel
theorem dX0_firstOf_33 : decode cX0_firstOf 33 = .ok (.goto 4, 3) := by decide +kernel
theorem dX0_firstOf_36 : decode cX0_firstOf 36 = .ok (.iconst 0, 1) := by decide +kernel
theorem dX0_firstOf_37 : decode cX0_firstOf 37 = .ok (.istore 6, 2) := by decide +kernel
theorem dX0_firstOf_39 : decode cX0_firstOf 39 = .ok (.lload_n 1, 1) := by decide +kernel
theorem dX0_firstOf_40 : decode cX0_firstOf 40 = .ok (.lstore 7, 2) := by decide +kernel
theorem dX0_firstOf_42 : decode cX0_firstOf 42 = .ok (.iconst 0, 1) := by decide +kernel
theorem dX0_firstOf_43 : decode cX0_firstOf 43 = .ok (.istore 9, 2) := by decide +kernel
theorem dX0_firstOf_45 : decode cX0_firstOf 45 = .ok (.iload 9, 2) := by decide +kernel
theorem dX0_firstOf_47 : decode cX0_firstOf 47 = .ok (.bipush 8, 2) := by decide +kernel
theorem dX0_firstOf_49 : decode cX0_firstOf 49 = .ok (.if_icmp .ge 78, 3) := by decide +kernel
theorem dX0_firstOf_52 : decode cX0_firstOf 52 = .ok (.lload 7, 2) := by decide +kernel
theorem dX0_firstOf_54 : decode cX0_firstOf 54 = .ok (.aload_n 0, 1) := by decide +kernel
theorem dX0_firstOf_55 : decode cX0_firstOf 55 = .ok (.iload 9, 2) := by decide +kernel
theorem dX0_firstOf_57 : decode cX0_firstOf 57 = .ok (.iload 5, 2) := by decide +kernel
theorem dX0_firstOf_59 : decode cX0_firstOf 59 = .ok (.iload 6, 2) := by decide +kernel
theorem dX0_firstOf_61 : decode cX0_firstOf 61 = .ok (.invokevirtual 143, 3) := by decide +kernel
theorem dX0_firstOf_64 : decode cX0_firstOf 64 = .ok (.land, 1) := by decide +kernel
theorem dX0_firstOf_65 : decode cX0_firstOf 65 = .ok (.lstore 10, 2) := by decide +kernel
theorem dX0_firstOf_67 : decode cX0_firstOf 67 = .ok (.lload 10, 2) := by decide +kernel
theorem dX0_firstOf_69 : decode cX0_firstOf 69 = .ok (.lconst 0, 1) := by decide +kernel
theorem dX0_firstOf_70 : decode cX0_firstOf 70 = .ok (.lcmp, 1) := by decide +kernel
theorem dX0_firstOf_71 : decode cX0_firstOf 71 = .ok (.ifCond .eq 50, 3) := by decide +kernel
theorem dX0_firstOf_74 : decode cX0_firstOf 74 = .ok (.aload_n 0, 1) := by decide +kernel
theorem dX0_firstOf_75 : decode cX0_firstOf 75 = .ok (.lload 7, 2) := by decide +kernel
theorem dX0_firstOf_77 : decode cX0_firstOf 77 = .ok (.iload 5, 2) := by decide +kernel
theorem dX0_firstOf_79 : decode cX0_firstOf 79 = .ok (.invokestatic 48, 3) := by decide +kernel
theorem dX0_firstOf_82 : decode cX0_firstOf 82 = .ok (.ldc2_w 55, 3) := by decide +kernel
theorem dX0_firstOf_85 : decode cX0_firstOf 85 = .ok (.lxor, 1) := by decide +kernel
theorem dX0_firstOf_86 : decode cX0_firstOf 86 = .ok (.land, 1) := by decide +kernel
theorem dX0_firstOf_87 : decode cX0_firstOf 87 = .ok (.lload 10, 2) := by decide +kernel
theorem dX0_firstOf_89 : decode cX0_firstOf 89 = .ok (.lor, 1) := by decide +kernel
theorem dX0_firstOf_90 : decode cX0_firstOf 90 = .ok (.iload_n 3, 1) := by decide +kernel
theorem dX0_firstOf_91 : decode cX0_firstOf 91 = .ok (.iload 4, 2) := by decide +kernel
theorem dX0_firstOf_93 : decode cX0_firstOf 93 = .ok (.iconst 1, 1) := by decide +kernel
theorem dX0_firstOf_94 : decode cX0_firstOf 94 = .ok (.iadd, 1) := by decide +kernel
theorem dX0_firstOf_95 : decode cX0_firstOf 95 = .ok (.invokevirtual 99, 3) := by decide +kernel
theorem dX0_firstOf_98 : decode cX0_firstOf 98 = .ok (.lstore 12, 2) := by decide +kernel
theorem dX0_firstOf_100 : decode cX0_firstOf 100 = .ok (.lload 12, 2) := by decide +kernel
theorem dX0_firstOf_102 : decode cX0_firstOf 102 = .ok (.lconst 0, 1) := by decide +kernel
theorem dX0_firstOf_103 : decode cX0_firstOf 103 = .ok (.lcmp, 1) := by decide +kernel
theorem dX0_firstOf_104 : decode cX0_firstOf 104 = .ok (.ifCond .eq 6, 3) := by decide +kernel
theorem dX0_firstOf_107 : decode cX0_firstOf 107 = .ok (.lload 12, 2) := by decide +kernel
theorem dX0_firstOf_109 : decode cX0_firstOf 109 = .ok (.lreturn, 1) := by decide +kernel
theorem dX0_firstOf_110 : decode cX0_firstOf 110 = .ok (.lload 7, 2) := by decide +kernel
theorem dX0_firstOf_112 : decode cX0_firstOf 112 = .ok (.lload 10, 2) := by decide +kernel
theorem dX0_firstOf_114 : decode cX0_firstOf 114 = .ok (.ldc2_w 55, 3) := by decide +kernel
theorem dX0_firstOf_117 : decode cX0_firstOf 117 = .ok (.lxor, 1) := by decide +kernel
theorem dX0_firstOf_118 : decode cX0_firstOf 118 = .ok (.land, 1) := by decide +kernel
theorem dX0_firstOf_119 : decode cX0_firstOf 119 = .ok (.lstore 7, 2) := by decide +kernel
theorem dX0_firstOf_121 : decode cX0_firstOf 121 = .ok (.iinc 9 1, 3) := by decide +kernel
theorem dX0_firstOf_124 : decode cX0_firstOf 124 = .ok (.goto (-79), 3) := by decide +kernel
theorem dX0_firstOf_127 : decode cX0_firstOf 127 = .ok (.lconst 0, 1) := by decide +kernel
theorem dX0_firstOf_128 : decode cX0_firstOf 128 = .ok (.lreturn, 1) := by decide +kernel
theorem dX0_placeAt_0 : decode cX0_placeAt 0 = .ok (.iload_n 1, 1) := by decide +kernel
theorem dX0_placeAt_1 : decode cX0_placeAt 1 = .ok (.ifCond .ne 13, 3) := by decide +kernel
theorem dX0_placeAt_4 : decode cX0_placeAt 4 = .ok (.aload_n 0, 1) := by decide +kernel
theorem dX0_placeAt_5 : decode cX0_placeAt 5 = .ok (.getfield 92, 3) := by decide +kernel
theorem dX0_placeAt_8 : decode cX0_placeAt 8 = .ok (.iload_n 2, 1) := by decide +kernel
theorem dX0_placeAt_9 : decode cX0_placeAt 9 = .ok (.invokestatic 48, 3) := by decide +kernel
theorem dX0_placeAt_12 : decode cX0_placeAt 12 = .ok (.land, 1) := by decide +kernel
theorem dX0_placeAt_13 : decode cX0_placeAt 13 = .ok (.lreturn, 1) := by decide +kernel
theorem dX0_placeAt_14 : decode cX0_placeAt 14 = .ok (.iload_n 3, 1) := by decide +kernel
theorem dX0_placeAt_15 : decode cX0_placeAt 15 = .ok (.ifCond .eq 12, 3) := by decide +kernel
theorem dX0_placeAt_18 : decode cX0_placeAt 18 = .ok (.iload_n 2, 1) := by decide +kernel
theorem dX0_placeAt_19 : decode cX0_placeAt 19 = .ok (.bipush 6, 2) := by decide +kernel
theorem dX0_placeAt_21 : decode cX0_placeAt 21 = .ok (.iload_n 1, 1) := by decide +kernel
theorem dX0_placeAt_22 : decode cX0_placeAt 22 = .ok (.isub, 1) := by decide +kernel
theorem dX0_placeAt_23 : decode cX0_placeAt 23 = .ok (.invokestatic 52, 3) := by decide +kernel
theorem dX0_placeAt_26 : decode cX0_placeAt 26 = .ok (.lreturn, 1) := by decide +kernel
theorem dX0_placeAt_27 : decode cX0_placeAt 27 = .ok (.iload_n 1, 1) := by decide +kernel
theorem dX0_placeAt_28 : decode cX0_placeAt 28 = .ok (.iconst 1, 1) := by decide +kernel
theorem dX0_placeAt_29 : decode cX0_placeAt 29 = .ok (.if_icmp .ne 10, 3) := by decide +kernel
theorem dX0_placeAt_32 : decode cX0_placeAt 32 = .ok (.iload_n 2, 1) := by decide +kernel
theorem dX0_placeAt_33 : decode cX0_placeAt 33 = .ok (.invokestatic 127, 3) := by decide +kernel
theorem dX0_placeAt_36 : decode cX0_placeAt 36 = .ok (.goto 11, 3) := by decide +kernel
theorem dX0_placeAt_39 : decode cX0_placeAt 39 = .ok (.iload_n 2, 1) := by decide +kernel
theorem dX0_placeAt_40 : decode cX0_placeAt 40 = .ok (.bipush 7, 2) := by decide +kernel
theorem dX0_placeAt_42 : decode cX0_placeAt 42 = .ok (.iload_n 1, 1) := by decide +kernel
theorem dX0_placeAt_43 : decode cX0_placeAt 43 = .ok (.isub, 1) := by decide +kernel
theorem dX0_placeAt_44 : decode cX0_placeAt 44 = .ok (.invokestatic 52, 3) := by decide +kernel
theorem dX0_placeAt_47 : decode cX0_placeAt 47 = .ok (.lreturn, 1) := by decide +kernel
theorem dX0_narrow_0 : decode cX0_narrow 0 = .ok (.lload_n 1, 1) := by decide +kernel
theorem dX0_narrow_1 : decode cX0_narrow 1 = .ok (.lstore 4, 2) := by decide +kernel
theorem dX0_narrow_3 : decode cX0_narrow 3 = .ok (.iconst 0, 1) := by decide +kernel
theorem dX0_narrow_4 : decode cX0_narrow 4 = .ok (.istore 6, 2) := by decide +kernel
theorem dX0_narrow_6 : decode cX0_narrow 6 = .ok (.iload 6, 2) := by decide +kernel
theorem dX0_narrow_8 : decode cX0_narrow 8 = .ok (.bipush 64, 2) := by decide +kernel
theorem dX0_narrow_10 : decode cX0_narrow 10 = .ok (.if_icmp .ge 111, 3) := by decide +kernel
theorem dX0_narrow_13 : decode cX0_narrow 13 = .ok (.lload 4, 2) := by decide +kernel
theorem dX0_narrow_15 : decode cX0_narrow 15 = .ok (.lstore 7, 2) := by decide +kernel
theorem dX0_narrow_17 : decode cX0_narrow 17 = .ok (.iconst 0, 1) := by decide +kernel
theorem dX0_narrow_18 : decode cX0_narrow 18 = .ok (.istore 9, 2) := by decide +kernel
theorem dX0_narrow_20 : decode cX0_narrow 20 = .ok (.iload 9, 2) := by decide +kernel
theorem dX0_narrow_22 : decode cX0_narrow 22 = .ok (.aload_n 0, 1) := by decide +kernel
theorem dX0_narrow_23 : decode cX0_narrow 23 = .ok (.getfield 34, 3) := by decide +kernel
theorem dX0_narrow_26 : decode cX0_narrow 26 = .ok (.if_icmp .ge 30, 3) := by decide +kernel
theorem dX0_narrow_29 : decode cX0_narrow 29 = .ok (.lload 4, 2) := by decide +kernel
theorem dX0_narrow_31 : decode cX0_narrow 31 = .ok (.lconst 0, 1) := by decide +kernel
theorem dX0_narrow_32 : decode cX0_narrow 32 = .ok (.lcmp, 1) := by decide +kernel
theorem dX0_narrow_33 : decode cX0_narrow 33 = .ok (.ifCond .eq 23, 3) := by decide +kernel
theorem dX0_narrow_36 : decode cX0_narrow 36 = .ok (.lload 4, 2) := by decide +kernel
theorem dX0_narrow_38 : decode cX0_narrow 38 = .ok (.aload_n 0, 1) := by decide +kernel
theorem dX0_narrow_39 : decode cX0_narrow 39 = .ok (.getfield 9, 3) := by decide +kernel
theorem dX0_narrow_42 : decode cX0_narrow 42 = .ok (.iload 9, 2) := by decide +kernel
theorem dX0_narrow_44 : decode cX0_narrow 44 = .ok (.laload, 1) := by decide +kernel
theorem dX0_narrow_45 : decode cX0_narrow 45 = .ok (.invokestatic 147, 3) := by decide +kernel
theorem dX0_narrow_48 : decode cX0_narrow 48 = .ok (.lstore 4, 2) := by decide +kernel
theorem dX0_narrow_50 : decode cX0_narrow 50 = .ok (.iinc 9 1, 3) := by decide +kernel
theorem dX0_narrow_53 : decode cX0_narrow 53 = .ok (.goto (-33), 3) := by decide +kernel
theorem dX0_narrow_56 : decode cX0_narrow 56 = .ok (.iconst 0, 1) := by decide +kernel
theorem dX0_narrow_57 : decode cX0_narrow 57 = .ok (.istore 9, 2) := by decide +kernel
theorem dX0_narrow_59 : decode cX0_narrow 59 = .ok (.iload 9, 2) := by decide +kernel
theorem dX0_narrow_61 : decode cX0_narrow 61 = .ok (.aload_n 0, 1) := by decide +kernel
theorem dX0_narrow_62 : decode cX0_narrow 62 = .ok (.getfield 65, 3) := by decide +kernel
theorem dX0_narrow_65 : decode cX0_narrow 65 = .ok (.if_icmp .ge 39, 3) := by decide +kernel
theorem dX0_narrow_68 : decode cX0_narrow 68 = .ok (.lload 4, 2) := by decide +kernel
theorem dX0_narrow_70 : decode cX0_narrow 70 = .ok (.lconst 0, 1) := by decide +kernel
theorem dX0_narrow_71 : decode cX0_narrow 71 = .ok (.lcmp, 1) := by decide +kernel
theorem dX0_narrow_72 : decode cX0_narrow 72 = .ok (.ifCond .eq 32, 3) := by decide +kernel
theorem dX0_narrow_75 : decode cX0_narrow 75 = .ok (.iload_n 3, 1) := by decide +kernel
theorem dX0_narrow_76 : decode cX0_narrow 76 = .ok (.iconst 1, 1) := by decide +kernel
theorem dX0_narrow_77 : decode cX0_narrow 77 = .ok (.iload 9, 2) := by decide +kernel
theorem dX0_narrow_79 : decode cX0_narrow 79 = .ok (.ishl, 1) := by decide +kernel
theorem dX0_narrow_80 : decode cX0_narrow 80 = .ok (.iand, 1) := by decide +kernel
theorem dX0_narrow_81 : decode cX0_narrow 81 = .ok (.ifCond .eq 17, 3) := by decide +kernel
theorem dX0_narrow_84 : decode cX0_narrow 84 = .ok (.lload 4, 2) := by decide +kernel
theorem dX0_narrow_86 : decode cX0_narrow 86 = .ok (.aload_n 0, 1) := by decide +kernel
theorem dX0_narrow_87 : decode cX0_narrow 87 = .ok (.getfield 13, 3) := by decide +kernel
theorem dX0_narrow_90 : decode cX0_narrow 90 = .ok (.iload 9, 2) := by decide +kernel
theorem dX0_narrow_92 : decode cX0_narrow 92 = .ok (.laload, 1) := by decide +kernel
theorem dX0_narrow_93 : decode cX0_narrow 93 = .ok (.invokestatic 147, 3) := by decide +kernel
theorem dX0_narrow_96 : decode cX0_narrow 96 = .ok (.lstore 4, 2) := by decide +kernel
theorem dX0_narrow_98 : decode cX0_narrow 98 = .ok (.iinc 9 1, 3) := by decide +kernel
theorem dX0_narrow_101 : decode cX0_narrow 101 = .ok (.goto (-42), 3) := by decide +kernel
theorem dX0_narrow_104 : decode cX0_narrow 104 = .ok (.lload 4, 2) := by decide +kernel
theorem dX0_narrow_106 : decode cX0_narrow 106 = .ok (.lload 7, 2) := by decide +kernel
theorem dX0_narrow_108 : decode cX0_narrow 108 = .ok (.lcmp, 1) := by decide +kernel
theorem dX0_narrow_109 : decode cX0_narrow 109 = .ok (.ifCond .ne 6, 3) := by decide +kernel
theorem dX0_narrow_112 : decode cX0_narrow 112 = .ok (.lload 4, 2) := by decide +kernel
theorem dX0_narrow_114 : decode cX0_narrow 114 = .ok (.lreturn, 1) := by decide +kernel
theorem dX0_narrow_115 : decode cX0_narrow 115 = .ok (.iinc 6 1, 3) := by decide +kernel
theorem dX0_narrow_118 : decode cX0_narrow 118 = .ok (.goto (-112), 3) := by decide +kernel
theorem dX0_narrow_121 : decode cX0_narrow 121 = .ok (.lload 4, 2) := by decide +kernel
theorem dX0_narrow_123 : decode cX0_narrow 123 = .ok (.lreturn, 1) := by decide +kernel
theorem dX0_narrowByRule_0 : decode cX0_narrowByRule 0 = .ok (.lload_n 0, 1) := by decide +kernel
theorem dX0_narrowByRule_1 : decode cX0_narrowByRule 1 = .ok (.lload_n 2, 1) := by decide +kernel
theorem dX0_narrowByRule_2 : decode cX0_narrowByRule 2 = .ok (.land, 1) := by decide +kernel
theorem dX0_narrowByRule_3 : decode cX0_narrowByRule 3 = .ok (.lstore 4, 2) := by decide +kernel
theorem dX0_narrowByRule_5 : decode cX0_narrowByRule 5 = .ok (.lload 4, 2) := by decide +kernel
theorem dX0_narrowByRule_7 : decode cX0_narrowByRule 7 = .ok (.lconst 0, 1) := by decide +kernel
theorem dX0_narrowByRule_8 : decode cX0_narrowByRule 8 = .ok (.lcmp, 1) := by decide +kernel
theorem dX0_narrowByRule_9 : decode cX0_narrowByRule 9 = .ok (.ifCond .ne 5, 3) := by decide +kernel
theorem dX0_narrowByRule_12 : decode cX0_narrowByRule 12 = .ok (.lconst 0, 1) := by decide +kernel
theorem dX0_narrowByRule_13 : decode cX0_narrowByRule 13 = .ok (.lreturn, 1) := by decide +kernel
theorem dX0_narrowByRule_14 : decode cX0_narrowByRule 14 = .ok (.lload 4, 2) := by decide +kernel
theorem dX0_narrowByRule_16 : decode cX0_narrowByRule 16 = .ok (.lload 4, 2) := by decide +kernel
theorem dX0_narrowByRule_18 : decode cX0_narrowByRule 18 = .ok (.lneg, 1) := by decide +kernel
theorem dX0_narrowByRule_19 : decode cX0_narrowByRule 19 = .ok (.land, 1) := by decide +kernel
theorem dX0_narrowByRule_20 : decode cX0_narrowByRule 20 = .ok (.lconst 1, 1) := by decide +kernel
theorem dX0_narrowByRule_21 : decode cX0_narrowByRule 21 = .ok (.lsub, 1) := by decide +kernel
theorem dX0_narrowByRule_22 : decode cX0_narrowByRule 22 = .ok (.invokestatic 151, 3) := by decide +kernel
theorem dX0_narrowByRule_25 : decode cX0_narrowByRule 25 = .ok (.istore 6, 2) := by decide +kernel
theorem dX0_narrowByRule_27 : decode cX0_narrowByRule 27 = .ok (.iload 6, 2) := by decide +kernel
theorem dX0_narrowByRule_29 : decode cX0_narrowByRule 29 = .ok (.bipush 8, 2) := by decide +kernel
theorem dX0_narrowByRule_31 : decode cX0_narrowByRule 31 = .ok (.idiv, 1) := by decide +kernel
theorem dX0_narrowByRule_32 : decode cX0_narrowByRule 32 = .ok (.invokestatic 48, 3) := by decide +kernel
theorem dX0_narrowByRule_35 : decode cX0_narrowByRule 35 = .ok (.lstore 7, 2) := by decide +kernel
theorem dX0_narrowByRule_37 : decode cX0_narrowByRule 37 = .ok (.lload 4, 2) := by decide +kernel
theorem dX0_narrowByRule_39 : decode cX0_narrowByRule 39 = .ok (.lload 7, 2) := by decide +kernel
theorem dX0_narrowByRule_41 : decode cX0_narrowByRule 41 = .ok (.ldc2_w 55, 3) := by decide +kernel
theorem dX0_narrowByRule_44 : decode cX0_narrowByRule 44 = .ok (.lxor, 1) := by decide +kernel
theorem dX0_narrowByRule_45 : decode cX0_narrowByRule 45 = .ok (.land, 1) := by decide +kernel
theorem dX0_narrowByRule_46 : decode cX0_narrowByRule 46 = .ok (.lconst 0, 1) := by decide +kernel
theorem dX0_narrowByRule_47 : decode cX0_narrowByRule 47 = .ok (.lcmp, 1) := by decide +kernel
theorem dX0_narrowByRule_48 : decode cX0_narrowByRule 48 = .ok (.ifCond .ne 7, 3) := by decide +kernel
theorem dX0_narrowByRule_51 : decode cX0_narrowByRule 51 = .ok (.iconst 1, 1) := by decide +kernel
theorem dX0_narrowByRule_52 : decode cX0_narrowByRule 52 = .ok (.goto 4, 3) := by decide +kernel
theorem dX0_narrowByRule_55 : decode cX0_narrowByRule 55 = .ok (.iconst 0, 1) := by decide +kernel
theorem dX0_narrowByRule_56 : decode cX0_narrowByRule 56 = .ok (.istore 9, 2) := by decide +kernel
theorem dX0_narrowByRule_58 : decode cX0_narrowByRule 58 = .ok (.iload 9, 2) := by decide +kernel
theorem dX0_narrowByRule_60 : decode cX0_narrowByRule 60 = .ok (.ifCond .eq 17, 3) := by decide +kernel
theorem dX0_narrowByRule_63 : decode cX0_narrowByRule 63 = .ok (.lload_n 0, 1) := by decide +kernel
theorem dX0_narrowByRule_64 : decode cX0_narrowByRule 64 = .ok (.lload 7, 2) := by decide +kernel
theorem dX0_narrowByRule_66 : decode cX0_narrowByRule 66 = .ok (.ldc2_w 55, 3) := by decide +kernel
theorem dX0_narrowByRule_69 : decode cX0_narrowByRule 69 = .ok (.lxor, 1) := by decide +kernel
theorem dX0_narrowByRule_70 : decode cX0_narrowByRule 70 = .ok (.land, 1) := by decide +kernel
theorem dX0_narrowByRule_71 : decode cX0_narrowByRule 71 = .ok (.lload 4, 2) := by decide +kernel
theorem dX0_narrowByRule_73 : decode cX0_narrowByRule 73 = .ok (.lor, 1) := by decide +kernel
theorem dX0_narrowByRule_74 : decode cX0_narrowByRule 74 = .ok (.goto 4, 3) := by decide +kernel
theorem dX0_narrowByRule_77 : decode cX0_narrowByRule 77 = .ok (.lload_n 0, 1) := by decide +kernel
theorem dX0_narrowByRule_78 : decode cX0_narrowByRule 78 = .ok (.lreturn, 1) := by decide +kernel
theorem dJ6_bitCount_0 : decode cJ6_bitCount 0 = .ok (.iload_n 0, 1) := by decide +kernel
theorem dJ6_bitCount_1 : decode cJ6_bitCount 1 = .ok (.iload_n 0, 1) := by decide +kernel
theorem dJ6_bitCount_2 : decode cJ6_bitCount 2 = .ok (.iconst 1, 1) := by decide +kernel
theorem dJ6_bitCount_3 : decode cJ6_bitCount 3 = .ok (.iushr, 1) := by decide +kernel
theorem dJ6_bitCount_4 : decode cJ6_bitCount 4 = .ok (.ldc_w 265, 3) := by decide +kernel
theorem dJ6_bitCount_7 : decode cJ6_bitCount 7 = .ok (.iand, 1) := by decide +kernel
theorem dJ6_bitCount_8 : decode cJ6_bitCount 8 = .ok (.isub, 1) := by decide +kernel
theorem dJ6_bitCount_9 : decode cJ6_bitCount 9 = .ok (.istore_n 0, 1) := by decide +kernel
theorem dJ6_bitCount_10 : decode cJ6_bitCount 10 = .ok (.iload_n 0, 1) := by decide +kernel
theorem dJ6_bitCount_11 : decode cJ6_bitCount 11 = .ok (.ldc_w 266, 3) := by decide +kernel
theorem dJ6_bitCount_14 : decode cJ6_bitCount 14 = .ok (.iand, 1) := by decide +kernel
theorem dJ6_bitCount_15 : decode cJ6_bitCount 15 = .ok (.iload_n 0, 1) := by decide +kernel
theorem dJ6_bitCount_16 : decode cJ6_bitCount 16 = .ok (.iconst 2, 1) := by decide +kernel
theorem dJ6_bitCount_17 : decode cJ6_bitCount 17 = .ok (.iushr, 1) := by decide +kernel
theorem dJ6_bitCount_18 : decode cJ6_bitCount 18 = .ok (.ldc_w 266, 3) := by decide +kernel
theorem dJ6_bitCount_21 : decode cJ6_bitCount 21 = .ok (.iand, 1) := by decide +kernel
theorem dJ6_bitCount_22 : decode cJ6_bitCount 22 = .ok (.iadd, 1) := by decide +kernel
theorem dJ6_bitCount_23 : decode cJ6_bitCount 23 = .ok (.istore_n 0, 1) := by decide +kernel
theorem dJ6_bitCount_24 : decode cJ6_bitCount 24 = .ok (.iload_n 0, 1) := by decide +kernel
theorem dJ6_bitCount_25 : decode cJ6_bitCount 25 = .ok (.iload_n 0, 1) := by decide +kernel
theorem dJ6_bitCount_26 : decode cJ6_bitCount 26 = .ok (.iconst 4, 1) := by decide +kernel
theorem dJ6_bitCount_27 : decode cJ6_bitCount 27 = .ok (.iushr, 1) := by decide +kernel
theorem dJ6_bitCount_28 : decode cJ6_bitCount 28 = .ok (.iadd, 1) := by decide +kernel
theorem dJ6_bitCount_29 : decode cJ6_bitCount 29 = .ok (.ldc_w 267, 3) := by decide +kernel
theorem dJ6_bitCount_32 : decode cJ6_bitCount 32 = .ok (.iand, 1) := by decide +kernel
theorem dJ6_bitCount_33 : decode cJ6_bitCount 33 = .ok (.istore_n 0, 1) := by decide +kernel
theorem dJ6_bitCount_34 : decode cJ6_bitCount 34 = .ok (.iload_n 0, 1) := by decide +kernel
theorem dJ6_bitCount_35 : decode cJ6_bitCount 35 = .ok (.iload_n 0, 1) := by decide +kernel
theorem dJ6_bitCount_36 : decode cJ6_bitCount 36 = .ok (.bipush 8, 2) := by decide +kernel
theorem dJ6_bitCount_38 : decode cJ6_bitCount 38 = .ok (.iushr, 1) := by decide +kernel
theorem dJ6_bitCount_39 : decode cJ6_bitCount 39 = .ok (.iadd, 1) := by decide +kernel
theorem dJ6_bitCount_40 : decode cJ6_bitCount 40 = .ok (.istore_n 0, 1) := by decide +kernel
theorem dJ6_bitCount_41 : decode cJ6_bitCount 41 = .ok (.iload_n 0, 1) := by decide +kernel
theorem dJ6_bitCount_42 : decode cJ6_bitCount 42 = .ok (.iload_n 0, 1) := by decide +kernel
theorem dJ6_bitCount_43 : decode cJ6_bitCount 43 = .ok (.bipush 16, 2) := by decide +kernel
theorem dJ6_bitCount_45 : decode cJ6_bitCount 45 = .ok (.iushr, 1) := by decide +kernel
theorem dJ6_bitCount_46 : decode cJ6_bitCount 46 = .ok (.iadd, 1) := by decide +kernel
theorem dJ6_bitCount_47 : decode cJ6_bitCount 47 = .ok (.istore_n 0, 1) := by decide +kernel
theorem dJ6_bitCount_48 : decode cJ6_bitCount 48 = .ok (.iload_n 0, 1) := by decide +kernel
theorem dJ6_bitCount_49 : decode cJ6_bitCount 49 = .ok (.bipush 63, 2) := by decide +kernel
theorem dJ6_bitCount_51 : decode cJ6_bitCount 51 = .ok (.iand, 1) := by decide +kernel
theorem dJ6_bitCount_52 : decode cJ6_bitCount 52 = .ok (.ireturn, 1) := by decide +kernel
theorem dJ13_bitCount_0 : decode cJ13_bitCount 0 = .ok (.lload_n 0, 1) := by decide +kernel
theorem dJ13_bitCount_1 : decode cJ13_bitCount 1 = .ok (.lload_n 0, 1) := by decide +kernel
theorem dJ13_bitCount_2 : decode cJ13_bitCount 2 = .ok (.iconst 1, 1) := by decide +kernel
theorem dJ13_bitCount_3 : decode cJ13_bitCount 3 = .ok (.lushr, 1) := by decide +kernel
theorem dJ13_bitCount_4 : decode cJ13_bitCount 4 = .ok (.ldc2_w 314, 3) := by decide +kernel
theorem dJ13_bitCount_7 : decode cJ13_bitCount 7 = .ok (.land, 1) := by decide +kernel
theorem dJ13_bitCount_8 : decode cJ13_bitCount 8 = .ok (.lsub, 1) := by decide +kernel
theorem dJ13_bitCount_9 : decode cJ13_bitCount 9 = .ok (.lstore_n 0, 1) := by decide +kernel
theorem dJ13_bitCount_10 : decode cJ13_bitCount 10 = .ok (.lload_n 0, 1) := by decide +kernel
theorem dJ13_bitCount_11 : decode cJ13_bitCount 11 = .ok (.ldc2_w 316, 3) := by decide +kernel
theorem dJ13_bitCount_14 : decode cJ13_bitCount 14 = .ok (.land, 1) := by decide +kernel
theorem dJ13_bitCount_15 : decode cJ13_bitCount 15 = .ok (.lload_n 0, 1) := by decide +kernel
theorem dJ13_bitCount_16 : decode cJ13_bitCount 16 = .ok (.iconst 2, 1) := by decide +kernel
theorem dJ13_bitCount_17 : decode cJ13_bitCount 17 = .ok (.lushr, 1) := by decide +kernel
theorem dJ13_bitCount_18 : decode cJ13_bitCount 18 = .ok (.ldc2_w 316, 3) := by decide +kernel
theorem dJ13_bitCount_21 : decode cJ13_bitCount 21 = .ok (.land, 1) := by decide +kernel
theorem dJ13_bitCount_22 : decode cJ13_bitCount 22 = .ok (.ladd, 1) := by decide +kernel
theorem dJ13_bitCount_23 : decode cJ13_bitCount 23 = .ok (.lstore_n 0, 1) := by decide +kernel
theorem dJ13_bitCount_24 : decode cJ13_bitCount 24 = .ok (.lload_n 0, 1) := by decide +kernel
theorem dJ13_bitCount_25 : decode cJ13_bitCount 25 = .ok (.lload_n 0, 1) := by decide +kernel
theorem dJ13_bitCount_26 : decode cJ13_bitCount 26 = .ok (.iconst 4, 1) := by decide +kernel
theorem dJ13_bitCount_27 : decode cJ13_bitCount 27 = .ok (.lushr, 1) := by decide +kernel
theorem dJ13_bitCount_28 : decode cJ13_bitCount 28 = .ok (.ladd, 1) := by decide +kernel
theorem dJ13_bitCount_29 : decode cJ13_bitCount 29 = .ok (.ldc2_w 318, 3) := by decide +kernel
theorem dJ13_bitCount_32 : decode cJ13_bitCount 32 = .ok (.land, 1) := by decide +kernel
theorem dJ13_bitCount_33 : decode cJ13_bitCount 33 = .ok (.lstore_n 0, 1) := by decide +kernel
theorem dJ13_bitCount_34 : decode cJ13_bitCount 34 = .ok (.lload_n 0, 1) := by decide +kernel
theorem dJ13_bitCount_35 : decode cJ13_bitCount 35 = .ok (.lload_n 0, 1) := by decide +kernel
theorem dJ13_bitCount_36 : decode cJ13_bitCount 36 = .ok (.bipush 8, 2) := by decide +kernel
theorem dJ13_bitCount_38 : decode cJ13_bitCount 38 = .ok (.lushr, 1) := by decide +kernel
theorem dJ13_bitCount_39 : decode cJ13_bitCount 39 = .ok (.ladd, 1) := by decide +kernel
theorem dJ13_bitCount_40 : decode cJ13_bitCount 40 = .ok (.lstore_n 0, 1) := by decide +kernel
theorem dJ13_bitCount_41 : decode cJ13_bitCount 41 = .ok (.lload_n 0, 1) := by decide +kernel
theorem dJ13_bitCount_42 : decode cJ13_bitCount 42 = .ok (.lload_n 0, 1) := by decide +kernel
theorem dJ13_bitCount_43 : decode cJ13_bitCount 43 = .ok (.bipush 16, 2) := by decide +kernel
theorem dJ13_bitCount_45 : decode cJ13_bitCount 45 = .ok (.lushr, 1) := by decide +kernel
theorem dJ13_bitCount_46 : decode cJ13_bitCount 46 = .ok (.ladd, 1) := by decide +kernel
theorem dJ13_bitCount_47 : decode cJ13_bitCount 47 = .ok (.lstore_n 0, 1) := by decide +kernel
theorem dJ13_bitCount_48 : decode cJ13_bitCount 48 = .ok (.lload_n 0, 1) := by decide +kernel
theorem dJ13_bitCount_49 : decode cJ13_bitCount 49 = .ok (.lload_n 0, 1) := by decide +kernel
theorem dJ13_bitCount_50 : decode cJ13_bitCount 50 = .ok (.bipush 32, 2) := by decide +kernel
theorem dJ13_bitCount_52 : decode cJ13_bitCount 52 = .ok (.lushr, 1) := by decide +kernel
theorem dJ13_bitCount_53 : decode cJ13_bitCount 53 = .ok (.ladd, 1) := by decide +kernel
theorem dJ13_bitCount_54 : decode cJ13_bitCount 54 = .ok (.lstore_n 0, 1) := by decide +kernel
theorem dJ13_bitCount_55 : decode cJ13_bitCount 55 = .ok (.lload_n 0, 1) := by decide +kernel
theorem dJ13_bitCount_56 : decode cJ13_bitCount 56 = .ok (.l2i, 1) := by decide +kernel
theorem dJ13_bitCount_57 : decode cJ13_bitCount 57 = .ok (.bipush 127, 2) := by decide +kernel
theorem dJ13_bitCount_59 : decode cJ13_bitCount 59 = .ok (.iand, 1) := by decide +kernel
theorem dJ13_bitCount_60 : decode cJ13_bitCount 60 = .ok (.ireturn, 1) := by decide +kernel
