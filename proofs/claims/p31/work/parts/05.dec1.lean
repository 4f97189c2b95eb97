theorem dX1_init_0 : decode cX1_init 0 = .ok (.aload_n 0, 1) := by decide +kernel
theorem dX1_init_1 : decode cX1_init 1 = .ok (.invokespecial 1, 3) := by decide +kernel
theorem dX1_init_4 : decode cX1_init 4 = .ok (.aload_n 0, 1) := by decide +kernel
theorem dX1_init_5 : decode cX1_init 5 = .ok (.bipush 6, 2) := by decide +kernel
theorem dX1_init_7 : decode cX1_init 7 = .ok (.anewarray 9, 3) := by decide +kernel
theorem dX1_init_10 : decode cX1_init 10 = .ok (.putfield 11, 3) := by decide +kernel
theorem dX1_init_13 : decode cX1_init 13 = .ok (.iconst 0, 1) := by decide +kernel
theorem dX1_init_14 : decode cX1_init 14 = .ok (.istore_n 1, 1) := by decide +kernel
theorem dX1_init_15 : decode cX1_init 15 = .ok (.iload_n 1, 1) := by decide +kernel
theorem dX1_init_16 : decode cX1_init 16 = .ok (.aload_n 0, 1) := by decide +kernel
theorem dX1_init_17 : decode cX1_init 17 = .ok (.getfield 11, 3) := by decide +kernel
theorem dX1_init_20 : decode cX1_init 20 = .ok (.arraylength, 1) := by decide +kernel
theorem dX1_init_21 : decode cX1_init 21 = .ok (.if_icmp .ge 22, 3) := by decide +kernel
theorem dX1_init_24 : decode cX1_init 24 = .ok (.aload_n 0, 1) := by decide +kernel
theorem dX1_init_25 : decode cX1_init 25 = .ok (.getfield 11, 3) := by decide +kernel
theorem dX1_init_28 : decode cX1_init 28 = .ok (.iload_n 1, 1) := by decide +kernel
theorem dX1_init_29 : decode cX1_init 29 = .ok (.new 9, 3) := by decide +kernel
theorem dX1_init_32 : decode cX1_init 32 = .ok (.dup, 1) := by decide +kernel
theorem dX1_init_33 : decode cX1_init 33 = .ok (.invokespecial 15, 3) := by decide +kernel
theorem dX1_init_36 : decode cX1_init 36 = .ok (.aastore, 1) := by decide +kernel
theorem dX1_init_37 : decode cX1_init 37 = .ok (.iinc 1 1, 3) := by decide +kernel
theorem dX1_init_40 : decode cX1_init 40 = .ok (.goto (-25), 3) := by decide +kernel
theorem dX1_init_43 : decode cX1_init 43 = .ok (.return_, 1) := by decide +kernel
theorem dX1_size_0 : decode cX1_size 0 = .ok (.aload_n 0, 1) := by decide +kernel
theorem dX1_size_1 : decode cX1_size 1 = .ok (.getfield 16, 3) := by decide +kernel
theorem dX1_size_4 : decode cX1_size 4 = .ok (.ireturn, 1) := by decide +kernel
theorem dX1_push_0 : decode cX1_push 0 = .ok (.aload_n 0, 1) := by decide +kernel
theorem dX1_push_1 : decode cX1_push 1 = .ok (.getfield 16, 3) := by decide +kernel
theorem dX1_push_4 : decode cX1_push 4 = .ok (.aload_n 0, 1) := by decide +kernel
theorem dX1_push_5 : decode cX1_push 5 = .ok (.getfield 11, 3) := by decide +kernel
theorem dX1_push_8 : decode cX1_push 8 = .ok (.arraylength, 1) := by decide +kernel
theorem dX1_push_9 : decode cX1_push 9 = .ok (.if_icmp .lt 7, 3) := by decide +kernel
theorem dX1_push_12 : decode cX1_push 12 = .ok (.aload_n 0, 1) := by decide +kernel
theorem dX1_push_13 : decode cX1_push 13 = .ok (.invokevirtual 20, 3) := by decide +kernel
theorem dX1_push_16 : decode cX1_push 16 = .ok (.aload_n 0, 1) := by decide +kernel
theorem dX1_push_17 : decode cX1_push 17 = .ok (.getfield 16, 3) := by decide +kernel
theorem dX1_push_20 : decode cX1_push 20 = .ok (.ifCond .lt 38, 3) := by decide +kernel
theorem dX1_push_23 : decode cX1_push 23 = .ok (.aload_n 0, 1) := by decide +kernel
theorem dX1_push_24 : decode cX1_push 24 = .ok (.getfield 16, 3) := by decide +kernel
theorem dX1_push_27 : decode cX1_push 27 = .ok (.aload_n 0, 1) := by decide +kernel
theorem dX1_push_28 : decode cX1_push 28 = .ok (.getfield 11, 3) := by decide +kernel
theorem dX1_push_31 : decode cX1_push 31 = .ok (.arraylength, 1) := by decide +kernel
theorem dX1_push_32 : decode cX1_push 32 = .ok (.if_icmp .ge 26, 3) := by decide +kernel
theorem dX1_push_35 : decode cX1_push 35 = .ok (.aload_n 0, 1) := by decide +kernel
theorem dX1_push_36 : decode cX1_push 36 = .ok (.getfield 11, 3) := by decide +kernel
theorem dX1_push_39 : decode cX1_push 39 = .ok (.aload_n 0, 1) := by decide +kernel
theorem dX1_push_40 : decode cX1_push 40 = .ok (.getfield 16, 3) := by decide +kernel
theorem dX1_push_43 : decode cX1_push 43 = .ok (.aaload, 1) := by decide +kernel
theorem dX1_push_44 : decode cX1_push 44 = .ok (.aload_n 1, 1) := by decide +kernel
theorem dX1_push_45 : decode cX1_push 45 = .ok (.invokevirtual 23, 3) := by decide +kernel
theorem dX1_push_48 : decode cX1_push 48 = .ok (.aload_n 0, 1) := by decide +kernel
theorem dX1_push_49 : decode cX1_push 49 = .ok (.dup, 1) := by decide +kernel
theorem dX1_push_50 : decode cX1_push 50 = .ok (.getfield 16, 3) := by decide +kernel
theorem dX1_push_53 : decode cX1_push 53 = .ok (.iconst 1, 1) := by decide +kernel
theorem dX1_push_54 : decode cX1_push 54 = .ok (.iadd, 1) := by decide +kernel
theorem dX1_push_55 : decode cX1_push 55 = .ok (.putfield 16, 3) := by decide +kernel
theorem dX1_push_58 : decode cX1_push 58 = .ok (.return_, 1) := by decide +kernel
theorem dX1_dropOldest_0 : decode cX1_dropOldest 0 = .ok (.iconst 1, 1) := by decide +kernel
theorem dX1_dropOldest_1 : decode cX1_dropOldest 1 = .ok (.istore_n 1, 1) := by decide +kernel
theorem dX1_dropOldest_2 : decode cX1_dropOldest 2 = .ok (.iload_n 1, 1) := by decide +kernel
theorem dX1_dropOldest_3 : decode cX1_dropOldest 3 = .ok (.aload_n 0, 1) := by decide +kernel
theorem dX1_dropOldest_4 : decode cX1_dropOldest 4 = .ok (.getfield 11, 3) := by decide +kernel
theorem dX1_dropOldest_7 : decode cX1_dropOldest 7 = .ok (.arraylength, 1) := by decide +kernel
theorem dX1_dropOldest_8 : decode cX1_dropOldest 8 = .ok (.if_icmp .ge 39, 3) := by decide +kernel
theorem dX1_dropOldest_11 : decode cX1_dropOldest 11 = .ok (.aload_n 0, 1) := by decide +kernel
theorem dX1_dropOldest_12 : decode cX1_dropOldest 12 = .ok (.getfield 11, 3) := by decide +kernel
theorem dX1_dropOldest_15 : decode cX1_dropOldest 15 = .ok (.iload_n 1, 1) := by decide +kernel
theorem dX1_dropOldest_16 : decode cX1_dropOldest 16 = .ok (.iconst 1, 1) := by decide +kernel
theorem dX1_dropOldest_17 : decode cX1_dropOldest 17 = .ok (.isub, 1) := by decide +kernel
theorem dX1_dropOldest_18 : decode cX1_dropOldest 18 = .ok (.aaload, 1) := by decide +kernel
theorem dX1_dropOldest_19 : decode cX1_dropOldest 19 = .ok (.astore_n 2, 1) := by decide +kernel
theorem dX1_dropOldest_20 : decode cX1_dropOldest 20 = .ok (.aload_n 0, 1) := by decide +kernel
theorem dX1_dropOldest_21 : decode cX1_dropOldest 21 = .ok (.getfield 11, 3) := by decide +kernel
theorem dX1_dropOldest_24 : decode cX1_dropOldest 24 = .ok (.iload_n 1, 1) := by decide +kernel
theorem dX1_dropOldest_25 : decode cX1_dropOldest 25 = .ok (.iconst 1, 1) := by decide +kernel
theorem dX1_dropOldest_26 : decode cX1_dropOldest 26 = .ok (.isub, 1) := by decide +kernel
theorem dX1_dropOldest_27 : decode cX1_dropOldest 27 = .ok (.aload_n 0, 1) := by decide +kernel
theorem dX1_dropOldest_28 : decode cX1_dropOldest 28 = .ok (.getfield 11, 3) := by decide +kernel
theorem dX1_dropOldest_31 : decode cX1_dropOldest 31 = .ok (.iload_n 1, 1) := by decide +kernel
theorem dX1_dropOldest_32 : decode cX1_dropOldest 32 = .ok (.aaload, 1) := by decide +kernel
theorem dX1_dropOldest_33 : decode cX1_dropOldest 33 = .ok (.aastore, 1) := by decide +kernel
theorem dX1_dropOldest_34 : decode cX1_dropOldest 34 = .ok (.aload_n 0, 1) := by decide +kernel
theorem dX1_dropOldest_35 : decode cX1_dropOldest 35 = .ok (.getfield 11, 3) := by decide +kernel
theorem dX1_dropOldest_38 : decode cX1_dropOldest 38 = .ok (.iload_n 1, 1) := by decide +kernel
theorem dX1_dropOldest_39 : decode cX1_dropOldest 39 = .ok (.aload_n 2, 1) := by decide +kernel
theorem dX1_dropOldest_40 : decode cX1_dropOldest 40 = .ok (.aastore, 1) := by decide +kernel
theorem dX1_dropOldest_41 : decode cX1_dropOldest 41 = .ok (.iinc 1 1, 3) := by decide +kernel
theorem dX1_dropOldest_44 : decode cX1_dropOldest 44 = .ok (.goto (-42), 3) := by decide +kernel
theorem dX1_dropOldest_47 : decode cX1_dropOldest 47 = .ok (.aload_n 0, 1) := by decide +kernel
theorem dX1_dropOldest_48 : decode cX1_dropOldest 48 = .ok (.dup, 1) := by decide +kernel
theorem dX1_dropOldest_49 : decode cX1_dropOldest 49 = .ok (.getfield 16, 3) := by decide +kernel
theorem dX1_dropOldest_52 : decode cX1_dropOldest 52 = .ok (.iconst 1, 1) := by decide +kernel
theorem dX1_dropOldest_53 : decode cX1_dropOldest 53 = .ok (.isub, 1) := by decide +kernel
theorem dX1_dropOldest_54 : decode cX1_dropOldest 54 = .ok (.putfield 16, 3) := by decide +kernel
theorem dX1_dropOldest_57 : decode cX1_dropOldest 57 = .ok (.return_, 1) := by decide +kernel
theorem dX2_init_0 : decode cX2_init 0 = .ok (.aload_n 0, 1) := by decide +kernel
theorem dX2_init_1 : decode cX2_init 1 = .ok (.invokespecial 3, 3) := by decide +kernel
theorem dX2_init_4 : decode cX2_init 4 = .ok (.aload_n 0, 1) := by decide +kernel
theorem dX2_init_5 : decode cX2_init 5 = .ok (.new 9, 3) := by decide +kernel
theorem dX2_init_8 : decode cX2_init 8 = .ok (.dup, 1) := by decide +kernel
theorem dX2_init_9 : decode cX2_init 9 = .ok (.invokespecial 11, 3) := by decide +kernel
theorem dX2_init_12 : decode cX2_init 12 = .ok (.putfield 12, 3) := by decide +kernel
theorem dX2_init_15 : decode cX2_init 15 = .ok (.aload_n 0, 1) := by decide +kernel
theorem dX2_init_16 : decode cX2_init 16 = .ok (.sipush 1672, 3) := by decide +kernel
theorem dX2_init_19 : decode cX2_init 19 = .ok (.putfield 20, 3) := by decide +kernel
theorem dX2_init_22 : decode cX2_init 22 = .ok (.return_, 1) := by decide +kernel
theorem dX2_copy_0 : decode cX2_copy 0 = .ok (.aload_n 0, 1) := by decide +kernel
theorem dX2_copy_1 : decode cX2_copy 1 = .ok (.getfield 12, 3) := by decide +kernel
theorem dX2_copy_4 : decode cX2_copy 4 = .ok (.aload_n 1, 1) := by decide +kernel
theorem dX2_copy_5 : decode cX2_copy 5 = .ok (.getfield 12, 3) := by decide +kernel
theorem dX2_copy_8 : decode cX2_copy 8 = .ok (.invokevirtual 24, 3) := by decide +kernel
theorem dX2_copy_11 : decode cX2_copy 11 = .ok (.aload_n 0, 1) := by decide +kernel
theorem dX2_copy_12 : decode cX2_copy 12 = .ok (.aload_n 1, 1) := by decide +kernel
theorem dX2_copy_13 : decode cX2_copy 13 = .ok (.getfield 20, 3) := by decide +kernel
theorem dX2_copy_16 : decode cX2_copy 16 = .ok (.putfield 20, 3) := by decide +kernel
theorem dX2_copy_19 : decode cX2_copy 19 = .ok (.aload_n 0, 1) := by decide +kernel
theorem dX2_copy_20 : decode cX2_copy 20 = .ok (.aload_n 1, 1) := by decide +kernel
theorem dX2_copy_21 : decode cX2_copy 21 = .ok (.getfield 28, 3) := by decide +kernel
theorem dX2_copy_24 : decode cX2_copy 24 = .ok (.putfield 28, 3) := by decide +kernel
theorem dX2_copy_27 : decode cX2_copy 27 = .ok (.aload_n 0, 1) := by decide +kernel
theorem dX2_copy_28 : decode cX2_copy 28 = .ok (.aload_n 1, 1) := by decide +kernel
theorem dX2_copy_29 : decode cX2_copy 29 = .ok (.getfield 31, 3) := by decide +kernel
theorem dX2_copy_32 : decode cX2_copy 32 = .ok (.putfield 31, 3) := by decide +kernel
theorem dX2_copy_35 : decode cX2_copy 35 = .ok (.return_, 1) := by decide +kernel
theorem dX2_lie_0 : decode cX2_lie 0 = .ok (.aload_n 0, 1) := by decide +kernel
theorem dX2_lie_1 : decode cX2_lie 1 = .ok (.getfield 20, 3) := by decide +kernel
theorem dX2_lie_4 : decode cX2_lie 4 = .ok (.ireturn, 1) := by decide +kernel
theorem dX2_remembered_0 : decode cX2_remembered 0 = .ok (.aload_n 0, 1) := by decide +kernel
theorem dX2_remembered_1 : decode cX2_remembered 1 = .ok (.getfield 12, 3) := by decide +kernel
theorem dX2_remembered_4 : decode cX2_remembered 4 = .ok (.areturn, 1) := by decide +kernel
theorem dX2_latestCrease_0 : decode cX2_latestCrease 0 = .ok (.aload_n 0, 1) := by decide +kernel
theorem dX2_latestCrease_1 : decode cX2_latestCrease 1 = .ok (.getfield 12, 3) := by decide +kernel
theorem dX2_latestCrease_4 : decode cX2_latestCrease 4 = .ok (.aload_n 0, 1) := by decide +kernel
theorem dX2_latestCrease_5 : decode cX2_latestCrease 5 = .ok (.getfield 12, 3) := by decide +kernel
theorem dX2_latestCrease_8 : decode cX2_latestCrease 8 = .ok (.invokevirtual 34, 3) := by decide +kernel
theorem dX2_latestCrease_11 : decode cX2_latestCrease 11 = .ok (.iconst 1, 1) := by decide +kernel
theorem dX2_latestCrease_12 : decode cX2_latestCrease 12 = .ok (.isub, 1) := by decide +kernel
theorem dX2_latestCrease_13 : decode cX2_latestCrease 13 = .ok (.invokevirtual 38, 3) := by decide +kernel
theorem dX2_latestCrease_16 : decode cX2_latestCrease 16 = .ok (.ireturn, 1) := by decide +kernel
theorem dX2_reasonAgainst_0 : decode cX2_reasonAgainst 0 = .ok (.aload_n 0, 1) := by decide +kernel
theorem dX2_reasonAgainst_1 : decode cX2_reasonAgainst 1 = .ok (.getfield 12, 3) := by decide +kernel
theorem dX2_reasonAgainst_4 : decode cX2_reasonAgainst 4 = .ok (.invokevirtual 42, 3) := by decide +kernel
theorem dX2_reasonAgainst_7 : decode cX2_reasonAgainst 7 = .ok (.ifCond .eq 5, 3) := by decide +kernel
theorem dX2_reasonAgainst_10 : decode cX2_reasonAgainst 10 = .ok (.iconst 1, 1) := by decide +kernel
theorem dX2_reasonAgainst_11 : decode cX2_reasonAgainst 11 = .ok (.ireturn, 1) := by decide +kernel
theorem dX2_reasonAgainst_12 : decode cX2_reasonAgainst 12 = .ok (.aload_n 0, 1) := by decide +kernel
theorem dX2_reasonAgainst_13 : decode cX2_reasonAgainst 13 = .ok (.iload_n 1, 1) := by decide +kernel
theorem dX2_reasonAgainst_14 : decode cX2_reasonAgainst 14 = .ok (.invokevirtual 46, 3) := by decide +kernel
theorem dX2_reasonAgainst_17 : decode cX2_reasonAgainst 17 = .ok (.ifCond .eq 7, 3) := by decide +kernel
theorem dX2_reasonAgainst_20 : decode cX2_reasonAgainst 20 = .ok (.iconst 2, 1) := by decide +kernel
theorem dX2_reasonAgainst_21 : decode cX2_reasonAgainst 21 = .ok (.goto 4, 3) := by decide +kernel
theorem dX2_reasonAgainst_24 : decode cX2_reasonAgainst 24 = .ok (.iconst 0, 1) := by decide +kernel
theorem dX2_reasonAgainst_25 : decode cX2_reasonAgainst 25 = .ok (.ireturn, 1) := by decide +kernel
theorem dX2_touchesSeal_0 : decode cX2_touchesSeal 0 = .ok (.iload_n 1, 1) := by decide +kernel
theorem dX2_touchesSeal_1 : decode cX2_touchesSeal 1 = .ok (.ifCond .ne 7, 3) := by decide +kernel
theorem dX2_touchesSeal_4 : decode cX2_touchesSeal 4 = .ok (.iconst 1, 1) := by decide +kernel
theorem dX2_touchesSeal_5 : decode cX2_touchesSeal 5 = .ok (.goto 8, 3) := by decide +kernel
theorem dX2_touchesSeal_8 : decode cX2_touchesSeal 8 = .ok (.iconst 3, 1) := by decide +kernel
theorem dX2_touchesSeal_9 : decode cX2_touchesSeal 9 = .ok (.iload_n 1, 1) := by decide +kernel
theorem dX2_touchesSeal_10 : decode cX2_touchesSeal 10 = .ok (.iconst 1, 1) := by decide +kernel
theorem dX2_touchesSeal_11 : decode cX2_touchesSeal 11 = .ok (.isub, 1) := by decide +kernel
theorem dX2_touchesSeal_12 : decode cX2_touchesSeal 12 = .ok (.ishl, 1) := by decide +kernel
theorem dX2_touchesSeal_13 : decode cX2_touchesSeal 13 = .ok (.istore_n 2, 1) := by decide +kernel
theorem dX2_touchesSeal_14 : decode cX2_touchesSeal 14 = .ok (.aload_n 0, 1) := by decide +kernel
theorem dX2_touchesSeal_15 : decode cX2_touchesSeal 15 = .ok (.getfield 28, 3) := by decide +kernel
theorem dX2_touchesSeal_18 : decode cX2_touchesSeal 18 = .ok (.iload_n 2, 1) := by decide +kernel
theorem dX2_touchesSeal_19 : decode cX2_touchesSeal 19 = .ok (.iand, 1) := by decide +kernel
theorem dX2_touchesSeal_20 : decode cX2_touchesSeal 20 = .ok (.ifCond .eq 7, 3) := by decide +kernel
theorem dX2_touchesSeal_23 : decode cX2_touchesSeal 23 = .ok (.iconst 1, 1) := by decide +kernel
theorem dX2_touchesSeal_24 : decode cX2_touchesSeal 24 = .ok (.goto 4, 3) := by decide +kernel
theorem dX2_touchesSeal_27 : decode cX2_touchesSeal 27 = .ok (.iconst 0, 1) := by decide +kernel
theorem dX2_touchesSeal_28 : decode cX2_touchesSeal 28 = .ok (.ireturn, 1) := by decide +kernel
theorem dX2_foldOver_0 : decode cX2_foldOver 0 = .ok (.aload_n 0, 1) := by decide +kernel
theorem dX2_foldOver_1 : decode cX2_foldOver 1 = .ok (.aload_n 0, 1) := by decide +kernel
theorem dX2_foldOver_2 : decode cX2_foldOver 2 = .ok (.getfield 20, 3) := by decide +kernel
theorem dX2_foldOver_5 : decode cX2_foldOver 5 = .ok (.iload_n 1, 1) := by decide +kernel
theorem dX2_foldOver_6 : decode cX2_foldOver 6 = .ok (.invokestatic 50, 3) := by decide +kernel
theorem dX2_foldOver_9 : decode cX2_foldOver 9 = .ok (.putfield 20, 3) := by decide +kernel
theorem dX2_foldOver_12 : decode cX2_foldOver 12 = .ok (.aload_n 0, 1) := by decide +kernel
theorem dX2_foldOver_13 : decode cX2_foldOver 13 = .ok (.dup, 1) := by decide +kernel
theorem dX2_foldOver_14 : decode cX2_foldOver 14 = .ok (.getfield 31, 3) := by decide +kernel
theorem dX2_foldOver_17 : decode cX2_foldOver 17 = .ok (.iconst 1, 1) := by decide +kernel
theorem dX2_foldOver_18 : decode cX2_foldOver 18 = .ok (.iadd, 1) := by decide +kernel
theorem dX2_foldOver_19 : decode cX2_foldOver 19 = .ok (.putfield 31, 3) := by decide +kernel
theorem dX2_foldOver_22 : decode cX2_foldOver 22 = .ok (.aload_n 0, 1) := by decide +kernel
theorem dX2_foldOver_23 : decode cX2_foldOver 23 = .ok (.getfield 12, 3) := by decide +kernel
theorem dX2_foldOver_26 : decode cX2_foldOver 26 = .ok (.iload_n 1, 1) := by decide +kernel
theorem dX2_foldOver_27 : decode cX2_foldOver 27 = .ok (.invokevirtual 54, 3) := by decide +kernel
theorem dX2_foldOver_30 : decode cX2_foldOver 30 = .ok (.return_, 1) := by decide +kernel
theorem dX2_takeBack_0 : decode cX2_takeBack 0 = .ok (.aload_n 0, 1) := by decide +kernel
theorem dX2_takeBack_1 : decode cX2_takeBack 1 = .ok (.aload_n 0, 1) := by decide +kernel
theorem dX2_takeBack_2 : decode cX2_takeBack 2 = .ok (.getfield 20, 3) := by decide +kernel
theorem dX2_takeBack_5 : decode cX2_takeBack 5 = .ok (.iload_n 1, 1) := by decide +kernel
theorem dX2_takeBack_6 : decode cX2_takeBack 6 = .ok (.invokestatic 50, 3) := by decide +kernel
theorem dX2_takeBack_9 : decode cX2_takeBack 9 = .ok (.putfield 20, 3) := by decide +kernel
theorem dX2_takeBack_12 : decode cX2_takeBack 12 = .ok (.aload_n 0, 1) := by decide +kernel
theorem dX2_takeBack_13 : decode cX2_takeBack 13 = .ok (.dup, 1) := by decide +kernel
theorem dX2_takeBack_14 : decode cX2_takeBack 14 = .ok (.getfield 31, 3) := by decide +kernel
theorem dX2_takeBack_17 : decode cX2_takeBack 17 = .ok (.iconst 1, 1) := by decide +kernel
theorem dX2_takeBack_18 : decode cX2_takeBack 18 = .ok (.iadd, 1) := by decide +kernel
theorem dX2_takeBack_19 : decode cX2_takeBack 19 = .ok (.putfield 31, 3) := by decide +kernel
theorem dX2_takeBack_22 : decode cX2_takeBack 22 = .ok (.aload_n 0, 1) := by decide +kernel
theorem dX2_takeBack_23 : decode cX2_takeBack 23 = .ok (.getfield 12, 3) := by decide +kernel
theorem dX2_takeBack_26 : decode cX2_takeBack 26 = .ok (.invokevirtual 64, 3) := by decide +kernel
theorem dX2_takeBack_29 : decode cX2_takeBack 29 = .ok (.return_, 1) := by decide +kernel
theorem dX2_rememberLeastWord_0 : decode cX2_rememberLeastWord 0 = .ok (.aload_n 0, 1) := by decide +kernel
theorem dX2_rememberLeastWord_1 : decode cX2_rememberLeastWord 1 = .ok (.getfield 20, 3) := by decide +kernel
theorem dX2_rememberLeastWord_4 : decode cX2_rememberLeastWord 4 = .ok (.invokestatic 67, 3) := by decide +kernel
theorem dX2_rememberLeastWord_7 : decode cX2_rememberLeastWord 7 = .ok (.istore_n 1, 1) := by decide +kernel
theorem dX2_rememberLeastWord_8 : decode cX2_rememberLeastWord 8 = .ok (.aload_n 0, 1) := by decide +kernel
theorem dX2_rememberLeastWord_9 : decode cX2_rememberLeastWord 9 = .ok (.getfield 12, 3) := by decide +kernel
theorem dX2_rememberLeastWord_12 : decode cX2_rememberLeastWord 12 = .ok (.invokevirtual 70, 3) := by decide +kernel
theorem dX2_rememberLeastWord_15 : decode cX2_rememberLeastWord 15 = .ok (.iconst 0, 1) := by decide +kernel
theorem dX2_rememberLeastWord_16 : decode cX2_rememberLeastWord 16 = .ok (.istore_n 2, 1) := by decide +kernel
theorem dX2_rememberLeastWord_17 : decode cX2_rememberLeastWord 17 = .ok (.iload_n 2, 1) := by decide +kernel
theorem dX2_rememberLeastWord_18 : decode cX2_rememberLeastWord 18 = .ok (.iload_n 1, 1) := by decide +kernel
theorem dX2_rememberLeastWord_19 : decode cX2_rememberLeastWord 19 = .ok (.if_icmp .ge 24, 3) := by decide +kernel
theorem dX2_rememberLeastWord_22 : decode cX2_rememberLeastWord 22 = .ok (.aload_n 0, 1) := by decide +kernel
theorem dX2_rememberLeastWord_23 : decode cX2_rememberLeastWord 23 = .ok (.getfield 12, 3) := by decide +kernel
theorem dX2_rememberLeastWord_26 : decode cX2_rememberLeastWord 26 = .ok (.aload_n 0, 1) := by decide +kernel
theorem dX2_rememberLeastWord_27 : decode cX2_rememberLeastWord 27 = .ok (.getfield 20, 3) := by decide +kernel
theorem dX2_rememberLeastWord_30 : decode cX2_rememberLeastWord 30 = .ok (.iload_n 2, 1) := by decide +kernel
theorem dX2_rememberLeastWord_31 : decode cX2_rememberLeastWord 31 = .ok (.invokestatic 73, 3) := by decide +kernel
theorem dX2_rememberLeastWord_34 : decode cX2_rememberLeastWord 34 = .ok (.invokevirtual 54, 3) := by decide +kernel
theorem dX2_rememberLeastWord_37 : decode cX2_rememberLeastWord 37 = .ok (.iinc 2 1, 3) := by decide +kernel
theorem dX2_rememberLeastWord_40 : decode cX2_rememberLeastWord 40 = .ok (.goto (-23), 3) := by decide +kernel
theorem dX2_rememberLeastWord_43 : decode cX2_rememberLeastWord 43 = .ok (.return_, 1) := by decide +kernel
theorem dX2_layAfresh_0 : decode cX2_layAfresh 0 = .ok (.aload_n 0, 1) := by decide +kernel
theorem dX2_layAfresh_1 : decode cX2_layAfresh 1 = .ok (.iload_n 1, 1) := by decide +kernel
theorem dX2_layAfresh_2 : decode cX2_layAfresh 2 = .ok (.putfield 20, 3) := by decide +kernel
theorem dX2_layAfresh_5 : decode cX2_layAfresh 5 = .ok (.aload_n 0, 1) := by decide +kernel
theorem dX2_layAfresh_6 : decode cX2_layAfresh 6 = .ok (.iconst 0, 1) := by decide +kernel
theorem dX2_layAfresh_7 : decode cX2_layAfresh 7 = .ok (.putfield 28, 3) := by decide +kernel
theorem dX2_layAfresh_10 : decode cX2_layAfresh 10 = .ok (.aload_n 0, 1) := by decide +kernel
theorem dX2_layAfresh_11 : decode cX2_layAfresh 11 = .ok (.invokevirtual 76, 3) := by decide +kernel
theorem dX2_layAfresh_14 : decode cX2_layAfresh 14 = .ok (.return_, 1) := by decide +kernel
theorem dX2_isSealed_0 : decode cX2_isSealed 0 = .ok (.aload_n 0, 1) := by decide +kernel
theorem dX2_isSealed_1 : decode cX2_isSealed 1 = .ok (.getfield 28, 3) := by decide +kernel
theorem dX2_isSealed_4 : decode cX2_isSealed 4 = .ok (.iload_n 1, 1) := by decide +kernel
theorem dX2_isSealed_5 : decode cX2_isSealed 5 = .ok (.ishr, 1) := by decide +kernel
theorem dX2_isSealed_6 : decode cX2_isSealed 6 = .ok (.iconst 1, 1) := by decide +kernel
theorem dX2_isSealed_7 : decode cX2_isSealed 7 = .ok (.iand, 1) := by decide +kernel
theorem dX2_isSealed_8 : decode cX2_isSealed 8 = .ok (.iconst 1, 1) := by decide +kernel
theorem dX2_isSealed_9 : decode cX2_isSealed 9 = .ok (.if_icmp .ne 7, 3) := by decide +kernel
theorem dX2_isSealed_12 : decode cX2_isSealed 12 = .ok (.iconst 1, 1) := by decide +kernel
theorem dX2_isSealed_13 : decode cX2_isSealed 13 = .ok (.goto 4, 3) := by decide +kernel
theorem dX2_isSealed_16 : decode cX2_isSealed 16 = .ok (.iconst 0, 1) := by decide +kernel
theorem dX2_isSealed_17 : decode cX2_isSealed 17 = .ok (.ireturn, 1) := by decide +kernel
theorem dX2_changeSeal_0 : decode cX2_changeSeal 0 = .ok (.aload_n 0, 1) := by decide +kernel
theorem dX2_changeSeal_1 : decode cX2_changeSeal 1 = .ok (.dup, 1) := by decide +kernel
theorem dX2_changeSeal_2 : decode cX2_changeSeal 2 = .ok (.getfield 28, 3) := by decide +kernel
theorem dX2_changeSeal_5 : decode cX2_changeSeal 5 = .ok (.iconst 1, 1) := by decide +kernel
theorem dX2_changeSeal_6 : decode cX2_changeSeal 6 = .ok (.iload_n 1, 1) := by decide +kernel
theorem dX2_changeSeal_7 : decode cX2_changeSeal 7 = .ok (.ishl, 1) := by decide +kernel
theorem dX2_changeSeal_8 : decode cX2_changeSeal 8 = .ok (.ixor, 1) := by decide +kernel
theorem dX2_changeSeal_9 : decode cX2_changeSeal 9 = .ok (.putfield 28, 3) := by decide +kernel
theorem dX2_changeSeal_12 : decode cX2_changeSeal 12 = .ok (.return_, 1) := by decide +kernel
theorem dX2_sealed_0 : decode cX2_sealed 0 = .ok (.aload_n 0, 1) := by decide +kernel
theorem dX2_sealed_1 : decode cX2_sealed 1 = .ok (.getfield 28, 3) := by decide +kernel
theorem dX2_sealed_4 : decode cX2_sealed 4 = .ok (.invokestatic 79, 3) := by decide +kernel
theorem dX2_sealed_7 : decode cX2_sealed 7 = .ok (.ireturn, 1) := by decide +kernel
theorem dX2_barredMask_0 : decode cX2_barredMask 0 = .ok (.iconst 0, 1) := by decide +kernel
theorem dX2_barredMask_1 : decode cX2_barredMask 1 = .ok (.istore_n 1, 1) := by decide +kernel
theorem dX2_barredMask_2 : decode cX2_barredMask 2 = .ok (.iconst 0, 1) := by decide +kernel
theorem dX2_barredMask_3 : decode cX2_barredMask 3 = .ok (.istore_n 2, 1) := by decide +kernel
theorem dX2_barredMask_4 : decode cX2_barredMask 4 = .ok (.iload_n 2, 1) := by decide +kernel
theorem dX2_barredMask_5 : decode cX2_barredMask 5 = .ok (.iconst 4, 1) := by decide +kernel
theorem dX2_barredMask_6 : decode cX2_barredMask 6 = .ok (.if_icmp .ge 27, 3) := by decide +kernel
theorem dX2_barredMask_9 : decode cX2_barredMask 9 = .ok (.iload_n 1, 1) := by decide +kernel
theorem dX2_barredMask_10 : decode cX2_barredMask 10 = .ok (.aload_n 0, 1) := by decide +kernel
theorem dX2_barredMask_11 : decode cX2_barredMask 11 = .ok (.iload_n 2, 1) := by decide +kernel
theorem dX2_barredMask_12 : decode cX2_barredMask 12 = .ok (.invokevirtual 58, 3) := by decide +kernel
theorem dX2_barredMask_15 : decode cX2_barredMask 15 = .ok (.ifCond .ne 7, 3) := by decide +kernel
theorem dX2_barredMask_18 : decode cX2_barredMask 18 = .ok (.iconst 0, 1) := by decide +kernel
theorem dX2_barredMask_19 : decode cX2_barredMask 19 = .ok (.goto 6, 3) := by decide +kernel
theorem dX2_barredMask_22 : decode cX2_barredMask 22 = .ok (.iconst 1, 1) := by decide +kernel
theorem dX2_barredMask_23 : decode cX2_barredMask 23 = .ok (.iload_n 2, 1) := by decide +kernel
theorem dX2_barredMask_24 : decode cX2_barredMask 24 = .ok (.ishl, 1) := by decide +kernel
theorem dX2_barredMask_25 : decode cX2_barredMask 25 = .ok (.ior, 1) := by decide +kernel
theorem dX2_barredMask_26 : decode cX2_barredMask 26 = .ok (.istore_n 1, 1) := by decide +kernel
theorem dX2_barredMask_27 : decode cX2_barredMask 27 = .ok (.iinc 2 1, 3) := by decide +kernel
theorem dX2_barredMask_30 : decode cX2_barredMask 30 = .ok (.goto (-26), 3) := by decide +kernel
theorem dX2_barredMask_33 : decode cX2_barredMask 33 = .ok (.iload_n 1, 1) := by decide +kernel
theorem dX2_barredMask_34 : decode cX2_barredMask 34 = .ok (.ireturn, 1) := by decide +kernel
theorem dX2_number_0 : decode cX2_number 0 = .ok (.iload_n 1, 1) := by decide +kernel
theorem dX2_number_1 : decode cX2_number 1 = .ok (.tableswitch 146 0 10 #[59, 67, 75, 83, 91, 107, 115, 123, 128, 136, 141], 59) := by decide +kernel
theorem dX2_number_60 : decode cX2_number 60 = .ok (.aload_n 0, 1) := by decide +kernel
theorem dX2_number_61 : decode cX2_number 61 = .ok (.getfield 20, 3) := by decide +kernel
theorem dX2_number_64 : decode cX2_number 64 = .ok (.invokestatic 67, 3) := by decide +kernel
theorem dX2_number_67 : decode cX2_number 67 = .ok (.ireturn, 1) := by decide +kernel
theorem dX2_number_68 : decode cX2_number 68 = .ok (.aload_n 0, 1) := by decide +kernel
theorem dX2_number_69 : decode cX2_number 69 = .ok (.getfield 20, 3) := by decide +kernel
theorem dX2_number_72 : decode cX2_number 72 = .ok (.invokestatic 84, 3) := by decide +kernel
theorem dX2_number_75 : decode cX2_number 75 = .ok (.ireturn, 1) := by decide +kernel
theorem dX2_number_76 : decode cX2_number 76 = .ok (.aload_n 0, 1) := by decide +kernel
theorem dX2_number_77 : decode cX2_number 77 = .ok (.getfield 12, 3) := by decide +kernel
theorem dX2_number_80 : decode cX2_number 80 = .ok (.invokevirtual 34, 3) := by decide +kernel
theorem dX2_number_83 : decode cX2_number 83 = .ok (.ireturn, 1) := by decide +kernel
theorem dX2_number_84 : decode cX2_number 84 = .ok (.aload_n 0, 1) := by decide +kernel
theorem dX2_number_85 : decode cX2_number 85 = .ok (.getfield 20, 3) := by decide +kernel
theorem dX2_number_88 : decode cX2_number 88 = .ok (.invokestatic 87, 3) := by decide +kernel
theorem dX2_number_91 : decode cX2_number 91 = .ok (.ireturn, 1) := by decide +kernel
theorem dX2_number_92 : decode cX2_number 92 = .ok (.aload_n 0, 1) := by decide +kernel
theorem dX2_number_93 : decode cX2_number 93 = .ok (.getfield 20, 3) := by decide +kernel
theorem dX2_number_96 : decode cX2_number 96 = .ok (.invokestatic 90, 3) := by decide +kernel
theorem dX2_number_99 : decode cX2_number 99 = .ok (.ifCond .eq 7, 3) := by decide +kernel
theorem dX2_number_102 : decode cX2_number 102 = .ok (.iconst 1, 1) := by decide +kernel
theorem dX2_number_103 : decode cX2_number 103 = .ok (.goto 4, 3) := by decide +kernel
theorem dX2_number_106 : decode cX2_number 106 = .ok (.iconst 0, 1) := by decide +kernel
theorem dX2_number_107 : decode cX2_number 107 = .ok (.ireturn, 1) := by decide +kernel
theorem dX2_number_108 : decode cX2_number 108 = .ok (.aload_n 0, 1) := by decide +kernel
theorem dX2_number_109 : decode cX2_number 109 = .ok (.getfield 20, 3) := by decide +kernel
theorem dX2_number_112 : decode cX2_number 112 = .ok (.invokestatic 93, 3) := by decide +kernel
theorem dX2_number_115 : decode cX2_number 115 = .ok (.ireturn, 1) := by decide +kernel
theorem dX2_number_116 : decode cX2_number 116 = .ok (.aload_n 0, 1) := by decide +kernel
theorem dX2_number_117 : decode cX2_number 117 = .ok (.getfield 20, 3) := by decide +kernel
theorem dX2_number_120 : decode cX2_number 120 = .ok (.invokestatic 96, 3) := by decide +kernel
theorem dX2_number_123 : decode cX2_number 123 = .ok (.ireturn, 1) := by decide +kernel
theorem dX2_number_124 : decode cX2_number 124 = .ok (.aload_n 0, 1) := by decide +kernel
theorem dX2_number_125 : decode cX2_number 125 = .ok (.getfield 28, 3) := by decide +kernel
theorem dX2_number_128 : decode cX2_number 128 = .ok (.ireturn, 1) := by decide +kernel
theorem dX2_number_129 : decode cX2_number 129 = .ok (.aload_n 0, 1) := by decide +kernel
theorem dX2_number_130 : decode cX2_number 130 = .ok (.getfield 20, 3) := by decide +kernel
theorem dX2_number_133 : decode cX2_number 133 = .ok (.invokestatic 99, 3) := by decide +kernel
theorem dX2_number_136 : decode cX2_number 136 = .ok (.ireturn, 1) := by decide +kernel
theorem dX2_number_137 : decode cX2_number 137 = .ok (.aload_n 0, 1) := by decide +kernel
theorem dX2_number_138 : decode cX2_number 138 = .ok (.invokevirtual 102, 3) := by decide +kernel
theorem dX2_number_141 : decode cX2_number 141 = .ok (.ireturn, 1) := by decide +kernel
theorem dX2_number_142 : decode cX2_number 142 = .ok (.aload_n 0, 1) := by decide +kernel
theorem dX2_number_143 : decode cX2_number 143 = .ok (.getfield 31, 3) := by decide +kernel
theorem dX2_number_146 : decode cX2_number 146 = .ok (.ireturn, 1) := by decide +kernel
theorem dX2_number_147 : decode cX2_number 147 = .ok (.bipush (-10), 2) := by decide +kernel
theorem dX2_number_149 : decode cX2_number 149 = .ok (.ireturn, 1) := by decide +kernel
theorem dX3_layerAt_0 : decode cX3_layerAt 0 = .ok (.iload_n 0, 1) := by decide +kernel
theorem dX3_layerAt_1 : decode cX3_layerAt 1 = .ok (.iconst 3, 1) := by decide +kernel
theorem dX3_layerAt_2 : decode cX3_layerAt 2 = .ok (.iload_n 1, 1) := by decide +kernel
theorem dX3_layerAt_3 : decode cX3_layerAt 3 = .ok (.imul, 1) := by decide +kernel
theorem dX3_layerAt_4 : decode cX3_layerAt 4 = .ok (.ishr, 1) := by decide +kernel
theorem dX3_layerAt_5 : decode cX3_layerAt 5 = .ok (.bipush 7, 2) := by decide +kernel
theorem dX3_layerAt_7 : decode cX3_layerAt 7 = .ok (.iand, 1) := by decide +kernel
theorem dX3_layerAt_8 : decode cX3_layerAt 8 = .ok (.istore_n 2, 1) := by decide +kernel
theorem dX3_layerAt_9 : decode cX3_layerAt 9 = .ok (.iload_n 2, 1) := by decide +kernel
theorem dX3_layerAt_10 : decode cX3_layerAt 10 = .ok (.bipush (-5), 2) := by decide +kernel
theorem dX3_layerAt_12 : decode cX3_layerAt 12 = .ok (.iand, 1) := by decide +kernel
theorem dX3_layerAt_13 : decode cX3_layerAt 13 = .ok (.iconst 1, 1) := by decide +kernel
theorem dX3_layerAt_14 : decode cX3_layerAt 14 = .ok (.iadd, 1) := by decide +kernel
theorem dX3_layerAt_15 : decode cX3_layerAt 15 = .ok (.istore_n 3, 1) := by decide +kernel
theorem dX3_layerAt_16 : decode cX3_layerAt 16 = .ok (.iload_n 2, 1) := by decide +kernel
theorem dX3_layerAt_17 : decode cX3_layerAt 17 = .ok (.iconst 4, 1) := by decide +kernel
theorem dX3_layerAt_18 : decode cX3_layerAt 18 = .ok (.iand, 1) := by decide +kernel
theorem dX3_layerAt_19 : decode cX3_layerAt 19 = .ok (.ifCond .ne 7, 3) := by decide +kernel
theorem dX3_layerAt_22 : decode cX3_layerAt 22 = .ok (.iload_n 3, 1) := by decide +kernel
theorem dX3_layerAt_23 : decode cX3_layerAt 23 = .ok (.goto 5, 3) := by decide +kernel
theorem dX3_layerAt_26 : decode cX3_layerAt 26 = .ok (.iload_n 3, 1) := by decide +kernel
theorem dX3_layerAt_27 : decode cX3_layerAt 27 = .ok (.ineg, 1) := by decide +kernel
theorem dX3_layerAt_28 : decode cX3_layerAt 28 = .ok (.ireturn, 1) := by decide +kernel
theorem dX3_fieldOf_0 : decode cX3_fieldOf 0 = .ok (.iload_n 0, 1) := by decide +kernel
theorem dX3_fieldOf_1 : decode cX3_fieldOf 1 = .ok (.ifCond .ge 12, 3) := by decide +kernel
theorem dX3_fieldOf_4 : decode cX3_fieldOf 4 = .ok (.iload_n 0, 1) := by decide +kernel
theorem dX3_fieldOf_5 : decode cX3_fieldOf 5 = .ok (.ineg, 1) := by decide +kernel
theorem dX3_fieldOf_6 : decode cX3_fieldOf 6 = .ok (.iconst 1, 1) := by decide +kernel
theorem dX3_fieldOf_7 : decode cX3_fieldOf 7 = .ok (.isub, 1) := by decide +kernel
theorem dX3_fieldOf_8 : decode cX3_fieldOf 8 = .ok (.iconst 4, 1) := by decide +kernel
theorem dX3_fieldOf_9 : decode cX3_fieldOf 9 = .ok (.ior, 1) := by decide +kernel
theorem dX3_fieldOf_10 : decode cX3_fieldOf 10 = .ok (.goto 6, 3) := by decide +kernel
theorem dX3_fieldOf_13 : decode cX3_fieldOf 13 = .ok (.iload_n 0, 1) := by decide +kernel
theorem dX3_fieldOf_14 : decode cX3_fieldOf 14 = .ok (.iconst 1, 1) := by decide +kernel
theorem dX3_fieldOf_15 : decode cX3_fieldOf 15 = .ok (.isub, 1) := by decide +kernel
theorem dX3_fieldOf_16 : decode cX3_fieldOf 16 = .ok (.istore_n 2, 1) := by decide +kernel
theorem dX3_fieldOf_17 : decode cX3_fieldOf 17 = .ok (.iload_n 2, 1) := by decide +kernel
theorem dX3_fieldOf_18 : decode cX3_fieldOf 18 = .ok (.iconst 3, 1) := by decide +kernel
theorem dX3_fieldOf_19 : decode cX3_fieldOf 19 = .ok (.iload_n 1, 1) := by decide +kernel
theorem dX3_fieldOf_20 : decode cX3_fieldOf 20 = .ok (.imul, 1) := by decide +kernel
theorem dX3_fieldOf_21 : decode cX3_fieldOf 21 = .ok (.ishl, 1) := by decide +kernel
theorem dX3_fieldOf_22 : decode cX3_fieldOf 22 = .ok (.ireturn, 1) := by decide +kernel
theorem dX3_isHome_0 : decode cX3_isHome 0 = .ok (.iload_n 0, 1) := by decide +kernel
theorem dX3_isHome_1 : decode cX3_isHome 1 = .ok (.iload_n 1, 1) := by decide +kernel
theorem dX3_isHome_2 : decode cX3_isHome 2 = .ok (.invokestatic 11, 3) := by decide +kernel
theorem dX3_isHome_5 : decode cX3_isHome 5 = .ok (.iload_n 1, 1) := by decide +kernel
theorem dX3_isHome_6 : decode cX3_isHome 6 = .ok (.iconst 1, 1) := by decide +kernel
theorem dX3_isHome_7 : decode cX3_isHome 7 = .ok (.iadd, 1) := by decide +kernel
theorem dX3_isHome_8 : decode cX3_isHome 8 = .ok (.if_icmp .ne 7, 3) := by decide +kernel
theorem dX3_isHome_11 : decode cX3_isHome 11 = .ok (.iconst 1, 1) := by decide +kernel
theorem dX3_isHome_12 : decode cX3_isHome 12 = .ok (.goto 4, 3) := by decide +kernel
theorem dX3_isHome_15 : decode cX3_isHome 15 = .ok (.iconst 0, 1) := by decide +kernel
theorem dX3_isHome_16 : decode cX3_isHome 16 = .ok (.ireturn, 1) := by decide +kernel
theorem dX3_folded_0 : decode cX3_folded 0 = .ok (.iload_n 1, 1) := by decide +kernel
theorem dX3_folded_1 : decode cX3_folded 1 = .ok (.ifCond .ne 7, 3) := by decide +kernel
theorem dX3_folded_4 : decode cX3_folded 4 = .ok (.iload_n 0, 1) := by decide +kernel
theorem dX3_folded_5 : decode cX3_folded 5 = .ok (.iconst 4, 1) := by decide +kernel
theorem dX3_folded_6 : decode cX3_folded 6 = .ok (.ixor, 1) := by decide +kernel
theorem dX3_folded_7 : decode cX3_folded 7 = .ok (.ireturn, 1) := by decide +kernel
theorem dX3_folded_8 : decode cX3_folded 8 = .ok (.iconst 3, 1) := by decide +kernel
theorem dX3_folded_9 : decode cX3_folded 9 = .ok (.iload_n 1, 1) := by decide +kernel
theorem dX3_folded_10 : decode cX3_folded 10 = .ok (.iconst 1, 1) := by decide +kernel
theorem dX3_folded_11 : decode cX3_folded 11 = .ok (.isub, 1) := by decide +kernel
theorem dX3_folded_12 : decode cX3_folded 12 = .ok (.imul, 1) := by decide +kernel
theorem dX3_folded_13 : decode cX3_folded 13 = .ok (.istore_n 2, 1) := by decide +kernel
theorem dX3_folded_14 : decode cX3_folded 14 = .ok (.iconst 3, 1) := by decide +kernel
theorem dX3_folded_15 : decode cX3_folded 15 = .ok (.iload_n 1, 1) := by decide +kernel
theorem dX3_folded_16 : decode cX3_folded 16 = .ok (.imul, 1) := by decide +kernel
theorem dX3_folded_17 : decode cX3_folded 17 = .ok (.istore_n 3, 1) := by decide +kernel
theorem dX3_folded_18 : decode cX3_folded 18 = .ok (.iload_n 0, 1) := by decide +kernel
theorem dX3_folded_19 : decode cX3_folded 19 = .ok (.iload_n 2, 1) := by decide +kernel
theorem dX3_folded_20 : decode cX3_folded 20 = .ok (.ishr, 1) := by decide +kernel
theorem dX3_folded_21 : decode cX3_folded 21 = .ok (.iload_n 0, 1) := by decide +kernel
theorem dX3_folded_22 : decode cX3_folded 22 = .ok (.iload_n 3, 1) := by decide +kernel
theorem dX3_folded_23 : decode cX3_folded 23 = .ok (.ishr, 1) := by decide +kernel
theorem dX3_folded_24 : decode cX3_folded 24 = .ok (.ixor, 1) := by decide +kernel
theorem dX3_folded_25 : decode cX3_folded 25 = .ok (.bipush 7, 2) := by decide +kernel
theorem dX3_folded_27 : decode cX3_folded 27 = .ok (.iand, 1) := by decide +kernel
theorem dX3_folded_28 : decode cX3_folded 28 = .ok (.istore 4, 2) := by decide +kernel
theorem dX3_folded_30 : decode cX3_folded 30 = .ok (.iload_n 0, 1) := by decide +kernel
theorem dX3_folded_31 : decode cX3_folded 31 = .ok (.iload 4, 2) := by decide +kernel
theorem dX3_folded_33 : decode cX3_folded 33 = .ok (.iload_n 2, 1) := by decide +kernel
theorem dX3_folded_34 : decode cX3_folded 34 = .ok (.ishl, 1) := by decide +kernel
theorem dX3_folded_35 : decode cX3_folded 35 = .ok (.ixor, 1) := by decide +kernel
theorem dX3_folded_36 : decode cX3_folded 36 = .ok (.iload 4, 2) := by decide +kernel
theorem dX3_folded_38 : decode cX3_folded 38 = .ok (.iload_n 3, 1) := by decide +kernel
theorem dX3_folded_39 : decode cX3_folded 39 = .ok (.ishl, 1) := by decide +kernel
theorem dX3_folded_40 : decode cX3_folded 40 = .ok (.ixor, 1) := by decide +kernel
theorem dX3_folded_41 : decode cX3_folded 41 = .ok (.ireturn, 1) := by decide +kernel
theorem dX3_joined_0 : decode cX3_joined 0 = .ok (.iconst 0, 1) := by decide +kernel
theorem dX3_joined_1 : decode cX3_joined 1 = .ok (.istore_n 2, 1) := by decide +kernel
theorem dX3_joined_2 : decode cX3_joined 2 = .ok (.iconst 0, 1) := by decide +kernel
theorem dX3_joined_3 : decode cX3_joined 3 = .ok (.istore_n 3, 1) := by decide +kernel
theorem dX3_joined_4 : decode cX3_joined 4 = .ok (.iload_n 3, 1) := by decide +kernel
theorem dX3_joined_5 : decode cX3_joined 5 = .ok (.iconst 4, 1) := by decide +kernel
theorem dX3_joined_6 : decode cX3_joined 6 = .ok (.if_icmp .ge 49, 3) := by decide +kernel
theorem dX3_joined_9 : decode cX3_joined 9 = .ok (.iload_n 1, 1) := by decide +kernel
theorem dX3_joined_10 : decode cX3_joined 10 = .ok (.iload_n 3, 1) := by decide +kernel
theorem dX3_joined_11 : decode cX3_joined 11 = .ok (.invokestatic 11, 3) := by decide +kernel
theorem dX3_joined_14 : decode cX3_joined 14 = .ok (.istore 4, 2) := by decide +kernel
theorem dX3_joined_16 : decode cX3_joined 16 = .ok (.iload_n 0, 1) := by decide +kernel
theorem dX3_joined_17 : decode cX3_joined 17 = .ok (.iload 4, 2) := by decide +kernel
theorem dX3_joined_19 : decode cX3_joined 19 = .ok (.invokestatic 15, 3) := by decide +kernel
theorem dX3_joined_22 : decode cX3_joined 22 = .ok (.iconst 1, 1) := by decide +kernel
theorem dX3_joined_23 : decode cX3_joined 23 = .ok (.isub, 1) := by decide +kernel
theorem dX3_joined_24 : decode cX3_joined 24 = .ok (.invokestatic 11, 3) := by decide +kernel
theorem dX3_joined_27 : decode cX3_joined 27 = .ok (.istore 5, 2) := by decide +kernel
theorem dX3_joined_29 : decode cX3_joined 29 = .ok (.iload_n 2, 1) := by decide +kernel
theorem dX3_joined_30 : decode cX3_joined 30 = .ok (.iload 4, 2) := by decide +kernel
theorem dX3_joined_32 : decode cX3_joined 32 = .ok (.ifCond .ge 9, 3) := by decide +kernel
theorem dX3_joined_35 : decode cX3_joined 35 = .ok (.iload 5, 2) := by decide +kernel
theorem dX3_joined_37 : decode cX3_joined 37 = .ok (.ineg, 1) := by decide +kernel
theorem dX3_joined_38 : decode cX3_joined 38 = .ok (.goto 5, 3) := by decide +kernel
theorem dX3_joined_41 : decode cX3_joined 41 = .ok (.iload 5, 2) := by decide +kernel
theorem dX3_joined_43 : decode cX3_joined 43 = .ok (.iload_n 3, 1) := by decide +kernel
theorem dX3_joined_44 : decode cX3_joined 44 = .ok (.invokestatic 21, 3) := by decide +kernel
theorem dX3_joined_47 : decode cX3_joined 47 = .ok (.ior, 1) := by decide +kernel
theorem dX3_joined_48 : decode cX3_joined 48 = .ok (.istore_n 2, 1) := by decide +kernel
theorem dX3_joined_49 : decode cX3_joined 49 = .ok (.iinc 3 1, 3) := by decide +kernel
theorem dX3_joined_52 : decode cX3_joined 52 = .ok (.goto (-48), 3) := by decide +kernel
theorem dX3_joined_55 : decode cX3_joined 55 = .ok (.iload_n 2, 1) := by decide +kernel
theorem dX3_joined_56 : decode cX3_joined 56 = .ok (.ireturn, 1) := by decide +kernel
theorem dX3_reversed_0 : decode cX3_reversed 0 = .ok (.iconst 0, 1) := by decide +kernel
theorem dX3_reversed_1 : decode cX3_reversed 1 = .ok (.istore_n 1, 1) := by decide +kernel
theorem dX3_reversed_2 : decode cX3_reversed 2 = .ok (.iconst 0, 1) := by decide +kernel
theorem dX3_reversed_3 : decode cX3_reversed 3 = .ok (.istore_n 2, 1) := by decide +kernel
theorem dX3_reversed_4 : decode cX3_reversed 4 = .ok (.iload_n 2, 1) := by decide +kernel
theorem dX3_reversed_5 : decode cX3_reversed 5 = .ok (.iconst 4, 1) := by decide +kernel
theorem dX3_reversed_6 : decode cX3_reversed 6 = .ok (.if_icmp .ge 44, 3) := by decide +kernel
theorem dX3_reversed_9 : decode cX3_reversed 9 = .ok (.iload_n 0, 1) := by decide +kernel
theorem dX3_reversed_10 : decode cX3_reversed 10 = .ok (.iload_n 2, 1) := by decide +kernel
theorem dX3_reversed_11 : decode cX3_reversed 11 = .ok (.invokestatic 11, 3) := by decide +kernel
theorem dX3_reversed_14 : decode cX3_reversed 14 = .ok (.istore_n 3, 1) := by decide +kernel
theorem dX3_reversed_15 : decode cX3_reversed 15 = .ok (.iload_n 2, 1) := by decide +kernel
theorem dX3_reversed_16 : decode cX3_reversed 16 = .ok (.iconst 1, 1) := by decide +kernel
theorem dX3_reversed_17 : decode cX3_reversed 17 = .ok (.iadd, 1) := by decide +kernel
theorem dX3_reversed_18 : decode cX3_reversed 18 = .ok (.istore 4, 2) := by decide +kernel
theorem dX3_reversed_20 : decode cX3_reversed 20 = .ok (.iload_n 1, 1) := by decide +kernel
theorem dX3_reversed_21 : decode cX3_reversed 21 = .ok (.iload_n 3, 1) := by decide +kernel
theorem dX3_reversed_22 : decode cX3_reversed 22 = .ok (.ifCond .ge 9, 3) := by decide +kernel
theorem dX3_reversed_25 : decode cX3_reversed 25 = .ok (.iload 4, 2) := by decide +kernel
theorem dX3_reversed_27 : decode cX3_reversed 27 = .ok (.ineg, 1) := by decide +kernel
theorem dX3_reversed_28 : decode cX3_reversed 28 = .ok (.goto 5, 3) := by decide +kernel
theorem dX3_reversed_31 : decode cX3_reversed 31 = .ok (.iload 4, 2) := by decide +kernel
theorem dX3_reversed_33 : decode cX3_reversed 33 = .ok (.iload_n 3, 1) := by decide +kernel
theorem dX3_reversed_34 : decode cX3_reversed 34 = .ok (.invokestatic 15, 3) := by decide +kernel
theorem dX3_reversed_37 : decode cX3_reversed 37 = .ok (.iconst 1, 1) := by decide +kernel
theorem dX3_reversed_38 : decode cX3_reversed 38 = .ok (.isub, 1) := by decide +kernel
theorem dX3_reversed_39 : decode cX3_reversed 39 = .ok (.invokestatic 21, 3) := by decide +kernel
theorem dX3_reversed_42 : decode cX3_reversed 42 = .ok (.ior, 1) := by decide +kernel
theorem dX3_reversed_43 : decode cX3_reversed 43 = .ok (.istore_n 1, 1) := by decide +kernel
theorem dX3_reversed_44 : decode cX3_reversed 44 = .ok (.iinc 2 1, 3) := by decide +kernel
theorem dX3_reversed_47 : decode cX3_reversed 47 = .ok (.goto (-43), 3) := by decide +kernel
theorem dX3_reversed_50 : decode cX3_reversed 50 = .ok (.iload_n 1, 1) := by decide +kernel
theorem dX3_reversed_51 : decode cX3_reversed 51 = .ok (.ireturn, 1) := by decide +kernel
theorem dX3_length_0 : decode cX3_length 0 = .ok (.iconst 0, 1) := by decide +kernel
theorem dX3_length_1 : decode cX3_length 1 = .ok (.istore_n 1, 1) := by decide +kernel
theorem dX3_length_2 : decode cX3_length 2 = .ok (.iconst 0, 1) := by decide +kernel
theorem dX3_length_3 : decode cX3_length 3 = .ok (.istore_n 2, 1) := by decide +kernel
theorem dX3_length_4 : decode cX3_length 4 = .ok (.iload_n 2, 1) := by decide +kernel
theorem dX3_length_5 : decode cX3_length 5 = .ok (.iconst 4, 1) := by decide +kernel
theorem dX3_length_6 : decode cX3_length 6 = .ok (.if_icmp .ge 67, 3) := by decide +kernel
theorem dX3_length_9 : decode cX3_length 9 = .ok (.iload_n 0, 1) := by decide +kernel
theorem dX3_length_10 : decode cX3_length 10 = .ok (.iload_n 2, 1) := by decide +kernel
theorem dX3_length_11 : decode cX3_length 11 = .ok (.invokestatic 11, 3) := by decide +kernel
theorem dX3_length_14 : decode cX3_length 14 = .ok (.istore_n 3, 1) := by decide +kernel
theorem dX3_length_15 : decode cX3_length 15 = .ok (.iconst 0, 1) := by decide +kernel
theorem dX3_length_16 : decode cX3_length 16 = .ok (.istore 4, 2) := by decide +kernel
theorem dX3_length_18 : decode cX3_length 18 = .ok (.iload 4, 2) := by decide +kernel
theorem dX3_length_20 : decode cX3_length 20 = .ok (.iload_n 2, 1) := by decide +kernel
theorem dX3_length_21 : decode cX3_length 21 = .ok (.if_icmp .gt 46, 3) := by decide +kernel
theorem dX3_length_24 : decode cX3_length 24 = .ok (.iload_n 0, 1) := by decide +kernel
theorem dX3_length_25 : decode cX3_length 25 = .ok (.iload 4, 2) := by decide +kernel
theorem dX3_length_27 : decode cX3_length 27 = .ok (.invokestatic 11, 3) := by decide +kernel
theorem dX3_length_30 : decode cX3_length 30 = .ok (.istore 5, 2) := by decide +kernel
theorem dX3_length_32 : decode cX3_length 32 = .ok (.iload_n 1, 1) := by decide +kernel
theorem dX3_length_33 : decode cX3_length 33 = .ok (.iload 5, 2) := by decide +kernel
theorem dX3_length_35 : decode cX3_length 35 = .ok (.iload_n 3, 1) := by decide +kernel
theorem dX3_length_36 : decode cX3_length 36 = .ok (.if_icmp .le 7, 3) := by decide +kernel
theorem dX3_length_39 : decode cX3_length 39 = .ok (.iconst 1, 1) := by decide +kernel
theorem dX3_length_40 : decode cX3_length 40 = .ok (.goto 4, 3) := by decide +kernel
theorem dX3_length_43 : decode cX3_length 43 = .ok (.iconst 0, 1) := by decide +kernel
theorem dX3_length_44 : decode cX3_length 44 = .ok (.iadd, 1) := by decide +kernel
theorem dX3_length_45 : decode cX3_length 45 = .ok (.istore_n 1, 1) := by decide +kernel
theorem dX3_length_46 : decode cX3_length 46 = .ok (.iload_n 1, 1) := by decide +kernel
theorem dX3_length_47 : decode cX3_length 47 = .ok (.iload 5, 2) := by decide +kernel
theorem dX3_length_49 : decode cX3_length 49 = .ok (.iload_n 3, 1) := by decide +kernel
theorem dX3_length_50 : decode cX3_length 50 = .ok (.iadd, 1) := by decide +kernel
theorem dX3_length_51 : decode cX3_length 51 = .ok (.ifCond .ge 7, 3) := by decide +kernel
theorem dX3_length_54 : decode cX3_length 54 = .ok (.iconst 1, 1) := by decide +kernel
theorem dX3_length_55 : decode cX3_length 55 = .ok (.goto 4, 3) := by decide +kernel
theorem dX3_length_58 : decode cX3_length 58 = .ok (.iconst 0, 1) := by decide +kernel
theorem dX3_length_59 : decode cX3_length 59 = .ok (.iadd, 1) := by decide +kernel
theorem dX3_length_60 : decode cX3_length 60 = .ok (.istore_n 1, 1) := by decide +kernel
theorem dX3_length_61 : decode cX3_length 61 = .ok (.iinc 4 1, 3) := by decide +kernel
theorem dX3_length_64 : decode cX3_length 64 = .ok (.goto (-46), 3) := by decide +kernel
theorem dX3_length_67 : decode cX3_length 67 = .ok (.iinc 2 1, 3) := by decide +kernel
theorem dX3_length_70 : decode cX3_length 70 = .ok (.goto (-66), 3) := by decide +kernel
theorem dX3_length_73 : decode cX3_length 73 = .ok (.iload_n 1, 1) := by decide +kernel
theorem dX3_length_74 : decode cX3_length 74 = .ok (.ireturn, 1) := by decide +kernel
theorem dX3_lengthBetween_0 : decode cX3_lengthBetween 0 = .ok (.iload_n 0, 1) := by decide +kernel
theorem dX3_lengthBetween_1 : decode cX3_lengthBetween 1 = .ok (.invokestatic 24, 3) := by decide +kernel
theorem dX3_lengthBetween_4 : decode cX3_lengthBetween 4 = .ok (.iload_n 1, 1) := by decide +kernel
theorem dX3_lengthBetween_5 : decode cX3_lengthBetween 5 = .ok (.invokestatic 27, 3) := by decide +kernel
theorem dX3_lengthBetween_8 : decode cX3_lengthBetween 8 = .ok (.invokestatic 30, 3) := by decide +kernel
theorem dX3_lengthBetween_11 : decode cX3_lengthBetween 11 = .ok (.ireturn, 1) := by decide +kernel
theorem dX3_isShortenedBy_0 : decode cX3_isShortenedBy 0 = .ok (.iload_n 1, 1) := by decide +kernel
theorem dX3_isShortenedBy_1 : decode cX3_isShortenedBy 1 = .ok (.ifCond .ne 17, 3) := by decide +kernel
theorem dX3_isShortenedBy_4 : decode cX3_isShortenedBy 4 = .ok (.iload_n 0, 1) := by decide +kernel
theorem dX3_isShortenedBy_5 : decode cX3_isShortenedBy 5 = .ok (.iconst 0, 1) := by decide +kernel
theorem dX3_isShortenedBy_6 : decode cX3_isShortenedBy 6 = .ok (.invokestatic 11, 3) := by decide +kernel
theorem dX3_isShortenedBy_9 : decode cX3_isShortenedBy 9 = .ok (.ifCond .ge 7, 3) := by decide +kernel
theorem dX3_isShortenedBy_12 : decode cX3_isShortenedBy 12 = .ok (.iconst 1, 1) := by decide +kernel
theorem dX3_isShortenedBy_13 : decode cX3_isShortenedBy 13 = .ok (.goto 4, 3) := by decide +kernel
theorem dX3_isShortenedBy_16 : decode cX3_isShortenedBy 16 = .ok (.iconst 0, 1) := by decide +kernel
theorem dX3_isShortenedBy_17 : decode cX3_isShortenedBy 17 = .ok (.ireturn, 1) := by decide +kernel
theorem dX3_isShortenedBy_18 : decode cX3_isShortenedBy 18 = .ok (.iload_n 0, 1) := by decide +kernel
theorem dX3_isShortenedBy_19 : decode cX3_isShortenedBy 19 = .ok (.iload_n 1, 1) := by decide +kernel
theorem dX3_isShortenedBy_20 : decode cX3_isShortenedBy 20 = .ok (.iconst 1, 1) := by decide +kernel
theorem dX3_isShortenedBy_21 : decode cX3_isShortenedBy 21 = .ok (.isub, 1) := by decide +kernel
theorem dX3_isShortenedBy_22 : decode cX3_isShortenedBy 22 = .ok (.invokestatic 11, 3) := by decide +kernel
theorem dX3_isShortenedBy_25 : decode cX3_isShortenedBy 25 = .ok (.iload_n 0, 1) := by decide +kernel
theorem dX3_isShortenedBy_26 : decode cX3_isShortenedBy 26 = .ok (.iload_n 1, 1) := by decide +kernel
theorem dX3_isShortenedBy_27 : decode cX3_isShortenedBy 27 = .ok (.invokestatic 11, 3) := by decide +kernel
theorem dX3_isShortenedBy_30 : decode cX3_isShortenedBy 30 = .ok (.if_icmp .le 7, 3) := by decide +kernel
theorem dX3_isShortenedBy_33 : decode cX3_isShortenedBy 33 = .ok (.iconst 1, 1) := by decide +kernel
theorem dX3_isShortenedBy_34 : decode cX3_isShortenedBy 34 = .ok (.goto 4, 3) := by decide +kernel
theorem dX3_isShortenedBy_37 : decode cX3_isShortenedBy 37 = .ok (.iconst 0, 1) := by decide +kernel
theorem dX3_isShortenedBy_38 : decode cX3_isShortenedBy 38 = .ok (.ireturn, 1) := by decide +kernel
theorem dX3_firstShortening_0 : decode cX3_firstShortening 0 = .ok (.iconst 0, 1) := by decide +kernel
theorem dX3_firstShortening_1 : decode cX3_firstShortening 1 = .ok (.istore_n 1, 1) := by decide +kernel
theorem dX3_firstShortening_2 : decode cX3_firstShortening 2 = .ok (.iload_n 1, 1) := by decide +kernel
theorem dX3_firstShortening_3 : decode cX3_firstShortening 3 = .ok (.iconst 4, 1) := by decide +kernel
theorem dX3_firstShortening_4 : decode cX3_firstShortening 4 = .ok (.if_icmp .ge 19, 3) := by decide +kernel
theorem dX3_firstShortening_7 : decode cX3_firstShortening 7 = .ok (.iload_n 0, 1) := by decide +kernel
theorem dX3_firstShortening_8 : decode cX3_firstShortening 8 = .ok (.iload_n 1, 1) := by decide +kernel
theorem dX3_firstShortening_9 : decode cX3_firstShortening 9 = .ok (.invokestatic 33, 3) := by decide +kernel
theorem dX3_firstShortening_12 : decode cX3_firstShortening 12 = .ok (.ifCond .eq 5, 3) := by decide +kernel
theorem dX3_firstShortening_15 : decode cX3_firstShortening 15 = .ok (.iload_n 1, 1) := by decide +kernel
theorem dX3_firstShortening_16 : decode cX3_firstShortening 16 = .ok (.ireturn, 1) := by decide +kernel
theorem dX3_firstShortening_17 : decode cX3_firstShortening 17 = .ok (.iinc 1 1, 3) := by decide +kernel
theorem dX3_firstShortening_20 : decode cX3_firstShortening 20 = .ok (.goto (-18), 3) := by decide +kernel
theorem dX3_firstShortening_23 : decode cX3_firstShortening 23 = .ok (.bipush (-10), 2) := by decide +kernel
theorem dX3_firstShortening_25 : decode cX3_firstShortening 25 = .ok (.ireturn, 1) := by decide +kernel
theorem dX3_shorteningMask_0 : decode cX3_shorteningMask 0 = .ok (.iconst 0, 1) := by decide +kernel
theorem dX3_shorteningMask_1 : decode cX3_shorteningMask 1 = .ok (.istore_n 1, 1) := by decide +kernel
theorem dX3_shorteningMask_2 : decode cX3_shorteningMask 2 = .ok (.iconst 0, 1) := by decide +kernel
theorem dX3_shorteningMask_3 : decode cX3_shorteningMask 3 = .ok (.istore_n 2, 1) := by decide +kernel
theorem dX3_shorteningMask_4 : decode cX3_shorteningMask 4 = .ok (.iload_n 2, 1) := by decide +kernel
theorem dX3_shorteningMask_5 : decode cX3_shorteningMask 5 = .ok (.iconst 4, 1) := by decide +kernel
theorem dX3_shorteningMask_6 : decode cX3_shorteningMask 6 = .ok (.if_icmp .ge 27, 3) := by decide +kernel
theorem dX3_shorteningMask_9 : decode cX3_shorteningMask 9 = .ok (.iload_n 1, 1) := by decide +kernel
theorem dX3_shorteningMask_10 : decode cX3_shorteningMask 10 = .ok (.iload_n 0, 1) := by decide +kernel
theorem dX3_shorteningMask_11 : decode cX3_shorteningMask 11 = .ok (.iload_n 2, 1) := by decide +kernel
theorem dX3_shorteningMask_12 : decode cX3_shorteningMask 12 = .ok (.invokestatic 33, 3) := by decide +kernel
theorem dX3_shorteningMask_15 : decode cX3_shorteningMask 15 = .ok (.ifCond .eq 9, 3) := by decide +kernel
theorem dX3_shorteningMask_18 : decode cX3_shorteningMask 18 = .ok (.iconst 1, 1) := by decide +kernel
theorem dX3_shorteningMask_19 : decode cX3_shorteningMask 19 = .ok (.iload_n 2, 1) := by decide +kernel
theorem dX3_shorteningMask_20 : decode cX3_shorteningMask 20 = .ok (.ishl, 1) := by decide +kernel
theorem dX3_shorteningMask_21 : decode cX3_shorteningMask 21 = .ok (.goto 4, 3) := by decide +kernel
theorem dX3_shorteningMask_24 : decode cX3_shorteningMask 24 = .ok (.iconst 0, 1) := by decide +kernel
theorem dX3_shorteningMask_25 : decode cX3_shorteningMask 25 = .ok (.ior, 1) := by decide +kernel
theorem dX3_shorteningMask_26 : decode cX3_shorteningMask 26 = .ok (.istore_n 1, 1) := by decide +kernel
theorem dX3_shorteningMask_27 : decode cX3_shorteningMask 27 = .ok (.iinc 2 1, 3) := by decide +kernel
theorem dX3_shorteningMask_30 : decode cX3_shorteningMask 30 = .ok (.goto (-26), 3) := by decide +kernel
theorem dX3_shorteningMask_33 : decode cX3_shorteningMask 33 = .ok (.iload_n 1, 1) := by decide +kernel
theorem dX3_shorteningMask_34 : decode cX3_shorteningMask 34 = .ok (.ireturn, 1) := by decide +kernel
theorem dX3_foldsBack_0 : decode cX3_foldsBack 0 = .ok (.iload_n 0, 1) := by decide +kernel
theorem dX3_foldsBack_1 : decode cX3_foldsBack 1 = .ok (.istore_n 1, 1) := by decide +kernel
theorem dX3_foldsBack_2 : decode cX3_foldsBack 2 = .ok (.iconst 0, 1) := by decide +kernel
theorem dX3_foldsBack_3 : decode cX3_foldsBack 3 = .ok (.istore_n 2, 1) := by decide +kernel
theorem dX3_foldsBack_4 : decode cX3_foldsBack 4 = .ok (.iload_n 2, 1) := by decide +kernel
theorem dX3_foldsBack_5 : decode cX3_foldsBack 5 = .ok (.bipush 16, 2) := by decide +kernel
theorem dX3_foldsBack_7 : decode cX3_foldsBack 7 = .ok (.if_icmp .ge 25, 3) := by decide +kernel
theorem dX3_foldsBack_10 : decode cX3_foldsBack 10 = .ok (.iload_n 1, 1) := by decide +kernel
theorem dX3_foldsBack_11 : decode cX3_foldsBack 11 = .ok (.sipush 1672, 3) := by decide +kernel
theorem dX3_foldsBack_14 : decode cX3_foldsBack 14 = .ok (.if_icmp .eq 18, 3) := by decide +kernel
theorem dX3_foldsBack_17 : decode cX3_foldsBack 17 = .ok (.iload_n 1, 1) := by decide +kernel
theorem dX3_foldsBack_18 : decode cX3_foldsBack 18 = .ok (.iload_n 1, 1) := by decide +kernel
theorem dX3_foldsBack_19 : decode cX3_foldsBack 19 = .ok (.invokestatic 37, 3) := by decide +kernel
theorem dX3_foldsBack_22 : decode cX3_foldsBack 22 = .ok (.invokestatic 40, 3) := by decide +kernel
theorem dX3_foldsBack_25 : decode cX3_foldsBack 25 = .ok (.istore_n 1, 1) := by decide +kernel
theorem dX3_foldsBack_26 : decode cX3_foldsBack 26 = .ok (.iinc 2 1, 3) := by decide +kernel
theorem dX3_foldsBack_29 : decode cX3_foldsBack 29 = .ok (.goto (-25), 3) := by decide +kernel
theorem dX3_foldsBack_32 : decode cX3_foldsBack 32 = .ok (.iload_n 2, 1) := by decide +kernel
theorem dX3_foldsBack_33 : decode cX3_foldsBack 33 = .ok (.ireturn, 1) := by decide +kernel
theorem dX3_leastCrease_0 : decode cX3_leastCrease 0 = .ok (.iload_n 0, 1) := by decide +kernel
theorem dX3_leastCrease_1 : decode cX3_leastCrease 1 = .ok (.invokestatic 24, 3) := by decide +kernel
theorem dX3_leastCrease_4 : decode cX3_leastCrease 4 = .ok (.istore_n 2, 1) := by decide +kernel
theorem dX3_leastCrease_5 : decode cX3_leastCrease 5 = .ok (.iconst 0, 1) := by decide +kernel
theorem dX3_leastCrease_6 : decode cX3_leastCrease 6 = .ok (.istore_n 3, 1) := by decide +kernel
theorem dX3_leastCrease_7 : decode cX3_leastCrease 7 = .ok (.iload_n 3, 1) := by decide +kernel
theorem dX3_leastCrease_8 : decode cX3_leastCrease 8 = .ok (.iload_n 1, 1) := by decide +kernel
theorem dX3_leastCrease_9 : decode cX3_leastCrease 9 = .ok (.if_icmp .ge 25, 3) := by decide +kernel
theorem dX3_leastCrease_12 : decode cX3_leastCrease 12 = .ok (.iload_n 2, 1) := by decide +kernel
theorem dX3_leastCrease_13 : decode cX3_leastCrease 13 = .ok (.sipush 1672, 3) := by decide +kernel
theorem dX3_leastCrease_16 : decode cX3_leastCrease 16 = .ok (.if_icmp .eq 18, 3) := by decide +kernel
theorem dX3_leastCrease_19 : decode cX3_leastCrease 19 = .ok (.iload_n 2, 1) := by decide +kernel
theorem dX3_leastCrease_20 : decode cX3_leastCrease 20 = .ok (.iload_n 2, 1) := by decide +kernel
theorem dX3_leastCrease_21 : decode cX3_leastCrease 21 = .ok (.invokestatic 37, 3) := by decide +kernel
theorem dX3_leastCrease_24 : decode cX3_leastCrease 24 = .ok (.invokestatic 40, 3) := by decide +kernel
theorem dX3_leastCrease_27 : decode cX3_leastCrease 27 = .ok (.istore_n 2, 1) := by decide +kernel
theorem dX3_leastCrease_28 : decode cX3_leastCrease 28 = .ok (.iinc 3 1, 3) := by decide +kernel
theorem dX3_leastCrease_31 : decode cX3_leastCrease 31 = .ok (.goto (-24), 3) := by decide +kernel
theorem dX3_leastCrease_34 : decode cX3_leastCrease 34 = .ok (.iload_n 2, 1) := by decide +kernel
theorem dX3_leastCrease_35 : decode cX3_leastCrease 35 = .ok (.invokestatic 37, 3) := by decide +kernel
theorem dX3_leastCrease_38 : decode cX3_leastCrease 38 = .ok (.ireturn, 1) := by decide +kernel
theorem dX3_period_0 : decode cX3_period 0 = .ok (.iload_n 0, 1) := by decide +kernel
theorem dX3_period_1 : decode cX3_period 1 = .ok (.istore_n 1, 1) := by decide +kernel
theorem dX3_period_2 : decode cX3_period 2 = .ok (.iconst 1, 1) := by decide +kernel
theorem dX3_period_3 : decode cX3_period 3 = .ok (.istore_n 2, 1) := by decide +kernel
theorem dX3_period_4 : decode cX3_period 4 = .ok (.iload_n 2, 1) := by decide +kernel
theorem dX3_period_5 : decode cX3_period 5 = .ok (.bipush 8, 2) := by decide +kernel
theorem dX3_period_7 : decode cX3_period 7 = .ok (.if_icmp .ge 22, 3) := by decide +kernel
theorem dX3_period_10 : decode cX3_period 10 = .ok (.iload_n 1, 1) := by decide +kernel
theorem dX3_period_11 : decode cX3_period 11 = .ok (.sipush 1672, 3) := by decide +kernel
theorem dX3_period_14 : decode cX3_period 14 = .ok (.if_icmp .eq 15, 3) := by decide +kernel
theorem dX3_period_17 : decode cX3_period 17 = .ok (.iload_n 1, 1) := by decide +kernel
theorem dX3_period_18 : decode cX3_period 18 = .ok (.iload_n 0, 1) := by decide +kernel
theorem dX3_period_19 : decode cX3_period 19 = .ok (.invokestatic 27, 3) := by decide +kernel
theorem dX3_period_22 : decode cX3_period 22 = .ok (.istore_n 1, 1) := by decide +kernel
theorem dX3_period_23 : decode cX3_period 23 = .ok (.iinc 2 1, 3) := by decide +kernel
theorem dX3_period_26 : decode cX3_period 26 = .ok (.goto (-22), 3) := by decide +kernel
theorem dX3_period_29 : decode cX3_period 29 = .ok (.iload_n 2, 1) := by decide +kernel
theorem dX3_period_30 : decode cX3_period 30 = .ok (.ireturn, 1) := by decide +kernel
theorem dX3_layersHome_0 : decode cX3_layersHome 0 = .ok (.iconst 0, 1) := by decide +kernel
theorem dX3_layersHome_1 : decode cX3_layersHome 1 = .ok (.istore_n 1, 1) := by decide +kernel
theorem dX3_layersHome_2 : decode cX3_layersHome 2 = .ok (.iconst 0, 1) := by decide +kernel
theorem dX3_layersHome_3 : decode cX3_layersHome 3 = .ok (.istore_n 2, 1) := by decide +kernel
theorem dX3_layersHome_4 : decode cX3_layersHome 4 = .ok (.iload_n 2, 1) := by decide +kernel
theorem dX3_layersHome_5 : decode cX3_layersHome 5 = .ok (.iconst 4, 1) := by decide +kernel
theorem dX3_layersHome_6 : decode cX3_layersHome 6 = .ok (.if_icmp .ge 28, 3) := by decide +kernel
theorem dX3_layersHome_9 : decode cX3_layersHome 9 = .ok (.iload_n 1, 1) := by decide +kernel
theorem dX3_layersHome_10 : decode cX3_layersHome 10 = .ok (.iload_n 0, 1) := by decide +kernel
theorem dX3_layersHome_11 : decode cX3_layersHome 11 = .ok (.iload_n 2, 1) := by decide +kernel
theorem dX3_layersHome_12 : decode cX3_layersHome 12 = .ok (.invokestatic 11, 3) := by decide +kernel
theorem dX3_layersHome_15 : decode cX3_layersHome 15 = .ok (.iload_n 2, 1) := by decide +kernel
theorem dX3_layersHome_16 : decode cX3_layersHome 16 = .ok (.iconst 1, 1) := by decide +kernel
theorem dX3_layersHome_17 : decode cX3_layersHome 17 = .ok (.iadd, 1) := by decide +kernel
theorem dX3_layersHome_18 : decode cX3_layersHome 18 = .ok (.if_icmp .ne 7, 3) := by decide +kernel
theorem dX3_layersHome_21 : decode cX3_layersHome 21 = .ok (.iconst 1, 1) := by decide +kernel
theorem dX3_layersHome_22 : decode cX3_layersHome 22 = .ok (.goto 4, 3) := by decide +kernel
theorem dX3_layersHome_25 : decode cX3_layersHome 25 = .ok (.iconst 0, 1) := by decide +kernel
theorem dX3_layersHome_26 : decode cX3_layersHome 26 = .ok (.iadd, 1) := by decide +kernel
theorem dX3_layersHome_27 : decode cX3_layersHome 27 = .ok (.istore_n 1, 1) := by decide +kernel
theorem dX3_layersHome_28 : decode cX3_layersHome 28 = .ok (.iinc 2 1, 3) := by decide +kernel
theorem dX3_layersHome_31 : decode cX3_layersHome 31 = .ok (.goto (-27), 3) := by decide +kernel
theorem dX3_layersHome_34 : decode cX3_layersHome 34 = .ok (.iload_n 1, 1) := by decide +kernel
theorem dX3_layersHome_35 : decode cX3_layersHome 35 = .ok (.ireturn, 1) := by decide +kernel
theorem dX3_layersTurned_0 : decode cX3_layersTurned 0 = .ok (.iconst 0, 1) := by decide +kernel
theorem dX3_layersTurned_1 : decode cX3_layersTurned 1 = .ok (.istore_n 1, 1) := by decide +kernel
theorem dX3_layersTurned_2 : decode cX3_layersTurned 2 = .ok (.iconst 0, 1) := by decide +kernel
theorem dX3_layersTurned_3 : decode cX3_layersTurned 3 = .ok (.istore_n 2, 1) := by decide +kernel
theorem dX3_layersTurned_4 : decode cX3_layersTurned 4 = .ok (.iload_n 2, 1) := by decide +kernel
theorem dX3_layersTurned_5 : decode cX3_layersTurned 5 = .ok (.iconst 4, 1) := by decide +kernel
theorem dX3_layersTurned_6 : decode cX3_layersTurned 6 = .ok (.if_icmp .ge 25, 3) := by decide +kernel
theorem dX3_layersTurned_9 : decode cX3_layersTurned 9 = .ok (.iload_n 1, 1) := by decide +kernel
theorem dX3_layersTurned_10 : decode cX3_layersTurned 10 = .ok (.iload_n 0, 1) := by decide +kernel
theorem dX3_layersTurned_11 : decode cX3_layersTurned 11 = .ok (.iload_n 2, 1) := by decide +kernel
theorem dX3_layersTurned_12 : decode cX3_layersTurned 12 = .ok (.invokestatic 11, 3) := by decide +kernel
theorem dX3_layersTurned_15 : decode cX3_layersTurned 15 = .ok (.ifCond .ge 7, 3) := by decide +kernel
theorem dX3_layersTurned_18 : decode cX3_layersTurned 18 = .ok (.iconst 1, 1) := by decide +kernel
theorem dX3_layersTurned_19 : decode cX3_layersTurned 19 = .ok (.goto 4, 3) := by decide +kernel
theorem dX3_layersTurned_22 : decode cX3_layersTurned 22 = .ok (.iconst 0, 1) := by decide +kernel
theorem dX3_layersTurned_23 : decode cX3_layersTurned 23 = .ok (.iadd, 1) := by decide +kernel
theorem dX3_layersTurned_24 : decode cX3_layersTurned 24 = .ok (.istore_n 1, 1) := by decide +kernel
theorem dX3_layersTurned_25 : decode cX3_layersTurned 25 = .ok (.iinc 2 1, 3) := by decide +kernel
theorem dX3_layersTurned_28 : decode cX3_layersTurned 28 = .ok (.goto (-24), 3) := by decide +kernel
theorem dX3_layersTurned_31 : decode cX3_layersTurned 31 = .ok (.iload_n 1, 1) := by decide +kernel
theorem dX3_layersTurned_32 : decode cX3_layersTurned 32 = .ok (.ireturn, 1) := by decide +kernel
theorem dX3_isMirror_0 : decode cX3_isMirror 0 = .ok (.iload_n 0, 1) := by decide +kernel
theorem dX3_isMirror_1 : decode cX3_isMirror 1 = .ok (.invokestatic 43, 3) := by decide +kernel
theorem dX3_isMirror_4 : decode cX3_isMirror 4 = .ok (.iconst 2, 1) := by decide +kernel
theorem dX3_isMirror_5 : decode cX3_isMirror 5 = .ok (.if_icmp .lt 17, 3) := by decide +kernel
theorem dX3_isMirror_8 : decode cX3_isMirror 8 = .ok (.iload_n 0, 1) := by decide +kernel
theorem dX3_isMirror_9 : decode cX3_isMirror 9 = .ok (.invokestatic 30, 3) := by decide +kernel
theorem dX3_isMirror_12 : decode cX3_isMirror 12 = .ok (.iconst 1, 1) := by decide +kernel
theorem dX3_isMirror_13 : decode cX3_isMirror 13 = .ok (.iand, 1) := by decide +kernel
theorem dX3_isMirror_14 : decode cX3_isMirror 14 = .ok (.iconst 1, 1) := by decide +kernel
theorem dX3_isMirror_15 : decode cX3_isMirror 15 = .ok (.if_icmp .ne 7, 3) := by decide +kernel
theorem dX3_isMirror_18 : decode cX3_isMirror 18 = .ok (.iconst 1, 1) := by decide +kernel
theorem dX3_isMirror_19 : decode cX3_isMirror 19 = .ok (.goto 4, 3) := by decide +kernel
theorem dX3_isMirror_22 : decode cX3_isMirror 22 = .ok (.iconst 0, 1) := by decide +kernel
theorem dX3_isMirror_23 : decode cX3_isMirror 23 = .ok (.ireturn, 1) := by decide +kernel
theorem dX4_init_0 : decode cX4_init 0 = .ok (.aload_n 0, 1) := by decide +kernel
theorem dX4_init_1 : decode cX4_init 1 = .ok (.invokespecial 3, 3) := by decide +kernel
theorem dX4_init_4 : decode cX4_init 4 = .ok (.aload_n 0, 1) := by decide +kernel
theorem dX4_init_5 : decode cX4_init 5 = .ok (.iconst 5, 1) := by decide +kernel
theorem dX4_init_6 : decode cX4_init 6 = .ok (.anewarray 9, 3) := by decide +kernel
theorem dX4_init_9 : decode cX4_init 9 = .ok (.putfield 11, 3) := by decide +kernel
theorem dX4_init_12 : decode cX4_init 12 = .ok (.iconst 0, 1) := by decide +kernel
theorem dX4_init_13 : decode cX4_init 13 = .ok (.istore_n 1, 1) := by decide +kernel
theorem dX4_init_14 : decode cX4_init 14 = .ok (.iload_n 1, 1) := by decide +kernel
theorem dX4_init_15 : decode cX4_init 15 = .ok (.aload_n 0, 1) := by decide +kernel
theorem dX4_init_16 : decode cX4_init 16 = .ok (.getfield 11, 3) := by decide +kernel
theorem dX4_init_19 : decode cX4_init 19 = .ok (.arraylength, 1) := by decide +kernel
theorem dX4_init_20 : decode cX4_init 20 = .ok (.if_icmp .ge 22, 3) := by decide +kernel
theorem dX4_init_23 : decode cX4_init 23 = .ok (.aload_n 0, 1) := by decide +kernel
theorem dX4_init_24 : decode cX4_init 24 = .ok (.getfield 11, 3) := by decide +kernel
theorem dX4_init_27 : decode cX4_init 27 = .ok (.iload_n 1, 1) := by decide +kernel
theorem dX4_init_28 : decode cX4_init 28 = .ok (.new 9, 3) := by decide +kernel
theorem dX4_init_31 : decode cX4_init 31 = .ok (.dup, 1) := by decide +kernel
theorem dX4_init_32 : decode cX4_init 32 = .ok (.invokespecial 17, 3) := by decide +kernel
theorem dX4_init_35 : decode cX4_init 35 = .ok (.aastore, 1) := by decide +kernel
theorem dX4_init_36 : decode cX4_init 36 = .ok (.iinc 1 1, 3) := by decide +kernel
theorem dX4_init_39 : decode cX4_init 39 = .ok (.goto (-25), 3) := by decide +kernel
theorem dX4_init_42 : decode cX4_init 42 = .ok (.return_, 1) := by decide +kernel
theorem dX4_at_0 : decode cX4_at 0 = .ok (.iload_n 1, 1) := by decide +kernel
theorem dX4_at_1 : decode cX4_at 1 = .ok (.ifCond .lt 12, 3) := by decide +kernel
theorem dX4_at_4 : decode cX4_at 4 = .ok (.iload_n 1, 1) := by decide +kernel
theorem dX4_at_5 : decode cX4_at 5 = .ok (.aload_n 0, 1) := by decide +kernel
theorem dX4_at_6 : decode cX4_at 6 = .ok (.getfield 11, 3) := by decide +kernel
theorem dX4_at_9 : decode cX4_at 9 = .ok (.arraylength, 1) := by decide +kernel
theorem dX4_at_10 : decode cX4_at 10 = .ok (.if_icmp .lt 13, 3) := by decide +kernel
theorem dX4_at_13 : decode cX4_at 13 = .ok (.new 18, 3) := by decide +kernel
theorem dX4_at_16 : decode cX4_at 16 = .ok (.dup, 1) := by decide +kernel
theorem dX4_at_17 : decode cX4_at 17 = .ok (.ldc 20, 2) := by decide +kernel
theorem dX4_at_19 : decode cX4_at 19 = .ok (.invokespecial 22, 3) := by decide +kernel
theorem dX4_at_22 : decode cX4_at 22 = .ok (.athrow, 1) := by decide +kernel
theorem dX4_at_23 : decode cX4_at 23 = .ok (.aload_n 0, 1) := by decide +kernel
theorem dX4_at_24 : decode cX4_at 24 = .ok (.getfield 11, 3) := by decide +kernel
theorem dX4_at_27 : decode cX4_at 27 = .ok (.iload_n 1, 1) := by decide +kernel
theorem dX4_at_28 : decode cX4_at 28 = .ok (.aaload, 1) := by decide +kernel
theorem dX4_at_29 : decode cX4_at 29 = .ok (.areturn, 1) := by decide +kernel
theorem dX4_copy_0 : decode cX4_copy 0 = .ok (.iconst 0, 1) := by decide +kernel
theorem dX4_copy_1 : decode cX4_copy 1 = .ok (.istore_n 2, 1) := by decide +kernel
theorem dX4_copy_2 : decode cX4_copy 2 = .ok (.iload_n 2, 1) := by decide +kernel
theorem dX4_copy_3 : decode cX4_copy 3 = .ok (.aload_n 0, 1) := by decide +kernel
theorem dX4_copy_4 : decode cX4_copy 4 = .ok (.getfield 11, 3) := by decide +kernel
theorem dX4_copy_7 : decode cX4_copy 7 = .ok (.arraylength, 1) := by decide +kernel
theorem dX4_copy_8 : decode cX4_copy 8 = .ok (.if_icmp .ge 23, 3) := by decide +kernel
theorem dX4_copy_11 : decode cX4_copy 11 = .ok (.aload_n 0, 1) := by decide +kernel
theorem dX4_copy_12 : decode cX4_copy 12 = .ok (.getfield 11, 3) := by decide +kernel
theorem dX4_copy_15 : decode cX4_copy 15 = .ok (.iload_n 2, 1) := by decide +kernel
theorem dX4_copy_16 : decode cX4_copy 16 = .ok (.aaload, 1) := by decide +kernel
theorem dX4_copy_17 : decode cX4_copy 17 = .ok (.aload_n 1, 1) := by decide +kernel
theorem dX4_copy_18 : decode cX4_copy 18 = .ok (.iload_n 2, 1) := by decide +kernel
theorem dX4_copy_19 : decode cX4_copy 19 = .ok (.invokevirtual 25, 3) := by decide +kernel
theorem dX4_copy_22 : decode cX4_copy 22 = .ok (.invokevirtual 29, 3) := by decide +kernel
theorem dX4_copy_25 : decode cX4_copy 25 = .ok (.iinc 2 1, 3) := by decide +kernel
theorem dX4_copy_28 : decode cX4_copy 28 = .ok (.goto (-26), 3) := by decide +kernel
theorem dX4_copy_31 : decode cX4_copy 31 = .ok (.return_, 1) := by decide +kernel
theorem dX4_together_0 : decode cX4_together 0 = .ok (.iconst 0, 1) := by decide +kernel
theorem dX4_together_1 : decode cX4_together 1 = .ok (.istore_n 2, 1) := by decide +kernel
theorem dX4_together_2 : decode cX4_together 2 = .ok (.iconst 0, 1) := by decide +kernel
theorem dX4_together_3 : decode cX4_together 3 = .ok (.istore_n 3, 1) := by decide +kernel
theorem dX4_together_4 : decode cX4_together 4 = .ok (.iload_n 3, 1) := by decide +kernel
theorem dX4_together_5 : decode cX4_together 5 = .ok (.aload_n 0, 1) := by decide +kernel
theorem dX4_together_6 : decode cX4_together 6 = .ok (.getfield 11, 3) := by decide +kernel
theorem dX4_together_9 : decode cX4_together 9 = .ok (.arraylength, 1) := by decide +kernel
theorem dX4_together_10 : decode cX4_together 10 = .ok (.if_icmp .ge 22, 3) := by decide +kernel
theorem dX4_together_13 : decode cX4_together 13 = .ok (.iload_n 2, 1) := by decide +kernel
theorem dX4_together_14 : decode cX4_together 14 = .ok (.aload_n 0, 1) := by decide +kernel
theorem dX4_together_15 : decode cX4_together 15 = .ok (.getfield 11, 3) := by decide +kernel
theorem dX4_together_18 : decode cX4_together 18 = .ok (.iload_n 3, 1) := by decide +kernel
theorem dX4_together_19 : decode cX4_together 19 = .ok (.aaload, 1) := by decide +kernel
theorem dX4_together_20 : decode cX4_together 20 = .ok (.iload_n 1, 1) := by decide +kernel
theorem dX4_together_21 : decode cX4_together 21 = .ok (.invokevirtual 33, 3) := by decide +kernel
theorem dX4_together_24 : decode cX4_together 24 = .ok (.iadd, 1) := by decide +kernel
theorem dX4_together_25 : decode cX4_together 25 = .ok (.istore_n 2, 1) := by decide +kernel
theorem dX4_together_26 : decode cX4_together 26 = .ok (.iinc 3 1, 3) := by decide +kernel
theorem dX4_together_29 : decode cX4_together 29 = .ok (.goto (-25), 3) := by decide +kernel
theorem dX4_together_32 : decode cX4_together 32 = .ok (.iload_n 2, 1) := by decide +kernel
theorem dX4_together_33 : decode cX4_together 33 = .ok (.ireturn, 1) := by decide +kernel
theorem dX4_flatLetters_0 : decode cX4_flatLetters 0 = .ok (.iconst 0, 1) := by decide +kernel
theorem dX4_flatLetters_1 : decode cX4_flatLetters 1 = .ok (.istore_n 1, 1) := by decide +kernel
theorem dX4_flatLetters_2 : decode cX4_flatLetters 2 = .ok (.iconst 0, 1) := by decide +kernel
theorem dX4_flatLetters_3 : decode cX4_flatLetters 3 = .ok (.istore_n 2, 1) := by decide +kernel
theorem dX4_flatLetters_4 : decode cX4_flatLetters 4 = .ok (.iload_n 2, 1) := by decide +kernel
theorem dX4_flatLetters_5 : decode cX4_flatLetters 5 = .ok (.aload_n 0, 1) := by decide +kernel
theorem dX4_flatLetters_6 : decode cX4_flatLetters 6 = .ok (.getfield 11, 3) := by decide +kernel
theorem dX4_flatLetters_9 : decode cX4_flatLetters 9 = .ok (.arraylength, 1) := by decide +kernel
theorem dX4_flatLetters_10 : decode cX4_flatLetters 10 = .ok (.if_icmp .ge 32, 3) := by decide +kernel
theorem dX4_flatLetters_13 : decode cX4_flatLetters 13 = .ok (.iload_n 1, 1) := by decide +kernel
theorem dX4_flatLetters_14 : decode cX4_flatLetters 14 = .ok (.aload_n 0, 1) := by decide +kernel
theorem dX4_flatLetters_15 : decode cX4_flatLetters 15 = .ok (.getfield 11, 3) := by decide +kernel
theorem dX4_flatLetters_18 : decode cX4_flatLetters 18 = .ok (.iload_n 2, 1) := by decide +kernel
theorem dX4_flatLetters_19 : decode cX4_flatLetters 19 = .ok (.aaload, 1) := by decide +kernel
theorem dX4_flatLetters_20 : decode cX4_flatLetters 20 = .ok (.invokevirtual 37, 3) := by decide +kernel
theorem dX4_flatLetters_23 : decode cX4_flatLetters 23 = .ok (.sipush 1672, 3) := by decide +kernel
theorem dX4_flatLetters_26 : decode cX4_flatLetters 26 = .ok (.if_icmp .ne 7, 3) := by decide +kernel
theorem dX4_flatLetters_29 : decode cX4_flatLetters 29 = .ok (.iconst 1, 1) := by decide +kernel
theorem dX4_flatLetters_30 : decode cX4_flatLetters 30 = .ok (.goto 4, 3) := by decide +kernel
theorem dX4_flatLetters_33 : decode cX4_flatLetters 33 = .ok (.iconst 0, 1) := by decide +kernel
theorem dX4_flatLetters_34 : decode cX4_flatLetters 34 = .ok (.iadd, 1) := by decide +kernel
theorem dX4_flatLetters_35 : decode cX4_flatLetters 35 = .ok (.istore_n 1, 1) := by decide +kernel
theorem dX4_flatLetters_36 : decode cX4_flatLetters 36 = .ok (.iinc 2 1, 3) := by decide +kernel
theorem dX4_flatLetters_39 : decode cX4_flatLetters 39 = .ok (.goto (-35), 3) := by decide +kernel
theorem dX4_flatLetters_42 : decode cX4_flatLetters 42 = .ok (.iload_n 1, 1) := by decide +kernel
theorem dX4_flatLetters_43 : decode cX4_flatLetters 43 = .ok (.ireturn, 1) := by decide +kernel
theorem dX4_sealedPositions_0 : decode cX4_sealedPositions 0 = .ok (.iconst 0, 1) := by decide +kernel
theorem dX4_sealedPositions_1 : decode cX4_sealedPositions 1 = .ok (.istore_n 1, 1) := by decide +kernel
theorem dX4_sealedPositions_2 : decode cX4_sealedPositions 2 = .ok (.iconst 0, 1) := by decide +kernel
theorem dX4_sealedPositions_3 : decode cX4_sealedPositions 3 = .ok (.istore_n 2, 1) := by decide +kernel
theorem dX4_sealedPositions_4 : decode cX4_sealedPositions 4 = .ok (.iload_n 2, 1) := by decide +kernel
theorem dX4_sealedPositions_5 : decode cX4_sealedPositions 5 = .ok (.aload_n 0, 1) := by decide +kernel
theorem dX4_sealedPositions_6 : decode cX4_sealedPositions 6 = .ok (.getfield 11, 3) := by decide +kernel
theorem dX4_sealedPositions_9 : decode cX4_sealedPositions 9 = .ok (.arraylength, 1) := by decide +kernel
theorem dX4_sealedPositions_10 : decode cX4_sealedPositions 10 = .ok (.if_icmp .ge 21, 3) := by decide +kernel
theorem dX4_sealedPositions_13 : decode cX4_sealedPositions 13 = .ok (.iload_n 1, 1) := by decide +kernel
theorem dX4_sealedPositions_14 : decode cX4_sealedPositions 14 = .ok (.aload_n 0, 1) := by decide +kernel
theorem dX4_sealedPositions_15 : decode cX4_sealedPositions 15 = .ok (.getfield 11, 3) := by decide +kernel
theorem dX4_sealedPositions_18 : decode cX4_sealedPositions 18 = .ok (.iload_n 2, 1) := by decide +kernel
theorem dX4_sealedPositions_19 : decode cX4_sealedPositions 19 = .ok (.aaload, 1) := by decide +kernel
theorem dX4_sealedPositions_20 : decode cX4_sealedPositions 20 = .ok (.invokevirtual 43, 3) := by decide +kernel
theorem dX4_sealedPositions_23 : decode cX4_sealedPositions 23 = .ok (.iadd, 1) := by decide +kernel
theorem dX4_sealedPositions_24 : decode cX4_sealedPositions 24 = .ok (.istore_n 1, 1) := by decide +kernel
theorem dX4_sealedPositions_25 : decode cX4_sealedPositions 25 = .ok (.iinc 2 1, 3) := by decide +kernel
theorem dX4_sealedPositions_28 : decode cX4_sealedPositions 28 = .ok (.goto (-24), 3) := by decide +kernel
theorem dX4_sealedPositions_31 : decode cX4_sealedPositions 31 = .ok (.iload_n 1, 1) := by decide +kernel
theorem dX4_sealedPositions_32 : decode cX4_sealedPositions 32 = .ok (.ireturn, 1) := by decide +kernel
theorem dX4_unlikeLies_0 : decode cX4_unlikeLies 0 = .ok (.iconst 0, 1) := by decide +kernel
theorem dX4_unlikeLies_1 : decode cX4_unlikeLies 1 = .ok (.istore_n 1, 1) := by decide +kernel
theorem dX4_unlikeLies_2 : decode cX4_unlikeLies 2 = .ok (.iconst 0, 1) := by decide +kernel
theorem dX4_unlikeLies_3 : decode cX4_unlikeLies 3 = .ok (.istore_n 2, 1) := by decide +kernel
theorem dX4_unlikeLies_4 : decode cX4_unlikeLies 4 = .ok (.iload_n 2, 1) := by decide +kernel
theorem dX4_unlikeLies_5 : decode cX4_unlikeLies 5 = .ok (.aload_n 0, 1) := by decide +kernel
theorem dX4_unlikeLies_6 : decode cX4_unlikeLies 6 = .ok (.getfield 11, 3) := by decide +kernel
theorem dX4_unlikeLies_9 : decode cX4_unlikeLies 9 = .ok (.arraylength, 1) := by decide +kernel
theorem dX4_unlikeLies_10 : decode cX4_unlikeLies 10 = .ok (.if_icmp .ge 25, 3) := by decide +kernel
theorem dX4_unlikeLies_13 : decode cX4_unlikeLies 13 = .ok (.iload_n 1, 1) := by decide +kernel
theorem dX4_unlikeLies_14 : decode cX4_unlikeLies 14 = .ok (.aload_n 0, 1) := by decide +kernel
theorem dX4_unlikeLies_15 : decode cX4_unlikeLies 15 = .ok (.iload_n 2, 1) := by decide +kernel
theorem dX4_unlikeLies_16 : decode cX4_unlikeLies 16 = .ok (.invokevirtual 46, 3) := by decide +kernel
theorem dX4_unlikeLies_19 : decode cX4_unlikeLies 19 = .ok (.ifCond .eq 7, 3) := by decide +kernel
theorem dX4_unlikeLies_22 : decode cX4_unlikeLies 22 = .ok (.iconst 0, 1) := by decide +kernel
theorem dX4_unlikeLies_23 : decode cX4_unlikeLies 23 = .ok (.goto 4, 3) := by decide +kernel
theorem dX4_unlikeLies_26 : decode cX4_unlikeLies 26 = .ok (.iconst 1, 1) := by decide +kernel
theorem dX4_unlikeLies_27 : decode cX4_unlikeLies 27 = .ok (.iadd, 1) := by decide +kernel
theorem dX4_unlikeLies_28 : decode cX4_unlikeLies 28 = .ok (.istore_n 1, 1) := by decide +kernel
theorem dX4_unlikeLies_29 : decode cX4_unlikeLies 29 = .ok (.iinc 2 1, 3) := by decide +kernel
theorem dX4_unlikeLies_32 : decode cX4_unlikeLies 32 = .ok (.goto (-28), 3) := by decide +kernel
theorem dX4_unlikeLies_35 : decode cX4_unlikeLies 35 = .ok (.iload_n 1, 1) := by decide +kernel
theorem dX4_unlikeLies_36 : decode cX4_unlikeLies 36 = .ok (.ireturn, 1) := by decide +kernel
theorem dX4_liesAsOneBefore_0 : decode cX4_liesAsOneBefore 0 = .ok (.iconst 0, 1) := by decide +kernel
theorem dX4_liesAsOneBefore_1 : decode cX4_liesAsOneBefore 1 = .ok (.istore_n 2, 1) := by decide +kernel
theorem dX4_liesAsOneBefore_2 : decode cX4_liesAsOneBefore 2 = .ok (.iload_n 2, 1) := by decide +kernel
theorem dX4_liesAsOneBefore_3 : decode cX4_liesAsOneBefore 3 = .ok (.iload_n 1, 1) := by decide +kernel
theorem dX4_liesAsOneBefore_4 : decode cX4_liesAsOneBefore 4 = .ok (.if_icmp .ge 30, 3) := by decide +kernel
theorem dX4_liesAsOneBefore_7 : decode cX4_liesAsOneBefore 7 = .ok (.aload_n 0, 1) := by decide +kernel
theorem dX4_liesAsOneBefore_8 : decode cX4_liesAsOneBefore 8 = .ok (.iload_n 2, 1) := by decide +kernel
theorem dX4_liesAsOneBefore_9 : decode cX4_liesAsOneBefore 9 = .ok (.invokevirtual 25, 3) := by decide +kernel
theorem dX4_liesAsOneBefore_12 : decode cX4_liesAsOneBefore 12 = .ok (.invokevirtual 37, 3) := by decide +kernel
theorem dX4_liesAsOneBefore_15 : decode cX4_liesAsOneBefore 15 = .ok (.aload_n 0, 1) := by decide +kernel
theorem dX4_liesAsOneBefore_16 : decode cX4_liesAsOneBefore 16 = .ok (.iload_n 1, 1) := by decide +kernel
theorem dX4_liesAsOneBefore_17 : decode cX4_liesAsOneBefore 17 = .ok (.invokevirtual 25, 3) := by decide +kernel
theorem dX4_liesAsOneBefore_20 : decode cX4_liesAsOneBefore 20 = .ok (.invokevirtual 37, 3) := by decide +kernel
theorem dX4_liesAsOneBefore_23 : decode cX4_liesAsOneBefore 23 = .ok (.if_icmp .ne 5, 3) := by decide +kernel
theorem dX4_liesAsOneBefore_26 : decode cX4_liesAsOneBefore 26 = .ok (.iconst 1, 1) := by decide +kernel
theorem dX4_liesAsOneBefore_27 : decode cX4_liesAsOneBefore 27 = .ok (.ireturn, 1) := by decide +kernel
theorem dX4_liesAsOneBefore_28 : decode cX4_liesAsOneBefore 28 = .ok (.iinc 2 1, 3) := by decide +kernel
theorem dX4_liesAsOneBefore_31 : decode cX4_liesAsOneBefore 31 = .ok (.goto (-29), 3) := by decide +kernel
theorem dX4_liesAsOneBefore_34 : decode cX4_liesAsOneBefore 34 = .ok (.iconst 0, 1) := by decide +kernel
theorem dX4_liesAsOneBefore_35 : decode cX4_liesAsOneBefore 35 = .ok (.ireturn, 1) := by decide +kernel
theorem dX5_init_0 : decode cX5_init 0 = .ok (.aload_n 0, 1) := by decide +kernel
theorem dX5_init_1 : decode cX5_init 1 = .ok (.invokespecial 1, 3) := by decide +kernel
theorem dX5_init_4 : decode cX5_init 4 = .ok (.return_, 1) := by decide +kernel
theorem dX6_init_0 : decode cX6_init 0 = .ok (.aload_n 0, 1) := by decide +kernel
theorem dX6_init_1 : decode cX6_init 1 = .ok (.invokespecial 3, 3) := by decide +kernel
theorem dX6_init_4 : decode cX6_init 4 = .ok (.aload_n 0, 1) := by decide +kernel
theorem dX6_init_5 : decode cX6_init 5 = .ok (.bipush 60, 2) := by decide +kernel
theorem dX6_init_7 : decode cX6_init 7 = .ok (.newarray .int, 2) := by decide +kernel
theorem dX6_init_9 : decode cX6_init 9 = .ok (.putfield 11, 3) := by decide +kernel
theorem dX6_init_12 : decode cX6_init 12 = .ok (.return_, 1) := by decide +kernel
theorem dX6_size_0 : decode cX6_size 0 = .ok (.aload_n 0, 1) := by decide +kernel
theorem dX6_size_1 : decode cX6_size 1 = .ok (.getfield 15, 3) := by decide +kernel
theorem dX6_size_4 : decode cX6_size 4 = .ok (.ireturn, 1) := by decide +kernel
theorem dX6_isFull_0 : decode cX6_isFull 0 = .ok (.aload_n 0, 1) := by decide +kernel
theorem dX6_isFull_1 : decode cX6_isFull 1 = .ok (.getfield 15, 3) := by decide +kernel
theorem dX6_isFull_4 : decode cX6_isFull 4 = .ok (.aload_n 0, 1) := by decide +kernel
theorem dX6_isFull_5 : decode cX6_isFull 5 = .ok (.getfield 11, 3) := by decide +kernel
theorem dX6_isFull_8 : decode cX6_isFull 8 = .ok (.arraylength, 1) := by decide +kernel
theorem dX6_isFull_9 : decode cX6_isFull 9 = .ok (.if_icmp .lt 7, 3) := by decide +kernel
theorem dX6_isFull_12 : decode cX6_isFull 12 = .ok (.iconst 1, 1) := by decide +kernel
theorem dX6_isFull_13 : decode cX6_isFull 13 = .ok (.goto 4, 3) := by decide +kernel
theorem dX6_isFull_16 : decode cX6_isFull 16 = .ok (.iconst 0, 1) := by decide +kernel
theorem dX6_isFull_17 : decode cX6_isFull 17 = .ok (.ireturn, 1) := by decide +kernel
theorem dX6_at_0 : decode cX6_at 0 = .ok (.iload_n 1, 1) := by decide +kernel
theorem dX6_at_1 : decode cX6_at 1 = .ok (.ifCond .lt 29, 3) := by decide +kernel
theorem dX6_at_4 : decode cX6_at 4 = .ok (.iload_n 1, 1) := by decide +kernel
theorem dX6_at_5 : decode cX6_at 5 = .ok (.aload_n 0, 1) := by decide +kernel
theorem dX6_at_6 : decode cX6_at 6 = .ok (.getfield 15, 3) := by decide +kernel
theorem dX6_at_9 : decode cX6_at 9 = .ok (.if_icmp .ge 21, 3) := by decide +kernel
theorem dX6_at_12 : decode cX6_at 12 = .ok (.iload_n 1, 1) := by decide +kernel
theorem dX6_at_13 : decode cX6_at 13 = .ok (.aload_n 0, 1) := by decide +kernel
theorem dX6_at_14 : decode cX6_at 14 = .ok (.getfield 11, 3) := by decide +kernel
theorem dX6_at_17 : decode cX6_at 17 = .ok (.arraylength, 1) := by decide +kernel
theorem dX6_at_18 : decode cX6_at 18 = .ok (.if_icmp .ge 12, 3) := by decide +kernel
theorem dX6_at_21 : decode cX6_at 21 = .ok (.aload_n 0, 1) := by decide +kernel
theorem dX6_at_22 : decode cX6_at 22 = .ok (.getfield 11, 3) := by decide +kernel
theorem dX6_at_25 : decode cX6_at 25 = .ok (.iload_n 1, 1) := by decide +kernel
theorem dX6_at_26 : decode cX6_at 26 = .ok (.iaload, 1) := by decide +kernel
theorem dX6_at_27 : decode cX6_at 27 = .ok (.goto 5, 3) := by decide +kernel
theorem dX6_at_30 : decode cX6_at 30 = .ok (.bipush (-10), 2) := by decide +kernel
theorem dX6_at_32 : decode cX6_at 32 = .ok (.ireturn, 1) := by decide +kernel
theorem dX6_add_0 : decode cX6_add 0 = .ok (.aload_n 0, 1) := by decide +kernel
theorem dX6_add_1 : decode cX6_add 1 = .ok (.getfield 15, 3) := by decide +kernel
theorem dX6_add_4 : decode cX6_add 4 = .ok (.ifCond .lt 35, 3) := by decide +kernel
theorem dX6_add_7 : decode cX6_add 7 = .ok (.aload_n 0, 1) := by decide +kernel
theorem dX6_add_8 : decode cX6_add 8 = .ok (.getfield 15, 3) := by decide +kernel
theorem dX6_add_11 : decode cX6_add 11 = .ok (.aload_n 0, 1) := by decide +kernel
theorem dX6_add_12 : decode cX6_add 12 = .ok (.getfield 11, 3) := by decide +kernel
theorem dX6_add_15 : decode cX6_add 15 = .ok (.arraylength, 1) := by decide +kernel
theorem dX6_add_16 : decode cX6_add 16 = .ok (.if_icmp .ge 23, 3) := by decide +kernel
theorem dX6_add_19 : decode cX6_add 19 = .ok (.aload_n 0, 1) := by decide +kernel
theorem dX6_add_20 : decode cX6_add 20 = .ok (.getfield 11, 3) := by decide +kernel
theorem dX6_add_23 : decode cX6_add 23 = .ok (.aload_n 0, 1) := by decide +kernel
theorem dX6_add_24 : decode cX6_add 24 = .ok (.getfield 15, 3) := by decide +kernel
theorem dX6_add_27 : decode cX6_add 27 = .ok (.iload_n 1, 1) := by decide +kernel
theorem dX6_add_28 : decode cX6_add 28 = .ok (.iastore, 1) := by decide +kernel
theorem dX6_add_29 : decode cX6_add 29 = .ok (.aload_n 0, 1) := by decide +kernel
theorem dX6_add_30 : decode cX6_add 30 = .ok (.dup, 1) := by decide +kernel
theorem dX6_add_31 : decode cX6_add 31 = .ok (.getfield 15, 3) := by decide +kernel
theorem dX6_add_34 : decode cX6_add 34 = .ok (.iconst 1, 1) := by decide +kernel
theorem dX6_add_35 : decode cX6_add 35 = .ok (.iadd, 1) := by decide +kernel
theorem dX6_add_36 : decode cX6_add 36 = .ok (.putfield 15, 3) := by decide +kernel
theorem dX6_add_39 : decode cX6_add 39 = .ok (.return_, 1) := by decide +kernel
theorem dX6_dropLast_0 : decode cX6_dropLast 0 = .ok (.aload_n 0, 1) := by decide +kernel
theorem dX6_dropLast_1 : decode cX6_dropLast 1 = .ok (.getfield 15, 3) := by decide +kernel
theorem dX6_dropLast_4 : decode cX6_dropLast 4 = .ok (.ifCond .le 13, 3) := by decide +kernel
theorem dX6_dropLast_7 : decode cX6_dropLast 7 = .ok (.aload_n 0, 1) := by decide +kernel
theorem dX6_dropLast_8 : decode cX6_dropLast 8 = .ok (.dup, 1) := by decide +kernel
theorem dX6_dropLast_9 : decode cX6_dropLast 9 = .ok (.getfield 15, 3) := by decide +kernel
theorem dX6_dropLast_12 : decode cX6_dropLast 12 = .ok (.iconst 1, 1) := by decide +kernel
theorem dX6_dropLast_13 : decode cX6_dropLast 13 = .ok (.isub, 1) := by decide +kernel
theorem dX6_dropLast_14 : decode cX6_dropLast 14 = .ok (.putfield 15, 3) := by decide +kernel
theorem dX6_dropLast_17 : decode cX6_dropLast 17 = .ok (.return_, 1) := by decide +kernel
theorem dX6_clear_0 : decode cX6_clear 0 = .ok (.aload_n 0, 1) := by decide +kernel
theorem dX6_clear_1 : decode cX6_clear 1 = .ok (.iconst 0, 1) := by decide +kernel
theorem dX6_clear_2 : decode cX6_clear 2 = .ok (.putfield 15, 3) := by decide +kernel
theorem dX6_clear_5 : decode cX6_clear 5 = .ok (.return_, 1) := by decide +kernel
theorem dX6_copy_0 : decode cX6_copy 0 = .ok (.aload_n 0, 1) := by decide +kernel
theorem dX6_copy_1 : decode cX6_copy 1 = .ok (.invokevirtual 19, 3) := by decide +kernel
theorem dX6_copy_4 : decode cX6_copy 4 = .ok (.iconst 0, 1) := by decide +kernel
theorem dX6_copy_5 : decode cX6_copy 5 = .ok (.istore_n 2, 1) := by decide +kernel
theorem dX6_copy_6 : decode cX6_copy 6 = .ok (.iload_n 2, 1) := by decide +kernel
theorem dX6_copy_7 : decode cX6_copy 7 = .ok (.aload_n 1, 1) := by decide +kernel
theorem dX6_copy_8 : decode cX6_copy 8 = .ok (.getfield 15, 3) := by decide +kernel
theorem dX6_copy_11 : decode cX6_copy 11 = .ok (.if_icmp .ge 27, 3) := by decide +kernel
theorem dX6_copy_14 : decode cX6_copy 14 = .ok (.iload_n 2, 1) := by decide +kernel
theorem dX6_copy_15 : decode cX6_copy 15 = .ok (.aload_n 0, 1) := by decide +kernel
theorem dX6_copy_16 : decode cX6_copy 16 = .ok (.getfield 11, 3) := by decide +kernel
theorem dX6_copy_19 : decode cX6_copy 19 = .ok (.arraylength, 1) := by decide +kernel
theorem dX6_copy_20 : decode cX6_copy 20 = .ok (.if_icmp .ge 18, 3) := by decide +kernel
theorem dX6_copy_23 : decode cX6_copy 23 = .ok (.aload_n 0, 1) := by decide +kernel
theorem dX6_copy_24 : decode cX6_copy 24 = .ok (.aload_n 1, 1) := by decide +kernel
theorem dX6_copy_25 : decode cX6_copy 25 = .ok (.iload_n 2, 1) := by decide +kernel
theorem dX6_copy_26 : decode cX6_copy 26 = .ok (.invokevirtual 22, 3) := by decide +kernel
theorem dX6_copy_29 : decode cX6_copy 29 = .ok (.invokevirtual 26, 3) := by decide +kernel
theorem dX6_copy_32 : decode cX6_copy 32 = .ok (.iinc 2 1, 3) := by decide +kernel
theorem dX6_copy_35 : decode cX6_copy 35 = .ok (.goto (-29), 3) := by decide +kernel
theorem dX6_copy_38 : decode cX6_copy 38 = .ok (.return_, 1) := by decide +kernel
theorem dX7_init_0 : decode cX7_init 0 = .ok (.aload_n 0, 1) := by decide +kernel
theorem dX7_init_1 : decode cX7_init 1 = .ok (.invokespecial 1, 3) := by decide +kernel
theorem dX7_init_4 : decode cX7_init 4 = .ok (.aload_n 0, 1) := by decide +kernel
theorem dX7_init_5 : decode cX7_init 5 = .ok (.new 7, 3) := by decide +kernel
theorem dX7_init_8 : decode cX7_init 8 = .ok (.dup, 1) := by decide +kernel
theorem dX7_init_9 : decode cX7_init 9 = .ok (.invokespecial 9, 3) := by decide +kernel
theorem dX7_init_12 : decode cX7_init 12 = .ok (.putfield 10, 3) := by decide +kernel
theorem dX7_init_15 : decode cX7_init 15 = .ok (.aload_n 0, 1) := by decide +kernel
theorem dX7_init_16 : decode cX7_init 16 = .ok (.new 16, 3) := by decide +kernel
theorem dX7_init_19 : decode cX7_init 19 = .ok (.dup, 1) := by decide +kernel
theorem dX7_init_20 : decode cX7_init 20 = .ok (.invokespecial 18, 3) := by decide +kernel
theorem dX7_init_23 : decode cX7_init 23 = .ok (.putfield 19, 3) := by decide +kernel
theorem dX7_init_26 : decode cX7_init 26 = .ok (.return_, 1) := by decide +kernel
theorem dX8_init_0 : decode cX8_init 0 = .ok (.aload_n 0, 1) := by decide +kernel
theorem dX8_init_1 : decode cX8_init 1 = .ok (.invokespecial 1, 3) := by decide +kernel
theorem dX8_init_4 : decode cX8_init 4 = .ok (.aload_n 0, 1) := by decide +kernel
theorem dX8_init_5 : decode cX8_init 5 = .ok (.new 7, 3) := by decide +kernel
theorem dX8_init_8 : decode cX8_init 8 = .ok (.dup, 1) := by decide +kernel
theorem dX8_init_9 : decode cX8_init 9 = .ok (.invokespecial 9, 3) := by decide +kernel
theorem dX8_init_12 : decode cX8_init 12 = .ok (.putfield 10, 3) := by decide +kernel
theorem dX8_init_15 : decode cX8_init 15 = .ok (.aload_n 0, 1) := by decide +kernel
theorem dX8_init_16 : decode cX8_init 16 = .ok (.iconst 5, 1) := by decide +kernel
theorem dX8_init_17 : decode cX8_init 17 = .ok (.newarray .int, 2) := by decide +kernel
theorem dX8_init_19 : decode cX8_init 19 = .ok (.putfield 18, 3) := by decide +kernel
theorem dX8_init_22 : decode cX8_init 22 = .ok (.aload_n 0, 1) := by decide +kernel
theorem dX8_init_23 : decode cX8_init 23 = .ok (.iconst 5, 1) := by decide +kernel
theorem dX8_init_24 : decode cX8_init 24 = .ok (.newarray .int, 2) := by decide +kernel
theorem dX8_init_26 : decode cX8_init 26 = .ok (.putfield 22, 3) := by decide +kernel
theorem dX8_init_29 : decode cX8_init 29 = .ok (.return_, 1) := by decide +kernel
theorem dX9_init_0 : decode cX9_init 0 = .ok (.aload_n 0, 1) := by decide +kernel
theorem dX9_init_1 : decode cX9_init 1 = .ok (.invokespecial 3, 3) := by decide +kernel
theorem dX9_init_4 : decode cX9_init 4 = .ok (.aload_n 0, 1) := by decide +kernel
theorem dX9_init_5 : decode cX9_init 5 = .ok (.sipush 384, 3) := by decide +kernel
theorem dX9_init_8 : decode cX9_init 8 = .ok (.newarray .int, 2) := by decide +kernel
theorem dX9_init_10 : decode cX9_init 10 = .ok (.putfield 11, 3) := by decide +kernel
theorem dX9_init_13 : decode cX9_init 13 = .ok (.aload_n 0, 1) := by decide +kernel
theorem dX9_init_14 : decode cX9_init 14 = .ok (.sipush 384, 3) := by decide +kernel
theorem dX9_init_17 : decode cX9_init 17 = .ok (.newarray .int, 2) := by decide +kernel
theorem dX9_init_19 : decode cX9_init 19 = .ok (.putfield 15, 3) := by decide +kernel
theorem dX9_init_22 : decode cX9_init 22 = .ok (.aload_n 0, 1) := by decide +kernel
theorem dX9_init_23 : decode cX9_init 23 = .ok (.bipush 21, 2) := by decide +kernel
theorem dX9_init_25 : decode cX9_init 25 = .ok (.newarray .int, 2) := by decide +kernel
theorem dX9_init_27 : decode cX9_init 27 = .ok (.putfield 18, 3) := by decide +kernel
theorem dX9_init_30 : decode cX9_init 30 = .ok (.return_, 1) := by decide +kernel
theorem dX9_liesAfter_0 : decode cX9_liesAfter 0 = .ok (.aload_n 0, 1) := by decide +kernel
theorem dX9_liesAfter_1 : decode cX9_liesAfter 1 = .ok (.getfield 21, 3) := by decide +kernel
theorem dX9_liesAfter_4 : decode cX9_liesAfter 4 = .ok (.ifCond .ne 7, 3) := by decide +kernel
theorem dX9_liesAfter_7 : decode cX9_liesAfter 7 = .ok (.aload_n 0, 1) := by decide +kernel
theorem dX9_liesAfter_8 : decode cX9_liesAfter 8 = .ok (.invokevirtual 25, 3) := by decide +kernel
theorem dX9_liesAfter_11 : decode cX9_liesAfter 11 = .ok (.iload_n 1, 1) := by decide +kernel
theorem dX9_liesAfter_12 : decode cX9_liesAfter 12 = .ok (.ifCond .lt 21, 3) := by decide +kernel
theorem dX9_liesAfter_15 : decode cX9_liesAfter 15 = .ok (.iload_n 1, 1) := by decide +kernel
theorem dX9_liesAfter_16 : decode cX9_liesAfter 16 = .ok (.aload_n 0, 1) := by decide +kernel
theorem dX9_liesAfter_17 : decode cX9_liesAfter 17 = .ok (.getfield 18, 3) := by decide +kernel
theorem dX9_liesAfter_20 : decode cX9_liesAfter 20 = .ok (.arraylength, 1) := by decide +kernel
theorem dX9_liesAfter_21 : decode cX9_liesAfter 21 = .ok (.if_icmp .ge 12, 3) := by decide +kernel
theorem dX9_liesAfter_24 : decode cX9_liesAfter 24 = .ok (.aload_n 0, 1) := by decide +kernel
theorem dX9_liesAfter_25 : decode cX9_liesAfter 25 = .ok (.getfield 18, 3) := by decide +kernel
theorem dX9_liesAfter_28 : decode cX9_liesAfter 28 = .ok (.iload_n 1, 1) := by decide +kernel
theorem dX9_liesAfter_29 : decode cX9_liesAfter 29 = .ok (.iaload, 1) := by decide +kernel
theorem dX9_liesAfter_30 : decode cX9_liesAfter 30 = .ok (.goto 4, 3) := by decide +kernel
theorem dX9_liesAfter_33 : decode cX9_liesAfter 33 = .ok (.iconst 0, 1) := by decide +kernel
theorem dX9_liesAfter_34 : decode cX9_liesAfter 34 = .ok (.ireturn, 1) := by decide +kernel
theorem dX9_go_0 : decode cX9_go 0 = .ok (.aload_n 0, 1) := by decide +kernel
theorem dX9_go_1 : decode cX9_go 1 = .ok (.sipush 1672, 3) := by decide +kernel
theorem dX9_go_4 : decode cX9_go 4 = .ok (.iconst 0, 1) := by decide +kernel
theorem dX9_go_5 : decode cX9_go 5 = .ok (.invokevirtual 30, 3) := by decide +kernel
theorem dX9_go_8 : decode cX9_go 8 = .ok (.iconst 0, 1) := by decide +kernel
theorem dX9_go_9 : decode cX9_go 9 = .ok (.istore_n 1, 1) := by decide +kernel
theorem dX9_go_10 : decode cX9_go 10 = .ok (.iload_n 1, 1) := by decide +kernel
theorem dX9_go_11 : decode cX9_go 11 = .ok (.aload_n 0, 1) := by decide +kernel
theorem dX9_go_12 : decode cX9_go 12 = .ok (.getfield 21, 3) := by decide +kernel
theorem dX9_go_15 : decode cX9_go 15 = .ok (.if_icmp .ge 72, 3) := by decide +kernel
theorem dX9_go_18 : decode cX9_go 18 = .ok (.iload_n 1, 1) := by decide +kernel
theorem dX9_go_19 : decode cX9_go 19 = .ok (.aload_n 0, 1) := by decide +kernel
theorem dX9_go_20 : decode cX9_go 20 = .ok (.getfield 11, 3) := by decide +kernel
theorem dX9_go_23 : decode cX9_go 23 = .ok (.arraylength, 1) := by decide +kernel
theorem dX9_go_24 : decode cX9_go 24 = .ok (.if_icmp .ge 63, 3) := by decide +kernel
theorem dX9_go_27 : decode cX9_go 27 = .ok (.iload_n 1, 1) := by decide +kernel
theorem dX9_go_28 : decode cX9_go 28 = .ok (.aload_n 0, 1) := by decide +kernel
theorem dX9_go_29 : decode cX9_go 29 = .ok (.getfield 15, 3) := by decide +kernel
theorem dX9_go_32 : decode cX9_go 32 = .ok (.arraylength, 1) := by decide +kernel
theorem dX9_go_33 : decode cX9_go 33 = .ok (.if_icmp .ge 54, 3) := by decide +kernel
theorem dX9_go_36 : decode cX9_go 36 = .ok (.iconst 0, 1) := by decide +kernel
theorem dX9_go_37 : decode cX9_go 37 = .ok (.istore_n 2, 1) := by decide +kernel
theorem dX9_go_38 : decode cX9_go 38 = .ok (.iload_n 2, 1) := by decide +kernel
theorem dX9_go_39 : decode cX9_go 39 = .ok (.iconst 4, 1) := by decide +kernel
theorem dX9_go_40 : decode cX9_go 40 = .ok (.if_icmp .ge 41, 3) := by decide +kernel
theorem dX9_go_43 : decode cX9_go 43 = .ok (.aload_n 0, 1) := by decide +kernel
theorem dX9_go_44 : decode cX9_go 44 = .ok (.getfield 11, 3) := by decide +kernel
theorem dX9_go_47 : decode cX9_go 47 = .ok (.iload_n 1, 1) := by decide +kernel
theorem dX9_go_48 : decode cX9_go 48 = .ok (.iaload, 1) := by decide +kernel
theorem dX9_go_49 : decode cX9_go 49 = .ok (.iload_n 2, 1) := by decide +kernel
theorem dX9_go_50 : decode cX9_go 50 = .ok (.invokestatic 34, 3) := by decide +kernel
theorem dX9_go_53 : decode cX9_go 53 = .ok (.istore_n 3, 1) := by decide +kernel
theorem dX9_go_54 : decode cX9_go 54 = .ok (.iload_n 3, 1) := by decide +kernel
theorem dX9_go_55 : decode cX9_go 55 = .ok (.invokestatic 38, 3) := by decide +kernel
theorem dX9_go_58 : decode cX9_go 58 = .ok (.iload_n 2, 1) := by decide +kernel
theorem dX9_go_59 : decode cX9_go 59 = .ok (.if_icmp .ne 16, 3) := by decide +kernel
theorem dX9_go_62 : decode cX9_go 62 = .ok (.aload_n 0, 1) := by decide +kernel
theorem dX9_go_63 : decode cX9_go 63 = .ok (.iload_n 3, 1) := by decide +kernel
theorem dX9_go_64 : decode cX9_go 64 = .ok (.aload_n 0, 1) := by decide +kernel
theorem dX9_go_65 : decode cX9_go 65 = .ok (.getfield 15, 3) := by decide +kernel
theorem dX9_go_68 : decode cX9_go 68 = .ok (.iload_n 1, 1) := by decide +kernel
theorem dX9_go_69 : decode cX9_go 69 = .ok (.iaload, 1) := by decide +kernel
theorem dX9_go_70 : decode cX9_go 70 = .ok (.iconst 1, 1) := by decide +kernel
theorem dX9_go_71 : decode cX9_go 71 = .ok (.iadd, 1) := by decide +kernel
theorem dX9_go_72 : decode cX9_go 72 = .ok (.invokevirtual 30, 3) := by decide +kernel
theorem dX9_go_75 : decode cX9_go 75 = .ok (.iinc 2 1, 3) := by decide +kernel
theorem dX9_go_78 : decode cX9_go 78 = .ok (.goto (-40), 3) := by decide +kernel
theorem dX9_go_81 : decode cX9_go 81 = .ok (.iinc 1 1, 3) := by decide +kernel
theorem dX9_go_84 : decode cX9_go 84 = .ok (.goto (-74), 3) := by decide +kernel
theorem dX9_go_87 : decode cX9_go 87 = .ok (.return_, 1) := by decide +kernel
theorem dX9_meet_0 : decode cX9_meet 0 = .ok (.aload_n 0, 1) := by decide +kernel
theorem dX9_meet_1 : decode cX9_meet 1 = .ok (.getfield 21, 3) := by decide +kernel
theorem dX9_meet_4 : decode cX9_meet 4 = .ok (.ifCond .lt 31, 3) := by decide +kernel
theorem dX9_meet_7 : decode cX9_meet 7 = .ok (.aload_n 0, 1) := by decide +kernel
theorem dX9_meet_8 : decode cX9_meet 8 = .ok (.getfield 21, 3) := by decide +kernel
theorem dX9_meet_11 : decode cX9_meet 11 = .ok (.aload_n 0, 1) := by decide +kernel
theorem dX9_meet_12 : decode cX9_meet 12 = .ok (.getfield 11, 3) := by decide +kernel
theorem dX9_meet_15 : decode cX9_meet 15 = .ok (.arraylength, 1) := by decide +kernel
theorem dX9_meet_16 : decode cX9_meet 16 = .ok (.if_icmp .ge 19, 3) := by decide +kernel
theorem dX9_meet_19 : decode cX9_meet 19 = .ok (.aload_n 0, 1) := by decide +kernel
theorem dX9_meet_20 : decode cX9_meet 20 = .ok (.getfield 21, 3) := by decide +kernel
theorem dX9_meet_23 : decode cX9_meet 23 = .ok (.aload_n 0, 1) := by decide +kernel
theorem dX9_meet_24 : decode cX9_meet 24 = .ok (.getfield 15, 3) := by decide +kernel
theorem dX9_meet_27 : decode cX9_meet 27 = .ok (.arraylength, 1) := by decide +kernel
theorem dX9_meet_28 : decode cX9_meet 28 = .ok (.if_icmp .ge 7, 3) := by decide +kernel
theorem dX9_meet_31 : decode cX9_meet 31 = .ok (.iconst 1, 1) := by decide +kernel
theorem dX9_meet_32 : decode cX9_meet 32 = .ok (.goto 4, 3) := by decide +kernel
theorem dX9_meet_35 : decode cX9_meet 35 = .ok (.iconst 0, 1) := by decide +kernel
theorem dX9_meet_36 : decode cX9_meet 36 = .ok (.istore_n 3, 1) := by decide +kernel
theorem dX9_meet_37 : decode cX9_meet 37 = .ok (.iload_n 3, 1) := by decide +kernel
theorem dX9_meet_38 : decode cX9_meet 38 = .ok (.ifCond .eq 56, 3) := by decide +kernel
theorem dX9_meet_41 : decode cX9_meet 41 = .ok (.iload_n 2, 1) := by decide +kernel
theorem dX9_meet_42 : decode cX9_meet 42 = .ok (.ifCond .lt 52, 3) := by decide +kernel
theorem dX9_meet_45 : decode cX9_meet 45 = .ok (.iload_n 2, 1) := by decide +kernel
theorem dX9_meet_46 : decode cX9_meet 46 = .ok (.aload_n 0, 1) := by decide +kernel
theorem dX9_meet_47 : decode cX9_meet 47 = .ok (.getfield 18, 3) := by decide +kernel
theorem dX9_meet_50 : decode cX9_meet 50 = .ok (.arraylength, 1) := by decide +kernel
theorem dX9_meet_51 : decode cX9_meet 51 = .ok (.if_icmp .ge 43, 3) := by decide +kernel
theorem dX9_meet_54 : decode cX9_meet 54 = .ok (.aload_n 0, 1) := by decide +kernel
theorem dX9_meet_55 : decode cX9_meet 55 = .ok (.getfield 11, 3) := by decide +kernel
theorem dX9_meet_58 : decode cX9_meet 58 = .ok (.aload_n 0, 1) := by decide +kernel
theorem dX9_meet_59 : decode cX9_meet 59 = .ok (.getfield 21, 3) := by decide +kernel
theorem dX9_meet_62 : decode cX9_meet 62 = .ok (.iload_n 1, 1) := by decide +kernel
theorem dX9_meet_63 : decode cX9_meet 63 = .ok (.iastore, 1) := by decide +kernel
theorem dX9_meet_64 : decode cX9_meet 64 = .ok (.aload_n 0, 1) := by decide +kernel
theorem dX9_meet_65 : decode cX9_meet 65 = .ok (.getfield 15, 3) := by decide +kernel
theorem dX9_meet_68 : decode cX9_meet 68 = .ok (.aload_n 0, 1) := by decide +kernel
theorem dX9_meet_69 : decode cX9_meet 69 = .ok (.getfield 21, 3) := by decide +kernel
theorem dX9_meet_72 : decode cX9_meet 72 = .ok (.iload_n 2, 1) := by decide +kernel
theorem dX9_meet_73 : decode cX9_meet 73 = .ok (.iastore, 1) := by decide +kernel
theorem dX9_meet_74 : decode cX9_meet 74 = .ok (.aload_n 0, 1) := by decide +kernel
theorem dX9_meet_75 : decode cX9_meet 75 = .ok (.getfield 18, 3) := by decide +kernel
theorem dX9_meet_78 : decode cX9_meet 78 = .ok (.iload_n 2, 1) := by decide +kernel
theorem dX9_meet_79 : decode cX9_meet 79 = .ok (.dup2, 1) := by decide +kernel
theorem dX9_meet_80 : decode cX9_meet 80 = .ok (.iaload, 1) := by decide +kernel
theorem dX9_meet_81 : decode cX9_meet 81 = .ok (.iconst 1, 1) := by decide +kernel
theorem dX9_meet_82 : decode cX9_meet 82 = .ok (.iadd, 1) := by decide +kernel
theorem dX9_meet_83 : decode cX9_meet 83 = .ok (.iastore, 1) := by decide +kernel
theorem dX9_meet_84 : decode cX9_meet 84 = .ok (.aload_n 0, 1) := by decide +kernel
theorem dX9_meet_85 : decode cX9_meet 85 = .ok (.dup, 1) := by decide +kernel
theorem dX9_meet_86 : decode cX9_meet 86 = .ok (.getfield 21, 3) := by decide +kernel
theorem dX9_meet_89 : decode cX9_meet 89 = .ok (.iconst 1, 1) := by decide +kernel
theorem dX9_meet_90 : decode cX9_meet 90 = .ok (.iadd, 1) := by decide +kernel
theorem dX9_meet_91 : decode cX9_meet 91 = .ok (.putfield 21, 3) := by decide +kernel
theorem dX9_meet_94 : decode cX9_meet 94 = .ok (.return_, 1) := by decide +kernel
theorem dJ6_bitCount_0f7a4_0 : decode cJ6_bitCount_0f7a4 0 = .ok (.iload_n 0, 1) := by decide +kernel
theorem dJ6_bitCount_0f7a4_1 : decode cJ6_bitCount_0f7a4 1 = .ok (.iload_n 0, 1) := by decide +kernel
theorem dJ6_bitCount_0f7a4_2 : decode cJ6_bitCount_0f7a4 2 = .ok (.iconst 1, 1) := by decide +kernel
theorem dJ6_bitCount_0f7a4_3 : decode cJ6_bitCount_0f7a4 3 = .ok (.iushr, 1) := by decide +kernel
theorem dJ6_bitCount_0f7a4_4 : decode cJ6_bitCount_0f7a4 4 = .ok (.ldc_w 265, 3) := by decide +kernel
theorem dJ6_bitCount_0f7a4_7 : decode cJ6_bitCount_0f7a4 7 = .ok (.iand, 1) := by decide +kernel
theorem dJ6_bitCount_0f7a4_8 : decode cJ6_bitCount_0f7a4 8 = .ok (.isub, 1) := by decide +kernel
theorem dJ6_bitCount_0f7a4_9 : decode cJ6_bitCount_0f7a4 9 = .ok (.istore_n 0, 1) := by decide +kernel
theorem dJ6_bitCount_0f7a4_10 : decode cJ6_bitCount_0f7a4 10 = .ok (.iload_n 0, 1) := by decide +kernel
theorem dJ6_bitCount_0f7a4_11 : decode cJ6_bitCount_0f7a4 11 = .ok (.ldc_w 266, 3) := by decide +kernel
theorem dJ6_bitCount_0f7a4_14 : decode cJ6_bitCount_0f7a4 14 = .ok (.iand, 1) := by decide +kernel
theorem dJ6_bitCount_0f7a4_15 : decode cJ6_bitCount_0f7a4 15 = .ok (.iload_n 0, 1) := by decide +kernel
theorem dJ6_bitCount_0f7a4_16 : decode cJ6_bitCount_0f7a4 16 = .ok (.iconst 2, 1) := by decide +kernel
theorem dJ6_bitCount_0f7a4_17 : decode cJ6_bitCount_0f7a4 17 = .ok (.iushr, 1) := by decide +kernel
theorem dJ6_bitCount_0f7a4_18 : decode cJ6_bitCount_0f7a4 18 = .ok (.ldc_w 266, 3) := by decide +kernel
theorem dJ6_bitCount_0f7a4_21 : decode cJ6_bitCount_0f7a4 21 = .ok (.iand, 1) := by decide +kernel
theorem dJ6_bitCount_0f7a4_22 : decode cJ6_bitCount_0f7a4 22 = .ok (.iadd, 1) := by decide +kernel
theorem dJ6_bitCount_0f7a4_23 : decode cJ6_bitCount_0f7a4 23 = .ok (.istore_n 0, 1) := by decide +kernel
theorem dJ6_bitCount_0f7a4_24 : decode cJ6_bitCount_0f7a4 24 = .ok (.iload_n 0, 1) := by decide +kernel
theorem dJ6_bitCount_0f7a4_25 : decode cJ6_bitCount_0f7a4 25 = .ok (.iload_n 0, 1) := by decide +kernel
theorem dJ6_bitCount_0f7a4_26 : decode cJ6_bitCount_0f7a4 26 = .ok (.iconst 4, 1) := by decide +kernel
theorem dJ6_bitCount_0f7a4_27 : decode cJ6_bitCount_0f7a4 27 = .ok (.iushr, 1) := by decide +kernel
theorem dJ6_bitCount_0f7a4_28 : decode cJ6_bitCount_0f7a4 28 = .ok (.iadd, 1) := by decide +kernel
theorem dJ6_bitCount_0f7a4_29 : decode cJ6_bitCount_0f7a4 29 = .ok (.ldc_w 267, 3) := by decide +kernel
theorem dJ6_bitCount_0f7a4_32 : decode cJ6_bitCount_0f7a4 32 = .ok (.iand, 1) := by decide +kernel
theorem dJ6_bitCount_0f7a4_33 : decode cJ6_bitCount_0f7a4 33 = .ok (.istore_n 0, 1) := by decide +kernel
theorem dJ6_bitCount_0f7a4_34 : decode cJ6_bitCount_0f7a4 34 = .ok (.iload_n 0, 1) := by decide +kernel
theorem dJ6_bitCount_0f7a4_35 : decode cJ6_bitCount_0f7a4 35 = .ok (.iload_n 0, 1) := by decide +kernel
theorem dJ6_bitCount_0f7a4_36 : decode cJ6_bitCount_0f7a4 36 = .ok (.bipush 8, 2) := by decide +kernel
theorem dJ6_bitCount_0f7a4_38 : decode cJ6_bitCount_0f7a4 38 = .ok (.iushr, 1) := by decide +kernel
theorem dJ6_bitCount_0f7a4_39 : decode cJ6_bitCount_0f7a4 39 = .ok (.iadd, 1) := by decide +kernel
theorem dJ6_bitCount_0f7a4_40 : decode cJ6_bitCount_0f7a4 40 = .ok (.istore_n 0, 1) := by decide +kernel
theorem dJ6_bitCount_0f7a4_41 : decode cJ6_bitCount_0f7a4 41 = .ok (.iload_n 0, 1) := by decide +kernel
theorem dJ6_bitCount_0f7a4_42 : decode cJ6_bitCount_0f7a4 42 = .ok (.iload_n 0, 1) := by decide +kernel
theorem dJ6_bitCount_0f7a4_43 : decode cJ6_bitCount_0f7a4 43 = .ok (.bipush 16, 2) := by decide +kernel
theorem dJ6_bitCount_0f7a4_45 : decode cJ6_bitCount_0f7a4 45 = .ok (.iushr, 1) := by decide +kernel
theorem dJ6_bitCount_0f7a4_46 : decode cJ6_bitCount_0f7a4 46 = .ok (.iadd, 1) := by decide +kernel
theorem dJ6_bitCount_0f7a4_47 : decode cJ6_bitCount_0f7a4 47 = .ok (.istore_n 0, 1) := by decide +kernel
theorem dJ6_bitCount_0f7a4_48 : decode cJ6_bitCount_0f7a4 48 = .ok (.iload_n 0, 1) := by decide +kernel
theorem dJ6_bitCount_0f7a4_49 : decode cJ6_bitCount_0f7a4 49 = .ok (.bipush 63, 2) := by decide +kernel
theorem dJ6_bitCount_0f7a4_51 : decode cJ6_bitCount_0f7a4 51 = .ok (.iand, 1) := by decide +kernel
theorem dJ6_bitCount_0f7a4_52 : decode cJ6_bitCount_0f7a4 52 = .ok (.ireturn, 1) := by decide +kernel
theorem dJ9_abs_0f7a4_0 : decode cJ9_abs_0f7a4 0 = .ok (.iload_n 0, 1) := by decide +kernel
theorem dJ9_abs_0f7a4_1 : decode cJ9_abs_0f7a4 1 = .ok (.ifCond .ge 8, 3) := by decide +kernel
theorem dJ9_abs_0f7a4_4 : decode cJ9_abs_0f7a4 4 = .ok (.iload_n 0, 1) := by decide +kernel
theorem dJ9_abs_0f7a4_5 : decode cJ9_abs_0f7a4 5 = .ok (.ineg, 1) := by decide +kernel
theorem dJ9_abs_0f7a4_6 : decode cJ9_abs_0f7a4 6 = .ok (.goto 4, 3) := by decide +kernel
theorem dJ9_abs_0f7a4_9 : decode cJ9_abs_0f7a4 9 = .ok (.iload_n 0, 1) := by decide +kernel
theorem dJ9_abs_0f7a4_10 : decode cJ9_abs_0f7a4 10 = .ok (.ireturn, 1) := by decide +kernel
