theorem dX10_init_0 : decode cX10_init 0 = .ok (.aload_n 0, 1) := by decide +kernel
theorem dX10_init_1 : decode cX10_init 1 = .ok (.invokespecial 1, 3) := by decide +kernel
theorem dX10_init_4 : decode cX10_init 4 = .ok (.aload_n 0, 1) := by decide +kernel
theorem dX10_init_5 : decode cX10_init 5 = .ok (.new 7, 3) := by decide +kernel
theorem dX10_init_8 : decode cX10_init 8 = .ok (.dup, 1) := by decide +kernel
theorem dX10_init_9 : decode cX10_init 9 = .ok (.invokespecial 9, 3) := by decide +kernel
theorem dX10_init_12 : decode cX10_init 12 = .ok (.putfield 10, 3) := by decide +kernel
theorem dX10_init_15 : decode cX10_init 15 = .ok (.aload_n 0, 1) := by decide +kernel
theorem dX10_init_16 : decode cX10_init 16 = .ok (.new 7, 3) := by decide +kernel
theorem dX10_init_19 : decode cX10_init 19 = .ok (.dup, 1) := by decide +kernel
theorem dX10_init_20 : decode cX10_init 20 = .ok (.invokespecial 9, 3) := by decide +kernel
theorem dX10_init_23 : decode cX10_init 23 = .ok (.putfield 16, 3) := by decide +kernel
theorem dX10_init_26 : decode cX10_init 26 = .ok (.aload_n 0, 1) := by decide +kernel
theorem dX10_init_27 : decode cX10_init 27 = .ok (.new 19, 3) := by decide +kernel
theorem dX10_init_30 : decode cX10_init 30 = .ok (.dup, 1) := by decide +kernel
theorem dX10_init_31 : decode cX10_init 31 = .ok (.invokespecial 21, 3) := by decide +kernel
theorem dX10_init_34 : decode cX10_init 34 = .ok (.putfield 22, 3) := by decide +kernel
theorem dX10_init_37 : decode cX10_init 37 = .ok (.aload_n 0, 1) := by decide +kernel
theorem dX10_init_38 : decode cX10_init 38 = .ok (.new 26, 3) := by decide +kernel
theorem dX10_init_41 : decode cX10_init 41 = .ok (.dup, 1) := by decide +kernel
theorem dX10_init_42 : decode cX10_init 42 = .ok (.invokespecial 28, 3) := by decide +kernel
theorem dX10_init_45 : decode cX10_init 45 = .ok (.putfield 29, 3) := by decide +kernel
theorem dX10_init_48 : decode cX10_init 48 = .ok (.aload_n 0, 1) := by decide +kernel
theorem dX10_init_49 : decode cX10_init 49 = .ok (.new 33, 3) := by decide +kernel
theorem dX10_init_52 : decode cX10_init 52 = .ok (.dup, 1) := by decide +kernel
theorem dX10_init_53 : decode cX10_init 53 = .ok (.invokespecial 35, 3) := by decide +kernel
theorem dX10_init_56 : decode cX10_init 56 = .ok (.putfield 36, 3) := by decide +kernel
theorem dX10_init_59 : decode cX10_init 59 = .ok (.aload_n 0, 1) := by decide +kernel
theorem dX10_init_60 : decode cX10_init 60 = .ok (.new 40, 3) := by decide +kernel
theorem dX10_init_63 : decode cX10_init 63 = .ok (.dup, 1) := by decide +kernel
theorem dX10_init_64 : decode cX10_init 64 = .ok (.invokespecial 42, 3) := by decide +kernel
theorem dX10_init_67 : decode cX10_init 67 = .ok (.putfield 43, 3) := by decide +kernel
theorem dX10_init_70 : decode cX10_init 70 = .ok (.return_, 1) := by decide +kernel
theorem dX10_fold_0 : decode cX10_fold 0 = .ok (.aload_n 0, 1) := by decide +kernel
theorem dX10_fold_1 : decode cX10_fold 1 = .ok (.getfield 10, 3) := by decide +kernel
theorem dX10_fold_4 : decode cX10_fold 4 = .ok (.iload_n 1, 1) := by decide +kernel
theorem dX10_fold_5 : decode cX10_fold 5 = .ok (.invokevirtual 47, 3) := by decide +kernel
theorem dX10_fold_8 : decode cX10_fold 8 = .ok (.astore_n 3, 1) := by decide +kernel
theorem dX10_fold_9 : decode cX10_fold 9 = .ok (.iload_n 2, 1) := by decide +kernel
theorem dX10_fold_10 : decode cX10_fold 10 = .ok (.invokestatic 51, 3) := by decide +kernel
theorem dX10_fold_13 : decode cX10_fold 13 = .ok (.aload_n 3, 1) := by decide +kernel
theorem dX10_fold_14 : decode cX10_fold 14 = .ok (.iload_n 2, 1) := by decide +kernel
theorem dX10_fold_15 : decode cX10_fold 15 = .ok (.invokevirtual 55, 3) := by decide +kernel
theorem dX10_fold_18 : decode cX10_fold 18 = .ok (.ifCond .eq 13, 3) := by decide +kernel
theorem dX10_fold_21 : decode cX10_fold 21 = .ok (.new 61, 3) := by decide +kernel
theorem dX10_fold_24 : decode cX10_fold 24 = .ok (.dup, 1) := by decide +kernel
theorem dX10_fold_25 : decode cX10_fold 25 = .ok (.ldc 63, 2) := by decide +kernel
theorem dX10_fold_27 : decode cX10_fold 27 = .ok (.invokespecial 65, 3) := by decide +kernel
theorem dX10_fold_30 : decode cX10_fold 30 = .ok (.athrow, 1) := by decide +kernel
theorem dX10_fold_31 : decode cX10_fold 31 = .ok (.aload_n 0, 1) := by decide +kernel
theorem dX10_fold_32 : decode cX10_fold 32 = .ok (.getfield 22, 3) := by decide +kernel
theorem dX10_fold_35 : decode cX10_fold 35 = .ok (.aload_n 0, 1) := by decide +kernel
theorem dX10_fold_36 : decode cX10_fold 36 = .ok (.getfield 10, 3) := by decide +kernel
theorem dX10_fold_39 : decode cX10_fold 39 = .ok (.invokevirtual 68, 3) := by decide +kernel
theorem dX10_fold_42 : decode cX10_fold 42 = .ok (.aload_n 3, 1) := by decide +kernel
theorem dX10_fold_43 : decode cX10_fold 43 = .ok (.iload_n 2, 1) := by decide +kernel
theorem dX10_fold_44 : decode cX10_fold 44 = .ok (.invokevirtual 72, 3) := by decide +kernel
theorem dX10_fold_47 : decode cX10_fold 47 = .ok (.aload_n 3, 1) := by decide +kernel
theorem dX10_fold_48 : decode cX10_fold 48 = .ok (.iconst 0, 1) := by decide +kernel
theorem dX10_fold_49 : decode cX10_fold 49 = .ok (.invokevirtual 75, 3) := by decide +kernel
theorem dX10_fold_52 : decode cX10_fold 52 = .ok (.ireturn, 1) := by decide +kernel
theorem dX10_unfold_0 : decode cX10_unfold 0 = .ok (.aload_n 0, 1) := by decide +kernel
theorem dX10_unfold_1 : decode cX10_unfold 1 = .ok (.getfield 10, 3) := by decide +kernel
theorem dX10_unfold_4 : decode cX10_unfold 4 = .ok (.iload_n 1, 1) := by decide +kernel
theorem dX10_unfold_5 : decode cX10_unfold 5 = .ok (.invokevirtual 47, 3) := by decide +kernel
theorem dX10_unfold_8 : decode cX10_unfold 8 = .ok (.astore_n 2, 1) := by decide +kernel
theorem dX10_unfold_9 : decode cX10_unfold 9 = .ok (.aload_n 2, 1) := by decide +kernel
theorem dX10_unfold_10 : decode cX10_unfold 10 = .ok (.invokevirtual 101, 3) := by decide +kernel
theorem dX10_unfold_13 : decode cX10_unfold 13 = .ok (.istore_n 3, 1) := by decide +kernel
theorem dX10_unfold_14 : decode cX10_unfold 14 = .ok (.iload_n 3, 1) := by decide +kernel
theorem dX10_unfold_15 : decode cX10_unfold 15 = .ok (.bipush (-10), 2) := by decide +kernel
theorem dX10_unfold_17 : decode cX10_unfold 17 = .ok (.if_icmp .ne 13, 3) := by decide +kernel
theorem dX10_unfold_20 : decode cX10_unfold 20 = .ok (.new 61, 3) := by decide +kernel
theorem dX10_unfold_23 : decode cX10_unfold 23 = .ok (.dup, 1) := by decide +kernel
theorem dX10_unfold_24 : decode cX10_unfold 24 = .ok (.ldc 105, 2) := by decide +kernel
theorem dX10_unfold_26 : decode cX10_unfold 26 = .ok (.invokespecial 65, 3) := by decide +kernel
theorem dX10_unfold_29 : decode cX10_unfold 29 = .ok (.athrow, 1) := by decide +kernel
theorem dX10_unfold_30 : decode cX10_unfold 30 = .ok (.aload_n 2, 1) := by decide +kernel
theorem dX10_unfold_31 : decode cX10_unfold 31 = .ok (.iload_n 3, 1) := by decide +kernel
theorem dX10_unfold_32 : decode cX10_unfold 32 = .ok (.invokevirtual 107, 3) := by decide +kernel
theorem dX10_unfold_35 : decode cX10_unfold 35 = .ok (.ifCond .eq 13, 3) := by decide +kernel
theorem dX10_unfold_38 : decode cX10_unfold 38 = .ok (.new 61, 3) := by decide +kernel
theorem dX10_unfold_41 : decode cX10_unfold 41 = .ok (.dup, 1) := by decide +kernel
theorem dX10_unfold_42 : decode cX10_unfold 42 = .ok (.ldc 111, 2) := by decide +kernel
theorem dX10_unfold_44 : decode cX10_unfold 44 = .ok (.invokespecial 65, 3) := by decide +kernel
theorem dX10_unfold_47 : decode cX10_unfold 47 = .ok (.athrow, 1) := by decide +kernel
theorem dX10_unfold_48 : decode cX10_unfold 48 = .ok (.aload_n 0, 1) := by decide +kernel
theorem dX10_unfold_49 : decode cX10_unfold 49 = .ok (.getfield 22, 3) := by decide +kernel
theorem dX10_unfold_52 : decode cX10_unfold 52 = .ok (.aload_n 0, 1) := by decide +kernel
theorem dX10_unfold_53 : decode cX10_unfold 53 = .ok (.getfield 10, 3) := by decide +kernel
theorem dX10_unfold_56 : decode cX10_unfold 56 = .ok (.invokevirtual 68, 3) := by decide +kernel
theorem dX10_unfold_59 : decode cX10_unfold 59 = .ok (.aload_n 2, 1) := by decide +kernel
theorem dX10_unfold_60 : decode cX10_unfold 60 = .ok (.iload_n 3, 1) := by decide +kernel
theorem dX10_unfold_61 : decode cX10_unfold 61 = .ok (.invokevirtual 113, 3) := by decide +kernel
theorem dX10_unfold_64 : decode cX10_unfold 64 = .ok (.iload_n 3, 1) := by decide +kernel
theorem dX10_unfold_65 : decode cX10_unfold 65 = .ok (.ireturn, 1) := by decide +kernel
theorem dX10_press_0 : decode cX10_press 0 = .ok (.aload_n 0, 1) := by decide +kernel
theorem dX10_press_1 : decode cX10_press 1 = .ok (.getfield 10, 3) := by decide +kernel
theorem dX10_press_4 : decode cX10_press 4 = .ok (.iload_n 1, 1) := by decide +kernel
theorem dX10_press_5 : decode cX10_press 5 = .ok (.invokevirtual 47, 3) := by decide +kernel
theorem dX10_press_8 : decode cX10_press 8 = .ok (.astore_n 2, 1) := by decide +kernel
theorem dX10_press_9 : decode cX10_press 9 = .ok (.aload_n 0, 1) := by decide +kernel
theorem dX10_press_10 : decode cX10_press 10 = .ok (.getfield 22, 3) := by decide +kernel
theorem dX10_press_13 : decode cX10_press 13 = .ok (.aload_n 0, 1) := by decide +kernel
theorem dX10_press_14 : decode cX10_press 14 = .ok (.getfield 10, 3) := by decide +kernel
theorem dX10_press_17 : decode cX10_press 17 = .ok (.invokevirtual 68, 3) := by decide +kernel
theorem dX10_press_20 : decode cX10_press 20 = .ok (.aload_n 2, 1) := by decide +kernel
theorem dX10_press_21 : decode cX10_press 21 = .ok (.iconst 2, 1) := by decide +kernel
theorem dX10_press_22 : decode cX10_press 22 = .ok (.invokevirtual 75, 3) := by decide +kernel
theorem dX10_press_25 : decode cX10_press 25 = .ok (.istore_n 3, 1) := by decide +kernel
theorem dX10_press_26 : decode cX10_press 26 = .ok (.aload_n 2, 1) := by decide +kernel
theorem dX10_press_27 : decode cX10_press 27 = .ok (.invokevirtual 116, 3) := by decide +kernel
theorem dX10_press_30 : decode cX10_press 30 = .ok (.iload_n 3, 1) := by decide +kernel
theorem dX10_press_31 : decode cX10_press 31 = .ok (.aload_n 2, 1) := by decide +kernel
theorem dX10_press_32 : decode cX10_press 32 = .ok (.iconst 2, 1) := by decide +kernel
theorem dX10_press_33 : decode cX10_press 33 = .ok (.invokevirtual 75, 3) := by decide +kernel
theorem dX10_press_36 : decode cX10_press 36 = .ok (.isub, 1) := by decide +kernel
theorem dX10_press_37 : decode cX10_press 37 = .ok (.ireturn, 1) := by decide +kernel
theorem dX10_smooth_0 : decode cX10_smooth 0 = .ok (.aload_n 0, 1) := by decide +kernel
theorem dX10_smooth_1 : decode cX10_smooth 1 = .ok (.getfield 10, 3) := by decide +kernel
theorem dX10_smooth_4 : decode cX10_smooth 4 = .ok (.iload_n 1, 1) := by decide +kernel
theorem dX10_smooth_5 : decode cX10_smooth 5 = .ok (.invokevirtual 47, 3) := by decide +kernel
theorem dX10_smooth_8 : decode cX10_smooth 8 = .ok (.astore_n 2, 1) := by decide +kernel
theorem dX10_smooth_9 : decode cX10_smooth 9 = .ok (.aload_n 0, 1) := by decide +kernel
theorem dX10_smooth_10 : decode cX10_smooth 10 = .ok (.getfield 22, 3) := by decide +kernel
theorem dX10_smooth_13 : decode cX10_smooth 13 = .ok (.aload_n 0, 1) := by decide +kernel
theorem dX10_smooth_14 : decode cX10_smooth 14 = .ok (.getfield 10, 3) := by decide +kernel
theorem dX10_smooth_17 : decode cX10_smooth 17 = .ok (.invokevirtual 68, 3) := by decide +kernel
theorem dX10_smooth_20 : decode cX10_smooth 20 = .ok (.aload_n 2, 1) := by decide +kernel
theorem dX10_smooth_21 : decode cX10_smooth 21 = .ok (.iconst 0, 1) := by decide +kernel
theorem dX10_smooth_22 : decode cX10_smooth 22 = .ok (.invokevirtual 75, 3) := by decide +kernel
theorem dX10_smooth_25 : decode cX10_smooth 25 = .ok (.istore_n 3, 1) := by decide +kernel
theorem dX10_smooth_26 : decode cX10_smooth 26 = .ok (.aload_n 2, 1) := by decide +kernel
theorem dX10_smooth_27 : decode cX10_smooth 27 = .ok (.sipush 1672, 3) := by decide +kernel
theorem dX10_smooth_30 : decode cX10_smooth 30 = .ok (.invokevirtual 121, 3) := by decide +kernel
theorem dX10_smooth_33 : decode cX10_smooth 33 = .ok (.iload_n 3, 1) := by decide +kernel
theorem dX10_smooth_34 : decode cX10_smooth 34 = .ok (.ireturn, 1) := by decide +kernel
theorem dX10_product_0 : decode cX10_product 0 = .ok (.aload_n 0, 1) := by decide +kernel
theorem dX10_product_1 : decode cX10_product 1 = .ok (.getfield 10, 3) := by decide +kernel
theorem dX10_product_4 : decode cX10_product 4 = .ok (.iload_n 1, 1) := by decide +kernel
theorem dX10_product_5 : decode cX10_product 5 = .ok (.invokevirtual 47, 3) := by decide +kernel
theorem dX10_product_8 : decode cX10_product 8 = .ok (.astore 4, 2) := by decide +kernel
theorem dX10_product_10 : decode cX10_product 10 = .ok (.aload_n 0, 1) := by decide +kernel
theorem dX10_product_11 : decode cX10_product 11 = .ok (.getfield 10, 3) := by decide +kernel
theorem dX10_product_14 : decode cX10_product 14 = .ok (.iload_n 2, 1) := by decide +kernel
theorem dX10_product_15 : decode cX10_product 15 = .ok (.invokevirtual 47, 3) := by decide +kernel
theorem dX10_product_18 : decode cX10_product 18 = .ok (.invokevirtual 124, 3) := by decide +kernel
theorem dX10_product_21 : decode cX10_product 21 = .ok (.aload_n 0, 1) := by decide +kernel
theorem dX10_product_22 : decode cX10_product 22 = .ok (.getfield 10, 3) := by decide +kernel
theorem dX10_product_25 : decode cX10_product 25 = .ok (.iload_n 3, 1) := by decide +kernel
theorem dX10_product_26 : decode cX10_product 26 = .ok (.invokevirtual 47, 3) := by decide +kernel
theorem dX10_product_29 : decode cX10_product 29 = .ok (.invokevirtual 124, 3) := by decide +kernel
theorem dX10_product_32 : decode cX10_product 32 = .ok (.invokestatic 127, 3) := by decide +kernel
theorem dX10_product_35 : decode cX10_product 35 = .ok (.istore 5, 2) := by decide +kernel
theorem dX10_product_37 : decode cX10_product 37 = .ok (.aload_n 0, 1) := by decide +kernel
theorem dX10_product_38 : decode cX10_product 38 = .ok (.getfield 22, 3) := by decide +kernel
theorem dX10_product_41 : decode cX10_product 41 = .ok (.aload_n 0, 1) := by decide +kernel
theorem dX10_product_42 : decode cX10_product 42 = .ok (.getfield 10, 3) := by decide +kernel
theorem dX10_product_45 : decode cX10_product 45 = .ok (.invokevirtual 68, 3) := by decide +kernel
theorem dX10_product_48 : decode cX10_product 48 = .ok (.aload 4, 2) := by decide +kernel
theorem dX10_product_50 : decode cX10_product 50 = .ok (.iload 5, 2) := by decide +kernel
theorem dX10_product_52 : decode cX10_product 52 = .ok (.invokevirtual 121, 3) := by decide +kernel
theorem dX10_product_55 : decode cX10_product 55 = .ok (.aload 4, 2) := by decide +kernel
theorem dX10_product_57 : decode cX10_product 57 = .ok (.iconst 0, 1) := by decide +kernel
theorem dX10_product_58 : decode cX10_product 58 = .ok (.invokevirtual 75, 3) := by decide +kernel
theorem dX10_product_61 : decode cX10_product 61 = .ok (.ireturn, 1) := by decide +kernel
theorem dX10_opposite_0 : decode cX10_opposite 0 = .ok (.aload_n 0, 1) := by decide +kernel
theorem dX10_opposite_1 : decode cX10_opposite 1 = .ok (.getfield 10, 3) := by decide +kernel
theorem dX10_opposite_4 : decode cX10_opposite 4 = .ok (.iload_n 1, 1) := by decide +kernel
theorem dX10_opposite_5 : decode cX10_opposite 5 = .ok (.invokevirtual 47, 3) := by decide +kernel
theorem dX10_opposite_8 : decode cX10_opposite 8 = .ok (.astore_n 3, 1) := by decide +kernel
theorem dX10_opposite_9 : decode cX10_opposite 9 = .ok (.aload_n 0, 1) := by decide +kernel
theorem dX10_opposite_10 : decode cX10_opposite 10 = .ok (.getfield 10, 3) := by decide +kernel
theorem dX10_opposite_13 : decode cX10_opposite 13 = .ok (.iload_n 2, 1) := by decide +kernel
theorem dX10_opposite_14 : decode cX10_opposite 14 = .ok (.invokevirtual 47, 3) := by decide +kernel
theorem dX10_opposite_17 : decode cX10_opposite 17 = .ok (.invokevirtual 124, 3) := by decide +kernel
theorem dX10_opposite_20 : decode cX10_opposite 20 = .ok (.invokestatic 131, 3) := by decide +kernel
theorem dX10_opposite_23 : decode cX10_opposite 23 = .ok (.istore 4, 2) := by decide +kernel
theorem dX10_opposite_25 : decode cX10_opposite 25 = .ok (.aload_n 0, 1) := by decide +kernel
theorem dX10_opposite_26 : decode cX10_opposite 26 = .ok (.getfield 22, 3) := by decide +kernel
theorem dX10_opposite_29 : decode cX10_opposite 29 = .ok (.aload_n 0, 1) := by decide +kernel
theorem dX10_opposite_30 : decode cX10_opposite 30 = .ok (.getfield 10, 3) := by decide +kernel
theorem dX10_opposite_33 : decode cX10_opposite 33 = .ok (.invokevirtual 68, 3) := by decide +kernel
theorem dX10_opposite_36 : decode cX10_opposite 36 = .ok (.aload_n 3, 1) := by decide +kernel
theorem dX10_opposite_37 : decode cX10_opposite 37 = .ok (.iload 4, 2) := by decide +kernel
theorem dX10_opposite_39 : decode cX10_opposite 39 = .ok (.invokevirtual 121, 3) := by decide +kernel
theorem dX10_opposite_42 : decode cX10_opposite 42 = .ok (.aload_n 3, 1) := by decide +kernel
theorem dX10_opposite_43 : decode cX10_opposite 43 = .ok (.iconst 0, 1) := by decide +kernel
theorem dX10_opposite_44 : decode cX10_opposite 44 = .ok (.invokevirtual 75, 3) := by decide +kernel
theorem dX10_opposite_47 : decode cX10_opposite 47 = .ok (.ireturn, 1) := by decide +kernel
theorem dX10_seal_0 : decode cX10_seal 0 = .ok (.aload_n 0, 1) := by decide +kernel
theorem dX10_seal_1 : decode cX10_seal 1 = .ok (.getfield 10, 3) := by decide +kernel
theorem dX10_seal_4 : decode cX10_seal 4 = .ok (.iload_n 1, 1) := by decide +kernel
theorem dX10_seal_5 : decode cX10_seal 5 = .ok (.invokevirtual 47, 3) := by decide +kernel
theorem dX10_seal_8 : decode cX10_seal 8 = .ok (.astore_n 3, 1) := by decide +kernel
theorem dX10_seal_9 : decode cX10_seal 9 = .ok (.iload_n 2, 1) := by decide +kernel
theorem dX10_seal_10 : decode cX10_seal 10 = .ok (.invokestatic 134, 3) := by decide +kernel
theorem dX10_seal_13 : decode cX10_seal 13 = .ok (.aload_n 3, 1) := by decide +kernel
theorem dX10_seal_14 : decode cX10_seal 14 = .ok (.iload_n 2, 1) := by decide +kernel
theorem dX10_seal_15 : decode cX10_seal 15 = .ok (.invokevirtual 137, 3) := by decide +kernel
theorem dX10_seal_18 : decode cX10_seal 18 = .ok (.ifCond .ne 24, 3) := by decide +kernel
theorem dX10_seal_21 : decode cX10_seal 21 = .ok (.aload_n 3, 1) := by decide +kernel
theorem dX10_seal_22 : decode cX10_seal 22 = .ok (.invokevirtual 124, 3) := by decide +kernel
theorem dX10_seal_25 : decode cX10_seal 25 = .ok (.iload_n 2, 1) := by decide +kernel
theorem dX10_seal_26 : decode cX10_seal 26 = .ok (.invokestatic 140, 3) := by decide +kernel
theorem dX10_seal_29 : decode cX10_seal 29 = .ok (.ifCond .ne 13, 3) := by decide +kernel
theorem dX10_seal_32 : decode cX10_seal 32 = .ok (.new 61, 3) := by decide +kernel
theorem dX10_seal_35 : decode cX10_seal 35 = .ok (.dup, 1) := by decide +kernel
theorem dX10_seal_36 : decode cX10_seal 36 = .ok (.ldc 144, 2) := by decide +kernel
theorem dX10_seal_38 : decode cX10_seal 38 = .ok (.invokespecial 65, 3) := by decide +kernel
theorem dX10_seal_41 : decode cX10_seal 41 = .ok (.athrow, 1) := by decide +kernel
theorem dX10_seal_42 : decode cX10_seal 42 = .ok (.aload_n 0, 1) := by decide +kernel
theorem dX10_seal_43 : decode cX10_seal 43 = .ok (.getfield 22, 3) := by decide +kernel
theorem dX10_seal_46 : decode cX10_seal 46 = .ok (.aload_n 0, 1) := by decide +kernel
theorem dX10_seal_47 : decode cX10_seal 47 = .ok (.getfield 10, 3) := by decide +kernel
theorem dX10_seal_50 : decode cX10_seal 50 = .ok (.invokevirtual 68, 3) := by decide +kernel
theorem dX10_seal_53 : decode cX10_seal 53 = .ok (.aload_n 3, 1) := by decide +kernel
theorem dX10_seal_54 : decode cX10_seal 54 = .ok (.iload_n 2, 1) := by decide +kernel
theorem dX10_seal_55 : decode cX10_seal 55 = .ok (.invokevirtual 146, 3) := by decide +kernel
theorem dX10_seal_58 : decode cX10_seal 58 = .ok (.aload_n 3, 1) := by decide +kernel
theorem dX10_seal_59 : decode cX10_seal 59 = .ok (.invokevirtual 149, 3) := by decide +kernel
theorem dX10_seal_62 : decode cX10_seal 62 = .ok (.ireturn, 1) := by decide +kernel
theorem dX10_layer_0 : decode cX10_layer 0 = .ok (.aload_n 0, 1) := by decide +kernel
theorem dX10_layer_1 : decode cX10_layer 1 = .ok (.getfield 10, 3) := by decide +kernel
theorem dX10_layer_4 : decode cX10_layer 4 = .ok (.iload_n 1, 1) := by decide +kernel
theorem dX10_layer_5 : decode cX10_layer 5 = .ok (.invokevirtual 47, 3) := by decide +kernel
theorem dX10_layer_8 : decode cX10_layer 8 = .ok (.astore_n 3, 1) := by decide +kernel
theorem dX10_layer_9 : decode cX10_layer 9 = .ok (.iload_n 2, 1) := by decide +kernel
theorem dX10_layer_10 : decode cX10_layer 10 = .ok (.invokestatic 134, 3) := by decide +kernel
theorem dX10_layer_13 : decode cX10_layer 13 = .ok (.aload_n 3, 1) := by decide +kernel
theorem dX10_layer_14 : decode cX10_layer 14 = .ok (.invokevirtual 124, 3) := by decide +kernel
theorem dX10_layer_17 : decode cX10_layer 17 = .ok (.iload_n 2, 1) := by decide +kernel
theorem dX10_layer_18 : decode cX10_layer 18 = .ok (.invokestatic 196, 3) := by decide +kernel
theorem dX10_layer_21 : decode cX10_layer 21 = .ok (.ireturn, 1) := by decide +kernel
theorem dX10_letter_0 : decode cX10_letter 0 = .ok (.aload_n 0, 1) := by decide +kernel
theorem dX10_letter_1 : decode cX10_letter 1 = .ok (.getfield 10, 3) := by decide +kernel
theorem dX10_letter_4 : decode cX10_letter 4 = .ok (.iload_n 1, 1) := by decide +kernel
theorem dX10_letter_5 : decode cX10_letter 5 = .ok (.invokevirtual 47, 3) := by decide +kernel
theorem dX10_letter_8 : decode cX10_letter 8 = .ok (.astore_n 3, 1) := by decide +kernel
theorem dX10_letter_9 : decode cX10_letter 9 = .ok (.iload_n 2, 1) := by decide +kernel
theorem dX10_letter_10 : decode cX10_letter 10 = .ok (.ifCond .lt 9, 3) := by decide +kernel
theorem dX10_letter_13 : decode cX10_letter 13 = .ok (.iload_n 2, 1) := by decide +kernel
theorem dX10_letter_14 : decode cX10_letter 14 = .ok (.bipush 10, 2) := by decide +kernel
theorem dX10_letter_16 : decode cX10_letter 16 = .ok (.if_icmp .le 13, 3) := by decide +kernel
theorem dX10_letter_19 : decode cX10_letter 19 = .ok (.new 152, 3) := by decide +kernel
theorem dX10_letter_22 : decode cX10_letter 22 = .ok (.dup, 1) := by decide +kernel
theorem dX10_letter_23 : decode cX10_letter 23 = .ok (.ldc 199, 2) := by decide +kernel
theorem dX10_letter_25 : decode cX10_letter 25 = .ok (.invokespecial 156, 3) := by decide +kernel
theorem dX10_letter_28 : decode cX10_letter 28 = .ok (.athrow, 1) := by decide +kernel
theorem dX10_letter_29 : decode cX10_letter 29 = .ok (.aload_n 3, 1) := by decide +kernel
theorem dX10_letter_30 : decode cX10_letter 30 = .ok (.iload_n 2, 1) := by decide +kernel
theorem dX10_letter_31 : decode cX10_letter 31 = .ok (.invokevirtual 75, 3) := by decide +kernel
theorem dX10_letter_34 : decode cX10_letter 34 = .ok (.ireturn, 1) := by decide +kernel
theorem dX10_crease_0 : decode cX10_crease 0 = .ok (.aload_n 0, 1) := by decide +kernel
theorem dX10_crease_1 : decode cX10_crease 1 = .ok (.getfield 10, 3) := by decide +kernel
theorem dX10_crease_4 : decode cX10_crease 4 = .ok (.iload_n 1, 1) := by decide +kernel
theorem dX10_crease_5 : decode cX10_crease 5 = .ok (.invokevirtual 47, 3) := by decide +kernel
theorem dX10_crease_8 : decode cX10_crease 8 = .ok (.astore_n 3, 1) := by decide +kernel
theorem dX10_crease_9 : decode cX10_crease 9 = .ok (.iload_n 2, 1) := by decide +kernel
theorem dX10_crease_10 : decode cX10_crease 10 = .ok (.invokestatic 201, 3) := by decide +kernel
theorem dX10_crease_13 : decode cX10_crease 13 = .ok (.aload_n 3, 1) := by decide +kernel
theorem dX10_crease_14 : decode cX10_crease 14 = .ok (.invokevirtual 204, 3) := by decide +kernel
theorem dX10_crease_17 : decode cX10_crease 17 = .ok (.iload_n 2, 1) := by decide +kernel
theorem dX10_crease_18 : decode cX10_crease 18 = .ok (.invokevirtual 207, 3) := by decide +kernel
theorem dX10_crease_21 : decode cX10_crease 21 = .ok (.ireturn, 1) := by decide +kernel
theorem dX10_least_0 : decode cX10_least 0 = .ok (.aload_n 0, 1) := by decide +kernel
theorem dX10_least_1 : decode cX10_least 1 = .ok (.getfield 10, 3) := by decide +kernel
theorem dX10_least_4 : decode cX10_least 4 = .ok (.iload_n 1, 1) := by decide +kernel
theorem dX10_least_5 : decode cX10_least 5 = .ok (.invokevirtual 47, 3) := by decide +kernel
theorem dX10_least_8 : decode cX10_least 8 = .ok (.astore_n 3, 1) := by decide +kernel
theorem dX10_least_9 : decode cX10_least 9 = .ok (.iload_n 2, 1) := by decide +kernel
theorem dX10_least_10 : decode cX10_least 10 = .ok (.invokestatic 201, 3) := by decide +kernel
theorem dX10_least_13 : decode cX10_least 13 = .ok (.aload_n 3, 1) := by decide +kernel
theorem dX10_least_14 : decode cX10_least 14 = .ok (.invokevirtual 124, 3) := by decide +kernel
theorem dX10_least_17 : decode cX10_least 17 = .ok (.iload_n 2, 1) := by decide +kernel
theorem dX10_least_18 : decode cX10_least 18 = .ok (.invokestatic 209, 3) := by decide +kernel
theorem dX10_least_21 : decode cX10_least 21 = .ok (.ireturn, 1) := by decide +kernel
theorem dX10_count_0 : decode cX10_count 0 = .ok (.iload_n 1, 1) := by decide +kernel
theorem dX10_count_1 : decode cX10_count 1 = .ok (.tableswitch 103 0 6 #[43, 53, 61, 70, 79, 87, 95], 43) := by decide +kernel
theorem dX10_count_44 : decode cX10_count 44 = .ok (.aload_n 0, 1) := by decide +kernel
theorem dX10_count_45 : decode cX10_count 45 = .ok (.getfield 10, 3) := by decide +kernel
theorem dX10_count_48 : decode cX10_count 48 = .ok (.bipush 10, 2) := by decide +kernel
theorem dX10_count_50 : decode cX10_count 50 = .ok (.invokevirtual 185, 3) := by decide +kernel
theorem dX10_count_53 : decode cX10_count 53 = .ok (.ireturn, 1) := by decide +kernel
theorem dX10_count_54 : decode cX10_count 54 = .ok (.aload_n 0, 1) := by decide +kernel
theorem dX10_count_55 : decode cX10_count 55 = .ok (.getfield 10, 3) := by decide +kernel
theorem dX10_count_58 : decode cX10_count 58 = .ok (.invokevirtual 212, 3) := by decide +kernel
theorem dX10_count_61 : decode cX10_count 61 = .ok (.ireturn, 1) := by decide +kernel
theorem dX10_count_62 : decode cX10_count 62 = .ok (.aload_n 0, 1) := by decide +kernel
theorem dX10_count_63 : decode cX10_count 63 = .ok (.getfield 10, 3) := by decide +kernel
theorem dX10_count_66 : decode cX10_count 66 = .ok (.iconst 4, 1) := by decide +kernel
theorem dX10_count_67 : decode cX10_count 67 = .ok (.invokevirtual 185, 3) := by decide +kernel
theorem dX10_count_70 : decode cX10_count 70 = .ok (.ireturn, 1) := by decide +kernel
theorem dX10_count_71 : decode cX10_count 71 = .ok (.aload_n 0, 1) := by decide +kernel
theorem dX10_count_72 : decode cX10_count 72 = .ok (.getfield 10, 3) := by decide +kernel
theorem dX10_count_75 : decode cX10_count 75 = .ok (.iconst 0, 1) := by decide +kernel
theorem dX10_count_76 : decode cX10_count 76 = .ok (.invokevirtual 185, 3) := by decide +kernel
theorem dX10_count_79 : decode cX10_count 79 = .ok (.ireturn, 1) := by decide +kernel
theorem dX10_count_80 : decode cX10_count 80 = .ok (.aload_n 0, 1) := by decide +kernel
theorem dX10_count_81 : decode cX10_count 81 = .ok (.getfield 10, 3) := by decide +kernel
theorem dX10_count_84 : decode cX10_count 84 = .ok (.invokevirtual 215, 3) := by decide +kernel
theorem dX10_count_87 : decode cX10_count 87 = .ok (.ireturn, 1) := by decide +kernel
theorem dX10_count_88 : decode cX10_count 88 = .ok (.aload_n 0, 1) := by decide +kernel
theorem dX10_count_89 : decode cX10_count 89 = .ok (.getfield 10, 3) := by decide +kernel
theorem dX10_count_92 : decode cX10_count 92 = .ok (.invokevirtual 218, 3) := by decide +kernel
theorem dX10_count_95 : decode cX10_count 95 = .ok (.ireturn, 1) := by decide +kernel
theorem dX10_count_96 : decode cX10_count 96 = .ok (.aload_n 0, 1) := by decide +kernel
theorem dX10_count_97 : decode cX10_count 97 = .ok (.getfield 22, 3) := by decide +kernel
theorem dX10_count_100 : decode cX10_count 100 = .ok (.invokevirtual 190, 3) := by decide +kernel
theorem dX10_count_103 : decode cX10_count 103 = .ok (.ireturn, 1) := by decide +kernel
theorem dX10_count_104 : decode cX10_count 104 = .ok (.new 152, 3) := by decide +kernel
theorem dX10_count_107 : decode cX10_count 107 = .ok (.dup, 1) := by decide +kernel
theorem dX10_count_108 : decode cX10_count 108 = .ok (.ldc 221, 2) := by decide +kernel
theorem dX10_count_110 : decode cX10_count 110 = .ok (.invokespecial 156, 3) := by decide +kernel
theorem dX10_count_113 : decode cX10_count 113 = .ok (.athrow, 1) := by decide +kernel
theorem dX10_why_0 : decode cX10_why 0 = .ok (.aload_n 0, 1) := by decide +kernel
theorem dX10_why_1 : decode cX10_why 1 = .ok (.getfield 10, 3) := by decide +kernel
theorem dX10_why_4 : decode cX10_why 4 = .ok (.iload_n 1, 1) := by decide +kernel
theorem dX10_why_5 : decode cX10_why 5 = .ok (.invokevirtual 47, 3) := by decide +kernel
theorem dX10_why_8 : decode cX10_why 8 = .ok (.astore_n 3, 1) := by decide +kernel
theorem dX10_why_9 : decode cX10_why 9 = .ok (.iload_n 2, 1) := by decide +kernel
theorem dX10_why_10 : decode cX10_why 10 = .ok (.invokestatic 51, 3) := by decide +kernel
theorem dX10_why_13 : decode cX10_why 13 = .ok (.aload_n 3, 1) := by decide +kernel
theorem dX10_why_14 : decode cX10_why 14 = .ok (.iload_n 2, 1) := by decide +kernel
theorem dX10_why_15 : decode cX10_why 15 = .ok (.invokevirtual 55, 3) := by decide +kernel
theorem dX10_why_18 : decode cX10_why 18 = .ok (.ireturn, 1) := by decide +kernel
theorem dX10_ifFolded_0 : decode cX10_ifFolded 0 = .ok (.aload_n 0, 1) := by decide +kernel
theorem dX10_ifFolded_1 : decode cX10_ifFolded 1 = .ok (.getfield 10, 3) := by decide +kernel
theorem dX10_ifFolded_4 : decode cX10_ifFolded 4 = .ok (.iload_n 1, 1) := by decide +kernel
theorem dX10_ifFolded_5 : decode cX10_ifFolded 5 = .ok (.invokevirtual 47, 3) := by decide +kernel
theorem dX10_ifFolded_8 : decode cX10_ifFolded 8 = .ok (.astore_n 3, 1) := by decide +kernel
theorem dX10_ifFolded_9 : decode cX10_ifFolded 9 = .ok (.iload_n 2, 1) := by decide +kernel
theorem dX10_ifFolded_10 : decode cX10_ifFolded 10 = .ok (.invokestatic 51, 3) := by decide +kernel
theorem dX10_ifFolded_13 : decode cX10_ifFolded 13 = .ok (.aload_n 3, 1) := by decide +kernel
theorem dX10_ifFolded_14 : decode cX10_ifFolded 14 = .ok (.invokevirtual 124, 3) := by decide +kernel
theorem dX10_ifFolded_17 : decode cX10_ifFolded 17 = .ok (.iload_n 2, 1) := by decide +kernel
theorem dX10_ifFolded_18 : decode cX10_ifFolded 18 = .ok (.invokestatic 223, 3) := by decide +kernel
theorem dX10_ifFolded_21 : decode cX10_ifFolded 21 = .ok (.invokestatic 226, 3) := by decide +kernel
theorem dX10_ifFolded_24 : decode cX10_ifFolded 24 = .ok (.ireturn, 1) := by decide +kernel
theorem dX10_distance_0 : decode cX10_distance 0 = .ok (.aload_n 0, 1) := by decide +kernel
theorem dX10_distance_1 : decode cX10_distance 1 = .ok (.getfield 10, 3) := by decide +kernel
theorem dX10_distance_4 : decode cX10_distance 4 = .ok (.iload_n 1, 1) := by decide +kernel
theorem dX10_distance_5 : decode cX10_distance 5 = .ok (.invokevirtual 47, 3) := by decide +kernel
theorem dX10_distance_8 : decode cX10_distance 8 = .ok (.invokevirtual 124, 3) := by decide +kernel
theorem dX10_distance_11 : decode cX10_distance 11 = .ok (.aload_n 0, 1) := by decide +kernel
theorem dX10_distance_12 : decode cX10_distance 12 = .ok (.getfield 10, 3) := by decide +kernel
theorem dX10_distance_15 : decode cX10_distance 15 = .ok (.iload_n 2, 1) := by decide +kernel
theorem dX10_distance_16 : decode cX10_distance 16 = .ok (.invokevirtual 47, 3) := by decide +kernel
theorem dX10_distance_19 : decode cX10_distance 19 = .ok (.invokevirtual 124, 3) := by decide +kernel
theorem dX10_distance_22 : decode cX10_distance 22 = .ok (.invokestatic 229, 3) := by decide +kernel
theorem dX10_distance_25 : decode cX10_distance 25 = .ok (.ireturn, 1) := by decide +kernel
theorem dX10_nearest_0 : decode cX10_nearest 0 = .ok (.aload_n 0, 1) := by decide +kernel
theorem dX10_nearest_1 : decode cX10_nearest 1 = .ok (.getfield 10, 3) := by decide +kernel
theorem dX10_nearest_4 : decode cX10_nearest 4 = .ok (.iload_n 1, 1) := by decide +kernel
theorem dX10_nearest_5 : decode cX10_nearest 5 = .ok (.invokevirtual 47, 3) := by decide +kernel
theorem dX10_nearest_8 : decode cX10_nearest 8 = .ok (.invokevirtual 124, 3) := by decide +kernel
theorem dX10_nearest_11 : decode cX10_nearest 11 = .ok (.istore_n 2, 1) := by decide +kernel
theorem dX10_nearest_12 : decode cX10_nearest 12 = .ok (.bipush (-10), 2) := by decide +kernel
theorem dX10_nearest_14 : decode cX10_nearest 14 = .ok (.istore_n 3, 1) := by decide +kernel
theorem dX10_nearest_15 : decode cX10_nearest 15 = .ok (.bipush 17, 2) := by decide +kernel
theorem dX10_nearest_17 : decode cX10_nearest 17 = .ok (.istore 4, 2) := by decide +kernel
theorem dX10_nearest_19 : decode cX10_nearest 19 = .ok (.iconst 0, 1) := by decide +kernel
theorem dX10_nearest_20 : decode cX10_nearest 20 = .ok (.istore 5, 2) := by decide +kernel
theorem dX10_nearest_22 : decode cX10_nearest 22 = .ok (.iload 5, 2) := by decide +kernel
theorem dX10_nearest_24 : decode cX10_nearest 24 = .ok (.iconst 5, 1) := by decide +kernel
theorem dX10_nearest_25 : decode cX10_nearest 25 = .ok (.if_icmp .ge 47, 3) := by decide +kernel
theorem dX10_nearest_28 : decode cX10_nearest 28 = .ok (.iload_n 2, 1) := by decide +kernel
theorem dX10_nearest_29 : decode cX10_nearest 29 = .ok (.aload_n 0, 1) := by decide +kernel
theorem dX10_nearest_30 : decode cX10_nearest 30 = .ok (.getfield 10, 3) := by decide +kernel
theorem dX10_nearest_33 : decode cX10_nearest 33 = .ok (.iload 5, 2) := by decide +kernel
theorem dX10_nearest_35 : decode cX10_nearest 35 = .ok (.invokevirtual 47, 3) := by decide +kernel
theorem dX10_nearest_38 : decode cX10_nearest 38 = .ok (.invokevirtual 124, 3) := by decide +kernel
theorem dX10_nearest_41 : decode cX10_nearest 41 = .ok (.invokestatic 229, 3) := by decide +kernel
theorem dX10_nearest_44 : decode cX10_nearest 44 = .ok (.istore 6, 2) := by decide +kernel
theorem dX10_nearest_46 : decode cX10_nearest 46 = .ok (.iload 5, 2) := by decide +kernel
theorem dX10_nearest_48 : decode cX10_nearest 48 = .ok (.iload_n 1, 1) := by decide +kernel
theorem dX10_nearest_49 : decode cX10_nearest 49 = .ok (.if_icmp .eq 17, 3) := by decide +kernel
theorem dX10_nearest_52 : decode cX10_nearest 52 = .ok (.iload 6, 2) := by decide +kernel
theorem dX10_nearest_54 : decode cX10_nearest 54 = .ok (.iload 4, 2) := by decide +kernel
theorem dX10_nearest_56 : decode cX10_nearest 56 = .ok (.if_icmp .ge 10, 3) := by decide +kernel
theorem dX10_nearest_59 : decode cX10_nearest 59 = .ok (.iload 5, 2) := by decide +kernel
theorem dX10_nearest_61 : decode cX10_nearest 61 = .ok (.istore_n 3, 1) := by decide +kernel
theorem dX10_nearest_62 : decode cX10_nearest 62 = .ok (.iload 6, 2) := by decide +kernel
theorem dX10_nearest_64 : decode cX10_nearest 64 = .ok (.istore 4, 2) := by decide +kernel
theorem dX10_nearest_66 : decode cX10_nearest 66 = .ok (.iinc 5 1, 3) := by decide +kernel
theorem dX10_nearest_69 : decode cX10_nearest 69 = .ok (.goto (-47), 3) := by decide +kernel
theorem dX10_nearest_72 : decode cX10_nearest 72 = .ok (.iload_n 3, 1) := by decide +kernel
theorem dX10_nearest_73 : decode cX10_nearest 73 = .ok (.ireturn, 1) := by decide +kernel
theorem dX10_ways_0 : decode cX10_ways 0 = .ok (.iload_n 1, 1) := by decide +kernel
theorem dX10_ways_1 : decode cX10_ways 1 = .ok (.ifCond .lt 9, 3) := by decide +kernel
theorem dX10_ways_4 : decode cX10_ways 4 = .ok (.iload_n 1, 1) := by decide +kernel
theorem dX10_ways_5 : decode cX10_ways 5 = .ok (.bipush 20, 2) := by decide +kernel
theorem dX10_ways_7 : decode cX10_ways 7 = .ok (.if_icmp .le 13, 3) := by decide +kernel
theorem dX10_ways_10 : decode cX10_ways 10 = .ok (.new 152, 3) := by decide +kernel
theorem dX10_ways_13 : decode cX10_ways 13 = .ok (.dup, 1) := by decide +kernel
theorem dX10_ways_14 : decode cX10_ways 14 = .ok (.ldc 232, 2) := by decide +kernel
theorem dX10_ways_16 : decode cX10_ways 16 = .ok (.invokespecial 156, 3) := by decide +kernel
theorem dX10_ways_19 : decode cX10_ways 19 = .ok (.athrow, 1) := by decide +kernel
theorem dX10_ways_20 : decode cX10_ways 20 = .ok (.iload_n 2, 1) := by decide +kernel
theorem dX10_ways_21 : decode cX10_ways 21 = .ok (.ifCond .lt 8, 3) := by decide +kernel
theorem dX10_ways_24 : decode cX10_ways 24 = .ok (.iload_n 2, 1) := by decide +kernel
theorem dX10_ways_25 : decode cX10_ways 25 = .ok (.iconst 1, 1) := by decide +kernel
theorem dX10_ways_26 : decode cX10_ways 26 = .ok (.if_icmp .le 13, 3) := by decide +kernel
theorem dX10_ways_29 : decode cX10_ways 29 = .ok (.new 152, 3) := by decide +kernel
theorem dX10_ways_32 : decode cX10_ways 32 = .ok (.dup, 1) := by decide +kernel
theorem dX10_ways_33 : decode cX10_ways 33 = .ok (.ldc 234, 2) := by decide +kernel
theorem dX10_ways_35 : decode cX10_ways 35 = .ok (.invokespecial 156, 3) := by decide +kernel
theorem dX10_ways_38 : decode cX10_ways 38 = .ok (.athrow, 1) := by decide +kernel
theorem dX10_ways_39 : decode cX10_ways 39 = .ok (.iload_n 2, 1) := by decide +kernel
theorem dX10_ways_40 : decode cX10_ways 40 = .ok (.ifCond .ne 10, 3) := by decide +kernel
theorem dX10_ways_43 : decode cX10_ways 43 = .ok (.iload_n 1, 1) := by decide +kernel
theorem dX10_ways_44 : decode cX10_ways 44 = .ok (.invokestatic 236, 3) := by decide +kernel
theorem dX10_ways_47 : decode cX10_ways 47 = .ok (.goto 11, 3) := by decide +kernel
theorem dX10_ways_50 : decode cX10_ways 50 = .ok (.aload_n 0, 1) := by decide +kernel
theorem dX10_ways_51 : decode cX10_ways 51 = .ok (.getfield 43, 3) := by decide +kernel
theorem dX10_ways_54 : decode cX10_ways 54 = .ok (.iload_n 1, 1) := by decide +kernel
theorem dX10_ways_55 : decode cX10_ways 55 = .ok (.invokevirtual 239, 3) := by decide +kernel
theorem dX10_ways_58 : decode cX10_ways 58 = .ok (.ireturn, 1) := by decide +kernel
theorem dX10_pressed_0 : decode cX10_pressed 0 = .ok (.aload_n 0, 1) := by decide +kernel
theorem dX10_pressed_1 : decode cX10_pressed 1 = .ok (.getfield 10, 3) := by decide +kernel
theorem dX10_pressed_4 : decode cX10_pressed 4 = .ok (.iconst 2, 1) := by decide +kernel
theorem dX10_pressed_5 : decode cX10_pressed 5 = .ok (.invokevirtual 185, 3) := by decide +kernel
theorem dX10_pressed_8 : decode cX10_pressed 8 = .ok (.istore_n 1, 1) := by decide +kernel
theorem dX10_pressed_9 : decode cX10_pressed 9 = .ok (.iload_n 1, 1) := by decide +kernel
theorem dX10_pressed_10 : decode cX10_pressed 10 = .ok (.ifCond .ne 7, 3) := by decide +kernel
theorem dX10_pressed_13 : decode cX10_pressed 13 = .ok (.dconst 1, 1) := by decide +kernel
theorem dX10_pressed_14 : decode cX10_pressed 14 = .ok (.goto 15, 3) := by decide +kernel
theorem dX10_pressed_17 : decode cX10_pressed 17 = .ok (.aload_n 0, 1) := by decide +kernel
theorem dX10_pressed_18 : decode cX10_pressed 18 = .ok (.getfield 10, 3) := by decide +kernel
theorem dX10_pressed_21 : decode cX10_pressed 21 = .ok (.iconst 0, 1) := by decide +kernel
theorem dX10_pressed_22 : decode cX10_pressed 22 = .ok (.invokevirtual 185, 3) := by decide +kernel
theorem dX10_pressed_25 : decode cX10_pressed 25 = .ok (.i2d, 1) := by decide +kernel
theorem dX10_pressed_26 : decode cX10_pressed 26 = .ok (.iload_n 1, 1) := by decide +kernel
theorem dX10_pressed_27 : decode cX10_pressed 27 = .ok (.i2d, 1) := by decide +kernel
theorem dX10_pressed_28 : decode cX10_pressed 28 = .ok (.ddiv, 1) := by decide +kernel
theorem dX10_pressed_29 : decode cX10_pressed 29 = .ok (.dreturn, 1) := by decide +kernel
theorem dX10_meanLength_0 : decode cX10_meanLength 0 = .ok (.aload_n 0, 1) := by decide +kernel
theorem dX10_meanLength_1 : decode cX10_meanLength 1 = .ok (.getfield 10, 3) := by decide +kernel
theorem dX10_meanLength_4 : decode cX10_meanLength 4 = .ok (.iconst 0, 1) := by decide +kernel
theorem dX10_meanLength_5 : decode cX10_meanLength 5 = .ok (.invokevirtual 185, 3) := by decide +kernel
theorem dX10_meanLength_8 : decode cX10_meanLength 8 = .ok (.i2f, 1) := by decide +kernel
theorem dX10_meanLength_9 : decode cX10_meanLength 9 = .ok (.ldc 242, 2) := by decide +kernel
theorem dX10_meanLength_11 : decode cX10_meanLength 11 = .ok (.fdiv, 1) := by decide +kernel
theorem dX10_meanLength_12 : decode cX10_meanLength 12 = .ok (.freturn, 1) := by decide +kernel
theorem dX10_waysAsSums_0 : decode cX10_waysAsSums 0 = .ok (.iconst 0, 1) := by decide +kernel
theorem dX10_waysAsSums_1 : decode cX10_waysAsSums 1 = .ok (.istore_n 1, 1) := by decide +kernel
theorem dX10_waysAsSums_2 : decode cX10_waysAsSums 2 = .ok (.iconst 0, 1) := by decide +kernel
theorem dX10_waysAsSums_3 : decode cX10_waysAsSums 3 = .ok (.istore_n 2, 1) := by decide +kernel
theorem dX10_waysAsSums_4 : decode cX10_waysAsSums 4 = .ok (.iload_n 2, 1) := by decide +kernel
theorem dX10_waysAsSums_5 : decode cX10_waysAsSums 5 = .ok (.iconst 1, 1) := by decide +kernel
theorem dX10_waysAsSums_6 : decode cX10_waysAsSums 6 = .ok (.if_icmp .gt 62, 3) := by decide +kernel
theorem dX10_waysAsSums_9 : decode cX10_waysAsSums 9 = .ok (.iconst 0, 1) := by decide +kernel
theorem dX10_waysAsSums_10 : decode cX10_waysAsSums 10 = .ok (.istore_n 3, 1) := by decide +kernel
theorem dX10_waysAsSums_11 : decode cX10_waysAsSums 11 = .ok (.iload_n 3, 1) := by decide +kernel
theorem dX10_waysAsSums_12 : decode cX10_waysAsSums 12 = .ok (.iconst 3, 1) := by decide +kernel
theorem dX10_waysAsSums_13 : decode cX10_waysAsSums 13 = .ok (.if_icmp .gt 49, 3) := by decide +kernel
theorem dX10_waysAsSums_16 : decode cX10_waysAsSums 16 = .ok (.iconst 0, 1) := by decide +kernel
theorem dX10_waysAsSums_17 : decode cX10_waysAsSums 17 = .ok (.istore 4, 2) := by decide +kernel
theorem dX10_waysAsSums_19 : decode cX10_waysAsSums 19 = .ok (.iload 4, 2) := by decide +kernel
theorem dX10_waysAsSums_21 : decode cX10_waysAsSums 21 = .ok (.iconst 5, 1) := by decide +kernel
theorem dX10_waysAsSums_22 : decode cX10_waysAsSums 22 = .ok (.if_icmp .gt 34, 3) := by decide +kernel
theorem dX10_waysAsSums_25 : decode cX10_waysAsSums 25 = .ok (.iload_n 0, 1) := by decide +kernel
theorem dX10_waysAsSums_26 : decode cX10_waysAsSums 26 = .ok (.iload_n 2, 1) := by decide +kernel
theorem dX10_waysAsSums_27 : decode cX10_waysAsSums 27 = .ok (.isub, 1) := by decide +kernel
theorem dX10_waysAsSums_28 : decode cX10_waysAsSums 28 = .ok (.iload_n 3, 1) := by decide +kernel
theorem dX10_waysAsSums_29 : decode cX10_waysAsSums 29 = .ok (.isub, 1) := by decide +kernel
theorem dX10_waysAsSums_30 : decode cX10_waysAsSums 30 = .ok (.iload 4, 2) := by decide +kernel
theorem dX10_waysAsSums_32 : decode cX10_waysAsSums 32 = .ok (.isub, 1) := by decide +kernel
theorem dX10_waysAsSums_33 : decode cX10_waysAsSums 33 = .ok (.istore 5, 2) := by decide +kernel
theorem dX10_waysAsSums_35 : decode cX10_waysAsSums 35 = .ok (.iload 5, 2) := by decide +kernel
theorem dX10_waysAsSums_37 : decode cX10_waysAsSums 37 = .ok (.ifCond .lt 13, 3) := by decide +kernel
theorem dX10_waysAsSums_40 : decode cX10_waysAsSums 40 = .ok (.iload 5, 2) := by decide +kernel
theorem dX10_waysAsSums_42 : decode cX10_waysAsSums 42 = .ok (.bipush 7, 2) := by decide +kernel
theorem dX10_waysAsSums_44 : decode cX10_waysAsSums 44 = .ok (.if_icmp .gt 6, 3) := by decide +kernel
theorem dX10_waysAsSums_47 : decode cX10_waysAsSums 47 = .ok (.iinc 1 1, 3) := by decide +kernel
theorem dX10_waysAsSums_50 : decode cX10_waysAsSums 50 = .ok (.iinc 4 1, 3) := by decide +kernel
theorem dX10_waysAsSums_53 : decode cX10_waysAsSums 53 = .ok (.goto (-34), 3) := by decide +kernel
theorem dX10_waysAsSums_56 : decode cX10_waysAsSums 56 = .ok (.iinc 3 1, 3) := by decide +kernel
theorem dX10_waysAsSums_59 : decode cX10_waysAsSums 59 = .ok (.goto (-48), 3) := by decide +kernel
theorem dX10_waysAsSums_62 : decode cX10_waysAsSums 62 = .ok (.iinc 2 1, 3) := by decide +kernel
theorem dX10_waysAsSums_65 : decode cX10_waysAsSums 65 = .ok (.goto (-61), 3) := by decide +kernel
theorem dX10_waysAsSums_68 : decode cX10_waysAsSums 68 = .ok (.iload_n 1, 1) := by decide +kernel
theorem dX10_waysAsSums_69 : decode cX10_waysAsSums 69 = .ok (.ireturn, 1) := by decide +kernel
theorem dX10_needCrease_0 : decode cX10_needCrease 0 = .ok (.iload_n 0, 1) := by decide +kernel
theorem dX10_needCrease_1 : decode cX10_needCrease 1 = .ok (.ifCond .lt 8, 3) := by decide +kernel
theorem dX10_needCrease_4 : decode cX10_needCrease 4 = .ok (.iload_n 0, 1) := by decide +kernel
theorem dX10_needCrease_5 : decode cX10_needCrease 5 = .ok (.iconst 4, 1) := by decide +kernel
theorem dX10_needCrease_6 : decode cX10_needCrease 6 = .ok (.if_icmp .lt 14, 3) := by decide +kernel
theorem dX10_needCrease_9 : decode cX10_needCrease 9 = .ok (.new 304, 3) := by decide +kernel
theorem dX10_needCrease_12 : decode cX10_needCrease 12 = .ok (.dup, 1) := by decide +kernel
theorem dX10_needCrease_13 : decode cX10_needCrease 13 = .ok (.ldc_w 306, 3) := by decide +kernel
theorem dX10_needCrease_16 : decode cX10_needCrease 16 = .ok (.invokespecial 308, 3) := by decide +kernel
theorem dX10_needCrease_19 : decode cX10_needCrease 19 = .ok (.athrow, 1) := by decide +kernel
theorem dX10_needCrease_20 : decode cX10_needCrease 20 = .ok (.return_, 1) := by decide +kernel
theorem dX10_needPosition_0 : decode cX10_needPosition 0 = .ok (.iload_n 0, 1) := by decide +kernel
theorem dX10_needPosition_1 : decode cX10_needPosition 1 = .ok (.ifCond .lt 8, 3) := by decide +kernel
theorem dX10_needPosition_4 : decode cX10_needPosition 4 = .ok (.iload_n 0, 1) := by decide +kernel
theorem dX10_needPosition_5 : decode cX10_needPosition 5 = .ok (.iconst 4, 1) := by decide +kernel
theorem dX10_needPosition_6 : decode cX10_needPosition 6 = .ok (.if_icmp .lt 14, 3) := by decide +kernel
theorem dX10_needPosition_9 : decode cX10_needPosition 9 = .ok (.new 304, 3) := by decide +kernel
theorem dX10_needPosition_12 : decode cX10_needPosition 12 = .ok (.dup, 1) := by decide +kernel
theorem dX10_needPosition_13 : decode cX10_needPosition 13 = .ok (.ldc_w 309, 3) := by decide +kernel
theorem dX10_needPosition_16 : decode cX10_needPosition 16 = .ok (.invokespecial 308, 3) := by decide +kernel
theorem dX10_needPosition_19 : decode cX10_needPosition 19 = .ok (.athrow, 1) := by decide +kernel
theorem dX10_needPosition_20 : decode cX10_needPosition 20 = .ok (.return_, 1) := by decide +kernel
theorem dX10_needPlace_0 : decode cX10_needPlace 0 = .ok (.iload_n 0, 1) := by decide +kernel
theorem dX10_needPlace_1 : decode cX10_needPlace 1 = .ok (.ifCond .ge 14, 3) := by decide +kernel
theorem dX10_needPlace_4 : decode cX10_needPlace 4 = .ok (.new 304, 3) := by decide +kernel
theorem dX10_needPlace_7 : decode cX10_needPlace 7 = .ok (.dup, 1) := by decide +kernel
theorem dX10_needPlace_8 : decode cX10_needPlace 8 = .ok (.ldc_w 311, 3) := by decide +kernel
theorem dX10_needPlace_11 : decode cX10_needPlace 11 = .ok (.invokespecial 308, 3) := by decide +kernel
theorem dX10_needPlace_14 : decode cX10_needPlace 14 = .ok (.athrow, 1) := by decide +kernel
theorem dX10_needPlace_15 : decode cX10_needPlace 15 = .ok (.return_, 1) := by decide +kernel
