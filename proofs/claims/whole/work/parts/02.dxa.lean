theorem d_D_init_0 : decode b_D_init 0 = .ok (.aload_n 0, 1) := by decide +kernel
theorem d_D_init_1 : decode b_D_init 1 = .ok (.invokespecial 3, 3) := by decide +kernel
theorem d_D_init_4 : decode b_D_init 4 = .ok (.aload_n 0, 1) := by decide +kernel
theorem d_D_init_5 : decode b_D_init 5 = .ok (.bipush 64, 2) := by decide +kernel
theorem d_D_init_7 : decode b_D_init 7 = .ok (.newarray .boolean, 2) := by decide +kernel
theorem d_D_init_9 : decode b_D_init 9 = .ok (.putfield 9, 3) := by decide +kernel
theorem d_D_init_12 : decode b_D_init 12 = .ok (.aload_n 0, 1) := by decide +kernel
theorem d_D_init_13 : decode b_D_init 13 = .ok (.new 13, 3) := by decide +kernel
theorem d_D_init_16 : decode b_D_init 16 = .ok (.dup, 1) := by decide +kernel
theorem d_D_init_17 : decode b_D_init 17 = .ok (.invokespecial 15, 3) := by decide +kernel
theorem d_D_init_20 : decode b_D_init 20 = .ok (.putfield 16, 3) := by decide +kernel
theorem d_D_init_23 : decode b_D_init 23 = .ok (.aload_n 0, 1) := by decide +kernel
theorem d_D_init_24 : decode b_D_init 24 = .ok (.new 20, 3) := by decide +kernel
theorem d_D_init_27 : decode b_D_init 27 = .ok (.dup, 1) := by decide +kernel
theorem d_D_init_28 : decode b_D_init 28 = .ok (.invokespecial 22, 3) := by decide +kernel
theorem d_D_init_31 : decode b_D_init 31 = .ok (.putfield 23, 3) := by decide +kernel
theorem d_D_init_34 : decode b_D_init 34 = .ok (.aload_n 0, 1) := by decide +kernel
theorem d_D_init_35 : decode b_D_init 35 = .ok (.new 27, 3) := by decide +kernel
theorem d_D_init_38 : decode b_D_init 38 = .ok (.dup, 1) := by decide +kernel
theorem d_D_init_39 : decode b_D_init 39 = .ok (.invokespecial 29, 3) := by decide +kernel
theorem d_D_init_42 : decode b_D_init 42 = .ok (.putfield 30, 3) := by decide +kernel
theorem d_D_init_45 : decode b_D_init 45 = .ok (.aload_n 0, 1) := by decide +kernel
theorem d_D_init_46 : decode b_D_init 46 = .ok (.bipush 6, 2) := by decide +kernel
theorem d_D_init_48 : decode b_D_init 48 = .ok (.anewarray 34, 3) := by decide +kernel
theorem d_D_init_51 : decode b_D_init 51 = .ok (.putfield 36, 3) := by decide +kernel
theorem d_D_init_54 : decode b_D_init 54 = .ok (.aload_n 0, 1) := by decide +kernel
theorem d_D_init_55 : decode b_D_init 55 = .ok (.iconst 0, 1) := by decide +kernel
theorem d_D_init_56 : decode b_D_init 56 = .ok (.putfield 40, 3) := by decide +kernel
theorem d_D_init_59 : decode b_D_init 59 = .ok (.aload_n 0, 1) := by decide +kernel
theorem d_D_init_60 : decode b_D_init 60 = .ok (.iconst 0, 1) := by decide +kernel
theorem d_D_init_61 : decode b_D_init 61 = .ok (.putfield 44, 3) := by decide +kernel
theorem d_D_init_64 : decode b_D_init 64 = .ok (.iconst 0, 1) := by decide +kernel
theorem d_D_init_65 : decode b_D_init 65 = .ok (.istore_n 1, 1) := by decide +kernel
theorem d_D_init_66 : decode b_D_init 66 = .ok (.iload_n 1, 1) := by decide +kernel
theorem d_D_init_67 : decode b_D_init 67 = .ok (.bipush 6, 2) := by decide +kernel
theorem d_D_init_69 : decode b_D_init 69 = .ok (.if_icmp .ge 22, 3) := by decide +kernel
theorem d_D_init_72 : decode b_D_init 72 = .ok (.aload_n 0, 1) := by decide +kernel
theorem d_D_init_73 : decode b_D_init 73 = .ok (.getfield 36, 3) := by decide +kernel
theorem d_D_init_76 : decode b_D_init 76 = .ok (.iload_n 1, 1) := by decide +kernel
theorem d_D_init_77 : decode b_D_init 77 = .ok (.new 34, 3) := by decide +kernel
theorem d_D_init_80 : decode b_D_init 80 = .ok (.dup, 1) := by decide +kernel
theorem d_D_init_81 : decode b_D_init 81 = .ok (.invokespecial 47, 3) := by decide +kernel
theorem d_D_init_84 : decode b_D_init 84 = .ok (.aastore, 1) := by decide +kernel
theorem d_D_init_85 : decode b_D_init 85 = .ok (.iinc 1 1, 3) := by decide +kernel
theorem d_D_init_88 : decode b_D_init 88 = .ok (.goto (-22), 3) := by decide +kernel
theorem d_D_init_91 : decode b_D_init 91 = .ok (.return_, 1) := by decide +kernel
theorem d_D_kind_0 : decode b_D_kind 0 = .ok (.iload_n 1, 1) := by decide +kernel
theorem d_D_kind_1 : decode b_D_kind 1 = .ok (.invokestatic 48, 3) := by decide +kernel
theorem d_D_kind_4 : decode b_D_kind 4 = .ok (.ifCond .ne 5, 3) := by decide +kernel
theorem d_D_kind_7 : decode b_D_kind 7 = .ok (.iconst 0, 1) := by decide +kernel
theorem d_D_kind_8 : decode b_D_kind 8 = .ok (.ireturn, 1) := by decide +kernel
theorem d_D_kind_9 : decode b_D_kind 9 = .ok (.aload_n 0, 1) := by decide +kernel
theorem d_D_kind_10 : decode b_D_kind 10 = .ok (.getfield 9, 3) := by decide +kernel
theorem d_D_kind_13 : decode b_D_kind 13 = .ok (.iload_n 1, 1) := by decide +kernel
theorem d_D_kind_14 : decode b_D_kind 14 = .ok (.iload_n 2, 1) := by decide +kernel
theorem d_D_kind_15 : decode b_D_kind 15 = .ok (.bastore, 1) := by decide +kernel
theorem d_D_kind_16 : decode b_D_kind 16 = .ok (.iconst 1, 1) := by decide +kernel
theorem d_D_kind_17 : decode b_D_kind 17 = .ok (.ireturn, 1) := by decide +kernel
theorem d_D_set_0 : decode b_D_set 0 = .ok (.iload_n 1, 1) := by decide +kernel
theorem d_D_set_1 : decode b_D_set 1 = .ok (.invokestatic 48, 3) := by decide +kernel
theorem d_D_set_4 : decode b_D_set 4 = .ok (.ifCond .eq 10, 3) := by decide +kernel
theorem d_D_set_7 : decode b_D_set 7 = .ok (.iload_n 2, 1) := by decide +kernel
theorem d_D_set_8 : decode b_D_set 8 = .ok (.invokestatic 52, 3) := by decide +kernel
theorem d_D_set_11 : decode b_D_set 11 = .ok (.ifCond .ne 5, 3) := by decide +kernel
theorem d_D_set_14 : decode b_D_set 14 = .ok (.iconst 0, 1) := by decide +kernel
theorem d_D_set_15 : decode b_D_set 15 = .ok (.ireturn, 1) := by decide +kernel
theorem d_D_set_16 : decode b_D_set 16 = .ok (.aload_n 0, 1) := by decide +kernel
theorem d_D_set_17 : decode b_D_set 17 = .ok (.getfield 16, 3) := by decide +kernel
theorem d_D_set_20 : decode b_D_set 20 = .ok (.iload_n 1, 1) := by decide +kernel
theorem d_D_set_21 : decode b_D_set 21 = .ok (.iload_n 2, 1) := by decide +kernel
theorem d_D_set_22 : decode b_D_set 22 = .ok (.invokevirtual 55, 3) := by decide +kernel
theorem d_D_set_25 : decode b_D_set 25 = .ok (.iconst 1, 1) := by decide +kernel
theorem d_D_set_26 : decode b_D_set 26 = .ok (.ireturn, 1) := by decide +kernel
theorem d_D_use_0 : decode b_D_use 0 = .ok (.iload_n 1, 1) := by decide +kernel
theorem d_D_use_1 : decode b_D_use 1 = .ok (.invokestatic 48, 3) := by decide +kernel
theorem d_D_use_4 : decode b_D_use 4 = .ok (.ifCond .eq 10, 3) := by decide +kernel
theorem d_D_use_7 : decode b_D_use 7 = .ok (.iload_n 2, 1) := by decide +kernel
theorem d_D_use_8 : decode b_D_use 8 = .ok (.invokestatic 59, 3) := by decide +kernel
theorem d_D_use_11 : decode b_D_use 11 = .ok (.ifCond .ne 5, 3) := by decide +kernel
theorem d_D_use_14 : decode b_D_use 14 = .ok (.iconst 0, 1) := by decide +kernel
theorem d_D_use_15 : decode b_D_use 15 = .ok (.ireturn, 1) := by decide +kernel
theorem d_D_use_16 : decode b_D_use 16 = .ok (.aload_n 0, 1) := by decide +kernel
theorem d_D_use_17 : decode b_D_use 17 = .ok (.getfield 16, 3) := by decide +kernel
theorem d_D_use_20 : decode b_D_use 20 = .ok (.iload_n 1, 1) := by decide +kernel
theorem d_D_use_21 : decode b_D_use 21 = .ok (.sipush 256, 3) := by decide +kernel
theorem d_D_use_24 : decode b_D_use 24 = .ok (.iload_n 2, 1) := by decide +kernel
theorem d_D_use_25 : decode b_D_use 25 = .ok (.iadd, 1) := by decide +kernel
theorem d_D_use_26 : decode b_D_use 26 = .ok (.invokevirtual 55, 3) := by decide +kernel
theorem d_D_use_29 : decode b_D_use 29 = .ok (.iconst 1, 1) := by decide +kernel
theorem d_D_use_30 : decode b_D_use 30 = .ok (.ireturn, 1) := by decide +kernel
theorem d_D_release_0 : decode b_D_release 0 = .ok (.aload_n 0, 1) := by decide +kernel
theorem d_D_release_1 : decode b_D_release 1 = .ok (.getfield 16, 3) := by decide +kernel
theorem d_D_release_4 : decode b_D_release 4 = .ok (.getfield 62, 3) := by decide +kernel
theorem d_D_release_7 : decode b_D_release 7 = .ok (.istore_n 2, 1) := by decide +kernel
theorem d_D_release_8 : decode b_D_release 8 = .ok (.iload_n 1, 1) := by decide +kernel
theorem d_D_release_9 : decode b_D_release 9 = .ok (.iconst (-1), 1) := by decide +kernel
theorem d_D_release_10 : decode b_D_release 10 = .ok (.if_icmp .ne 13, 3) := by decide +kernel
theorem d_D_release_13 : decode b_D_release 13 = .ok (.aload_n 0, 1) := by decide +kernel
theorem d_D_release_14 : decode b_D_release 14 = .ok (.getfield 16, 3) := by decide +kernel
theorem d_D_release_17 : decode b_D_release 17 = .ok (.invokevirtual 65, 3) := by decide +kernel
theorem d_D_release_20 : decode b_D_release 20 = .ok (.goto 18, 3) := by decide +kernel
theorem d_D_release_23 : decode b_D_release 23 = .ok (.iload_n 1, 1) := by decide +kernel
theorem d_D_release_24 : decode b_D_release 24 = .ok (.invokestatic 48, 3) := by decide +kernel
theorem d_D_release_27 : decode b_D_release 27 = .ok (.ifCond .eq 11, 3) := by decide +kernel
theorem d_D_release_30 : decode b_D_release 30 = .ok (.aload_n 0, 1) := by decide +kernel
theorem d_D_release_31 : decode b_D_release 31 = .ok (.getfield 16, 3) := by decide +kernel
theorem d_D_release_34 : decode b_D_release 34 = .ok (.iload_n 1, 1) := by decide +kernel
theorem d_D_release_35 : decode b_D_release 35 = .ok (.invokevirtual 68, 3) := by decide +kernel
theorem d_D_release_38 : decode b_D_release 38 = .ok (.iload_n 2, 1) := by decide +kernel
theorem d_D_release_39 : decode b_D_release 39 = .ok (.aload_n 0, 1) := by decide +kernel
theorem d_D_release_40 : decode b_D_release 40 = .ok (.getfield 16, 3) := by decide +kernel
theorem d_D_release_43 : decode b_D_release 43 = .ok (.getfield 62, 3) := by decide +kernel
theorem d_D_release_46 : decode b_D_release 46 = .ok (.isub, 1) := by decide +kernel
theorem d_D_release_47 : decode b_D_release 47 = .ok (.ireturn, 1) := by decide +kernel
theorem d_D_palette_0 : decode b_D_palette 0 = .ok (.iload_n 1, 1) := by decide +kernel
theorem d_D_palette_1 : decode b_D_palette 1 = .ok (.invokestatic 59, 3) := by decide +kernel
theorem d_D_palette_4 : decode b_D_palette 4 = .ok (.ifCond .eq 10, 3) := by decide +kernel
theorem d_D_palette_7 : decode b_D_palette 7 = .ok (.iload_n 2, 1) := by decide +kernel
theorem d_D_palette_8 : decode b_D_palette 8 = .ok (.invokestatic 48, 3) := by decide +kernel
theorem d_D_palette_11 : decode b_D_palette 11 = .ok (.ifCond .ne 5, 3) := by decide +kernel
theorem d_D_palette_14 : decode b_D_palette 14 = .ok (.iconst 0, 1) := by decide +kernel
theorem d_D_palette_15 : decode b_D_palette 15 = .ok (.ireturn, 1) := by decide +kernel
theorem d_D_palette_16 : decode b_D_palette 16 = .ok (.iload_n 3, 1) := by decide +kernel
theorem d_D_palette_17 : decode b_D_palette 17 = .ok (.iconst (-1), 1) := by decide +kernel
theorem d_D_palette_18 : decode b_D_palette 18 = .ok (.if_icmp .eq 12, 3) := by decide +kernel
theorem d_D_palette_21 : decode b_D_palette 21 = .ok (.iload_n 3, 1) := by decide +kernel
theorem d_D_palette_22 : decode b_D_palette 22 = .ok (.invokestatic 52, 3) := by decide +kernel
theorem d_D_palette_25 : decode b_D_palette 25 = .ok (.ifCond .ne 5, 3) := by decide +kernel
theorem d_D_palette_28 : decode b_D_palette 28 = .ok (.iconst 0, 1) := by decide +kernel
theorem d_D_palette_29 : decode b_D_palette 29 = .ok (.ireturn, 1) := by decide +kernel
theorem d_D_palette_30 : decode b_D_palette 30 = .ok (.aload_n 0, 1) := by decide +kernel
theorem d_D_palette_31 : decode b_D_palette 31 = .ok (.getfield 23, 3) := by decide +kernel
theorem d_D_palette_34 : decode b_D_palette 34 = .ok (.iload_n 1, 1) := by decide +kernel
theorem d_D_palette_35 : decode b_D_palette 35 = .ok (.iload_n 2, 1) := by decide +kernel
theorem d_D_palette_36 : decode b_D_palette 36 = .ok (.iload_n 3, 1) := by decide +kernel
theorem d_D_palette_37 : decode b_D_palette 37 = .ok (.invokevirtual 72, 3) := by decide +kernel
theorem d_D_palette_40 : decode b_D_palette 40 = .ok (.iconst 1, 1) := by decide +kernel
theorem d_D_palette_41 : decode b_D_palette 41 = .ok (.ireturn, 1) := by decide +kernel
theorem d_D_record_0 : decode b_D_record 0 = .ok (.iload_n 1, 1) := by decide +kernel
theorem d_D_record_1 : decode b_D_record 1 = .ok (.invokestatic 76, 3) := by decide +kernel
theorem d_D_record_4 : decode b_D_record 4 = .ok (.ifCond .eq 10, 3) := by decide +kernel
theorem d_D_record_7 : decode b_D_record 7 = .ok (.iload_n 2, 1) := by decide +kernel
theorem d_D_record_8 : decode b_D_record 8 = .ok (.invokestatic 79, 3) := by decide +kernel
theorem d_D_record_11 : decode b_D_record 11 = .ok (.ifCond .ne 13, 3) := by decide +kernel
theorem d_D_record_14 : decode b_D_record 14 = .ok (.new 82, 3) := by decide +kernel
theorem d_D_record_17 : decode b_D_record 17 = .ok (.dup, 1) := by decide +kernel
theorem d_D_record_18 : decode b_D_record 18 = .ok (.ldc 84, 2) := by decide +kernel
theorem d_D_record_20 : decode b_D_record 20 = .ok (.invokespecial 86, 3) := by decide +kernel
theorem d_D_record_23 : decode b_D_record 23 = .ok (.athrow, 1) := by decide +kernel
theorem d_D_record_24 : decode b_D_record 24 = .ok (.aload_n 0, 1) := by decide +kernel
theorem d_D_record_25 : decode b_D_record 25 = .ok (.getfield 30, 3) := by decide +kernel
theorem d_D_record_28 : decode b_D_record 28 = .ok (.aload_n 0, 1) := by decide +kernel
theorem d_D_record_29 : decode b_D_record 29 = .ok (.getfield 16, 3) := by decide +kernel
theorem d_D_record_32 : decode b_D_record 32 = .ok (.iload_n 1, 1) := by decide +kernel
theorem d_D_record_33 : decode b_D_record 33 = .ok (.iload_n 2, 1) := by decide +kernel
theorem d_D_record_34 : decode b_D_record 34 = .ok (.iload_n 3, 1) := by decide +kernel
theorem d_D_record_35 : decode b_D_record 35 = .ok (.invokevirtual 89, 3) := by decide +kernel
theorem d_D_record_38 : decode b_D_record 38 = .ok (.istore 4, 2) := by decide +kernel
theorem d_D_record_40 : decode b_D_record 40 = .ok (.iload 4, 2) := by decide +kernel
theorem d_D_record_42 : decode b_D_record 42 = .ok (.iconst (-1), 1) := by decide +kernel
theorem d_D_record_43 : decode b_D_record 43 = .ok (.if_icmp .ne 13, 3) := by decide +kernel
theorem d_D_record_46 : decode b_D_record 46 = .ok (.new 93, 3) := by decide +kernel
theorem d_D_record_49 : decode b_D_record 49 = .ok (.dup, 1) := by decide +kernel
theorem d_D_record_50 : decode b_D_record 50 = .ok (.ldc 95, 2) := by decide +kernel
theorem d_D_record_52 : decode b_D_record 52 = .ok (.invokespecial 97, 3) := by decide +kernel
theorem d_D_record_55 : decode b_D_record 55 = .ok (.athrow, 1) := by decide +kernel
theorem d_D_record_56 : decode b_D_record 56 = .ok (.iload 4, 2) := by decide +kernel
theorem d_D_record_58 : decode b_D_record 58 = .ok (.ireturn, 1) := by decide +kernel
theorem d_D_update_0 : decode b_D_update 0 = .ok (.aload_n 0, 1) := by decide +kernel
theorem d_D_update_1 : decode b_D_update 1 = .ok (.iload_n 1, 1) := by decide +kernel
theorem d_D_update_2 : decode b_D_update 2 = .ok (.iload_n 2, 1) := by decide +kernel
theorem d_D_update_3 : decode b_D_update 3 = .ok (.invokevirtual 98, 3) := by decide +kernel
theorem d_D_update_6 : decode b_D_update 6 = .ok (.istore_n 3, 1) := by decide +kernel
theorem d_D_update_7 : decode b_D_update 7 = .ok (.aload_n 0, 1) := by decide +kernel
theorem d_D_update_8 : decode b_D_update 8 = .ok (.getfield 30, 3) := by decide +kernel
theorem d_D_update_11 : decode b_D_update 11 = .ok (.aload_n 0, 1) := by decide +kernel
theorem d_D_update_12 : decode b_D_update 12 = .ok (.getfield 16, 3) := by decide +kernel
theorem d_D_update_15 : decode b_D_update 15 = .ok (.iload_n 3, 1) := by decide +kernel
theorem d_D_update_16 : decode b_D_update 16 = .ok (.invokevirtual 102, 3) := by decide +kernel
theorem d_D_update_19 : decode b_D_update 19 = .ok (.istore 4, 2) := by decide +kernel
theorem d_D_update_21 : decode b_D_update 21 = .ok (.iload 4, 2) := by decide +kernel
theorem d_D_update_23 : decode b_D_update 23 = .ok (.iconst (-1), 1) := by decide +kernel
theorem d_D_update_24 : decode b_D_update 24 = .ok (.if_icmp .ne 13, 3) := by decide +kernel
theorem d_D_update_27 : decode b_D_update 27 = .ok (.new 93, 3) := by decide +kernel
theorem d_D_update_30 : decode b_D_update 30 = .ok (.dup, 1) := by decide +kernel
theorem d_D_update_31 : decode b_D_update 31 = .ok (.ldc 106, 2) := by decide +kernel
theorem d_D_update_33 : decode b_D_update 33 = .ok (.invokespecial 97, 3) := by decide +kernel
theorem d_D_update_36 : decode b_D_update 36 = .ok (.athrow, 1) := by decide +kernel
theorem d_D_update_37 : decode b_D_update 37 = .ok (.iload 4, 2) := by decide +kernel
theorem d_D_update_39 : decode b_D_update 39 = .ok (.ireturn, 1) := by decide +kernel
theorem d_D_delete_0 : decode b_D_delete 0 = .ok (.aload_n 0, 1) := by decide +kernel
theorem d_D_delete_1 : decode b_D_delete 1 = .ok (.iload_n 1, 1) := by decide +kernel
theorem d_D_delete_2 : decode b_D_delete 2 = .ok (.iload_n 2, 1) := by decide +kernel
theorem d_D_delete_3 : decode b_D_delete 3 = .ok (.invokevirtual 98, 3) := by decide +kernel
theorem d_D_delete_6 : decode b_D_delete 6 = .ok (.istore 4, 2) := by decide +kernel
theorem d_D_delete_8 : decode b_D_delete 8 = .ok (.aload_n 0, 1) := by decide +kernel
theorem d_D_delete_9 : decode b_D_delete 9 = .ok (.getfield 30, 3) := by decide +kernel
theorem d_D_delete_12 : decode b_D_delete 12 = .ok (.iload 4, 2) := by decide +kernel
theorem d_D_delete_14 : decode b_D_delete 14 = .ok (.iload_n 3, 1) := by decide +kernel
theorem d_D_delete_15 : decode b_D_delete 15 = .ok (.invokevirtual 108, 3) := by decide +kernel
theorem d_D_delete_18 : decode b_D_delete 18 = .ok (.ireturn, 1) := by decide +kernel
theorem d_D_block_0 : decode b_D_block 0 = .ok (.aload_n 0, 1) := by decide +kernel
theorem d_D_block_1 : decode b_D_block 1 = .ok (.iload_n 1, 1) := by decide +kernel
theorem d_D_block_2 : decode b_D_block 2 = .ok (.iload_n 2, 1) := by decide +kernel
theorem d_D_block_3 : decode b_D_block 3 = .ok (.invokevirtual 98, 3) := by decide +kernel
theorem d_D_block_6 : decode b_D_block 6 = .ok (.istore 4, 2) := by decide +kernel
theorem d_D_block_8 : decode b_D_block 8 = .ok (.iload_n 3, 1) := by decide +kernel
theorem d_D_block_9 : decode b_D_block 9 = .ok (.ifCond .eq 15, 3) := by decide +kernel
theorem d_D_block_12 : decode b_D_block 12 = .ok (.aload_n 0, 1) := by decide +kernel
theorem d_D_block_13 : decode b_D_block 13 = .ok (.getfield 30, 3) := by decide +kernel
theorem d_D_block_16 : decode b_D_block 16 = .ok (.iload 4, 2) := by decide +kernel
theorem d_D_block_18 : decode b_D_block 18 = .ok (.invokevirtual 112, 3) := by decide +kernel
theorem d_D_block_21 : decode b_D_block 21 = .ok (.goto 12, 3) := by decide +kernel
theorem d_D_block_24 : decode b_D_block 24 = .ok (.aload_n 0, 1) := by decide +kernel
theorem d_D_block_25 : decode b_D_block 25 = .ok (.getfield 30, 3) := by decide +kernel
theorem d_D_block_28 : decode b_D_block 28 = .ok (.iload 4, 2) := by decide +kernel
theorem d_D_block_30 : decode b_D_block 30 = .ok (.invokevirtual 116, 3) := by decide +kernel
theorem d_D_block_33 : decode b_D_block 33 = .ok (.istore 5, 2) := by decide +kernel
theorem d_D_block_35 : decode b_D_block 35 = .ok (.iload 5, 2) := by decide +kernel
theorem d_D_block_37 : decode b_D_block 37 = .ok (.iconst (-1), 1) := by decide +kernel
theorem d_D_block_38 : decode b_D_block 38 = .ok (.if_icmp .ne 13, 3) := by decide +kernel
theorem d_D_block_41 : decode b_D_block 41 = .ok (.new 93, 3) := by decide +kernel
theorem d_D_block_44 : decode b_D_block 44 = .ok (.dup, 1) := by decide +kernel
theorem d_D_block_45 : decode b_D_block 45 = .ok (.ldc 106, 2) := by decide +kernel
theorem d_D_block_47 : decode b_D_block 47 = .ok (.invokespecial 97, 3) := by decide +kernel
theorem d_D_block_50 : decode b_D_block 50 = .ok (.athrow, 1) := by decide +kernel
theorem d_D_block_51 : decode b_D_block 51 = .ok (.iload 5, 2) := by decide +kernel
theorem d_D_block_53 : decode b_D_block 53 = .ok (.ireturn, 1) := by decide +kernel
theorem d_D_times_0 : decode b_D_times 0 = .ok (.aload_n 0, 1) := by decide +kernel
theorem d_D_times_1 : decode b_D_times 1 = .ok (.getfield 30, 3) := by decide +kernel
theorem d_D_times_4 : decode b_D_times 4 = .ok (.iload_n 1, 1) := by decide +kernel
theorem d_D_times_5 : decode b_D_times 5 = .ok (.iload_n 2, 1) := by decide +kernel
theorem d_D_times_6 : decode b_D_times 6 = .ok (.invokevirtual 119, 3) := by decide +kernel
theorem d_D_times_9 : decode b_D_times 9 = .ok (.istore 5, 2) := by decide +kernel
theorem d_D_times_11 : decode b_D_times 11 = .ok (.iload 5, 2) := by decide +kernel
theorem d_D_times_13 : decode b_D_times 13 = .ok (.iconst (-1), 1) := by decide +kernel
theorem d_D_times_14 : decode b_D_times 14 = .ok (.if_icmp .eq 18, 3) := by decide +kernel
theorem d_D_times_17 : decode b_D_times 17 = .ok (.iload_n 3, 1) := by decide +kernel
theorem d_D_times_18 : decode b_D_times 18 = .ok (.invokestatic 122, 3) := by decide +kernel
theorem d_D_times_21 : decode b_D_times 21 = .ok (.ifCond .eq 11, 3) := by decide +kernel
theorem d_D_times_24 : decode b_D_times 24 = .ok (.iload 4, 2) := by decide +kernel
theorem d_D_times_26 : decode b_D_times 26 = .ok (.invokestatic 122, 3) := by decide +kernel
theorem d_D_times_29 : decode b_D_times 29 = .ok (.ifCond .ne 5, 3) := by decide +kernel
theorem d_D_times_32 : decode b_D_times 32 = .ok (.iconst 0, 1) := by decide +kernel
theorem d_D_times_33 : decode b_D_times 33 = .ok (.ireturn, 1) := by decide +kernel
theorem d_D_times_34 : decode b_D_times 34 = .ok (.aload_n 0, 1) := by decide +kernel
theorem d_D_times_35 : decode b_D_times 35 = .ok (.getfield 30, 3) := by decide +kernel
theorem d_D_times_38 : decode b_D_times 38 = .ok (.iload 5, 2) := by decide +kernel
theorem d_D_times_40 : decode b_D_times 40 = .ok (.invokevirtual 125, 3) := by decide +kernel
theorem d_D_times_43 : decode b_D_times 43 = .ok (.astore 6, 2) := by decide +kernel
theorem d_D_times_45 : decode b_D_times 45 = .ok (.aload 6, 2) := by decide +kernel
theorem d_D_times_47 : decode b_D_times 47 = .ok (.iload_n 3, 1) := by decide +kernel
theorem d_D_times_48 : decode b_D_times 48 = .ok (.putfield 129, 3) := by decide +kernel
theorem d_D_times_51 : decode b_D_times 51 = .ok (.aload 6, 2) := by decide +kernel
theorem d_D_times_53 : decode b_D_times 53 = .ok (.iload 4, 2) := by decide +kernel
theorem d_D_times_55 : decode b_D_times 55 = .ok (.putfield 134, 3) := by decide +kernel
theorem d_D_times_58 : decode b_D_times 58 = .ok (.iconst 1, 1) := by decide +kernel
theorem d_D_times_59 : decode b_D_times 59 = .ok (.ireturn, 1) := by decide +kernel
theorem d_D_delays_0 : decode b_D_delays 0 = .ok (.aload_n 0, 1) := by decide +kernel
theorem d_D_delays_1 : decode b_D_delays 1 = .ok (.getfield 30, 3) := by decide +kernel
theorem d_D_delays_4 : decode b_D_delays 4 = .ok (.iload_n 1, 1) := by decide +kernel
theorem d_D_delays_5 : decode b_D_delays 5 = .ok (.iload_n 2, 1) := by decide +kernel
theorem d_D_delays_6 : decode b_D_delays 6 = .ok (.invokevirtual 119, 3) := by decide +kernel
theorem d_D_delays_9 : decode b_D_delays 9 = .ok (.istore 5, 2) := by decide +kernel
theorem d_D_delays_11 : decode b_D_delays 11 = .ok (.iload 5, 2) := by decide +kernel
theorem d_D_delays_13 : decode b_D_delays 13 = .ok (.iconst (-1), 1) := by decide +kernel
theorem d_D_delays_14 : decode b_D_delays 14 = .ok (.if_icmp .eq 10, 3) := by decide +kernel
theorem d_D_delays_17 : decode b_D_delays 17 = .ok (.iload_n 3, 1) := by decide +kernel
theorem d_D_delays_18 : decode b_D_delays 18 = .ok (.invokestatic 122, 3) := by decide +kernel
theorem d_D_delays_21 : decode b_D_delays 21 = .ok (.ifCond .ne 5, 3) := by decide +kernel
theorem d_D_delays_24 : decode b_D_delays 24 = .ok (.iconst 0, 1) := by decide +kernel
theorem d_D_delays_25 : decode b_D_delays 25 = .ok (.ireturn, 1) := by decide +kernel
theorem d_D_delays_26 : decode b_D_delays 26 = .ok (.iload 4, 2) := by decide +kernel
theorem d_D_delays_28 : decode b_D_delays 28 = .ok (.iconst (-1), 1) := by decide +kernel
theorem d_D_delays_29 : decode b_D_delays 29 = .ok (.if_icmp .eq 13, 3) := by decide +kernel
theorem d_D_delays_32 : decode b_D_delays 32 = .ok (.iload 4, 2) := by decide +kernel
theorem d_D_delays_34 : decode b_D_delays 34 = .ok (.invokestatic 122, 3) := by decide +kernel
theorem d_D_delays_37 : decode b_D_delays 37 = .ok (.ifCond .ne 5, 3) := by decide +kernel
theorem d_D_delays_40 : decode b_D_delays 40 = .ok (.iconst 0, 1) := by decide +kernel
theorem d_D_delays_41 : decode b_D_delays 41 = .ok (.ireturn, 1) := by decide +kernel
theorem d_D_delays_42 : decode b_D_delays 42 = .ok (.aload_n 0, 1) := by decide +kernel
theorem d_D_delays_43 : decode b_D_delays 43 = .ok (.getfield 30, 3) := by decide +kernel
theorem d_D_delays_46 : decode b_D_delays 46 = .ok (.iload 5, 2) := by decide +kernel
theorem d_D_delays_48 : decode b_D_delays 48 = .ok (.invokevirtual 125, 3) := by decide +kernel
theorem d_D_delays_51 : decode b_D_delays 51 = .ok (.astore 6, 2) := by decide +kernel
theorem d_D_delays_53 : decode b_D_delays 53 = .ok (.aload 6, 2) := by decide +kernel
theorem d_D_delays_55 : decode b_D_delays 55 = .ok (.iload_n 3, 1) := by decide +kernel
theorem d_D_delays_56 : decode b_D_delays 56 = .ok (.putfield 137, 3) := by decide +kernel
theorem d_D_delays_59 : decode b_D_delays 59 = .ok (.aload 6, 2) := by decide +kernel
theorem d_D_delays_61 : decode b_D_delays 61 = .ok (.iload 4, 2) := by decide +kernel
theorem d_D_delays_63 : decode b_D_delays 63 = .ok (.putfield 140, 3) := by decide +kernel
theorem d_D_delays_66 : decode b_D_delays 66 = .ok (.iconst 1, 1) := by decide +kernel
theorem d_D_delays_67 : decode b_D_delays 67 = .ok (.ireturn, 1) := by decide +kernel
theorem d_D_look_0 : decode b_D_look 0 = .ok (.aload_n 0, 1) := by decide +kernel
theorem d_D_look_1 : decode b_D_look 1 = .ok (.iload_n 1, 1) := by decide +kernel
theorem d_D_look_2 : decode b_D_look 2 = .ok (.iload_n 2, 1) := by decide +kernel
theorem d_D_look_3 : decode b_D_look 3 = .ok (.invokevirtual 98, 3) := by decide +kernel
theorem d_D_look_6 : decode b_D_look 6 = .ok (.istore 4, 2) := by decide +kernel
theorem d_D_look_8 : decode b_D_look 8 = .ok (.iload_n 3, 1) := by decide +kernel
theorem d_D_look_9 : decode b_D_look 9 = .ok (.invokestatic 48, 3) := by decide +kernel
theorem d_D_look_12 : decode b_D_look 12 = .ok (.ifCond .ne 13, 3) := by decide +kernel
theorem d_D_look_15 : decode b_D_look 15 = .ok (.new 143, 3) := by decide +kernel
theorem d_D_look_18 : decode b_D_look 18 = .ok (.dup, 1) := by decide +kernel
theorem d_D_look_19 : decode b_D_look 19 = .ok (.ldc 145, 2) := by decide +kernel
theorem d_D_look_21 : decode b_D_look 21 = .ok (.invokespecial 147, 3) := by decide +kernel
theorem d_D_look_24 : decode b_D_look 24 = .ok (.athrow, 1) := by decide +kernel
theorem d_D_look_25 : decode b_D_look 25 = .ok (.aload_n 0, 1) := by decide +kernel
theorem d_D_look_26 : decode b_D_look 26 = .ok (.getfield 23, 3) := by decide +kernel
theorem d_D_look_29 : decode b_D_look 29 = .ok (.aload_n 0, 1) := by decide +kernel
theorem d_D_look_30 : decode b_D_look 30 = .ok (.getfield 30, 3) := by decide +kernel
theorem d_D_look_33 : decode b_D_look 33 = .ok (.iload 4, 2) := by decide +kernel
theorem d_D_look_35 : decode b_D_look 35 = .ok (.iload_n 3, 1) := by decide +kernel
theorem d_D_look_36 : decode b_D_look 36 = .ok (.invokevirtual 148, 3) := by decide +kernel
theorem d_D_look_39 : decode b_D_look 39 = .ok (.iload_n 3, 1) := by decide +kernel
theorem d_D_look_40 : decode b_D_look 40 = .ok (.invokevirtual 151, 3) := by decide +kernel
theorem d_D_look_43 : decode b_D_look 43 = .ok (.ireturn, 1) := by decide +kernel
theorem d_D_source_0 : decode b_D_source 0 = .ok (.aload_n 0, 1) := by decide +kernel
theorem d_D_source_1 : decode b_D_source 1 = .ok (.iload_n 1, 1) := by decide +kernel
theorem d_D_source_2 : decode b_D_source 2 = .ok (.iload_n 2, 1) := by decide +kernel
theorem d_D_source_3 : decode b_D_source 3 = .ok (.invokevirtual 98, 3) := by decide +kernel
theorem d_D_source_6 : decode b_D_source 6 = .ok (.istore 4, 2) := by decide +kernel
theorem d_D_source_8 : decode b_D_source 8 = .ok (.iload_n 3, 1) := by decide +kernel
theorem d_D_source_9 : decode b_D_source 9 = .ok (.invokestatic 48, 3) := by decide +kernel
theorem d_D_source_12 : decode b_D_source 12 = .ok (.ifCond .ne 13, 3) := by decide +kernel
theorem d_D_source_15 : decode b_D_source 15 = .ok (.new 143, 3) := by decide +kernel
theorem d_D_source_18 : decode b_D_source 18 = .ok (.dup, 1) := by decide +kernel
theorem d_D_source_19 : decode b_D_source 19 = .ok (.ldc 145, 2) := by decide +kernel
theorem d_D_source_21 : decode b_D_source 21 = .ok (.invokespecial 147, 3) := by decide +kernel
theorem d_D_source_24 : decode b_D_source 24 = .ok (.athrow, 1) := by decide +kernel
theorem d_D_source_25 : decode b_D_source 25 = .ok (.aload_n 0, 1) := by decide +kernel
theorem d_D_source_26 : decode b_D_source 26 = .ok (.getfield 30, 3) := by decide +kernel
theorem d_D_source_29 : decode b_D_source 29 = .ok (.iload 4, 2) := by decide +kernel
theorem d_D_source_31 : decode b_D_source 31 = .ok (.iload_n 3, 1) := by decide +kernel
theorem d_D_source_32 : decode b_D_source 32 = .ok (.invokevirtual 154, 3) := by decide +kernel
theorem d_D_source_35 : decode b_D_source 35 = .ok (.istore 5, 2) := by decide +kernel
theorem d_D_source_37 : decode b_D_source 37 = .ok (.iload 5, 2) := by decide +kernel
theorem d_D_source_39 : decode b_D_source 39 = .ok (.iconst (-1), 1) := by decide +kernel
theorem d_D_source_40 : decode b_D_source 40 = .ok (.if_icmp .ne 7, 3) := by decide +kernel
theorem d_D_source_43 : decode b_D_source 43 = .ok (.iconst (-1), 1) := by decide +kernel
theorem d_D_source_44 : decode b_D_source 44 = .ok (.goto 15, 3) := by decide +kernel
theorem d_D_source_47 : decode b_D_source 47 = .ok (.aload_n 0, 1) := by decide +kernel
theorem d_D_source_48 : decode b_D_source 48 = .ok (.getfield 30, 3) := by decide +kernel
theorem d_D_source_51 : decode b_D_source 51 = .ok (.iload 5, 2) := by decide +kernel
theorem d_D_source_53 : decode b_D_source 53 = .ok (.invokevirtual 125, 3) := by decide +kernel
theorem d_D_source_56 : decode b_D_source 56 = .ok (.getfield 157, 3) := by decide +kernel
theorem d_D_source_59 : decode b_D_source 59 = .ok (.ireturn, 1) := by decide +kernel
theorem d_D_cue_0 : decode b_D_cue 0 = .ok (.iload_n 1, 1) := by decide +kernel
theorem d_D_cue_1 : decode b_D_cue 1 = .ok (.invokestatic 76, 3) := by decide +kernel
theorem d_D_cue_4 : decode b_D_cue 4 = .ok (.ifCond .ne 13, 3) := by decide +kernel
theorem d_D_cue_7 : decode b_D_cue 7 = .ok (.new 143, 3) := by decide +kernel
theorem d_D_cue_10 : decode b_D_cue 10 = .ok (.dup, 1) := by decide +kernel
theorem d_D_cue_11 : decode b_D_cue 11 = .ok (.ldc 160, 2) := by decide +kernel
theorem d_D_cue_13 : decode b_D_cue 13 = .ok (.invokespecial 147, 3) := by decide +kernel
theorem d_D_cue_16 : decode b_D_cue 16 = .ok (.athrow, 1) := by decide +kernel
theorem d_D_cue_17 : decode b_D_cue 17 = .ok (.aload_n 0, 1) := by decide +kernel
theorem d_D_cue_18 : decode b_D_cue 18 = .ok (.getfield 30, 3) := by decide +kernel
theorem d_D_cue_21 : decode b_D_cue 21 = .ok (.iload_n 1, 1) := by decide +kernel
theorem d_D_cue_22 : decode b_D_cue 22 = .ok (.invokevirtual 162, 3) := by decide +kernel
theorem d_D_cue_25 : decode b_D_cue 25 = .ok (.istore 4, 2) := by decide +kernel
theorem d_D_cue_27 : decode b_D_cue 27 = .ok (.iload_n 2, 1) := by decide +kernel
theorem d_D_cue_28 : decode b_D_cue 28 = .ok (.iconst (-1), 1) := by decide +kernel
theorem d_D_cue_29 : decode b_D_cue 29 = .ok (.if_icmp .ne 10, 3) := by decide +kernel
theorem d_D_cue_32 : decode b_D_cue 32 = .ok (.iload_n 3, 1) := by decide +kernel
theorem d_D_cue_33 : decode b_D_cue 33 = .ok (.ifCond .ne 6, 3) := by decide +kernel
theorem d_D_cue_36 : decode b_D_cue 36 = .ok (.iload 4, 2) := by decide +kernel
theorem d_D_cue_38 : decode b_D_cue 38 = .ok (.ireturn, 1) := by decide +kernel
theorem d_D_cue_39 : decode b_D_cue 39 = .ok (.iload_n 2, 1) := by decide +kernel
theorem d_D_cue_40 : decode b_D_cue 40 = .ok (.ifCond .lt 18, 3) := by decide +kernel
theorem d_D_cue_43 : decode b_D_cue 43 = .ok (.iload_n 2, 1) := by decide +kernel
theorem d_D_cue_44 : decode b_D_cue 44 = .ok (.iload 4, 2) := by decide +kernel
theorem d_D_cue_46 : decode b_D_cue 46 = .ok (.if_icmp .ge 12, 3) := by decide +kernel
theorem d_D_cue_49 : decode b_D_cue 49 = .ok (.iload_n 3, 1) := by decide +kernel
theorem d_D_cue_50 : decode b_D_cue 50 = .ok (.ifCond .lt 8, 3) := by decide +kernel
theorem d_D_cue_53 : decode b_D_cue 53 = .ok (.iload_n 3, 1) := by decide +kernel
theorem d_D_cue_54 : decode b_D_cue 54 = .ok (.iconst 5, 1) := by decide +kernel
theorem d_D_cue_55 : decode b_D_cue 55 = .ok (.if_icmp .le 13, 3) := by decide +kernel
theorem d_D_cue_58 : decode b_D_cue 58 = .ok (.new 143, 3) := by decide +kernel
theorem d_D_cue_61 : decode b_D_cue 61 = .ok (.dup, 1) := by decide +kernel
theorem d_D_cue_62 : decode b_D_cue 62 = .ok (.ldc 165, 2) := by decide +kernel
theorem d_D_cue_64 : decode b_D_cue 64 = .ok (.invokespecial 147, 3) := by decide +kernel
theorem d_D_cue_67 : decode b_D_cue 67 = .ok (.athrow, 1) := by decide +kernel
theorem d_D_cue_68 : decode b_D_cue 68 = .ok (.aload_n 0, 1) := by decide +kernel
theorem d_D_cue_69 : decode b_D_cue 69 = .ok (.getfield 30, 3) := by decide +kernel
theorem d_D_cue_72 : decode b_D_cue 72 = .ok (.aload_n 0, 1) := by decide +kernel
theorem d_D_cue_73 : decode b_D_cue 73 = .ok (.getfield 30, 3) := by decide +kernel
theorem d_D_cue_76 : decode b_D_cue 76 = .ok (.iload_n 1, 1) := by decide +kernel
theorem d_D_cue_77 : decode b_D_cue 77 = .ok (.invokevirtual 167, 3) := by decide +kernel
theorem d_D_cue_80 : decode b_D_cue 80 = .ok (.iload_n 2, 1) := by decide +kernel
theorem d_D_cue_81 : decode b_D_cue 81 = .ok (.iadd, 1) := by decide +kernel
theorem d_D_cue_82 : decode b_D_cue 82 = .ok (.invokevirtual 125, 3) := by decide +kernel
theorem d_D_cue_85 : decode b_D_cue 85 = .ok (.iload_n 3, 1) := by decide +kernel
theorem d_D_cue_86 : decode b_D_cue 86 = .ok (.invokevirtual 170, 3) := by decide +kernel
theorem d_D_cue_89 : decode b_D_cue 89 = .ok (.ireturn, 1) := by decide +kernel
theorem d_D_assign_0 : decode b_D_assign 0 = .ok (.iload_n 1, 1) := by decide +kernel
theorem d_D_assign_1 : decode b_D_assign 1 = .ok (.invokestatic 173, 3) := by decide +kernel
theorem d_D_assign_4 : decode b_D_assign 4 = .ok (.ifCond .eq 10, 3) := by decide +kernel
theorem d_D_assign_7 : decode b_D_assign 7 = .ok (.iload_n 2, 1) := by decide +kernel
theorem d_D_assign_8 : decode b_D_assign 8 = .ok (.invokestatic 76, 3) := by decide +kernel
theorem d_D_assign_11 : decode b_D_assign 11 = .ok (.ifCond .ne 5, 3) := by decide +kernel
theorem d_D_assign_14 : decode b_D_assign 14 = .ok (.iconst 0, 1) := by decide +kernel
theorem d_D_assign_15 : decode b_D_assign 15 = .ok (.ireturn, 1) := by decide +kernel
theorem d_D_assign_16 : decode b_D_assign 16 = .ok (.aload_n 0, 1) := by decide +kernel
theorem d_D_assign_17 : decode b_D_assign 17 = .ok (.getfield 36, 3) := by decide +kernel
theorem d_D_assign_20 : decode b_D_assign 20 = .ok (.iload_n 1, 1) := by decide +kernel
theorem d_D_assign_21 : decode b_D_assign 21 = .ok (.aaload, 1) := by decide +kernel
theorem d_D_assign_22 : decode b_D_assign 22 = .ok (.astore_n 3, 1) := by decide +kernel
theorem d_D_assign_23 : decode b_D_assign 23 = .ok (.aload_n 3, 1) := by decide +kernel
theorem d_D_assign_24 : decode b_D_assign 24 = .ok (.getfield 176, 3) := by decide +kernel
theorem d_D_assign_27 : decode b_D_assign 27 = .ok (.iconst (-1), 1) := by decide +kernel
theorem d_D_assign_28 : decode b_D_assign 28 = .ok (.if_icmp .eq 5, 3) := by decide +kernel
theorem d_D_assign_31 : decode b_D_assign 31 = .ok (.iconst 0, 1) := by decide +kernel
theorem d_D_assign_32 : decode b_D_assign 32 = .ok (.ireturn, 1) := by decide +kernel
theorem d_D_assign_33 : decode b_D_assign 33 = .ok (.aload_n 3, 1) := by decide +kernel
theorem d_D_assign_34 : decode b_D_assign 34 = .ok (.iload_n 2, 1) := by decide +kernel
theorem d_D_assign_35 : decode b_D_assign 35 = .ok (.putfield 179, 3) := by decide +kernel
theorem d_D_assign_38 : decode b_D_assign 38 = .ok (.iconst 1, 1) := by decide +kernel
theorem d_D_assign_39 : decode b_D_assign 39 = .ok (.ireturn, 1) := by decide +kernel
theorem d_D_go_0 : decode b_D_go 0 = .ok (.iload_n 1, 1) := by decide +kernel
theorem d_D_go_1 : decode b_D_go 1 = .ok (.invokestatic 173, 3) := by decide +kernel
theorem d_D_go_4 : decode b_D_go 4 = .ok (.ifCond .eq 11, 3) := by decide +kernel
theorem d_D_go_7 : decode b_D_go 7 = .ok (.aload_n 0, 1) := by decide +kernel
theorem d_D_go_8 : decode b_D_go 8 = .ok (.iload_n 3, 1) := by decide +kernel
theorem d_D_go_9 : decode b_D_go 9 = .ok (.invokevirtual 182, 3) := by decide +kernel
theorem d_D_go_12 : decode b_D_go 12 = .ok (.ifCond .ne 13, 3) := by decide +kernel
theorem d_D_go_15 : decode b_D_go 15 = .ok (.new 82, 3) := by decide +kernel
theorem d_D_go_18 : decode b_D_go 18 = .ok (.dup, 1) := by decide +kernel
theorem d_D_go_19 : decode b_D_go 19 = .ok (.ldc 185, 2) := by decide +kernel
theorem d_D_go_21 : decode b_D_go 21 = .ok (.invokespecial 86, 3) := by decide +kernel
theorem d_D_go_24 : decode b_D_go 24 = .ok (.athrow, 1) := by decide +kernel
theorem d_D_go_25 : decode b_D_go 25 = .ok (.aload_n 0, 1) := by decide +kernel
theorem d_D_go_26 : decode b_D_go 26 = .ok (.iload_n 3, 1) := by decide +kernel
theorem d_D_go_27 : decode b_D_go 27 = .ok (.invokevirtual 187, 3) := by decide +kernel
theorem d_D_go_30 : decode b_D_go 30 = .ok (.aload_n 0, 1) := by decide +kernel
theorem d_D_go_31 : decode b_D_go 31 = .ok (.getfield 36, 3) := by decide +kernel
theorem d_D_go_34 : decode b_D_go 34 = .ok (.iload_n 1, 1) := by decide +kernel
theorem d_D_go_35 : decode b_D_go 35 = .ok (.aaload, 1) := by decide +kernel
theorem d_D_go_36 : decode b_D_go 36 = .ok (.astore 4, 2) := by decide +kernel
theorem d_D_go_38 : decode b_D_go 38 = .ok (.iload_n 2, 1) := by decide +kernel
theorem d_D_go_39 : decode b_D_go 39 = .ok (.ifCond .eq 23, 3) := by decide +kernel
theorem d_D_go_42 : decode b_D_go 42 = .ok (.aload_n 0, 1) := by decide +kernel
theorem d_D_go_43 : decode b_D_go 43 = .ok (.getfield 30, 3) := by decide +kernel
theorem d_D_go_46 : decode b_D_go 46 = .ok (.aload 4, 2) := by decide +kernel
theorem d_D_go_48 : decode b_D_go 48 = .ok (.getfield 179, 3) := by decide +kernel
theorem d_D_go_51 : decode b_D_go 51 = .ok (.aload 4, 2) := by decide +kernel
theorem d_D_go_53 : decode b_D_go 53 = .ok (.getfield 190, 3) := by decide +kernel
theorem d_D_go_56 : decode b_D_go 56 = .ok (.invokevirtual 193, 3) := by decide +kernel
theorem d_D_go_59 : decode b_D_go 59 = .ok (.goto 20, 3) := by decide +kernel
theorem d_D_go_62 : decode b_D_go 62 = .ok (.aload_n 0, 1) := by decide +kernel
theorem d_D_go_63 : decode b_D_go 63 = .ok (.getfield 30, 3) := by decide +kernel
theorem d_D_go_66 : decode b_D_go 66 = .ok (.aload 4, 2) := by decide +kernel
theorem d_D_go_68 : decode b_D_go 68 = .ok (.getfield 179, 3) := by decide +kernel
theorem d_D_go_71 : decode b_D_go 71 = .ok (.aload 4, 2) := by decide +kernel
theorem d_D_go_73 : decode b_D_go 73 = .ok (.getfield 190, 3) := by decide +kernel
theorem d_D_go_76 : decode b_D_go 76 = .ok (.invokevirtual 196, 3) := by decide +kernel
theorem d_D_go_79 : decode b_D_go 79 = .ok (.istore 5, 2) := by decide +kernel
theorem d_D_go_81 : decode b_D_go 81 = .ok (.iload 5, 2) := by decide +kernel
theorem d_D_go_83 : decode b_D_go 83 = .ok (.iconst (-1), 1) := by decide +kernel
theorem d_D_go_84 : decode b_D_go 84 = .ok (.if_icmp .ne 13, 3) := by decide +kernel
theorem d_D_go_87 : decode b_D_go 87 = .ok (.new 199, 3) := by decide +kernel
theorem d_D_go_90 : decode b_D_go 90 = .ok (.dup, 1) := by decide +kernel
theorem d_D_go_91 : decode b_D_go 91 = .ok (.ldc 201, 2) := by decide +kernel
theorem d_D_go_93 : decode b_D_go 93 = .ok (.invokespecial 203, 3) := by decide +kernel
theorem d_D_go_96 : decode b_D_go 96 = .ok (.athrow, 1) := by decide +kernel
theorem d_D_go_97 : decode b_D_go 97 = .ok (.aload_n 0, 1) := by decide +kernel
theorem d_D_go_98 : decode b_D_go 98 = .ok (.aload 4, 2) := by decide +kernel
theorem d_D_go_100 : decode b_D_go 100 = .ok (.iload 5, 2) := by decide +kernel
theorem d_D_go_102 : decode b_D_go 102 = .ok (.iload_n 3, 1) := by decide +kernel
theorem d_D_go_103 : decode b_D_go 103 = .ok (.invokevirtual 204, 3) := by decide +kernel
theorem d_D_go_106 : decode b_D_go 106 = .ok (.aload 4, 2) := by decide +kernel
theorem d_D_go_108 : decode b_D_go 108 = .ok (.getfield 190, 3) := by decide +kernel
theorem d_D_go_111 : decode b_D_go 111 = .ok (.ireturn, 1) := by decide +kernel
theorem d_D_master_0 : decode b_D_master 0 = .ok (.iload_n 1, 1) := by decide +kernel
theorem d_D_master_1 : decode b_D_master 1 = .ok (.invokestatic 173, 3) := by decide +kernel
theorem d_D_master_4 : decode b_D_master 4 = .ok (.ifCond .eq 10, 3) := by decide +kernel
theorem d_D_master_7 : decode b_D_master 7 = .ok (.iload_n 2, 1) := by decide +kernel
theorem d_D_master_8 : decode b_D_master 8 = .ok (.invokestatic 52, 3) := by decide +kernel
theorem d_D_master_11 : decode b_D_master 11 = .ok (.ifCond .ne 5, 3) := by decide +kernel
theorem d_D_master_14 : decode b_D_master 14 = .ok (.iconst 0, 1) := by decide +kernel
theorem d_D_master_15 : decode b_D_master 15 = .ok (.ireturn, 1) := by decide +kernel
theorem d_D_master_16 : decode b_D_master 16 = .ok (.aload_n 0, 1) := by decide +kernel
theorem d_D_master_17 : decode b_D_master 17 = .ok (.getfield 36, 3) := by decide +kernel
theorem d_D_master_20 : decode b_D_master 20 = .ok (.iload_n 1, 1) := by decide +kernel
theorem d_D_master_21 : decode b_D_master 21 = .ok (.aaload, 1) := by decide +kernel
theorem d_D_master_22 : decode b_D_master 22 = .ok (.iload_n 2, 1) := by decide +kernel
theorem d_D_master_23 : decode b_D_master 23 = .ok (.putfield 208, 3) := by decide +kernel
theorem d_D_master_26 : decode b_D_master 26 = .ok (.iconst 1, 1) := by decide +kernel
theorem d_D_master_27 : decode b_D_master 27 = .ok (.ireturn, 1) := by decide +kernel
theorem d_D_out_0 : decode b_D_out 0 = .ok (.iload_n 1, 1) := by decide +kernel
theorem d_D_out_1 : decode b_D_out 1 = .ok (.invokestatic 48, 3) := by decide +kernel
theorem d_D_out_4 : decode b_D_out 4 = .ok (.ifCond .eq 11, 3) := by decide +kernel
theorem d_D_out_7 : decode b_D_out 7 = .ok (.aload_n 0, 1) := by decide +kernel
theorem d_D_out_8 : decode b_D_out 8 = .ok (.iload_n 2, 1) := by decide +kernel
theorem d_D_out_9 : decode b_D_out 9 = .ok (.invokevirtual 182, 3) := by decide +kernel
theorem d_D_out_12 : decode b_D_out 12 = .ok (.ifCond .ne 13, 3) := by decide +kernel
theorem d_D_out_15 : decode b_D_out 15 = .ok (.new 82, 3) := by decide +kernel
theorem d_D_out_18 : decode b_D_out 18 = .ok (.dup, 1) := by decide +kernel
theorem d_D_out_19 : decode b_D_out 19 = .ok (.ldc 211, 2) := by decide +kernel
theorem d_D_out_21 : decode b_D_out 21 = .ok (.invokespecial 86, 3) := by decide +kernel
theorem d_D_out_24 : decode b_D_out 24 = .ok (.athrow, 1) := by decide +kernel
theorem d_D_out_25 : decode b_D_out 25 = .ok (.aload_n 0, 1) := by decide +kernel
theorem d_D_out_26 : decode b_D_out 26 = .ok (.iload_n 2, 1) := by decide +kernel
theorem d_D_out_27 : decode b_D_out 27 = .ok (.invokevirtual 187, 3) := by decide +kernel
theorem d_D_out_30 : decode b_D_out 30 = .ok (.aload_n 0, 1) := by decide +kernel
theorem d_D_out_31 : decode b_D_out 31 = .ok (.getfield 23, 3) := by decide +kernel
theorem d_D_out_34 : decode b_D_out 34 = .ok (.aload_n 0, 1) := by decide +kernel
theorem d_D_out_35 : decode b_D_out 35 = .ok (.getfield 16, 3) := by decide +kernel
theorem d_D_out_38 : decode b_D_out 38 = .ok (.iload_n 1, 1) := by decide +kernel
theorem d_D_out_39 : decode b_D_out 39 = .ok (.invokevirtual 213, 3) := by decide +kernel
theorem d_D_out_42 : decode b_D_out 42 = .ok (.iload_n 1, 1) := by decide +kernel
theorem d_D_out_43 : decode b_D_out 43 = .ok (.invokevirtual 151, 3) := by decide +kernel
theorem d_D_out_46 : decode b_D_out 46 = .ok (.istore_n 3, 1) := by decide +kernel
theorem d_D_out_47 : decode b_D_out 47 = .ok (.iload_n 3, 1) := by decide +kernel
theorem d_D_out_48 : decode b_D_out 48 = .ok (.iconst (-1), 1) := by decide +kernel
theorem d_D_out_49 : decode b_D_out 49 = .ok (.if_icmp .eq 5, 3) := by decide +kernel
theorem d_D_out_52 : decode b_D_out 52 = .ok (.iload_n 3, 1) := by decide +kernel
theorem d_D_out_53 : decode b_D_out 53 = .ok (.ireturn, 1) := by decide +kernel
theorem d_D_out_54 : decode b_D_out 54 = .ok (.aload_n 0, 1) := by decide +kernel
theorem d_D_out_55 : decode b_D_out 55 = .ok (.getfield 9, 3) := by decide +kernel
theorem d_D_out_58 : decode b_D_out 58 = .ok (.iload_n 1, 1) := by decide +kernel
theorem d_D_out_59 : decode b_D_out 59 = .ok (.baload, 1) := by decide +kernel
theorem d_D_out_60 : decode b_D_out 60 = .ok (.ifCond .eq 11, 3) := by decide +kernel
theorem d_D_out_63 : decode b_D_out 63 = .ok (.aload_n 0, 1) := by decide +kernel
theorem d_D_out_64 : decode b_D_out 64 = .ok (.iload_n 1, 1) := by decide +kernel
theorem d_D_out_65 : decode b_D_out 65 = .ok (.invokevirtual 216, 3) := by decide +kernel
theorem d_D_out_68 : decode b_D_out 68 = .ok (.goto 8, 3) := by decide +kernel
theorem d_D_out_71 : decode b_D_out 71 = .ok (.aload_n 0, 1) := by decide +kernel
theorem d_D_out_72 : decode b_D_out 72 = .ok (.iload_n 1, 1) := by decide +kernel
theorem d_D_out_73 : decode b_D_out 73 = .ok (.invokevirtual 219, 3) := by decide +kernel
theorem d_D_out_76 : decode b_D_out 76 = .ok (.ireturn, 1) := by decide +kernel
theorem d_D_playback_0 : decode b_D_playback 0 = .ok (.iload_n 1, 1) := by decide +kernel
theorem d_D_playback_1 : decode b_D_playback 1 = .ok (.invokestatic 173, 3) := by decide +kernel
theorem d_D_playback_4 : decode b_D_playback 4 = .ok (.ifCond .ne 13, 3) := by decide +kernel
theorem d_D_playback_7 : decode b_D_playback 7 = .ok (.new 143, 3) := by decide +kernel
theorem d_D_playback_10 : decode b_D_playback 10 = .ok (.dup, 1) := by decide +kernel
theorem d_D_playback_11 : decode b_D_playback 11 = .ok (.ldc 222, 2) := by decide +kernel
theorem d_D_playback_13 : decode b_D_playback 13 = .ok (.invokespecial 147, 3) := by decide +kernel
theorem d_D_playback_16 : decode b_D_playback 16 = .ok (.athrow, 1) := by decide +kernel
theorem d_D_playback_17 : decode b_D_playback 17 = .ok (.aload_n 0, 1) := by decide +kernel
theorem d_D_playback_18 : decode b_D_playback 18 = .ok (.getfield 36, 3) := by decide +kernel
theorem d_D_playback_21 : decode b_D_playback 21 = .ok (.iload_n 1, 1) := by decide +kernel
theorem d_D_playback_22 : decode b_D_playback 22 = .ok (.aaload, 1) := by decide +kernel
theorem d_D_playback_23 : decode b_D_playback 23 = .ok (.astore_n 3, 1) := by decide +kernel
theorem d_D_playback_24 : decode b_D_playback 24 = .ok (.iload_n 2, 1) := by decide +kernel
theorem d_D_playback_25 : decode b_D_playback 25 = .ok (.tableswitch 60 0 4 #[35, 40, 45, 50, 55], 35) := by decide +kernel
theorem d_D_playback_60 : decode b_D_playback 60 = .ok (.aload_n 3, 1) := by decide +kernel
theorem d_D_playback_61 : decode b_D_playback 61 = .ok (.getfield 179, 3) := by decide +kernel
theorem d_D_playback_64 : decode b_D_playback 64 = .ok (.ireturn, 1) := by decide +kernel
theorem d_D_playback_65 : decode b_D_playback 65 = .ok (.aload_n 3, 1) := by decide +kernel
theorem d_D_playback_66 : decode b_D_playback 66 = .ok (.getfield 190, 3) := by decide +kernel
theorem d_D_playback_69 : decode b_D_playback 69 = .ok (.ireturn, 1) := by decide +kernel
theorem d_D_playback_70 : decode b_D_playback 70 = .ok (.aload_n 3, 1) := by decide +kernel
theorem d_D_playback_71 : decode b_D_playback 71 = .ok (.getfield 208, 3) := by decide +kernel
theorem d_D_playback_74 : decode b_D_playback 74 = .ok (.ireturn, 1) := by decide +kernel
theorem d_D_playback_75 : decode b_D_playback 75 = .ok (.aload_n 3, 1) := by decide +kernel
theorem d_D_playback_76 : decode b_D_playback 76 = .ok (.getfield 176, 3) := by decide +kernel
theorem d_D_playback_79 : decode b_D_playback 79 = .ok (.ireturn, 1) := by decide +kernel
theorem d_D_playback_80 : decode b_D_playback 80 = .ok (.aload_n 3, 1) := by decide +kernel
theorem d_D_playback_81 : decode b_D_playback 81 = .ok (.getfield 224, 3) := by decide +kernel
theorem d_D_playback_84 : decode b_D_playback 84 = .ok (.ireturn, 1) := by decide +kernel
theorem d_D_playback_85 : decode b_D_playback 85 = .ok (.iload_n 2, 1) := by decide +kernel
theorem d_D_playback_86 : decode b_D_playback 86 = .ok (.bipush 8, 2) := by decide +kernel
theorem d_D_playback_88 : decode b_D_playback 88 = .ok (.if_icmp .lt 9, 3) := by decide +kernel
theorem d_D_playback_91 : decode b_D_playback 91 = .ok (.iload_n 2, 1) := by decide +kernel
theorem d_D_playback_92 : decode b_D_playback 92 = .ok (.bipush 72, 2) := by decide +kernel
theorem d_D_playback_94 : decode b_D_playback 94 = .ok (.if_icmp .lt 13, 3) := by decide +kernel
theorem d_D_playback_97 : decode b_D_playback 97 = .ok (.new 143, 3) := by decide +kernel
theorem d_D_playback_100 : decode b_D_playback 100 = .ok (.dup, 1) := by decide +kernel
theorem d_D_playback_101 : decode b_D_playback 101 = .ok (.ldc 227, 2) := by decide +kernel
theorem d_D_playback_103 : decode b_D_playback 103 = .ok (.invokespecial 147, 3) := by decide +kernel
theorem d_D_playback_106 : decode b_D_playback 106 = .ok (.athrow, 1) := by decide +kernel
theorem d_D_playback_107 : decode b_D_playback 107 = .ok (.aload_n 3, 1) := by decide +kernel
theorem d_D_playback_108 : decode b_D_playback 108 = .ok (.iload_n 2, 1) := by decide +kernel
theorem d_D_playback_109 : decode b_D_playback 109 = .ok (.bipush 8, 2) := by decide +kernel
theorem d_D_playback_111 : decode b_D_playback 111 = .ok (.isub, 1) := by decide +kernel
theorem d_D_playback_112 : decode b_D_playback 112 = .ok (.aload_n 0, 1) := by decide +kernel
theorem d_D_playback_113 : decode b_D_playback 113 = .ok (.getfield 40, 3) := by decide +kernel
theorem d_D_playback_116 : decode b_D_playback 116 = .ok (.invokevirtual 229, 3) := by decide +kernel
theorem d_D_playback_119 : decode b_D_playback 119 = .ok (.ireturn, 1) := by decide +kernel
theorem d_D_count_0 : decode b_D_count 0 = .ok (.iload_n 1, 1) := by decide +kernel
theorem d_D_count_1 : decode b_D_count 1 = .ok (.tableswitch 69 0 4 #[35, 43, 51, 59, 64], 35) := by decide +kernel
theorem d_D_count_36 : decode b_D_count 36 = .ok (.aload_n 0, 1) := by decide +kernel
theorem d_D_count_37 : decode b_D_count 37 = .ok (.getfield 30, 3) := by decide +kernel
theorem d_D_count_40 : decode b_D_count 40 = .ok (.getfield 232, 3) := by decide +kernel
theorem d_D_count_43 : decode b_D_count 43 = .ok (.ireturn, 1) := by decide +kernel
theorem d_D_count_44 : decode b_D_count 44 = .ok (.aload_n 0, 1) := by decide +kernel
theorem d_D_count_45 : decode b_D_count 45 = .ok (.getfield 30, 3) := by decide +kernel
theorem d_D_count_48 : decode b_D_count 48 = .ok (.invokevirtual 235, 3) := by decide +kernel
theorem d_D_count_51 : decode b_D_count 51 = .ok (.ireturn, 1) := by decide +kernel
theorem d_D_count_52 : decode b_D_count 52 = .ok (.aload_n 0, 1) := by decide +kernel
theorem d_D_count_53 : decode b_D_count 53 = .ok (.getfield 16, 3) := by decide +kernel
theorem d_D_count_56 : decode b_D_count 56 = .ok (.getfield 62, 3) := by decide +kernel
theorem d_D_count_59 : decode b_D_count 59 = .ok (.ireturn, 1) := by decide +kernel
theorem d_D_count_60 : decode b_D_count 60 = .ok (.aload_n 0, 1) := by decide +kernel
theorem d_D_count_61 : decode b_D_count 61 = .ok (.getfield 40, 3) := by decide +kernel
theorem d_D_count_64 : decode b_D_count 64 = .ok (.ireturn, 1) := by decide +kernel
theorem d_D_count_65 : decode b_D_count 65 = .ok (.aload_n 0, 1) := by decide +kernel
theorem d_D_count_66 : decode b_D_count 66 = .ok (.getfield 44, 3) := by decide +kernel
theorem d_D_count_69 : decode b_D_count 69 = .ok (.ireturn, 1) := by decide +kernel
theorem d_D_count_70 : decode b_D_count 70 = .ok (.iconst (-1), 1) := by decide +kernel
theorem d_D_count_71 : decode b_D_count 71 = .ok (.ireturn, 1) := by decide +kernel
theorem d_D_isChannel_0 : decode b_D_isChannel 0 = .ok (.iload_n 0, 1) := by decide +kernel
theorem d_D_isChannel_1 : decode b_D_isChannel 1 = .ok (.ifCond .lt 13, 3) := by decide +kernel
theorem d_D_isChannel_4 : decode b_D_isChannel 4 = .ok (.iload_n 0, 1) := by decide +kernel
theorem d_D_isChannel_5 : decode b_D_isChannel 5 = .ok (.bipush 64, 2) := by decide +kernel
theorem d_D_isChannel_7 : decode b_D_isChannel 7 = .ok (.if_icmp .ge 7, 3) := by decide +kernel
theorem d_D_isChannel_10 : decode b_D_isChannel 10 = .ok (.iconst 1, 1) := by decide +kernel
theorem d_D_isChannel_11 : decode b_D_isChannel 11 = .ok (.goto 4, 3) := by decide +kernel
theorem d_D_isChannel_14 : decode b_D_isChannel 14 = .ok (.iconst 0, 1) := by decide +kernel
theorem d_D_isChannel_15 : decode b_D_isChannel 15 = .ok (.ireturn, 1) := by decide +kernel
theorem d_D_isLevel_0 : decode b_D_isLevel 0 = .ok (.iload_n 0, 1) := by decide +kernel
theorem d_D_isLevel_1 : decode b_D_isLevel 1 = .ok (.ifCond .lt 14, 3) := by decide +kernel
theorem d_D_isLevel_4 : decode b_D_isLevel 4 = .ok (.iload_n 0, 1) := by decide +kernel
theorem d_D_isLevel_5 : decode b_D_isLevel 5 = .ok (.sipush 255, 3) := by decide +kernel
theorem d_D_isLevel_8 : decode b_D_isLevel 8 = .ok (.if_icmp .gt 7, 3) := by decide +kernel
theorem d_D_isLevel_11 : decode b_D_isLevel 11 = .ok (.iconst 1, 1) := by decide +kernel
theorem d_D_isLevel_12 : decode b_D_isLevel 12 = .ok (.goto 4, 3) := by decide +kernel
theorem d_D_isLevel_15 : decode b_D_isLevel 15 = .ok (.iconst 0, 1) := by decide +kernel
theorem d_D_isLevel_16 : decode b_D_isLevel 16 = .ok (.ireturn, 1) := by decide +kernel
theorem d_D_isPalette_0 : decode b_D_isPalette 0 = .ok (.iload_n 0, 1) := by decide +kernel
theorem d_D_isPalette_1 : decode b_D_isPalette 1 = .ok (.ifCond .lt 13, 3) := by decide +kernel
theorem d_D_isPalette_4 : decode b_D_isPalette 4 = .ok (.iload_n 0, 1) := by decide +kernel
theorem d_D_isPalette_5 : decode b_D_isPalette 5 = .ok (.bipush 16, 2) := by decide +kernel
theorem d_D_isPalette_7 : decode b_D_isPalette 7 = .ok (.if_icmp .ge 7, 3) := by decide +kernel
theorem d_D_isPalette_10 : decode b_D_isPalette 10 = .ok (.iconst 1, 1) := by decide +kernel
theorem d_D_isPalette_11 : decode b_D_isPalette 11 = .ok (.goto 4, 3) := by decide +kernel
theorem d_D_isPalette_14 : decode b_D_isPalette 14 = .ok (.iconst 0, 1) := by decide +kernel
theorem d_D_isPalette_15 : decode b_D_isPalette 15 = .ok (.ireturn, 1) := by decide +kernel
theorem d_D_isList_0 : decode b_D_isList 0 = .ok (.iload_n 0, 1) := by decide +kernel
theorem d_D_isList_1 : decode b_D_isList 1 = .ok (.ifCond .lt 12, 3) := by decide +kernel
theorem d_D_isList_4 : decode b_D_isList 4 = .ok (.iload_n 0, 1) := by decide +kernel
theorem d_D_isList_5 : decode b_D_isList 5 = .ok (.iconst 4, 1) := by decide +kernel
theorem d_D_isList_6 : decode b_D_isList 6 = .ok (.if_icmp .ge 7, 3) := by decide +kernel
theorem d_D_isList_9 : decode b_D_isList 9 = .ok (.iconst 1, 1) := by decide +kernel
theorem d_D_isList_10 : decode b_D_isList 10 = .ok (.goto 4, 3) := by decide +kernel
theorem d_D_isList_13 : decode b_D_isList 13 = .ok (.iconst 0, 1) := by decide +kernel
theorem d_D_isList_14 : decode b_D_isList 14 = .ok (.ireturn, 1) := by decide +kernel
theorem d_D_isNumber_0 : decode b_D_isNumber 0 = .ok (.iload_n 0, 1) := by decide +kernel
theorem d_D_isNumber_1 : decode b_D_isNumber 1 = .ok (.iconst 1, 1) := by decide +kernel
theorem d_D_isNumber_2 : decode b_D_isNumber 2 = .ok (.if_icmp .lt 14, 3) := by decide +kernel
theorem d_D_isNumber_5 : decode b_D_isNumber 5 = .ok (.iload_n 0, 1) := by decide +kernel
theorem d_D_isNumber_6 : decode b_D_isNumber 6 = .ok (.sipush 9999, 3) := by decide +kernel
theorem d_D_isNumber_9 : decode b_D_isNumber 9 = .ok (.if_icmp .gt 7, 3) := by decide +kernel
theorem d_D_isNumber_12 : decode b_D_isNumber 12 = .ok (.iconst 1, 1) := by decide +kernel
theorem d_D_isNumber_13 : decode b_D_isNumber 13 = .ok (.goto 4, 3) := by decide +kernel
theorem d_D_isNumber_16 : decode b_D_isNumber 16 = .ok (.iconst 0, 1) := by decide +kernel
theorem d_D_isNumber_17 : decode b_D_isNumber 17 = .ok (.ireturn, 1) := by decide +kernel
theorem d_D_isPlayback_0 : decode b_D_isPlayback 0 = .ok (.iload_n 0, 1) := by decide +kernel
theorem d_D_isPlayback_1 : decode b_D_isPlayback 1 = .ok (.ifCond .lt 13, 3) := by decide +kernel
theorem d_D_isPlayback_4 : decode b_D_isPlayback 4 = .ok (.iload_n 0, 1) := by decide +kernel
theorem d_D_isPlayback_5 : decode b_D_isPlayback 5 = .ok (.bipush 6, 2) := by decide +kernel
theorem d_D_isPlayback_7 : decode b_D_isPlayback 7 = .ok (.if_icmp .ge 7, 3) := by decide +kernel
theorem d_D_isPlayback_10 : decode b_D_isPlayback 10 = .ok (.iconst 1, 1) := by decide +kernel
theorem d_D_isPlayback_11 : decode b_D_isPlayback 11 = .ok (.goto 4, 3) := by decide +kernel
theorem d_D_isPlayback_14 : decode b_D_isPlayback 14 = .ok (.iconst 0, 1) := by decide +kernel
theorem d_D_isPlayback_15 : decode b_D_isPlayback 15 = .ok (.ireturn, 1) := by decide +kernel
theorem d_D_isTime_0 : decode b_D_isTime 0 = .ok (.iload_n 0, 1) := by decide +kernel
theorem d_D_isTime_1 : decode b_D_isTime 1 = .ok (.ifCond .lt 14, 3) := by decide +kernel
theorem d_D_isTime_4 : decode b_D_isTime 4 = .ok (.iload_n 0, 1) := by decide +kernel
theorem d_D_isTime_5 : decode b_D_isTime 5 = .ok (.sipush 10000, 3) := by decide +kernel
theorem d_D_isTime_8 : decode b_D_isTime 8 = .ok (.if_icmp .gt 7, 3) := by decide +kernel
theorem d_D_isTime_11 : decode b_D_isTime 11 = .ok (.iconst 1, 1) := by decide +kernel
theorem d_D_isTime_12 : decode b_D_isTime 12 = .ok (.goto 4, 3) := by decide +kernel
theorem d_D_isTime_15 : decode b_D_isTime 15 = .ok (.iconst 0, 1) := by decide +kernel
theorem d_D_isTime_16 : decode b_D_isTime 16 = .ok (.ireturn, 1) := by decide +kernel
theorem d_D_placeOrThrow_0 : decode b_D_placeOrThrow 0 = .ok (.aload_n 0, 1) := by decide +kernel
theorem d_D_placeOrThrow_1 : decode b_D_placeOrThrow 1 = .ok (.getfield 30, 3) := by decide +kernel
theorem d_D_placeOrThrow_4 : decode b_D_placeOrThrow 4 = .ok (.iload_n 1, 1) := by decide +kernel
theorem d_D_placeOrThrow_5 : decode b_D_placeOrThrow 5 = .ok (.iload_n 2, 1) := by decide +kernel
theorem d_D_placeOrThrow_6 : decode b_D_placeOrThrow 6 = .ok (.invokevirtual 119, 3) := by decide +kernel
theorem d_D_placeOrThrow_9 : decode b_D_placeOrThrow 9 = .ok (.istore_n 3, 1) := by decide +kernel
theorem d_D_placeOrThrow_10 : decode b_D_placeOrThrow 10 = .ok (.iload_n 3, 1) := by decide +kernel
theorem d_D_placeOrThrow_11 : decode b_D_placeOrThrow 11 = .ok (.iconst (-1), 1) := by decide +kernel
theorem d_D_placeOrThrow_12 : decode b_D_placeOrThrow 12 = .ok (.if_icmp .ne 13, 3) := by decide +kernel
theorem d_D_placeOrThrow_15 : decode b_D_placeOrThrow 15 = .ok (.new 199, 3) := by decide +kernel
theorem d_D_placeOrThrow_18 : decode b_D_placeOrThrow 18 = .ok (.dup, 1) := by decide +kernel
theorem d_D_placeOrThrow_19 : decode b_D_placeOrThrow 19 = .ok (.ldc 239, 2) := by decide +kernel
theorem d_D_placeOrThrow_21 : decode b_D_placeOrThrow 21 = .ok (.invokespecial 203, 3) := by decide +kernel
theorem d_D_placeOrThrow_24 : decode b_D_placeOrThrow 24 = .ok (.athrow, 1) := by decide +kernel
theorem d_D_placeOrThrow_25 : decode b_D_placeOrThrow 25 = .ok (.iload_n 3, 1) := by decide +kernel
theorem d_D_placeOrThrow_26 : decode b_D_placeOrThrow 26 = .ok (.ireturn, 1) := by decide +kernel
theorem d_D_isTellable_0 : decode b_D_isTellable 0 = .ok (.iload_n 1, 1) := by decide +kernel
theorem d_D_isTellable_1 : decode b_D_isTellable 1 = .ok (.aload_n 0, 1) := by decide +kernel
theorem d_D_isTellable_2 : decode b_D_isTellable 2 = .ok (.getfield 40, 3) := by decide +kernel
theorem d_D_isTellable_5 : decode b_D_isTellable 5 = .ok (.if_icmp .lt 13, 3) := by decide +kernel
theorem d_D_isTellable_8 : decode b_D_isTellable 8 = .ok (.iload_n 1, 1) := by decide +kernel
theorem d_D_isTellable_9 : decode b_D_isTellable 9 = .ok (.ldc 241, 2) := by decide +kernel
theorem d_D_isTellable_11 : decode b_D_isTellable 11 = .ok (.if_icmp .gt 7, 3) := by decide +kernel
theorem d_D_isTellable_14 : decode b_D_isTellable 14 = .ok (.iconst 1, 1) := by decide +kernel
theorem d_D_isTellable_15 : decode b_D_isTellable 15 = .ok (.goto 4, 3) := by decide +kernel
theorem d_D_isTellable_18 : decode b_D_isTellable 18 = .ok (.iconst 0, 1) := by decide +kernel
theorem d_D_isTellable_19 : decode b_D_isTellable 19 = .ok (.ireturn, 1) := by decide +kernel
theorem d_D_tell_0 : decode b_D_tell 0 = .ok (.iconst 0, 1) := by decide +kernel
theorem d_D_tell_1 : decode b_D_tell 1 = .ok (.istore_n 2, 1) := by decide +kernel
theorem d_D_tell_2 : decode b_D_tell 2 = .ok (.iload_n 2, 1) := by decide +kernel
theorem d_D_tell_3 : decode b_D_tell 3 = .ok (.sipush 1000, 3) := by decide +kernel
theorem d_D_tell_6 : decode b_D_tell 6 = .ok (.if_icmp .ge 33, 3) := by decide +kernel
theorem d_D_tell_9 : decode b_D_tell 9 = .ok (.aload_n 0, 1) := by decide +kernel
theorem d_D_tell_10 : decode b_D_tell 10 = .ok (.iload_n 1, 1) := by decide +kernel
theorem d_D_tell_11 : decode b_D_tell 11 = .ok (.invokevirtual 242, 3) := by decide +kernel
theorem d_D_tell_14 : decode b_D_tell 14 = .ok (.istore_n 3, 1) := by decide +kernel
theorem d_D_tell_15 : decode b_D_tell 15 = .ok (.iload_n 3, 1) := by decide +kernel
theorem d_D_tell_16 : decode b_D_tell 16 = .ok (.iconst (-1), 1) := by decide +kernel
theorem d_D_tell_17 : decode b_D_tell 17 = .ok (.if_icmp .ne 6, 3) := by decide +kernel
theorem d_D_tell_20 : decode b_D_tell 20 = .ok (.goto 19, 3) := by decide +kernel
theorem d_D_tell_23 : decode b_D_tell 23 = .ok (.aload_n 0, 1) := by decide +kernel
theorem d_D_tell_24 : decode b_D_tell 24 = .ok (.aload_n 0, 1) := by decide +kernel
theorem d_D_tell_25 : decode b_D_tell 25 = .ok (.getfield 36, 3) := by decide +kernel
theorem d_D_tell_28 : decode b_D_tell 28 = .ok (.iload_n 3, 1) := by decide +kernel
theorem d_D_tell_29 : decode b_D_tell 29 = .ok (.aaload, 1) := by decide +kernel
theorem d_D_tell_30 : decode b_D_tell 30 = .ok (.invokevirtual 245, 3) := by decide +kernel
theorem d_D_tell_33 : decode b_D_tell 33 = .ok (.iinc 2 1, 3) := by decide +kernel
theorem d_D_tell_36 : decode b_D_tell 36 = .ok (.goto (-34), 3) := by decide +kernel
theorem d_D_tell_39 : decode b_D_tell 39 = .ok (.aload_n 0, 1) := by decide +kernel
theorem d_D_tell_40 : decode b_D_tell 40 = .ok (.iload_n 1, 1) := by decide +kernel
theorem d_D_tell_41 : decode b_D_tell 41 = .ok (.putfield 40, 3) := by decide +kernel
theorem d_D_tell_44 : decode b_D_tell 44 = .ok (.return_, 1) := by decide +kernel
theorem d_D_earliestDue_0 : decode b_D_earliestDue 0 = .ok (.iconst (-1), 1) := by decide +kernel
theorem d_D_earliestDue_1 : decode b_D_earliestDue 1 = .ok (.istore_n 2, 1) := by decide +kernel
theorem d_D_earliestDue_2 : decode b_D_earliestDue 2 = .ok (.iload_n 1, 1) := by decide +kernel
theorem d_D_earliestDue_3 : decode b_D_earliestDue 3 = .ok (.istore_n 3, 1) := by decide +kernel
theorem d_D_earliestDue_4 : decode b_D_earliestDue 4 = .ok (.iconst 0, 1) := by decide +kernel
theorem d_D_earliestDue_5 : decode b_D_earliestDue 5 = .ok (.istore 4, 2) := by decide +kernel
theorem d_D_earliestDue_7 : decode b_D_earliestDue 7 = .ok (.iload 4, 2) := by decide +kernel
theorem d_D_earliestDue_9 : decode b_D_earliestDue 9 = .ok (.bipush 6, 2) := by decide +kernel
theorem d_D_earliestDue_11 : decode b_D_earliestDue 11 = .ok (.if_icmp .ge 53, 3) := by decide +kernel
theorem d_D_earliestDue_14 : decode b_D_earliestDue 14 = .ok (.aload_n 0, 1) := by decide +kernel
theorem d_D_earliestDue_15 : decode b_D_earliestDue 15 = .ok (.getfield 36, 3) := by decide +kernel
theorem d_D_earliestDue_18 : decode b_D_earliestDue 18 = .ok (.iload 4, 2) := by decide +kernel
theorem d_D_earliestDue_20 : decode b_D_earliestDue 20 = .ok (.aaload, 1) := by decide +kernel
theorem d_D_earliestDue_21 : decode b_D_earliestDue 21 = .ok (.getfield 224, 3) := by decide +kernel
theorem d_D_earliestDue_24 : decode b_D_earliestDue 24 = .ok (.istore 5, 2) := by decide +kernel
theorem d_D_earliestDue_26 : decode b_D_earliestDue 26 = .ok (.iload 5, 2) := by decide +kernel
theorem d_D_earliestDue_28 : decode b_D_earliestDue 28 = .ok (.iconst (-1), 1) := by decide +kernel
theorem d_D_earliestDue_29 : decode b_D_earliestDue 29 = .ok (.if_icmp .eq 29, 3) := by decide +kernel
theorem d_D_earliestDue_32 : decode b_D_earliestDue 32 = .ok (.iload 5, 2) := by decide +kernel
theorem d_D_earliestDue_34 : decode b_D_earliestDue 34 = .ok (.iload_n 3, 1) := by decide +kernel
theorem d_D_earliestDue_35 : decode b_D_earliestDue 35 = .ok (.if_icmp .le 6, 3) := by decide +kernel
theorem d_D_earliestDue_38 : decode b_D_earliestDue 38 = .ok (.goto 20, 3) := by decide +kernel
theorem d_D_earliestDue_41 : decode b_D_earliestDue 41 = .ok (.iload_n 2, 1) := by decide +kernel
theorem d_D_earliestDue_42 : decode b_D_earliestDue 42 = .ok (.iconst (-1), 1) := by decide +kernel
theorem d_D_earliestDue_43 : decode b_D_earliestDue 43 = .ok (.if_icmp .eq 9, 3) := by decide +kernel
theorem d_D_earliestDue_46 : decode b_D_earliestDue 46 = .ok (.iload 5, 2) := by decide +kernel
theorem d_D_earliestDue_48 : decode b_D_earliestDue 48 = .ok (.iload_n 3, 1) := by decide +kernel
theorem d_D_earliestDue_49 : decode b_D_earliestDue 49 = .ok (.if_icmp .ge 9, 3) := by decide +kernel
theorem d_D_earliestDue_52 : decode b_D_earliestDue 52 = .ok (.iload 4, 2) := by decide +kernel
theorem d_D_earliestDue_54 : decode b_D_earliestDue 54 = .ok (.istore_n 2, 1) := by decide +kernel
theorem d_D_earliestDue_55 : decode b_D_earliestDue 55 = .ok (.iload 5, 2) := by decide +kernel
theorem d_D_earliestDue_57 : decode b_D_earliestDue 57 = .ok (.istore_n 3, 1) := by decide +kernel
theorem d_D_earliestDue_58 : decode b_D_earliestDue 58 = .ok (.iinc 4 1, 3) := by decide +kernel
theorem d_D_earliestDue_61 : decode b_D_earliestDue 61 = .ok (.goto (-54), 3) := by decide +kernel
theorem d_D_earliestDue_64 : decode b_D_earliestDue 64 = .ok (.iload_n 2, 1) := by decide +kernel
theorem d_D_earliestDue_65 : decode b_D_earliestDue 65 = .ok (.ireturn, 1) := by decide +kernel
theorem d_D_followOn_0 : decode b_D_followOn 0 = .ok (.aload_n 0, 1) := by decide +kernel
theorem d_D_followOn_1 : decode b_D_followOn 1 = .ok (.getfield 30, 3) := by decide +kernel
theorem d_D_followOn_4 : decode b_D_followOn 4 = .ok (.aload_n 1, 1) := by decide +kernel
theorem d_D_followOn_5 : decode b_D_followOn 5 = .ok (.getfield 179, 3) := by decide +kernel
theorem d_D_followOn_8 : decode b_D_followOn 8 = .ok (.aload_n 1, 1) := by decide +kernel
theorem d_D_followOn_9 : decode b_D_followOn 9 = .ok (.getfield 190, 3) := by decide +kernel
theorem d_D_followOn_12 : decode b_D_followOn 12 = .ok (.invokevirtual 196, 3) := by decide +kernel
theorem d_D_followOn_15 : decode b_D_followOn 15 = .ok (.istore_n 2, 1) := by decide +kernel
theorem d_D_followOn_16 : decode b_D_followOn 16 = .ok (.iload_n 2, 1) := by decide +kernel
theorem d_D_followOn_17 : decode b_D_followOn 17 = .ok (.iconst (-1), 1) := by decide +kernel
theorem d_D_followOn_18 : decode b_D_followOn 18 = .ok (.if_icmp .ne 11, 3) := by decide +kernel
theorem d_D_followOn_21 : decode b_D_followOn 21 = .ok (.aload_n 1, 1) := by decide +kernel
theorem d_D_followOn_22 : decode b_D_followOn 22 = .ok (.iconst (-1), 1) := by decide +kernel
theorem d_D_followOn_23 : decode b_D_followOn 23 = .ok (.putfield 224, 3) := by decide +kernel
theorem d_D_followOn_26 : decode b_D_followOn 26 = .ok (.goto 13, 3) := by decide +kernel
theorem d_D_followOn_29 : decode b_D_followOn 29 = .ok (.aload_n 0, 1) := by decide +kernel
theorem d_D_followOn_30 : decode b_D_followOn 30 = .ok (.aload_n 1, 1) := by decide +kernel
theorem d_D_followOn_31 : decode b_D_followOn 31 = .ok (.iload_n 2, 1) := by decide +kernel
theorem d_D_followOn_32 : decode b_D_followOn 32 = .ok (.aload_n 1, 1) := by decide +kernel
theorem d_D_followOn_33 : decode b_D_followOn 33 = .ok (.getfield 224, 3) := by decide +kernel
theorem d_D_followOn_36 : decode b_D_followOn 36 = .ok (.invokevirtual 204, 3) := by decide +kernel
theorem d_D_followOn_39 : decode b_D_followOn 39 = .ok (.return_, 1) := by decide +kernel
theorem d_D_startCue_0 : decode b_D_startCue 0 = .ok (.aload_n 0, 1) := by decide +kernel
theorem d_D_startCue_1 : decode b_D_startCue 1 = .ok (.getfield 30, 3) := by decide +kernel
theorem d_D_startCue_4 : decode b_D_startCue 4 = .ok (.iload_n 2, 1) := by decide +kernel
theorem d_D_startCue_5 : decode b_D_startCue 5 = .ok (.invokevirtual 125, 3) := by decide +kernel
theorem d_D_startCue_8 : decode b_D_startCue 8 = .ok (.astore 4, 2) := by decide +kernel
theorem d_D_startCue_10 : decode b_D_startCue 10 = .ok (.iconst 0, 1) := by decide +kernel
theorem d_D_startCue_11 : decode b_D_startCue 11 = .ok (.istore 5, 2) := by decide +kernel
theorem d_D_startCue_13 : decode b_D_startCue 13 = .ok (.iload 5, 2) := by decide +kernel
theorem d_D_startCue_15 : decode b_D_startCue 15 = .ok (.bipush 64, 2) := by decide +kernel
theorem d_D_startCue_17 : decode b_D_startCue 17 = .ok (.if_icmp .ge 47, 3) := by decide +kernel
theorem d_D_startCue_20 : decode b_D_startCue 20 = .ok (.aload_n 0, 1) := by decide +kernel
theorem d_D_startCue_21 : decode b_D_startCue 21 = .ok (.getfield 23, 3) := by decide +kernel
theorem d_D_startCue_24 : decode b_D_startCue 24 = .ok (.aload_n 0, 1) := by decide +kernel
theorem d_D_startCue_25 : decode b_D_startCue 25 = .ok (.getfield 30, 3) := by decide +kernel
theorem d_D_startCue_28 : decode b_D_startCue 28 = .ok (.iload_n 2, 1) := by decide +kernel
theorem d_D_startCue_29 : decode b_D_startCue 29 = .ok (.iload 5, 2) := by decide +kernel
theorem d_D_startCue_31 : decode b_D_startCue 31 = .ok (.invokevirtual 148, 3) := by decide +kernel
theorem d_D_startCue_34 : decode b_D_startCue 34 = .ok (.iload 5, 2) := by decide +kernel
theorem d_D_startCue_36 : decode b_D_startCue 36 = .ok (.invokevirtual 151, 3) := by decide +kernel
theorem d_D_startCue_39 : decode b_D_startCue 39 = .ok (.istore 6, 2) := by decide +kernel
theorem d_D_startCue_41 : decode b_D_startCue 41 = .ok (.iload 6, 2) := by decide +kernel
theorem d_D_startCue_43 : decode b_D_startCue 43 = .ok (.iconst (-1), 1) := by decide +kernel
theorem d_D_startCue_44 : decode b_D_startCue 44 = .ok (.if_icmp .eq 14, 3) := by decide +kernel
theorem d_D_startCue_47 : decode b_D_startCue 47 = .ok (.aload_n 1, 1) := by decide +kernel
theorem d_D_startCue_48 : decode b_D_startCue 48 = .ok (.iload 5, 2) := by decide +kernel
theorem d_D_startCue_50 : decode b_D_startCue 50 = .ok (.iload 6, 2) := by decide +kernel
theorem d_D_startCue_52 : decode b_D_startCue 52 = .ok (.aload 4, 2) := by decide +kernel
theorem d_D_startCue_54 : decode b_D_startCue 54 = .ok (.iload_n 3, 1) := by decide +kernel
theorem d_D_startCue_55 : decode b_D_startCue 55 = .ok (.invokevirtual 248, 3) := by decide +kernel
theorem d_D_startCue_58 : decode b_D_startCue 58 = .ok (.iinc 5 1, 3) := by decide +kernel
theorem d_D_startCue_61 : decode b_D_startCue 61 = .ok (.goto (-48), 3) := by decide +kernel
theorem d_D_startCue_64 : decode b_D_startCue 64 = .ok (.aload_n 1, 1) := by decide +kernel
theorem d_D_startCue_65 : decode b_D_startCue 65 = .ok (.aload 4, 2) := by decide +kernel
theorem d_D_startCue_67 : decode b_D_startCue 67 = .ok (.getfield 157, 3) := by decide +kernel
theorem d_D_startCue_70 : decode b_D_startCue 70 = .ok (.putfield 190, 3) := by decide +kernel
theorem d_D_startCue_73 : decode b_D_startCue 73 = .ok (.aload_n 1, 1) := by decide +kernel
theorem d_D_startCue_74 : decode b_D_startCue 74 = .ok (.iload_n 3, 1) := by decide +kernel
theorem d_D_startCue_75 : decode b_D_startCue 75 = .ok (.putfield 176, 3) := by decide +kernel
theorem d_D_startCue_78 : decode b_D_startCue 78 = .ok (.aload_n 1, 1) := by decide +kernel
theorem d_D_startCue_79 : decode b_D_startCue 79 = .ok (.aload 4, 2) := by decide +kernel
theorem d_D_startCue_81 : decode b_D_startCue 81 = .ok (.getfield 140, 3) := by decide +kernel
theorem d_D_startCue_84 : decode b_D_startCue 84 = .ok (.iconst (-1), 1) := by decide +kernel
theorem d_D_startCue_85 : decode b_D_startCue 85 = .ok (.if_icmp .ne 7, 3) := by decide +kernel
theorem d_D_startCue_88 : decode b_D_startCue 88 = .ok (.iconst (-1), 1) := by decide +kernel
theorem d_D_startCue_89 : decode b_D_startCue 89 = .ok (.goto 10, 3) := by decide +kernel
theorem d_D_startCue_92 : decode b_D_startCue 92 = .ok (.iload_n 3, 1) := by decide +kernel
theorem d_D_startCue_93 : decode b_D_startCue 93 = .ok (.aload 4, 2) := by decide +kernel
theorem d_D_startCue_95 : decode b_D_startCue 95 = .ok (.getfield 140, 3) := by decide +kernel
theorem d_D_startCue_98 : decode b_D_startCue 98 = .ok (.iadd, 1) := by decide +kernel
theorem d_D_startCue_99 : decode b_D_startCue 99 = .ok (.putfield 224, 3) := by decide +kernel
theorem d_D_startCue_102 : decode b_D_startCue 102 = .ok (.aload_n 0, 1) := by decide +kernel
theorem d_D_startCue_103 : decode b_D_startCue 103 = .ok (.dup, 1) := by decide +kernel
theorem d_D_startCue_104 : decode b_D_startCue 104 = .ok (.getfield 44, 3) := by decide +kernel
theorem d_D_startCue_107 : decode b_D_startCue 107 = .ok (.iconst 1, 1) := by decide +kernel
theorem d_D_startCue_108 : decode b_D_startCue 108 = .ok (.iadd, 1) := by decide +kernel
theorem d_D_startCue_109 : decode b_D_startCue 109 = .ok (.putfield 44, 3) := by decide +kernel
theorem d_D_startCue_112 : decode b_D_startCue 112 = .ok (.return_, 1) := by decide +kernel
theorem d_D_greatestLevel_0 : decode b_D_greatestLevel 0 = .ok (.iconst 0, 1) := by decide +kernel
theorem d_D_greatestLevel_1 : decode b_D_greatestLevel 1 = .ok (.istore_n 2, 1) := by decide +kernel
theorem d_D_greatestLevel_2 : decode b_D_greatestLevel 2 = .ok (.iconst 0, 1) := by decide +kernel
theorem d_D_greatestLevel_3 : decode b_D_greatestLevel 3 = .ok (.istore_n 3, 1) := by decide +kernel
theorem d_D_greatestLevel_4 : decode b_D_greatestLevel 4 = .ok (.iload_n 3, 1) := by decide +kernel
theorem d_D_greatestLevel_5 : decode b_D_greatestLevel 5 = .ok (.bipush 6, 2) := by decide +kernel
theorem d_D_greatestLevel_7 : decode b_D_greatestLevel 7 = .ok (.if_icmp .ge 46, 3) := by decide +kernel
theorem d_D_greatestLevel_10 : decode b_D_greatestLevel 10 = .ok (.aload_n 0, 1) := by decide +kernel
theorem d_D_greatestLevel_11 : decode b_D_greatestLevel 11 = .ok (.getfield 36, 3) := by decide +kernel
theorem d_D_greatestLevel_14 : decode b_D_greatestLevel 14 = .ok (.iload_n 3, 1) := by decide +kernel
theorem d_D_greatestLevel_15 : decode b_D_greatestLevel 15 = .ok (.aaload, 1) := by decide +kernel
theorem d_D_greatestLevel_16 : decode b_D_greatestLevel 16 = .ok (.iload_n 1, 1) := by decide +kernel
theorem d_D_greatestLevel_17 : decode b_D_greatestLevel 17 = .ok (.aload_n 0, 1) := by decide +kernel
theorem d_D_greatestLevel_18 : decode b_D_greatestLevel 18 = .ok (.getfield 40, 3) := by decide +kernel
theorem d_D_greatestLevel_21 : decode b_D_greatestLevel 21 = .ok (.invokevirtual 229, 3) := by decide +kernel
theorem d_D_greatestLevel_24 : decode b_D_greatestLevel 24 = .ok (.aload_n 0, 1) := by decide +kernel
theorem d_D_greatestLevel_25 : decode b_D_greatestLevel 25 = .ok (.getfield 36, 3) := by decide +kernel
theorem d_D_greatestLevel_28 : decode b_D_greatestLevel 28 = .ok (.iload_n 3, 1) := by decide +kernel
theorem d_D_greatestLevel_29 : decode b_D_greatestLevel 29 = .ok (.aaload, 1) := by decide +kernel
theorem d_D_greatestLevel_30 : decode b_D_greatestLevel 30 = .ok (.getfield 208, 3) := by decide +kernel
theorem d_D_greatestLevel_33 : decode b_D_greatestLevel 33 = .ok (.imul, 1) := by decide +kernel
theorem d_D_greatestLevel_34 : decode b_D_greatestLevel 34 = .ok (.sipush 255, 3) := by decide +kernel
theorem d_D_greatestLevel_37 : decode b_D_greatestLevel 37 = .ok (.idiv, 1) := by decide +kernel
theorem d_D_greatestLevel_38 : decode b_D_greatestLevel 38 = .ok (.istore 4, 2) := by decide +kernel
theorem d_D_greatestLevel_40 : decode b_D_greatestLevel 40 = .ok (.iload_n 2, 1) := by decide +kernel
theorem d_D_greatestLevel_41 : decode b_D_greatestLevel 41 = .ok (.iload 4, 2) := by decide +kernel
theorem d_D_greatestLevel_43 : decode b_D_greatestLevel 43 = .ok (.invokestatic 252, 3) := by decide +kernel
theorem d_D_greatestLevel_46 : decode b_D_greatestLevel 46 = .ok (.istore_n 2, 1) := by decide +kernel
theorem d_D_greatestLevel_47 : decode b_D_greatestLevel 47 = .ok (.iinc 3 1, 3) := by decide +kernel
theorem d_D_greatestLevel_50 : decode b_D_greatestLevel 50 = .ok (.goto (-46), 3) := by decide +kernel
theorem d_D_greatestLevel_53 : decode b_D_greatestLevel 53 = .ok (.iload_n 2, 1) := by decide +kernel
theorem d_D_greatestLevel_54 : decode b_D_greatestLevel 54 = .ok (.ireturn, 1) := by decide +kernel
theorem d_D_latestLevel_0 : decode b_D_latestLevel 0 = .ok (.iconst 0, 1) := by decide +kernel
theorem d_D_latestLevel_1 : decode b_D_latestLevel 1 = .ok (.istore_n 2, 1) := by decide +kernel
theorem d_D_latestLevel_2 : decode b_D_latestLevel 2 = .ok (.iconst 0, 1) := by decide +kernel
theorem d_D_latestLevel_3 : decode b_D_latestLevel 3 = .ok (.istore_n 3, 1) := by decide +kernel
theorem d_D_latestLevel_4 : decode b_D_latestLevel 4 = .ok (.iconst 0, 1) := by decide +kernel
theorem d_D_latestLevel_5 : decode b_D_latestLevel 5 = .ok (.istore 4, 2) := by decide +kernel
theorem d_D_latestLevel_7 : decode b_D_latestLevel 7 = .ok (.iload 4, 2) := by decide +kernel
theorem d_D_latestLevel_9 : decode b_D_latestLevel 9 = .ok (.bipush 6, 2) := by decide +kernel
theorem d_D_latestLevel_11 : decode b_D_latestLevel 11 = .ok (.if_icmp .ge 53, 3) := by decide +kernel
theorem d_D_latestLevel_14 : decode b_D_latestLevel 14 = .ok (.aload_n 0, 1) := by decide +kernel
theorem d_D_latestLevel_15 : decode b_D_latestLevel 15 = .ok (.getfield 36, 3) := by decide +kernel
theorem d_D_latestLevel_18 : decode b_D_latestLevel 18 = .ok (.iload 4, 2) := by decide +kernel
theorem d_D_latestLevel_20 : decode b_D_latestLevel 20 = .ok (.aaload, 1) := by decide +kernel
theorem d_D_latestLevel_21 : decode b_D_latestLevel 21 = .ok (.iload_n 1, 1) := by decide +kernel
theorem d_D_latestLevel_22 : decode b_D_latestLevel 22 = .ok (.invokevirtual 257, 3) := by decide +kernel
theorem d_D_latestLevel_25 : decode b_D_latestLevel 25 = .ok (.istore 5, 2) := by decide +kernel
theorem d_D_latestLevel_27 : decode b_D_latestLevel 27 = .ok (.iload 5, 2) := by decide +kernel
theorem d_D_latestLevel_29 : decode b_D_latestLevel 29 = .ok (.iconst (-1), 1) := by decide +kernel
theorem d_D_latestLevel_30 : decode b_D_latestLevel 30 = .ok (.if_icmp .eq 28, 3) := by decide +kernel
theorem d_D_latestLevel_33 : decode b_D_latestLevel 33 = .ok (.iload 5, 2) := by decide +kernel
theorem d_D_latestLevel_35 : decode b_D_latestLevel 35 = .ok (.iload_n 3, 1) := by decide +kernel
theorem d_D_latestLevel_36 : decode b_D_latestLevel 36 = .ok (.if_icmp .lt 22, 3) := by decide +kernel
theorem d_D_latestLevel_39 : decode b_D_latestLevel 39 = .ok (.iload 5, 2) := by decide +kernel
theorem d_D_latestLevel_41 : decode b_D_latestLevel 41 = .ok (.istore_n 3, 1) := by decide +kernel
theorem d_D_latestLevel_42 : decode b_D_latestLevel 42 = .ok (.aload_n 0, 1) := by decide +kernel
theorem d_D_latestLevel_43 : decode b_D_latestLevel 43 = .ok (.getfield 36, 3) := by decide +kernel
theorem d_D_latestLevel_46 : decode b_D_latestLevel 46 = .ok (.iload 4, 2) := by decide +kernel
theorem d_D_latestLevel_48 : decode b_D_latestLevel 48 = .ok (.aaload, 1) := by decide +kernel
theorem d_D_latestLevel_49 : decode b_D_latestLevel 49 = .ok (.iload_n 1, 1) := by decide +kernel
theorem d_D_latestLevel_50 : decode b_D_latestLevel 50 = .ok (.aload_n 0, 1) := by decide +kernel
theorem d_D_latestLevel_51 : decode b_D_latestLevel 51 = .ok (.getfield 40, 3) := by decide +kernel
theorem d_D_latestLevel_54 : decode b_D_latestLevel 54 = .ok (.invokevirtual 229, 3) := by decide +kernel
theorem d_D_latestLevel_57 : decode b_D_latestLevel 57 = .ok (.istore_n 2, 1) := by decide +kernel
theorem d_D_latestLevel_58 : decode b_D_latestLevel 58 = .ok (.iinc 4 1, 3) := by decide +kernel
theorem d_D_latestLevel_61 : decode b_D_latestLevel 61 = .ok (.goto (-54), 3) := by decide +kernel
theorem d_D_latestLevel_64 : decode b_D_latestLevel 64 = .ok (.iload_n 2, 1) := by decide +kernel
theorem d_D_latestLevel_65 : decode b_D_latestLevel 65 = .ok (.ireturn, 1) := by decide +kernel
theorem d_C_init_0 : decode b_C_init 0 = .ok (.aload_n 0, 1) := by decide +kernel
theorem d_C_init_1 : decode b_C_init 1 = .ok (.invokespecial 3, 3) := by decide +kernel
theorem d_C_init_4 : decode b_C_init 4 = .ok (.aload_n 0, 1) := by decide +kernel
theorem d_C_init_5 : decode b_C_init 5 = .ok (.new 9, 3) := by decide +kernel
theorem d_C_init_8 : decode b_C_init 8 = .ok (.dup, 1) := by decide +kernel
theorem d_C_init_9 : decode b_C_init 9 = .ok (.invokespecial 11, 3) := by decide +kernel
theorem d_C_init_12 : decode b_C_init 12 = .ok (.putfield 12, 3) := by decide +kernel
theorem d_C_init_15 : decode b_C_init 15 = .ok (.aload_n 0, 1) := by decide +kernel
theorem d_C_init_16 : decode b_C_init 16 = .ok (.iconst (-1), 1) := by decide +kernel
theorem d_C_init_17 : decode b_C_init 17 = .ok (.putfield 18, 3) := by decide +kernel
theorem d_C_init_20 : decode b_C_init 20 = .ok (.aload_n 0, 1) := by decide +kernel
theorem d_C_init_21 : decode b_C_init 21 = .ok (.iconst (-1), 1) := by decide +kernel
theorem d_C_init_22 : decode b_C_init 22 = .ok (.putfield 22, 3) := by decide +kernel
theorem d_C_init_25 : decode b_C_init 25 = .ok (.aload_n 0, 1) := by decide +kernel
theorem d_C_init_26 : decode b_C_init 26 = .ok (.iconst 0, 1) := by decide +kernel
theorem d_C_init_27 : decode b_C_init 27 = .ok (.putfield 25, 3) := by decide +kernel
theorem d_C_init_30 : decode b_C_init 30 = .ok (.aload_n 0, 1) := by decide +kernel
theorem d_C_init_31 : decode b_C_init 31 = .ok (.iconst 0, 1) := by decide +kernel
theorem d_C_init_32 : decode b_C_init 32 = .ok (.putfield 28, 3) := by decide +kernel
theorem d_C_init_35 : decode b_C_init 35 = .ok (.aload_n 0, 1) := by decide +kernel
theorem d_C_init_36 : decode b_C_init 36 = .ok (.iconst 0, 1) := by decide +kernel
theorem d_C_init_37 : decode b_C_init 37 = .ok (.putfield 31, 3) := by decide +kernel
theorem d_C_init_40 : decode b_C_init 40 = .ok (.aload_n 0, 1) := by decide +kernel
theorem d_C_init_41 : decode b_C_init 41 = .ok (.iconst (-1), 1) := by decide +kernel
theorem d_C_init_42 : decode b_C_init 42 = .ok (.putfield 34, 3) := by decide +kernel
theorem d_C_init_45 : decode b_C_init 45 = .ok (.return_, 1) := by decide +kernel
theorem d_C_beginAs_0 : decode b_C_beginAs 0 = .ok (.aload_n 0, 1) := by decide +kernel
theorem d_C_beginAs_1 : decode b_C_beginAs 1 = .ok (.iload_n 1, 1) := by decide +kernel
theorem d_C_beginAs_2 : decode b_C_beginAs 2 = .ok (.putfield 18, 3) := by decide +kernel
theorem d_C_beginAs_5 : decode b_C_beginAs 5 = .ok (.aload_n 0, 1) := by decide +kernel
theorem d_C_beginAs_6 : decode b_C_beginAs 6 = .ok (.iload_n 2, 1) := by decide +kernel
theorem d_C_beginAs_7 : decode b_C_beginAs 7 = .ok (.putfield 22, 3) := by decide +kernel
theorem d_C_beginAs_10 : decode b_C_beginAs 10 = .ok (.aload_n 0, 1) := by decide +kernel
theorem d_C_beginAs_11 : decode b_C_beginAs 11 = .ok (.iconst 0, 1) := by decide +kernel
theorem d_C_beginAs_12 : decode b_C_beginAs 12 = .ok (.putfield 25, 3) := by decide +kernel
theorem d_C_beginAs_15 : decode b_C_beginAs 15 = .ok (.aload_n 0, 1) := by decide +kernel
theorem d_C_beginAs_16 : decode b_C_beginAs 16 = .ok (.iconst 0, 1) := by decide +kernel
theorem d_C_beginAs_17 : decode b_C_beginAs 17 = .ok (.putfield 28, 3) := by decide +kernel
theorem d_C_beginAs_20 : decode b_C_beginAs 20 = .ok (.aload_n 0, 1) := by decide +kernel
theorem d_C_beginAs_21 : decode b_C_beginAs 21 = .ok (.iconst 0, 1) := by decide +kernel
theorem d_C_beginAs_22 : decode b_C_beginAs 22 = .ok (.putfield 31, 3) := by decide +kernel
theorem d_C_beginAs_25 : decode b_C_beginAs 25 = .ok (.aload_n 0, 1) := by decide +kernel
theorem d_C_beginAs_26 : decode b_C_beginAs 26 = .ok (.iconst (-1), 1) := by decide +kernel
theorem d_C_beginAs_27 : decode b_C_beginAs 27 = .ok (.putfield 34, 3) := by decide +kernel
theorem d_C_beginAs_30 : decode b_C_beginAs 30 = .ok (.aload_n 0, 1) := by decide +kernel
theorem d_C_beginAs_31 : decode b_C_beginAs 31 = .ok (.getfield 12, 3) := by decide +kernel
theorem d_C_beginAs_34 : decode b_C_beginAs 34 = .ok (.invokevirtual 37, 3) := by decide +kernel
theorem d_C_beginAs_37 : decode b_C_beginAs 37 = .ok (.return_, 1) := by decide +kernel
theorem d_C_isBefore_0 : decode b_C_isBefore 0 = .ok (.aload_n 0, 1) := by decide +kernel
theorem d_C_isBefore_1 : decode b_C_isBefore 1 = .ok (.getfield 18, 3) := by decide +kernel
theorem d_C_isBefore_4 : decode b_C_isBefore 4 = .ok (.iload_n 1, 1) := by decide +kernel
theorem d_C_isBefore_5 : decode b_C_isBefore 5 = .ok (.if_icmp .lt 19, 3) := by decide +kernel
theorem d_C_isBefore_8 : decode b_C_isBefore 8 = .ok (.aload_n 0, 1) := by decide +kernel
theorem d_C_isBefore_9 : decode b_C_isBefore 9 = .ok (.getfield 18, 3) := by decide +kernel
theorem d_C_isBefore_12 : decode b_C_isBefore 12 = .ok (.iload_n 1, 1) := by decide +kernel
theorem d_C_isBefore_13 : decode b_C_isBefore 13 = .ok (.if_icmp .ne 15, 3) := by decide +kernel
theorem d_C_isBefore_16 : decode b_C_isBefore 16 = .ok (.aload_n 0, 1) := by decide +kernel
theorem d_C_isBefore_17 : decode b_C_isBefore 17 = .ok (.getfield 22, 3) := by decide +kernel
theorem d_C_isBefore_20 : decode b_C_isBefore 20 = .ok (.iload_n 2, 1) := by decide +kernel
theorem d_C_isBefore_21 : decode b_C_isBefore 21 = .ok (.if_icmp .ge 7, 3) := by decide +kernel
theorem d_C_isBefore_24 : decode b_C_isBefore 24 = .ok (.iconst 1, 1) := by decide +kernel
theorem d_C_isBefore_25 : decode b_C_isBefore 25 = .ok (.goto 4, 3) := by decide +kernel
theorem d_C_isBefore_28 : decode b_C_isBefore 28 = .ok (.iconst 0, 1) := by decide +kernel
theorem d_C_isBefore_29 : decode b_C_isBefore 29 = .ok (.ireturn, 1) := by decide +kernel
theorem d_C_detail_0 : decode b_C_detail 0 = .ok (.iload_n 1, 1) := by decide +kernel
theorem d_C_detail_1 : decode b_C_detail 1 = .ok (.tableswitch 72 0 5 #[39, 44, 52, 57, 62, 67], 39) := by decide +kernel
theorem d_C_detail_40 : decode b_C_detail 40 = .ok (.aload_n 0, 1) := by decide +kernel
theorem d_C_detail_41 : decode b_C_detail 41 = .ok (.getfield 22, 3) := by decide +kernel
theorem d_C_detail_44 : decode b_C_detail 44 = .ok (.ireturn, 1) := by decide +kernel
theorem d_C_detail_45 : decode b_C_detail 45 = .ok (.aload_n 0, 1) := by decide +kernel
theorem d_C_detail_46 : decode b_C_detail 46 = .ok (.getfield 12, 3) := by decide +kernel
theorem d_C_detail_49 : decode b_C_detail 49 = .ok (.getfield 40, 3) := by decide +kernel
theorem d_C_detail_52 : decode b_C_detail 52 = .ok (.ireturn, 1) := by decide +kernel
theorem d_C_detail_53 : decode b_C_detail 53 = .ok (.aload_n 0, 1) := by decide +kernel
theorem d_C_detail_54 : decode b_C_detail 54 = .ok (.getfield 25, 3) := by decide +kernel
theorem d_C_detail_57 : decode b_C_detail 57 = .ok (.ireturn, 1) := by decide +kernel
theorem d_C_detail_58 : decode b_C_detail 58 = .ok (.aload_n 0, 1) := by decide +kernel
theorem d_C_detail_59 : decode b_C_detail 59 = .ok (.getfield 28, 3) := by decide +kernel
theorem d_C_detail_62 : decode b_C_detail 62 = .ok (.ireturn, 1) := by decide +kernel
theorem d_C_detail_63 : decode b_C_detail 63 = .ok (.aload_n 0, 1) := by decide +kernel
theorem d_C_detail_64 : decode b_C_detail 64 = .ok (.getfield 31, 3) := by decide +kernel
theorem d_C_detail_67 : decode b_C_detail 67 = .ok (.ireturn, 1) := by decide +kernel
theorem d_C_detail_68 : decode b_C_detail 68 = .ok (.aload_n 0, 1) := by decide +kernel
theorem d_C_detail_69 : decode b_C_detail 69 = .ok (.getfield 34, 3) := by decide +kernel
theorem d_C_detail_72 : decode b_C_detail 72 = .ok (.ireturn, 1) := by decide +kernel
theorem d_C_detail_73 : decode b_C_detail 73 = .ok (.iconst (-1), 1) := by decide +kernel
theorem d_C_detail_74 : decode b_C_detail 74 = .ok (.ireturn, 1) := by decide +kernel
theorem d_B_init_0 : decode b_B_init 0 = .ok (.aload_n 0, 1) := by decide +kernel
theorem d_B_init_1 : decode b_B_init 1 = .ok (.invokespecial 3, 3) := by decide +kernel
theorem d_B_init_4 : decode b_B_init 4 = .ok (.aload_n 0, 1) := by decide +kernel
theorem d_B_init_5 : decode b_B_init 5 = .ok (.bipush 40, 2) := by decide +kernel
theorem d_B_init_7 : decode b_B_init 7 = .ok (.anewarray 9, 3) := by decide +kernel
theorem d_B_init_10 : decode b_B_init 10 = .ok (.putfield 11, 3) := by decide +kernel
theorem d_B_init_13 : decode b_B_init 13 = .ok (.aload_n 0, 1) := by decide +kernel
theorem d_B_init_14 : decode b_B_init 14 = .ok (.iconst 0, 1) := by decide +kernel
theorem d_B_init_15 : decode b_B_init 15 = .ok (.putfield 17, 3) := by decide +kernel
theorem d_B_init_18 : decode b_B_init 18 = .ok (.iconst 0, 1) := by decide +kernel
theorem d_B_init_19 : decode b_B_init 19 = .ok (.istore_n 1, 1) := by decide +kernel
theorem d_B_init_20 : decode b_B_init 20 = .ok (.iload_n 1, 1) := by decide +kernel
theorem d_B_init_21 : decode b_B_init 21 = .ok (.bipush 40, 2) := by decide +kernel
theorem d_B_init_23 : decode b_B_init 23 = .ok (.if_icmp .ge 22, 3) := by decide +kernel
theorem d_B_init_26 : decode b_B_init 26 = .ok (.aload_n 0, 1) := by decide +kernel
theorem d_B_init_27 : decode b_B_init 27 = .ok (.getfield 11, 3) := by decide +kernel
theorem d_B_init_30 : decode b_B_init 30 = .ok (.iload_n 1, 1) := by decide +kernel
theorem d_B_init_31 : decode b_B_init 31 = .ok (.new 9, 3) := by decide +kernel
theorem d_B_init_34 : decode b_B_init 34 = .ok (.dup, 1) := by decide +kernel
theorem d_B_init_35 : decode b_B_init 35 = .ok (.invokespecial 21, 3) := by decide +kernel
theorem d_B_init_38 : decode b_B_init 38 = .ok (.aastore, 1) := by decide +kernel
theorem d_B_init_39 : decode b_B_init 39 = .ok (.iinc 1 1, 3) := by decide +kernel
theorem d_B_init_42 : decode b_B_init 42 = .ok (.goto (-22), 3) := by decide +kernel
theorem d_B_init_45 : decode b_B_init 45 = .ok (.return_, 1) := by decide +kernel
theorem d_B_at_0 : decode b_B_at 0 = .ok (.aload_n 0, 1) := by decide +kernel
theorem d_B_at_1 : decode b_B_at 1 = .ok (.getfield 11, 3) := by decide +kernel
theorem d_B_at_4 : decode b_B_at 4 = .ok (.iload_n 1, 1) := by decide +kernel
theorem d_B_at_5 : decode b_B_at 5 = .ok (.aaload, 1) := by decide +kernel
theorem d_B_at_6 : decode b_B_at 6 = .ok (.areturn, 1) := by decide +kernel
theorem d_B_moveCount_0 : decode b_B_moveCount 0 = .ok (.iconst 0, 1) := by decide +kernel
theorem d_B_moveCount_1 : decode b_B_moveCount 1 = .ok (.istore_n 1, 1) := by decide +kernel
theorem d_B_moveCount_2 : decode b_B_moveCount 2 = .ok (.iconst 0, 1) := by decide +kernel
theorem d_B_moveCount_3 : decode b_B_moveCount 3 = .ok (.istore_n 2, 1) := by decide +kernel
theorem d_B_moveCount_4 : decode b_B_moveCount 4 = .ok (.iload_n 2, 1) := by decide +kernel
theorem d_B_moveCount_5 : decode b_B_moveCount 5 = .ok (.aload_n 0, 1) := by decide +kernel
theorem d_B_moveCount_6 : decode b_B_moveCount 6 = .ok (.getfield 17, 3) := by decide +kernel
theorem d_B_moveCount_9 : decode b_B_moveCount 9 = .ok (.if_icmp .ge 24, 3) := by decide +kernel
theorem d_B_moveCount_12 : decode b_B_moveCount 12 = .ok (.iload_n 1, 1) := by decide +kernel
theorem d_B_moveCount_13 : decode b_B_moveCount 13 = .ok (.aload_n 0, 1) := by decide +kernel
theorem d_B_moveCount_14 : decode b_B_moveCount 14 = .ok (.getfield 11, 3) := by decide +kernel
theorem d_B_moveCount_17 : decode b_B_moveCount 17 = .ok (.iload_n 2, 1) := by decide +kernel
theorem d_B_moveCount_18 : decode b_B_moveCount 18 = .ok (.aaload, 1) := by decide +kernel
theorem d_B_moveCount_19 : decode b_B_moveCount 19 = .ok (.getfield 22, 3) := by decide +kernel
theorem d_B_moveCount_22 : decode b_B_moveCount 22 = .ok (.getfield 26, 3) := by decide +kernel
theorem d_B_moveCount_25 : decode b_B_moveCount 25 = .ok (.iadd, 1) := by decide +kernel
theorem d_B_moveCount_26 : decode b_B_moveCount 26 = .ok (.istore_n 1, 1) := by decide +kernel
theorem d_B_moveCount_27 : decode b_B_moveCount 27 = .ok (.iinc 2 1, 3) := by decide +kernel
theorem d_B_moveCount_30 : decode b_B_moveCount 30 = .ok (.goto (-26), 3) := by decide +kernel
theorem d_B_moveCount_33 : decode b_B_moveCount 33 = .ok (.iload_n 1, 1) := by decide +kernel
theorem d_B_moveCount_34 : decode b_B_moveCount 34 = .ok (.ireturn, 1) := by decide +kernel
theorem d_B_firstOf_0 : decode b_B_firstOf 0 = .ok (.aload_n 0, 1) := by decide +kernel
theorem d_B_firstOf_1 : decode b_B_firstOf 1 = .ok (.iload_n 1, 1) := by decide +kernel
theorem d_B_firstOf_2 : decode b_B_firstOf 2 = .ok (.iconst 0, 1) := by decide +kernel
theorem d_B_firstOf_3 : decode b_B_firstOf 3 = .ok (.invokevirtual 31, 3) := by decide +kernel
theorem d_B_firstOf_6 : decode b_B_firstOf 6 = .ok (.ireturn, 1) := by decide +kernel
theorem d_B_lengthOf_0 : decode b_B_lengthOf 0 = .ok (.aload_n 0, 1) := by decide +kernel
theorem d_B_lengthOf_1 : decode b_B_lengthOf 1 = .ok (.iload_n 1, 1) := by decide +kernel
theorem d_B_lengthOf_2 : decode b_B_lengthOf 2 = .ok (.iconst 1, 1) := by decide +kernel
theorem d_B_lengthOf_3 : decode b_B_lengthOf 3 = .ok (.iadd, 1) := by decide +kernel
theorem d_B_lengthOf_4 : decode b_B_lengthOf 4 = .ok (.invokevirtual 35, 3) := by decide +kernel
theorem d_B_lengthOf_7 : decode b_B_lengthOf 7 = .ok (.aload_n 0, 1) := by decide +kernel
theorem d_B_lengthOf_8 : decode b_B_lengthOf 8 = .ok (.iload_n 1, 1) := by decide +kernel
theorem d_B_lengthOf_9 : decode b_B_lengthOf 9 = .ok (.invokevirtual 35, 3) := by decide +kernel
theorem d_B_lengthOf_12 : decode b_B_lengthOf 12 = .ok (.isub, 1) := by decide +kernel
theorem d_B_lengthOf_13 : decode b_B_lengthOf 13 = .ok (.ireturn, 1) := by decide +kernel
theorem d_B_find_0 : decode b_B_find 0 = .ok (.aload_n 0, 1) := by decide +kernel
theorem d_B_find_1 : decode b_B_find 1 = .ok (.iload_n 1, 1) := by decide +kernel
theorem d_B_find_2 : decode b_B_find 2 = .ok (.iload_n 2, 1) := by decide +kernel
theorem d_B_find_3 : decode b_B_find 3 = .ok (.invokevirtual 31, 3) := by decide +kernel
theorem d_B_find_6 : decode b_B_find 6 = .ok (.istore_n 3, 1) := by decide +kernel
theorem d_B_find_7 : decode b_B_find 7 = .ok (.aload_n 0, 1) := by decide +kernel
theorem d_B_find_8 : decode b_B_find 8 = .ok (.iload_n 3, 1) := by decide +kernel
theorem d_B_find_9 : decode b_B_find 9 = .ok (.iload_n 1, 1) := by decide +kernel
theorem d_B_find_10 : decode b_B_find 10 = .ok (.invokevirtual 39, 3) := by decide +kernel
theorem d_B_find_13 : decode b_B_find 13 = .ok (.ifCond .eq 20, 3) := by decide +kernel
theorem d_B_find_16 : decode b_B_find 16 = .ok (.aload_n 0, 1) := by decide +kernel
theorem d_B_find_17 : decode b_B_find 17 = .ok (.getfield 11, 3) := by decide +kernel
theorem d_B_find_20 : decode b_B_find 20 = .ok (.iload_n 3, 1) := by decide +kernel
theorem d_B_find_21 : decode b_B_find 21 = .ok (.aaload, 1) := by decide +kernel
theorem d_B_find_22 : decode b_B_find 22 = .ok (.getfield 43, 3) := by decide +kernel
theorem d_B_find_25 : decode b_B_find 25 = .ok (.iload_n 2, 1) := by decide +kernel
theorem d_B_find_26 : decode b_B_find 26 = .ok (.if_icmp .ne 7, 3) := by decide +kernel
theorem d_B_find_29 : decode b_B_find 29 = .ok (.iload_n 3, 1) := by decide +kernel
theorem d_B_find_30 : decode b_B_find 30 = .ok (.goto 4, 3) := by decide +kernel
theorem d_B_find_33 : decode b_B_find 33 = .ok (.iconst (-1), 1) := by decide +kernel
theorem d_B_find_34 : decode b_B_find 34 = .ok (.ireturn, 1) := by decide +kernel
theorem d_B_placeAbove_0 : decode b_B_placeAbove 0 = .ok (.aload_n 0, 1) := by decide +kernel
theorem d_B_placeAbove_1 : decode b_B_placeAbove 1 = .ok (.iload_n 1, 1) := by decide +kernel
theorem d_B_placeAbove_2 : decode b_B_placeAbove 2 = .ok (.iload_n 2, 1) := by decide +kernel
theorem d_B_placeAbove_3 : decode b_B_placeAbove 3 = .ok (.iconst 1, 1) := by decide +kernel
theorem d_B_placeAbove_4 : decode b_B_placeAbove 4 = .ok (.iadd, 1) := by decide +kernel
theorem d_B_placeAbove_5 : decode b_B_placeAbove 5 = .ok (.invokevirtual 31, 3) := by decide +kernel
theorem d_B_placeAbove_8 : decode b_B_placeAbove 8 = .ok (.istore_n 3, 1) := by decide +kernel
theorem d_B_placeAbove_9 : decode b_B_placeAbove 9 = .ok (.aload_n 0, 1) := by decide +kernel
theorem d_B_placeAbove_10 : decode b_B_placeAbove 10 = .ok (.iload_n 3, 1) := by decide +kernel
theorem d_B_placeAbove_11 : decode b_B_placeAbove 11 = .ok (.iload_n 1, 1) := by decide +kernel
theorem d_B_placeAbove_12 : decode b_B_placeAbove 12 = .ok (.invokevirtual 39, 3) := by decide +kernel
theorem d_B_placeAbove_15 : decode b_B_placeAbove 15 = .ok (.ifCond .eq 7, 3) := by decide +kernel
theorem d_B_placeAbove_18 : decode b_B_placeAbove 18 = .ok (.iload_n 3, 1) := by decide +kernel
theorem d_B_placeAbove_19 : decode b_B_placeAbove 19 = .ok (.goto 4, 3) := by decide +kernel
theorem d_B_placeAbove_22 : decode b_B_placeAbove 22 = .ok (.iconst (-1), 1) := by decide +kernel
theorem d_B_placeAbove_23 : decode b_B_placeAbove 23 = .ok (.ireturn, 1) := by decide +kernel
theorem d_B_placeBelow_0 : decode b_B_placeBelow 0 = .ok (.aload_n 0, 1) := by decide +kernel
theorem d_B_placeBelow_1 : decode b_B_placeBelow 1 = .ok (.iload_n 1, 1) := by decide +kernel
theorem d_B_placeBelow_2 : decode b_B_placeBelow 2 = .ok (.iload_n 2, 1) := by decide +kernel
theorem d_B_placeBelow_3 : decode b_B_placeBelow 3 = .ok (.invokevirtual 31, 3) := by decide +kernel
theorem d_B_placeBelow_6 : decode b_B_placeBelow 6 = .ok (.iconst 1, 1) := by decide +kernel
theorem d_B_placeBelow_7 : decode b_B_placeBelow 7 = .ok (.isub, 1) := by decide +kernel
theorem d_B_placeBelow_8 : decode b_B_placeBelow 8 = .ok (.istore_n 3, 1) := by decide +kernel
theorem d_B_placeBelow_9 : decode b_B_placeBelow 9 = .ok (.aload_n 0, 1) := by decide +kernel
theorem d_B_placeBelow_10 : decode b_B_placeBelow 10 = .ok (.iload_n 3, 1) := by decide +kernel
theorem d_B_placeBelow_11 : decode b_B_placeBelow 11 = .ok (.iload_n 1, 1) := by decide +kernel
theorem d_B_placeBelow_12 : decode b_B_placeBelow 12 = .ok (.invokevirtual 39, 3) := by decide +kernel
theorem d_B_placeBelow_15 : decode b_B_placeBelow 15 = .ok (.ifCond .eq 7, 3) := by decide +kernel
theorem d_B_placeBelow_18 : decode b_B_placeBelow 18 = .ok (.iload_n 3, 1) := by decide +kernel
theorem d_B_placeBelow_19 : decode b_B_placeBelow 19 = .ok (.goto 4, 3) := by decide +kernel
theorem d_B_placeBelow_22 : decode b_B_placeBelow 22 = .ok (.iconst (-1), 1) := by decide +kernel
theorem d_B_placeBelow_23 : decode b_B_placeBelow 23 = .ok (.ireturn, 1) := by decide +kernel
theorem d_B_sourceOf_0 : decode b_B_sourceOf 0 = .ok (.iload_n 1, 1) := by decide +kernel
theorem d_B_sourceOf_1 : decode b_B_sourceOf 1 = .ok (.ifCond .lt 11, 3) := by decide +kernel
theorem d_B_sourceOf_4 : decode b_B_sourceOf 4 = .ok (.iload_n 1, 1) := by decide +kernel
theorem d_B_sourceOf_5 : decode b_B_sourceOf 5 = .ok (.aload_n 0, 1) := by decide +kernel
theorem d_B_sourceOf_6 : decode b_B_sourceOf 6 = .ok (.getfield 17, 3) := by decide +kernel
theorem d_B_sourceOf_9 : decode b_B_sourceOf 9 = .ok (.if_icmp .lt 5, 3) := by decide +kernel
theorem d_B_sourceOf_12 : decode b_B_sourceOf 12 = .ok (.iconst (-1), 1) := by decide +kernel
theorem d_B_sourceOf_13 : decode b_B_sourceOf 13 = .ok (.ireturn, 1) := by decide +kernel
theorem d_B_sourceOf_14 : decode b_B_sourceOf 14 = .ok (.aload_n 0, 1) := by decide +kernel
theorem d_B_sourceOf_15 : decode b_B_sourceOf 15 = .ok (.getfield 11, 3) := by decide +kernel
theorem d_B_sourceOf_18 : decode b_B_sourceOf 18 = .ok (.iload_n 1, 1) := by decide +kernel
theorem d_B_sourceOf_19 : decode b_B_sourceOf 19 = .ok (.aaload, 1) := by decide +kernel
theorem d_B_sourceOf_20 : decode b_B_sourceOf 20 = .ok (.getfield 46, 3) := by decide +kernel
theorem d_B_sourceOf_23 : decode b_B_sourceOf 23 = .ok (.istore_n 3, 1) := by decide +kernel
theorem d_B_sourceOf_24 : decode b_B_sourceOf 24 = .ok (.iload_n 1, 1) := by decide +kernel
theorem d_B_sourceOf_25 : decode b_B_sourceOf 25 = .ok (.istore 4, 2) := by decide +kernel
theorem d_B_sourceOf_27 : decode b_B_sourceOf 27 = .ok (.iload 4, 2) := by decide +kernel
theorem d_B_sourceOf_29 : decode b_B_sourceOf 29 = .ok (.ifCond .lt 43, 3) := by decide +kernel
theorem d_B_sourceOf_32 : decode b_B_sourceOf 32 = .ok (.aload_n 0, 1) := by decide +kernel
theorem d_B_sourceOf_33 : decode b_B_sourceOf 33 = .ok (.getfield 11, 3) := by decide +kernel
theorem d_B_sourceOf_36 : decode b_B_sourceOf 36 = .ok (.iload 4, 2) := by decide +kernel
theorem d_B_sourceOf_38 : decode b_B_sourceOf 38 = .ok (.aaload, 1) := by decide +kernel
theorem d_B_sourceOf_39 : decode b_B_sourceOf 39 = .ok (.getfield 46, 3) := by decide +kernel
theorem d_B_sourceOf_42 : decode b_B_sourceOf 42 = .ok (.iload_n 3, 1) := by decide +kernel
theorem d_B_sourceOf_43 : decode b_B_sourceOf 43 = .ok (.if_icmp .ne 29, 3) := by decide +kernel
theorem d_B_sourceOf_46 : decode b_B_sourceOf 46 = .ok (.aload_n 0, 1) := by decide +kernel
theorem d_B_sourceOf_47 : decode b_B_sourceOf 47 = .ok (.getfield 11, 3) := by decide +kernel
theorem d_B_sourceOf_50 : decode b_B_sourceOf 50 = .ok (.iload 4, 2) := by decide +kernel
theorem d_B_sourceOf_52 : decode b_B_sourceOf 52 = .ok (.aaload, 1) := by decide +kernel
theorem d_B_sourceOf_53 : decode b_B_sourceOf 53 = .ok (.getfield 22, 3) := by decide +kernel
theorem d_B_sourceOf_56 : decode b_B_sourceOf 56 = .ok (.iload_n 2, 1) := by decide +kernel
theorem d_B_sourceOf_57 : decode b_B_sourceOf 57 = .ok (.invokevirtual 49, 3) := by decide +kernel
theorem d_B_sourceOf_60 : decode b_B_sourceOf 60 = .ok (.ifCond .eq 6, 3) := by decide +kernel
theorem d_B_sourceOf_63 : decode b_B_sourceOf 63 = .ok (.iload 4, 2) := by decide +kernel
theorem d_B_sourceOf_65 : decode b_B_sourceOf 65 = .ok (.ireturn, 1) := by decide +kernel
theorem d_B_sourceOf_66 : decode b_B_sourceOf 66 = .ok (.iinc 4 (-1), 3) := by decide +kernel
theorem d_B_sourceOf_69 : decode b_B_sourceOf 69 = .ok (.goto (-42), 3) := by decide +kernel
theorem d_B_sourceOf_72 : decode b_B_sourceOf 72 = .ok (.iconst (-1), 1) := by decide +kernel
theorem d_B_sourceOf_73 : decode b_B_sourceOf 73 = .ok (.ireturn, 1) := by decide +kernel
theorem d_B_trackedAt_0 : decode b_B_trackedAt 0 = .ok (.aload_n 0, 1) := by decide +kernel
theorem d_B_trackedAt_1 : decode b_B_trackedAt 1 = .ok (.iload_n 1, 1) := by decide +kernel
theorem d_B_trackedAt_2 : decode b_B_trackedAt 2 = .ok (.iload_n 2, 1) := by decide +kernel
theorem d_B_trackedAt_3 : decode b_B_trackedAt 3 = .ok (.invokevirtual 53, 3) := by decide +kernel
theorem d_B_trackedAt_6 : decode b_B_trackedAt 6 = .ok (.istore_n 3, 1) := by decide +kernel
theorem d_B_trackedAt_7 : decode b_B_trackedAt 7 = .ok (.iload_n 3, 1) := by decide +kernel
theorem d_B_trackedAt_8 : decode b_B_trackedAt 8 = .ok (.iconst (-1), 1) := by decide +kernel
theorem d_B_trackedAt_9 : decode b_B_trackedAt 9 = .ok (.if_icmp .ne 7, 3) := by decide +kernel
theorem d_B_trackedAt_12 : decode b_B_trackedAt 12 = .ok (.iconst (-1), 1) := by decide +kernel
theorem d_B_trackedAt_13 : decode b_B_trackedAt 13 = .ok (.goto 16, 3) := by decide +kernel
theorem d_B_trackedAt_16 : decode b_B_trackedAt 16 = .ok (.aload_n 0, 1) := by decide +kernel
theorem d_B_trackedAt_17 : decode b_B_trackedAt 17 = .ok (.getfield 11, 3) := by decide +kernel
theorem d_B_trackedAt_20 : decode b_B_trackedAt 20 = .ok (.iload_n 3, 1) := by decide +kernel
theorem d_B_trackedAt_21 : decode b_B_trackedAt 21 = .ok (.aaload, 1) := by decide +kernel
theorem d_B_trackedAt_22 : decode b_B_trackedAt 22 = .ok (.getfield 22, 3) := by decide +kernel
theorem d_B_trackedAt_25 : decode b_B_trackedAt 25 = .ok (.iload_n 2, 1) := by decide +kernel
theorem d_B_trackedAt_26 : decode b_B_trackedAt 26 = .ok (.invokevirtual 56, 3) := by decide +kernel
theorem d_B_trackedAt_29 : decode b_B_trackedAt 29 = .ok (.ireturn, 1) := by decide +kernel
theorem d_B_recordCue_0 : decode b_B_recordCue 0 = .ok (.aload_n 0, 1) := by decide +kernel
theorem d_B_recordCue_1 : decode b_B_recordCue 1 = .ok (.iload_n 2, 1) := by decide +kernel
theorem d_B_recordCue_2 : decode b_B_recordCue 2 = .ok (.iload_n 3, 1) := by decide +kernel
theorem d_B_recordCue_3 : decode b_B_recordCue 3 = .ok (.invokevirtual 31, 3) := by decide +kernel
theorem d_B_recordCue_6 : decode b_B_recordCue 6 = .ok (.istore 5, 2) := by decide +kernel
theorem d_B_recordCue_8 : decode b_B_recordCue 8 = .ok (.aload_n 0, 1) := by decide +kernel
theorem d_B_recordCue_9 : decode b_B_recordCue 9 = .ok (.iload_n 2, 1) := by decide +kernel
theorem d_B_recordCue_10 : decode b_B_recordCue 10 = .ok (.iload_n 3, 1) := by decide +kernel
theorem d_B_recordCue_11 : decode b_B_recordCue 11 = .ok (.invokevirtual 59, 3) := by decide +kernel
theorem d_B_recordCue_14 : decode b_B_recordCue 14 = .ok (.iconst (-1), 1) := by decide +kernel
theorem d_B_recordCue_15 : decode b_B_recordCue 15 = .ok (.if_icmp .ne 7, 3) := by decide +kernel
theorem d_B_recordCue_18 : decode b_B_recordCue 18 = .ok (.iconst 1, 1) := by decide +kernel
theorem d_B_recordCue_19 : decode b_B_recordCue 19 = .ok (.goto 4, 3) := by decide +kernel
theorem d_B_recordCue_22 : decode b_B_recordCue 22 = .ok (.iconst 0, 1) := by decide +kernel
theorem d_B_recordCue_23 : decode b_B_recordCue 23 = .ok (.istore 6, 2) := by decide +kernel
theorem d_B_recordCue_25 : decode b_B_recordCue 25 = .ok (.iload 6, 2) := by decide +kernel
theorem d_B_recordCue_27 : decode b_B_recordCue 27 = .ok (.ifCond .eq 14, 3) := by decide +kernel
theorem d_B_recordCue_30 : decode b_B_recordCue 30 = .ok (.aload_n 0, 1) := by decide +kernel
theorem d_B_recordCue_31 : decode b_B_recordCue 31 = .ok (.getfield 17, 3) := by decide +kernel
theorem d_B_recordCue_34 : decode b_B_recordCue 34 = .ok (.bipush 40, 2) := by decide +kernel
theorem d_B_recordCue_36 : decode b_B_recordCue 36 = .ok (.if_icmp .lt 5, 3) := by decide +kernel
theorem d_B_recordCue_39 : decode b_B_recordCue 39 = .ok (.iconst (-1), 1) := by decide +kernel
theorem d_B_recordCue_40 : decode b_B_recordCue 40 = .ok (.ireturn, 1) := by decide +kernel
theorem d_B_recordCue_41 : decode b_B_recordCue 41 = .ok (.iload 4, 2) := by decide +kernel
theorem d_B_recordCue_43 : decode b_B_recordCue 43 = .ok (.ifCond .eq 12, 3) := by decide +kernel
theorem d_B_recordCue_46 : decode b_B_recordCue 46 = .ok (.aload_n 0, 1) := by decide +kernel
theorem d_B_recordCue_47 : decode b_B_recordCue 47 = .ok (.iload_n 2, 1) := by decide +kernel
theorem d_B_recordCue_48 : decode b_B_recordCue 48 = .ok (.iload_n 3, 1) := by decide +kernel
theorem d_B_recordCue_49 : decode b_B_recordCue 49 = .ok (.invokevirtual 62, 3) := by decide +kernel
theorem d_B_recordCue_52 : decode b_B_recordCue 52 = .ok (.goto 4, 3) := by decide +kernel
theorem d_B_recordCue_55 : decode b_B_recordCue 55 = .ok (.iconst (-1), 1) := by decide +kernel
theorem d_B_recordCue_56 : decode b_B_recordCue 56 = .ok (.istore 7, 2) := by decide +kernel
theorem d_B_recordCue_58 : decode b_B_recordCue 58 = .ok (.iload 6, 2) := by decide +kernel
theorem d_B_recordCue_60 : decode b_B_recordCue 60 = .ok (.ifCond .eq 10, 3) := by decide +kernel
theorem d_B_recordCue_63 : decode b_B_recordCue 63 = .ok (.aload_n 1, 1) := by decide +kernel
theorem d_B_recordCue_64 : decode b_B_recordCue 64 = .ok (.getfield 26, 3) := by decide +kernel
theorem d_B_recordCue_67 : decode b_B_recordCue 67 = .ok (.goto 17, 3) := by decide +kernel
theorem d_B_recordCue_70 : decode b_B_recordCue 70 = .ok (.aload_n 0, 1) := by decide +kernel
theorem d_B_recordCue_71 : decode b_B_recordCue 71 = .ok (.getfield 11, 3) := by decide +kernel
theorem d_B_recordCue_74 : decode b_B_recordCue 74 = .ok (.iload 5, 2) := by decide +kernel
theorem d_B_recordCue_76 : decode b_B_recordCue 76 = .ok (.aaload, 1) := by decide +kernel
theorem d_B_recordCue_77 : decode b_B_recordCue 77 = .ok (.getfield 22, 3) := by decide +kernel
theorem d_B_recordCue_80 : decode b_B_recordCue 80 = .ok (.aload_n 1, 1) := by decide +kernel
theorem d_B_recordCue_81 : decode b_B_recordCue 81 = .ok (.invokevirtual 65, 3) := by decide +kernel
theorem d_B_recordCue_84 : decode b_B_recordCue 84 = .ok (.istore 8, 2) := by decide +kernel
theorem d_B_recordCue_86 : decode b_B_recordCue 86 = .ok (.iload 7, 2) := by decide +kernel
theorem d_B_recordCue_88 : decode b_B_recordCue 88 = .ok (.iconst (-1), 1) := by decide +kernel
theorem d_B_recordCue_89 : decode b_B_recordCue 89 = .ok (.if_icmp .eq 22, 3) := by decide +kernel
theorem d_B_recordCue_92 : decode b_B_recordCue 92 = .ok (.iload 8, 2) := by decide +kernel
theorem d_B_recordCue_94 : decode b_B_recordCue 94 = .ok (.aload_n 0, 1) := by decide +kernel
theorem d_B_recordCue_95 : decode b_B_recordCue 95 = .ok (.getfield 11, 3) := by decide +kernel
theorem d_B_recordCue_98 : decode b_B_recordCue 98 = .ok (.iload 7, 2) := by decide +kernel
theorem d_B_recordCue_100 : decode b_B_recordCue 100 = .ok (.aaload, 1) := by decide +kernel
theorem d_B_recordCue_101 : decode b_B_recordCue 101 = .ok (.getfield 22, 3) := by decide +kernel
theorem d_B_recordCue_104 : decode b_B_recordCue 104 = .ok (.aload_n 1, 1) := by decide +kernel
theorem d_B_recordCue_105 : decode b_B_recordCue 105 = .ok (.invokevirtual 65, 3) := by decide +kernel
theorem d_B_recordCue_108 : decode b_B_recordCue 108 = .ok (.iadd, 1) := by decide +kernel
theorem d_B_recordCue_109 : decode b_B_recordCue 109 = .ok (.istore 8, 2) := by decide +kernel
theorem d_B_recordCue_111 : decode b_B_recordCue 111 = .ok (.aload_n 0, 1) := by decide +kernel
theorem d_B_recordCue_112 : decode b_B_recordCue 112 = .ok (.invokevirtual 69, 3) := by decide +kernel
theorem d_B_recordCue_115 : decode b_B_recordCue 115 = .ok (.iload 8, 2) := by decide +kernel
theorem d_B_recordCue_117 : decode b_B_recordCue 117 = .ok (.iadd, 1) := by decide +kernel
theorem d_B_recordCue_118 : decode b_B_recordCue 118 = .ok (.sipush 600, 3) := by decide +kernel
theorem d_B_recordCue_121 : decode b_B_recordCue 121 = .ok (.if_icmp .le 5, 3) := by decide +kernel
theorem d_B_recordCue_124 : decode b_B_recordCue 124 = .ok (.iconst (-1), 1) := by decide +kernel
theorem d_B_recordCue_125 : decode b_B_recordCue 125 = .ok (.ireturn, 1) := by decide +kernel
theorem d_B_recordCue_126 : decode b_B_recordCue 126 = .ok (.iload 6, 2) := by decide +kernel
theorem d_B_recordCue_128 : decode b_B_recordCue 128 = .ok (.ifCond .eq 11, 3) := by decide +kernel
theorem d_B_recordCue_131 : decode b_B_recordCue 131 = .ok (.aload_n 0, 1) := by decide +kernel
theorem d_B_recordCue_132 : decode b_B_recordCue 132 = .ok (.iload 5, 2) := by decide +kernel
theorem d_B_recordCue_134 : decode b_B_recordCue 134 = .ok (.iload_n 2, 1) := by decide +kernel
theorem d_B_recordCue_135 : decode b_B_recordCue 135 = .ok (.iload_n 3, 1) := by decide +kernel
theorem d_B_recordCue_136 : decode b_B_recordCue 136 = .ok (.invokevirtual 73, 3) := by decide +kernel
theorem d_B_recordCue_139 : decode b_B_recordCue 139 = .ok (.iload 7, 2) := by decide +kernel
theorem d_B_recordCue_141 : decode b_B_recordCue 141 = .ok (.iconst (-1), 1) := by decide +kernel
theorem d_B_recordCue_142 : decode b_B_recordCue 142 = .ok (.if_icmp .eq 22, 3) := by decide +kernel
theorem d_B_recordCue_145 : decode b_B_recordCue 145 = .ok (.aload_n 0, 1) := by decide +kernel
theorem d_B_recordCue_146 : decode b_B_recordCue 146 = .ok (.iload 6, 2) := by decide +kernel
theorem d_B_recordCue_148 : decode b_B_recordCue 148 = .ok (.ifCond .eq 10, 3) := by decide +kernel
theorem d_B_recordCue_151 : decode b_B_recordCue 151 = .ok (.iload 7, 2) := by decide +kernel
theorem d_B_recordCue_153 : decode b_B_recordCue 153 = .ok (.iconst 1, 1) := by decide +kernel
theorem d_B_recordCue_154 : decode b_B_recordCue 154 = .ok (.iadd, 1) := by decide +kernel
theorem d_B_recordCue_155 : decode b_B_recordCue 155 = .ok (.goto 5, 3) := by decide +kernel
theorem d_B_recordCue_158 : decode b_B_recordCue 158 = .ok (.iload 7, 2) := by decide +kernel
theorem d_B_recordCue_160 : decode b_B_recordCue 160 = .ok (.aload_n 1, 1) := by decide +kernel
theorem d_B_recordCue_161 : decode b_B_recordCue 161 = .ok (.invokevirtual 77, 3) := by decide +kernel
theorem d_B_recordCue_164 : decode b_B_recordCue 164 = .ok (.aload_n 0, 1) := by decide +kernel
theorem d_B_recordCue_165 : decode b_B_recordCue 165 = .ok (.iload 5, 2) := by decide +kernel
theorem d_B_recordCue_167 : decode b_B_recordCue 167 = .ok (.aload_n 1, 1) := by decide +kernel
theorem d_B_recordCue_168 : decode b_B_recordCue 168 = .ok (.invokevirtual 81, 3) := by decide +kernel
theorem d_B_recordCue_171 : decode b_B_recordCue 171 = .ok (.aload_n 0, 1) := by decide +kernel
theorem d_B_recordCue_172 : decode b_B_recordCue 172 = .ok (.getfield 11, 3) := by decide +kernel
theorem d_B_recordCue_175 : decode b_B_recordCue 175 = .ok (.iload 5, 2) := by decide +kernel
theorem d_B_recordCue_177 : decode b_B_recordCue 177 = .ok (.aaload, 1) := by decide +kernel
theorem d_B_recordCue_178 : decode b_B_recordCue 178 = .ok (.getfield 22, 3) := by decide +kernel
theorem d_B_recordCue_181 : decode b_B_recordCue 181 = .ok (.getfield 26, 3) := by decide +kernel
theorem d_B_recordCue_184 : decode b_B_recordCue 184 = .ok (.ireturn, 1) := by decide +kernel
theorem d_B_updateSources_0 : decode b_B_updateSources 0 = .ok (.iconst 0, 1) := by decide +kernel
theorem d_B_updateSources_1 : decode b_B_updateSources 1 = .ok (.istore_n 3, 1) := by decide +kernel
theorem d_B_updateSources_2 : decode b_B_updateSources 2 = .ok (.iconst 0, 1) := by decide +kernel
theorem d_B_updateSources_3 : decode b_B_updateSources 3 = .ok (.istore 4, 2) := by decide +kernel
theorem d_B_updateSources_5 : decode b_B_updateSources 5 = .ok (.iload 4, 2) := by decide +kernel
theorem d_B_updateSources_7 : decode b_B_updateSources 7 = .ok (.bipush 64, 2) := by decide +kernel
theorem d_B_updateSources_9 : decode b_B_updateSources 9 = .ok (.if_icmp .ge 32, 3) := by decide +kernel
theorem d_B_updateSources_12 : decode b_B_updateSources 12 = .ok (.aload_n 1, 1) := by decide +kernel
theorem d_B_updateSources_13 : decode b_B_updateSources 13 = .ok (.iload 4, 2) := by decide +kernel
theorem d_B_updateSources_15 : decode b_B_updateSources 15 = .ok (.invokevirtual 49, 3) := by decide +kernel
theorem d_B_updateSources_18 : decode b_B_updateSources 18 = .ok (.ifCond .eq 17, 3) := by decide +kernel
theorem d_B_updateSources_21 : decode b_B_updateSources 21 = .ok (.aload_n 0, 1) := by decide +kernel
theorem d_B_updateSources_22 : decode b_B_updateSources 22 = .ok (.iload_n 2, 1) := by decide +kernel
theorem d_B_updateSources_23 : decode b_B_updateSources 23 = .ok (.iload 4, 2) := by decide +kernel
theorem d_B_updateSources_25 : decode b_B_updateSources 25 = .ok (.invokevirtual 53, 3) := by decide +kernel
theorem d_B_updateSources_28 : decode b_B_updateSources 28 = .ok (.iconst (-1), 1) := by decide +kernel
theorem d_B_updateSources_29 : decode b_B_updateSources 29 = .ok (.if_icmp .ne 6, 3) := by decide +kernel
theorem d_B_updateSources_32 : decode b_B_updateSources 32 = .ok (.iinc 3 1, 3) := by decide +kernel
theorem d_B_updateSources_35 : decode b_B_updateSources 35 = .ok (.iinc 4 1, 3) := by decide +kernel
theorem d_B_updateSources_38 : decode b_B_updateSources 38 = .ok (.goto (-33), 3) := by decide +kernel
theorem d_B_updateSources_41 : decode b_B_updateSources 41 = .ok (.aload_n 0, 1) := by decide +kernel
theorem d_B_updateSources_42 : decode b_B_updateSources 42 = .ok (.invokevirtual 69, 3) := by decide +kernel
theorem d_B_updateSources_45 : decode b_B_updateSources 45 = .ok (.iload_n 3, 1) := by decide +kernel
theorem d_B_updateSources_46 : decode b_B_updateSources 46 = .ok (.iadd, 1) := by decide +kernel
theorem d_B_updateSources_47 : decode b_B_updateSources 47 = .ok (.sipush 600, 3) := by decide +kernel
theorem d_B_updateSources_50 : decode b_B_updateSources 50 = .ok (.if_icmp .le 5, 3) := by decide +kernel
theorem d_B_updateSources_53 : decode b_B_updateSources 53 = .ok (.iconst (-1), 1) := by decide +kernel
theorem d_B_updateSources_54 : decode b_B_updateSources 54 = .ok (.ireturn, 1) := by decide +kernel
theorem d_B_updateSources_55 : decode b_B_updateSources 55 = .ok (.lconst 0, 1) := by decide +kernel
theorem d_B_updateSources_56 : decode b_B_updateSources 56 = .ok (.lstore 4, 2) := by decide +kernel
theorem d_B_updateSources_58 : decode b_B_updateSources 58 = .ok (.iconst 0, 1) := by decide +kernel
theorem d_B_updateSources_59 : decode b_B_updateSources 59 = .ok (.istore 6, 2) := by decide +kernel
theorem d_B_updateSources_61 : decode b_B_updateSources 61 = .ok (.iload 6, 2) := by decide +kernel
theorem d_B_updateSources_63 : decode b_B_updateSources 63 = .ok (.bipush 64, 2) := by decide +kernel
theorem d_B_updateSources_65 : decode b_B_updateSources 65 = .ok (.if_icmp .ge 71, 3) := by decide +kernel
theorem d_B_updateSources_68 : decode b_B_updateSources 68 = .ok (.aload_n 1, 1) := by decide +kernel
theorem d_B_updateSources_69 : decode b_B_updateSources 69 = .ok (.iload 6, 2) := by decide +kernel
theorem d_B_updateSources_71 : decode b_B_updateSources 71 = .ok (.invokevirtual 49, 3) := by decide +kernel
theorem d_B_updateSources_74 : decode b_B_updateSources 74 = .ok (.ifCond .eq 56, 3) := by decide +kernel
theorem d_B_updateSources_77 : decode b_B_updateSources 77 = .ok (.aload_n 0, 1) := by decide +kernel
theorem d_B_updateSources_78 : decode b_B_updateSources 78 = .ok (.iload_n 2, 1) := by decide +kernel
theorem d_B_updateSources_79 : decode b_B_updateSources 79 = .ok (.iload 6, 2) := by decide +kernel
theorem d_B_updateSources_81 : decode b_B_updateSources 81 = .ok (.invokevirtual 53, 3) := by decide +kernel
theorem d_B_updateSources_84 : decode b_B_updateSources 84 = .ok (.istore 7, 2) := by decide +kernel
theorem d_B_updateSources_86 : decode b_B_updateSources 86 = .ok (.iload 7, 2) := by decide +kernel
theorem d_B_updateSources_88 : decode b_B_updateSources 88 = .ok (.iconst (-1), 1) := by decide +kernel
theorem d_B_updateSources_89 : decode b_B_updateSources 89 = .ok (.if_icmp .ne 7, 3) := by decide +kernel
theorem d_B_updateSources_92 : decode b_B_updateSources 92 = .ok (.iload_n 2, 1) := by decide +kernel
theorem d_B_updateSources_93 : decode b_B_updateSources 93 = .ok (.goto 5, 3) := by decide +kernel
theorem d_B_updateSources_96 : decode b_B_updateSources 96 = .ok (.iload 7, 2) := by decide +kernel
theorem d_B_updateSources_98 : decode b_B_updateSources 98 = .ok (.istore 8, 2) := by decide +kernel
theorem d_B_updateSources_100 : decode b_B_updateSources 100 = .ok (.aload_n 0, 1) := by decide +kernel
theorem d_B_updateSources_101 : decode b_B_updateSources 101 = .ok (.getfield 11, 3) := by decide +kernel
theorem d_B_updateSources_104 : decode b_B_updateSources 104 = .ok (.iload 8, 2) := by decide +kernel
theorem d_B_updateSources_106 : decode b_B_updateSources 106 = .ok (.aaload, 1) := by decide +kernel
theorem d_B_updateSources_107 : decode b_B_updateSources 107 = .ok (.getfield 22, 3) := by decide +kernel
theorem d_B_updateSources_110 : decode b_B_updateSources 110 = .ok (.iload 6, 2) := by decide +kernel
theorem d_B_updateSources_112 : decode b_B_updateSources 112 = .ok (.aload_n 1, 1) := by decide +kernel
theorem d_B_updateSources_113 : decode b_B_updateSources 113 = .ok (.iload 6, 2) := by decide +kernel
theorem d_B_updateSources_115 : decode b_B_updateSources 115 = .ok (.invokevirtual 56, 3) := by decide +kernel
theorem d_B_updateSources_118 : decode b_B_updateSources 118 = .ok (.invokevirtual 84, 3) := by decide +kernel
theorem d_B_updateSources_121 : decode b_B_updateSources 121 = .ok (.lload 4, 2) := by decide +kernel
theorem d_B_updateSources_123 : decode b_B_updateSources 123 = .ok (.lconst 1, 1) := by decide +kernel
theorem d_B_updateSources_124 : decode b_B_updateSources 124 = .ok (.iload 8, 2) := by decide +kernel
theorem d_B_updateSources_126 : decode b_B_updateSources 126 = .ok (.lshl, 1) := by decide +kernel
theorem d_B_updateSources_127 : decode b_B_updateSources 127 = .ok (.lor, 1) := by decide +kernel
theorem d_B_updateSources_128 : decode b_B_updateSources 128 = .ok (.lstore 4, 2) := by decide +kernel
theorem d_B_updateSources_130 : decode b_B_updateSources 130 = .ok (.iinc 6 1, 3) := by decide +kernel
theorem d_B_updateSources_133 : decode b_B_updateSources 133 = .ok (.goto (-72), 3) := by decide +kernel
theorem d_B_updateSources_136 : decode b_B_updateSources 136 = .ok (.lload 4, 2) := by decide +kernel
theorem d_B_updateSources_138 : decode b_B_updateSources 138 = .ok (.invokestatic 88, 3) := by decide +kernel
theorem d_B_updateSources_141 : decode b_B_updateSources 141 = .ok (.ireturn, 1) := by decide +kernel
theorem d_B_deleteCue_0 : decode b_B_deleteCue 0 = .ok (.aload_n 0, 1) := by decide +kernel
theorem d_B_deleteCue_1 : decode b_B_deleteCue 1 = .ok (.getfield 11, 3) := by decide +kernel
theorem d_B_deleteCue_4 : decode b_B_deleteCue 4 = .ok (.iload_n 1, 1) := by decide +kernel
theorem d_B_deleteCue_5 : decode b_B_deleteCue 5 = .ok (.aaload, 1) := by decide +kernel
theorem d_B_deleteCue_6 : decode b_B_deleteCue 6 = .ok (.getfield 22, 3) := by decide +kernel
theorem d_B_deleteCue_9 : decode b_B_deleteCue 9 = .ok (.astore_n 3, 1) := by decide +kernel
theorem d_B_deleteCue_10 : decode b_B_deleteCue 10 = .ok (.aload_n 0, 1) := by decide +kernel
theorem d_B_deleteCue_11 : decode b_B_deleteCue 11 = .ok (.aload_n 0, 1) := by decide +kernel
theorem d_B_deleteCue_12 : decode b_B_deleteCue 12 = .ok (.getfield 11, 3) := by decide +kernel
theorem d_B_deleteCue_15 : decode b_B_deleteCue 15 = .ok (.iload_n 1, 1) := by decide +kernel
theorem d_B_deleteCue_16 : decode b_B_deleteCue 16 = .ok (.aaload, 1) := by decide +kernel
theorem d_B_deleteCue_17 : decode b_B_deleteCue 17 = .ok (.getfield 46, 3) := by decide +kernel
theorem d_B_deleteCue_20 : decode b_B_deleteCue 20 = .ok (.aload_n 0, 1) := by decide +kernel
theorem d_B_deleteCue_21 : decode b_B_deleteCue 21 = .ok (.getfield 11, 3) := by decide +kernel
theorem d_B_deleteCue_24 : decode b_B_deleteCue 24 = .ok (.iload_n 1, 1) := by decide +kernel
theorem d_B_deleteCue_25 : decode b_B_deleteCue 25 = .ok (.aaload, 1) := by decide +kernel
theorem d_B_deleteCue_26 : decode b_B_deleteCue 26 = .ok (.getfield 43, 3) := by decide +kernel
theorem d_B_deleteCue_29 : decode b_B_deleteCue 29 = .ok (.invokevirtual 62, 3) := by decide +kernel
theorem d_B_deleteCue_32 : decode b_B_deleteCue 32 = .ok (.istore 4, 2) := by decide +kernel
theorem d_B_deleteCue_34 : decode b_B_deleteCue 34 = .ok (.iload_n 2, 1) := by decide +kernel
theorem d_B_deleteCue_35 : decode b_B_deleteCue 35 = .ok (.ifCond .eq 16, 3) := by decide +kernel
theorem d_B_deleteCue_38 : decode b_B_deleteCue 38 = .ok (.iload 4, 2) := by decide +kernel
theorem d_B_deleteCue_40 : decode b_B_deleteCue 40 = .ok (.iconst (-1), 1) := by decide +kernel
theorem d_B_deleteCue_41 : decode b_B_deleteCue 41 = .ok (.if_icmp .eq 10, 3) := by decide +kernel
theorem d_B_deleteCue_44 : decode b_B_deleteCue 44 = .ok (.aload_n 0, 1) := by decide +kernel
theorem d_B_deleteCue_45 : decode b_B_deleteCue 45 = .ok (.iload 4, 2) := by decide +kernel
theorem d_B_deleteCue_47 : decode b_B_deleteCue 47 = .ok (.aload_n 3, 1) := by decide +kernel
theorem d_B_deleteCue_48 : decode b_B_deleteCue 48 = .ok (.invokevirtual 77, 3) := by decide +kernel
theorem d_B_deleteCue_51 : decode b_B_deleteCue 51 = .ok (.aload_n 0, 1) := by decide +kernel
theorem d_B_deleteCue_52 : decode b_B_deleteCue 52 = .ok (.iload_n 1, 1) := by decide +kernel
theorem d_B_deleteCue_53 : decode b_B_deleteCue 53 = .ok (.invokevirtual 94, 3) := by decide +kernel
theorem d_B_deleteCue_56 : decode b_B_deleteCue 56 = .ok (.aload_n 3, 1) := by decide +kernel
theorem d_B_deleteCue_57 : decode b_B_deleteCue 57 = .ok (.getfield 26, 3) := by decide +kernel
theorem d_B_deleteCue_60 : decode b_B_deleteCue 60 = .ok (.ireturn, 1) := by decide +kernel
theorem d_B_blockCue_0 : decode b_B_blockCue 0 = .ok (.aload_n 0, 1) := by decide +kernel
theorem d_B_blockCue_1 : decode b_B_blockCue 1 = .ok (.getfield 11, 3) := by decide +kernel
theorem d_B_blockCue_4 : decode b_B_blockCue 4 = .ok (.iload_n 1, 1) := by decide +kernel
theorem d_B_blockCue_5 : decode b_B_blockCue 5 = .ok (.aaload, 1) := by decide +kernel
theorem d_B_blockCue_6 : decode b_B_blockCue 6 = .ok (.getfield 22, 3) := by decide +kernel
theorem d_B_blockCue_9 : decode b_B_blockCue 9 = .ok (.astore_n 2, 1) := by decide +kernel
theorem d_B_blockCue_10 : decode b_B_blockCue 10 = .ok (.iconst 0, 1) := by decide +kernel
theorem d_B_blockCue_11 : decode b_B_blockCue 11 = .ok (.istore_n 3, 1) := by decide +kernel
theorem d_B_blockCue_12 : decode b_B_blockCue 12 = .ok (.iconst 0, 1) := by decide +kernel
theorem d_B_blockCue_13 : decode b_B_blockCue 13 = .ok (.istore 4, 2) := by decide +kernel
theorem d_B_blockCue_15 : decode b_B_blockCue 15 = .ok (.iload 4, 2) := by decide +kernel
theorem d_B_blockCue_17 : decode b_B_blockCue 17 = .ok (.bipush 64, 2) := by decide +kernel
theorem d_B_blockCue_19 : decode b_B_blockCue 19 = .ok (.if_icmp .ge 32, 3) := by decide +kernel
theorem d_B_blockCue_22 : decode b_B_blockCue 22 = .ok (.aload_n 2, 1) := by decide +kernel
theorem d_B_blockCue_23 : decode b_B_blockCue 23 = .ok (.iload 4, 2) := by decide +kernel
theorem d_B_blockCue_25 : decode b_B_blockCue 25 = .ok (.invokevirtual 49, 3) := by decide +kernel
theorem d_B_blockCue_28 : decode b_B_blockCue 28 = .ok (.ifCond .ne 17, 3) := by decide +kernel
theorem d_B_blockCue_31 : decode b_B_blockCue 31 = .ok (.aload_n 0, 1) := by decide +kernel
theorem d_B_blockCue_32 : decode b_B_blockCue 32 = .ok (.iload_n 1, 1) := by decide +kernel
theorem d_B_blockCue_33 : decode b_B_blockCue 33 = .ok (.iload 4, 2) := by decide +kernel
theorem d_B_blockCue_35 : decode b_B_blockCue 35 = .ok (.invokevirtual 53, 3) := by decide +kernel
theorem d_B_blockCue_38 : decode b_B_blockCue 38 = .ok (.iconst (-1), 1) := by decide +kernel
theorem d_B_blockCue_39 : decode b_B_blockCue 39 = .ok (.if_icmp .eq 6, 3) := by decide +kernel
theorem d_B_blockCue_42 : decode b_B_blockCue 42 = .ok (.iinc 3 1, 3) := by decide +kernel
theorem d_B_blockCue_45 : decode b_B_blockCue 45 = .ok (.iinc 4 1, 3) := by decide +kernel
theorem d_B_blockCue_48 : decode b_B_blockCue 48 = .ok (.goto (-33), 3) := by decide +kernel
theorem d_B_blockCue_51 : decode b_B_blockCue 51 = .ok (.aload_n 0, 1) := by decide +kernel
theorem d_B_blockCue_52 : decode b_B_blockCue 52 = .ok (.invokevirtual 69, 3) := by decide +kernel
theorem d_B_blockCue_55 : decode b_B_blockCue 55 = .ok (.iload_n 3, 1) := by decide +kernel
theorem d_B_blockCue_56 : decode b_B_blockCue 56 = .ok (.iadd, 1) := by decide +kernel
theorem d_B_blockCue_57 : decode b_B_blockCue 57 = .ok (.sipush 600, 3) := by decide +kernel
theorem d_B_blockCue_60 : decode b_B_blockCue 60 = .ok (.if_icmp .le 5, 3) := by decide +kernel
theorem d_B_blockCue_63 : decode b_B_blockCue 63 = .ok (.iconst (-1), 1) := by decide +kernel
theorem d_B_blockCue_64 : decode b_B_blockCue 64 = .ok (.ireturn, 1) := by decide +kernel
theorem d_B_blockCue_65 : decode b_B_blockCue 65 = .ok (.iconst 0, 1) := by decide +kernel
theorem d_B_blockCue_66 : decode b_B_blockCue 66 = .ok (.istore 4, 2) := by decide +kernel
theorem d_B_blockCue_68 : decode b_B_blockCue 68 = .ok (.iload 4, 2) := by decide +kernel
theorem d_B_blockCue_70 : decode b_B_blockCue 70 = .ok (.bipush 64, 2) := by decide +kernel
theorem d_B_blockCue_72 : decode b_B_blockCue 72 = .ok (.if_icmp .ge 32, 3) := by decide +kernel
theorem d_B_blockCue_75 : decode b_B_blockCue 75 = .ok (.aload_n 0, 1) := by decide +kernel
theorem d_B_blockCue_76 : decode b_B_blockCue 76 = .ok (.iload_n 1, 1) := by decide +kernel
theorem d_B_blockCue_77 : decode b_B_blockCue 77 = .ok (.iload 4, 2) := by decide +kernel
theorem d_B_blockCue_79 : decode b_B_blockCue 79 = .ok (.invokevirtual 98, 3) := by decide +kernel
theorem d_B_blockCue_82 : decode b_B_blockCue 82 = .ok (.istore 5, 2) := by decide +kernel
theorem d_B_blockCue_84 : decode b_B_blockCue 84 = .ok (.iload 5, 2) := by decide +kernel
theorem d_B_blockCue_86 : decode b_B_blockCue 86 = .ok (.iconst (-1), 1) := by decide +kernel
theorem d_B_blockCue_87 : decode b_B_blockCue 87 = .ok (.if_icmp .eq 11, 3) := by decide +kernel
theorem d_B_blockCue_90 : decode b_B_blockCue 90 = .ok (.aload_n 2, 1) := by decide +kernel
theorem d_B_blockCue_91 : decode b_B_blockCue 91 = .ok (.iload 4, 2) := by decide +kernel
theorem d_B_blockCue_93 : decode b_B_blockCue 93 = .ok (.iload 5, 2) := by decide +kernel
theorem d_B_blockCue_95 : decode b_B_blockCue 95 = .ok (.invokevirtual 84, 3) := by decide +kernel
theorem d_B_blockCue_98 : decode b_B_blockCue 98 = .ok (.iinc 4 1, 3) := by decide +kernel
theorem d_B_blockCue_101 : decode b_B_blockCue 101 = .ok (.goto (-33), 3) := by decide +kernel
theorem d_B_blockCue_104 : decode b_B_blockCue 104 = .ok (.aload_n 2, 1) := by decide +kernel
theorem d_B_blockCue_105 : decode b_B_blockCue 105 = .ok (.getfield 26, 3) := by decide +kernel
theorem d_B_blockCue_108 : decode b_B_blockCue 108 = .ok (.ireturn, 1) := by decide +kernel
theorem d_B_unblockCue_0 : decode b_B_unblockCue 0 = .ok (.aload_n 0, 1) := by decide +kernel
theorem d_B_unblockCue_1 : decode b_B_unblockCue 1 = .ok (.getfield 11, 3) := by decide +kernel
theorem d_B_unblockCue_4 : decode b_B_unblockCue 4 = .ok (.iload_n 1, 1) := by decide +kernel
theorem d_B_unblockCue_5 : decode b_B_unblockCue 5 = .ok (.aaload, 1) := by decide +kernel
theorem d_B_unblockCue_6 : decode b_B_unblockCue 6 = .ok (.getfield 22, 3) := by decide +kernel
theorem d_B_unblockCue_9 : decode b_B_unblockCue 9 = .ok (.astore_n 2, 1) := by decide +kernel
theorem d_B_unblockCue_10 : decode b_B_unblockCue 10 = .ok (.aload_n 0, 1) := by decide +kernel
theorem d_B_unblockCue_11 : decode b_B_unblockCue 11 = .ok (.aload_n 0, 1) := by decide +kernel
theorem d_B_unblockCue_12 : decode b_B_unblockCue 12 = .ok (.getfield 11, 3) := by decide +kernel
theorem d_B_unblockCue_15 : decode b_B_unblockCue 15 = .ok (.iload_n 1, 1) := by decide +kernel
theorem d_B_unblockCue_16 : decode b_B_unblockCue 16 = .ok (.aaload, 1) := by decide +kernel
theorem d_B_unblockCue_17 : decode b_B_unblockCue 17 = .ok (.getfield 46, 3) := by decide +kernel
theorem d_B_unblockCue_20 : decode b_B_unblockCue 20 = .ok (.aload_n 0, 1) := by decide +kernel
theorem d_B_unblockCue_21 : decode b_B_unblockCue 21 = .ok (.getfield 11, 3) := by decide +kernel
theorem d_B_unblockCue_24 : decode b_B_unblockCue 24 = .ok (.iload_n 1, 1) := by decide +kernel
theorem d_B_unblockCue_25 : decode b_B_unblockCue 25 = .ok (.aaload, 1) := by decide +kernel
theorem d_B_unblockCue_26 : decode b_B_unblockCue 26 = .ok (.getfield 43, 3) := by decide +kernel
theorem d_B_unblockCue_29 : decode b_B_unblockCue 29 = .ok (.invokevirtual 101, 3) := by decide +kernel
theorem d_B_unblockCue_32 : decode b_B_unblockCue 32 = .ok (.istore_n 3, 1) := by decide +kernel
theorem d_B_unblockCue_33 : decode b_B_unblockCue 33 = .ok (.iconst 0, 1) := by decide +kernel
theorem d_B_unblockCue_34 : decode b_B_unblockCue 34 = .ok (.istore 4, 2) := by decide +kernel
theorem d_B_unblockCue_36 : decode b_B_unblockCue 36 = .ok (.iload 4, 2) := by decide +kernel
theorem d_B_unblockCue_38 : decode b_B_unblockCue 38 = .ok (.bipush 64, 2) := by decide +kernel
theorem d_B_unblockCue_40 : decode b_B_unblockCue 40 = .ok (.if_icmp .ge 34, 3) := by decide +kernel
theorem d_B_unblockCue_43 : decode b_B_unblockCue 43 = .ok (.aload_n 2, 1) := by decide +kernel
theorem d_B_unblockCue_44 : decode b_B_unblockCue 44 = .ok (.iload 4, 2) := by decide +kernel
theorem d_B_unblockCue_46 : decode b_B_unblockCue 46 = .ok (.invokevirtual 56, 3) := by decide +kernel
theorem d_B_unblockCue_49 : decode b_B_unblockCue 49 = .ok (.aload_n 0, 1) := by decide +kernel
theorem d_B_unblockCue_50 : decode b_B_unblockCue 50 = .ok (.iload_n 3, 1) := by decide +kernel
theorem d_B_unblockCue_51 : decode b_B_unblockCue 51 = .ok (.iload 4, 2) := by decide +kernel
theorem d_B_unblockCue_53 : decode b_B_unblockCue 53 = .ok (.invokevirtual 98, 3) := by decide +kernel
theorem d_B_unblockCue_56 : decode b_B_unblockCue 56 = .ok (.invokestatic 104, 3) := by decide +kernel
theorem d_B_unblockCue_59 : decode b_B_unblockCue 59 = .ok (.if_icmp .ne 9, 3) := by decide +kernel
theorem d_B_unblockCue_62 : decode b_B_unblockCue 62 = .ok (.aload_n 2, 1) := by decide +kernel
theorem d_B_unblockCue_63 : decode b_B_unblockCue 63 = .ok (.iload 4, 2) := by decide +kernel
theorem d_B_unblockCue_65 : decode b_B_unblockCue 65 = .ok (.invokevirtual 107, 3) := by decide +kernel
theorem d_B_unblockCue_68 : decode b_B_unblockCue 68 = .ok (.iinc 4 1, 3) := by decide +kernel
theorem d_B_unblockCue_71 : decode b_B_unblockCue 71 = .ok (.goto (-35), 3) := by decide +kernel
theorem d_B_unblockCue_74 : decode b_B_unblockCue 74 = .ok (.aload_n 2, 1) := by decide +kernel
theorem d_B_unblockCue_75 : decode b_B_unblockCue 75 = .ok (.getfield 26, 3) := by decide +kernel
theorem d_B_unblockCue_78 : decode b_B_unblockCue 78 = .ok (.ireturn, 1) := by decide +kernel
theorem d_B_keepChannels_0 : decode b_B_keepChannels 0 = .ok (.aload_n 0, 1) := by decide +kernel
theorem d_B_keepChannels_1 : decode b_B_keepChannels 1 = .ok (.getfield 11, 3) := by decide +kernel
theorem d_B_keepChannels_4 : decode b_B_keepChannels 4 = .ok (.iload_n 1, 1) := by decide +kernel
theorem d_B_keepChannels_5 : decode b_B_keepChannels 5 = .ok (.aaload, 1) := by decide +kernel
theorem d_B_keepChannels_6 : decode b_B_keepChannels 6 = .ok (.getfield 22, 3) := by decide +kernel
theorem d_B_keepChannels_9 : decode b_B_keepChannels 9 = .ok (.astore_n 3, 1) := by decide +kernel
theorem d_B_keepChannels_10 : decode b_B_keepChannels 10 = .ok (.iconst 0, 1) := by decide +kernel
theorem d_B_keepChannels_11 : decode b_B_keepChannels 11 = .ok (.istore 4, 2) := by decide +kernel
theorem d_B_keepChannels_13 : decode b_B_keepChannels 13 = .ok (.iload 4, 2) := by decide +kernel
theorem d_B_keepChannels_15 : decode b_B_keepChannels 15 = .ok (.bipush 64, 2) := by decide +kernel
theorem d_B_keepChannels_17 : decode b_B_keepChannels 17 = .ok (.if_icmp .ge 43, 3) := by decide +kernel
theorem d_B_keepChannels_20 : decode b_B_keepChannels 20 = .ok (.aload_n 2, 1) := by decide +kernel
theorem d_B_keepChannels_21 : decode b_B_keepChannels 21 = .ok (.iload 4, 2) := by decide +kernel
theorem d_B_keepChannels_23 : decode b_B_keepChannels 23 = .ok (.invokevirtual 49, 3) := by decide +kernel
theorem d_B_keepChannels_26 : decode b_B_keepChannels 26 = .ok (.ifCond .eq 28, 3) := by decide +kernel
theorem d_B_keepChannels_29 : decode b_B_keepChannels 29 = .ok (.aload_n 3, 1) := by decide +kernel
theorem d_B_keepChannels_30 : decode b_B_keepChannels 30 = .ok (.iload 4, 2) := by decide +kernel
theorem d_B_keepChannels_32 : decode b_B_keepChannels 32 = .ok (.invokevirtual 49, 3) := by decide +kernel
theorem d_B_keepChannels_35 : decode b_B_keepChannels 35 = .ok (.ifCond .ne 19, 3) := by decide +kernel
theorem d_B_keepChannels_38 : decode b_B_keepChannels 38 = .ok (.aload_n 3, 1) := by decide +kernel
theorem d_B_keepChannels_39 : decode b_B_keepChannels 39 = .ok (.iload 4, 2) := by decide +kernel
theorem d_B_keepChannels_41 : decode b_B_keepChannels 41 = .ok (.aload_n 0, 1) := by decide +kernel
theorem d_B_keepChannels_42 : decode b_B_keepChannels 42 = .ok (.iload_n 1, 1) := by decide +kernel
theorem d_B_keepChannels_43 : decode b_B_keepChannels 43 = .ok (.iload 4, 2) := by decide +kernel
theorem d_B_keepChannels_45 : decode b_B_keepChannels 45 = .ok (.invokevirtual 98, 3) := by decide +kernel
theorem d_B_keepChannels_48 : decode b_B_keepChannels 48 = .ok (.invokestatic 104, 3) := by decide +kernel
theorem d_B_keepChannels_51 : decode b_B_keepChannels 51 = .ok (.invokevirtual 84, 3) := by decide +kernel
theorem d_B_keepChannels_54 : decode b_B_keepChannels 54 = .ok (.iinc 4 1, 3) := by decide +kernel
theorem d_B_keepChannels_57 : decode b_B_keepChannels 57 = .ok (.goto (-44), 3) := by decide +kernel
theorem d_B_keepChannels_60 : decode b_B_keepChannels 60 = .ok (.return_, 1) := by decide +kernel
theorem d_B_putAll_0 : decode b_B_putAll 0 = .ok (.iconst 0, 1) := by decide +kernel
theorem d_B_putAll_1 : decode b_B_putAll 1 = .ok (.istore_n 3, 1) := by decide +kernel
theorem d_B_putAll_2 : decode b_B_putAll 2 = .ok (.iload_n 3, 1) := by decide +kernel
theorem d_B_putAll_3 : decode b_B_putAll 3 = .ok (.bipush 64, 2) := by decide +kernel
theorem d_B_putAll_5 : decode b_B_putAll 5 = .ok (.if_icmp .ge 35, 3) := by decide +kernel
theorem d_B_putAll_8 : decode b_B_putAll 8 = .ok (.aload_n 2, 1) := by decide +kernel
theorem d_B_putAll_9 : decode b_B_putAll 9 = .ok (.iload_n 3, 1) := by decide +kernel
theorem d_B_putAll_10 : decode b_B_putAll 10 = .ok (.invokevirtual 49, 3) := by decide +kernel
theorem d_B_putAll_13 : decode b_B_putAll 13 = .ok (.ifCond .eq 21, 3) := by decide +kernel
theorem d_B_putAll_16 : decode b_B_putAll 16 = .ok (.aload_n 0, 1) := by decide +kernel
theorem d_B_putAll_17 : decode b_B_putAll 17 = .ok (.getfield 11, 3) := by decide +kernel
theorem d_B_putAll_20 : decode b_B_putAll 20 = .ok (.iload_n 1, 1) := by decide +kernel
theorem d_B_putAll_21 : decode b_B_putAll 21 = .ok (.aaload, 1) := by decide +kernel
theorem d_B_putAll_22 : decode b_B_putAll 22 = .ok (.getfield 22, 3) := by decide +kernel
theorem d_B_putAll_25 : decode b_B_putAll 25 = .ok (.iload_n 3, 1) := by decide +kernel
theorem d_B_putAll_26 : decode b_B_putAll 26 = .ok (.aload_n 2, 1) := by decide +kernel
theorem d_B_putAll_27 : decode b_B_putAll 27 = .ok (.iload_n 3, 1) := by decide +kernel
theorem d_B_putAll_28 : decode b_B_putAll 28 = .ok (.invokevirtual 56, 3) := by decide +kernel
theorem d_B_putAll_31 : decode b_B_putAll 31 = .ok (.invokevirtual 84, 3) := by decide +kernel
theorem d_B_putAll_34 : decode b_B_putAll 34 = .ok (.iinc 3 1, 3) := by decide +kernel
theorem d_B_putAll_37 : decode b_B_putAll 37 = .ok (.goto (-35), 3) := by decide +kernel
theorem d_B_putAll_40 : decode b_B_putAll 40 = .ok (.return_, 1) := by decide +kernel
theorem d_B_orUnset_0 : decode b_B_orUnset 0 = .ok (.iload_n 0, 1) := by decide +kernel
theorem d_B_orUnset_1 : decode b_B_orUnset 1 = .ok (.iconst (-1), 1) := by decide +kernel
theorem d_B_orUnset_2 : decode b_B_orUnset 2 = .ok (.if_icmp .ne 9, 3) := by decide +kernel
theorem d_B_orUnset_5 : decode b_B_orUnset 5 = .ok (.sipush 272, 3) := by decide +kernel
theorem d_B_orUnset_8 : decode b_B_orUnset 8 = .ok (.goto 4, 3) := by decide +kernel
theorem d_B_orUnset_11 : decode b_B_orUnset 11 = .ok (.iload_n 0, 1) := by decide +kernel
theorem d_B_orUnset_12 : decode b_B_orUnset 12 = .ok (.ireturn, 1) := by decide +kernel
theorem d_B_isIn_0 : decode b_B_isIn 0 = .ok (.iload_n 1, 1) := by decide +kernel
theorem d_B_isIn_1 : decode b_B_isIn 1 = .ok (.ifCond .lt 28, 3) := by decide +kernel
theorem d_B_isIn_4 : decode b_B_isIn 4 = .ok (.iload_n 1, 1) := by decide +kernel
theorem d_B_isIn_5 : decode b_B_isIn 5 = .ok (.aload_n 0, 1) := by decide +kernel
theorem d_B_isIn_6 : decode b_B_isIn 6 = .ok (.getfield 17, 3) := by decide +kernel
theorem d_B_isIn_9 : decode b_B_isIn 9 = .ok (.if_icmp .ge 20, 3) := by decide +kernel
theorem d_B_isIn_12 : decode b_B_isIn 12 = .ok (.aload_n 0, 1) := by decide +kernel
theorem d_B_isIn_13 : decode b_B_isIn 13 = .ok (.getfield 11, 3) := by decide +kernel
theorem d_B_isIn_16 : decode b_B_isIn 16 = .ok (.iload_n 1, 1) := by decide +kernel
theorem d_B_isIn_17 : decode b_B_isIn 17 = .ok (.aaload, 1) := by decide +kernel
theorem d_B_isIn_18 : decode b_B_isIn 18 = .ok (.getfield 46, 3) := by decide +kernel
theorem d_B_isIn_21 : decode b_B_isIn 21 = .ok (.iload_n 2, 1) := by decide +kernel
theorem d_B_isIn_22 : decode b_B_isIn 22 = .ok (.if_icmp .ne 7, 3) := by decide +kernel
theorem d_B_isIn_25 : decode b_B_isIn 25 = .ok (.iconst 1, 1) := by decide +kernel
theorem d_B_isIn_26 : decode b_B_isIn 26 = .ok (.goto 4, 3) := by decide +kernel
theorem d_B_isIn_29 : decode b_B_isIn 29 = .ok (.iconst 0, 1) := by decide +kernel
theorem d_B_isIn_30 : decode b_B_isIn 30 = .ok (.ireturn, 1) := by decide +kernel
theorem d_B_placeFor_0 : decode b_B_placeFor 0 = .ok (.iconst 0, 1) := by decide +kernel
theorem d_B_placeFor_1 : decode b_B_placeFor 1 = .ok (.istore_n 3, 1) := by decide +kernel
theorem d_B_placeFor_2 : decode b_B_placeFor 2 = .ok (.iload_n 3, 1) := by decide +kernel
theorem d_B_placeFor_3 : decode b_B_placeFor 3 = .ok (.aload_n 0, 1) := by decide +kernel
theorem d_B_placeFor_4 : decode b_B_placeFor 4 = .ok (.getfield 17, 3) := by decide +kernel
theorem d_B_placeFor_7 : decode b_B_placeFor 7 = .ok (.if_icmp .ge 23, 3) := by decide +kernel
theorem d_B_placeFor_10 : decode b_B_placeFor 10 = .ok (.aload_n 0, 1) := by decide +kernel
theorem d_B_placeFor_11 : decode b_B_placeFor 11 = .ok (.getfield 11, 3) := by decide +kernel
theorem d_B_placeFor_14 : decode b_B_placeFor 14 = .ok (.iload_n 3, 1) := by decide +kernel
theorem d_B_placeFor_15 : decode b_B_placeFor 15 = .ok (.aaload, 1) := by decide +kernel
theorem d_B_placeFor_16 : decode b_B_placeFor 16 = .ok (.iload_n 1, 1) := by decide +kernel
theorem d_B_placeFor_17 : decode b_B_placeFor 17 = .ok (.iload_n 2, 1) := by decide +kernel
theorem d_B_placeFor_18 : decode b_B_placeFor 18 = .ok (.invokevirtual 110, 3) := by decide +kernel
theorem d_B_placeFor_21 : decode b_B_placeFor 21 = .ok (.ifCond .eq 9, 3) := by decide +kernel
theorem d_B_placeFor_24 : decode b_B_placeFor 24 = .ok (.iinc 3 1, 3) := by decide +kernel
theorem d_B_placeFor_27 : decode b_B_placeFor 27 = .ok (.goto (-25), 3) := by decide +kernel
theorem d_B_placeFor_30 : decode b_B_placeFor 30 = .ok (.iload_n 3, 1) := by decide +kernel
theorem d_B_placeFor_31 : decode b_B_placeFor 31 = .ok (.ireturn, 1) := by decide +kernel
theorem d_B_insert_0 : decode b_B_insert 0 = .ok (.aload_n 0, 1) := by decide +kernel
theorem d_B_insert_1 : decode b_B_insert 1 = .ok (.getfield 11, 3) := by decide +kernel
theorem d_B_insert_4 : decode b_B_insert 4 = .ok (.aload_n 0, 1) := by decide +kernel
theorem d_B_insert_5 : decode b_B_insert 5 = .ok (.getfield 17, 3) := by decide +kernel
theorem d_B_insert_8 : decode b_B_insert 8 = .ok (.aaload, 1) := by decide +kernel
theorem d_B_insert_9 : decode b_B_insert 9 = .ok (.astore 4, 2) := by decide +kernel
theorem d_B_insert_11 : decode b_B_insert 11 = .ok (.aload_n 0, 1) := by decide +kernel
theorem d_B_insert_12 : decode b_B_insert 12 = .ok (.getfield 17, 3) := by decide +kernel
theorem d_B_insert_15 : decode b_B_insert 15 = .ok (.istore 5, 2) := by decide +kernel
theorem d_B_insert_17 : decode b_B_insert 17 = .ok (.iload 5, 2) := by decide +kernel
theorem d_B_insert_19 : decode b_B_insert 19 = .ok (.iload_n 1, 1) := by decide +kernel
theorem d_B_insert_20 : decode b_B_insert 20 = .ok (.if_icmp .le 25, 3) := by decide +kernel
theorem d_B_insert_23 : decode b_B_insert 23 = .ok (.aload_n 0, 1) := by decide +kernel
theorem d_B_insert_24 : decode b_B_insert 24 = .ok (.getfield 11, 3) := by decide +kernel
theorem d_B_insert_27 : decode b_B_insert 27 = .ok (.iload 5, 2) := by decide +kernel
theorem d_B_insert_29 : decode b_B_insert 29 = .ok (.aload_n 0, 1) := by decide +kernel
theorem d_B_insert_30 : decode b_B_insert 30 = .ok (.getfield 11, 3) := by decide +kernel
theorem d_B_insert_33 : decode b_B_insert 33 = .ok (.iload 5, 2) := by decide +kernel
theorem d_B_insert_35 : decode b_B_insert 35 = .ok (.iconst 1, 1) := by decide +kernel
theorem d_B_insert_36 : decode b_B_insert 36 = .ok (.isub, 1) := by decide +kernel
theorem d_B_insert_37 : decode b_B_insert 37 = .ok (.aaload, 1) := by decide +kernel
theorem d_B_insert_38 : decode b_B_insert 38 = .ok (.aastore, 1) := by decide +kernel
theorem d_B_insert_39 : decode b_B_insert 39 = .ok (.iinc 5 (-1), 3) := by decide +kernel
theorem d_B_insert_42 : decode b_B_insert 42 = .ok (.goto (-25), 3) := by decide +kernel
theorem d_B_insert_45 : decode b_B_insert 45 = .ok (.aload_n 0, 1) := by decide +kernel
theorem d_B_insert_46 : decode b_B_insert 46 = .ok (.getfield 11, 3) := by decide +kernel
theorem d_B_insert_49 : decode b_B_insert 49 = .ok (.iload_n 1, 1) := by decide +kernel
theorem d_B_insert_50 : decode b_B_insert 50 = .ok (.aload 4, 2) := by decide +kernel
theorem d_B_insert_52 : decode b_B_insert 52 = .ok (.aastore, 1) := by decide +kernel
theorem d_B_insert_53 : decode b_B_insert 53 = .ok (.aload_n 0, 1) := by decide +kernel
theorem d_B_insert_54 : decode b_B_insert 54 = .ok (.dup, 1) := by decide +kernel
theorem d_B_insert_55 : decode b_B_insert 55 = .ok (.getfield 17, 3) := by decide +kernel
theorem d_B_insert_58 : decode b_B_insert 58 = .ok (.iconst 1, 1) := by decide +kernel
theorem d_B_insert_59 : decode b_B_insert 59 = .ok (.iadd, 1) := by decide +kernel
theorem d_B_insert_60 : decode b_B_insert 60 = .ok (.putfield 17, 3) := by decide +kernel
theorem d_B_insert_63 : decode b_B_insert 63 = .ok (.aload 4, 2) := by decide +kernel
theorem d_B_insert_65 : decode b_B_insert 65 = .ok (.iload_n 2, 1) := by decide +kernel
theorem d_B_insert_66 : decode b_B_insert 66 = .ok (.iload_n 3, 1) := by decide +kernel
theorem d_B_insert_67 : decode b_B_insert 67 = .ok (.invokevirtual 113, 3) := by decide +kernel
theorem d_B_insert_70 : decode b_B_insert 70 = .ok (.return_, 1) := by decide +kernel
theorem d_B_takeOut_0 : decode b_B_takeOut 0 = .ok (.aload_n 0, 1) := by decide +kernel
theorem d_B_takeOut_1 : decode b_B_takeOut 1 = .ok (.getfield 11, 3) := by decide +kernel
theorem d_B_takeOut_4 : decode b_B_takeOut 4 = .ok (.iload_n 1, 1) := by decide +kernel
theorem d_B_takeOut_5 : decode b_B_takeOut 5 = .ok (.aaload, 1) := by decide +kernel
theorem d_B_takeOut_6 : decode b_B_takeOut 6 = .ok (.astore_n 2, 1) := by decide +kernel
theorem d_B_takeOut_7 : decode b_B_takeOut 7 = .ok (.aload_n 0, 1) := by decide +kernel
theorem d_B_takeOut_8 : decode b_B_takeOut 8 = .ok (.dup, 1) := by decide +kernel
theorem d_B_takeOut_9 : decode b_B_takeOut 9 = .ok (.getfield 17, 3) := by decide +kernel
theorem d_B_takeOut_12 : decode b_B_takeOut 12 = .ok (.iconst 1, 1) := by decide +kernel
theorem d_B_takeOut_13 : decode b_B_takeOut 13 = .ok (.isub, 1) := by decide +kernel
theorem d_B_takeOut_14 : decode b_B_takeOut 14 = .ok (.putfield 17, 3) := by decide +kernel
theorem d_B_takeOut_17 : decode b_B_takeOut 17 = .ok (.iload_n 1, 1) := by decide +kernel
theorem d_B_takeOut_18 : decode b_B_takeOut 18 = .ok (.istore_n 3, 1) := by decide +kernel
theorem d_B_takeOut_19 : decode b_B_takeOut 19 = .ok (.iload_n 3, 1) := by decide +kernel
theorem d_B_takeOut_20 : decode b_B_takeOut 20 = .ok (.aload_n 0, 1) := by decide +kernel
theorem d_B_takeOut_21 : decode b_B_takeOut 21 = .ok (.getfield 17, 3) := by decide +kernel
theorem d_B_takeOut_24 : decode b_B_takeOut 24 = .ok (.if_icmp .ge 23, 3) := by decide +kernel
theorem d_B_takeOut_27 : decode b_B_takeOut 27 = .ok (.aload_n 0, 1) := by decide +kernel
theorem d_B_takeOut_28 : decode b_B_takeOut 28 = .ok (.getfield 11, 3) := by decide +kernel
theorem d_B_takeOut_31 : decode b_B_takeOut 31 = .ok (.iload_n 3, 1) := by decide +kernel
theorem d_B_takeOut_32 : decode b_B_takeOut 32 = .ok (.aload_n 0, 1) := by decide +kernel
theorem d_B_takeOut_33 : decode b_B_takeOut 33 = .ok (.getfield 11, 3) := by decide +kernel
theorem d_B_takeOut_36 : decode b_B_takeOut 36 = .ok (.iload_n 3, 1) := by decide +kernel
theorem d_B_takeOut_37 : decode b_B_takeOut 37 = .ok (.iconst 1, 1) := by decide +kernel
theorem d_B_takeOut_38 : decode b_B_takeOut 38 = .ok (.iadd, 1) := by decide +kernel
theorem d_B_takeOut_39 : decode b_B_takeOut 39 = .ok (.aaload, 1) := by decide +kernel
theorem d_B_takeOut_40 : decode b_B_takeOut 40 = .ok (.aastore, 1) := by decide +kernel
theorem d_B_takeOut_41 : decode b_B_takeOut 41 = .ok (.iinc 3 1, 3) := by decide +kernel
theorem d_B_takeOut_44 : decode b_B_takeOut 44 = .ok (.goto (-25), 3) := by decide +kernel
theorem d_B_takeOut_47 : decode b_B_takeOut 47 = .ok (.aload_n 0, 1) := by decide +kernel
theorem d_B_takeOut_48 : decode b_B_takeOut 48 = .ok (.getfield 11, 3) := by decide +kernel
theorem d_B_takeOut_51 : decode b_B_takeOut 51 = .ok (.aload_n 0, 1) := by decide +kernel
theorem d_B_takeOut_52 : decode b_B_takeOut 52 = .ok (.getfield 17, 3) := by decide +kernel
theorem d_B_takeOut_55 : decode b_B_takeOut 55 = .ok (.aload_n 2, 1) := by decide +kernel
theorem d_B_takeOut_56 : decode b_B_takeOut 56 = .ok (.aastore, 1) := by decide +kernel
theorem d_B_takeOut_57 : decode b_B_takeOut 57 = .ok (.return_, 1) := by decide +kernel
theorem d_P_init_0 : decode b_P_init 0 = .ok (.aload_n 0, 1) := by decide +kernel
theorem d_P_init_1 : decode b_P_init 1 = .ok (.invokespecial 3, 3) := by decide +kernel
theorem d_P_init_4 : decode b_P_init 4 = .ok (.aload_n 0, 1) := by decide +kernel
theorem d_P_init_5 : decode b_P_init 5 = .ok (.sipush 1024, 3) := by decide +kernel
theorem d_P_init_8 : decode b_P_init 8 = .ok (.newarray .int, 2) := by decide +kernel
theorem d_P_init_10 : decode b_P_init 10 = .ok (.putfield 9, 3) := by decide +kernel
theorem d_P_init_13 : decode b_P_init 13 = .ok (.aload_n 0, 1) := by decide +kernel
theorem d_P_init_14 : decode b_P_init 14 = .ok (.getfield 9, 3) := by decide +kernel
theorem d_P_init_17 : decode b_P_init 17 = .ok (.iconst (-1), 1) := by decide +kernel
theorem d_P_init_18 : decode b_P_init 18 = .ok (.invokestatic 15, 3) := by decide +kernel
theorem d_P_init_21 : decode b_P_init 21 = .ok (.return_, 1) := by decide +kernel
theorem d_P_store_0 : decode b_P_store 0 = .ok (.aload_n 0, 1) := by decide +kernel
theorem d_P_store_1 : decode b_P_store 1 = .ok (.getfield 9, 3) := by decide +kernel
theorem d_P_store_4 : decode b_P_store 4 = .ok (.iload_n 1, 1) := by decide +kernel
theorem d_P_store_5 : decode b_P_store 5 = .ok (.bipush 64, 2) := by decide +kernel
theorem d_P_store_7 : decode b_P_store 7 = .ok (.imul, 1) := by decide +kernel
theorem d_P_store_8 : decode b_P_store 8 = .ok (.iload_n 2, 1) := by decide +kernel
theorem d_P_store_9 : decode b_P_store 9 = .ok (.iadd, 1) := by decide +kernel
theorem d_P_store_10 : decode b_P_store 10 = .ok (.iload_n 3, 1) := by decide +kernel
theorem d_P_store_11 : decode b_P_store 11 = .ok (.iastore, 1) := by decide +kernel
theorem d_P_store_12 : decode b_P_store 12 = .ok (.return_, 1) := by decide +kernel
theorem d_P_levelOf_0 : decode b_P_levelOf 0 = .ok (.iload_n 1, 1) := by decide +kernel
theorem d_P_levelOf_1 : decode b_P_levelOf 1 = .ok (.ifCond .lt 10, 3) := by decide +kernel
theorem d_P_levelOf_4 : decode b_P_levelOf 4 = .ok (.iload_n 1, 1) := by decide +kernel
theorem d_P_levelOf_5 : decode b_P_levelOf 5 = .ok (.sipush 272, 3) := by decide +kernel
theorem d_P_levelOf_8 : decode b_P_levelOf 8 = .ok (.if_icmp .lt 5, 3) := by decide +kernel
theorem d_P_levelOf_11 : decode b_P_levelOf 11 = .ok (.iconst (-1), 1) := by decide +kernel
theorem d_P_levelOf_12 : decode b_P_levelOf 12 = .ok (.ireturn, 1) := by decide +kernel
theorem d_P_levelOf_13 : decode b_P_levelOf 13 = .ok (.iload_n 1, 1) := by decide +kernel
theorem d_P_levelOf_14 : decode b_P_levelOf 14 = .ok (.sipush 256, 3) := by decide +kernel
theorem d_P_levelOf_17 : decode b_P_levelOf 17 = .ok (.if_icmp .ge 5, 3) := by decide +kernel
theorem d_P_levelOf_20 : decode b_P_levelOf 20 = .ok (.iload_n 1, 1) := by decide +kernel
theorem d_P_levelOf_21 : decode b_P_levelOf 21 = .ok (.ireturn, 1) := by decide +kernel
theorem d_P_levelOf_22 : decode b_P_levelOf 22 = .ok (.aload_n 0, 1) := by decide +kernel
theorem d_P_levelOf_23 : decode b_P_levelOf 23 = .ok (.getfield 9, 3) := by decide +kernel
theorem d_P_levelOf_26 : decode b_P_levelOf 26 = .ok (.iload_n 1, 1) := by decide +kernel
theorem d_P_levelOf_27 : decode b_P_levelOf 27 = .ok (.sipush 256, 3) := by decide +kernel
theorem d_P_levelOf_30 : decode b_P_levelOf 30 = .ok (.isub, 1) := by decide +kernel
theorem d_P_levelOf_31 : decode b_P_levelOf 31 = .ok (.bipush 64, 2) := by decide +kernel
theorem d_P_levelOf_33 : decode b_P_levelOf 33 = .ok (.imul, 1) := by decide +kernel
theorem d_P_levelOf_34 : decode b_P_levelOf 34 = .ok (.iload_n 2, 1) := by decide +kernel
theorem d_P_levelOf_35 : decode b_P_levelOf 35 = .ok (.iadd, 1) := by decide +kernel
theorem d_P_levelOf_36 : decode b_P_levelOf 36 = .ok (.iaload, 1) := by decide +kernel
theorem d_P_levelOf_37 : decode b_P_levelOf 37 = .ok (.ireturn, 1) := by decide +kernel
theorem d_Y_init_0 : decode b_Y_init 0 = .ok (.aload_n 0, 1) := by decide +kernel
theorem d_Y_init_1 : decode b_Y_init 1 = .ok (.invokespecial 3, 3) := by decide +kernel
theorem d_Y_init_4 : decode b_Y_init 4 = .ok (.aload_n 0, 1) := by decide +kernel
theorem d_Y_init_5 : decode b_Y_init 5 = .ok (.bipush 64, 2) := by decide +kernel
theorem d_Y_init_7 : decode b_Y_init 7 = .ok (.newarray .int, 2) := by decide +kernel
theorem d_Y_init_9 : decode b_Y_init 9 = .ok (.putfield 9, 3) := by decide +kernel
theorem d_Y_init_12 : decode b_Y_init 12 = .ok (.aload_n 0, 1) := by decide +kernel
theorem d_Y_init_13 : decode b_Y_init 13 = .ok (.bipush 64, 2) := by decide +kernel
theorem d_Y_init_15 : decode b_Y_init 15 = .ok (.newarray .int, 2) := by decide +kernel
theorem d_Y_init_17 : decode b_Y_init 17 = .ok (.putfield 15, 3) := by decide +kernel
theorem d_Y_init_20 : decode b_Y_init 20 = .ok (.aload_n 0, 1) := by decide +kernel
theorem d_Y_init_21 : decode b_Y_init 21 = .ok (.bipush 64, 2) := by decide +kernel
theorem d_Y_init_23 : decode b_Y_init 23 = .ok (.newarray .int, 2) := by decide +kernel
theorem d_Y_init_25 : decode b_Y_init 25 = .ok (.putfield 18, 3) := by decide +kernel
theorem d_Y_init_28 : decode b_Y_init 28 = .ok (.aload_n 0, 1) := by decide +kernel
theorem d_Y_init_29 : decode b_Y_init 29 = .ok (.bipush 64, 2) := by decide +kernel
theorem d_Y_init_31 : decode b_Y_init 31 = .ok (.newarray .int, 2) := by decide +kernel
theorem d_Y_init_33 : decode b_Y_init 33 = .ok (.putfield 21, 3) := by decide +kernel
theorem d_Y_init_36 : decode b_Y_init 36 = .ok (.aload_n 0, 1) := by decide +kernel
theorem d_Y_init_37 : decode b_Y_init 37 = .ok (.bipush 64, 2) := by decide +kernel
theorem d_Y_init_39 : decode b_Y_init 39 = .ok (.newarray .int, 2) := by decide +kernel
theorem d_Y_init_41 : decode b_Y_init 41 = .ok (.putfield 24, 3) := by decide +kernel
theorem d_Y_init_44 : decode b_Y_init 44 = .ok (.aload_n 0, 1) := by decide +kernel
theorem d_Y_init_45 : decode b_Y_init 45 = .ok (.iconst (-1), 1) := by decide +kernel
theorem d_Y_init_46 : decode b_Y_init 46 = .ok (.putfield 27, 3) := by decide +kernel
theorem d_Y_init_49 : decode b_Y_init 49 = .ok (.aload_n 0, 1) := by decide +kernel
theorem d_Y_init_50 : decode b_Y_init 50 = .ok (.sipush 255, 3) := by decide +kernel
theorem d_Y_init_53 : decode b_Y_init 53 = .ok (.putfield 31, 3) := by decide +kernel
theorem d_Y_init_56 : decode b_Y_init 56 = .ok (.aload_n 0, 1) := by decide +kernel
theorem d_Y_init_57 : decode b_Y_init 57 = .ok (.iconst 0, 1) := by decide +kernel
theorem d_Y_init_58 : decode b_Y_init 58 = .ok (.putfield 34, 3) := by decide +kernel
theorem d_Y_init_61 : decode b_Y_init 61 = .ok (.aload_n 0, 1) := by decide +kernel
theorem d_Y_init_62 : decode b_Y_init 62 = .ok (.iconst (-1), 1) := by decide +kernel
theorem d_Y_init_63 : decode b_Y_init 63 = .ok (.putfield 37, 3) := by decide +kernel
theorem d_Y_init_66 : decode b_Y_init 66 = .ok (.aload_n 0, 1) := by decide +kernel
theorem d_Y_init_67 : decode b_Y_init 67 = .ok (.iconst (-1), 1) := by decide +kernel
theorem d_Y_init_68 : decode b_Y_init 68 = .ok (.putfield 40, 3) := by decide +kernel
theorem d_Y_init_71 : decode b_Y_init 71 = .ok (.aload_n 0, 1) := by decide +kernel
theorem d_Y_init_72 : decode b_Y_init 72 = .ok (.getfield 24, 3) := by decide +kernel
theorem d_Y_init_75 : decode b_Y_init 75 = .ok (.iconst (-1), 1) := by decide +kernel
theorem d_Y_init_76 : decode b_Y_init 76 = .ok (.invokestatic 43, 3) := by decide +kernel
theorem d_Y_init_79 : decode b_Y_init 79 = .ok (.return_, 1) := by decide +kernel
theorem d_Y_lookTick_0 : decode b_Y_lookTick 0 = .ok (.aload_n 0, 1) := by decide +kernel
theorem d_Y_lookTick_1 : decode b_Y_lookTick 1 = .ok (.getfield 24, 3) := by decide +kernel
theorem d_Y_lookTick_4 : decode b_Y_lookTick 4 = .ok (.iload_n 1, 1) := by decide +kernel
theorem d_Y_lookTick_5 : decode b_Y_lookTick 5 = .ok (.iaload, 1) := by decide +kernel
theorem d_Y_lookTick_6 : decode b_Y_lookTick 6 = .ok (.ireturn, 1) := by decide +kernel
theorem d_Y_levelAt_0 : decode b_Y_levelAt 0 = .ok (.iload_n 2, 1) := by decide +kernel
theorem d_Y_levelAt_1 : decode b_Y_levelAt 1 = .ok (.aload_n 0, 1) := by decide +kernel
theorem d_Y_levelAt_2 : decode b_Y_levelAt 2 = .ok (.getfield 18, 3) := by decide +kernel
theorem d_Y_levelAt_5 : decode b_Y_levelAt 5 = .ok (.iload_n 1, 1) := by decide +kernel
theorem d_Y_levelAt_6 : decode b_Y_levelAt 6 = .ok (.iaload, 1) := by decide +kernel
theorem d_Y_levelAt_7 : decode b_Y_levelAt 7 = .ok (.isub, 1) := by decide +kernel
theorem d_Y_levelAt_8 : decode b_Y_levelAt 8 = .ok (.istore_n 3, 1) := by decide +kernel
theorem d_Y_levelAt_9 : decode b_Y_levelAt 9 = .ok (.aload_n 0, 1) := by decide +kernel
theorem d_Y_levelAt_10 : decode b_Y_levelAt 10 = .ok (.getfield 21, 3) := by decide +kernel
theorem d_Y_levelAt_13 : decode b_Y_levelAt 13 = .ok (.iload_n 1, 1) := by decide +kernel
theorem d_Y_levelAt_14 : decode b_Y_levelAt 14 = .ok (.iaload, 1) := by decide +kernel
theorem d_Y_levelAt_15 : decode b_Y_levelAt 15 = .ok (.istore 4, 2) := by decide +kernel
theorem d_Y_levelAt_17 : decode b_Y_levelAt 17 = .ok (.iload_n 3, 1) := by decide +kernel
theorem d_Y_levelAt_18 : decode b_Y_levelAt 18 = .ok (.ifCond .ge 10, 3) := by decide +kernel
theorem d_Y_levelAt_21 : decode b_Y_levelAt 21 = .ok (.aload_n 0, 1) := by decide +kernel
theorem d_Y_levelAt_22 : decode b_Y_levelAt 22 = .ok (.getfield 9, 3) := by decide +kernel
theorem d_Y_levelAt_25 : decode b_Y_levelAt 25 = .ok (.iload_n 1, 1) := by decide +kernel
theorem d_Y_levelAt_26 : decode b_Y_levelAt 26 = .ok (.iaload, 1) := by decide +kernel
theorem d_Y_levelAt_27 : decode b_Y_levelAt 27 = .ok (.ireturn, 1) := by decide +kernel
theorem d_Y_levelAt_28 : decode b_Y_levelAt 28 = .ok (.iload_n 3, 1) := by decide +kernel
theorem d_Y_levelAt_29 : decode b_Y_levelAt 29 = .ok (.iload 4, 2) := by decide +kernel
theorem d_Y_levelAt_31 : decode b_Y_levelAt 31 = .ok (.if_icmp .lt 10, 3) := by decide +kernel
theorem d_Y_levelAt_34 : decode b_Y_levelAt 34 = .ok (.aload_n 0, 1) := by decide +kernel
theorem d_Y_levelAt_35 : decode b_Y_levelAt 35 = .ok (.getfield 15, 3) := by decide +kernel
theorem d_Y_levelAt_38 : decode b_Y_levelAt 38 = .ok (.iload_n 1, 1) := by decide +kernel
theorem d_Y_levelAt_39 : decode b_Y_levelAt 39 = .ok (.iaload, 1) := by decide +kernel
theorem d_Y_levelAt_40 : decode b_Y_levelAt 40 = .ok (.ireturn, 1) := by decide +kernel
theorem d_Y_levelAt_41 : decode b_Y_levelAt 41 = .ok (.aload_n 0, 1) := by decide +kernel
theorem d_Y_levelAt_42 : decode b_Y_levelAt 42 = .ok (.getfield 9, 3) := by decide +kernel
theorem d_Y_levelAt_45 : decode b_Y_levelAt 45 = .ok (.iload_n 1, 1) := by decide +kernel
theorem d_Y_levelAt_46 : decode b_Y_levelAt 46 = .ok (.iaload, 1) := by decide +kernel
theorem d_Y_levelAt_47 : decode b_Y_levelAt 47 = .ok (.aload_n 0, 1) := by decide +kernel
theorem d_Y_levelAt_48 : decode b_Y_levelAt 48 = .ok (.getfield 15, 3) := by decide +kernel
theorem d_Y_levelAt_51 : decode b_Y_levelAt 51 = .ok (.iload_n 1, 1) := by decide +kernel
theorem d_Y_levelAt_52 : decode b_Y_levelAt 52 = .ok (.iaload, 1) := by decide +kernel
theorem d_Y_levelAt_53 : decode b_Y_levelAt 53 = .ok (.aload_n 0, 1) := by decide +kernel
theorem d_Y_levelAt_54 : decode b_Y_levelAt 54 = .ok (.getfield 9, 3) := by decide +kernel
theorem d_Y_levelAt_57 : decode b_Y_levelAt 57 = .ok (.iload_n 1, 1) := by decide +kernel
theorem d_Y_levelAt_58 : decode b_Y_levelAt 58 = .ok (.iaload, 1) := by decide +kernel
theorem d_Y_levelAt_59 : decode b_Y_levelAt 59 = .ok (.isub, 1) := by decide +kernel
theorem d_Y_levelAt_60 : decode b_Y_levelAt 60 = .ok (.iload_n 3, 1) := by decide +kernel
theorem d_Y_levelAt_61 : decode b_Y_levelAt 61 = .ok (.imul, 1) := by decide +kernel
theorem d_Y_levelAt_62 : decode b_Y_levelAt 62 = .ok (.iload 4, 2) := by decide +kernel
theorem d_Y_levelAt_64 : decode b_Y_levelAt 64 = .ok (.idiv, 1) := by decide +kernel
theorem d_Y_levelAt_65 : decode b_Y_levelAt 65 = .ok (.iadd, 1) := by decide +kernel
theorem d_Y_levelAt_66 : decode b_Y_levelAt 66 = .ok (.ireturn, 1) := by decide +kernel
theorem d_Y_fade_0 : decode b_Y_fade 0 = .ok (.aload_n 0, 1) := by decide +kernel
theorem d_Y_fade_1 : decode b_Y_fade 1 = .ok (.iload_n 1, 1) := by decide +kernel
theorem d_Y_fade_2 : decode b_Y_fade 2 = .ok (.iload 4, 2) := by decide +kernel
theorem d_Y_fade_4 : decode b_Y_fade 4 = .ok (.invokevirtual 49, 3) := by decide +kernel
theorem d_Y_fade_7 : decode b_Y_fade 7 = .ok (.istore 5, 2) := by decide +kernel
theorem d_Y_fade_9 : decode b_Y_fade 9 = .ok (.aload_n 0, 1) := by decide +kernel
theorem d_Y_fade_10 : decode b_Y_fade 10 = .ok (.getfield 9, 3) := by decide +kernel
theorem d_Y_fade_13 : decode b_Y_fade 13 = .ok (.iload_n 1, 1) := by decide +kernel
theorem d_Y_fade_14 : decode b_Y_fade 14 = .ok (.iload 5, 2) := by decide +kernel
theorem d_Y_fade_16 : decode b_Y_fade 16 = .ok (.iastore, 1) := by decide +kernel
theorem d_Y_fade_17 : decode b_Y_fade 17 = .ok (.aload_n 0, 1) := by decide +kernel
theorem d_Y_fade_18 : decode b_Y_fade 18 = .ok (.getfield 15, 3) := by decide +kernel
theorem d_Y_fade_21 : decode b_Y_fade 21 = .ok (.iload_n 1, 1) := by decide +kernel
theorem d_Y_fade_22 : decode b_Y_fade 22 = .ok (.iload_n 2, 1) := by decide +kernel
theorem d_Y_fade_23 : decode b_Y_fade 23 = .ok (.iastore, 1) := by decide +kernel
theorem d_Y_fade_24 : decode b_Y_fade 24 = .ok (.aload_n 0, 1) := by decide +kernel
theorem d_Y_fade_25 : decode b_Y_fade 25 = .ok (.getfield 18, 3) := by decide +kernel
theorem d_Y_fade_28 : decode b_Y_fade 28 = .ok (.iload_n 1, 1) := by decide +kernel
theorem d_Y_fade_29 : decode b_Y_fade 29 = .ok (.iload 4, 2) := by decide +kernel
theorem d_Y_fade_31 : decode b_Y_fade 31 = .ok (.aload_n 3, 1) := by decide +kernel
theorem d_Y_fade_32 : decode b_Y_fade 32 = .ok (.getfield 53, 3) := by decide +kernel
theorem d_Y_fade_35 : decode b_Y_fade 35 = .ok (.iadd, 1) := by decide +kernel
theorem d_Y_fade_36 : decode b_Y_fade 36 = .ok (.iastore, 1) := by decide +kernel
theorem d_Y_fade_37 : decode b_Y_fade 37 = .ok (.aload_n 0, 1) := by decide +kernel
theorem d_Y_fade_38 : decode b_Y_fade 38 = .ok (.getfield 21, 3) := by decide +kernel
theorem d_Y_fade_41 : decode b_Y_fade 41 = .ok (.iload_n 1, 1) := by decide +kernel
theorem d_Y_fade_42 : decode b_Y_fade 42 = .ok (.iload_n 2, 1) := by decide +kernel
theorem d_Y_fade_43 : decode b_Y_fade 43 = .ok (.iload 5, 2) := by decide +kernel
theorem d_Y_fade_45 : decode b_Y_fade 45 = .ok (.if_icmp .lt 10, 3) := by decide +kernel
theorem d_Y_fade_48 : decode b_Y_fade 48 = .ok (.aload_n 3, 1) := by decide +kernel
theorem d_Y_fade_49 : decode b_Y_fade 49 = .ok (.getfield 58, 3) := by decide +kernel
theorem d_Y_fade_52 : decode b_Y_fade 52 = .ok (.goto 7, 3) := by decide +kernel
theorem d_Y_fade_55 : decode b_Y_fade 55 = .ok (.aload_n 3, 1) := by decide +kernel
theorem d_Y_fade_56 : decode b_Y_fade 56 = .ok (.getfield 61, 3) := by decide +kernel
theorem d_Y_fade_59 : decode b_Y_fade 59 = .ok (.iastore, 1) := by decide +kernel
theorem d_Y_fade_60 : decode b_Y_fade 60 = .ok (.aload_n 0, 1) := by decide +kernel
theorem d_Y_fade_61 : decode b_Y_fade 61 = .ok (.getfield 24, 3) := by decide +kernel
theorem d_Y_fade_64 : decode b_Y_fade 64 = .ok (.iload_n 1, 1) := by decide +kernel
theorem d_Y_fade_65 : decode b_Y_fade 65 = .ok (.iload 4, 2) := by decide +kernel
theorem d_Y_fade_67 : decode b_Y_fade 67 = .ok (.iastore, 1) := by decide +kernel
theorem d_Y_fade_68 : decode b_Y_fade 68 = .ok (.return_, 1) := by decide +kernel
theorem d_V_init_0 : decode b_V_init 0 = .ok (.aload_n 0, 1) := by decide +kernel
theorem d_V_init_1 : decode b_V_init 1 = .ok (.invokespecial 3, 3) := by decide +kernel
theorem d_V_init_4 : decode b_V_init 4 = .ok (.aload_n 0, 1) := by decide +kernel
theorem d_V_init_5 : decode b_V_init 5 = .ok (.bipush 64, 2) := by decide +kernel
theorem d_V_init_7 : decode b_V_init 7 = .ok (.newarray .int, 2) := by decide +kernel
theorem d_V_init_9 : decode b_V_init 9 = .ok (.putfield 9, 3) := by decide +kernel
theorem d_V_init_12 : decode b_V_init 12 = .ok (.aload_n 0, 1) := by decide +kernel
theorem d_V_init_13 : decode b_V_init 13 = .ok (.iconst 0, 1) := by decide +kernel
theorem d_V_init_14 : decode b_V_init 14 = .ok (.putfield 15, 3) := by decide +kernel
theorem d_V_init_17 : decode b_V_init 17 = .ok (.aload_n 0, 1) := by decide +kernel
theorem d_V_init_18 : decode b_V_init 18 = .ok (.getfield 9, 3) := by decide +kernel
theorem d_V_init_21 : decode b_V_init 21 = .ok (.iconst (-1), 1) := by decide +kernel
theorem d_V_init_22 : decode b_V_init 22 = .ok (.invokestatic 19, 3) := by decide +kernel
theorem d_V_init_25 : decode b_V_init 25 = .ok (.return_, 1) := by decide +kernel
theorem d_V_has_0 : decode b_V_has 0 = .ok (.aload_n 0, 1) := by decide +kernel
theorem d_V_has_1 : decode b_V_has 1 = .ok (.getfield 9, 3) := by decide +kernel
theorem d_V_has_4 : decode b_V_has 4 = .ok (.iload_n 1, 1) := by decide +kernel
theorem d_V_has_5 : decode b_V_has 5 = .ok (.iaload, 1) := by decide +kernel
theorem d_V_has_6 : decode b_V_has 6 = .ok (.iconst (-1), 1) := by decide +kernel
theorem d_V_has_7 : decode b_V_has 7 = .ok (.if_icmp .eq 7, 3) := by decide +kernel
theorem d_V_has_10 : decode b_V_has 10 = .ok (.iconst 1, 1) := by decide +kernel
theorem d_V_has_11 : decode b_V_has 11 = .ok (.goto 4, 3) := by decide +kernel
theorem d_V_has_14 : decode b_V_has 14 = .ok (.iconst 0, 1) := by decide +kernel
theorem d_V_has_15 : decode b_V_has 15 = .ok (.ireturn, 1) := by decide +kernel
theorem d_V_valueAt_0 : decode b_V_valueAt 0 = .ok (.aload_n 0, 1) := by decide +kernel
theorem d_V_valueAt_1 : decode b_V_valueAt 1 = .ok (.getfield 9, 3) := by decide +kernel
theorem d_V_valueAt_4 : decode b_V_valueAt 4 = .ok (.iload_n 1, 1) := by decide +kernel
theorem d_V_valueAt_5 : decode b_V_valueAt 5 = .ok (.iaload, 1) := by decide +kernel
theorem d_V_valueAt_6 : decode b_V_valueAt 6 = .ok (.ireturn, 1) := by decide +kernel
theorem d_V_put_0 : decode b_V_put 0 = .ok (.aload_n 0, 1) := by decide +kernel
theorem d_V_put_1 : decode b_V_put 1 = .ok (.getfield 9, 3) := by decide +kernel
theorem d_V_put_4 : decode b_V_put 4 = .ok (.iload_n 1, 1) := by decide +kernel
theorem d_V_put_5 : decode b_V_put 5 = .ok (.iaload, 1) := by decide +kernel
theorem d_V_put_6 : decode b_V_put 6 = .ok (.iconst (-1), 1) := by decide +kernel
theorem d_V_put_7 : decode b_V_put 7 = .ok (.if_icmp .ne 13, 3) := by decide +kernel
theorem d_V_put_10 : decode b_V_put 10 = .ok (.aload_n 0, 1) := by decide +kernel
theorem d_V_put_11 : decode b_V_put 11 = .ok (.dup, 1) := by decide +kernel
theorem d_V_put_12 : decode b_V_put 12 = .ok (.getfield 15, 3) := by decide +kernel
theorem d_V_put_15 : decode b_V_put 15 = .ok (.iconst 1, 1) := by decide +kernel
theorem d_V_put_16 : decode b_V_put 16 = .ok (.iadd, 1) := by decide +kernel
theorem d_V_put_17 : decode b_V_put 17 = .ok (.putfield 15, 3) := by decide +kernel
theorem d_V_put_20 : decode b_V_put 20 = .ok (.aload_n 0, 1) := by decide +kernel
theorem d_V_put_21 : decode b_V_put 21 = .ok (.getfield 9, 3) := by decide +kernel
theorem d_V_put_24 : decode b_V_put 24 = .ok (.iload_n 1, 1) := by decide +kernel
theorem d_V_put_25 : decode b_V_put 25 = .ok (.iload_n 2, 1) := by decide +kernel
theorem d_V_put_26 : decode b_V_put 26 = .ok (.iastore, 1) := by decide +kernel
theorem d_V_put_27 : decode b_V_put 27 = .ok (.return_, 1) := by decide +kernel
theorem d_V_drop_0 : decode b_V_drop 0 = .ok (.aload_n 0, 1) := by decide +kernel
theorem d_V_drop_1 : decode b_V_drop 1 = .ok (.getfield 9, 3) := by decide +kernel
theorem d_V_drop_4 : decode b_V_drop 4 = .ok (.iload_n 1, 1) := by decide +kernel
theorem d_V_drop_5 : decode b_V_drop 5 = .ok (.iaload, 1) := by decide +kernel
theorem d_V_drop_6 : decode b_V_drop 6 = .ok (.iconst (-1), 1) := by decide +kernel
theorem d_V_drop_7 : decode b_V_drop 7 = .ok (.if_icmp .eq 13, 3) := by decide +kernel
theorem d_V_drop_10 : decode b_V_drop 10 = .ok (.aload_n 0, 1) := by decide +kernel
theorem d_V_drop_11 : decode b_V_drop 11 = .ok (.dup, 1) := by decide +kernel
theorem d_V_drop_12 : decode b_V_drop 12 = .ok (.getfield 15, 3) := by decide +kernel
theorem d_V_drop_15 : decode b_V_drop 15 = .ok (.iconst 1, 1) := by decide +kernel
theorem d_V_drop_16 : decode b_V_drop 16 = .ok (.isub, 1) := by decide +kernel
theorem d_V_drop_17 : decode b_V_drop 17 = .ok (.putfield 15, 3) := by decide +kernel
theorem d_V_drop_20 : decode b_V_drop 20 = .ok (.aload_n 0, 1) := by decide +kernel
theorem d_V_drop_21 : decode b_V_drop 21 = .ok (.getfield 9, 3) := by decide +kernel
theorem d_V_drop_24 : decode b_V_drop 24 = .ok (.iload_n 1, 1) := by decide +kernel
theorem d_V_drop_25 : decode b_V_drop 25 = .ok (.iconst (-1), 1) := by decide +kernel
theorem d_V_drop_26 : decode b_V_drop 26 = .ok (.iastore, 1) := by decide +kernel
theorem d_V_drop_27 : decode b_V_drop 27 = .ok (.return_, 1) := by decide +kernel
theorem d_V_dropAll_0 : decode b_V_dropAll 0 = .ok (.aload_n 0, 1) := by decide +kernel
theorem d_V_dropAll_1 : decode b_V_dropAll 1 = .ok (.getfield 9, 3) := by decide +kernel
theorem d_V_dropAll_4 : decode b_V_dropAll 4 = .ok (.iconst (-1), 1) := by decide +kernel
theorem d_V_dropAll_5 : decode b_V_dropAll 5 = .ok (.invokestatic 19, 3) := by decide +kernel
theorem d_V_dropAll_8 : decode b_V_dropAll 8 = .ok (.aload_n 0, 1) := by decide +kernel
theorem d_V_dropAll_9 : decode b_V_dropAll 9 = .ok (.iconst 0, 1) := by decide +kernel
theorem d_V_dropAll_10 : decode b_V_dropAll 10 = .ok (.putfield 15, 3) := by decide +kernel
theorem d_V_dropAll_13 : decode b_V_dropAll 13 = .ok (.return_, 1) := by decide +kernel
theorem d_V_lackedOf_0 : decode b_V_lackedOf 0 = .ok (.iconst 0, 1) := by decide +kernel
theorem d_V_lackedOf_1 : decode b_V_lackedOf 1 = .ok (.istore_n 2, 1) := by decide +kernel
theorem d_V_lackedOf_2 : decode b_V_lackedOf 2 = .ok (.iconst 0, 1) := by decide +kernel
theorem d_V_lackedOf_3 : decode b_V_lackedOf 3 = .ok (.istore_n 3, 1) := by decide +kernel
theorem d_V_lackedOf_4 : decode b_V_lackedOf 4 = .ok (.iload_n 3, 1) := by decide +kernel
theorem d_V_lackedOf_5 : decode b_V_lackedOf 5 = .ok (.bipush 64, 2) := by decide +kernel
theorem d_V_lackedOf_7 : decode b_V_lackedOf 7 = .ok (.if_icmp .ge 28, 3) := by decide +kernel
theorem d_V_lackedOf_10 : decode b_V_lackedOf 10 = .ok (.aload_n 1, 1) := by decide +kernel
theorem d_V_lackedOf_11 : decode b_V_lackedOf 11 = .ok (.iload_n 3, 1) := by decide +kernel
theorem d_V_lackedOf_12 : decode b_V_lackedOf 12 = .ok (.invokevirtual 25, 3) := by decide +kernel
theorem d_V_lackedOf_15 : decode b_V_lackedOf 15 = .ok (.ifCond .eq 14, 3) := by decide +kernel
theorem d_V_lackedOf_18 : decode b_V_lackedOf 18 = .ok (.aload_n 0, 1) := by decide +kernel
theorem d_V_lackedOf_19 : decode b_V_lackedOf 19 = .ok (.iload_n 3, 1) := by decide +kernel
theorem d_V_lackedOf_20 : decode b_V_lackedOf 20 = .ok (.invokevirtual 25, 3) := by decide +kernel
theorem d_V_lackedOf_23 : decode b_V_lackedOf 23 = .ok (.ifCond .ne 6, 3) := by decide +kernel
theorem d_V_lackedOf_26 : decode b_V_lackedOf 26 = .ok (.iinc 2 1, 3) := by decide +kernel
theorem d_V_lackedOf_29 : decode b_V_lackedOf 29 = .ok (.iinc 3 1, 3) := by decide +kernel
theorem d_V_lackedOf_32 : decode b_V_lackedOf 32 = .ok (.goto (-28), 3) := by decide +kernel
theorem d_V_lackedOf_35 : decode b_V_lackedOf 35 = .ok (.iload_n 2, 1) := by decide +kernel
theorem d_V_lackedOf_36 : decode b_V_lackedOf 36 = .ok (.ireturn, 1) := by decide +kernel
theorem d_JL_bitCount_0 : decode b_JL_bitCount 0 = .ok (.lload_n 0, 1) := by decide +kernel
theorem d_JL_bitCount_1 : decode b_JL_bitCount 1 = .ok (.lload_n 0, 1) := by decide +kernel
theorem d_JL_bitCount_2 : decode b_JL_bitCount 2 = .ok (.iconst 1, 1) := by decide +kernel
theorem d_JL_bitCount_3 : decode b_JL_bitCount 3 = .ok (.lushr, 1) := by decide +kernel
theorem d_JL_bitCount_4 : decode b_JL_bitCount 4 = .ok (.ldc2_w 314, 3) := by decide +kernel
theorem d_JL_bitCount_7 : decode b_JL_bitCount 7 = .ok (.land, 1) := by decide +kernel
theorem d_JL_bitCount_8 : decode b_JL_bitCount 8 = .ok (.lsub, 1) := by decide +kernel
theorem d_JL_bitCount_9 : decode b_JL_bitCount 9 = .ok (.lstore_n 0, 1) := by decide +kernel
theorem d_JL_bitCount_10 : decode b_JL_bitCount 10 = .ok (.lload_n 0, 1) := by decide +kernel
theorem d_JL_bitCount_11 : decode b_JL_bitCount 11 = .ok (.ldc2_w 316, 3) := by decide +kernel
theorem d_JL_bitCount_14 : decode b_JL_bitCount 14 = .ok (.land, 1) := by decide +kernel
theorem d_JL_bitCount_15 : decode b_JL_bitCount 15 = .ok (.lload_n 0, 1) := by decide +kernel
theorem d_JL_bitCount_16 : decode b_JL_bitCount 16 = .ok (.iconst 2, 1) := by decide +kernel
theorem d_JL_bitCount_17 : decode b_JL_bitCount 17 = .ok (.lushr, 1) := by decide +kernel
theorem d_JL_bitCount_18 : decode b_JL_bitCount 18 = .ok (.ldc2_w 316, 3) := by decide +kernel
theorem d_JL_bitCount_21 : decode b_JL_bitCount 21 = .ok (.land, 1) := by decide +kernel
theorem d_JL_bitCount_22 : decode b_JL_bitCount 22 = .ok (.ladd, 1) := by decide +kernel
theorem d_JL_bitCount_23 : decode b_JL_bitCount 23 = .ok (.lstore_n 0, 1) := by decide +kernel
theorem d_JL_bitCount_24 : decode b_JL_bitCount 24 = .ok (.lload_n 0, 1) := by decide +kernel
theorem d_JL_bitCount_25 : decode b_JL_bitCount 25 = .ok (.lload_n 0, 1) := by decide +kernel
theorem d_JL_bitCount_26 : decode b_JL_bitCount 26 = .ok (.iconst 4, 1) := by decide +kernel
theorem d_JL_bitCount_27 : decode b_JL_bitCount 27 = .ok (.lushr, 1) := by decide +kernel
theorem d_JL_bitCount_28 : decode b_JL_bitCount 28 = .ok (.ladd, 1) := by decide +kernel
theorem d_JL_bitCount_29 : decode b_JL_bitCount 29 = .ok (.ldc2_w 318, 3) := by decide +kernel
theorem d_JL_bitCount_32 : decode b_JL_bitCount 32 = .ok (.land, 1) := by decide +kernel
theorem d_JL_bitCount_33 : decode b_JL_bitCount 33 = .ok (.lstore_n 0, 1) := by decide +kernel
theorem d_JL_bitCount_34 : decode b_JL_bitCount 34 = .ok (.lload_n 0, 1) := by decide +kernel
theorem d_JL_bitCount_35 : decode b_JL_bitCount 35 = .ok (.lload_n 0, 1) := by decide +kernel
theorem d_JL_bitCount_36 : decode b_JL_bitCount 36 = .ok (.bipush 8, 2) := by decide +kernel
theorem d_JL_bitCount_38 : decode b_JL_bitCount 38 = .ok (.lushr, 1) := by decide +kernel
theorem d_JL_bitCount_39 : decode b_JL_bitCount 39 = .ok (.ladd, 1) := by decide +kernel
theorem d_JL_bitCount_40 : decode b_JL_bitCount 40 = .ok (.lstore_n 0, 1) := by decide +kernel
theorem d_JL_bitCount_41 : decode b_JL_bitCount 41 = .ok (.lload_n 0, 1) := by decide +kernel
theorem d_JL_bitCount_42 : decode b_JL_bitCount 42 = .ok (.lload_n 0, 1) := by decide +kernel
theorem d_JL_bitCount_43 : decode b_JL_bitCount 43 = .ok (.bipush 16, 2) := by decide +kernel
theorem d_JL_bitCount_45 : decode b_JL_bitCount 45 = .ok (.lushr, 1) := by decide +kernel
theorem d_JL_bitCount_46 : decode b_JL_bitCount 46 = .ok (.ladd, 1) := by decide +kernel
theorem d_JL_bitCount_47 : decode b_JL_bitCount 47 = .ok (.lstore_n 0, 1) := by decide +kernel
theorem d_JL_bitCount_48 : decode b_JL_bitCount 48 = .ok (.lload_n 0, 1) := by decide +kernel
theorem d_JL_bitCount_49 : decode b_JL_bitCount 49 = .ok (.lload_n 0, 1) := by decide +kernel
theorem d_JL_bitCount_50 : decode b_JL_bitCount 50 = .ok (.bipush 32, 2) := by decide +kernel
theorem d_JL_bitCount_52 : decode b_JL_bitCount 52 = .ok (.lushr, 1) := by decide +kernel
theorem d_JL_bitCount_53 : decode b_JL_bitCount 53 = .ok (.ladd, 1) := by decide +kernel
theorem d_JL_bitCount_54 : decode b_JL_bitCount 54 = .ok (.lstore_n 0, 1) := by decide +kernel
theorem d_JL_bitCount_55 : decode b_JL_bitCount 55 = .ok (.lload_n 0, 1) := by decide +kernel
theorem d_JL_bitCount_56 : decode b_JL_bitCount 56 = .ok (.l2i, 1) := by decide +kernel
theorem d_JL_bitCount_57 : decode b_JL_bitCount 57 = .ok (.bipush 127, 2) := by decide +kernel
theorem d_JL_bitCount_59 : decode b_JL_bitCount 59 = .ok (.iand, 1) := by decide +kernel
theorem d_JL_bitCount_60 : decode b_JL_bitCount 60 = .ok (.ireturn, 1) := by decide +kernel
theorem d_JM_max_0 : decode b_JM_max 0 = .ok (.iload_n 0, 1) := by decide +kernel
theorem d_JM_max_1 : decode b_JM_max 1 = .ok (.iload_n 1, 1) := by decide +kernel
theorem d_JM_max_2 : decode b_JM_max 2 = .ok (.if_icmp .lt 7, 3) := by decide +kernel
theorem d_JM_max_5 : decode b_JM_max 5 = .ok (.iload_n 0, 1) := by decide +kernel
theorem d_JM_max_6 : decode b_JM_max 6 = .ok (.goto 4, 3) := by decide +kernel
theorem d_JM_max_9 : decode b_JM_max 9 = .ok (.iload_n 1, 1) := by decide +kernel
theorem d_JM_max_10 : decode b_JM_max 10 = .ok (.ireturn, 1) := by decide +kernel
theorem d_JA_fill_0 : decode b_JA_fill 0 = .ok (.iconst 0, 1) := by decide +kernel
theorem d_JA_fill_1 : decode b_JA_fill 1 = .ok (.istore_n 2, 1) := by decide +kernel
theorem d_JA_fill_2 : decode b_JA_fill 2 = .ok (.aload_n 0, 1) := by decide +kernel
theorem d_JA_fill_3 : decode b_JA_fill 3 = .ok (.arraylength, 1) := by decide +kernel
theorem d_JA_fill_4 : decode b_JA_fill 4 = .ok (.istore_n 3, 1) := by decide +kernel
theorem d_JA_fill_5 : decode b_JA_fill 5 = .ok (.iload_n 2, 1) := by decide +kernel
theorem d_JA_fill_6 : decode b_JA_fill 6 = .ok (.iload_n 3, 1) := by decide +kernel
theorem d_JA_fill_7 : decode b_JA_fill 7 = .ok (.if_icmp .ge 13, 3) := by decide +kernel
theorem d_JA_fill_10 : decode b_JA_fill 10 = .ok (.aload_n 0, 1) := by decide +kernel
theorem d_JA_fill_11 : decode b_JA_fill 11 = .ok (.iload_n 2, 1) := by decide +kernel
theorem d_JA_fill_12 : decode b_JA_fill 12 = .ok (.iload_n 1, 1) := by decide +kernel
theorem d_JA_fill_13 : decode b_JA_fill 13 = .ok (.iastore, 1) := by decide +kernel
theorem d_JA_fill_14 : decode b_JA_fill 14 = .ok (.iinc 2 1, 3) := by decide +kernel
theorem d_JA_fill_17 : decode b_JA_fill 17 = .ok (.goto (-12), 3) := by decide +kernel
theorem d_JA_fill_20 : decode b_JA_fill 20 = .ok (.return_, 1) := by decide +kernel
