theorem d_L_record_0 : decode b_L_record 0 = .ok (.aload 4, 2) := by decide +kernel
theorem d_L_record_2 : decode b_L_record 2 = .ok (.iconst 0, 1) := by decide +kernel
theorem d_L_record_3 : decode b_L_record 3 = .ok (.aload_n 0, 1) := by decide +kernel
theorem d_L_record_4 : decode b_L_record 4 = .ok (.iload_n 1, 1) := by decide +kernel
theorem d_L_record_5 : decode b_L_record 5 = .ok (.iload_n 2, 1) := by decide +kernel
theorem d_L_record_6 : decode b_L_record 6 = .ok (.iload_n 3, 1) := by decide +kernel
theorem d_L_record_7 : decode b_L_record 7 = .ok (.invokevirtual 7, 3) := by decide +kernel
theorem d_L_record_10 : decode b_L_record 10 = .ok (.i2l, 1) := by decide +kernel
theorem d_L_record_11 : decode b_L_record 11 = .ok (.lastore, 1) := by decide +kernel
theorem d_L_record_12 : decode b_L_record 12 = .ok (.goto 11, 3) := by decide +kernel
theorem d_L_record_15 : decode b_L_record 15 = .ok (.astore 5, 2) := by decide +kernel
theorem d_L_record_17 : decode b_L_record 17 = .ok (.iconst 1, 1) := by decide +kernel
theorem d_L_record_18 : decode b_L_record 18 = .ok (.ireturn, 1) := by decide +kernel
theorem d_L_record_19 : decode b_L_record 19 = .ok (.astore 5, 2) := by decide +kernel
theorem d_L_record_21 : decode b_L_record 21 = .ok (.iconst 2, 1) := by decide +kernel
theorem d_L_record_22 : decode b_L_record 22 = .ok (.ireturn, 1) := by decide +kernel
theorem d_L_record_23 : decode b_L_record 23 = .ok (.iconst 0, 1) := by decide +kernel
theorem d_L_record_24 : decode b_L_record 24 = .ok (.ireturn, 1) := by decide +kernel
theorem d_L_update_0 : decode b_L_update 0 = .ok (.aload_n 3, 1) := by decide +kernel
theorem d_L_update_1 : decode b_L_update 1 = .ok (.iconst 0, 1) := by decide +kernel
theorem d_L_update_2 : decode b_L_update 2 = .ok (.aload_n 0, 1) := by decide +kernel
theorem d_L_update_3 : decode b_L_update 3 = .ok (.iload_n 1, 1) := by decide +kernel
theorem d_L_update_4 : decode b_L_update 4 = .ok (.iload_n 2, 1) := by decide +kernel
theorem d_L_update_5 : decode b_L_update 5 = .ok (.invokevirtual 17, 3) := by decide +kernel
theorem d_L_update_8 : decode b_L_update 8 = .ok (.i2l, 1) := by decide +kernel
theorem d_L_update_9 : decode b_L_update 9 = .ok (.lastore, 1) := by decide +kernel
theorem d_L_update_10 : decode b_L_update 10 = .ok (.goto 11, 3) := by decide +kernel
theorem d_L_update_13 : decode b_L_update 13 = .ok (.astore 4, 2) := by decide +kernel
theorem d_L_update_15 : decode b_L_update 15 = .ok (.iconst 1, 1) := by decide +kernel
theorem d_L_update_16 : decode b_L_update 16 = .ok (.ireturn, 1) := by decide +kernel
theorem d_L_update_17 : decode b_L_update 17 = .ok (.astore 4, 2) := by decide +kernel
theorem d_L_update_19 : decode b_L_update 19 = .ok (.iconst 2, 1) := by decide +kernel
theorem d_L_update_20 : decode b_L_update 20 = .ok (.ireturn, 1) := by decide +kernel
theorem d_L_update_21 : decode b_L_update 21 = .ok (.iconst 0, 1) := by decide +kernel
theorem d_L_update_22 : decode b_L_update 22 = .ok (.ireturn, 1) := by decide +kernel
theorem d_L_delete_0 : decode b_L_delete 0 = .ok (.aload 4, 2) := by decide +kernel
theorem d_L_delete_2 : decode b_L_delete 2 = .ok (.iconst 0, 1) := by decide +kernel
theorem d_L_delete_3 : decode b_L_delete 3 = .ok (.aload_n 0, 1) := by decide +kernel
theorem d_L_delete_4 : decode b_L_delete 4 = .ok (.iload_n 1, 1) := by decide +kernel
theorem d_L_delete_5 : decode b_L_delete 5 = .ok (.iload_n 2, 1) := by decide +kernel
theorem d_L_delete_6 : decode b_L_delete 6 = .ok (.iload_n 3, 1) := by decide +kernel
theorem d_L_delete_7 : decode b_L_delete 7 = .ok (.invokevirtual 23, 3) := by decide +kernel
theorem d_L_delete_10 : decode b_L_delete 10 = .ok (.i2l, 1) := by decide +kernel
theorem d_L_delete_11 : decode b_L_delete 11 = .ok (.lastore, 1) := by decide +kernel
theorem d_L_delete_12 : decode b_L_delete 12 = .ok (.goto 11, 3) := by decide +kernel
theorem d_L_delete_15 : decode b_L_delete 15 = .ok (.astore 5, 2) := by decide +kernel
theorem d_L_delete_17 : decode b_L_delete 17 = .ok (.iconst 1, 1) := by decide +kernel
theorem d_L_delete_18 : decode b_L_delete 18 = .ok (.ireturn, 1) := by decide +kernel
theorem d_L_delete_19 : decode b_L_delete 19 = .ok (.astore 5, 2) := by decide +kernel
theorem d_L_delete_21 : decode b_L_delete 21 = .ok (.iconst 2, 1) := by decide +kernel
theorem d_L_delete_22 : decode b_L_delete 22 = .ok (.ireturn, 1) := by decide +kernel
theorem d_L_delete_23 : decode b_L_delete 23 = .ok (.iconst 0, 1) := by decide +kernel
theorem d_L_delete_24 : decode b_L_delete 24 = .ok (.ireturn, 1) := by decide +kernel
theorem d_L_block_0 : decode b_L_block 0 = .ok (.aload 4, 2) := by decide +kernel
theorem d_L_block_2 : decode b_L_block 2 = .ok (.iconst 0, 1) := by decide +kernel
theorem d_L_block_3 : decode b_L_block 3 = .ok (.aload_n 0, 1) := by decide +kernel
theorem d_L_block_4 : decode b_L_block 4 = .ok (.iload_n 1, 1) := by decide +kernel
theorem d_L_block_5 : decode b_L_block 5 = .ok (.iload_n 2, 1) := by decide +kernel
theorem d_L_block_6 : decode b_L_block 6 = .ok (.iload_n 3, 1) := by decide +kernel
theorem d_L_block_7 : decode b_L_block 7 = .ok (.invokevirtual 26, 3) := by decide +kernel
theorem d_L_block_10 : decode b_L_block 10 = .ok (.i2l, 1) := by decide +kernel
theorem d_L_block_11 : decode b_L_block 11 = .ok (.lastore, 1) := by decide +kernel
theorem d_L_block_12 : decode b_L_block 12 = .ok (.goto 11, 3) := by decide +kernel
theorem d_L_block_15 : decode b_L_block 15 = .ok (.astore 5, 2) := by decide +kernel
theorem d_L_block_17 : decode b_L_block 17 = .ok (.iconst 1, 1) := by decide +kernel
theorem d_L_block_18 : decode b_L_block 18 = .ok (.ireturn, 1) := by decide +kernel
theorem d_L_block_19 : decode b_L_block 19 = .ok (.astore 5, 2) := by decide +kernel
theorem d_L_block_21 : decode b_L_block 21 = .ok (.iconst 2, 1) := by decide +kernel
theorem d_L_block_22 : decode b_L_block 22 = .ok (.ireturn, 1) := by decide +kernel
theorem d_L_block_23 : decode b_L_block 23 = .ok (.iconst 0, 1) := by decide +kernel
theorem d_L_block_24 : decode b_L_block 24 = .ok (.ireturn, 1) := by decide +kernel
theorem d_L_look_0 : decode b_L_look 0 = .ok (.aload 4, 2) := by decide +kernel
theorem d_L_look_2 : decode b_L_look 2 = .ok (.iconst 0, 1) := by decide +kernel
theorem d_L_look_3 : decode b_L_look 3 = .ok (.aload_n 0, 1) := by decide +kernel
theorem d_L_look_4 : decode b_L_look 4 = .ok (.iload_n 1, 1) := by decide +kernel
theorem d_L_look_5 : decode b_L_look 5 = .ok (.iload_n 2, 1) := by decide +kernel
theorem d_L_look_6 : decode b_L_look 6 = .ok (.iload_n 3, 1) := by decide +kernel
theorem d_L_look_7 : decode b_L_look 7 = .ok (.invokevirtual 29, 3) := by decide +kernel
theorem d_L_look_10 : decode b_L_look 10 = .ok (.i2l, 1) := by decide +kernel
theorem d_L_look_11 : decode b_L_look 11 = .ok (.lastore, 1) := by decide +kernel
theorem d_L_look_12 : decode b_L_look 12 = .ok (.goto 11, 3) := by decide +kernel
theorem d_L_look_15 : decode b_L_look 15 = .ok (.astore 5, 2) := by decide +kernel
theorem d_L_look_17 : decode b_L_look 17 = .ok (.iconst 1, 1) := by decide +kernel
theorem d_L_look_18 : decode b_L_look 18 = .ok (.ireturn, 1) := by decide +kernel
theorem d_L_look_19 : decode b_L_look 19 = .ok (.astore 5, 2) := by decide +kernel
theorem d_L_look_21 : decode b_L_look 21 = .ok (.iconst 2, 1) := by decide +kernel
theorem d_L_look_22 : decode b_L_look 22 = .ok (.ireturn, 1) := by decide +kernel
theorem d_L_look_23 : decode b_L_look 23 = .ok (.iconst 0, 1) := by decide +kernel
theorem d_L_look_24 : decode b_L_look 24 = .ok (.ireturn, 1) := by decide +kernel
theorem d_L_source_0 : decode b_L_source 0 = .ok (.aload 4, 2) := by decide +kernel
theorem d_L_source_2 : decode b_L_source 2 = .ok (.iconst 0, 1) := by decide +kernel
theorem d_L_source_3 : decode b_L_source 3 = .ok (.aload_n 0, 1) := by decide +kernel
theorem d_L_source_4 : decode b_L_source 4 = .ok (.iload_n 1, 1) := by decide +kernel
theorem d_L_source_5 : decode b_L_source 5 = .ok (.iload_n 2, 1) := by decide +kernel
theorem d_L_source_6 : decode b_L_source 6 = .ok (.iload_n 3, 1) := by decide +kernel
theorem d_L_source_7 : decode b_L_source 7 = .ok (.invokevirtual 35, 3) := by decide +kernel
theorem d_L_source_10 : decode b_L_source 10 = .ok (.i2l, 1) := by decide +kernel
theorem d_L_source_11 : decode b_L_source 11 = .ok (.lastore, 1) := by decide +kernel
theorem d_L_source_12 : decode b_L_source 12 = .ok (.goto 11, 3) := by decide +kernel
theorem d_L_source_15 : decode b_L_source 15 = .ok (.astore 5, 2) := by decide +kernel
theorem d_L_source_17 : decode b_L_source 17 = .ok (.iconst 1, 1) := by decide +kernel
theorem d_L_source_18 : decode b_L_source 18 = .ok (.ireturn, 1) := by decide +kernel
theorem d_L_source_19 : decode b_L_source 19 = .ok (.astore 5, 2) := by decide +kernel
theorem d_L_source_21 : decode b_L_source 21 = .ok (.iconst 2, 1) := by decide +kernel
theorem d_L_source_22 : decode b_L_source 22 = .ok (.ireturn, 1) := by decide +kernel
theorem d_L_source_23 : decode b_L_source 23 = .ok (.iconst 0, 1) := by decide +kernel
theorem d_L_source_24 : decode b_L_source 24 = .ok (.ireturn, 1) := by decide +kernel
theorem d_L_cue_0 : decode b_L_cue 0 = .ok (.aload 4, 2) := by decide +kernel
theorem d_L_cue_2 : decode b_L_cue 2 = .ok (.iconst 0, 1) := by decide +kernel
theorem d_L_cue_3 : decode b_L_cue 3 = .ok (.aload_n 0, 1) := by decide +kernel
theorem d_L_cue_4 : decode b_L_cue 4 = .ok (.iload_n 1, 1) := by decide +kernel
theorem d_L_cue_5 : decode b_L_cue 5 = .ok (.iload_n 2, 1) := by decide +kernel
theorem d_L_cue_6 : decode b_L_cue 6 = .ok (.iload_n 3, 1) := by decide +kernel
theorem d_L_cue_7 : decode b_L_cue 7 = .ok (.invokevirtual 38, 3) := by decide +kernel
theorem d_L_cue_10 : decode b_L_cue 10 = .ok (.i2l, 1) := by decide +kernel
theorem d_L_cue_11 : decode b_L_cue 11 = .ok (.lastore, 1) := by decide +kernel
theorem d_L_cue_12 : decode b_L_cue 12 = .ok (.goto 7, 3) := by decide +kernel
theorem d_L_cue_15 : decode b_L_cue 15 = .ok (.astore 5, 2) := by decide +kernel
theorem d_L_cue_17 : decode b_L_cue 17 = .ok (.iconst 1, 1) := by decide +kernel
theorem d_L_cue_18 : decode b_L_cue 18 = .ok (.ireturn, 1) := by decide +kernel
theorem d_L_cue_19 : decode b_L_cue 19 = .ok (.iconst 0, 1) := by decide +kernel
theorem d_L_cue_20 : decode b_L_cue 20 = .ok (.ireturn, 1) := by decide +kernel
theorem d_L_go_0 : decode b_L_go 0 = .ok (.aload 4, 2) := by decide +kernel
theorem d_L_go_2 : decode b_L_go 2 = .ok (.iconst 0, 1) := by decide +kernel
theorem d_L_go_3 : decode b_L_go 3 = .ok (.aload_n 0, 1) := by decide +kernel
theorem d_L_go_4 : decode b_L_go 4 = .ok (.iload_n 1, 1) := by decide +kernel
theorem d_L_go_5 : decode b_L_go 5 = .ok (.iload_n 2, 1) := by decide +kernel
theorem d_L_go_6 : decode b_L_go 6 = .ok (.iload_n 3, 1) := by decide +kernel
theorem d_L_go_7 : decode b_L_go 7 = .ok (.invokevirtual 41, 3) := by decide +kernel
theorem d_L_go_10 : decode b_L_go 10 = .ok (.i2l, 1) := by decide +kernel
theorem d_L_go_11 : decode b_L_go 11 = .ok (.lastore, 1) := by decide +kernel
theorem d_L_go_12 : decode b_L_go 12 = .ok (.goto 11, 3) := by decide +kernel
theorem d_L_go_15 : decode b_L_go 15 = .ok (.astore 5, 2) := by decide +kernel
theorem d_L_go_17 : decode b_L_go 17 = .ok (.iconst 1, 1) := by decide +kernel
theorem d_L_go_18 : decode b_L_go 18 = .ok (.ireturn, 1) := by decide +kernel
theorem d_L_go_19 : decode b_L_go 19 = .ok (.astore 5, 2) := by decide +kernel
theorem d_L_go_21 : decode b_L_go 21 = .ok (.iconst 2, 1) := by decide +kernel
theorem d_L_go_22 : decode b_L_go 22 = .ok (.ireturn, 1) := by decide +kernel
theorem d_L_go_23 : decode b_L_go 23 = .ok (.iconst 0, 1) := by decide +kernel
theorem d_L_go_24 : decode b_L_go 24 = .ok (.ireturn, 1) := by decide +kernel
theorem d_L_out_0 : decode b_L_out 0 = .ok (.aload_n 3, 1) := by decide +kernel
theorem d_L_out_1 : decode b_L_out 1 = .ok (.iconst 0, 1) := by decide +kernel
theorem d_L_out_2 : decode b_L_out 2 = .ok (.aload_n 0, 1) := by decide +kernel
theorem d_L_out_3 : decode b_L_out 3 = .ok (.iload_n 1, 1) := by decide +kernel
theorem d_L_out_4 : decode b_L_out 4 = .ok (.iload_n 2, 1) := by decide +kernel
theorem d_L_out_5 : decode b_L_out 5 = .ok (.invokevirtual 45, 3) := by decide +kernel
theorem d_L_out_8 : decode b_L_out 8 = .ok (.i2l, 1) := by decide +kernel
theorem d_L_out_9 : decode b_L_out 9 = .ok (.lastore, 1) := by decide +kernel
theorem d_L_out_10 : decode b_L_out 10 = .ok (.goto 7, 3) := by decide +kernel
theorem d_L_out_13 : decode b_L_out 13 = .ok (.astore 4, 2) := by decide +kernel
theorem d_L_out_15 : decode b_L_out 15 = .ok (.iconst 1, 1) := by decide +kernel
theorem d_L_out_16 : decode b_L_out 16 = .ok (.ireturn, 1) := by decide +kernel
theorem d_L_out_17 : decode b_L_out 17 = .ok (.iconst 0, 1) := by decide +kernel
theorem d_L_out_18 : decode b_L_out 18 = .ok (.ireturn, 1) := by decide +kernel
theorem d_L_playback_0 : decode b_L_playback 0 = .ok (.aload_n 3, 1) := by decide +kernel
theorem d_L_playback_1 : decode b_L_playback 1 = .ok (.iconst 0, 1) := by decide +kernel
theorem d_L_playback_2 : decode b_L_playback 2 = .ok (.aload_n 0, 1) := by decide +kernel
theorem d_L_playback_3 : decode b_L_playback 3 = .ok (.iload_n 1, 1) := by decide +kernel
theorem d_L_playback_4 : decode b_L_playback 4 = .ok (.iload_n 2, 1) := by decide +kernel
theorem d_L_playback_5 : decode b_L_playback 5 = .ok (.invokevirtual 48, 3) := by decide +kernel
theorem d_L_playback_8 : decode b_L_playback 8 = .ok (.i2l, 1) := by decide +kernel
theorem d_L_playback_9 : decode b_L_playback 9 = .ok (.lastore, 1) := by decide +kernel
theorem d_L_playback_10 : decode b_L_playback 10 = .ok (.goto 7, 3) := by decide +kernel
theorem d_L_playback_13 : decode b_L_playback 13 = .ok (.astore 4, 2) := by decide +kernel
theorem d_L_playback_15 : decode b_L_playback 15 = .ok (.iconst 1, 1) := by decide +kernel
theorem d_L_playback_16 : decode b_L_playback 16 = .ok (.ireturn, 1) := by decide +kernel
theorem d_L_playback_17 : decode b_L_playback 17 = .ok (.iconst 0, 1) := by decide +kernel
theorem d_L_playback_18 : decode b_L_playback 18 = .ok (.ireturn, 1) := by decide +kernel
theorem d_L_law_0 : decode code 0 = .ok (.new 8, 3) := by decide +kernel
theorem d_L_law_3 : decode code 3 = .ok (.dup, 1) := by decide +kernel
theorem d_L_law_4 : decode code 4 = .ok (.invokespecial 51, 3) := by decide +kernel
theorem d_L_law_7 : decode code 7 = .ok (.astore_n 1, 1) := by decide +kernel
theorem d_L_law_8 : decode code 8 = .ok (.new 52, 3) := by decide +kernel
theorem d_L_law_11 : decode code 11 = .ok (.dup, 1) := by decide +kernel
theorem d_L_law_12 : decode code 12 = .ok (.invokespecial 54, 3) := by decide +kernel
theorem d_L_law_15 : decode code 15 = .ok (.astore_n 2, 1) := by decide +kernel
theorem d_L_law_16 : decode code 16 = .ok (.iconst 1, 1) := by decide +kernel
theorem d_L_law_17 : decode code 17 = .ok (.newarray .long, 2) := by decide +kernel
theorem d_L_law_19 : decode code 19 = .ok (.astore_n 3, 1) := by decide +kernel
theorem d_L_law_20 : decode code 20 = .ok (.iconst 0, 1) := by decide +kernel
theorem d_L_law_21 : decode code 21 = .ok (.istore 4, 2) := by decide +kernel
theorem d_L_law_23 : decode code 23 = .ok (.iload 4, 2) := by decide +kernel
theorem d_L_law_25 : decode code 25 = .ok (.aload_n 0, 1) := by decide +kernel
theorem d_L_law_26 : decode code 26 = .ok (.arraylength, 1) := by decide +kernel
theorem d_L_law_27 : decode code 27 = .ok (.iconst 5, 1) := by decide +kernel
theorem d_L_law_28 : decode code 28 = .ok (.isub, 1) := by decide +kernel
theorem d_L_law_29 : decode code 29 = .ok (.if_icmp .gt 1359, 3) := by decide +kernel
theorem d_L_law_32 : decode code 32 = .ok (.aload_n 0, 1) := by decide +kernel
theorem d_L_law_33 : decode code 33 = .ok (.iload 4, 2) := by decide +kernel
theorem d_L_law_35 : decode code 35 = .ok (.iaload, 1) := by decide +kernel
theorem d_L_law_36 : decode code 36 = .ok (.bipush 31, 2) := by decide +kernel
theorem d_L_law_38 : decode code 38 = .ok (.iand, 1) := by decide +kernel
theorem d_L_law_39 : decode code 39 = .ok (.tableswitch 1343 0 19 #[93, 146, 183, 220, 245, 294, 390, 458, 554, 650, 711, 772, 852, 932, 1012, 1049, 1145, 1182, 1250, 1318], 93) := by decide +kernel
theorem d_L_law_132 : decode code 132 = .ok (.aload_n 1, 1) := by decide +kernel
theorem d_L_law_133 : decode code 133 = .ok (.aload_n 0, 1) := by decide +kernel
theorem d_L_law_134 : decode code 134 = .ok (.iload 4, 2) := by decide +kernel
theorem d_L_law_136 : decode code 136 = .ok (.iconst 1, 1) := by decide +kernel
theorem d_L_law_137 : decode code 137 = .ok (.iadd, 1) := by decide +kernel
theorem d_L_law_138 : decode code 138 = .ok (.iaload, 1) := by decide +kernel
theorem d_L_law_139 : decode code 139 = .ok (.aload_n 0, 1) := by decide +kernel
theorem d_L_law_140 : decode code 140 = .ok (.iload 4, 2) := by decide +kernel
theorem d_L_law_142 : decode code 142 = .ok (.iconst 2, 1) := by decide +kernel
theorem d_L_law_143 : decode code 143 = .ok (.iadd, 1) := by decide +kernel
theorem d_L_law_144 : decode code 144 = .ok (.iaload, 1) := by decide +kernel
theorem d_L_law_145 : decode code 145 = .ok (.ifCond .eq 7, 3) := by decide +kernel
theorem d_L_law_148 : decode code 148 = .ok (.iconst 1, 1) := by decide +kernel
theorem d_L_law_149 : decode code 149 = .ok (.goto 4, 3) := by decide +kernel
theorem d_L_law_152 : decode code 152 = .ok (.iconst 0, 1) := by decide +kernel
theorem d_L_law_153 : decode code 153 = .ok (.invokevirtual 55, 3) := by decide +kernel
theorem d_L_law_156 : decode code 156 = .ok (.aload_n 2, 1) := by decide +kernel
theorem d_L_law_157 : decode code 157 = .ok (.aload_n 0, 1) := by decide +kernel
theorem d_L_law_158 : decode code 158 = .ok (.iload 4, 2) := by decide +kernel
theorem d_L_law_160 : decode code 160 = .ok (.iconst 1, 1) := by decide +kernel
theorem d_L_law_161 : decode code 161 = .ok (.iadd, 1) := by decide +kernel
theorem d_L_law_162 : decode code 162 = .ok (.iaload, 1) := by decide +kernel
theorem d_L_law_163 : decode code 163 = .ok (.aload_n 0, 1) := by decide +kernel
theorem d_L_law_164 : decode code 164 = .ok (.iload 4, 2) := by decide +kernel
theorem d_L_law_166 : decode code 166 = .ok (.iconst 2, 1) := by decide +kernel
theorem d_L_law_167 : decode code 167 = .ok (.iadd, 1) := by decide +kernel
theorem d_L_law_168 : decode code 168 = .ok (.iaload, 1) := by decide +kernel
theorem d_L_law_169 : decode code 169 = .ok (.ifCond .eq 7, 3) := by decide +kernel
theorem d_L_law_172 : decode code 172 = .ok (.iconst 1, 1) := by decide +kernel
theorem d_L_law_173 : decode code 173 = .ok (.goto 4, 3) := by decide +kernel
theorem d_L_law_176 : decode code 176 = .ok (.iconst 0, 1) := by decide +kernel
theorem d_L_law_177 : decode code 177 = .ok (.invokevirtual 59, 3) := by decide +kernel
theorem d_L_law_180 : decode code 180 = .ok (.if_icmp .eq 1202, 3) := by decide +kernel
theorem d_L_law_183 : decode code 183 = .ok (.iconst 0, 1) := by decide +kernel
theorem d_L_law_184 : decode code 184 = .ok (.ireturn, 1) := by decide +kernel
theorem d_L_law_185 : decode code 185 = .ok (.aload_n 1, 1) := by decide +kernel
theorem d_L_law_186 : decode code 186 = .ok (.aload_n 0, 1) := by decide +kernel
theorem d_L_law_187 : decode code 187 = .ok (.iload 4, 2) := by decide +kernel
theorem d_L_law_189 : decode code 189 = .ok (.iconst 1, 1) := by decide +kernel
theorem d_L_law_190 : decode code 190 = .ok (.iadd, 1) := by decide +kernel
theorem d_L_law_191 : decode code 191 = .ok (.iaload, 1) := by decide +kernel
theorem d_L_law_192 : decode code 192 = .ok (.aload_n 0, 1) := by decide +kernel
theorem d_L_law_193 : decode code 193 = .ok (.iload 4, 2) := by decide +kernel
theorem d_L_law_195 : decode code 195 = .ok (.iconst 2, 1) := by decide +kernel
theorem d_L_law_196 : decode code 196 = .ok (.iadd, 1) := by decide +kernel
theorem d_L_law_197 : decode code 197 = .ok (.iaload, 1) := by decide +kernel
theorem d_L_law_198 : decode code 198 = .ok (.invokevirtual 60, 3) := by decide +kernel
theorem d_L_law_201 : decode code 201 = .ok (.aload_n 2, 1) := by decide +kernel
theorem d_L_law_202 : decode code 202 = .ok (.aload_n 0, 1) := by decide +kernel
theorem d_L_law_203 : decode code 203 = .ok (.iload 4, 2) := by decide +kernel
theorem d_L_law_205 : decode code 205 = .ok (.iconst 1, 1) := by decide +kernel
theorem d_L_law_206 : decode code 206 = .ok (.iadd, 1) := by decide +kernel
theorem d_L_law_207 : decode code 207 = .ok (.iaload, 1) := by decide +kernel
theorem d_L_law_208 : decode code 208 = .ok (.aload_n 0, 1) := by decide +kernel
theorem d_L_law_209 : decode code 209 = .ok (.iload 4, 2) := by decide +kernel
theorem d_L_law_211 : decode code 211 = .ok (.iconst 2, 1) := by decide +kernel
theorem d_L_law_212 : decode code 212 = .ok (.iadd, 1) := by decide +kernel
theorem d_L_law_213 : decode code 213 = .ok (.iaload, 1) := by decide +kernel
theorem d_L_law_214 : decode code 214 = .ok (.invokevirtual 64, 3) := by decide +kernel
theorem d_L_law_217 : decode code 217 = .ok (.if_icmp .eq 1165, 3) := by decide +kernel
theorem d_L_law_220 : decode code 220 = .ok (.iconst 0, 1) := by decide +kernel
theorem d_L_law_221 : decode code 221 = .ok (.ireturn, 1) := by decide +kernel
theorem d_L_law_222 : decode code 222 = .ok (.aload_n 1, 1) := by decide +kernel
theorem d_L_law_223 : decode code 223 = .ok (.aload_n 0, 1) := by decide +kernel
theorem d_L_law_224 : decode code 224 = .ok (.iload 4, 2) := by decide +kernel
theorem d_L_law_226 : decode code 226 = .ok (.iconst 1, 1) := by decide +kernel
theorem d_L_law_227 : decode code 227 = .ok (.iadd, 1) := by decide +kernel
theorem d_L_law_228 : decode code 228 = .ok (.iaload, 1) := by decide +kernel
theorem d_L_law_229 : decode code 229 = .ok (.aload_n 0, 1) := by decide +kernel
theorem d_L_law_230 : decode code 230 = .ok (.iload 4, 2) := by decide +kernel
theorem d_L_law_232 : decode code 232 = .ok (.iconst 2, 1) := by decide +kernel
theorem d_L_law_233 : decode code 233 = .ok (.iadd, 1) := by decide +kernel
theorem d_L_law_234 : decode code 234 = .ok (.iaload, 1) := by decide +kernel
theorem d_L_law_235 : decode code 235 = .ok (.invokevirtual 65, 3) := by decide +kernel
theorem d_L_law_238 : decode code 238 = .ok (.aload_n 2, 1) := by decide +kernel
theorem d_L_law_239 : decode code 239 = .ok (.aload_n 0, 1) := by decide +kernel
theorem d_L_law_240 : decode code 240 = .ok (.iload 4, 2) := by decide +kernel
theorem d_L_law_242 : decode code 242 = .ok (.iconst 1, 1) := by decide +kernel
theorem d_L_law_243 : decode code 243 = .ok (.iadd, 1) := by decide +kernel
theorem d_L_law_244 : decode code 244 = .ok (.iaload, 1) := by decide +kernel
theorem d_L_law_245 : decode code 245 = .ok (.aload_n 0, 1) := by decide +kernel
theorem d_L_law_246 : decode code 246 = .ok (.iload 4, 2) := by decide +kernel
theorem d_L_law_248 : decode code 248 = .ok (.iconst 2, 1) := by decide +kernel
theorem d_L_law_249 : decode code 249 = .ok (.iadd, 1) := by decide +kernel
theorem d_L_law_250 : decode code 250 = .ok (.iaload, 1) := by decide +kernel
theorem d_L_law_251 : decode code 251 = .ok (.invokevirtual 68, 3) := by decide +kernel
theorem d_L_law_254 : decode code 254 = .ok (.if_icmp .eq 1128, 3) := by decide +kernel
theorem d_L_law_257 : decode code 257 = .ok (.iconst 0, 1) := by decide +kernel
theorem d_L_law_258 : decode code 258 = .ok (.ireturn, 1) := by decide +kernel
theorem d_L_law_259 : decode code 259 = .ok (.aload_n 1, 1) := by decide +kernel
theorem d_L_law_260 : decode code 260 = .ok (.aload_n 0, 1) := by decide +kernel
theorem d_L_law_261 : decode code 261 = .ok (.iload 4, 2) := by decide +kernel
theorem d_L_law_263 : decode code 263 = .ok (.iconst 1, 1) := by decide +kernel
theorem d_L_law_264 : decode code 264 = .ok (.iadd, 1) := by decide +kernel
theorem d_L_law_265 : decode code 265 = .ok (.iaload, 1) := by decide +kernel
theorem d_L_law_266 : decode code 266 = .ok (.invokevirtual 69, 3) := by decide +kernel
theorem d_L_law_269 : decode code 269 = .ok (.aload_n 2, 1) := by decide +kernel
theorem d_L_law_270 : decode code 270 = .ok (.aload_n 0, 1) := by decide +kernel
theorem d_L_law_271 : decode code 271 = .ok (.iload 4, 2) := by decide +kernel
theorem d_L_law_273 : decode code 273 = .ok (.iconst 1, 1) := by decide +kernel
theorem d_L_law_274 : decode code 274 = .ok (.iadd, 1) := by decide +kernel
theorem d_L_law_275 : decode code 275 = .ok (.iaload, 1) := by decide +kernel
theorem d_L_law_276 : decode code 276 = .ok (.invokevirtual 73, 3) := by decide +kernel
theorem d_L_law_279 : decode code 279 = .ok (.if_icmp .eq 1103, 3) := by decide +kernel
theorem d_L_law_282 : decode code 282 = .ok (.iconst 0, 1) := by decide +kernel
theorem d_L_law_283 : decode code 283 = .ok (.ireturn, 1) := by decide +kernel
theorem d_L_law_284 : decode code 284 = .ok (.aload_n 1, 1) := by decide +kernel
theorem d_L_law_285 : decode code 285 = .ok (.aload_n 0, 1) := by decide +kernel
theorem d_L_law_286 : decode code 286 = .ok (.iload 4, 2) := by decide +kernel
theorem d_L_law_288 : decode code 288 = .ok (.iconst 1, 1) := by decide +kernel
theorem d_L_law_289 : decode code 289 = .ok (.iadd, 1) := by decide +kernel
theorem d_L_law_290 : decode code 290 = .ok (.iaload, 1) := by decide +kernel
theorem d_L_law_291 : decode code 291 = .ok (.aload_n 0, 1) := by decide +kernel
theorem d_L_law_292 : decode code 292 = .ok (.iload 4, 2) := by decide +kernel
theorem d_L_law_294 : decode code 294 = .ok (.iconst 2, 1) := by decide +kernel
theorem d_L_law_295 : decode code 295 = .ok (.iadd, 1) := by decide +kernel
theorem d_L_law_296 : decode code 296 = .ok (.iaload, 1) := by decide +kernel
theorem d_L_law_297 : decode code 297 = .ok (.aload_n 0, 1) := by decide +kernel
theorem d_L_law_298 : decode code 298 = .ok (.iload 4, 2) := by decide +kernel
theorem d_L_law_300 : decode code 300 = .ok (.iconst 3, 1) := by decide +kernel
theorem d_L_law_301 : decode code 301 = .ok (.iadd, 1) := by decide +kernel
theorem d_L_law_302 : decode code 302 = .ok (.iaload, 1) := by decide +kernel
theorem d_L_law_303 : decode code 303 = .ok (.invokevirtual 74, 3) := by decide +kernel
theorem d_L_law_306 : decode code 306 = .ok (.aload_n 2, 1) := by decide +kernel
theorem d_L_law_307 : decode code 307 = .ok (.aload_n 0, 1) := by decide +kernel
theorem d_L_law_308 : decode code 308 = .ok (.iload 4, 2) := by decide +kernel
theorem d_L_law_310 : decode code 310 = .ok (.iconst 1, 1) := by decide +kernel
theorem d_L_law_311 : decode code 311 = .ok (.iadd, 1) := by decide +kernel
theorem d_L_law_312 : decode code 312 = .ok (.iaload, 1) := by decide +kernel
theorem d_L_law_313 : decode code 313 = .ok (.aload_n 0, 1) := by decide +kernel
theorem d_L_law_314 : decode code 314 = .ok (.iload 4, 2) := by decide +kernel
theorem d_L_law_316 : decode code 316 = .ok (.iconst 2, 1) := by decide +kernel
theorem d_L_law_317 : decode code 317 = .ok (.iadd, 1) := by decide +kernel
theorem d_L_law_318 : decode code 318 = .ok (.iaload, 1) := by decide +kernel
theorem d_L_law_319 : decode code 319 = .ok (.aload_n 0, 1) := by decide +kernel
theorem d_L_law_320 : decode code 320 = .ok (.iload 4, 2) := by decide +kernel
theorem d_L_law_322 : decode code 322 = .ok (.iconst 3, 1) := by decide +kernel
theorem d_L_law_323 : decode code 323 = .ok (.iadd, 1) := by decide +kernel
theorem d_L_law_324 : decode code 324 = .ok (.iaload, 1) := by decide +kernel
theorem d_L_law_325 : decode code 325 = .ok (.invokevirtual 78, 3) := by decide +kernel
theorem d_L_law_328 : decode code 328 = .ok (.if_icmp .eq 1054, 3) := by decide +kernel
theorem d_L_law_331 : decode code 331 = .ok (.iconst 0, 1) := by decide +kernel
theorem d_L_law_332 : decode code 332 = .ok (.ireturn, 1) := by decide +kernel
theorem d_L_law_333 : decode code 333 = .ok (.aload_n 1, 1) := by decide +kernel
theorem d_L_law_334 : decode code 334 = .ok (.aload_n 0, 1) := by decide +kernel
theorem d_L_law_335 : decode code 335 = .ok (.iload 4, 2) := by decide +kernel
theorem d_L_law_337 : decode code 337 = .ok (.iconst 1, 1) := by decide +kernel
theorem d_L_law_338 : decode code 338 = .ok (.iadd, 1) := by decide +kernel
theorem d_L_law_339 : decode code 339 = .ok (.iaload, 1) := by decide +kernel
theorem d_L_law_340 : decode code 340 = .ok (.aload_n 0, 1) := by decide +kernel
theorem d_L_law_341 : decode code 341 = .ok (.iload 4, 2) := by decide +kernel
theorem d_L_law_343 : decode code 343 = .ok (.iconst 2, 1) := by decide +kernel
theorem d_L_law_344 : decode code 344 = .ok (.iadd, 1) := by decide +kernel
theorem d_L_law_345 : decode code 345 = .ok (.iaload, 1) := by decide +kernel
theorem d_L_law_346 : decode code 346 = .ok (.aload_n 0, 1) := by decide +kernel
theorem d_L_law_347 : decode code 347 = .ok (.iload 4, 2) := by decide +kernel
theorem d_L_law_349 : decode code 349 = .ok (.iconst 3, 1) := by decide +kernel
theorem d_L_law_350 : decode code 350 = .ok (.iadd, 1) := by decide +kernel
theorem d_L_law_351 : decode code 351 = .ok (.iaload, 1) := by decide +kernel
theorem d_L_law_352 : decode code 352 = .ok (.ifCond .eq 7, 3) := by decide +kernel
theorem d_L_law_355 : decode code 355 = .ok (.iconst 1, 1) := by decide +kernel
theorem d_L_law_356 : decode code 356 = .ok (.goto 4, 3) := by decide +kernel
theorem d_L_law_359 : decode code 359 = .ok (.iconst 0, 1) := by decide +kernel
theorem d_L_law_360 : decode code 360 = .ok (.aload_n 3, 1) := by decide +kernel
theorem d_L_law_361 : decode code 361 = .ok (.invokestatic 79, 3) := by decide +kernel
theorem d_L_law_364 : decode code 364 = .ok (.istore 5, 2) := by decide +kernel
theorem d_L_law_366 : decode code 366 = .ok (.aload_n 2, 1) := by decide +kernel
theorem d_L_law_367 : decode code 367 = .ok (.aload_n 0, 1) := by decide +kernel
theorem d_L_law_368 : decode code 368 = .ok (.iload 4, 2) := by decide +kernel
theorem d_L_law_370 : decode code 370 = .ok (.iconst 1, 1) := by decide +kernel
theorem d_L_law_371 : decode code 371 = .ok (.iadd, 1) := by decide +kernel
theorem d_L_law_372 : decode code 372 = .ok (.iaload, 1) := by decide +kernel
theorem d_L_law_373 : decode code 373 = .ok (.aload_n 0, 1) := by decide +kernel
theorem d_L_law_374 : decode code 374 = .ok (.iload 4, 2) := by decide +kernel
theorem d_L_law_376 : decode code 376 = .ok (.iconst 2, 1) := by decide +kernel
theorem d_L_law_377 : decode code 377 = .ok (.iadd, 1) := by decide +kernel
theorem d_L_law_378 : decode code 378 = .ok (.iaload, 1) := by decide +kernel
theorem d_L_law_379 : decode code 379 = .ok (.aload_n 0, 1) := by decide +kernel
theorem d_L_law_380 : decode code 380 = .ok (.iload 4, 2) := by decide +kernel
theorem d_L_law_382 : decode code 382 = .ok (.iconst 3, 1) := by decide +kernel
theorem d_L_law_383 : decode code 383 = .ok (.iadd, 1) := by decide +kernel
theorem d_L_law_384 : decode code 384 = .ok (.iaload, 1) := by decide +kernel
theorem d_L_law_385 : decode code 385 = .ok (.ifCond .eq 7, 3) := by decide +kernel
theorem d_L_law_388 : decode code 388 = .ok (.iconst 1, 1) := by decide +kernel
theorem d_L_law_389 : decode code 389 = .ok (.goto 4, 3) := by decide +kernel
theorem d_L_law_392 : decode code 392 = .ok (.iconst 0, 1) := by decide +kernel
theorem d_L_law_393 : decode code 393 = .ok (.invokevirtual 84, 3) := by decide +kernel
theorem d_L_law_396 : decode code 396 = .ok (.istore 6, 2) := by decide +kernel
theorem d_L_law_398 : decode code 398 = .ok (.aload_n 2, 1) := by decide +kernel
theorem d_L_law_399 : decode code 399 = .ok (.invokevirtual 85, 3) := by decide +kernel
theorem d_L_law_402 : decode code 402 = .ok (.iload 5, 2) := by decide +kernel
theorem d_L_law_404 : decode code 404 = .ok (.if_icmp .eq 5, 3) := by decide +kernel
theorem d_L_law_407 : decode code 407 = .ok (.iconst 0, 1) := by decide +kernel
theorem d_L_law_408 : decode code 408 = .ok (.ireturn, 1) := by decide +kernel
theorem d_L_law_409 : decode code 409 = .ok (.iload 5, 2) := by decide +kernel
theorem d_L_law_411 : decode code 411 = .ok (.ifCond .ne 15, 3) := by decide +kernel
theorem d_L_law_414 : decode code 414 = .ok (.aload_n 3, 1) := by decide +kernel
theorem d_L_law_415 : decode code 415 = .ok (.iconst 0, 1) := by decide +kernel
theorem d_L_law_416 : decode code 416 = .ok (.laload, 1) := by decide +kernel
theorem d_L_law_417 : decode code 417 = .ok (.iload 6, 2) := by decide +kernel
theorem d_L_law_419 : decode code 419 = .ok (.i2l, 1) := by decide +kernel
theorem d_L_law_420 : decode code 420 = .ok (.lcmp, 1) := by decide +kernel
theorem d_L_law_421 : decode code 421 = .ok (.ifCond .eq 5, 3) := by decide +kernel
theorem d_L_law_424 : decode code 424 = .ok (.iconst 0, 1) := by decide +kernel
theorem d_L_law_425 : decode code 425 = .ok (.ireturn, 1) := by decide +kernel
theorem d_L_law_426 : decode code 426 = .ok (.goto 956, 3) := by decide +kernel
theorem d_L_law_429 : decode code 429 = .ok (.aload_n 1, 1) := by decide +kernel
theorem d_L_law_430 : decode code 430 = .ok (.aload_n 0, 1) := by decide +kernel
theorem d_L_law_431 : decode code 431 = .ok (.iload 4, 2) := by decide +kernel
theorem d_L_law_433 : decode code 433 = .ok (.iconst 1, 1) := by decide +kernel
theorem d_L_law_434 : decode code 434 = .ok (.iadd, 1) := by decide +kernel
theorem d_L_law_435 : decode code 435 = .ok (.iaload, 1) := by decide +kernel
theorem d_L_law_436 : decode code 436 = .ok (.aload_n 0, 1) := by decide +kernel
theorem d_L_law_437 : decode code 437 = .ok (.iload 4, 2) := by decide +kernel
theorem d_L_law_439 : decode code 439 = .ok (.iconst 2, 1) := by decide +kernel
theorem d_L_law_440 : decode code 440 = .ok (.iadd, 1) := by decide +kernel
theorem d_L_law_441 : decode code 441 = .ok (.iaload, 1) := by decide +kernel
theorem d_L_law_442 : decode code 442 = .ok (.aload_n 3, 1) := by decide +kernel
theorem d_L_law_443 : decode code 443 = .ok (.invokestatic 89, 3) := by decide +kernel
theorem d_L_law_446 : decode code 446 = .ok (.istore 5, 2) := by decide +kernel
theorem d_L_law_448 : decode code 448 = .ok (.aload_n 2, 1) := by decide +kernel
theorem d_L_law_449 : decode code 449 = .ok (.aload_n 0, 1) := by decide +kernel
theorem d_L_law_450 : decode code 450 = .ok (.iload 4, 2) := by decide +kernel
theorem d_L_law_452 : decode code 452 = .ok (.iconst 1, 1) := by decide +kernel
theorem d_L_law_453 : decode code 453 = .ok (.iadd, 1) := by decide +kernel
theorem d_L_law_454 : decode code 454 = .ok (.iaload, 1) := by decide +kernel
theorem d_L_law_455 : decode code 455 = .ok (.aload_n 0, 1) := by decide +kernel
theorem d_L_law_456 : decode code 456 = .ok (.iload 4, 2) := by decide +kernel
theorem d_L_law_458 : decode code 458 = .ok (.iconst 2, 1) := by decide +kernel
theorem d_L_law_459 : decode code 459 = .ok (.iadd, 1) := by decide +kernel
theorem d_L_law_460 : decode code 460 = .ok (.iaload, 1) := by decide +kernel
theorem d_L_law_461 : decode code 461 = .ok (.invokevirtual 92, 3) := by decide +kernel
theorem d_L_law_464 : decode code 464 = .ok (.istore 6, 2) := by decide +kernel
theorem d_L_law_466 : decode code 466 = .ok (.aload_n 2, 1) := by decide +kernel
theorem d_L_law_467 : decode code 467 = .ok (.invokevirtual 85, 3) := by decide +kernel
theorem d_L_law_470 : decode code 470 = .ok (.iload 5, 2) := by decide +kernel
theorem d_L_law_472 : decode code 472 = .ok (.if_icmp .eq 5, 3) := by decide +kernel
theorem d_L_law_475 : decode code 475 = .ok (.iconst 0, 1) := by decide +kernel
theorem d_L_law_476 : decode code 476 = .ok (.ireturn, 1) := by decide +kernel
theorem d_L_law_477 : decode code 477 = .ok (.iload 5, 2) := by decide +kernel
theorem d_L_law_479 : decode code 479 = .ok (.ifCond .ne 15, 3) := by decide +kernel
theorem d_L_law_482 : decode code 482 = .ok (.aload_n 3, 1) := by decide +kernel
theorem d_L_law_483 : decode code 483 = .ok (.iconst 0, 1) := by decide +kernel
theorem d_L_law_484 : decode code 484 = .ok (.laload, 1) := by decide +kernel
theorem d_L_law_485 : decode code 485 = .ok (.iload 6, 2) := by decide +kernel
theorem d_L_law_487 : decode code 487 = .ok (.i2l, 1) := by decide +kernel
theorem d_L_law_488 : decode code 488 = .ok (.lcmp, 1) := by decide +kernel
theorem d_L_law_489 : decode code 489 = .ok (.ifCond .eq 5, 3) := by decide +kernel
theorem d_L_law_492 : decode code 492 = .ok (.iconst 0, 1) := by decide +kernel
theorem d_L_law_493 : decode code 493 = .ok (.ireturn, 1) := by decide +kernel
theorem d_L_law_494 : decode code 494 = .ok (.goto 888, 3) := by decide +kernel
theorem d_L_law_497 : decode code 497 = .ok (.aload_n 1, 1) := by decide +kernel
theorem d_L_law_498 : decode code 498 = .ok (.aload_n 0, 1) := by decide +kernel
theorem d_L_law_499 : decode code 499 = .ok (.iload 4, 2) := by decide +kernel
theorem d_L_law_501 : decode code 501 = .ok (.iconst 1, 1) := by decide +kernel
theorem d_L_law_502 : decode code 502 = .ok (.iadd, 1) := by decide +kernel
theorem d_L_law_503 : decode code 503 = .ok (.iaload, 1) := by decide +kernel
theorem d_L_law_504 : decode code 504 = .ok (.aload_n 0, 1) := by decide +kernel
theorem d_L_law_505 : decode code 505 = .ok (.iload 4, 2) := by decide +kernel
theorem d_L_law_507 : decode code 507 = .ok (.iconst 2, 1) := by decide +kernel
theorem d_L_law_508 : decode code 508 = .ok (.iadd, 1) := by decide +kernel
theorem d_L_law_509 : decode code 509 = .ok (.iaload, 1) := by decide +kernel
theorem d_L_law_510 : decode code 510 = .ok (.aload_n 0, 1) := by decide +kernel
theorem d_L_law_511 : decode code 511 = .ok (.iload 4, 2) := by decide +kernel
theorem d_L_law_513 : decode code 513 = .ok (.iconst 3, 1) := by decide +kernel
theorem d_L_law_514 : decode code 514 = .ok (.iadd, 1) := by decide +kernel
theorem d_L_law_515 : decode code 515 = .ok (.iaload, 1) := by decide +kernel
theorem d_L_law_516 : decode code 516 = .ok (.ifCond .eq 7, 3) := by decide +kernel
theorem d_L_law_519 : decode code 519 = .ok (.iconst 1, 1) := by decide +kernel
theorem d_L_law_520 : decode code 520 = .ok (.goto 4, 3) := by decide +kernel
theorem d_L_law_523 : decode code 523 = .ok (.iconst 0, 1) := by decide +kernel
theorem d_L_law_524 : decode code 524 = .ok (.aload_n 3, 1) := by decide +kernel
theorem d_L_law_525 : decode code 525 = .ok (.invokestatic 93, 3) := by decide +kernel
theorem d_L_law_528 : decode code 528 = .ok (.istore 5, 2) := by decide +kernel
theorem d_L_law_530 : decode code 530 = .ok (.aload_n 2, 1) := by decide +kernel
theorem d_L_law_531 : decode code 531 = .ok (.aload_n 0, 1) := by decide +kernel
theorem d_L_law_532 : decode code 532 = .ok (.iload 4, 2) := by decide +kernel
theorem d_L_law_534 : decode code 534 = .ok (.iconst 1, 1) := by decide +kernel
theorem d_L_law_535 : decode code 535 = .ok (.iadd, 1) := by decide +kernel
theorem d_L_law_536 : decode code 536 = .ok (.iaload, 1) := by decide +kernel
theorem d_L_law_537 : decode code 537 = .ok (.aload_n 0, 1) := by decide +kernel
theorem d_L_law_538 : decode code 538 = .ok (.iload 4, 2) := by decide +kernel
theorem d_L_law_540 : decode code 540 = .ok (.iconst 2, 1) := by decide +kernel
theorem d_L_law_541 : decode code 541 = .ok (.iadd, 1) := by decide +kernel
theorem d_L_law_542 : decode code 542 = .ok (.iaload, 1) := by decide +kernel
theorem d_L_law_543 : decode code 543 = .ok (.aload_n 0, 1) := by decide +kernel
theorem d_L_law_544 : decode code 544 = .ok (.iload 4, 2) := by decide +kernel
theorem d_L_law_546 : decode code 546 = .ok (.iconst 3, 1) := by decide +kernel
theorem d_L_law_547 : decode code 547 = .ok (.iadd, 1) := by decide +kernel
theorem d_L_law_548 : decode code 548 = .ok (.iaload, 1) := by decide +kernel
theorem d_L_law_549 : decode code 549 = .ok (.ifCond .eq 7, 3) := by decide +kernel
theorem d_L_law_552 : decode code 552 = .ok (.iconst 1, 1) := by decide +kernel
theorem d_L_law_553 : decode code 553 = .ok (.goto 4, 3) := by decide +kernel
theorem d_L_law_556 : decode code 556 = .ok (.iconst 0, 1) := by decide +kernel
theorem d_L_law_557 : decode code 557 = .ok (.invokevirtual 95, 3) := by decide +kernel
theorem d_L_law_560 : decode code 560 = .ok (.istore 6, 2) := by decide +kernel
theorem d_L_law_562 : decode code 562 = .ok (.aload_n 2, 1) := by decide +kernel
theorem d_L_law_563 : decode code 563 = .ok (.invokevirtual 85, 3) := by decide +kernel
theorem d_L_law_566 : decode code 566 = .ok (.iload 5, 2) := by decide +kernel
theorem d_L_law_568 : decode code 568 = .ok (.if_icmp .eq 5, 3) := by decide +kernel
theorem d_L_law_571 : decode code 571 = .ok (.iconst 0, 1) := by decide +kernel
theorem d_L_law_572 : decode code 572 = .ok (.ireturn, 1) := by decide +kernel
theorem d_L_law_573 : decode code 573 = .ok (.iload 5, 2) := by decide +kernel
theorem d_L_law_575 : decode code 575 = .ok (.ifCond .ne 15, 3) := by decide +kernel
theorem d_L_law_578 : decode code 578 = .ok (.aload_n 3, 1) := by decide +kernel
theorem d_L_law_579 : decode code 579 = .ok (.iconst 0, 1) := by decide +kernel
theorem d_L_law_580 : decode code 580 = .ok (.laload, 1) := by decide +kernel
theorem d_L_law_581 : decode code 581 = .ok (.iload 6, 2) := by decide +kernel
theorem d_L_law_583 : decode code 583 = .ok (.i2l, 1) := by decide +kernel
theorem d_L_law_584 : decode code 584 = .ok (.lcmp, 1) := by decide +kernel
theorem d_L_law_585 : decode code 585 = .ok (.ifCond .eq 5, 3) := by decide +kernel
theorem d_L_law_588 : decode code 588 = .ok (.iconst 0, 1) := by decide +kernel
theorem d_L_law_589 : decode code 589 = .ok (.ireturn, 1) := by decide +kernel
theorem d_L_law_590 : decode code 590 = .ok (.goto 792, 3) := by decide +kernel
theorem d_L_law_593 : decode code 593 = .ok (.aload_n 1, 1) := by decide +kernel
theorem d_L_law_594 : decode code 594 = .ok (.aload_n 0, 1) := by decide +kernel
theorem d_L_law_595 : decode code 595 = .ok (.iload 4, 2) := by decide +kernel
theorem d_L_law_597 : decode code 597 = .ok (.iconst 1, 1) := by decide +kernel
theorem d_L_law_598 : decode code 598 = .ok (.iadd, 1) := by decide +kernel
theorem d_L_law_599 : decode code 599 = .ok (.iaload, 1) := by decide +kernel
theorem d_L_law_600 : decode code 600 = .ok (.aload_n 0, 1) := by decide +kernel
theorem d_L_law_601 : decode code 601 = .ok (.iload 4, 2) := by decide +kernel
theorem d_L_law_603 : decode code 603 = .ok (.iconst 2, 1) := by decide +kernel
theorem d_L_law_604 : decode code 604 = .ok (.iadd, 1) := by decide +kernel
theorem d_L_law_605 : decode code 605 = .ok (.iaload, 1) := by decide +kernel
theorem d_L_law_606 : decode code 606 = .ok (.aload_n 0, 1) := by decide +kernel
theorem d_L_law_607 : decode code 607 = .ok (.iload 4, 2) := by decide +kernel
theorem d_L_law_609 : decode code 609 = .ok (.iconst 3, 1) := by decide +kernel
theorem d_L_law_610 : decode code 610 = .ok (.iadd, 1) := by decide +kernel
theorem d_L_law_611 : decode code 611 = .ok (.iaload, 1) := by decide +kernel
theorem d_L_law_612 : decode code 612 = .ok (.ifCond .eq 7, 3) := by decide +kernel
theorem d_L_law_615 : decode code 615 = .ok (.iconst 1, 1) := by decide +kernel
theorem d_L_law_616 : decode code 616 = .ok (.goto 4, 3) := by decide +kernel
theorem d_L_law_619 : decode code 619 = .ok (.iconst 0, 1) := by decide +kernel
theorem d_L_law_620 : decode code 620 = .ok (.aload_n 3, 1) := by decide +kernel
theorem d_L_law_621 : decode code 621 = .ok (.invokestatic 96, 3) := by decide +kernel
theorem d_L_law_624 : decode code 624 = .ok (.istore 5, 2) := by decide +kernel
theorem d_L_law_626 : decode code 626 = .ok (.aload_n 2, 1) := by decide +kernel
theorem d_L_law_627 : decode code 627 = .ok (.aload_n 0, 1) := by decide +kernel
theorem d_L_law_628 : decode code 628 = .ok (.iload 4, 2) := by decide +kernel
theorem d_L_law_630 : decode code 630 = .ok (.iconst 1, 1) := by decide +kernel
theorem d_L_law_631 : decode code 631 = .ok (.iadd, 1) := by decide +kernel
theorem d_L_law_632 : decode code 632 = .ok (.iaload, 1) := by decide +kernel
theorem d_L_law_633 : decode code 633 = .ok (.aload_n 0, 1) := by decide +kernel
theorem d_L_law_634 : decode code 634 = .ok (.iload 4, 2) := by decide +kernel
theorem d_L_law_636 : decode code 636 = .ok (.iconst 2, 1) := by decide +kernel
theorem d_L_law_637 : decode code 637 = .ok (.iadd, 1) := by decide +kernel
theorem d_L_law_638 : decode code 638 = .ok (.iaload, 1) := by decide +kernel
theorem d_L_law_639 : decode code 639 = .ok (.aload_n 0, 1) := by decide +kernel
theorem d_L_law_640 : decode code 640 = .ok (.iload 4, 2) := by decide +kernel
theorem d_L_law_642 : decode code 642 = .ok (.iconst 3, 1) := by decide +kernel
theorem d_L_law_643 : decode code 643 = .ok (.iadd, 1) := by decide +kernel
theorem d_L_law_644 : decode code 644 = .ok (.iaload, 1) := by decide +kernel
theorem d_L_law_645 : decode code 645 = .ok (.ifCond .eq 7, 3) := by decide +kernel
theorem d_L_law_648 : decode code 648 = .ok (.iconst 1, 1) := by decide +kernel
theorem d_L_law_649 : decode code 649 = .ok (.goto 4, 3) := by decide +kernel
theorem d_L_law_652 : decode code 652 = .ok (.iconst 0, 1) := by decide +kernel
theorem d_L_law_653 : decode code 653 = .ok (.invokevirtual 98, 3) := by decide +kernel
theorem d_L_law_656 : decode code 656 = .ok (.istore 6, 2) := by decide +kernel
theorem d_L_law_658 : decode code 658 = .ok (.aload_n 2, 1) := by decide +kernel
theorem d_L_law_659 : decode code 659 = .ok (.invokevirtual 85, 3) := by decide +kernel
theorem d_L_law_662 : decode code 662 = .ok (.iload 5, 2) := by decide +kernel
theorem d_L_law_664 : decode code 664 = .ok (.if_icmp .eq 5, 3) := by decide +kernel
theorem d_L_law_667 : decode code 667 = .ok (.iconst 0, 1) := by decide +kernel
theorem d_L_law_668 : decode code 668 = .ok (.ireturn, 1) := by decide +kernel
theorem d_L_law_669 : decode code 669 = .ok (.iload 5, 2) := by decide +kernel
theorem d_L_law_671 : decode code 671 = .ok (.ifCond .ne 15, 3) := by decide +kernel
theorem d_L_law_674 : decode code 674 = .ok (.aload_n 3, 1) := by decide +kernel
theorem d_L_law_675 : decode code 675 = .ok (.iconst 0, 1) := by decide +kernel
theorem d_L_law_676 : decode code 676 = .ok (.laload, 1) := by decide +kernel
theorem d_L_law_677 : decode code 677 = .ok (.iload 6, 2) := by decide +kernel
theorem d_L_law_679 : decode code 679 = .ok (.i2l, 1) := by decide +kernel
theorem d_L_law_680 : decode code 680 = .ok (.lcmp, 1) := by decide +kernel
theorem d_L_law_681 : decode code 681 = .ok (.ifCond .eq 5, 3) := by decide +kernel
theorem d_L_law_684 : decode code 684 = .ok (.iconst 0, 1) := by decide +kernel
theorem d_L_law_685 : decode code 685 = .ok (.ireturn, 1) := by decide +kernel
theorem d_L_law_686 : decode code 686 = .ok (.goto 696, 3) := by decide +kernel
theorem d_L_law_689 : decode code 689 = .ok (.aload_n 1, 1) := by decide +kernel
theorem d_L_law_690 : decode code 690 = .ok (.aload_n 0, 1) := by decide +kernel
theorem d_L_law_691 : decode code 691 = .ok (.iload 4, 2) := by decide +kernel
theorem d_L_law_693 : decode code 693 = .ok (.iconst 1, 1) := by decide +kernel
theorem d_L_law_694 : decode code 694 = .ok (.iadd, 1) := by decide +kernel
theorem d_L_law_695 : decode code 695 = .ok (.iaload, 1) := by decide +kernel
theorem d_L_law_696 : decode code 696 = .ok (.aload_n 0, 1) := by decide +kernel
theorem d_L_law_697 : decode code 697 = .ok (.iload 4, 2) := by decide +kernel
theorem d_L_law_699 : decode code 699 = .ok (.iconst 2, 1) := by decide +kernel
theorem d_L_law_700 : decode code 700 = .ok (.iadd, 1) := by decide +kernel
theorem d_L_law_701 : decode code 701 = .ok (.iaload, 1) := by decide +kernel
theorem d_L_law_702 : decode code 702 = .ok (.aload_n 0, 1) := by decide +kernel
theorem d_L_law_703 : decode code 703 = .ok (.iload 4, 2) := by decide +kernel
theorem d_L_law_705 : decode code 705 = .ok (.iconst 3, 1) := by decide +kernel
theorem d_L_law_706 : decode code 706 = .ok (.iadd, 1) := by decide +kernel
theorem d_L_law_707 : decode code 707 = .ok (.iaload, 1) := by decide +kernel
theorem d_L_law_708 : decode code 708 = .ok (.aload_n 0, 1) := by decide +kernel
theorem d_L_law_709 : decode code 709 = .ok (.iload 4, 2) := by decide +kernel
theorem d_L_law_711 : decode code 711 = .ok (.iconst 4, 1) := by decide +kernel
theorem d_L_law_712 : decode code 712 = .ok (.iadd, 1) := by decide +kernel
theorem d_L_law_713 : decode code 713 = .ok (.iaload, 1) := by decide +kernel
theorem d_L_law_714 : decode code 714 = .ok (.invokevirtual 99, 3) := by decide +kernel
theorem d_L_law_717 : decode code 717 = .ok (.aload_n 2, 1) := by decide +kernel
theorem d_L_law_718 : decode code 718 = .ok (.aload_n 0, 1) := by decide +kernel
theorem d_L_law_719 : decode code 719 = .ok (.iload 4, 2) := by decide +kernel
theorem d_L_law_721 : decode code 721 = .ok (.iconst 1, 1) := by decide +kernel
theorem d_L_law_722 : decode code 722 = .ok (.iadd, 1) := by decide +kernel
theorem d_L_law_723 : decode code 723 = .ok (.iaload, 1) := by decide +kernel
theorem d_L_law_724 : decode code 724 = .ok (.aload_n 0, 1) := by decide +kernel
theorem d_L_law_725 : decode code 725 = .ok (.iload 4, 2) := by decide +kernel
theorem d_L_law_727 : decode code 727 = .ok (.iconst 2, 1) := by decide +kernel
theorem d_L_law_728 : decode code 728 = .ok (.iadd, 1) := by decide +kernel
theorem d_L_law_729 : decode code 729 = .ok (.iaload, 1) := by decide +kernel
theorem d_L_law_730 : decode code 730 = .ok (.aload_n 0, 1) := by decide +kernel
theorem d_L_law_731 : decode code 731 = .ok (.iload 4, 2) := by decide +kernel
theorem d_L_law_733 : decode code 733 = .ok (.iconst 3, 1) := by decide +kernel
theorem d_L_law_734 : decode code 734 = .ok (.iadd, 1) := by decide +kernel
theorem d_L_law_735 : decode code 735 = .ok (.iaload, 1) := by decide +kernel
theorem d_L_law_736 : decode code 736 = .ok (.aload_n 0, 1) := by decide +kernel
theorem d_L_law_737 : decode code 737 = .ok (.iload 4, 2) := by decide +kernel
theorem d_L_law_739 : decode code 739 = .ok (.iconst 4, 1) := by decide +kernel
theorem d_L_law_740 : decode code 740 = .ok (.iadd, 1) := by decide +kernel
theorem d_L_law_741 : decode code 741 = .ok (.iaload, 1) := by decide +kernel
theorem d_L_law_742 : decode code 742 = .ok (.invokevirtual 103, 3) := by decide +kernel
theorem d_L_law_745 : decode code 745 = .ok (.if_icmp .eq 637, 3) := by decide +kernel
theorem d_L_law_748 : decode code 748 = .ok (.iconst 0, 1) := by decide +kernel
theorem d_L_law_749 : decode code 749 = .ok (.ireturn, 1) := by decide +kernel
theorem d_L_law_750 : decode code 750 = .ok (.aload_n 1, 1) := by decide +kernel
theorem d_L_law_751 : decode code 751 = .ok (.aload_n 0, 1) := by decide +kernel
theorem d_L_law_752 : decode code 752 = .ok (.iload 4, 2) := by decide +kernel
theorem d_L_law_754 : decode code 754 = .ok (.iconst 1, 1) := by decide +kernel
theorem d_L_law_755 : decode code 755 = .ok (.iadd, 1) := by decide +kernel
theorem d_L_law_756 : decode code 756 = .ok (.iaload, 1) := by decide +kernel
theorem d_L_law_757 : decode code 757 = .ok (.aload_n 0, 1) := by decide +kernel
theorem d_L_law_758 : decode code 758 = .ok (.iload 4, 2) := by decide +kernel
theorem d_L_law_760 : decode code 760 = .ok (.iconst 2, 1) := by decide +kernel
theorem d_L_law_761 : decode code 761 = .ok (.iadd, 1) := by decide +kernel
theorem d_L_law_762 : decode code 762 = .ok (.iaload, 1) := by decide +kernel
theorem d_L_law_763 : decode code 763 = .ok (.aload_n 0, 1) := by decide +kernel
theorem d_L_law_764 : decode code 764 = .ok (.iload 4, 2) := by decide +kernel
theorem d_L_law_766 : decode code 766 = .ok (.iconst 3, 1) := by decide +kernel
theorem d_L_law_767 : decode code 767 = .ok (.iadd, 1) := by decide +kernel
theorem d_L_law_768 : decode code 768 = .ok (.iaload, 1) := by decide +kernel
theorem d_L_law_769 : decode code 769 = .ok (.aload_n 0, 1) := by decide +kernel
theorem d_L_law_770 : decode code 770 = .ok (.iload 4, 2) := by decide +kernel
theorem d_L_law_772 : decode code 772 = .ok (.iconst 4, 1) := by decide +kernel
theorem d_L_law_773 : decode code 773 = .ok (.iadd, 1) := by decide +kernel
theorem d_L_law_774 : decode code 774 = .ok (.iaload, 1) := by decide +kernel
theorem d_L_law_775 : decode code 775 = .ok (.invokevirtual 104, 3) := by decide +kernel
theorem d_L_law_778 : decode code 778 = .ok (.aload_n 2, 1) := by decide +kernel
theorem d_L_law_779 : decode code 779 = .ok (.aload_n 0, 1) := by decide +kernel
theorem d_L_law_780 : decode code 780 = .ok (.iload 4, 2) := by decide +kernel
theorem d_L_law_782 : decode code 782 = .ok (.iconst 1, 1) := by decide +kernel
theorem d_L_law_783 : decode code 783 = .ok (.iadd, 1) := by decide +kernel
theorem d_L_law_784 : decode code 784 = .ok (.iaload, 1) := by decide +kernel
theorem d_L_law_785 : decode code 785 = .ok (.aload_n 0, 1) := by decide +kernel
theorem d_L_law_786 : decode code 786 = .ok (.iload 4, 2) := by decide +kernel
theorem d_L_law_788 : decode code 788 = .ok (.iconst 2, 1) := by decide +kernel
theorem d_L_law_789 : decode code 789 = .ok (.iadd, 1) := by decide +kernel
theorem d_L_law_790 : decode code 790 = .ok (.iaload, 1) := by decide +kernel
theorem d_L_law_791 : decode code 791 = .ok (.aload_n 0, 1) := by decide +kernel
theorem d_L_law_792 : decode code 792 = .ok (.iload 4, 2) := by decide +kernel
theorem d_L_law_794 : decode code 794 = .ok (.iconst 3, 1) := by decide +kernel
theorem d_L_law_795 : decode code 795 = .ok (.iadd, 1) := by decide +kernel
theorem d_L_law_796 : decode code 796 = .ok (.iaload, 1) := by decide +kernel
theorem d_L_law_797 : decode code 797 = .ok (.aload_n 0, 1) := by decide +kernel
theorem d_L_law_798 : decode code 798 = .ok (.iload 4, 2) := by decide +kernel
theorem d_L_law_800 : decode code 800 = .ok (.iconst 4, 1) := by decide +kernel
theorem d_L_law_801 : decode code 801 = .ok (.iadd, 1) := by decide +kernel
theorem d_L_law_802 : decode code 802 = .ok (.iaload, 1) := by decide +kernel
theorem d_L_law_803 : decode code 803 = .ok (.invokevirtual 107, 3) := by decide +kernel
theorem d_L_law_806 : decode code 806 = .ok (.if_icmp .eq 576, 3) := by decide +kernel
theorem d_L_law_809 : decode code 809 = .ok (.iconst 0, 1) := by decide +kernel
theorem d_L_law_810 : decode code 810 = .ok (.ireturn, 1) := by decide +kernel
theorem d_L_law_811 : decode code 811 = .ok (.aload_n 1, 1) := by decide +kernel
theorem d_L_law_812 : decode code 812 = .ok (.aload_n 0, 1) := by decide +kernel
theorem d_L_law_813 : decode code 813 = .ok (.iload 4, 2) := by decide +kernel
theorem d_L_law_815 : decode code 815 = .ok (.iconst 1, 1) := by decide +kernel
theorem d_L_law_816 : decode code 816 = .ok (.iadd, 1) := by decide +kernel
theorem d_L_law_817 : decode code 817 = .ok (.iaload, 1) := by decide +kernel
theorem d_L_law_818 : decode code 818 = .ok (.aload_n 0, 1) := by decide +kernel
theorem d_L_law_819 : decode code 819 = .ok (.iload 4, 2) := by decide +kernel
theorem d_L_law_821 : decode code 821 = .ok (.iconst 2, 1) := by decide +kernel
theorem d_L_law_822 : decode code 822 = .ok (.iadd, 1) := by decide +kernel
theorem d_L_law_823 : decode code 823 = .ok (.iaload, 1) := by decide +kernel
theorem d_L_law_824 : decode code 824 = .ok (.aload_n 0, 1) := by decide +kernel
theorem d_L_law_825 : decode code 825 = .ok (.iload 4, 2) := by decide +kernel
theorem d_L_law_827 : decode code 827 = .ok (.iconst 3, 1) := by decide +kernel
theorem d_L_law_828 : decode code 828 = .ok (.iadd, 1) := by decide +kernel
theorem d_L_law_829 : decode code 829 = .ok (.iaload, 1) := by decide +kernel
theorem d_L_law_830 : decode code 830 = .ok (.aload_n 3, 1) := by decide +kernel
theorem d_L_law_831 : decode code 831 = .ok (.invokestatic 108, 3) := by decide +kernel
theorem d_L_law_834 : decode code 834 = .ok (.istore 5, 2) := by decide +kernel
theorem d_L_law_836 : decode code 836 = .ok (.aload_n 2, 1) := by decide +kernel
theorem d_L_law_837 : decode code 837 = .ok (.aload_n 0, 1) := by decide +kernel
theorem d_L_law_838 : decode code 838 = .ok (.iload 4, 2) := by decide +kernel
theorem d_L_law_840 : decode code 840 = .ok (.iconst 1, 1) := by decide +kernel
theorem d_L_law_841 : decode code 841 = .ok (.iadd, 1) := by decide +kernel
theorem d_L_law_842 : decode code 842 = .ok (.iaload, 1) := by decide +kernel
theorem d_L_law_843 : decode code 843 = .ok (.aload_n 0, 1) := by decide +kernel
theorem d_L_law_844 : decode code 844 = .ok (.iload 4, 2) := by decide +kernel
theorem d_L_law_846 : decode code 846 = .ok (.iconst 2, 1) := by decide +kernel
theorem d_L_law_847 : decode code 847 = .ok (.iadd, 1) := by decide +kernel
theorem d_L_law_848 : decode code 848 = .ok (.iaload, 1) := by decide +kernel
theorem d_L_law_849 : decode code 849 = .ok (.aload_n 0, 1) := by decide +kernel
theorem d_L_law_850 : decode code 850 = .ok (.iload 4, 2) := by decide +kernel
theorem d_L_law_852 : decode code 852 = .ok (.iconst 3, 1) := by decide +kernel
theorem d_L_law_853 : decode code 853 = .ok (.iadd, 1) := by decide +kernel
theorem d_L_law_854 : decode code 854 = .ok (.iaload, 1) := by decide +kernel
theorem d_L_law_855 : decode code 855 = .ok (.invokevirtual 111, 3) := by decide +kernel
theorem d_L_law_858 : decode code 858 = .ok (.istore 6, 2) := by decide +kernel
theorem d_L_law_860 : decode code 860 = .ok (.aload_n 2, 1) := by decide +kernel
theorem d_L_law_861 : decode code 861 = .ok (.invokevirtual 85, 3) := by decide +kernel
theorem d_L_law_864 : decode code 864 = .ok (.iload 5, 2) := by decide +kernel
theorem d_L_law_866 : decode code 866 = .ok (.if_icmp .eq 5, 3) := by decide +kernel
theorem d_L_law_869 : decode code 869 = .ok (.iconst 0, 1) := by decide +kernel
theorem d_L_law_870 : decode code 870 = .ok (.ireturn, 1) := by decide +kernel
theorem d_L_law_871 : decode code 871 = .ok (.iload 5, 2) := by decide +kernel
theorem d_L_law_873 : decode code 873 = .ok (.ifCond .ne 15, 3) := by decide +kernel
theorem d_L_law_876 : decode code 876 = .ok (.aload_n 3, 1) := by decide +kernel
theorem d_L_law_877 : decode code 877 = .ok (.iconst 0, 1) := by decide +kernel
theorem d_L_law_878 : decode code 878 = .ok (.laload, 1) := by decide +kernel
theorem d_L_law_879 : decode code 879 = .ok (.iload 6, 2) := by decide +kernel
theorem d_L_law_881 : decode code 881 = .ok (.i2l, 1) := by decide +kernel
theorem d_L_law_882 : decode code 882 = .ok (.lcmp, 1) := by decide +kernel
theorem d_L_law_883 : decode code 883 = .ok (.ifCond .eq 5, 3) := by decide +kernel
theorem d_L_law_886 : decode code 886 = .ok (.iconst 0, 1) := by decide +kernel
theorem d_L_law_887 : decode code 887 = .ok (.ireturn, 1) := by decide +kernel
theorem d_L_law_888 : decode code 888 = .ok (.goto 494, 3) := by decide +kernel
theorem d_L_law_891 : decode code 891 = .ok (.aload_n 1, 1) := by decide +kernel
theorem d_L_law_892 : decode code 892 = .ok (.aload_n 0, 1) := by decide +kernel
theorem d_L_law_893 : decode code 893 = .ok (.iload 4, 2) := by decide +kernel
theorem d_L_law_895 : decode code 895 = .ok (.iconst 1, 1) := by decide +kernel
theorem d_L_law_896 : decode code 896 = .ok (.iadd, 1) := by decide +kernel
theorem d_L_law_897 : decode code 897 = .ok (.iaload, 1) := by decide +kernel
theorem d_L_law_898 : decode code 898 = .ok (.aload_n 0, 1) := by decide +kernel
theorem d_L_law_899 : decode code 899 = .ok (.iload 4, 2) := by decide +kernel
theorem d_L_law_901 : decode code 901 = .ok (.iconst 2, 1) := by decide +kernel
theorem d_L_law_902 : decode code 902 = .ok (.iadd, 1) := by decide +kernel
theorem d_L_law_903 : decode code 903 = .ok (.iaload, 1) := by decide +kernel
theorem d_L_law_904 : decode code 904 = .ok (.aload_n 0, 1) := by decide +kernel
theorem d_L_law_905 : decode code 905 = .ok (.iload 4, 2) := by decide +kernel
theorem d_L_law_907 : decode code 907 = .ok (.iconst 3, 1) := by decide +kernel
theorem d_L_law_908 : decode code 908 = .ok (.iadd, 1) := by decide +kernel
theorem d_L_law_909 : decode code 909 = .ok (.iaload, 1) := by decide +kernel
theorem d_L_law_910 : decode code 910 = .ok (.aload_n 3, 1) := by decide +kernel
theorem d_L_law_911 : decode code 911 = .ok (.invokestatic 112, 3) := by decide +kernel
theorem d_L_law_914 : decode code 914 = .ok (.istore 5, 2) := by decide +kernel
theorem d_L_law_916 : decode code 916 = .ok (.aload_n 2, 1) := by decide +kernel
theorem d_L_law_917 : decode code 917 = .ok (.aload_n 0, 1) := by decide +kernel
theorem d_L_law_918 : decode code 918 = .ok (.iload 4, 2) := by decide +kernel
theorem d_L_law_920 : decode code 920 = .ok (.iconst 1, 1) := by decide +kernel
theorem d_L_law_921 : decode code 921 = .ok (.iadd, 1) := by decide +kernel
theorem d_L_law_922 : decode code 922 = .ok (.iaload, 1) := by decide +kernel
theorem d_L_law_923 : decode code 923 = .ok (.aload_n 0, 1) := by decide +kernel
theorem d_L_law_924 : decode code 924 = .ok (.iload 4, 2) := by decide +kernel
theorem d_L_law_926 : decode code 926 = .ok (.iconst 2, 1) := by decide +kernel
theorem d_L_law_927 : decode code 927 = .ok (.iadd, 1) := by decide +kernel
theorem d_L_law_928 : decode code 928 = .ok (.iaload, 1) := by decide +kernel
theorem d_L_law_929 : decode code 929 = .ok (.aload_n 0, 1) := by decide +kernel
theorem d_L_law_930 : decode code 930 = .ok (.iload 4, 2) := by decide +kernel
theorem d_L_law_932 : decode code 932 = .ok (.iconst 3, 1) := by decide +kernel
theorem d_L_law_933 : decode code 933 = .ok (.iadd, 1) := by decide +kernel
theorem d_L_law_934 : decode code 934 = .ok (.iaload, 1) := by decide +kernel
theorem d_L_law_935 : decode code 935 = .ok (.invokevirtual 114, 3) := by decide +kernel
theorem d_L_law_938 : decode code 938 = .ok (.istore 6, 2) := by decide +kernel
theorem d_L_law_940 : decode code 940 = .ok (.aload_n 2, 1) := by decide +kernel
theorem d_L_law_941 : decode code 941 = .ok (.invokevirtual 85, 3) := by decide +kernel
theorem d_L_law_944 : decode code 944 = .ok (.iload 5, 2) := by decide +kernel
theorem d_L_law_946 : decode code 946 = .ok (.if_icmp .eq 5, 3) := by decide +kernel
theorem d_L_law_949 : decode code 949 = .ok (.iconst 0, 1) := by decide +kernel
theorem d_L_law_950 : decode code 950 = .ok (.ireturn, 1) := by decide +kernel
theorem d_L_law_951 : decode code 951 = .ok (.iload 5, 2) := by decide +kernel
theorem d_L_law_953 : decode code 953 = .ok (.ifCond .ne 15, 3) := by decide +kernel
theorem d_L_law_956 : decode code 956 = .ok (.aload_n 3, 1) := by decide +kernel
theorem d_L_law_957 : decode code 957 = .ok (.iconst 0, 1) := by decide +kernel
theorem d_L_law_958 : decode code 958 = .ok (.laload, 1) := by decide +kernel
theorem d_L_law_959 : decode code 959 = .ok (.iload 6, 2) := by decide +kernel
theorem d_L_law_961 : decode code 961 = .ok (.i2l, 1) := by decide +kernel
theorem d_L_law_962 : decode code 962 = .ok (.lcmp, 1) := by decide +kernel
theorem d_L_law_963 : decode code 963 = .ok (.ifCond .eq 5, 3) := by decide +kernel
theorem d_L_law_966 : decode code 966 = .ok (.iconst 0, 1) := by decide +kernel
theorem d_L_law_967 : decode code 967 = .ok (.ireturn, 1) := by decide +kernel
theorem d_L_law_968 : decode code 968 = .ok (.goto 414, 3) := by decide +kernel
theorem d_L_law_971 : decode code 971 = .ok (.aload_n 1, 1) := by decide +kernel
theorem d_L_law_972 : decode code 972 = .ok (.aload_n 0, 1) := by decide +kernel
theorem d_L_law_973 : decode code 973 = .ok (.iload 4, 2) := by decide +kernel
theorem d_L_law_975 : decode code 975 = .ok (.iconst 1, 1) := by decide +kernel
theorem d_L_law_976 : decode code 976 = .ok (.iadd, 1) := by decide +kernel
theorem d_L_law_977 : decode code 977 = .ok (.iaload, 1) := by decide +kernel
theorem d_L_law_978 : decode code 978 = .ok (.aload_n 0, 1) := by decide +kernel
theorem d_L_law_979 : decode code 979 = .ok (.iload 4, 2) := by decide +kernel
theorem d_L_law_981 : decode code 981 = .ok (.iconst 2, 1) := by decide +kernel
theorem d_L_law_982 : decode code 982 = .ok (.iadd, 1) := by decide +kernel
theorem d_L_law_983 : decode code 983 = .ok (.iaload, 1) := by decide +kernel
theorem d_L_law_984 : decode code 984 = .ok (.aload_n 0, 1) := by decide +kernel
theorem d_L_law_985 : decode code 985 = .ok (.iload 4, 2) := by decide +kernel
theorem d_L_law_987 : decode code 987 = .ok (.iconst 3, 1) := by decide +kernel
theorem d_L_law_988 : decode code 988 = .ok (.iadd, 1) := by decide +kernel
theorem d_L_law_989 : decode code 989 = .ok (.iaload, 1) := by decide +kernel
theorem d_L_law_990 : decode code 990 = .ok (.aload_n 3, 1) := by decide +kernel
theorem d_L_law_991 : decode code 991 = .ok (.invokestatic 115, 3) := by decide +kernel
theorem d_L_law_994 : decode code 994 = .ok (.istore 5, 2) := by decide +kernel
theorem d_L_law_996 : decode code 996 = .ok (.aload_n 2, 1) := by decide +kernel
theorem d_L_law_997 : decode code 997 = .ok (.aload_n 0, 1) := by decide +kernel
theorem d_L_law_998 : decode code 998 = .ok (.iload 4, 2) := by decide +kernel
theorem d_L_law_1000 : decode code 1000 = .ok (.iconst 1, 1) := by decide +kernel
theorem d_L_law_1001 : decode code 1001 = .ok (.iadd, 1) := by decide +kernel
theorem d_L_law_1002 : decode code 1002 = .ok (.iaload, 1) := by decide +kernel
theorem d_L_law_1003 : decode code 1003 = .ok (.aload_n 0, 1) := by decide +kernel
theorem d_L_law_1004 : decode code 1004 = .ok (.iload 4, 2) := by decide +kernel
theorem d_L_law_1006 : decode code 1006 = .ok (.iconst 2, 1) := by decide +kernel
theorem d_L_law_1007 : decode code 1007 = .ok (.iadd, 1) := by decide +kernel
theorem d_L_law_1008 : decode code 1008 = .ok (.iaload, 1) := by decide +kernel
theorem d_L_law_1009 : decode code 1009 = .ok (.aload_n 0, 1) := by decide +kernel
theorem d_L_law_1010 : decode code 1010 = .ok (.iload 4, 2) := by decide +kernel
theorem d_L_law_1012 : decode code 1012 = .ok (.iconst 3, 1) := by decide +kernel
theorem d_L_law_1013 : decode code 1013 = .ok (.iadd, 1) := by decide +kernel
theorem d_L_law_1014 : decode code 1014 = .ok (.iaload, 1) := by decide +kernel
theorem d_L_law_1015 : decode code 1015 = .ok (.invokevirtual 117, 3) := by decide +kernel
theorem d_L_law_1018 : decode code 1018 = .ok (.istore 6, 2) := by decide +kernel
theorem d_L_law_1020 : decode code 1020 = .ok (.aload_n 2, 1) := by decide +kernel
theorem d_L_law_1021 : decode code 1021 = .ok (.invokevirtual 85, 3) := by decide +kernel
theorem d_L_law_1024 : decode code 1024 = .ok (.iload 5, 2) := by decide +kernel
theorem d_L_law_1026 : decode code 1026 = .ok (.if_icmp .eq 5, 3) := by decide +kernel
theorem d_L_law_1029 : decode code 1029 = .ok (.iconst 0, 1) := by decide +kernel
theorem d_L_law_1030 : decode code 1030 = .ok (.ireturn, 1) := by decide +kernel
theorem d_L_law_1031 : decode code 1031 = .ok (.iload 5, 2) := by decide +kernel
theorem d_L_law_1033 : decode code 1033 = .ok (.ifCond .ne 15, 3) := by decide +kernel
theorem d_L_law_1036 : decode code 1036 = .ok (.aload_n 3, 1) := by decide +kernel
theorem d_L_law_1037 : decode code 1037 = .ok (.iconst 0, 1) := by decide +kernel
theorem d_L_law_1038 : decode code 1038 = .ok (.laload, 1) := by decide +kernel
theorem d_L_law_1039 : decode code 1039 = .ok (.iload 6, 2) := by decide +kernel
theorem d_L_law_1041 : decode code 1041 = .ok (.i2l, 1) := by decide +kernel
theorem d_L_law_1042 : decode code 1042 = .ok (.lcmp, 1) := by decide +kernel
theorem d_L_law_1043 : decode code 1043 = .ok (.ifCond .eq 5, 3) := by decide +kernel
theorem d_L_law_1046 : decode code 1046 = .ok (.iconst 0, 1) := by decide +kernel
theorem d_L_law_1047 : decode code 1047 = .ok (.ireturn, 1) := by decide +kernel
theorem d_L_law_1048 : decode code 1048 = .ok (.goto 334, 3) := by decide +kernel
theorem d_L_law_1051 : decode code 1051 = .ok (.aload_n 1, 1) := by decide +kernel
theorem d_L_law_1052 : decode code 1052 = .ok (.aload_n 0, 1) := by decide +kernel
theorem d_L_law_1053 : decode code 1053 = .ok (.iload 4, 2) := by decide +kernel
theorem d_L_law_1055 : decode code 1055 = .ok (.iconst 1, 1) := by decide +kernel
theorem d_L_law_1056 : decode code 1056 = .ok (.iadd, 1) := by decide +kernel
theorem d_L_law_1057 : decode code 1057 = .ok (.iaload, 1) := by decide +kernel
theorem d_L_law_1058 : decode code 1058 = .ok (.aload_n 0, 1) := by decide +kernel
theorem d_L_law_1059 : decode code 1059 = .ok (.iload 4, 2) := by decide +kernel
theorem d_L_law_1061 : decode code 1061 = .ok (.iconst 2, 1) := by decide +kernel
theorem d_L_law_1062 : decode code 1062 = .ok (.iadd, 1) := by decide +kernel
theorem d_L_law_1063 : decode code 1063 = .ok (.iaload, 1) := by decide +kernel
theorem d_L_law_1064 : decode code 1064 = .ok (.invokevirtual 118, 3) := by decide +kernel
theorem d_L_law_1067 : decode code 1067 = .ok (.aload_n 2, 1) := by decide +kernel
theorem d_L_law_1068 : decode code 1068 = .ok (.aload_n 0, 1) := by decide +kernel
theorem d_L_law_1069 : decode code 1069 = .ok (.iload 4, 2) := by decide +kernel
theorem d_L_law_1071 : decode code 1071 = .ok (.iconst 1, 1) := by decide +kernel
theorem d_L_law_1072 : decode code 1072 = .ok (.iadd, 1) := by decide +kernel
theorem d_L_law_1073 : decode code 1073 = .ok (.iaload, 1) := by decide +kernel
theorem d_L_law_1074 : decode code 1074 = .ok (.aload_n 0, 1) := by decide +kernel
theorem d_L_law_1075 : decode code 1075 = .ok (.iload 4, 2) := by decide +kernel
theorem d_L_law_1077 : decode code 1077 = .ok (.iconst 2, 1) := by decide +kernel
theorem d_L_law_1078 : decode code 1078 = .ok (.iadd, 1) := by decide +kernel
theorem d_L_law_1079 : decode code 1079 = .ok (.iaload, 1) := by decide +kernel
theorem d_L_law_1080 : decode code 1080 = .ok (.invokevirtual 121, 3) := by decide +kernel
theorem d_L_law_1083 : decode code 1083 = .ok (.if_icmp .eq 299, 3) := by decide +kernel
theorem d_L_law_1086 : decode code 1086 = .ok (.iconst 0, 1) := by decide +kernel
theorem d_L_law_1087 : decode code 1087 = .ok (.ireturn, 1) := by decide +kernel
theorem d_L_law_1088 : decode code 1088 = .ok (.aload_n 1, 1) := by decide +kernel
theorem d_L_law_1089 : decode code 1089 = .ok (.aload_n 0, 1) := by decide +kernel
theorem d_L_law_1090 : decode code 1090 = .ok (.iload 4, 2) := by decide +kernel
theorem d_L_law_1092 : decode code 1092 = .ok (.iconst 1, 1) := by decide +kernel
theorem d_L_law_1093 : decode code 1093 = .ok (.iadd, 1) := by decide +kernel
theorem d_L_law_1094 : decode code 1094 = .ok (.iaload, 1) := by decide +kernel
theorem d_L_law_1095 : decode code 1095 = .ok (.aload_n 0, 1) := by decide +kernel
theorem d_L_law_1096 : decode code 1096 = .ok (.iload 4, 2) := by decide +kernel
theorem d_L_law_1098 : decode code 1098 = .ok (.iconst 2, 1) := by decide +kernel
theorem d_L_law_1099 : decode code 1099 = .ok (.iadd, 1) := by decide +kernel
theorem d_L_law_1100 : decode code 1100 = .ok (.iaload, 1) := by decide +kernel
theorem d_L_law_1101 : decode code 1101 = .ok (.ifCond .eq 7, 3) := by decide +kernel
theorem d_L_law_1104 : decode code 1104 = .ok (.iconst 1, 1) := by decide +kernel
theorem d_L_law_1105 : decode code 1105 = .ok (.goto 4, 3) := by decide +kernel
theorem d_L_law_1108 : decode code 1108 = .ok (.iconst 0, 1) := by decide +kernel
theorem d_L_law_1109 : decode code 1109 = .ok (.aload_n 0, 1) := by decide +kernel
theorem d_L_law_1110 : decode code 1110 = .ok (.iload 4, 2) := by decide +kernel
theorem d_L_law_1112 : decode code 1112 = .ok (.iconst 3, 1) := by decide +kernel
theorem d_L_law_1113 : decode code 1113 = .ok (.iadd, 1) := by decide +kernel
theorem d_L_law_1114 : decode code 1114 = .ok (.iaload, 1) := by decide +kernel
theorem d_L_law_1115 : decode code 1115 = .ok (.aload_n 3, 1) := by decide +kernel
theorem d_L_law_1116 : decode code 1116 = .ok (.invokestatic 122, 3) := by decide +kernel
theorem d_L_law_1119 : decode code 1119 = .ok (.istore 5, 2) := by decide +kernel
theorem d_L_law_1121 : decode code 1121 = .ok (.aload_n 2, 1) := by decide +kernel
theorem d_L_law_1122 : decode code 1122 = .ok (.aload_n 0, 1) := by decide +kernel
theorem d_L_law_1123 : decode code 1123 = .ok (.iload 4, 2) := by decide +kernel
theorem d_L_law_1125 : decode code 1125 = .ok (.iconst 1, 1) := by decide +kernel
theorem d_L_law_1126 : decode code 1126 = .ok (.iadd, 1) := by decide +kernel
theorem d_L_law_1127 : decode code 1127 = .ok (.iaload, 1) := by decide +kernel
theorem d_L_law_1128 : decode code 1128 = .ok (.aload_n 0, 1) := by decide +kernel
theorem d_L_law_1129 : decode code 1129 = .ok (.iload 4, 2) := by decide +kernel
theorem d_L_law_1131 : decode code 1131 = .ok (.iconst 2, 1) := by decide +kernel
theorem d_L_law_1132 : decode code 1132 = .ok (.iadd, 1) := by decide +kernel
theorem d_L_law_1133 : decode code 1133 = .ok (.iaload, 1) := by decide +kernel
theorem d_L_law_1134 : decode code 1134 = .ok (.ifCond .eq 7, 3) := by decide +kernel
theorem d_L_law_1137 : decode code 1137 = .ok (.iconst 1, 1) := by decide +kernel
theorem d_L_law_1138 : decode code 1138 = .ok (.goto 4, 3) := by decide +kernel
theorem d_L_law_1141 : decode code 1141 = .ok (.iconst 0, 1) := by decide +kernel
theorem d_L_law_1142 : decode code 1142 = .ok (.aload_n 0, 1) := by decide +kernel
theorem d_L_law_1143 : decode code 1143 = .ok (.iload 4, 2) := by decide +kernel
theorem d_L_law_1145 : decode code 1145 = .ok (.iconst 3, 1) := by decide +kernel
theorem d_L_law_1146 : decode code 1146 = .ok (.iadd, 1) := by decide +kernel
theorem d_L_law_1147 : decode code 1147 = .ok (.iaload, 1) := by decide +kernel
theorem d_L_law_1148 : decode code 1148 = .ok (.invokevirtual 125, 3) := by decide +kernel
theorem d_L_law_1151 : decode code 1151 = .ok (.istore 6, 2) := by decide +kernel
theorem d_L_law_1153 : decode code 1153 = .ok (.aload_n 2, 1) := by decide +kernel
theorem d_L_law_1154 : decode code 1154 = .ok (.invokevirtual 85, 3) := by decide +kernel
theorem d_L_law_1157 : decode code 1157 = .ok (.iload 5, 2) := by decide +kernel
theorem d_L_law_1159 : decode code 1159 = .ok (.if_icmp .eq 5, 3) := by decide +kernel
theorem d_L_law_1162 : decode code 1162 = .ok (.iconst 0, 1) := by decide +kernel
theorem d_L_law_1163 : decode code 1163 = .ok (.ireturn, 1) := by decide +kernel
theorem d_L_law_1164 : decode code 1164 = .ok (.iload 5, 2) := by decide +kernel
theorem d_L_law_1166 : decode code 1166 = .ok (.ifCond .ne 15, 3) := by decide +kernel
theorem d_L_law_1169 : decode code 1169 = .ok (.aload_n 3, 1) := by decide +kernel
theorem d_L_law_1170 : decode code 1170 = .ok (.iconst 0, 1) := by decide +kernel
theorem d_L_law_1171 : decode code 1171 = .ok (.laload, 1) := by decide +kernel
theorem d_L_law_1172 : decode code 1172 = .ok (.iload 6, 2) := by decide +kernel
theorem d_L_law_1174 : decode code 1174 = .ok (.i2l, 1) := by decide +kernel
theorem d_L_law_1175 : decode code 1175 = .ok (.lcmp, 1) := by decide +kernel
theorem d_L_law_1176 : decode code 1176 = .ok (.ifCond .eq 5, 3) := by decide +kernel
theorem d_L_law_1179 : decode code 1179 = .ok (.iconst 0, 1) := by decide +kernel
theorem d_L_law_1180 : decode code 1180 = .ok (.ireturn, 1) := by decide +kernel
theorem d_L_law_1181 : decode code 1181 = .ok (.goto 201, 3) := by decide +kernel
theorem d_L_law_1184 : decode code 1184 = .ok (.aload_n 1, 1) := by decide +kernel
theorem d_L_law_1185 : decode code 1185 = .ok (.aload_n 0, 1) := by decide +kernel
theorem d_L_law_1186 : decode code 1186 = .ok (.iload 4, 2) := by decide +kernel
theorem d_L_law_1188 : decode code 1188 = .ok (.iconst 1, 1) := by decide +kernel
theorem d_L_law_1189 : decode code 1189 = .ok (.iadd, 1) := by decide +kernel
theorem d_L_law_1190 : decode code 1190 = .ok (.iaload, 1) := by decide +kernel
theorem d_L_law_1191 : decode code 1191 = .ok (.aload_n 0, 1) := by decide +kernel
theorem d_L_law_1192 : decode code 1192 = .ok (.iload 4, 2) := by decide +kernel
theorem d_L_law_1194 : decode code 1194 = .ok (.iconst 2, 1) := by decide +kernel
theorem d_L_law_1195 : decode code 1195 = .ok (.iadd, 1) := by decide +kernel
theorem d_L_law_1196 : decode code 1196 = .ok (.iaload, 1) := by decide +kernel
theorem d_L_law_1197 : decode code 1197 = .ok (.invokevirtual 126, 3) := by decide +kernel
theorem d_L_law_1200 : decode code 1200 = .ok (.aload_n 2, 1) := by decide +kernel
theorem d_L_law_1201 : decode code 1201 = .ok (.aload_n 0, 1) := by decide +kernel
theorem d_L_law_1202 : decode code 1202 = .ok (.iload 4, 2) := by decide +kernel
theorem d_L_law_1204 : decode code 1204 = .ok (.iconst 1, 1) := by decide +kernel
theorem d_L_law_1205 : decode code 1205 = .ok (.iadd, 1) := by decide +kernel
theorem d_L_law_1206 : decode code 1206 = .ok (.iaload, 1) := by decide +kernel
theorem d_L_law_1207 : decode code 1207 = .ok (.aload_n 0, 1) := by decide +kernel
theorem d_L_law_1208 : decode code 1208 = .ok (.iload 4, 2) := by decide +kernel
theorem d_L_law_1210 : decode code 1210 = .ok (.iconst 2, 1) := by decide +kernel
theorem d_L_law_1211 : decode code 1211 = .ok (.iadd, 1) := by decide +kernel
theorem d_L_law_1212 : decode code 1212 = .ok (.iaload, 1) := by decide +kernel
theorem d_L_law_1213 : decode code 1213 = .ok (.invokevirtual 129, 3) := by decide +kernel
theorem d_L_law_1216 : decode code 1216 = .ok (.if_icmp .eq 166, 3) := by decide +kernel
theorem d_L_law_1219 : decode code 1219 = .ok (.iconst 0, 1) := by decide +kernel
theorem d_L_law_1220 : decode code 1220 = .ok (.ireturn, 1) := by decide +kernel
theorem d_L_law_1221 : decode code 1221 = .ok (.aload_n 1, 1) := by decide +kernel
theorem d_L_law_1222 : decode code 1222 = .ok (.aload_n 0, 1) := by decide +kernel
theorem d_L_law_1223 : decode code 1223 = .ok (.iload 4, 2) := by decide +kernel
theorem d_L_law_1225 : decode code 1225 = .ok (.iconst 1, 1) := by decide +kernel
theorem d_L_law_1226 : decode code 1226 = .ok (.iadd, 1) := by decide +kernel
theorem d_L_law_1227 : decode code 1227 = .ok (.iaload, 1) := by decide +kernel
theorem d_L_law_1228 : decode code 1228 = .ok (.aload_n 0, 1) := by decide +kernel
theorem d_L_law_1229 : decode code 1229 = .ok (.iload 4, 2) := by decide +kernel
theorem d_L_law_1231 : decode code 1231 = .ok (.iconst 2, 1) := by decide +kernel
theorem d_L_law_1232 : decode code 1232 = .ok (.iadd, 1) := by decide +kernel
theorem d_L_law_1233 : decode code 1233 = .ok (.iaload, 1) := by decide +kernel
theorem d_L_law_1234 : decode code 1234 = .ok (.aload_n 3, 1) := by decide +kernel
theorem d_L_law_1235 : decode code 1235 = .ok (.invokestatic 130, 3) := by decide +kernel
theorem d_L_law_1238 : decode code 1238 = .ok (.istore 5, 2) := by decide +kernel
theorem d_L_law_1240 : decode code 1240 = .ok (.aload_n 2, 1) := by decide +kernel
theorem d_L_law_1241 : decode code 1241 = .ok (.aload_n 0, 1) := by decide +kernel
theorem d_L_law_1242 : decode code 1242 = .ok (.iload 4, 2) := by decide +kernel
theorem d_L_law_1244 : decode code 1244 = .ok (.iconst 1, 1) := by decide +kernel
theorem d_L_law_1245 : decode code 1245 = .ok (.iadd, 1) := by decide +kernel
theorem d_L_law_1246 : decode code 1246 = .ok (.iaload, 1) := by decide +kernel
theorem d_L_law_1247 : decode code 1247 = .ok (.aload_n 0, 1) := by decide +kernel
theorem d_L_law_1248 : decode code 1248 = .ok (.iload 4, 2) := by decide +kernel
theorem d_L_law_1250 : decode code 1250 = .ok (.iconst 2, 1) := by decide +kernel
theorem d_L_law_1251 : decode code 1251 = .ok (.iadd, 1) := by decide +kernel
theorem d_L_law_1252 : decode code 1252 = .ok (.iaload, 1) := by decide +kernel
theorem d_L_law_1253 : decode code 1253 = .ok (.invokevirtual 132, 3) := by decide +kernel
theorem d_L_law_1256 : decode code 1256 = .ok (.istore 6, 2) := by decide +kernel
theorem d_L_law_1258 : decode code 1258 = .ok (.aload_n 2, 1) := by decide +kernel
theorem d_L_law_1259 : decode code 1259 = .ok (.invokevirtual 85, 3) := by decide +kernel
theorem d_L_law_1262 : decode code 1262 = .ok (.iload 5, 2) := by decide +kernel
theorem d_L_law_1264 : decode code 1264 = .ok (.if_icmp .eq 5, 3) := by decide +kernel
theorem d_L_law_1267 : decode code 1267 = .ok (.iconst 0, 1) := by decide +kernel
theorem d_L_law_1268 : decode code 1268 = .ok (.ireturn, 1) := by decide +kernel
theorem d_L_law_1269 : decode code 1269 = .ok (.iload 5, 2) := by decide +kernel
theorem d_L_law_1271 : decode code 1271 = .ok (.ifCond .ne 15, 3) := by decide +kernel
theorem d_L_law_1274 : decode code 1274 = .ok (.aload_n 3, 1) := by decide +kernel
theorem d_L_law_1275 : decode code 1275 = .ok (.iconst 0, 1) := by decide +kernel
theorem d_L_law_1276 : decode code 1276 = .ok (.laload, 1) := by decide +kernel
theorem d_L_law_1277 : decode code 1277 = .ok (.iload 6, 2) := by decide +kernel
theorem d_L_law_1279 : decode code 1279 = .ok (.i2l, 1) := by decide +kernel
theorem d_L_law_1280 : decode code 1280 = .ok (.lcmp, 1) := by decide +kernel
theorem d_L_law_1281 : decode code 1281 = .ok (.ifCond .eq 5, 3) := by decide +kernel
theorem d_L_law_1284 : decode code 1284 = .ok (.iconst 0, 1) := by decide +kernel
theorem d_L_law_1285 : decode code 1285 = .ok (.ireturn, 1) := by decide +kernel
theorem d_L_law_1286 : decode code 1286 = .ok (.goto 96, 3) := by decide +kernel
theorem d_L_law_1289 : decode code 1289 = .ok (.aload_n 1, 1) := by decide +kernel
theorem d_L_law_1290 : decode code 1290 = .ok (.aload_n 0, 1) := by decide +kernel
theorem d_L_law_1291 : decode code 1291 = .ok (.iload 4, 2) := by decide +kernel
theorem d_L_law_1293 : decode code 1293 = .ok (.iconst 1, 1) := by decide +kernel
theorem d_L_law_1294 : decode code 1294 = .ok (.iadd, 1) := by decide +kernel
theorem d_L_law_1295 : decode code 1295 = .ok (.iaload, 1) := by decide +kernel
theorem d_L_law_1296 : decode code 1296 = .ok (.aload_n 0, 1) := by decide +kernel
theorem d_L_law_1297 : decode code 1297 = .ok (.iload 4, 2) := by decide +kernel
theorem d_L_law_1299 : decode code 1299 = .ok (.iconst 2, 1) := by decide +kernel
theorem d_L_law_1300 : decode code 1300 = .ok (.iadd, 1) := by decide +kernel
theorem d_L_law_1301 : decode code 1301 = .ok (.iaload, 1) := by decide +kernel
theorem d_L_law_1302 : decode code 1302 = .ok (.aload_n 3, 1) := by decide +kernel
theorem d_L_law_1303 : decode code 1303 = .ok (.invokestatic 133, 3) := by decide +kernel
theorem d_L_law_1306 : decode code 1306 = .ok (.istore 5, 2) := by decide +kernel
theorem d_L_law_1308 : decode code 1308 = .ok (.aload_n 2, 1) := by decide +kernel
theorem d_L_law_1309 : decode code 1309 = .ok (.aload_n 0, 1) := by decide +kernel
theorem d_L_law_1310 : decode code 1310 = .ok (.iload 4, 2) := by decide +kernel
theorem d_L_law_1312 : decode code 1312 = .ok (.iconst 1, 1) := by decide +kernel
theorem d_L_law_1313 : decode code 1313 = .ok (.iadd, 1) := by decide +kernel
theorem d_L_law_1314 : decode code 1314 = .ok (.iaload, 1) := by decide +kernel
theorem d_L_law_1315 : decode code 1315 = .ok (.aload_n 0, 1) := by decide +kernel
theorem d_L_law_1316 : decode code 1316 = .ok (.iload 4, 2) := by decide +kernel
theorem d_L_law_1318 : decode code 1318 = .ok (.iconst 2, 1) := by decide +kernel
theorem d_L_law_1319 : decode code 1319 = .ok (.iadd, 1) := by decide +kernel
theorem d_L_law_1320 : decode code 1320 = .ok (.iaload, 1) := by decide +kernel
theorem d_L_law_1321 : decode code 1321 = .ok (.invokevirtual 135, 3) := by decide +kernel
theorem d_L_law_1324 : decode code 1324 = .ok (.istore 6, 2) := by decide +kernel
theorem d_L_law_1326 : decode code 1326 = .ok (.aload_n 2, 1) := by decide +kernel
theorem d_L_law_1327 : decode code 1327 = .ok (.invokevirtual 85, 3) := by decide +kernel
theorem d_L_law_1330 : decode code 1330 = .ok (.iload 5, 2) := by decide +kernel
theorem d_L_law_1332 : decode code 1332 = .ok (.if_icmp .eq 5, 3) := by decide +kernel
theorem d_L_law_1335 : decode code 1335 = .ok (.iconst 0, 1) := by decide +kernel
theorem d_L_law_1336 : decode code 1336 = .ok (.ireturn, 1) := by decide +kernel
theorem d_L_law_1337 : decode code 1337 = .ok (.iload 5, 2) := by decide +kernel
theorem d_L_law_1339 : decode code 1339 = .ok (.ifCond .ne 15, 3) := by decide +kernel
theorem d_L_law_1342 : decode code 1342 = .ok (.aload_n 3, 1) := by decide +kernel
theorem d_L_law_1343 : decode code 1343 = .ok (.iconst 0, 1) := by decide +kernel
theorem d_L_law_1344 : decode code 1344 = .ok (.laload, 1) := by decide +kernel
theorem d_L_law_1345 : decode code 1345 = .ok (.iload 6, 2) := by decide +kernel
theorem d_L_law_1347 : decode code 1347 = .ok (.i2l, 1) := by decide +kernel
theorem d_L_law_1348 : decode code 1348 = .ok (.lcmp, 1) := by decide +kernel
theorem d_L_law_1349 : decode code 1349 = .ok (.ifCond .eq 5, 3) := by decide +kernel
theorem d_L_law_1352 : decode code 1352 = .ok (.iconst 0, 1) := by decide +kernel
theorem d_L_law_1353 : decode code 1353 = .ok (.ireturn, 1) := by decide +kernel
theorem d_L_law_1354 : decode code 1354 = .ok (.goto 28, 3) := by decide +kernel
theorem d_L_law_1357 : decode code 1357 = .ok (.aload_n 1, 1) := by decide +kernel
theorem d_L_law_1358 : decode code 1358 = .ok (.aload_n 0, 1) := by decide +kernel
theorem d_L_law_1359 : decode code 1359 = .ok (.iload 4, 2) := by decide +kernel
theorem d_L_law_1361 : decode code 1361 = .ok (.iconst 1, 1) := by decide +kernel
theorem d_L_law_1362 : decode code 1362 = .ok (.iadd, 1) := by decide +kernel
theorem d_L_law_1363 : decode code 1363 = .ok (.iaload, 1) := by decide +kernel
theorem d_L_law_1364 : decode code 1364 = .ok (.invokevirtual 136, 3) := by decide +kernel
theorem d_L_law_1367 : decode code 1367 = .ok (.aload_n 2, 1) := by decide +kernel
theorem d_L_law_1368 : decode code 1368 = .ok (.aload_n 0, 1) := by decide +kernel
theorem d_L_law_1369 : decode code 1369 = .ok (.iload 4, 2) := by decide +kernel
theorem d_L_law_1371 : decode code 1371 = .ok (.iconst 1, 1) := by decide +kernel
theorem d_L_law_1372 : decode code 1372 = .ok (.iadd, 1) := by decide +kernel
theorem d_L_law_1373 : decode code 1373 = .ok (.iaload, 1) := by decide +kernel
theorem d_L_law_1374 : decode code 1374 = .ok (.invokevirtual 139, 3) := by decide +kernel
theorem d_L_law_1377 : decode code 1377 = .ok (.if_icmp .eq 5, 3) := by decide +kernel
theorem d_L_law_1380 : decode code 1380 = .ok (.iconst 0, 1) := by decide +kernel
theorem d_L_law_1381 : decode code 1381 = .ok (.ireturn, 1) := by decide +kernel
theorem d_L_law_1382 : decode code 1382 = .ok (.iinc 4 5, 3) := by decide +kernel
theorem d_L_law_1385 : decode code 1385 = .ok (.goto (-1362), 3) := by decide +kernel
theorem d_L_law_1388 : decode code 1388 = .ok (.iconst 1, 1) := by decide +kernel
theorem d_L_law_1389 : decode code 1389 = .ok (.ireturn, 1) := by decide +kernel
