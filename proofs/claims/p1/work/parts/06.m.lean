theorem dX10_again_0 : decode cX10_again 0 = .ok (.aload_n 0, 1) := by decide +kernel
theorem dX10_again_1 : decode cX10_again 1 = .ok (.iconst 5, 1) := by decide +kernel
theorem dX10_again_2 : decode cX10_again 2 = .ok (.iload_n 1, 1) := by decide +kernel
theorem dX10_again_3 : decode cX10_again 3 = .ok (.iconst 0, 1) := by decide +kernel
theorem dX10_again_4 : decode cX10_again 4 = .ok (.iconst 0, 1) := by decide +kernel
theorem dX10_again_5 : decode cX10_again 5 = .ok (.invokevirtual 337, 3) := by decide +kernel
theorem dX10_again_8 : decode cX10_again 8 = .ok (.ireturn, 1) := by decide +kernel
theorem dX10_ahead__0 : decode cX10_ahead_ 0 = .ok (.aload_n 0, 1) := by decide +kernel
theorem dX10_ahead__1 : decode cX10_ahead_ 1 = .ok (.invokevirtual 135, 3) := by decide +kernel
theorem dX10_ahead__4 : decode cX10_ahead_ 4 = .ok (.ifCond .eq 38, 3) := by decide +kernel
theorem dX10_ahead__42 : decode cX10_ahead_ 42 = .ok (.iconst (-1), 1) := by decide +kernel
theorem dX10_ahead__43 : decode cX10_ahead_ 43 = .ok (.ireturn, 1) := by decide +kernel
theorem dX10_all_0 : decode cX10_all 0 = .ok (.aload_n 0, 1) := by decide +kernel
theorem dX10_all_1 : decode cX10_all 1 = .ok (.invokevirtual 135, 3) := by decide +kernel
theorem dX10_all_4 : decode cX10_all 4 = .ok (.ifCond .eq 13, 3) := by decide +kernel
theorem dX10_all_17 : decode cX10_all 17 = .ok (.ldc_w 358, 3) := by decide +kernel
theorem dX10_all_20 : decode cX10_all 20 = .ok (.ireturn, 1) := by decide +kernel
theorem dX10_at_0 : decode cX10_at 0 = .ok (.iload_n 1, 1) := by decide +kernel
theorem dX10_at_1 : decode cX10_at 1 = .ok (.ifCond .le 11, 3) := by decide +kernel
theorem dX10_at_4 : decode cX10_at 4 = .ok (.aload_n 0, 1) := by decide +kernel
theorem dX10_at_5 : decode cX10_at 5 = .ok (.iload_n 1, 1) := by decide +kernel
theorem dX10_at_6 : decode cX10_at 6 = .ok (.invokevirtual 195, 3) := by decide +kernel
theorem dX10_at_9 : decode cX10_at 9 = .ok (.goto 4, 3) := by decide +kernel
theorem dX10_at_12 : decode cX10_at 12 = .ok (.iconst (-1), 1) := by decide +kernel
theorem dX10_at_13 : decode cX10_at 13 = .ok (.ireturn, 1) := by decide +kernel
theorem dX10_back_0 : decode cX10_back 0 = .ok (.aload_n 0, 1) := by decide +kernel
theorem dX10_back_1 : decode cX10_back 1 = .ok (.getfield 154, 3) := by decide +kernel
theorem dX10_back_4 : decode cX10_back 4 = .ok (.ifCond .ne 5, 3) := by decide +kernel
theorem dX10_back_7 : decode cX10_back 7 = .ok (.iconst (-1), 1) := by decide +kernel
theorem dX10_back_8 : decode cX10_back 8 = .ok (.ireturn, 1) := by decide +kernel
theorem dX10_error_0 : decode cX10_error 0 = .ok (.aload_n 0, 1) := by decide +kernel
theorem dX10_error_1 : decode cX10_error 1 = .ok (.iconst 4, 1) := by decide +kernel
theorem dX10_error_2 : decode cX10_error 2 = .ok (.iload_n 1, 1) := by decide +kernel
theorem dX10_error_3 : decode cX10_error 3 = .ok (.iload_n 2, 1) := by decide +kernel
theorem dX10_error_4 : decode cX10_error 4 = .ok (.iconst 0, 1) := by decide +kernel
theorem dX10_error_5 : decode cX10_error 5 = .ok (.invokevirtual 337, 3) := by decide +kernel
theorem dX10_error_8 : decode cX10_error 8 = .ok (.ireturn, 1) := by decide +kernel
theorem dX10_hand_0 : decode cX10_hand 0 = .ok (.aload_n 0, 1) := by decide +kernel
theorem dX10_hand_1 : decode cX10_hand 1 = .ok (.iload_n 1, 1) := by decide +kernel
theorem dX10_hand_2 : decode cX10_hand 2 = .ok (.iload_n 2, 1) := by decide +kernel
theorem dX10_hand_3 : decode cX10_hand 3 = .ok (.iload_n 3, 1) := by decide +kernel
theorem dX10_hand_4 : decode cX10_hand 4 = .ok (.iload 4, 2) := by decide +kernel
theorem dX10_hand_6 : decode cX10_hand 6 = .ok (.invokevirtual 331, 3) := by decide +kernel
theorem dX10_hand_9 : decode cX10_hand 9 = .ok (.istore 5, 2) := by decide +kernel
theorem dX10_hand_11 : decode cX10_hand 11 = .ok (.iload 5, 2) := by decide +kernel
theorem dX10_hand_13 : decode cX10_hand 13 = .ok (.iconst (-1), 1) := by decide +kernel
theorem dX10_hand_14 : decode cX10_hand 14 = .ok (.if_icmp .eq 16, 3) := by decide +kernel
theorem dX10_hand_17 : decode cX10_hand 17 = .ok (.aload_n 0, 1) := by decide +kernel
theorem dX10_hand_18 : decode cX10_hand 18 = .ok (.getfield 34, 3) := by decide +kernel
theorem dX10_hand_21 : decode cX10_hand 21 = .ok (.iload 5, 2) := by decide +kernel
theorem dX10_hand_23 : decode cX10_hand 23 = .ok (.dup2, 1) := by decide +kernel
theorem dX10_hand_24 : decode cX10_hand 24 = .ok (.iaload, 1) := by decide +kernel
theorem dX10_hand_25 : decode cX10_hand 25 = .ok (.iconst 1, 1) := by decide +kernel
theorem dX10_hand_26 : decode cX10_hand 26 = .ok (.iadd, 1) := by decide +kernel
theorem dX10_hand_27 : decode cX10_hand 27 = .ok (.iastore, 1) := by decide +kernel
theorem dX10_hand_28 : decode cX10_hand 28 = .ok (.iconst (-1), 1) := by decide +kernel
theorem dX10_hand_29 : decode cX10_hand 29 = .ok (.ireturn, 1) := by decide +kernel
theorem dX10_helper_0 : decode cX10_helper 0 = .ok (.aload_n 0, 1) := by decide +kernel
theorem dX10_helper_1 : decode cX10_helper 1 = .ok (.iload_n 1, 1) := by decide +kernel
theorem dX10_helper_2 : decode cX10_helper 2 = .ok (.invokevirtual 139, 3) := by decide +kernel
theorem dX10_helper_5 : decode cX10_helper 5 = .ok (.ifCond .eq 21, 3) := by decide +kernel
theorem dX10_helper_26 : decode cX10_helper 26 = .ok (.iconst (-1), 1) := by decide +kernel
theorem dX10_helper_27 : decode cX10_helper 27 = .ok (.ireturn, 1) := by decide +kernel
theorem dX10_hub_0 : decode cX10_hub 0 = .ok (.aload_n 0, 1) := by decide +kernel
theorem dX10_hub_1 : decode cX10_hub 1 = .ok (.iload_n 1, 1) := by decide +kernel
theorem dX10_hub_2 : decode cX10_hub 2 = .ok (.invokevirtual 270, 3) := by decide +kernel
theorem dX10_hub_5 : decode cX10_hub 5 = .ok (.ifCond .eq 12, 3) := by decide +kernel
theorem dX10_hub_17 : decode cX10_hub 17 = .ok (.ldc_w 358, 3) := by decide +kernel
theorem dX10_hub_20 : decode cX10_hub 20 = .ok (.ireturn, 1) := by decide +kernel
theorem dX10_image_0 : decode cX10_image 0 = .ok (.aload_n 0, 1) := by decide +kernel
theorem dX10_image_1 : decode cX10_image 1 = .ok (.invokevirtual 135, 3) := by decide +kernel
theorem dX10_image_4 : decode cX10_image 4 = .ok (.ifCond .ne 5, 3) := by decide +kernel
theorem dX10_image_7 : decode cX10_image 7 = .ok (.iconst (-1), 1) := by decide +kernel
theorem dX10_image_8 : decode cX10_image 8 = .ok (.ireturn, 1) := by decide +kernel
theorem dX10_in_0 : decode cX10_in 0 = .ok (.iload_n 0, 1) := by decide +kernel
theorem dX10_in_1 : decode cX10_in 1 = .ok (.iload_n 1, 1) := by decide +kernel
theorem dX10_in_2 : decode cX10_in 2 = .ok (.if_icmp .lt 12, 3) := by decide +kernel
theorem dX10_in_5 : decode cX10_in 5 = .ok (.iload_n 0, 1) := by decide +kernel
theorem dX10_in_6 : decode cX10_in 6 = .ok (.iload_n 2, 1) := by decide +kernel
theorem dX10_in_7 : decode cX10_in 7 = .ok (.if_icmp .gt 7, 3) := by decide +kernel
theorem dX10_in_10 : decode cX10_in 10 = .ok (.iconst 1, 1) := by decide +kernel
theorem dX10_in_11 : decode cX10_in 11 = .ok (.goto 4, 3) := by decide +kernel
theorem dX10_in_14 : decode cX10_in 14 = .ok (.iconst 0, 1) := by decide +kernel
theorem dX10_in_15 : decode cX10_in 15 = .ok (.ireturn, 1) := by decide +kernel
theorem dX10_isDevice_0 : decode cX10_isDevice 0 = .ok (.iload_n 1, 1) := by decide +kernel
theorem dX10_isDevice_1 : decode cX10_isDevice 1 = .ok (.iconst 0, 1) := by decide +kernel
theorem dX10_isDevice_2 : decode cX10_isDevice 2 = .ok (.aload_n 0, 1) := by decide +kernel
theorem dX10_isDevice_3 : decode cX10_isDevice 3 = .ok (.getfield 132, 3) := by decide +kernel
theorem dX10_isDevice_6 : decode cX10_isDevice 6 = .ok (.iconst 1, 1) := by decide +kernel
theorem dX10_isDevice_7 : decode cX10_isDevice 7 = .ok (.isub, 1) := by decide +kernel
theorem dX10_isDevice_8 : decode cX10_isDevice 8 = .ok (.invokestatic 63, 3) := by decide +kernel
theorem dX10_isDevice_11 : decode cX10_isDevice 11 = .ok (.ireturn, 1) := by decide +kernel
theorem dX10_isHub_0 : decode cX10_isHub 0 = .ok (.aload_n 0, 1) := by decide +kernel
theorem dX10_isHub_1 : decode cX10_isHub 1 = .ok (.invokevirtual 135, 3) := by decide +kernel
theorem dX10_isHub_4 : decode cX10_isHub 4 = .ok (.ifCond .eq 9, 3) := by decide +kernel
theorem dX10_isHub_13 : decode cX10_isHub 13 = .ok (.aload_n 0, 1) := by decide +kernel
theorem dX10_isHub_14 : decode cX10_isHub 14 = .ok (.iload_n 1, 1) := by decide +kernel
theorem dX10_isHub_15 : decode cX10_isHub 15 = .ok (.invokevirtual 139, 3) := by decide +kernel
theorem dX10_isHub_18 : decode cX10_isHub 18 = .ok (.ifCond .eq 16, 3) := by decide +kernel
theorem dX10_isHub_34 : decode cX10_isHub 34 = .ok (.iconst 0, 1) := by decide +kernel
theorem dX10_isHub_35 : decode cX10_isHub 35 = .ok (.ireturn, 1) := by decide +kernel
theorem dX10_isScript_0 : decode cX10_isScript 0 = .ok (.iload_n 1, 1) := by decide +kernel
theorem dX10_isScript_1 : decode cX10_isScript 1 = .ok (.iconst 0, 1) := by decide +kernel
theorem dX10_isScript_2 : decode cX10_isScript 2 = .ok (.aload_n 0, 1) := by decide +kernel
theorem dX10_isScript_3 : decode cX10_isScript 3 = .ok (.getfield 161, 3) := by decide +kernel
theorem dX10_isScript_6 : decode cX10_isScript 6 = .ok (.iconst 1, 1) := by decide +kernel
theorem dX10_isScript_7 : decode cX10_isScript 7 = .ok (.isub, 1) := by decide +kernel
theorem dX10_isScript_8 : decode cX10_isScript 8 = .ok (.invokestatic 63, 3) := by decide +kernel
theorem dX10_isScript_11 : decode cX10_isScript 11 = .ok (.ireturn, 1) := by decide +kernel
theorem dX10_isTree_0 : decode cX10_isTree 0 = .ok (.aload_n 0, 1) := by decide +kernel
theorem dX10_isTree_1 : decode cX10_isTree 1 = .ok (.getfield 132, 3) := by decide +kernel
theorem dX10_isTree_4 : decode cX10_isTree 4 = .ok (.ifCond .le 7, 3) := by decide +kernel
theorem dX10_isTree_11 : decode cX10_isTree 11 = .ok (.iconst 0, 1) := by decide +kernel
theorem dX10_isTree_12 : decode cX10_isTree 12 = .ok (.ireturn, 1) := by decide +kernel
theorem dX10_last_0 : decode cX10_last 0 = .ok (.aload_n 0, 1) := by decide +kernel
theorem dX10_last_1 : decode cX10_last 1 = .ok (.invokevirtual 135, 3) := by decide +kernel
theorem dX10_last_4 : decode cX10_last 4 = .ok (.ifCond .ne 5, 3) := by decide +kernel
theorem dX10_last_7 : decode cX10_last 7 = .ok (.iconst (-1), 1) := by decide +kernel
theorem dX10_last_8 : decode cX10_last 8 = .ok (.ireturn, 1) := by decide +kernel
theorem dX10_log_0 : decode cX10_log 0 = .ok (.iload_n 1, 1) := by decide +kernel
theorem dX10_log_1 : decode cX10_log 1 = .ok (.iconst 0, 1) := by decide +kernel
theorem dX10_log_2 : decode cX10_log 2 = .ok (.aload_n 0, 1) := by decide +kernel
theorem dX10_log_3 : decode cX10_log 3 = .ok (.getfield 31, 3) := by decide +kernel
theorem dX10_log_6 : decode cX10_log 6 = .ok (.bipush 98, 2) := by decide +kernel
theorem dX10_log_8 : decode cX10_log 8 = .ok (.iaload, 1) := by decide +kernel
theorem dX10_log_9 : decode cX10_log 9 = .ok (.iconst 1, 1) := by decide +kernel
theorem dX10_log_10 : decode cX10_log 10 = .ok (.isub, 1) := by decide +kernel
theorem dX10_log_11 : decode cX10_log 11 = .ok (.invokestatic 63, 3) := by decide +kernel
theorem dX10_log_14 : decode cX10_log 14 = .ok (.ifCond .eq 38, 3) := by decide +kernel
theorem dX10_log_52 : decode cX10_log 52 = .ok (.ldc_w 358, 3) := by decide +kernel
theorem dX10_log_55 : decode cX10_log 55 = .ok (.ireturn, 1) := by decide +kernel
theorem dX10_lost_0 : decode cX10_lost 0 = .ok (.aload_n 0, 1) := by decide +kernel
theorem dX10_lost_1 : decode cX10_lost 1 = .ok (.iload_n 1, 1) := by decide +kernel
theorem dX10_lost_2 : decode cX10_lost 2 = .ok (.invokevirtual 139, 3) := by decide +kernel
theorem dX10_lost_5 : decode cX10_lost 5 = .ok (.ifCond .eq 15, 3) := by decide +kernel
theorem dX10_lost_20 : decode cX10_lost 20 = .ok (.iconst (-1), 1) := by decide +kernel
theorem dX10_lost_21 : decode cX10_lost 21 = .ok (.ireturn, 1) := by decide +kernel
theorem dX10_octet_0 : decode cX10_octet 0 = .ok (.aload_n 0, 1) := by decide +kernel
theorem dX10_octet_1 : decode cX10_octet 1 = .ok (.iload_n 1, 1) := by decide +kernel
theorem dX10_octet_2 : decode cX10_octet 2 = .ok (.invokevirtual 139, 3) := by decide +kernel
theorem dX10_octet_5 : decode cX10_octet 5 = .ok (.ifCond .eq 27, 3) := by decide +kernel
theorem dX10_octet_32 : decode cX10_octet 32 = .ok (.iconst (-1), 1) := by decide +kernel
theorem dX10_octet_33 : decode cX10_octet 33 = .ok (.ireturn, 1) := by decide +kernel
theorem dX10_order_0 : decode cX10_order 0 = .ok (.aload_n 0, 1) := by decide +kernel
theorem dX10_order_1 : decode cX10_order 1 = .ok (.invokevirtual 135, 3) := by decide +kernel
theorem dX10_order_4 : decode cX10_order 4 = .ok (.ifCond .ne 5, 3) := by decide +kernel
theorem dX10_order_7 : decode cX10_order 7 = .ok (.iconst (-1), 1) := by decide +kernel
theorem dX10_order_8 : decode cX10_order 8 = .ok (.ireturn, 1) := by decide +kernel
theorem dX10_perform_0 : decode cX10_perform 0 = .ok (.aload_n 0, 1) := by decide +kernel
theorem dX10_perform_1 : decode cX10_perform 1 = .ok (.iload_n 1, 1) := by decide +kernel
theorem dX10_perform_2 : decode cX10_perform 2 = .ok (.invokevirtual 374, 3) := by decide +kernel
theorem dX10_perform_5 : decode cX10_perform 5 = .ok (.ifCond .eq 19, 3) := by decide +kernel
theorem dX10_perform_24 : decode cX10_perform 24 = .ok (.iconst (-1), 1) := by decide +kernel
theorem dX10_perform_25 : decode cX10_perform 25 = .ok (.ireturn, 1) := by decide +kernel
theorem dX10_place_0 : decode cX10_place 0 = .ok (.aload_n 0, 1) := by decide +kernel
theorem dX10_place_1 : decode cX10_place 1 = .ok (.iload_n 1, 1) := by decide +kernel
theorem dX10_place_2 : decode cX10_place 2 = .ok (.invokevirtual 139, 3) := by decide +kernel
theorem dX10_place_5 : decode cX10_place 5 = .ok (.ifCond .eq 11, 3) := by decide +kernel
theorem dX10_place_16 : decode cX10_place 16 = .ok (.iconst (-1), 1) := by decide +kernel
theorem dX10_place_17 : decode cX10_place 17 = .ok (.ireturn, 1) := by decide +kernel
theorem dX10_plug_0 : decode cX10_plug 0 = .ok (.aload_n 0, 1) := by decide +kernel
theorem dX10_plug_1 : decode cX10_plug 1 = .ok (.iconst 0, 1) := by decide +kernel
theorem dX10_plug_2 : decode cX10_plug 2 = .ok (.iload_n 1, 1) := by decide +kernel
theorem dX10_plug_3 : decode cX10_plug 3 = .ok (.iload_n 2, 1) := by decide +kernel
theorem dX10_plug_4 : decode cX10_plug 4 = .ok (.iload_n 3, 1) := by decide +kernel
theorem dX10_plug_5 : decode cX10_plug 5 = .ok (.invokevirtual 337, 3) := by decide +kernel
theorem dX10_plug_8 : decode cX10_plug 8 = .ok (.ireturn, 1) := by decide +kernel
theorem dX10_port_0 : decode cX10_port 0 = .ok (.aload_n 0, 1) := by decide +kernel
theorem dX10_port_1 : decode cX10_port 1 = .ok (.iload_n 1, 1) := by decide +kernel
theorem dX10_port_2 : decode cX10_port 2 = .ok (.invokevirtual 270, 3) := by decide +kernel
theorem dX10_port_5 : decode cX10_port 5 = .ok (.ifCond .eq 27, 3) := by decide +kernel
theorem dX10_port_32 : decode cX10_port 32 = .ok (.iconst (-1), 1) := by decide +kernel
theorem dX10_port_33 : decode cX10_port 33 = .ok (.ireturn, 1) := by decide +kernel
theorem dX10_rule_0 : decode cX10_rule 0 = .ok (.aload_n 0, 1) := by decide +kernel
theorem dX10_rule_1 : decode cX10_rule 1 = .ok (.invokevirtual 135, 3) := by decide +kernel
theorem dX10_rule_4 : decode cX10_rule 4 = .ok (.ifCond .eq 22, 3) := by decide +kernel
theorem dX10_rule_26 : decode cX10_rule 26 = .ok (.iconst (-1), 1) := by decide +kernel
theorem dX10_rule_27 : decode cX10_rule 27 = .ok (.ireturn, 1) := by decide +kernel
theorem dX10_run_0 : decode cX10_run 0 = .ok (.aload_n 0, 1) := by decide +kernel
theorem dX10_run_1 : decode cX10_run 1 = .ok (.iload_n 1, 1) := by decide +kernel
theorem dX10_run_2 : decode cX10_run 2 = .ok (.invokevirtual 374, 3) := by decide +kernel
theorem dX10_run_5 : decode cX10_run 5 = .ok (.ifCond .eq 19, 3) := by decide +kernel
theorem dX10_run_24 : decode cX10_run 24 = .ok (.ldc_w 358, 3) := by decide +kernel
theorem dX10_run_27 : decode cX10_run 27 = .ok (.ireturn, 1) := by decide +kernel
theorem dX10_shares_0 : decode cX10_shares 0 = .ok (.aload_n 0, 1) := by decide +kernel
theorem dX10_shares_1 : decode cX10_shares 1 = .ok (.iload_n 1, 1) := by decide +kernel
theorem dX10_shares_2 : decode cX10_shares 2 = .ok (.invokevirtual 139, 3) := by decide +kernel
theorem dX10_shares_5 : decode cX10_shares 5 = .ok (.ifCond .eq 24, 3) := by decide +kernel
theorem dX10_shares_29 : decode cX10_shares 29 = .ok (.iconst (-1), 1) := by decide +kernel
theorem dX10_shares_30 : decode cX10_shares 30 = .ok (.ireturn, 1) := by decide +kernel
theorem dX10_sleep_0 : decode cX10_sleep 0 = .ok (.aload_n 0, 1) := by decide +kernel
theorem dX10_sleep_1 : decode cX10_sleep 1 = .ok (.bipush 6, 2) := by decide +kernel
theorem dX10_sleep_3 : decode cX10_sleep 3 = .ok (.iload_n 1, 1) := by decide +kernel
theorem dX10_sleep_4 : decode cX10_sleep 4 = .ok (.iconst 0, 1) := by decide +kernel
theorem dX10_sleep_5 : decode cX10_sleep 5 = .ok (.iconst 0, 1) := by decide +kernel
theorem dX10_sleep_6 : decode cX10_sleep 6 = .ok (.invokevirtual 337, 3) := by decide +kernel
theorem dX10_sleep_9 : decode cX10_sleep 9 = .ok (.ireturn, 1) := by decide +kernel
theorem dX10_step_0 : decode cX10_step 0 = .ok (.aload_n 0, 1) := by decide +kernel
theorem dX10_step_1 : decode cX10_step 1 = .ok (.iload_n 1, 1) := by decide +kernel
theorem dX10_step_2 : decode cX10_step 2 = .ok (.invokevirtual 374, 3) := by decide +kernel
theorem dX10_step_5 : decode cX10_step 5 = .ok (.ifCond .eq 46, 3) := by decide +kernel
theorem dX10_step_51 : decode cX10_step 51 = .ok (.ldc_w 358, 3) := by decide +kernel
theorem dX10_step_54 : decode cX10_step 54 = .ok (.ireturn, 1) := by decide +kernel
theorem dX10_supply_0 : decode cX10_supply 0 = .ok (.aload_n 0, 1) := by decide +kernel
theorem dX10_supply_1 : decode cX10_supply 1 = .ok (.iconst 3, 1) := by decide +kernel
theorem dX10_supply_2 : decode cX10_supply 2 = .ok (.iload_n 1, 1) := by decide +kernel
theorem dX10_supply_3 : decode cX10_supply 3 = .ok (.iconst 0, 1) := by decide +kernel
theorem dX10_supply_4 : decode cX10_supply 4 = .ok (.iconst 0, 1) := by decide +kernel
theorem dX10_supply_5 : decode cX10_supply 5 = .ok (.invokevirtual 337, 3) := by decide +kernel
theorem dX10_supply_8 : decode cX10_supply 8 = .ok (.ireturn, 1) := by decide +kernel
theorem dX10_tick_0 : decode cX10_tick 0 = .ok (.aload_n 0, 1) := by decide +kernel
theorem dX10_tick_1 : decode cX10_tick 1 = .ok (.iconst 2, 1) := by decide +kernel
theorem dX10_tick_2 : decode cX10_tick 2 = .ok (.iload_n 1, 1) := by decide +kernel
theorem dX10_tick_3 : decode cX10_tick 3 = .ok (.iconst 0, 1) := by decide +kernel
theorem dX10_tick_4 : decode cX10_tick 4 = .ok (.iconst 0, 1) := by decide +kernel
theorem dX10_tick_5 : decode cX10_tick 5 = .ok (.invokevirtual 337, 3) := by decide +kernel
theorem dX10_tick_8 : decode cX10_tick 8 = .ok (.ireturn, 1) := by decide +kernel
theorem dX10_told_0 : decode cX10_told 0 = .ok (.aload_n 0, 1) := by decide +kernel
theorem dX10_told_1 : decode cX10_told 1 = .ok (.iload_n 1, 1) := by decide +kernel
theorem dX10_told_2 : decode cX10_told 2 = .ok (.invokevirtual 139, 3) := by decide +kernel
theorem dX10_told_5 : decode cX10_told 5 = .ok (.ifCond .eq 12, 3) := by decide +kernel
theorem dX10_told_17 : decode cX10_told 17 = .ok (.iconst (-1), 1) := by decide +kernel
theorem dX10_told_18 : decode cX10_told 18 = .ok (.ireturn, 1) := by decide +kernel
theorem dX10_undo_0 : decode cX10_undo 0 = .ok (.aload_n 0, 1) := by decide +kernel
theorem dX10_undo_1 : decode cX10_undo 1 = .ok (.getfield 151, 3) := by decide +kernel
theorem dX10_undo_4 : decode cX10_undo 4 = .ok (.ifCond .ne 5, 3) := by decide +kernel
theorem dX10_undo_7 : decode cX10_undo 7 = .ok (.iconst (-1), 1) := by decide +kernel
theorem dX10_undo_8 : decode cX10_undo 8 = .ok (.ireturn, 1) := by decide +kernel
theorem dX10_unplug_0 : decode cX10_unplug 0 = .ok (.aload_n 0, 1) := by decide +kernel
theorem dX10_unplug_1 : decode cX10_unplug 1 = .ok (.iconst 1, 1) := by decide +kernel
theorem dX10_unplug_2 : decode cX10_unplug 2 = .ok (.iload_n 1, 1) := by decide +kernel
theorem dX10_unplug_3 : decode cX10_unplug 3 = .ok (.iconst 0, 1) := by decide +kernel
theorem dX10_unplug_4 : decode cX10_unplug 4 = .ok (.iconst 0, 1) := by decide +kernel
theorem dX10_unplug_5 : decode cX10_unplug 5 = .ok (.invokevirtual 337, 3) := by decide +kernel
theorem dX10_unplug_8 : decode cX10_unplug 8 = .ok (.ireturn, 1) := by decide +kernel
theorem dX10_when_0 : decode cX10_when 0 = .ok (.aload_n 0, 1) := by decide +kernel
theorem dX10_when_1 : decode cX10_when 1 = .ok (.iload_n 1, 1) := by decide +kernel
theorem dX10_when_2 : decode cX10_when 2 = .ok (.invokevirtual 139, 3) := by decide +kernel
theorem dX10_when_5 : decode cX10_when 5 = .ok (.ifCond .eq 11, 3) := by decide +kernel
theorem dX10_when_16 : decode cX10_when 16 = .ok (.iconst (-1), 1) := by decide +kernel
theorem dX10_when_17 : decode cX10_when 17 = .ok (.ireturn, 1) := by decide +kernel
theorem dX10_whoHas_0 : decode cX10_whoHas 0 = .ok (.iconst 0, 1) := by decide +kernel
theorem dX10_whoHas_1 : decode cX10_whoHas 1 = .ok (.istore_n 2, 1) := by decide +kernel
theorem dX10_whoHas_2 : decode cX10_whoHas 2 = .ok (.iload_n 2, 1) := by decide +kernel
theorem dX10_whoHas_3 : decode cX10_whoHas 3 = .ok (.aload_n 0, 1) := by decide +kernel
theorem dX10_whoHas_4 : decode cX10_whoHas 4 = .ok (.getfield 132, 3) := by decide +kernel
theorem dX10_whoHas_7 : decode cX10_whoHas 7 = .ok (.if_icmp .ge 34, 3) := by decide +kernel
theorem dX10_whoHas_41 : decode cX10_whoHas 41 = .ok (.iconst (-1), 1) := by decide +kernel
theorem dX10_whoHas_42 : decode cX10_whoHas 42 = .ok (.ireturn, 1) := by decide +kernel
theorem dX10_whyNot_0 : decode cX10_whyNot 0 = .ok (.iload_n 1, 1) := by decide +kernel
theorem dX10_whyNot_1 : decode cX10_whyNot 1 = .ok (.tableswitch 219 0 5 #[39, 48, 74, 120, 147, 191], 39) := by decide +kernel
theorem dX10_whyNot_40 : decode cX10_whyNot 40 = .ok (.aload_n 0, 1) := by decide +kernel
theorem dX10_whyNot_41 : decode cX10_whyNot 41 = .ok (.iload_n 2, 1) := by decide +kernel
theorem dX10_whyNot_42 : decode cX10_whyNot 42 = .ok (.iload_n 3, 1) := by decide +kernel
theorem dX10_whyNot_43 : decode cX10_whyNot 43 = .ok (.iload 4, 2) := by decide +kernel
theorem dX10_whyNot_45 : decode cX10_whyNot 45 = .ok (.invokevirtual 297, 3) := by decide +kernel
theorem dX10_whyNot_48 : decode cX10_whyNot 48 = .ok (.ireturn, 1) := by decide +kernel
theorem dX10_whyNot_49 : decode cX10_whyNot 49 = .ok (.aload_n 0, 1) := by decide +kernel
theorem dX10_whyNot_50 : decode cX10_whyNot 50 = .ok (.iload_n 2, 1) := by decide +kernel
theorem dX10_whyNot_51 : decode cX10_whyNot 51 = .ok (.invokevirtual 139, 3) := by decide +kernel
theorem dX10_whyNot_54 : decode cX10_whyNot 54 = .ok (.ifCond .ne 7, 3) := by decide +kernel
theorem dX10_whyNot_57 : decode cX10_whyNot 57 = .ok (.iconst 0, 1) := by decide +kernel
theorem dX10_whyNot_58 : decode cX10_whyNot 58 = .ok (.goto 16, 3) := by decide +kernel
theorem dX10_whyNot_74 : decode cX10_whyNot 74 = .ok (.ireturn, 1) := by decide +kernel
theorem dX10_whyNot_75 : decode cX10_whyNot 75 = .ok (.aload_n 0, 1) := by decide +kernel
theorem dX10_whyNot_76 : decode cX10_whyNot 76 = .ok (.invokevirtual 135, 3) := by decide +kernel
theorem dX10_whyNot_79 : decode cX10_whyNot 79 = .ok (.ifCond .ne 7, 3) := by decide +kernel
theorem dX10_whyNot_82 : decode cX10_whyNot 82 = .ok (.iconst 0, 1) := by decide +kernel
theorem dX10_whyNot_83 : decode cX10_whyNot 83 = .ok (.goto 37, 3) := by decide +kernel
theorem dX10_whyNot_120 : decode cX10_whyNot 120 = .ok (.ireturn, 1) := by decide +kernel
theorem dX10_whyNot_121 : decode cX10_whyNot 121 = .ok (.aload_n 0, 1) := by decide +kernel
theorem dX10_whyNot_122 : decode cX10_whyNot 122 = .ok (.iload_n 2, 1) := by decide +kernel
theorem dX10_whyNot_123 : decode cX10_whyNot 123 = .ok (.invokevirtual 139, 3) := by decide +kernel
theorem dX10_whyNot_126 : decode cX10_whyNot 126 = .ok (.ifCond .ne 7, 3) := by decide +kernel
theorem dX10_whyNot_129 : decode cX10_whyNot 129 = .ok (.iconst 0, 1) := by decide +kernel
theorem dX10_whyNot_130 : decode cX10_whyNot 130 = .ok (.goto 17, 3) := by decide +kernel
theorem dX10_whyNot_147 : decode cX10_whyNot 147 = .ok (.ireturn, 1) := by decide +kernel
theorem dX10_whyNot_148 : decode cX10_whyNot 148 = .ok (.aload_n 0, 1) := by decide +kernel
theorem dX10_whyNot_149 : decode cX10_whyNot 149 = .ok (.iload_n 2, 1) := by decide +kernel
theorem dX10_whyNot_150 : decode cX10_whyNot 150 = .ok (.invokevirtual 139, 3) := by decide +kernel
theorem dX10_whyNot_153 : decode cX10_whyNot 153 = .ok (.ifCond .ne 7, 3) := by decide +kernel
theorem dX10_whyNot_156 : decode cX10_whyNot 156 = .ok (.iconst 0, 1) := by decide +kernel
theorem dX10_whyNot_157 : decode cX10_whyNot 157 = .ok (.goto 34, 3) := by decide +kernel
theorem dX10_whyNot_191 : decode cX10_whyNot 191 = .ok (.ireturn, 1) := by decide +kernel
theorem dX10_whyNot_192 : decode cX10_whyNot 192 = .ok (.aload_n 0, 1) := by decide +kernel
theorem dX10_whyNot_193 : decode cX10_whyNot 193 = .ok (.iload_n 2, 1) := by decide +kernel
theorem dX10_whyNot_194 : decode cX10_whyNot 194 = .ok (.invokevirtual 139, 3) := by decide +kernel
theorem dX10_whyNot_197 : decode cX10_whyNot 197 = .ok (.ifCond .ne 7, 3) := by decide +kernel
theorem dX10_whyNot_200 : decode cX10_whyNot 200 = .ok (.iconst 0, 1) := by decide +kernel
theorem dX10_whyNot_201 : decode cX10_whyNot 201 = .ok (.goto 18, 3) := by decide +kernel
theorem dX10_whyNot_219 : decode cX10_whyNot 219 = .ok (.ireturn, 1) := by decide +kernel
theorem dX10_whyNot_220 : decode cX10_whyNot 220 = .ok (.aload_n 0, 1) := by decide +kernel
theorem dX10_whyNot_221 : decode cX10_whyNot 221 = .ok (.iload_n 2, 1) := by decide +kernel
theorem dX10_whyNot_222 : decode cX10_whyNot 222 = .ok (.invokevirtual 300, 3) := by decide +kernel
theorem dX10_whyNot_225 : decode cX10_whyNot 225 = .ok (.ireturn, 1) := by decide +kernel
theorem dX10_whyPlug_0 : decode cX10_whyPlug 0 = .ok (.aload_n 0, 1) := by decide +kernel
theorem dX10_whyPlug_1 : decode cX10_whyPlug 1 = .ok (.iload_n 1, 1) := by decide +kernel
theorem dX10_whyPlug_2 : decode cX10_whyPlug 2 = .ok (.invokevirtual 139, 3) := by decide +kernel
theorem dX10_whyPlug_5 : decode cX10_whyPlug 5 = .ok (.ifCond .eq 11, 3) := by decide +kernel
theorem dX10_whyPlug_16 : decode cX10_whyPlug 16 = .ok (.iconst 0, 1) := by decide +kernel
theorem dX10_whyPlug_17 : decode cX10_whyPlug 17 = .ok (.ireturn, 1) := by decide +kernel
theorem dX10_whySleep_0 : decode cX10_whySleep 0 = .ok (.aload_n 0, 1) := by decide +kernel
theorem dX10_whySleep_1 : decode cX10_whySleep 1 = .ok (.iload_n 1, 1) := by decide +kernel
theorem dX10_whySleep_2 : decode cX10_whySleep 2 = .ok (.invokevirtual 139, 3) := by decide +kernel
theorem dX10_whySleep_5 : decode cX10_whySleep 5 = .ok (.ifCond .ne 5, 3) := by decide +kernel
theorem dX10_whySleep_8 : decode cX10_whySleep 8 = .ok (.iconst 0, 1) := by decide +kernel
theorem dX10_whySleep_9 : decode cX10_whySleep 9 = .ok (.ireturn, 1) := by decide +kernel
theorem dX10_years_0 : decode cX10_years 0 = .ok (.aload_n 0, 1) := by decide +kernel
theorem dX10_years_1 : decode cX10_years 1 = .ok (.invokevirtual 135, 3) := by decide +kernel
theorem dX10_years_4 : decode cX10_years 4 = .ok (.ifCond .eq 13, 3) := by decide +kernel
theorem dX10_years_17 : decode cX10_years 17 = .ok (.iconst (-1), 1) := by decide +kernel
theorem dX10_years_18 : decode cX10_years 18 = .ok (.ireturn, 1) := by decide +kernel
def wq_X10_in : List Cond := .code yX10_in cX10_in 3 (some .boolean) :: ([])
set_option maxHeartbeats 4000000 in
set_option maxRecDepth 100000 in
theorem c_X10_in (l : Launch) (dC : Nat → ClassId) (dI : Nat → Nat → Nat) (v : Int32) (lo : Int32) (hi : Int32) : Met l yX10_in wq_X10_in ({ frames := 0, cells := 0, slots := 0, locals := 0 }) (va_Pc [.int v, .int lo, .int hi] (q_R (dC, dI) [] [])) (q_i ((q_in v lo hi))) 0 0 (fun _ => False) := by
  refine Met.ofW (cc := cX10_in) (maxL := 3) (ret := (some .boolean)) (by decide) rfl ?_
  intro p e s m args below meth c s₁ B hml hv
  obtain ⟨rfl, hP, hK⟩ := hv
  have hx := B.exec
  have hb := B.bytes
  have hr := B.returns
  have hts := atoms_spec (ws := wq_X10_in) B.pre
  have hown : s.vm.findClass RX10 = some m.cls := findClass_of_methodNamed B.named
  have hlocks := B.notSynchronized
  have hS : va_S (fun _ => False) s.heap s.heap [] := va_S.rf
  have hl := lv_entry ([.int v, .int lo, .int hi]) (n := 3) (Nat.le_of_ble_eq_true rfl)
  rw [lg_entry_eq]
  generalize (lg_sl ([.int v, .int lo, .int hi]) ++ List.replicate (3 - (lg_sl ([.int v, .int lo, .int hi])).length) Slot.unset).toArray = ls at hl ⊢
  have hl : lv_has ls 3 [(0, .int v), (1, .int lo), (2, .int hi)] := hl
  refine lv_iload_n hx hb dX10_in_0 rfl (lv_at hl 0 rfl) ?_
  refine lv_iload_n hx hb dX10_in_1 rfl (lv_at hl 1 rfl) ?_
  refine lv_icmp_lt (tgt := 14) hx hb dX10_in_2 (by decide) (fun c_1 => ?_) (fun c_1 => ?_)
  · skip
    refine lv_iconst (v := 0) hx hb dX10_in_14 (by decide) ?_
    exact W.zret (v := 0) hx hb hr rfl (fun t ht hW => ⟨⟨0, (), rfl, (by first | (simp [q_in, c_1]; done) | (rw [q_in, if_neg c_1, if_neg c_1]) | (rw [q_in, if_neg c_1, if_pos c_1]) | (rw [q_in, if_pos c_1])), trivial⟩, hS.F ht⟩) hS.2.2 dX10_in_15
  · skip
    refine lv_iload_n hx hb dX10_in_5 rfl (lv_at hl 0 rfl) ?_
    refine lv_iload_n hx hb dX10_in_6 rfl (lv_at hl 2 rfl) ?_
    refine lv_icmp_gt (tgt := 14) hx hb dX10_in_7 (by decide) (fun c_2 => ?_) (fun c_2 => ?_)
    · skip
      refine lv_iconst (v := 0) hx hb dX10_in_14 (by decide) ?_
      exact W.zret (v := 0) hx hb hr rfl (fun t ht hW => ⟨⟨0, (), rfl, (by first | (simp [q_in, c_1, c_2]; done) | (rw [q_in, if_neg c_1, if_neg c_2]) | (rw [q_in, if_neg c_1, if_pos c_2]) | (rw [q_in, if_pos c_1])), trivial⟩, hS.F ht⟩) hS.2.2 dX10_in_15
    · skip
      refine lv_iconst (v := 1) hx hb dX10_in_10 (by decide) ?_
      refine lv_goto (tgt := 15) hx hb dX10_in_11 (by decide) ?_
      exact W.zret (v := 1) hx hb hr rfl (fun t ht hW => ⟨⟨1, (), rfl, (by first | (simp [q_in, c_1, c_2]; done) | (rw [q_in, if_neg c_1, if_neg c_2]) | (rw [q_in, if_neg c_1, if_pos c_2]) | (rw [q_in, if_pos c_1])), trivial⟩, hS.F ht⟩) hS.2.2 dX10_in_15

def wq_X10_isTree : List Cond := .code yX10_isTree cX10_isTree 1 (some .boolean) :: ([.fieldLink RX10 132 "HubTreeModel" "many" "I"] ++ wsX100)
theorem iq_X10_isTree_10 : ∀ w ∈ wsX100, w ∈ wq_X10_isTree := fun _ h => List.mem_cons_of_mem _ (List.mem_append_right _ h)
set_option maxHeartbeats 4000000 in
set_option maxRecDepth 100000 in
theorem c_X10_isTree (l : Launch) (dC : Nat → ClassId) (dI : Nat → Nat → Nat) (bm : Nat → Nat) : Met l yX10_isTree wq_X10_isTree ({ frames := 0, cells := 0, slots := 0, locals := 0 }) (va_Pc [.ref (bm 0)] (q_R (dC, dI) [((bm 0), .inr (10, [.int 0, .ref (bm 1), .int 0, .int 0, .int 0, .ref (bm 2), .ref (bm 3), .int 0, .ref (bm 4), .ref (bm 5), .int 0, .ref (bm 6), .ref (bm 7), .int 0, .ref (bm 8), .ref (bm 9), .ref (bm 10), .int 0, .long 0, .ref (bm 11), .ref (bm 12), .ref (bm 13), .ref (bm 14), .int 0]))] [])) (q_i (0)) 0 0 (fun _ => False) := by
  refine Met.ofW (cc := cX10_isTree) (maxL := 1) (ret := (some .boolean)) (by decide) rfl ?_
  intro p e s m args below meth c s₁ B hml hv
  obtain ⟨rfl, hP, hK⟩ := hv
  have hx := B.exec
  have hb := B.bytes
  have hr := B.returns
  have hts := atoms_spec (ws := wq_X10_isTree) B.pre
  have hown : s.vm.findClass RX10 = some m.cls := findClass_of_methodNamed B.named
  have hlocks := B.notSynchronized
  have hS : va_S (fun _ => False) s.heap s.heap [] := va_S.rf
  have hl := lv_entry ([.ref (bm 0)]) (n := 1) (Nat.le_of_ble_eq_true rfl)
  rw [lg_entry_eq]
  generalize (lg_sl ([.ref (bm 0)]) ++ List.replicate (1 - (lg_sl ([.ref (bm 0)])).length) Slot.unset).toArray = ls at hl ⊢
  have hl : lv_has ls 1 [(0, .ref (bm 0))] := hl
  refine lv_aload_n hx hb dX10_isTree_0 rfl (lv_at hl 0 rfl) ?_
  refine va_get (D := (dC, dI)) (ci := 10) (v := .int 0) (C := RX10) (T := TX10) (N := 24) hx hb hts iq_X10_isTree_10 hown hK hP 0 rfl rfl 10 (by decide) (hts (.fieldLink RX10 132 "HubTreeModel" "many" "I") (List.mem_of_getElem? (i := 1) rfl)) (fun _ h9 => h9) rfl dX10_isTree_1 ?_
  refine lv_if_le (tgt := 11) hx hb dX10_isTree_4 (by decide) (fun c_1 => ?_) (fun c_1 => ?_)
  · skip
    refine lv_iconst (v := 0) hx hb dX10_isTree_11 (by decide) ?_
    exact W.zret (v := 0) hx hb hr rfl (fun t ht hW => ⟨⟨0, (), rfl, rfl, trivial⟩, hS.F ht⟩) hS.2.2 dX10_isTree_12
  · exact absurd (by decide) c_1

def wq_X10_isDevice : List Cond := .code yX10_isDevice cX10_isDevice 2 (some .boolean) :: ([.fieldLink RX10 132 "HubTreeModel" "many" "I", .methodLink RX10 63 yX10_in, .static yX10_in, .initialized RX10, .code yX10_in cX10_in 3 (some .boolean)] ++ wsX100)
set_option maxRecDepth 20000 in
theorem g_X10_isDevice_X10_in_63 : GoodIn wq_X10_isDevice (va_wsS RX10 63 yX10_in wq_X10_in) := goodIn_r _ [2, 3, 4, 5] (by decide +kernel) (by decide +kernel)
theorem iq_X10_isDevice_10 : ∀ w ∈ wsX100, w ∈ wq_X10_isDevice := fun _ h => List.mem_cons_of_mem _ (List.mem_append_right _ h)
set_option maxHeartbeats 4000000 in
set_option maxRecDepth 100000 in
theorem c_X10_isDevice (l : Launch) (dC : Nat → ClassId) (dI : Nat → Nat → Nat) (bm : Nat → Nat) (d : Int32) : Met l yX10_isDevice wq_X10_isDevice ({ frames := 1, cells := 0, slots := 0, locals := 22 }) (va_Pc [.ref (bm 0), .int d] (q_R (dC, dI) [((bm 0), .inr (10, [.int 0, .ref (bm 1), .int 0, .int 0, .int 0, .ref (bm 2), .ref (bm 3), .int 0, .ref (bm 4), .ref (bm 5), .int 0, .ref (bm 6), .ref (bm 7), .int 0, .ref (bm 8), .ref (bm 9), .ref (bm 10), .int 0, .long 0, .ref (bm 11), .ref (bm 12), .ref (bm 13), .ref (bm 14), .int 0]))] [])) (q_i (0)) 0 0 (fun _ => False) := by
  refine Met.ofW (cc := cX10_isDevice) (maxL := 2) (ret := (some .boolean)) (by decide) rfl ?_
  intro p e s m args below meth c s₁ B hml hv
  obtain ⟨rfl, hP, hK⟩ := hv
  have hx := B.exec
  have hb := B.bytes
  have hr := B.returns
  have hts := atoms_spec (ws := wq_X10_isDevice) B.pre
  have hown : s.vm.findClass RX10 = some m.cls := findClass_of_methodNamed B.named
  have hlocks := B.notSynchronized
  have hS : va_S (fun _ => False) s.heap s.heap [] := va_S.rf
  have hl := lv_entry ([.ref (bm 0), .int d]) (n := 2) (Nat.le_of_ble_eq_true rfl)
  rw [lg_entry_eq]
  generalize (lg_sl ([.ref (bm 0), .int d]) ++ List.replicate (2 - (lg_sl ([.ref (bm 0), .int d])).length) Slot.unset).toArray = ls at hl ⊢
  have hl : lv_has ls 2 [(0, .ref (bm 0)), (1, .int d)] := hl
  refine lv_iload_n hx hb dX10_isDevice_0 rfl (lv_at hl 1 rfl) ?_
  refine lv_iconst (v := 0) hx hb dX10_isDevice_1 (by decide) ?_
  refine lv_aload_n hx hb dX10_isDevice_2 rfl (lv_at hl 0 rfl) ?_
  refine va_get (D := (dC, dI)) (ci := 10) (v := .int 0) (C := RX10) (T := TX10) (N := 24) hx hb hts iq_X10_isDevice_10 hown hK hP 0 rfl rfl 10 (by decide) (hts (.fieldLink RX10 132 "HubTreeModel" "many" "I") (List.mem_of_getElem? (i := 1) rfl)) (fun _ h9 => h9) rfl dX10_isDevice_3 ?_
  refine lv_iconst (v := 1) hx hb dX10_isDevice_6 (by decide) ?_
  refine lv_isub hx hb dX10_isDevice_7 ?_
  refine q_top (y := (-1)) (by decide) ?_
  refine q_goi (v := (q_in d 0 (-1))) (va_runS (As := [.int d, .int 0, .int (-1)]) (rest := []) ⟨hx, hb, hml, hown, hts⟩ (c_X10_in l dC dI d 0 (-1)) (va_cwS 3 hts g_X10_isDevice_X10_in_63 rfl rfl rfl (by decide +kernel) ⟨Nat.le_of_ble_eq_true rfl, Nat.le_of_ble_eq_true rfl⟩) (q_preS hK hP [] rfl [] rfl) rfl rfl hl.1 rfl (lv_room (Nat.le_of_ble_eq_true rfl)) dX10_isDevice_8 ⟨Nat.le_of_ble_eq_true rfl, Nat.le_of_ble_eq_true rfl⟩) hP hS (fun H locs hP hS => ?_)
  refine q_top (y := 0) (q_in_none d) ?_
  exact W.zret (v := 0) hx hb hr rfl (fun t ht hW => ⟨⟨0, (), rfl, rfl, trivial⟩, hS.F ht⟩) hS.2.2 dX10_isDevice_11

def wq_X10_isScript : List Cond := .code yX10_isScript cX10_isScript 2 (some .boolean) :: ([.fieldLink RX10 161 "HubTreeModel" "scripts" "I", .methodLink RX10 63 yX10_in, .static yX10_in, .initialized RX10, .code yX10_in cX10_in 3 (some .boolean)] ++ wsX100)
set_option maxRecDepth 20000 in
theorem g_X10_isScript_X10_in_63 : GoodIn wq_X10_isScript (va_wsS RX10 63 yX10_in wq_X10_in) := goodIn_r _ [2, 3, 4, 5] (by decide +kernel) (by decide +kernel)
theorem iq_X10_isScript_10 : ∀ w ∈ wsX100, w ∈ wq_X10_isScript := fun _ h => List.mem_cons_of_mem _ (List.mem_append_right _ h)
set_option maxHeartbeats 4000000 in
set_option maxRecDepth 100000 in
theorem c_X10_isScript (l : Launch) (dC : Nat → ClassId) (dI : Nat → Nat → Nat) (bm : Nat → Nat) (d : Int32) : Met l yX10_isScript wq_X10_isScript ({ frames := 1, cells := 0, slots := 0, locals := 22 }) (va_Pc [.ref (bm 0), .int d] (q_R (dC, dI) [((bm 0), .inr (10, [.int 0, .ref (bm 1), .int 0, .int 0, .int 0, .ref (bm 2), .ref (bm 3), .int 0, .ref (bm 4), .ref (bm 5), .int 0, .ref (bm 6), .ref (bm 7), .int 0, .ref (bm 8), .ref (bm 9), .ref (bm 10), .int 0, .long 0, .ref (bm 11), .ref (bm 12), .ref (bm 13), .ref (bm 14), .int 0]))] [])) (q_i (0)) 0 0 (fun _ => False) := by
  refine Met.ofW (cc := cX10_isScript) (maxL := 2) (ret := (some .boolean)) (by decide) rfl ?_
  intro p e s m args below meth c s₁ B hml hv
  obtain ⟨rfl, hP, hK⟩ := hv
  have hx := B.exec
  have hb := B.bytes
  have hr := B.returns
  have hts := atoms_spec (ws := wq_X10_isScript) B.pre
  have hown : s.vm.findClass RX10 = some m.cls := findClass_of_methodNamed B.named
  have hlocks := B.notSynchronized
  have hS : va_S (fun _ => False) s.heap s.heap [] := va_S.rf
  have hl := lv_entry ([.ref (bm 0), .int d]) (n := 2) (Nat.le_of_ble_eq_true rfl)
  rw [lg_entry_eq]
  generalize (lg_sl ([.ref (bm 0), .int d]) ++ List.replicate (2 - (lg_sl ([.ref (bm 0), .int d])).length) Slot.unset).toArray = ls at hl ⊢
  have hl : lv_has ls 2 [(0, .ref (bm 0)), (1, .int d)] := hl
  refine lv_iload_n hx hb dX10_isScript_0 rfl (lv_at hl 1 rfl) ?_
  refine lv_iconst (v := 0) hx hb dX10_isScript_1 (by decide) ?_
  refine lv_aload_n hx hb dX10_isScript_2 rfl (lv_at hl 0 rfl) ?_
  refine va_get (D := (dC, dI)) (ci := 10) (v := .int 0) (C := RX10) (T := TX10) (N := 24) hx hb hts iq_X10_isScript_10 hown hK hP 0 rfl rfl 13 (by decide) (hts (.fieldLink RX10 161 "HubTreeModel" "scripts" "I") (List.mem_of_getElem? (i := 1) rfl)) (fun _ h9 => h9) rfl dX10_isScript_3 ?_
  refine lv_iconst (v := 1) hx hb dX10_isScript_6 (by decide) ?_
  refine lv_isub hx hb dX10_isScript_7 ?_
  refine q_top (y := (-1)) (by decide) ?_
  refine q_goi (v := (q_in d 0 (-1))) (va_runS (As := [.int d, .int 0, .int (-1)]) (rest := []) ⟨hx, hb, hml, hown, hts⟩ (c_X10_in l dC dI d 0 (-1)) (va_cwS 3 hts g_X10_isScript_X10_in_63 rfl rfl rfl (by decide +kernel) ⟨Nat.le_of_ble_eq_true rfl, Nat.le_of_ble_eq_true rfl⟩) (q_preS hK hP [] rfl [] rfl) rfl rfl hl.1 rfl (lv_room (Nat.le_of_ble_eq_true rfl)) dX10_isScript_8 ⟨Nat.le_of_ble_eq_true rfl, Nat.le_of_ble_eq_true rfl⟩) hP hS (fun H locs hP hS => ?_)
  refine q_top (y := 0) (q_in_none d) ?_
  exact W.zret (v := 0) hx hb hr rfl (fun t ht hW => ⟨⟨0, (), rfl, rfl, trivial⟩, hS.F ht⟩) hS.2.2 dX10_isScript_11

def wq_X10_isHub : List Cond := .code yX10_isHub cX10_isHub 2 (some .boolean) :: ([.methodLink RX10 135 yX10_isTree, .instanceMethod yX10_isTree, .selects RX10 yX10_isTree yX10_isTree, .initialized RX10, .code yX10_isTree cX10_isTree 1 (some .boolean), .fieldLink RX10 132 "HubTreeModel" "many" "I", .methodLink RX10 139 yX10_isDevice, .instanceMethod yX10_isDevice, .selects RX10 yX10_isDevice yX10_isDevice, .code yX10_isDevice cX10_isDevice 2 (some .boolean), .methodLink RX10 63 yX10_in, .static yX10_in, .code yX10_in cX10_in 3 (some .boolean)] ++ wsX100)
set_option maxRecDepth 20000 in
theorem g_X10_isHub_X10_isTree_135 : GoodIn wq_X10_isHub (wsV RX10 135 RX10 yX10_isTree wq_X10_isTree) := goodIn_r _ [1, 2, 3, 4, 5, 6, 14, 15, 16, 17, 18, 19, 20, 21, 22, 23, 24, 25, 26, 27, 28, 29, 30, 31, 32, 33, 34, 35, 36, 37] (by decide +kernel) (by decide +kernel)
set_option maxRecDepth 20000 in
theorem g_X10_isHub_X10_isDevice_139 : GoodIn wq_X10_isHub (wsV RX10 139 RX10 yX10_isDevice wq_X10_isDevice) := goodIn_r _ [7, 8, 9, 4, 10, 6, 11, 12, 4, 13, 14, 15, 16, 17, 18, 19, 20, 21, 22, 23, 24, 25, 26, 27, 28, 29, 30, 31, 32, 33, 34, 35, 36, 37] (by decide +kernel) (by decide +kernel)
theorem iq_X10_isHub_10 : ∀ w ∈ wsX100, w ∈ wq_X10_isHub := fun _ h => List.mem_cons_of_mem _ (List.mem_append_right _ h)
set_option maxHeartbeats 4000000 in
set_option maxRecDepth 100000 in
theorem c_X10_isHub (l : Launch) (dC : Nat → ClassId) (dI : Nat → Nat → Nat) (bm : Nat → Nat) (d : Int32) : Met l yX10_isHub wq_X10_isHub ({ frames := 2, cells := 0, slots := 0, locals := 43 }) (va_Pc [.ref (bm 0), .int d] (q_R (dC, dI) [((bm 0), .inr (10, [.int 0, .ref (bm 1), .int 0, .int 0, .int 0, .ref (bm 2), .ref (bm 3), .int 0, .ref (bm 4), .ref (bm 5), .int 0, .ref (bm 6), .ref (bm 7), .int 0, .ref (bm 8), .ref (bm 9), .ref (bm 10), .int 0, .long 0, .ref (bm 11), .ref (bm 12), .ref (bm 13), .ref (bm 14), .int 0]))] [])) (q_i (0)) 0 0 (fun _ => False) := by
  refine Met.ofW (cc := cX10_isHub) (maxL := 2) (ret := (some .boolean)) (by decide) rfl ?_
  intro p e s m args below meth c s₁ B hml hv
  obtain ⟨rfl, hP, hK⟩ := hv
  have hx := B.exec
  have hb := B.bytes
  have hr := B.returns
  have hts := atoms_spec (ws := wq_X10_isHub) B.pre
  have hown : s.vm.findClass RX10 = some m.cls := findClass_of_methodNamed B.named
  have hlocks := B.notSynchronized
  have hS : va_S (fun _ => False) s.heap s.heap [] := va_S.rf
  have hl := lv_entry ([.ref (bm 0), .int d]) (n := 2) (Nat.le_of_ble_eq_true rfl)
  rw [lg_entry_eq]
  generalize (lg_sl ([.ref (bm 0), .int d]) ++ List.replicate (2 - (lg_sl ([.ref (bm 0), .int d])).length) Slot.unset).toArray = ls at hl ⊢
  have hl : lv_has ls 2 [(0, .ref (bm 0)), (1, .int d)] := hl
  refine lv_aload_n hx hb dX10_isHub_0 rfl (lv_at hl 0 rfl) ?_
  refine q_goi (v := 0) (va_runV (As := []) (rest := []) ⟨hx, hb, hml, hown, hts⟩ (c_X10_isTree l dC dI bm) (cwV 0 hts g_X10_isHub_X10_isTree_135 rfl rfl rfl (by decide +kernel) ⟨Nat.le_of_ble_eq_true rfl, Nat.le_of_ble_eq_true rfl⟩) (q_preV hK hP (ci := 10) (q0 := 0) rfl rfl [0] rfl [] rfl) rfl rfl hl.1 rfl (lv_room (Nat.le_of_ble_eq_true rfl)) dX10_isHub_1 ⟨Nat.le_of_ble_eq_true rfl, Nat.le_of_ble_eq_true rfl⟩) hP hS (fun H locs hP hS => ?_)
  refine lv_if_eq (tgt := 13) hx hb dX10_isHub_4 (by decide) (fun c_1 => ?_) (fun c_1 => ?_)
  · skip
    refine lv_aload_n hx hb dX10_isHub_13 rfl (lv_at hl 0 rfl) ?_
    refine lv_iload_n hx hb dX10_isHub_14 rfl (lv_at hl 1 rfl) ?_
    refine q_goi (v := 0) (va_runV (As := [.int d]) (rest := []) ⟨hx, hb, hml, hown, hts⟩ (c_X10_isDevice l dC dI bm d) (cwV 1 hts g_X10_isHub_X10_isDevice_139 rfl rfl rfl (by decide +kernel) ⟨Nat.le_of_ble_eq_true rfl, Nat.le_of_ble_eq_true rfl⟩) (q_preV hK hP (ci := 10) (q0 := 0) rfl rfl [0] rfl [] rfl) rfl rfl hl.1 rfl (lv_room (Nat.le_of_ble_eq_true rfl)) dX10_isHub_15 ⟨Nat.le_of_ble_eq_true rfl, Nat.le_of_ble_eq_true rfl⟩) hP hS (fun H locs hP hS => ?_)
    refine lv_if_eq (tgt := 34) hx hb dX10_isHub_18 (by decide) (fun c_2 => ?_) (fun c_2 => ?_)
    · skip
      refine lv_iconst (v := 0) hx hb dX10_isHub_34 (by decide) ?_
      exact W.zret (v := 0) hx hb hr rfl (fun t ht hW => ⟨⟨0, (), rfl, rfl, trivial⟩, hS.F ht⟩) hS.2.2 dX10_isHub_35
    · exact absurd (by decide) c_2
  · exact absurd (by decide) c_1

def wq_X10_whoHas : List Cond := .code yX10_whoHas cX10_whoHas 3 (some .int) :: ([.fieldLink RX10 132 "HubTreeModel" "many" "I"] ++ wsX100)
theorem iq_X10_whoHas_10 : ∀ w ∈ wsX100, w ∈ wq_X10_whoHas := fun _ h => List.mem_cons_of_mem _ (List.mem_append_right _ h)
set_option maxHeartbeats 4000000 in
set_option maxRecDepth 100000 in
theorem c_X10_whoHas (l : Launch) (dC : Nat → ClassId) (dI : Nat → Nat → Nat) (bm : Nat → Nat) (d : Int32) : Met l yX10_whoHas wq_X10_whoHas ({ frames := 0, cells := 0, slots := 0, locals := 0 }) (va_Pc [.ref (bm 0), .int d] (q_R (dC, dI) [((bm 0), .inr (10, [.int 0, .ref (bm 1), .int 0, .int 0, .int 0, .ref (bm 2), .ref (bm 3), .int 0, .ref (bm 4), .ref (bm 5), .int 0, .ref (bm 6), .ref (bm 7), .int 0, .ref (bm 8), .ref (bm 9), .ref (bm 10), .int 0, .long 0, .ref (bm 11), .ref (bm 12), .ref (bm 13), .ref (bm 14), .int 0]))] [])) (q_i (-1)) 0 0 (fun _ => False) := by
  refine Met.ofW (cc := cX10_whoHas) (maxL := 3) (ret := (some .int)) (by decide) rfl ?_
  intro p e s m args below meth c s₁ B hml hv
  obtain ⟨rfl, hP, hK⟩ := hv
  have hx := B.exec
  have hb := B.bytes
  have hr := B.returns
  have hts := atoms_spec (ws := wq_X10_whoHas) B.pre
  have hown : s.vm.findClass RX10 = some m.cls := findClass_of_methodNamed B.named
  have hlocks := B.notSynchronized
  have hS : va_S (fun _ => False) s.heap s.heap [] := va_S.rf
  have hl := lv_entry ([.ref (bm 0), .int d]) (n := 3) (Nat.le_of_ble_eq_true rfl)
  rw [lg_entry_eq]
  generalize (lg_sl ([.ref (bm 0), .int d]) ++ List.replicate (3 - (lg_sl ([.ref (bm 0), .int d])).length) Slot.unset).toArray = ls at hl ⊢
  have hl : lv_has ls 3 [(0, .ref (bm 0)), (1, .int d)] := hl
  refine lv_iconst (v := 0) hx hb dX10_whoHas_0 (by decide) ?_
  refine lv_istore_n (lv' := [(2, .int 0), (0, .ref (bm 0)), (1, .int d)]) hx hb dX10_whoHas_1 rfl hl (by decide) rfl (fun ls hl => ?_)
  refine lv_iload_n hx hb dX10_whoHas_2 rfl (lv_at hl 0 rfl) ?_
  refine lv_aload_n hx hb dX10_whoHas_3 rfl (lv_at hl 1 rfl) ?_
  refine va_get (D := (dC, dI)) (ci := 10) (v := .int 0) (C := RX10) (T := TX10) (N := 24) hx hb hts iq_X10_whoHas_10 hown hK hP 0 rfl rfl 10 (by decide) (hts (.fieldLink RX10 132 "HubTreeModel" "many" "I") (List.mem_of_getElem? (i := 1) rfl)) (fun _ h9 => h9) rfl dX10_whoHas_4 ?_
  refine lv_icmp_ge (tgt := 41) hx hb dX10_whoHas_7 (by decide) (fun c_1 => ?_) (fun c_1 => ?_)
  · skip
    refine lv_iconst (v := (-1)) hx hb dX10_whoHas_41 (by decide) ?_
    exact W.iret (v := (-1)) hx hb hr (fun t ht hW => ⟨⟨(-1), (), rfl, rfl, trivial⟩, hS.F ht⟩) hS.2.2 dX10_whoHas_42
  · exact absurd (by decide) c_1

def wq_X10_rule : List Cond := .code yX10_rule cX10_rule 2 (some .int) :: ([.methodLink RX10 135 yX10_isTree, .instanceMethod yX10_isTree, .selects RX10 yX10_isTree yX10_isTree, .initialized RX10, .code yX10_isTree cX10_isTree 1 (some .boolean), .fieldLink RX10 132 "HubTreeModel" "many" "I"] ++ wsX100)
set_option maxRecDepth 20000 in
theorem g_X10_rule_X10_isTree_135 : GoodIn wq_X10_rule (wsV RX10 135 RX10 yX10_isTree wq_X10_isTree) := goodIn_r _ [1, 2, 3, 4, 5, 6, 7, 8, 9, 10, 11, 12, 13, 14, 15, 16, 17, 18, 19, 20, 21, 22, 23, 24, 25, 26, 27, 28, 29, 30] (by decide +kernel) (by decide +kernel)
theorem iq_X10_rule_10 : ∀ w ∈ wsX100, w ∈ wq_X10_rule := fun _ h => List.mem_cons_of_mem _ (List.mem_append_right _ h)
set_option maxHeartbeats 4000000 in
set_option maxRecDepth 100000 in
theorem c_X10_rule (l : Launch) (dC : Nat → ClassId) (dI : Nat → Nat → Nat) (bm : Nat → Nat) (z1 : Int32) : Met l yX10_rule wq_X10_rule ({ frames := 1, cells := 0, slots := 0, locals := 20 }) (va_Pc [.ref (bm 0), .int z1] (q_R (dC, dI) [((bm 0), .inr (10, [.int 0, .ref (bm 1), .int 0, .int 0, .int 0, .ref (bm 2), .ref (bm 3), .int 0, .ref (bm 4), .ref (bm 5), .int 0, .ref (bm 6), .ref (bm 7), .int 0, .ref (bm 8), .ref (bm 9), .ref (bm 10), .int 0, .long 0, .ref (bm 11), .ref (bm 12), .ref (bm 13), .ref (bm 14), .int 0]))] [])) (q_i (-1)) 0 0 (fun _ => False) := by
  refine Met.ofW (cc := cX10_rule) (maxL := 2) (ret := (some .int)) (by decide) rfl ?_
  intro p e s m args below meth c s₁ B hml hv
  obtain ⟨rfl, hP, hK⟩ := hv
  have hx := B.exec
  have hb := B.bytes
  have hr := B.returns
  have hts := atoms_spec (ws := wq_X10_rule) B.pre
  have hown : s.vm.findClass RX10 = some m.cls := findClass_of_methodNamed B.named
  have hlocks := B.notSynchronized
  have hS : va_S (fun _ => False) s.heap s.heap [] := va_S.rf
  have hl := lv_entry ([.ref (bm 0), .int z1]) (n := 2) (Nat.le_of_ble_eq_true rfl)
  rw [lg_entry_eq]
  generalize (lg_sl ([.ref (bm 0), .int z1]) ++ List.replicate (2 - (lg_sl ([.ref (bm 0), .int z1])).length) Slot.unset).toArray = ls at hl ⊢
  have hl : lv_has ls 2 [(0, .ref (bm 0)), (1, .int z1)] := hl
  refine lv_aload_n hx hb dX10_rule_0 rfl (lv_at hl 0 rfl) ?_
  refine q_goi (v := 0) (va_runV (As := []) (rest := []) ⟨hx, hb, hml, hown, hts⟩ (c_X10_isTree l dC dI bm) (cwV 0 hts g_X10_rule_X10_isTree_135 rfl rfl rfl (by decide +kernel) ⟨Nat.le_of_ble_eq_true rfl, Nat.le_of_ble_eq_true rfl⟩) (q_preV hK hP (ci := 10) (q0 := 0) rfl rfl [0] rfl [] rfl) rfl rfl hl.1 rfl (lv_room (Nat.le_of_ble_eq_true rfl)) dX10_rule_1 ⟨Nat.le_of_ble_eq_true rfl, Nat.le_of_ble_eq_true rfl⟩) hP hS (fun H locs hP hS => ?_)
  refine lv_if_eq (tgt := 26) hx hb dX10_rule_4 (by decide) (fun c_1 => ?_) (fun c_1 => ?_)
  · skip
    refine lv_iconst (v := (-1)) hx hb dX10_rule_26 (by decide) ?_
    exact W.iret (v := (-1)) hx hb hr (fun t ht hW => ⟨⟨(-1), (), rfl, rfl, trivial⟩, hS.F ht⟩) hS.2.2 dX10_rule_27
  · exact absurd (by decide) c_1

def wq_X10_told : List Cond := .code yX10_told cX10_told 3 (some .int) :: ([.methodLink RX10 139 yX10_isDevice, .instanceMethod yX10_isDevice, .selects RX10 yX10_isDevice yX10_isDevice, .initialized RX10, .code yX10_isDevice cX10_isDevice 2 (some .boolean), .fieldLink RX10 132 "HubTreeModel" "many" "I", .methodLink RX10 63 yX10_in, .static yX10_in, .code yX10_in cX10_in 3 (some .boolean)] ++ wsX100)
set_option maxRecDepth 20000 in
theorem g_X10_told_X10_isDevice_139 : GoodIn wq_X10_told (wsV RX10 139 RX10 yX10_isDevice wq_X10_isDevice) := goodIn_r _ [1, 2, 3, 4, 5, 6, 7, 8, 4, 9, 10, 11, 12, 13, 14, 15, 16, 17, 18, 19, 20, 21, 22, 23, 24, 25, 26, 27, 28, 29, 30, 31, 32, 33] (by decide +kernel) (by decide +kernel)
theorem iq_X10_told_10 : ∀ w ∈ wsX100, w ∈ wq_X10_told := fun _ h => List.mem_cons_of_mem _ (List.mem_append_right _ h)
set_option maxHeartbeats 4000000 in
set_option maxRecDepth 100000 in
theorem c_X10_told (l : Launch) (dC : Nat → ClassId) (dI : Nat → Nat → Nat) (bm : Nat → Nat) (z1 : Int32) (z2 : Int32) : Met l yX10_told wq_X10_told ({ frames := 2, cells := 0, slots := 0, locals := 43 }) (va_Pc [.ref (bm 0), .int z1, .int z2] (q_R (dC, dI) [((bm 0), .inr (10, [.int 0, .ref (bm 1), .int 0, .int 0, .int 0, .ref (bm 2), .ref (bm 3), .int 0, .ref (bm 4), .ref (bm 5), .int 0, .ref (bm 6), .ref (bm 7), .int 0, .ref (bm 8), .ref (bm 9), .ref (bm 10), .int 0, .long 0, .ref (bm 11), .ref (bm 12), .ref (bm 13), .ref (bm 14), .int 0]))] [])) (q_i (-1)) 0 0 (fun _ => False) := by
  refine Met.ofW (cc := cX10_told) (maxL := 3) (ret := (some .int)) (by decide) rfl ?_
  intro p e s m args below meth c s₁ B hml hv
  obtain ⟨rfl, hP, hK⟩ := hv
  have hx := B.exec
  have hb := B.bytes
  have hr := B.returns
  have hts := atoms_spec (ws := wq_X10_told) B.pre
  have hown : s.vm.findClass RX10 = some m.cls := findClass_of_methodNamed B.named
  have hlocks := B.notSynchronized
  have hS : va_S (fun _ => False) s.heap s.heap [] := va_S.rf
  have hl := lv_entry ([.ref (bm 0), .int z1, .int z2]) (n := 3) (Nat.le_of_ble_eq_true rfl)
  rw [lg_entry_eq]
  generalize (lg_sl ([.ref (bm 0), .int z1, .int z2]) ++ List.replicate (3 - (lg_sl ([.ref (bm 0), .int z1, .int z2])).length) Slot.unset).toArray = ls at hl ⊢
  have hl : lv_has ls 3 [(0, .ref (bm 0)), (1, .int z1), (2, .int z2)] := hl
  refine lv_aload_n hx hb dX10_told_0 rfl (lv_at hl 0 rfl) ?_
  refine lv_iload_n hx hb dX10_told_1 rfl (lv_at hl 1 rfl) ?_
  refine q_goi (v := 0) (va_runV (As := [.int z1]) (rest := []) ⟨hx, hb, hml, hown, hts⟩ (c_X10_isDevice l dC dI bm z1) (cwV 1 hts g_X10_told_X10_isDevice_139 rfl rfl rfl (by decide +kernel) ⟨Nat.le_of_ble_eq_true rfl, Nat.le_of_ble_eq_true rfl⟩) (q_preV hK hP (ci := 10) (q0 := 0) rfl rfl [0] rfl [] rfl) rfl rfl hl.1 rfl (lv_room (Nat.le_of_ble_eq_true rfl)) dX10_told_2 ⟨Nat.le_of_ble_eq_true rfl, Nat.le_of_ble_eq_true rfl⟩) hP hS (fun H locs hP hS => ?_)
  refine lv_if_eq (tgt := 17) hx hb dX10_told_5 (by decide) (fun c_1 => ?_) (fun c_1 => ?_)
  · skip
    refine lv_iconst (v := (-1)) hx hb dX10_told_17 (by decide) ?_
    exact W.iret (v := (-1)) hx hb hr (fun t ht hW => ⟨⟨(-1), (), rfl, rfl, trivial⟩, hS.F ht⟩) hS.2.2 dX10_told_18
  · exact absurd (by decide) c_1

def wq_X10_port : List Cond := .code yX10_port cX10_port 3 (some .int) :: ([.methodLink RX10 270 yX10_isHub, .instanceMethod yX10_isHub, .selects RX10 yX10_isHub yX10_isHub, .initialized RX10, .code yX10_isHub cX10_isHub 2 (some .boolean), .methodLink RX10 135 yX10_isTree, .instanceMethod yX10_isTree, .selects RX10 yX10_isTree yX10_isTree, .code yX10_isTree cX10_isTree 1 (some .boolean), .fieldLink RX10 132 "HubTreeModel" "many" "I", .methodLink RX10 139 yX10_isDevice, .instanceMethod yX10_isDevice, .selects RX10 yX10_isDevice yX10_isDevice, .code yX10_isDevice cX10_isDevice 2 (some .boolean), .methodLink RX10 63 yX10_in, .static yX10_in, .code yX10_in cX10_in 3 (some .boolean)] ++ wsX100)
set_option maxRecDepth 20000 in
theorem g_X10_port_X10_isHub_270 : GoodIn wq_X10_port (wsV RX10 270 RX10 yX10_isHub wq_X10_isHub) := goodIn_r _ [1, 2, 3, 4, 5, 6, 7, 8, 4, 9, 10, 11, 12, 13, 14, 15, 16, 17, 18, 19, 20, 21, 22, 23, 24, 25, 26, 27, 28, 29, 30, 31, 32, 33, 34, 35, 36, 37, 38, 39, 40, 41] (by decide +kernel) (by decide +kernel)
theorem iq_X10_port_10 : ∀ w ∈ wsX100, w ∈ wq_X10_port := fun _ h => List.mem_cons_of_mem _ (List.mem_append_right _ h)
set_option maxHeartbeats 4000000 in
set_option maxRecDepth 100000 in
theorem c_X10_port (l : Launch) (dC : Nat → ClassId) (dI : Nat → Nat → Nat) (bm : Nat → Nat) (z1 : Int32) (z2 : Int32) : Met l yX10_port wq_X10_port ({ frames := 3, cells := 0, slots := 0, locals := 64 }) (va_Pc [.ref (bm 0), .int z1, .int z2] (q_R (dC, dI) [((bm 0), .inr (10, [.int 0, .ref (bm 1), .int 0, .int 0, .int 0, .ref (bm 2), .ref (bm 3), .int 0, .ref (bm 4), .ref (bm 5), .int 0, .ref (bm 6), .ref (bm 7), .int 0, .ref (bm 8), .ref (bm 9), .ref (bm 10), .int 0, .long 0, .ref (bm 11), .ref (bm 12), .ref (bm 13), .ref (bm 14), .int 0]))] [])) (q_i (-1)) 0 0 (fun _ => False) := by
  refine Met.ofW (cc := cX10_port) (maxL := 3) (ret := (some .int)) (by decide) rfl ?_
  intro p e s m args below meth c s₁ B hml hv
  obtain ⟨rfl, hP, hK⟩ := hv
  have hx := B.exec
  have hb := B.bytes
  have hr := B.returns
  have hts := atoms_spec (ws := wq_X10_port) B.pre
  have hown : s.vm.findClass RX10 = some m.cls := findClass_of_methodNamed B.named
  have hlocks := B.notSynchronized
  have hS : va_S (fun _ => False) s.heap s.heap [] := va_S.rf
  have hl := lv_entry ([.ref (bm 0), .int z1, .int z2]) (n := 3) (Nat.le_of_ble_eq_true rfl)
  rw [lg_entry_eq]
  generalize (lg_sl ([.ref (bm 0), .int z1, .int z2]) ++ List.replicate (3 - (lg_sl ([.ref (bm 0), .int z1, .int z2])).length) Slot.unset).toArray = ls at hl ⊢
  have hl : lv_has ls 3 [(0, .ref (bm 0)), (1, .int z1), (2, .int z2)] := hl
  refine lv_aload_n hx hb dX10_port_0 rfl (lv_at hl 0 rfl) ?_
  refine lv_iload_n hx hb dX10_port_1 rfl (lv_at hl 1 rfl) ?_
  refine q_goi (v := 0) (va_runV (As := [.int z1]) (rest := []) ⟨hx, hb, hml, hown, hts⟩ (c_X10_isHub l dC dI bm z1) (cwV 1 hts g_X10_port_X10_isHub_270 rfl rfl rfl (by decide +kernel) ⟨Nat.le_of_ble_eq_true rfl, Nat.le_of_ble_eq_true rfl⟩) (q_preV hK hP (ci := 10) (q0 := 0) rfl rfl [0] rfl [] rfl) rfl rfl hl.1 rfl (lv_room (Nat.le_of_ble_eq_true rfl)) dX10_port_2 ⟨Nat.le_of_ble_eq_true rfl, Nat.le_of_ble_eq_true rfl⟩) hP hS (fun H locs hP hS => ?_)
  refine lv_if_eq (tgt := 32) hx hb dX10_port_5 (by decide) (fun c_1 => ?_) (fun c_1 => ?_)
  · skip
    refine lv_iconst (v := (-1)) hx hb dX10_port_32 (by decide) ?_
    exact W.iret (v := (-1)) hx hb hr (fun t ht hW => ⟨⟨(-1), (), rfl, rfl, trivial⟩, hS.F ht⟩) hS.2.2 dX10_port_33
  · exact absurd (by decide) c_1

def wq_X10_hub : List Cond := .code yX10_hub cX10_hub 4 (some .int) :: ([.methodLink RX10 270 yX10_isHub, .instanceMethod yX10_isHub, .selects RX10 yX10_isHub yX10_isHub, .initialized RX10, .code yX10_isHub cX10_isHub 2 (some .boolean), .methodLink RX10 135 yX10_isTree, .instanceMethod yX10_isTree, .selects RX10 yX10_isTree yX10_isTree, .code yX10_isTree cX10_isTree 1 (some .boolean), .fieldLink RX10 132 "HubTreeModel" "many" "I", .methodLink RX10 139 yX10_isDevice, .instanceMethod yX10_isDevice, .selects RX10 yX10_isDevice yX10_isDevice, .code yX10_isDevice cX10_isDevice 2 (some .boolean), .methodLink RX10 63 yX10_in, .static yX10_in, .code yX10_in cX10_in 3 (some .boolean), .constant RX10 358 (-1000000)] ++ wsX100)
set_option maxRecDepth 20000 in
theorem g_X10_hub_X10_isHub_270 : GoodIn wq_X10_hub (wsV RX10 270 RX10 yX10_isHub wq_X10_isHub) := goodIn_r _ [1, 2, 3, 4, 5, 6, 7, 8, 4, 9, 10, 11, 12, 13, 14, 15, 16, 17, 19, 20, 21, 22, 23, 24, 25, 26, 27, 28, 29, 30, 31, 32, 33, 34, 35, 36, 37, 38, 39, 40, 41, 42] (by decide +kernel) (by decide +kernel)
theorem iq_X10_hub_10 : ∀ w ∈ wsX100, w ∈ wq_X10_hub := fun _ h => List.mem_cons_of_mem _ (List.mem_append_right _ h)
set_option maxHeartbeats 4000000 in
set_option maxRecDepth 100000 in
theorem c_X10_hub (l : Launch) (dC : Nat → ClassId) (dI : Nat → Nat → Nat) (bm : Nat → Nat) (z1 : Int32) (z2 : Int32) : Met l yX10_hub wq_X10_hub ({ frames := 3, cells := 0, slots := 0, locals := 64 }) (va_Pc [.ref (bm 0), .int z1, .int z2] (q_R (dC, dI) [((bm 0), .inr (10, [.int 0, .ref (bm 1), .int 0, .int 0, .int 0, .ref (bm 2), .ref (bm 3), .int 0, .ref (bm 4), .ref (bm 5), .int 0, .ref (bm 6), .ref (bm 7), .int 0, .ref (bm 8), .ref (bm 9), .ref (bm 10), .int 0, .long 0, .ref (bm 11), .ref (bm 12), .ref (bm 13), .ref (bm 14), .int 0]))] [])) (q_i (-1000000)) 0 0 (fun _ => False) := by
  refine Met.ofW (cc := cX10_hub) (maxL := 4) (ret := (some .int)) (by decide) rfl ?_
  intro p e s m args below meth c s₁ B hml hv
  obtain ⟨rfl, hP, hK⟩ := hv
  have hx := B.exec
  have hb := B.bytes
  have hr := B.returns
  have hts := atoms_spec (ws := wq_X10_hub) B.pre
  have hown : s.vm.findClass RX10 = some m.cls := findClass_of_methodNamed B.named
  have hlocks := B.notSynchronized
  have hS : va_S (fun _ => False) s.heap s.heap [] := va_S.rf
  have hl := lv_entry ([.ref (bm 0), .int z1, .int z2]) (n := 4) (Nat.le_of_ble_eq_true rfl)
  rw [lg_entry_eq]
  generalize (lg_sl ([.ref (bm 0), .int z1, .int z2]) ++ List.replicate (4 - (lg_sl ([.ref (bm 0), .int z1, .int z2])).length) Slot.unset).toArray = ls at hl ⊢
  have hl : lv_has ls 4 [(0, .ref (bm 0)), (1, .int z1), (2, .int z2)] := hl
  refine lv_aload_n hx hb dX10_hub_0 rfl (lv_at hl 0 rfl) ?_
  refine lv_iload_n hx hb dX10_hub_1 rfl (lv_at hl 1 rfl) ?_
  refine q_goi (v := 0) (va_runV (As := [.int z1]) (rest := []) ⟨hx, hb, hml, hown, hts⟩ (c_X10_isHub l dC dI bm z1) (cwV 1 hts g_X10_hub_X10_isHub_270 rfl rfl rfl (by decide +kernel) ⟨Nat.le_of_ble_eq_true rfl, Nat.le_of_ble_eq_true rfl⟩) (q_preV hK hP (ci := 10) (q0 := 0) rfl rfl [0] rfl [] rfl) rfl rfl hl.1 rfl (lv_room (Nat.le_of_ble_eq_true rfl)) dX10_hub_2 ⟨Nat.le_of_ble_eq_true rfl, Nat.le_of_ble_eq_true rfl⟩) hP hS (fun H locs hP hS => ?_)
  refine lv_if_eq (tgt := 17) hx hb dX10_hub_5 (by decide) (fun c_1 => ?_) (fun c_1 => ?_)
  · skip
    refine lv_ldcw (v := (-1000000)) hx hb hown (hts (.constant RX10 358 (-1000000)) (List.mem_of_getElem? (i := 18) rfl)) dX10_hub_17 ?_
    exact W.iret (v := (-1000000)) hx hb hr (fun t ht hW => ⟨⟨(-1000000), (), rfl, rfl, trivial⟩, hS.F ht⟩) hS.2.2 dX10_hub_20
  · exact absurd (by decide) c_1

def wq_X10_octet : List Cond := .code yX10_octet cX10_octet 3 (some .int) :: ([.methodLink RX10 139 yX10_isDevice, .instanceMethod yX10_isDevice, .selects RX10 yX10_isDevice yX10_isDevice, .initialized RX10, .code yX10_isDevice cX10_isDevice 2 (some .boolean), .fieldLink RX10 132 "HubTreeModel" "many" "I", .methodLink RX10 63 yX10_in, .static yX10_in, .code yX10_in cX10_in 3 (some .boolean)] ++ wsX100)
set_option maxRecDepth 20000 in
theorem g_X10_octet_X10_isDevice_139 : GoodIn wq_X10_octet (wsV RX10 139 RX10 yX10_isDevice wq_X10_isDevice) := goodIn_r _ [1, 2, 3, 4, 5, 6, 7, 8, 4, 9, 10, 11, 12, 13, 14, 15, 16, 17, 18, 19, 20, 21, 22, 23, 24, 25, 26, 27, 28, 29, 30, 31, 32, 33] (by decide +kernel) (by decide +kernel)
theorem iq_X10_octet_10 : ∀ w ∈ wsX100, w ∈ wq_X10_octet := fun _ h => List.mem_cons_of_mem _ (List.mem_append_right _ h)
set_option maxHeartbeats 4000000 in
set_option maxRecDepth 100000 in
theorem c_X10_octet (l : Launch) (dC : Nat → ClassId) (dI : Nat → Nat → Nat) (bm : Nat → Nat) (z1 : Int32) (z2 : Int32) : Met l yX10_octet wq_X10_octet ({ frames := 2, cells := 0, slots := 0, locals := 43 }) (va_Pc [.ref (bm 0), .int z1, .int z2] (q_R (dC, dI) [((bm 0), .inr (10, [.int 0, .ref (bm 1), .int 0, .int 0, .int 0, .ref (bm 2), .ref (bm 3), .int 0, .ref (bm 4), .ref (bm 5), .int 0, .ref (bm 6), .ref (bm 7), .int 0, .ref (bm 8), .ref (bm 9), .ref (bm 10), .int 0, .long 0, .ref (bm 11), .ref (bm 12), .ref (bm 13), .ref (bm 14), .int 0]))] [])) (q_i (-1)) 0 0 (fun _ => False) := by
  refine Met.ofW (cc := cX10_octet) (maxL := 3) (ret := (some .int)) (by decide) rfl ?_
  intro p e s m args below meth c s₁ B hml hv
  obtain ⟨rfl, hP, hK⟩ := hv
  have hx := B.exec
  have hb := B.bytes
  have hr := B.returns
  have hts := atoms_spec (ws := wq_X10_octet) B.pre
  have hown : s.vm.findClass RX10 = some m.cls := findClass_of_methodNamed B.named
  have hlocks := B.notSynchronized
  have hS : va_S (fun _ => False) s.heap s.heap [] := va_S.rf
  have hl := lv_entry ([.ref (bm 0), .int z1, .int z2]) (n := 3) (Nat.le_of_ble_eq_true rfl)
  rw [lg_entry_eq]
  generalize (lg_sl ([.ref (bm 0), .int z1, .int z2]) ++ List.replicate (3 - (lg_sl ([.ref (bm 0), .int z1, .int z2])).length) Slot.unset).toArray = ls at hl ⊢
  have hl : lv_has ls 3 [(0, .ref (bm 0)), (1, .int z1), (2, .int z2)] := hl
  refine lv_aload_n hx hb dX10_octet_0 rfl (lv_at hl 0 rfl) ?_
  refine lv_iload_n hx hb dX10_octet_1 rfl (lv_at hl 1 rfl) ?_
  refine q_goi (v := 0) (va_runV (As := [.int z1]) (rest := []) ⟨hx, hb, hml, hown, hts⟩ (c_X10_isDevice l dC dI bm z1) (cwV 1 hts g_X10_octet_X10_isDevice_139 rfl rfl rfl (by decide +kernel) ⟨Nat.le_of_ble_eq_true rfl, Nat.le_of_ble_eq_true rfl⟩) (q_preV hK hP (ci := 10) (q0 := 0) rfl rfl [0] rfl [] rfl) rfl rfl hl.1 rfl (lv_room (Nat.le_of_ble_eq_true rfl)) dX10_octet_2 ⟨Nat.le_of_ble_eq_true rfl, Nat.le_of_ble_eq_true rfl⟩) hP hS (fun H locs hP hS => ?_)
  refine lv_if_eq (tgt := 32) hx hb dX10_octet_5 (by decide) (fun c_1 => ?_) (fun c_1 => ?_)
  · skip
    refine lv_iconst (v := (-1)) hx hb dX10_octet_32 (by decide) ?_
    exact W.iret (v := (-1)) hx hb hr (fun t ht hW => ⟨⟨(-1), (), rfl, rfl, trivial⟩, hS.F ht⟩) hS.2.2 dX10_octet_33
  · exact absurd (by decide) c_1

def wq_X10_at : List Cond := .code yX10_at cX10_at 2 (some .int) :: ([.methodLink RX10 195 yX10_whoHas, .instanceMethod yX10_whoHas, .selects RX10 yX10_whoHas yX10_whoHas, .initialized RX10, .code yX10_whoHas cX10_whoHas 3 (some .int), .fieldLink RX10 132 "HubTreeModel" "many" "I"] ++ wsX100)
set_option maxRecDepth 20000 in
theorem g_X10_at_X10_whoHas_195 : GoodIn wq_X10_at (wsV RX10 195 RX10 yX10_whoHas wq_X10_whoHas) := goodIn_r _ [1, 2, 3, 4, 5, 6, 7, 8, 9, 10, 11, 12, 13, 14, 15, 16, 17, 18, 19, 20, 21, 22, 23, 24, 25, 26, 27, 28, 29, 30] (by decide +kernel) (by decide +kernel)
theorem iq_X10_at_10 : ∀ w ∈ wsX100, w ∈ wq_X10_at := fun _ h => List.mem_cons_of_mem _ (List.mem_append_right _ h)
set_option maxHeartbeats 4000000 in
set_option maxRecDepth 100000 in
theorem c_X10_at (l : Launch) (dC : Nat → ClassId) (dI : Nat → Nat → Nat) (bm : Nat → Nat) (z1 : Int32) : Met l yX10_at wq_X10_at ({ frames := 1, cells := 0, slots := 0, locals := 22 }) (va_Pc [.ref (bm 0), .int z1] (q_R (dC, dI) [((bm 0), .inr (10, [.int 0, .ref (bm 1), .int 0, .int 0, .int 0, .ref (bm 2), .ref (bm 3), .int 0, .ref (bm 4), .ref (bm 5), .int 0, .ref (bm 6), .ref (bm 7), .int 0, .ref (bm 8), .ref (bm 9), .ref (bm 10), .int 0, .long 0, .ref (bm 11), .ref (bm 12), .ref (bm 13), .ref (bm 14), .int 0]))] [])) (q_i (-1)) 0 0 (fun _ => False) := by
  refine Met.ofW (cc := cX10_at) (maxL := 2) (ret := (some .int)) (by decide) rfl ?_
  intro p e s m args below meth c s₁ B hml hv
  obtain ⟨rfl, hP, hK⟩ := hv
  have hx := B.exec
  have hb := B.bytes
  have hr := B.returns
  have hts := atoms_spec (ws := wq_X10_at) B.pre
  have hown : s.vm.findClass RX10 = some m.cls := findClass_of_methodNamed B.named
  have hlocks := B.notSynchronized
  have hS : va_S (fun _ => False) s.heap s.heap [] := va_S.rf
  have hl := lv_entry ([.ref (bm 0), .int z1]) (n := 2) (Nat.le_of_ble_eq_true rfl)
  rw [lg_entry_eq]
  generalize (lg_sl ([.ref (bm 0), .int z1]) ++ List.replicate (2 - (lg_sl ([.ref (bm 0), .int z1])).length) Slot.unset).toArray = ls at hl ⊢
  have hl : lv_has ls 2 [(0, .ref (bm 0)), (1, .int z1)] := hl
  refine lv_iload_n hx hb dX10_at_0 rfl (lv_at hl 1 rfl) ?_
  refine lv_if_le (tgt := 12) hx hb dX10_at_1 (by decide) (fun c_1 => ?_) (fun c_1 => ?_)
  · skip
    refine lv_iconst (v := (-1)) hx hb dX10_at_12 (by decide) ?_
    exact W.iret (v := (-1)) hx hb hr (fun t ht hW => ⟨⟨(-1), (), rfl, rfl, trivial⟩, hS.F ht⟩) hS.2.2 dX10_at_13
  · skip
    refine lv_aload_n hx hb dX10_at_4 rfl (lv_at hl 0 rfl) ?_
    refine lv_iload_n hx hb dX10_at_5 rfl (lv_at hl 1 rfl) ?_
    refine q_goi (v := (-1)) (va_runV (As := [.int z1]) (rest := []) ⟨hx, hb, hml, hown, hts⟩ (c_X10_whoHas l dC dI bm z1) (cwV 1 hts g_X10_at_X10_whoHas_195 rfl rfl rfl (by decide +kernel) ⟨Nat.le_of_ble_eq_true rfl, Nat.le_of_ble_eq_true rfl⟩) (q_preV hK hP (ci := 10) (q0 := 0) rfl rfl [0] rfl [] rfl) rfl rfl hl.1 rfl (lv_room (Nat.le_of_ble_eq_true rfl)) dX10_at_6 ⟨Nat.le_of_ble_eq_true rfl, Nat.le_of_ble_eq_true rfl⟩) hP hS (fun H locs hP hS => ?_)
    refine lv_goto (tgt := 13) hx hb dX10_at_9 (by decide) ?_
    exact W.iret (v := (-1)) hx hb hr (fun t ht hW => ⟨⟨(-1), (), rfl, rfl, trivial⟩, hS.F ht⟩) hS.2.2 dX10_at_13

def wq_X10_helper : List Cond := .code yX10_helper cX10_helper 2 (some .int) :: ([.methodLink RX10 139 yX10_isDevice, .instanceMethod yX10_isDevice, .selects RX10 yX10_isDevice yX10_isDevice, .initialized RX10, .code yX10_isDevice cX10_isDevice 2 (some .boolean), .fieldLink RX10 132 "HubTreeModel" "many" "I", .methodLink RX10 63 yX10_in, .static yX10_in, .code yX10_in cX10_in 3 (some .boolean)] ++ wsX100)
set_option maxRecDepth 20000 in
theorem g_X10_helper_X10_isDevice_139 : GoodIn wq_X10_helper (wsV RX10 139 RX10 yX10_isDevice wq_X10_isDevice) := goodIn_r _ [1, 2, 3, 4, 5, 6, 7, 8, 4, 9, 10, 11, 12, 13, 14, 15, 16, 17, 18, 19, 20, 21, 22, 23, 24, 25, 26, 27, 28, 29, 30, 31, 32, 33] (by decide +kernel) (by decide +kernel)
theorem iq_X10_helper_10 : ∀ w ∈ wsX100, w ∈ wq_X10_helper := fun _ h => List.mem_cons_of_mem _ (List.mem_append_right _ h)
set_option maxHeartbeats 4000000 in
set_option maxRecDepth 100000 in
theorem c_X10_helper (l : Launch) (dC : Nat → ClassId) (dI : Nat → Nat → Nat) (bm : Nat → Nat) (z1 : Int32) : Met l yX10_helper wq_X10_helper ({ frames := 2, cells := 0, slots := 0, locals := 43 }) (va_Pc [.ref (bm 0), .int z1] (q_R (dC, dI) [((bm 0), .inr (10, [.int 0, .ref (bm 1), .int 0, .int 0, .int 0, .ref (bm 2), .ref (bm 3), .int 0, .ref (bm 4), .ref (bm 5), .int 0, .ref (bm 6), .ref (bm 7), .int 0, .ref (bm 8), .ref (bm 9), .ref (bm 10), .int 0, .long 0, .ref (bm 11), .ref (bm 12), .ref (bm 13), .ref (bm 14), .int 0]))] [])) (q_i (-1)) 0 0 (fun _ => False) := by
  refine Met.ofW (cc := cX10_helper) (maxL := 2) (ret := (some .int)) (by decide) rfl ?_
  intro p e s m args below meth c s₁ B hml hv
  obtain ⟨rfl, hP, hK⟩ := hv
  have hx := B.exec
  have hb := B.bytes
  have hr := B.returns
  have hts := atoms_spec (ws := wq_X10_helper) B.pre
  have hown : s.vm.findClass RX10 = some m.cls := findClass_of_methodNamed B.named
  have hlocks := B.notSynchronized
  have hS : va_S (fun _ => False) s.heap s.heap [] := va_S.rf
  have hl := lv_entry ([.ref (bm 0), .int z1]) (n := 2) (Nat.le_of_ble_eq_true rfl)
  rw [lg_entry_eq]
  generalize (lg_sl ([.ref (bm 0), .int z1]) ++ List.replicate (2 - (lg_sl ([.ref (bm 0), .int z1])).length) Slot.unset).toArray = ls at hl ⊢
  have hl : lv_has ls 2 [(0, .ref (bm 0)), (1, .int z1)] := hl
  refine lv_aload_n hx hb dX10_helper_0 rfl (lv_at hl 0 rfl) ?_
  refine lv_iload_n hx hb dX10_helper_1 rfl (lv_at hl 1 rfl) ?_
  refine q_goi (v := 0) (va_runV (As := [.int z1]) (rest := []) ⟨hx, hb, hml, hown, hts⟩ (c_X10_isDevice l dC dI bm z1) (cwV 1 hts g_X10_helper_X10_isDevice_139 rfl rfl rfl (by decide +kernel) ⟨Nat.le_of_ble_eq_true rfl, Nat.le_of_ble_eq_true rfl⟩) (q_preV hK hP (ci := 10) (q0 := 0) rfl rfl [0] rfl [] rfl) rfl rfl hl.1 rfl (lv_room (Nat.le_of_ble_eq_true rfl)) dX10_helper_2 ⟨Nat.le_of_ble_eq_true rfl, Nat.le_of_ble_eq_true rfl⟩) hP hS (fun H locs hP hS => ?_)
  refine lv_if_eq (tgt := 26) hx hb dX10_helper_5 (by decide) (fun c_1 => ?_) (fun c_1 => ?_)
  · skip
    refine lv_iconst (v := (-1)) hx hb dX10_helper_26 (by decide) ?_
    exact W.iret (v := (-1)) hx hb hr (fun t ht hW => ⟨⟨(-1), (), rfl, rfl, trivial⟩, hS.F ht⟩) hS.2.2 dX10_helper_27
  · exact absurd (by decide) c_1

def wq_X10_years : List Cond := .code yX10_years cX10_years 5 (some .int) :: ([.methodLink RX10 135 yX10_isTree, .instanceMethod yX10_isTree, .selects RX10 yX10_isTree yX10_isTree, .initialized RX10, .code yX10_isTree cX10_isTree 1 (some .boolean), .fieldLink RX10 132 "HubTreeModel" "many" "I"] ++ wsX100)
set_option maxRecDepth 20000 in
theorem g_X10_years_X10_isTree_135 : GoodIn wq_X10_years (wsV RX10 135 RX10 yX10_isTree wq_X10_isTree) := goodIn_r _ [1, 2, 3, 4, 5, 6, 7, 8, 9, 10, 11, 12, 13, 14, 15, 16, 17, 18, 19, 20, 21, 22, 23, 24, 25, 26, 27, 28, 29, 30] (by decide +kernel) (by decide +kernel)
theorem iq_X10_years_10 : ∀ w ∈ wsX100, w ∈ wq_X10_years := fun _ h => List.mem_cons_of_mem _ (List.mem_append_right _ h)
set_option maxHeartbeats 4000000 in
set_option maxRecDepth 100000 in
theorem c_X10_years (l : Launch) (dC : Nat → ClassId) (dI : Nat → Nat → Nat) (bm : Nat → Nat) (z1 : Int32) (z2 : Int64) : Met l yX10_years wq_X10_years ({ frames := 1, cells := 0, slots := 0, locals := 20 }) (va_Pc [.ref (bm 0), .int z1, .long z2] (q_R (dC, dI) [((bm 0), .inr (10, [.int 0, .ref (bm 1), .int 0, .int 0, .int 0, .ref (bm 2), .ref (bm 3), .int 0, .ref (bm 4), .ref (bm 5), .int 0, .ref (bm 6), .ref (bm 7), .int 0, .ref (bm 8), .ref (bm 9), .ref (bm 10), .int 0, .long 0, .ref (bm 11), .ref (bm 12), .ref (bm 13), .ref (bm 14), .int 0]))] [])) (q_i (-1)) 0 0 (fun _ => False) := by
  refine Met.ofW (cc := cX10_years) (maxL := 5) (ret := (some .int)) (by decide) rfl ?_
  intro p e s m args below meth c s₁ B hml hv
  obtain ⟨rfl, hP, hK⟩ := hv
  have hx := B.exec
  have hb := B.bytes
  have hr := B.returns
  have hts := atoms_spec (ws := wq_X10_years) B.pre
  have hown : s.vm.findClass RX10 = some m.cls := findClass_of_methodNamed B.named
  have hlocks := B.notSynchronized
  have hS : va_S (fun _ => False) s.heap s.heap [] := va_S.rf
  have hl := lv_entry ([.ref (bm 0), .int z1, .long z2]) (n := 5) (Nat.le_of_ble_eq_true rfl)
  rw [lg_entry_eq]
  generalize (lg_sl ([.ref (bm 0), .int z1, .long z2]) ++ List.replicate (5 - (lg_sl ([.ref (bm 0), .int z1, .long z2])).length) Slot.unset).toArray = ls at hl ⊢
  have hl : lv_has ls 5 [(0, .ref (bm 0)), (1, .int z1), (2, .long z2)] := hl
  refine lv_aload_n hx hb dX10_years_0 rfl (lv_at hl 0 rfl) ?_
  refine q_goi (v := 0) (va_runV (As := []) (rest := []) ⟨hx, hb, hml, hown, hts⟩ (c_X10_isTree l dC dI bm) (cwV 0 hts g_X10_years_X10_isTree_135 rfl rfl rfl (by decide +kernel) ⟨Nat.le_of_ble_eq_true rfl, Nat.le_of_ble_eq_true rfl⟩) (q_preV hK hP (ci := 10) (q0 := 0) rfl rfl [0] rfl [] rfl) rfl rfl hl.1 rfl (lv_room (Nat.le_of_ble_eq_true rfl)) dX10_years_1 ⟨Nat.le_of_ble_eq_true rfl, Nat.le_of_ble_eq_true rfl⟩) hP hS (fun H locs hP hS => ?_)
  refine lv_if_eq (tgt := 17) hx hb dX10_years_4 (by decide) (fun c_1 => ?_) (fun c_1 => ?_)
  · skip
    refine lv_iconst (v := (-1)) hx hb dX10_years_17 (by decide) ?_
    exact W.iret (v := (-1)) hx hb hr (fun t ht hW => ⟨⟨(-1), (), rfl, rfl, trivial⟩, hS.F ht⟩) hS.2.2 dX10_years_18
  · exact absurd (by decide) c_1

def wq_X10_undo : List Cond := .code yX10_undo cX10_undo 2 (some .int) :: ([.fieldLink RX10 151 "HubTreeModel" "acts" "I"] ++ wsX100)
theorem iq_X10_undo_10 : ∀ w ∈ wsX100, w ∈ wq_X10_undo := fun _ h => List.mem_cons_of_mem _ (List.mem_append_right _ h)
set_option maxHeartbeats 4000000 in
set_option maxRecDepth 100000 in
theorem c_X10_undo (l : Launch) (dC : Nat → ClassId) (dI : Nat → Nat → Nat) (bm : Nat → Nat) : Met l yX10_undo wq_X10_undo ({ frames := 0, cells := 0, slots := 0, locals := 0 }) (va_Pc [.ref (bm 0)] (q_R (dC, dI) [((bm 0), .inr (10, [.int 0, .ref (bm 1), .int 0, .int 0, .int 0, .ref (bm 2), .ref (bm 3), .int 0, .ref (bm 4), .ref (bm 5), .int 0, .ref (bm 6), .ref (bm 7), .int 0, .ref (bm 8), .ref (bm 9), .ref (bm 10), .int 0, .long 0, .ref (bm 11), .ref (bm 12), .ref (bm 13), .ref (bm 14), .int 0]))] [])) (q_i (-1)) 0 0 (fun _ => False) := by
  refine Met.ofW (cc := cX10_undo) (maxL := 2) (ret := (some .int)) (by decide) rfl ?_
  intro p e s m args below meth c s₁ B hml hv
  obtain ⟨rfl, hP, hK⟩ := hv
  have hx := B.exec
  have hb := B.bytes
  have hr := B.returns
  have hts := atoms_spec (ws := wq_X10_undo) B.pre
  have hown : s.vm.findClass RX10 = some m.cls := findClass_of_methodNamed B.named
  have hlocks := B.notSynchronized
  have hS : va_S (fun _ => False) s.heap s.heap [] := va_S.rf
  have hl := lv_entry ([.ref (bm 0)]) (n := 2) (Nat.le_of_ble_eq_true rfl)
  rw [lg_entry_eq]
  generalize (lg_sl ([.ref (bm 0)]) ++ List.replicate (2 - (lg_sl ([.ref (bm 0)])).length) Slot.unset).toArray = ls at hl ⊢
  have hl : lv_has ls 2 [(0, .ref (bm 0))] := hl
  refine lv_aload_n hx hb dX10_undo_0 rfl (lv_at hl 0 rfl) ?_
  refine va_get (D := (dC, dI)) (ci := 10) (v := .int 0) (C := RX10) (T := TX10) (N := 24) hx hb hts iq_X10_undo_10 hown hK hP 0 rfl rfl 17 (by decide) (hts (.fieldLink RX10 151 "HubTreeModel" "acts" "I") (List.mem_of_getElem? (i := 1) rfl)) (fun _ h9 => h9) rfl dX10_undo_1 ?_
  refine lv_if_ne (tgt := 9) hx hb dX10_undo_4 (by decide) (fun c_1 => ?_) (fun c_1 => ?_)
  · exact absurd (by decide) c_1
  refine lv_iconst (v := (-1)) hx hb dX10_undo_7 (by decide) ?_
  exact W.iret (v := (-1)) hx hb hr (fun t ht hW => ⟨⟨(-1), (), rfl, rfl, trivial⟩, hS.F ht⟩) hS.2.2 dX10_undo_8

def wq_X10_log : List Cond := .code yX10_log cX10_log 3 (some .int) :: ([.fieldLink RX10 31 "HubTreeModel" "now" "[I", .methodLink RX10 63 yX10_in, .static yX10_in, .initialized RX10, .code yX10_in cX10_in 3 (some .boolean), .constant RX10 358 (-1000000)] ++ wsX100)
set_option maxRecDepth 20000 in
theorem g_X10_log_X10_in_63 : GoodIn wq_X10_log (va_wsS RX10 63 yX10_in wq_X10_in) := goodIn_r _ [2, 3, 4, 5] (by decide +kernel) (by decide +kernel)
theorem iq_X10_log_10 : ∀ w ∈ wsX100, w ∈ wq_X10_log := fun _ h => List.mem_cons_of_mem _ (List.mem_append_right _ h)
set_option maxHeartbeats 4000000 in
set_option maxRecDepth 100000 in
theorem c_X10_log (l : Launch) (dC : Nat → ClassId) (dI : Nat → Nat → Nat) (bm : Nat → Nat) (km : Nat → ClassId) (z1 : Int32) (z2 : Int32) : Met l yX10_log wq_X10_log ({ frames := 1, cells := 0, slots := 0, locals := 22 }) (va_Pc [.ref (bm 0), .int z1, .int z2] (q_R (dC, dI) [((bm 0), .inr (10, [.int 0, .ref (bm 1), .int 0, .int 0, .int 0, .ref (bm 2), .ref (bm 3), .int 0, .ref (bm 4), .ref (bm 5), .int 0, .ref (bm 6), .ref (bm 7), .int 0, .ref (bm 8), .ref (bm 9), .ref (bm 10), .int 0, .long 0, .ref (bm 11), .ref (bm 12), .ref (bm 13), .ref (bm 14), .int 0])), ((bm 8), .inl ((km 8), 279, .inl (fun _ => 0)))] [((km 8), .int)])) (q_i (-1000000)) 0 0 (fun _ => False) := by
  refine Met.ofW (cc := cX10_log) (maxL := 3) (ret := (some .int)) (by decide) rfl ?_
  intro p e s m args below meth c s₁ B hml hv
  obtain ⟨rfl, hP, hK⟩ := hv
  have hx := B.exec
  have hb := B.bytes
  have hr := B.returns
  have hts := atoms_spec (ws := wq_X10_log) B.pre
  have hown : s.vm.findClass RX10 = some m.cls := findClass_of_methodNamed B.named
  have hlocks := B.notSynchronized
  have hS : va_S (fun _ => False) s.heap s.heap [] := va_S.rf
  have hl := lv_entry ([.ref (bm 0), .int z1, .int z2]) (n := 3) (Nat.le_of_ble_eq_true rfl)
  rw [lg_entry_eq]
  generalize (lg_sl ([.ref (bm 0), .int z1, .int z2]) ++ List.replicate (3 - (lg_sl ([.ref (bm 0), .int z1, .int z2])).length) Slot.unset).toArray = ls at hl ⊢
  have hl : lv_has ls 3 [(0, .ref (bm 0)), (1, .int z1), (2, .int z2)] := hl
  refine lv_iload_n hx hb dX10_log_0 rfl (lv_at hl 1 rfl) ?_
  refine lv_iconst (v := 0) hx hb dX10_log_1 (by decide) ?_
  refine lv_aload_n hx hb dX10_log_2 rfl (lv_at hl 0 rfl) ?_
  refine va_get (D := (dC, dI)) (ci := 10) (v := .ref (bm 8)) (C := RX10) (T := TX10) (N := 24) hx hb hts iq_X10_log_10 hown hK hP 0 rfl rfl 14 (by decide) (hts (.fieldLink RX10 31 "HubTreeModel" "now" "[I") (List.mem_of_getElem? (i := 1) rfl)) (fun _ h9 => h9) rfl dX10_log_3 ?_
  refine lv_bipush (v := 98) hx hb dX10_log_6 (by decide) ?_
  refine va_iald hx hb hK hP 1 0 rfl rfl (i := 98) (vp_in_iff.mpr (by decide)) dX10_log_8 ?_
  refine q_top (y := 0) rfl ?_
  refine lv_iconst (v := 1) hx hb dX10_log_9 (by decide) ?_
  refine lv_isub hx hb dX10_log_10 ?_
  refine q_top (y := (-1)) (by decide) ?_
  refine q_goi (v := (q_in z1 0 (-1))) (va_runS (As := [.int z1, .int 0, .int (-1)]) (rest := []) ⟨hx, hb, hml, hown, hts⟩ (c_X10_in l dC dI z1 0 (-1)) (va_cwS 3 hts g_X10_log_X10_in_63 rfl rfl rfl (by decide +kernel) ⟨Nat.le_of_ble_eq_true rfl, Nat.le_of_ble_eq_true rfl⟩) (q_preS hK hP [] rfl [] rfl) rfl rfl hl.1 rfl (lv_room (Nat.le_of_ble_eq_true rfl)) dX10_log_11 ⟨Nat.le_of_ble_eq_true rfl, Nat.le_of_ble_eq_true rfl⟩) hP hS (fun H locs hP hS => ?_)
  refine q_top (y := 0) (q_in_none z1) ?_
  refine lv_if_eq (tgt := 52) hx hb dX10_log_14 (by decide) (fun c_1 => ?_) (fun c_1 => ?_)
  · skip
    refine lv_ldcw (v := (-1000000)) hx hb hown (hts (.constant RX10 358 (-1000000)) (List.mem_of_getElem? (i := 6) rfl)) dX10_log_52 ?_
    exact W.iret (v := (-1000000)) hx hb hr (fun t ht hW => ⟨⟨(-1000000), (), rfl, rfl, trivial⟩, hS.F ht⟩) hS.2.2 dX10_log_55
  · exact absurd (by decide) c_1

def wq_X10_when : List Cond := .code yX10_when cX10_when 3 (some .int) :: ([.methodLink RX10 139 yX10_isDevice, .instanceMethod yX10_isDevice, .selects RX10 yX10_isDevice yX10_isDevice, .initialized RX10, .code yX10_isDevice cX10_isDevice 2 (some .boolean), .fieldLink RX10 132 "HubTreeModel" "many" "I", .methodLink RX10 63 yX10_in, .static yX10_in, .code yX10_in cX10_in 3 (some .boolean)] ++ wsX100)
set_option maxRecDepth 20000 in
theorem g_X10_when_X10_isDevice_139 : GoodIn wq_X10_when (wsV RX10 139 RX10 yX10_isDevice wq_X10_isDevice) := goodIn_r _ [1, 2, 3, 4, 5, 6, 7, 8, 4, 9, 10, 11, 12, 13, 14, 15, 16, 17, 18, 19, 20, 21, 22, 23, 24, 25, 26, 27, 28, 29, 30, 31, 32, 33] (by decide +kernel) (by decide +kernel)
theorem iq_X10_when_10 : ∀ w ∈ wsX100, w ∈ wq_X10_when := fun _ h => List.mem_cons_of_mem _ (List.mem_append_right _ h)
set_option maxHeartbeats 4000000 in
set_option maxRecDepth 100000 in
theorem c_X10_when (l : Launch) (dC : Nat → ClassId) (dI : Nat → Nat → Nat) (bm : Nat → Nat) (z1 : Int32) : Met l yX10_when wq_X10_when ({ frames := 2, cells := 0, slots := 0, locals := 43 }) (va_Pc [.ref (bm 0), .int z1] (q_R (dC, dI) [((bm 0), .inr (10, [.int 0, .ref (bm 1), .int 0, .int 0, .int 0, .ref (bm 2), .ref (bm 3), .int 0, .ref (bm 4), .ref (bm 5), .int 0, .ref (bm 6), .ref (bm 7), .int 0, .ref (bm 8), .ref (bm 9), .ref (bm 10), .int 0, .long 0, .ref (bm 11), .ref (bm 12), .ref (bm 13), .ref (bm 14), .int 0]))] [])) (q_i (-1)) 0 0 (fun _ => False) := by
  refine Met.ofW (cc := cX10_when) (maxL := 3) (ret := (some .int)) (by decide) rfl ?_
  intro p e s m args below meth c s₁ B hml hv
  obtain ⟨rfl, hP, hK⟩ := hv
  have hx := B.exec
  have hb := B.bytes
  have hr := B.returns
  have hts := atoms_spec (ws := wq_X10_when) B.pre
  have hown : s.vm.findClass RX10 = some m.cls := findClass_of_methodNamed B.named
  have hlocks := B.notSynchronized
  have hS : va_S (fun _ => False) s.heap s.heap [] := va_S.rf
  have hl := lv_entry ([.ref (bm 0), .int z1]) (n := 3) (Nat.le_of_ble_eq_true rfl)
  rw [lg_entry_eq]
  generalize (lg_sl ([.ref (bm 0), .int z1]) ++ List.replicate (3 - (lg_sl ([.ref (bm 0), .int z1])).length) Slot.unset).toArray = ls at hl ⊢
  have hl : lv_has ls 3 [(0, .ref (bm 0)), (1, .int z1)] := hl
  refine lv_aload_n hx hb dX10_when_0 rfl (lv_at hl 0 rfl) ?_
  refine lv_iload_n hx hb dX10_when_1 rfl (lv_at hl 1 rfl) ?_
  refine q_goi (v := 0) (va_runV (As := [.int z1]) (rest := []) ⟨hx, hb, hml, hown, hts⟩ (c_X10_isDevice l dC dI bm z1) (cwV 1 hts g_X10_when_X10_isDevice_139 rfl rfl rfl (by decide +kernel) ⟨Nat.le_of_ble_eq_true rfl, Nat.le_of_ble_eq_true rfl⟩) (q_preV hK hP (ci := 10) (q0 := 0) rfl rfl [0] rfl [] rfl) rfl rfl hl.1 rfl (lv_room (Nat.le_of_ble_eq_true rfl)) dX10_when_2 ⟨Nat.le_of_ble_eq_true rfl, Nat.le_of_ble_eq_true rfl⟩) hP hS (fun H locs hP hS => ?_)
  refine lv_if_eq (tgt := 16) hx hb dX10_when_5 (by decide) (fun c_1 => ?_) (fun c_1 => ?_)
  · skip
    refine lv_iconst (v := (-1)) hx hb dX10_when_16 (by decide) ?_
    exact W.iret (v := (-1)) hx hb hr (fun t ht hW => ⟨⟨(-1), (), rfl, rfl, trivial⟩, hS.F ht⟩) hS.2.2 dX10_when_17
  · exact absurd (by decide) c_1

def wq_X10_ahead_ : List Cond := .code yX10_ahead_ cX10_ahead_ 4 (some .int) :: ([.methodLink RX10 135 yX10_isTree, .instanceMethod yX10_isTree, .selects RX10 yX10_isTree yX10_isTree, .initialized RX10, .code yX10_isTree cX10_isTree 1 (some .boolean), .fieldLink RX10 132 "HubTreeModel" "many" "I"] ++ wsX100)
set_option maxRecDepth 20000 in
theorem g_X10_ahead__X10_isTree_135 : GoodIn wq_X10_ahead_ (wsV RX10 135 RX10 yX10_isTree wq_X10_isTree) := goodIn_r _ [1, 2, 3, 4, 5, 6, 7, 8, 9, 10, 11, 12, 13, 14, 15, 16, 17, 18, 19, 20, 21, 22, 23, 24, 25, 26, 27, 28, 29, 30] (by decide +kernel) (by decide +kernel)
theorem iq_X10_ahead__10 : ∀ w ∈ wsX100, w ∈ wq_X10_ahead_ := fun _ h => List.mem_cons_of_mem _ (List.mem_append_right _ h)
set_option maxHeartbeats 4000000 in
set_option maxRecDepth 100000 in
theorem c_X10_ahead_ (l : Launch) (dC : Nat → ClassId) (dI : Nat → Nat → Nat) (bm : Nat → Nat) (z1 : Int32) (z2 : Int32) : Met l yX10_ahead_ wq_X10_ahead_ ({ frames := 1, cells := 0, slots := 0, locals := 20 }) (va_Pc [.ref (bm 0), .int z1, .int z2] (q_R (dC, dI) [((bm 0), .inr (10, [.int 0, .ref (bm 1), .int 0, .int 0, .int 0, .ref (bm 2), .ref (bm 3), .int 0, .ref (bm 4), .ref (bm 5), .int 0, .ref (bm 6), .ref (bm 7), .int 0, .ref (bm 8), .ref (bm 9), .ref (bm 10), .int 0, .long 0, .ref (bm 11), .ref (bm 12), .ref (bm 13), .ref (bm 14), .int 0]))] [])) (q_i (-1)) 0 0 (fun _ => False) := by
  refine Met.ofW (cc := cX10_ahead_) (maxL := 4) (ret := (some .int)) (by decide) rfl ?_
  intro p e s m args below meth c s₁ B hml hv
  obtain ⟨rfl, hP, hK⟩ := hv
  have hx := B.exec
  have hb := B.bytes
  have hr := B.returns
  have hts := atoms_spec (ws := wq_X10_ahead_) B.pre
  have hown : s.vm.findClass RX10 = some m.cls := findClass_of_methodNamed B.named
  have hlocks := B.notSynchronized
  have hS : va_S (fun _ => False) s.heap s.heap [] := va_S.rf
  have hl := lv_entry ([.ref (bm 0), .int z1, .int z2]) (n := 4) (Nat.le_of_ble_eq_true rfl)
  rw [lg_entry_eq]
  generalize (lg_sl ([.ref (bm 0), .int z1, .int z2]) ++ List.replicate (4 - (lg_sl ([.ref (bm 0), .int z1, .int z2])).length) Slot.unset).toArray = ls at hl ⊢
  have hl : lv_has ls 4 [(0, .ref (bm 0)), (1, .int z1), (2, .int z2)] := hl
  refine lv_aload_n hx hb dX10_ahead__0 rfl (lv_at hl 0 rfl) ?_
  refine q_goi (v := 0) (va_runV (As := []) (rest := []) ⟨hx, hb, hml, hown, hts⟩ (c_X10_isTree l dC dI bm) (cwV 0 hts g_X10_ahead__X10_isTree_135 rfl rfl rfl (by decide +kernel) ⟨Nat.le_of_ble_eq_true rfl, Nat.le_of_ble_eq_true rfl⟩) (q_preV hK hP (ci := 10) (q0 := 0) rfl rfl [0] rfl [] rfl) rfl rfl hl.1 rfl (lv_room (Nat.le_of_ble_eq_true rfl)) dX10_ahead__1 ⟨Nat.le_of_ble_eq_true rfl, Nat.le_of_ble_eq_true rfl⟩) hP hS (fun H locs hP hS => ?_)
  refine lv_if_eq (tgt := 42) hx hb dX10_ahead__4 (by decide) (fun c_1 => ?_) (fun c_1 => ?_)
  · skip
    refine lv_iconst (v := (-1)) hx hb dX10_ahead__42 (by decide) ?_
    exact W.iret (v := (-1)) hx hb hr (fun t ht hW => ⟨⟨(-1), (), rfl, rfl, trivial⟩, hS.F ht⟩) hS.2.2 dX10_ahead__43
  · exact absurd (by decide) c_1

def wq_X10_last : List Cond := .code yX10_last cX10_last 3 (some .int) :: ([.methodLink RX10 135 yX10_isTree, .instanceMethod yX10_isTree, .selects RX10 yX10_isTree yX10_isTree, .initialized RX10, .code yX10_isTree cX10_isTree 1 (some .boolean), .fieldLink RX10 132 "HubTreeModel" "many" "I"] ++ wsX100)
set_option maxRecDepth 20000 in
theorem g_X10_last_X10_isTree_135 : GoodIn wq_X10_last (wsV RX10 135 RX10 yX10_isTree wq_X10_isTree) := goodIn_r _ [1, 2, 3, 4, 5, 6, 7, 8, 9, 10, 11, 12, 13, 14, 15, 16, 17, 18, 19, 20, 21, 22, 23, 24, 25, 26, 27, 28, 29, 30] (by decide +kernel) (by decide +kernel)
theorem iq_X10_last_10 : ∀ w ∈ wsX100, w ∈ wq_X10_last := fun _ h => List.mem_cons_of_mem _ (List.mem_append_right _ h)
set_option maxHeartbeats 4000000 in
set_option maxRecDepth 100000 in
theorem c_X10_last (l : Launch) (dC : Nat → ClassId) (dI : Nat → Nat → Nat) (bm : Nat → Nat) : Met l yX10_last wq_X10_last ({ frames := 1, cells := 0, slots := 0, locals := 20 }) (va_Pc [.ref (bm 0)] (q_R (dC, dI) [((bm 0), .inr (10, [.int 0, .ref (bm 1), .int 0, .int 0, .int 0, .ref (bm 2), .ref (bm 3), .int 0, .ref (bm 4), .ref (bm 5), .int 0, .ref (bm 6), .ref (bm 7), .int 0, .ref (bm 8), .ref (bm 9), .ref (bm 10), .int 0, .long 0, .ref (bm 11), .ref (bm 12), .ref (bm 13), .ref (bm 14), .int 0]))] [])) (q_i (-1)) 0 0 (fun _ => False) := by
  refine Met.ofW (cc := cX10_last) (maxL := 3) (ret := (some .int)) (by decide) rfl ?_
  intro p e s m args below meth c s₁ B hml hv
  obtain ⟨rfl, hP, hK⟩ := hv
  have hx := B.exec
  have hb := B.bytes
  have hr := B.returns
  have hts := atoms_spec (ws := wq_X10_last) B.pre
  have hown : s.vm.findClass RX10 = some m.cls := findClass_of_methodNamed B.named
  have hlocks := B.notSynchronized
  have hS : va_S (fun _ => False) s.heap s.heap [] := va_S.rf
  have hl := lv_entry ([.ref (bm 0)]) (n := 3) (Nat.le_of_ble_eq_true rfl)
  rw [lg_entry_eq]
  generalize (lg_sl ([.ref (bm 0)]) ++ List.replicate (3 - (lg_sl ([.ref (bm 0)])).length) Slot.unset).toArray = ls at hl ⊢
  have hl : lv_has ls 3 [(0, .ref (bm 0))] := hl
  refine lv_aload_n hx hb dX10_last_0 rfl (lv_at hl 0 rfl) ?_
  refine q_goi (v := 0) (va_runV (As := []) (rest := []) ⟨hx, hb, hml, hown, hts⟩ (c_X10_isTree l dC dI bm) (cwV 0 hts g_X10_last_X10_isTree_135 rfl rfl rfl (by decide +kernel) ⟨Nat.le_of_ble_eq_true rfl, Nat.le_of_ble_eq_true rfl⟩) (q_preV hK hP (ci := 10) (q0 := 0) rfl rfl [0] rfl [] rfl) rfl rfl hl.1 rfl (lv_room (Nat.le_of_ble_eq_true rfl)) dX10_last_1 ⟨Nat.le_of_ble_eq_true rfl, Nat.le_of_ble_eq_true rfl⟩) hP hS (fun H locs hP hS => ?_)
  refine lv_if_ne (tgt := 9) hx hb dX10_last_4 (by decide) (fun c_1 => ?_) (fun c_1 => ?_)
  · exact absurd (by decide) c_1
  refine lv_iconst (v := (-1)) hx hb dX10_last_7 (by decide) ?_
  exact W.iret (v := (-1)) hx hb hr (fun t ht hW => ⟨⟨(-1), (), rfl, rfl, trivial⟩, hS.F ht⟩) hS.2.2 dX10_last_8

def wq_X10_place : List Cond := .code yX10_place cX10_place 7 (some .int) :: ([.methodLink RX10 139 yX10_isDevice, .instanceMethod yX10_isDevice, .selects RX10 yX10_isDevice yX10_isDevice, .initialized RX10, .code yX10_isDevice cX10_isDevice 2 (some .boolean), .fieldLink RX10 132 "HubTreeModel" "many" "I", .methodLink RX10 63 yX10_in, .static yX10_in, .code yX10_in cX10_in 3 (some .boolean)] ++ wsX100)
set_option maxRecDepth 20000 in
theorem g_X10_place_X10_isDevice_139 : GoodIn wq_X10_place (wsV RX10 139 RX10 yX10_isDevice wq_X10_isDevice) := goodIn_r _ [1, 2, 3, 4, 5, 6, 7, 8, 4, 9, 10, 11, 12, 13, 14, 15, 16, 17, 18, 19, 20, 21, 22, 23, 24, 25, 26, 27, 28, 29, 30, 31, 32, 33] (by decide +kernel) (by decide +kernel)
theorem iq_X10_place_10 : ∀ w ∈ wsX100, w ∈ wq_X10_place := fun _ h => List.mem_cons_of_mem _ (List.mem_append_right _ h)
set_option maxHeartbeats 4000000 in
set_option maxRecDepth 100000 in
theorem c_X10_place (l : Launch) (dC : Nat → ClassId) (dI : Nat → Nat → Nat) (bm : Nat → Nat) (z1 : Int32) : Met l yX10_place wq_X10_place ({ frames := 2, cells := 0, slots := 0, locals := 43 }) (va_Pc [.ref (bm 0), .int z1] (q_R (dC, dI) [((bm 0), .inr (10, [.int 0, .ref (bm 1), .int 0, .int 0, .int 0, .ref (bm 2), .ref (bm 3), .int 0, .ref (bm 4), .ref (bm 5), .int 0, .ref (bm 6), .ref (bm 7), .int 0, .ref (bm 8), .ref (bm 9), .ref (bm 10), .int 0, .long 0, .ref (bm 11), .ref (bm 12), .ref (bm 13), .ref (bm 14), .int 0]))] [])) (q_i (-1)) 0 0 (fun _ => False) := by
  refine Met.ofW (cc := cX10_place) (maxL := 7) (ret := (some .int)) (by decide) rfl ?_
  intro p e s m args below meth c s₁ B hml hv
  obtain ⟨rfl, hP, hK⟩ := hv
  have hx := B.exec
  have hb := B.bytes
  have hr := B.returns
  have hts := atoms_spec (ws := wq_X10_place) B.pre
  have hown : s.vm.findClass RX10 = some m.cls := findClass_of_methodNamed B.named
  have hlocks := B.notSynchronized
  have hS : va_S (fun _ => False) s.heap s.heap [] := va_S.rf
  have hl := lv_entry ([.ref (bm 0), .int z1]) (n := 7) (Nat.le_of_ble_eq_true rfl)
  rw [lg_entry_eq]
  generalize (lg_sl ([.ref (bm 0), .int z1]) ++ List.replicate (7 - (lg_sl ([.ref (bm 0), .int z1])).length) Slot.unset).toArray = ls at hl ⊢
  have hl : lv_has ls 7 [(0, .ref (bm 0)), (1, .int z1)] := hl
  refine lv_aload_n hx hb dX10_place_0 rfl (lv_at hl 0 rfl) ?_
  refine lv_iload_n hx hb dX10_place_1 rfl (lv_at hl 1 rfl) ?_
  refine q_goi (v := 0) (va_runV (As := [.int z1]) (rest := []) ⟨hx, hb, hml, hown, hts⟩ (c_X10_isDevice l dC dI bm z1) (cwV 1 hts g_X10_place_X10_isDevice_139 rfl rfl rfl (by decide +kernel) ⟨Nat.le_of_ble_eq_true rfl, Nat.le_of_ble_eq_true rfl⟩) (q_preV hK hP (ci := 10) (q0 := 0) rfl rfl [0] rfl [] rfl) rfl rfl hl.1 rfl (lv_room (Nat.le_of_ble_eq_true rfl)) dX10_place_2 ⟨Nat.le_of_ble_eq_true rfl, Nat.le_of_ble_eq_true rfl⟩) hP hS (fun H locs hP hS => ?_)
  refine lv_if_eq (tgt := 16) hx hb dX10_place_5 (by decide) (fun c_1 => ?_) (fun c_1 => ?_)
  · skip
    refine lv_iconst (v := (-1)) hx hb dX10_place_16 (by decide) ?_
    exact W.iret (v := (-1)) hx hb hr (fun t ht hW => ⟨⟨(-1), (), rfl, rfl, trivial⟩, hS.F ht⟩) hS.2.2 dX10_place_17
  · exact absurd (by decide) c_1

def wq_X10_order : List Cond := .code yX10_order cX10_order 7 (some .int) :: ([.methodLink RX10 135 yX10_isTree, .instanceMethod yX10_isTree, .selects RX10 yX10_isTree yX10_isTree, .initialized RX10, .code yX10_isTree cX10_isTree 1 (some .boolean), .fieldLink RX10 132 "HubTreeModel" "many" "I"] ++ wsX100)
set_option maxRecDepth 20000 in
theorem g_X10_order_X10_isTree_135 : GoodIn wq_X10_order (wsV RX10 135 RX10 yX10_isTree wq_X10_isTree) := goodIn_r _ [1, 2, 3, 4, 5, 6, 7, 8, 9, 10, 11, 12, 13, 14, 15, 16, 17, 18, 19, 20, 21, 22, 23, 24, 25, 26, 27, 28, 29, 30] (by decide +kernel) (by decide +kernel)
theorem iq_X10_order_10 : ∀ w ∈ wsX100, w ∈ wq_X10_order := fun _ h => List.mem_cons_of_mem _ (List.mem_append_right _ h)
set_option maxHeartbeats 4000000 in
set_option maxRecDepth 100000 in
theorem c_X10_order (l : Launch) (dC : Nat → ClassId) (dI : Nat → Nat → Nat) (bm : Nat → Nat) (z1 : Int32) : Met l yX10_order wq_X10_order ({ frames := 1, cells := 0, slots := 0, locals := 20 }) (va_Pc [.ref (bm 0), .int z1] (q_R (dC, dI) [((bm 0), .inr (10, [.int 0, .ref (bm 1), .int 0, .int 0, .int 0, .ref (bm 2), .ref (bm 3), .int 0, .ref (bm 4), .ref (bm 5), .int 0, .ref (bm 6), .ref (bm 7), .int 0, .ref (bm 8), .ref (bm 9), .ref (bm 10), .int 0, .long 0, .ref (bm 11), .ref (bm 12), .ref (bm 13), .ref (bm 14), .int 0]))] [])) (q_i (-1)) 0 0 (fun _ => False) := by
  refine Met.ofW (cc := cX10_order) (maxL := 7) (ret := (some .int)) (by decide) rfl ?_
  intro p e s m args below meth c s₁ B hml hv
  obtain ⟨rfl, hP, hK⟩ := hv
  have hx := B.exec
  have hb := B.bytes
  have hr := B.returns
  have hts := atoms_spec (ws := wq_X10_order) B.pre
  have hown : s.vm.findClass RX10 = some m.cls := findClass_of_methodNamed B.named
  have hlocks := B.notSynchronized
  have hS : va_S (fun _ => False) s.heap s.heap [] := va_S.rf
  have hl := lv_entry ([.ref (bm 0), .int z1]) (n := 7) (Nat.le_of_ble_eq_true rfl)
  rw [lg_entry_eq]
  generalize (lg_sl ([.ref (bm 0), .int z1]) ++ List.replicate (7 - (lg_sl ([.ref (bm 0), .int z1])).length) Slot.unset).toArray = ls at hl ⊢
  have hl : lv_has ls 7 [(0, .ref (bm 0)), (1, .int z1)] := hl
  refine lv_aload_n hx hb dX10_order_0 rfl (lv_at hl 0 rfl) ?_
  refine q_goi (v := 0) (va_runV (As := []) (rest := []) ⟨hx, hb, hml, hown, hts⟩ (c_X10_isTree l dC dI bm) (cwV 0 hts g_X10_order_X10_isTree_135 rfl rfl rfl (by decide +kernel) ⟨Nat.le_of_ble_eq_true rfl, Nat.le_of_ble_eq_true rfl⟩) (q_preV hK hP (ci := 10) (q0 := 0) rfl rfl [0] rfl [] rfl) rfl rfl hl.1 rfl (lv_room (Nat.le_of_ble_eq_true rfl)) dX10_order_1 ⟨Nat.le_of_ble_eq_true rfl, Nat.le_of_ble_eq_true rfl⟩) hP hS (fun H locs hP hS => ?_)
  refine lv_if_ne (tgt := 9) hx hb dX10_order_4 (by decide) (fun c_1 => ?_) (fun c_1 => ?_)
  · exact absurd (by decide) c_1
  refine lv_iconst (v := (-1)) hx hb dX10_order_7 (by decide) ?_
  exact W.iret (v := (-1)) hx hb hr (fun t ht hW => ⟨⟨(-1), (), rfl, rfl, trivial⟩, hS.F ht⟩) hS.2.2 dX10_order_8

def wq_X10_lost : List Cond := .code yX10_lost cX10_lost 4 (some .int) :: ([.methodLink RX10 139 yX10_isDevice, .instanceMethod yX10_isDevice, .selects RX10 yX10_isDevice yX10_isDevice, .initialized RX10, .code yX10_isDevice cX10_isDevice 2 (some .boolean), .fieldLink RX10 132 "HubTreeModel" "many" "I", .methodLink RX10 63 yX10_in, .static yX10_in, .code yX10_in cX10_in 3 (some .boolean)] ++ wsX100)
set_option maxRecDepth 20000 in
theorem g_X10_lost_X10_isDevice_139 : GoodIn wq_X10_lost (wsV RX10 139 RX10 yX10_isDevice wq_X10_isDevice) := goodIn_r _ [1, 2, 3, 4, 5, 6, 7, 8, 4, 9, 10, 11, 12, 13, 14, 15, 16, 17, 18, 19, 20, 21, 22, 23, 24, 25, 26, 27, 28, 29, 30, 31, 32, 33] (by decide +kernel) (by decide +kernel)
theorem iq_X10_lost_10 : ∀ w ∈ wsX100, w ∈ wq_X10_lost := fun _ h => List.mem_cons_of_mem _ (List.mem_append_right _ h)
set_option maxHeartbeats 4000000 in
set_option maxRecDepth 100000 in
theorem c_X10_lost (l : Launch) (dC : Nat → ClassId) (dI : Nat → Nat → Nat) (bm : Nat → Nat) (z1 : Int32) : Met l yX10_lost wq_X10_lost ({ frames := 2, cells := 0, slots := 0, locals := 43 }) (va_Pc [.ref (bm 0), .int z1] (q_R (dC, dI) [((bm 0), .inr (10, [.int 0, .ref (bm 1), .int 0, .int 0, .int 0, .ref (bm 2), .ref (bm 3), .int 0, .ref (bm 4), .ref (bm 5), .int 0, .ref (bm 6), .ref (bm 7), .int 0, .ref (bm 8), .ref (bm 9), .ref (bm 10), .int 0, .long 0, .ref (bm 11), .ref (bm 12), .ref (bm 13), .ref (bm 14), .int 0]))] [])) (q_i (-1)) 0 0 (fun _ => False) := by
  refine Met.ofW (cc := cX10_lost) (maxL := 4) (ret := (some .int)) (by decide) rfl ?_
  intro p e s m args below meth c s₁ B hml hv
  obtain ⟨rfl, hP, hK⟩ := hv
  have hx := B.exec
  have hb := B.bytes
  have hr := B.returns
  have hts := atoms_spec (ws := wq_X10_lost) B.pre
  have hown : s.vm.findClass RX10 = some m.cls := findClass_of_methodNamed B.named
  have hlocks := B.notSynchronized
  have hS : va_S (fun _ => False) s.heap s.heap [] := va_S.rf
  have hl := lv_entry ([.ref (bm 0), .int z1]) (n := 4) (Nat.le_of_ble_eq_true rfl)
  rw [lg_entry_eq]
  generalize (lg_sl ([.ref (bm 0), .int z1]) ++ List.replicate (4 - (lg_sl ([.ref (bm 0), .int z1])).length) Slot.unset).toArray = ls at hl ⊢
  have hl : lv_has ls 4 [(0, .ref (bm 0)), (1, .int z1)] := hl
  refine lv_aload_n hx hb dX10_lost_0 rfl (lv_at hl 0 rfl) ?_
  refine lv_iload_n hx hb dX10_lost_1 rfl (lv_at hl 1 rfl) ?_
  refine q_goi (v := 0) (va_runV (As := [.int z1]) (rest := []) ⟨hx, hb, hml, hown, hts⟩ (c_X10_isDevice l dC dI bm z1) (cwV 1 hts g_X10_lost_X10_isDevice_139 rfl rfl rfl (by decide +kernel) ⟨Nat.le_of_ble_eq_true rfl, Nat.le_of_ble_eq_true rfl⟩) (q_preV hK hP (ci := 10) (q0 := 0) rfl rfl [0] rfl [] rfl) rfl rfl hl.1 rfl (lv_room (Nat.le_of_ble_eq_true rfl)) dX10_lost_2 ⟨Nat.le_of_ble_eq_true rfl, Nat.le_of_ble_eq_true rfl⟩) hP hS (fun H locs hP hS => ?_)
  refine lv_if_eq (tgt := 20) hx hb dX10_lost_5 (by decide) (fun c_1 => ?_) (fun c_1 => ?_)
  · skip
    refine lv_iconst (v := (-1)) hx hb dX10_lost_20 (by decide) ?_
    exact W.iret (v := (-1)) hx hb hr (fun t ht hW => ⟨⟨(-1), (), rfl, rfl, trivial⟩, hS.F ht⟩) hS.2.2 dX10_lost_21
  · exact absurd (by decide) c_1

def wq_X10_shares : List Cond := .code yX10_shares cX10_shares 5 (some .int) :: ([.methodLink RX10 139 yX10_isDevice, .instanceMethod yX10_isDevice, .selects RX10 yX10_isDevice yX10_isDevice, .initialized RX10, .code yX10_isDevice cX10_isDevice 2 (some .boolean), .fieldLink RX10 132 "HubTreeModel" "many" "I", .methodLink RX10 63 yX10_in, .static yX10_in, .code yX10_in cX10_in 3 (some .boolean)] ++ wsX100)
set_option maxRecDepth 20000 in
theorem g_X10_shares_X10_isDevice_139 : GoodIn wq_X10_shares (wsV RX10 139 RX10 yX10_isDevice wq_X10_isDevice) := goodIn_r _ [1, 2, 3, 4, 5, 6, 7, 8, 4, 9, 10, 11, 12, 13, 14, 15, 16, 17, 18, 19, 20, 21, 22, 23, 24, 25, 26, 27, 28, 29, 30, 31, 32, 33] (by decide +kernel) (by decide +kernel)
theorem iq_X10_shares_10 : ∀ w ∈ wsX100, w ∈ wq_X10_shares := fun _ h => List.mem_cons_of_mem _ (List.mem_append_right _ h)
set_option maxHeartbeats 4000000 in
set_option maxRecDepth 100000 in
theorem c_X10_shares (l : Launch) (dC : Nat → ClassId) (dI : Nat → Nat → Nat) (bm : Nat → Nat) (z1 : Int32) (z2 : Int32) : Met l yX10_shares wq_X10_shares ({ frames := 2, cells := 0, slots := 0, locals := 43 }) (va_Pc [.ref (bm 0), .int z1, .int z2] (q_R (dC, dI) [((bm 0), .inr (10, [.int 0, .ref (bm 1), .int 0, .int 0, .int 0, .ref (bm 2), .ref (bm 3), .int 0, .ref (bm 4), .ref (bm 5), .int 0, .ref (bm 6), .ref (bm 7), .int 0, .ref (bm 8), .ref (bm 9), .ref (bm 10), .int 0, .long 0, .ref (bm 11), .ref (bm 12), .ref (bm 13), .ref (bm 14), .int 0]))] [])) (q_i (-1)) 0 0 (fun _ => False) := by
  refine Met.ofW (cc := cX10_shares) (maxL := 5) (ret := (some .int)) (by decide) rfl ?_
  intro p e s m args below meth c s₁ B hml hv
  obtain ⟨rfl, hP, hK⟩ := hv
  have hx := B.exec
  have hb := B.bytes
  have hr := B.returns
  have hts := atoms_spec (ws := wq_X10_shares) B.pre
  have hown : s.vm.findClass RX10 = some m.cls := findClass_of_methodNamed B.named
  have hlocks := B.notSynchronized
  have hS : va_S (fun _ => False) s.heap s.heap [] := va_S.rf
  have hl := lv_entry ([.ref (bm 0), .int z1, .int z2]) (n := 5) (Nat.le_of_ble_eq_true rfl)
  rw [lg_entry_eq]
  generalize (lg_sl ([.ref (bm 0), .int z1, .int z2]) ++ List.replicate (5 - (lg_sl ([.ref (bm 0), .int z1, .int z2])).length) Slot.unset).toArray = ls at hl ⊢
  have hl : lv_has ls 5 [(0, .ref (bm 0)), (1, .int z1), (2, .int z2)] := hl
  refine lv_aload_n hx hb dX10_shares_0 rfl (lv_at hl 0 rfl) ?_
  refine lv_iload_n hx hb dX10_shares_1 rfl (lv_at hl 1 rfl) ?_
  refine q_goi (v := 0) (va_runV (As := [.int z1]) (rest := []) ⟨hx, hb, hml, hown, hts⟩ (c_X10_isDevice l dC dI bm z1) (cwV 1 hts g_X10_shares_X10_isDevice_139 rfl rfl rfl (by decide +kernel) ⟨Nat.le_of_ble_eq_true rfl, Nat.le_of_ble_eq_true rfl⟩) (q_preV hK hP (ci := 10) (q0 := 0) rfl rfl [0] rfl [] rfl) rfl rfl hl.1 rfl (lv_room (Nat.le_of_ble_eq_true rfl)) dX10_shares_2 ⟨Nat.le_of_ble_eq_true rfl, Nat.le_of_ble_eq_true rfl⟩) hP hS (fun H locs hP hS => ?_)
  refine lv_if_eq (tgt := 29) hx hb dX10_shares_5 (by decide) (fun c_1 => ?_) (fun c_1 => ?_)
  · skip
    refine lv_iconst (v := (-1)) hx hb dX10_shares_29 (by decide) ?_
    exact W.iret (v := (-1)) hx hb hr (fun t ht hW => ⟨⟨(-1), (), rfl, rfl, trivial⟩, hS.F ht⟩) hS.2.2 dX10_shares_30
  · exact absurd (by decide) c_1

def wq_X10_step : List Cond := .code yX10_step cX10_step 4 (some .int) :: ([.methodLink RX10 374 yX10_isScript, .instanceMethod yX10_isScript, .selects RX10 yX10_isScript yX10_isScript, .initialized RX10, .code yX10_isScript cX10_isScript 2 (some .boolean), .fieldLink RX10 161 "HubTreeModel" "scripts" "I", .methodLink RX10 63 yX10_in, .static yX10_in, .code yX10_in cX10_in 3 (some .boolean), .constant RX10 358 (-1000000)] ++ wsX100)
set_option maxRecDepth 20000 in
theorem g_X10_step_X10_isScript_374 : GoodIn wq_X10_step (wsV RX10 374 RX10 yX10_isScript wq_X10_isScript) := goodIn_r _ [1, 2, 3, 4, 5, 6, 7, 8, 4, 9, 11, 12, 13, 14, 15, 16, 17, 18, 19, 20, 21, 22, 23, 24, 25, 26, 27, 28, 29, 30, 31, 32, 33, 34] (by decide +kernel) (by decide +kernel)
theorem iq_X10_step_10 : ∀ w ∈ wsX100, w ∈ wq_X10_step := fun _ h => List.mem_cons_of_mem _ (List.mem_append_right _ h)
set_option maxHeartbeats 4000000 in
set_option maxRecDepth 100000 in
theorem c_X10_step (l : Launch) (dC : Nat → ClassId) (dI : Nat → Nat → Nat) (bm : Nat → Nat) (z1 : Int32) (z2 : Int32) (z3 : Int32) : Met l yX10_step wq_X10_step ({ frames := 2, cells := 0, slots := 0, locals := 43 }) (va_Pc [.ref (bm 0), .int z1, .int z2, .int z3] (q_R (dC, dI) [((bm 0), .inr (10, [.int 0, .ref (bm 1), .int 0, .int 0, .int 0, .ref (bm 2), .ref (bm 3), .int 0, .ref (bm 4), .ref (bm 5), .int 0, .ref (bm 6), .ref (bm 7), .int 0, .ref (bm 8), .ref (bm 9), .ref (bm 10), .int 0, .long 0, .ref (bm 11), .ref (bm 12), .ref (bm 13), .ref (bm 14), .int 0]))] [])) (q_i (-1000000)) 0 0 (fun _ => False) := by
  refine Met.ofW (cc := cX10_step) (maxL := 4) (ret := (some .int)) (by decide) rfl ?_
  intro p e s m args below meth c s₁ B hml hv
  obtain ⟨rfl, hP, hK⟩ := hv
  have hx := B.exec
  have hb := B.bytes
  have hr := B.returns
  have hts := atoms_spec (ws := wq_X10_step) B.pre
  have hown : s.vm.findClass RX10 = some m.cls := findClass_of_methodNamed B.named
  have hlocks := B.notSynchronized
  have hS : va_S (fun _ => False) s.heap s.heap [] := va_S.rf
  have hl := lv_entry ([.ref (bm 0), .int z1, .int z2, .int z3]) (n := 4) (Nat.le_of_ble_eq_true rfl)
  rw [lg_entry_eq]
  generalize (lg_sl ([.ref (bm 0), .int z1, .int z2, .int z3]) ++ List.replicate (4 - (lg_sl ([.ref (bm 0), .int z1, .int z2, .int z3])).length) Slot.unset).toArray = ls at hl ⊢
  have hl : lv_has ls 4 [(0, .ref (bm 0)), (1, .int z1), (2, .int z2), (3, .int z3)] := hl
  refine lv_aload_n hx hb dX10_step_0 rfl (lv_at hl 0 rfl) ?_
  refine lv_iload_n hx hb dX10_step_1 rfl (lv_at hl 1 rfl) ?_
  refine q_goi (v := 0) (va_runV (As := [.int z1]) (rest := []) ⟨hx, hb, hml, hown, hts⟩ (c_X10_isScript l dC dI bm z1) (cwV 1 hts g_X10_step_X10_isScript_374 rfl rfl rfl (by decide +kernel) ⟨Nat.le_of_ble_eq_true rfl, Nat.le_of_ble_eq_true rfl⟩) (q_preV hK hP (ci := 10) (q0 := 0) rfl rfl [0] rfl [] rfl) rfl rfl hl.1 rfl (lv_room (Nat.le_of_ble_eq_true rfl)) dX10_step_2 ⟨Nat.le_of_ble_eq_true rfl, Nat.le_of_ble_eq_true rfl⟩) hP hS (fun H locs hP hS => ?_)
  refine lv_if_eq (tgt := 51) hx hb dX10_step_5 (by decide) (fun c_1 => ?_) (fun c_1 => ?_)
  · skip
    refine lv_ldcw (v := (-1000000)) hx hb hown (hts (.constant RX10 358 (-1000000)) (List.mem_of_getElem? (i := 10) rfl)) dX10_step_51 ?_
    exact W.iret (v := (-1000000)) hx hb hr (fun t ht hW => ⟨⟨(-1000000), (), rfl, rfl, trivial⟩, hS.F ht⟩) hS.2.2 dX10_step_54
  · exact absurd (by decide) c_1

def wq_X10_run : List Cond := .code yX10_run cX10_run 5 (some .int) :: ([.methodLink RX10 374 yX10_isScript, .instanceMethod yX10_isScript, .selects RX10 yX10_isScript yX10_isScript, .initialized RX10, .code yX10_isScript cX10_isScript 2 (some .boolean), .fieldLink RX10 161 "HubTreeModel" "scripts" "I", .methodLink RX10 63 yX10_in, .static yX10_in, .code yX10_in cX10_in 3 (some .boolean), .constant RX10 358 (-1000000)] ++ wsX100)
set_option maxRecDepth 20000 in
theorem g_X10_run_X10_isScript_374 : GoodIn wq_X10_run (wsV RX10 374 RX10 yX10_isScript wq_X10_isScript) := goodIn_r _ [1, 2, 3, 4, 5, 6, 7, 8, 4, 9, 11, 12, 13, 14, 15, 16, 17, 18, 19, 20, 21, 22, 23, 24, 25, 26, 27, 28, 29, 30, 31, 32, 33, 34] (by decide +kernel) (by decide +kernel)
theorem iq_X10_run_10 : ∀ w ∈ wsX100, w ∈ wq_X10_run := fun _ h => List.mem_cons_of_mem _ (List.mem_append_right _ h)
set_option maxHeartbeats 4000000 in
set_option maxRecDepth 100000 in
theorem c_X10_run (l : Launch) (dC : Nat → ClassId) (dI : Nat → Nat → Nat) (bm : Nat → Nat) (z1 : Int32) (z2 : Int32) : Met l yX10_run wq_X10_run ({ frames := 2, cells := 0, slots := 0, locals := 43 }) (va_Pc [.ref (bm 0), .int z1, .int z2] (q_R (dC, dI) [((bm 0), .inr (10, [.int 0, .ref (bm 1), .int 0, .int 0, .int 0, .ref (bm 2), .ref (bm 3), .int 0, .ref (bm 4), .ref (bm 5), .int 0, .ref (bm 6), .ref (bm 7), .int 0, .ref (bm 8), .ref (bm 9), .ref (bm 10), .int 0, .long 0, .ref (bm 11), .ref (bm 12), .ref (bm 13), .ref (bm 14), .int 0]))] [])) (q_i (-1000000)) 0 0 (fun _ => False) := by
  refine Met.ofW (cc := cX10_run) (maxL := 5) (ret := (some .int)) (by decide) rfl ?_
  intro p e s m args below meth c s₁ B hml hv
  obtain ⟨rfl, hP, hK⟩ := hv
  have hx := B.exec
  have hb := B.bytes
  have hr := B.returns
  have hts := atoms_spec (ws := wq_X10_run) B.pre
  have hown : s.vm.findClass RX10 = some m.cls := findClass_of_methodNamed B.named
  have hlocks := B.notSynchronized
  have hS : va_S (fun _ => False) s.heap s.heap [] := va_S.rf
  have hl := lv_entry ([.ref (bm 0), .int z1, .int z2]) (n := 5) (Nat.le_of_ble_eq_true rfl)
  rw [lg_entry_eq]
  generalize (lg_sl ([.ref (bm 0), .int z1, .int z2]) ++ List.replicate (5 - (lg_sl ([.ref (bm 0), .int z1, .int z2])).length) Slot.unset).toArray = ls at hl ⊢
  have hl : lv_has ls 5 [(0, .ref (bm 0)), (1, .int z1), (2, .int z2)] := hl
  refine lv_aload_n hx hb dX10_run_0 rfl (lv_at hl 0 rfl) ?_
  refine lv_iload_n hx hb dX10_run_1 rfl (lv_at hl 1 rfl) ?_
  refine q_goi (v := 0) (va_runV (As := [.int z1]) (rest := []) ⟨hx, hb, hml, hown, hts⟩ (c_X10_isScript l dC dI bm z1) (cwV 1 hts g_X10_run_X10_isScript_374 rfl rfl rfl (by decide +kernel) ⟨Nat.le_of_ble_eq_true rfl, Nat.le_of_ble_eq_true rfl⟩) (q_preV hK hP (ci := 10) (q0 := 0) rfl rfl [0] rfl [] rfl) rfl rfl hl.1 rfl (lv_room (Nat.le_of_ble_eq_true rfl)) dX10_run_2 ⟨Nat.le_of_ble_eq_true rfl, Nat.le_of_ble_eq_true rfl⟩) hP hS (fun H locs hP hS => ?_)
  refine lv_if_eq (tgt := 24) hx hb dX10_run_5 (by decide) (fun c_1 => ?_) (fun c_1 => ?_)
  · skip
    refine lv_ldcw (v := (-1000000)) hx hb hown (hts (.constant RX10 358 (-1000000)) (List.mem_of_getElem? (i := 10) rfl)) dX10_run_24 ?_
    exact W.iret (v := (-1000000)) hx hb hr (fun t ht hW => ⟨⟨(-1000000), (), rfl, rfl, trivial⟩, hS.F ht⟩) hS.2.2 dX10_run_27
  · exact absurd (by decide) c_1

def wq_X10_perform : List Cond := .code yX10_perform cX10_perform 2 (some .int) :: ([.methodLink RX10 374 yX10_isScript, .instanceMethod yX10_isScript, .selects RX10 yX10_isScript yX10_isScript, .initialized RX10, .code yX10_isScript cX10_isScript 2 (some .boolean), .fieldLink RX10 161 "HubTreeModel" "scripts" "I", .methodLink RX10 63 yX10_in, .static yX10_in, .code yX10_in cX10_in 3 (some .boolean)] ++ wsX100)
set_option maxRecDepth 20000 in
theorem g_X10_perform_X10_isScript_374 : GoodIn wq_X10_perform (wsV RX10 374 RX10 yX10_isScript wq_X10_isScript) := goodIn_r _ [1, 2, 3, 4, 5, 6, 7, 8, 4, 9, 10, 11, 12, 13, 14, 15, 16, 17, 18, 19, 20, 21, 22, 23, 24, 25, 26, 27, 28, 29, 30, 31, 32, 33] (by decide +kernel) (by decide +kernel)
theorem iq_X10_perform_10 : ∀ w ∈ wsX100, w ∈ wq_X10_perform := fun _ h => List.mem_cons_of_mem _ (List.mem_append_right _ h)
set_option maxHeartbeats 4000000 in
set_option maxRecDepth 100000 in
theorem c_X10_perform (l : Launch) (dC : Nat → ClassId) (dI : Nat → Nat → Nat) (bm : Nat → Nat) (z1 : Int32) : Met l yX10_perform wq_X10_perform ({ frames := 2, cells := 0, slots := 0, locals := 43 }) (va_Pc [.ref (bm 0), .int z1] (q_R (dC, dI) [((bm 0), .inr (10, [.int 0, .ref (bm 1), .int 0, .int 0, .int 0, .ref (bm 2), .ref (bm 3), .int 0, .ref (bm 4), .ref (bm 5), .int 0, .ref (bm 6), .ref (bm 7), .int 0, .ref (bm 8), .ref (bm 9), .ref (bm 10), .int 0, .long 0, .ref (bm 11), .ref (bm 12), .ref (bm 13), .ref (bm 14), .int 0]))] [])) (q_i (-1)) 0 0 (fun _ => False) := by
  refine Met.ofW (cc := cX10_perform) (maxL := 2) (ret := (some .int)) (by decide) rfl ?_
  intro p e s m args below meth c s₁ B hml hv
  obtain ⟨rfl, hP, hK⟩ := hv
  have hx := B.exec
  have hb := B.bytes
  have hr := B.returns
  have hts := atoms_spec (ws := wq_X10_perform) B.pre
  have hown : s.vm.findClass RX10 = some m.cls := findClass_of_methodNamed B.named
  have hlocks := B.notSynchronized
  have hS : va_S (fun _ => False) s.heap s.heap [] := va_S.rf
  have hl := lv_entry ([.ref (bm 0), .int z1]) (n := 2) (Nat.le_of_ble_eq_true rfl)
  rw [lg_entry_eq]
  generalize (lg_sl ([.ref (bm 0), .int z1]) ++ List.replicate (2 - (lg_sl ([.ref (bm 0), .int z1])).length) Slot.unset).toArray = ls at hl ⊢
  have hl : lv_has ls 2 [(0, .ref (bm 0)), (1, .int z1)] := hl
  refine lv_aload_n hx hb dX10_perform_0 rfl (lv_at hl 0 rfl) ?_
  refine lv_iload_n hx hb dX10_perform_1 rfl (lv_at hl 1 rfl) ?_
  refine q_goi (v := 0) (va_runV (As := [.int z1]) (rest := []) ⟨hx, hb, hml, hown, hts⟩ (c_X10_isScript l dC dI bm z1) (cwV 1 hts g_X10_perform_X10_isScript_374 rfl rfl rfl (by decide +kernel) ⟨Nat.le_of_ble_eq_true rfl, Nat.le_of_ble_eq_true rfl⟩) (q_preV hK hP (ci := 10) (q0 := 0) rfl rfl [0] rfl [] rfl) rfl rfl hl.1 rfl (lv_room (Nat.le_of_ble_eq_true rfl)) dX10_perform_2 ⟨Nat.le_of_ble_eq_true rfl, Nat.le_of_ble_eq_true rfl⟩) hP hS (fun H locs hP hS => ?_)
  refine lv_if_eq (tgt := 24) hx hb dX10_perform_5 (by decide) (fun c_1 => ?_) (fun c_1 => ?_)
  · skip
    refine lv_iconst (v := (-1)) hx hb dX10_perform_24 (by decide) ?_
    exact W.iret (v := (-1)) hx hb hr (fun t ht hW => ⟨⟨(-1), (), rfl, rfl, trivial⟩, hS.F ht⟩) hS.2.2 dX10_perform_25
  · exact absurd (by decide) c_1

def wq_X10_all : List Cond := .code yX10_all cX10_all 2 (some .int) :: ([.methodLink RX10 135 yX10_isTree, .instanceMethod yX10_isTree, .selects RX10 yX10_isTree yX10_isTree, .initialized RX10, .code yX10_isTree cX10_isTree 1 (some .boolean), .fieldLink RX10 132 "HubTreeModel" "many" "I", .constant RX10 358 (-1000000)] ++ wsX100)
set_option maxRecDepth 20000 in
theorem g_X10_all_X10_isTree_135 : GoodIn wq_X10_all (wsV RX10 135 RX10 yX10_isTree wq_X10_isTree) := goodIn_r _ [1, 2, 3, 4, 5, 6, 8, 9, 10, 11, 12, 13, 14, 15, 16, 17, 18, 19, 20, 21, 22, 23, 24, 25, 26, 27, 28, 29, 30, 31] (by decide +kernel) (by decide +kernel)
theorem iq_X10_all_10 : ∀ w ∈ wsX100, w ∈ wq_X10_all := fun _ h => List.mem_cons_of_mem _ (List.mem_append_right _ h)
set_option maxHeartbeats 4000000 in
set_option maxRecDepth 100000 in
theorem c_X10_all (l : Launch) (dC : Nat → ClassId) (dI : Nat → Nat → Nat) (bm : Nat → Nat) (z1 : Int32) : Met l yX10_all wq_X10_all ({ frames := 1, cells := 0, slots := 0, locals := 20 }) (va_Pc [.ref (bm 0), .int z1] (q_R (dC, dI) [((bm 0), .inr (10, [.int 0, .ref (bm 1), .int 0, .int 0, .int 0, .ref (bm 2), .ref (bm 3), .int 0, .ref (bm 4), .ref (bm 5), .int 0, .ref (bm 6), .ref (bm 7), .int 0, .ref (bm 8), .ref (bm 9), .ref (bm 10), .int 0, .long 0, .ref (bm 11), .ref (bm 12), .ref (bm 13), .ref (bm 14), .int 0]))] [])) (q_i (-1000000)) 0 0 (fun _ => False) := by
  refine Met.ofW (cc := cX10_all) (maxL := 2) (ret := (some .int)) (by decide) rfl ?_
  intro p e s m args below meth c s₁ B hml hv
  obtain ⟨rfl, hP, hK⟩ := hv
  have hx := B.exec
  have hb := B.bytes
  have hr := B.returns
  have hts := atoms_spec (ws := wq_X10_all) B.pre
  have hown : s.vm.findClass RX10 = some m.cls := findClass_of_methodNamed B.named
  have hlocks := B.notSynchronized
  have hS : va_S (fun _ => False) s.heap s.heap [] := va_S.rf
  have hl := lv_entry ([.ref (bm 0), .int z1]) (n := 2) (Nat.le_of_ble_eq_true rfl)
  rw [lg_entry_eq]
  generalize (lg_sl ([.ref (bm 0), .int z1]) ++ List.replicate (2 - (lg_sl ([.ref (bm 0), .int z1])).length) Slot.unset).toArray = ls at hl ⊢
  have hl : lv_has ls 2 [(0, .ref (bm 0)), (1, .int z1)] := hl
  refine lv_aload_n hx hb dX10_all_0 rfl (lv_at hl 0 rfl) ?_
  refine q_goi (v := 0) (va_runV (As := []) (rest := []) ⟨hx, hb, hml, hown, hts⟩ (c_X10_isTree l dC dI bm) (cwV 0 hts g_X10_all_X10_isTree_135 rfl rfl rfl (by decide +kernel) ⟨Nat.le_of_ble_eq_true rfl, Nat.le_of_ble_eq_true rfl⟩) (q_preV hK hP (ci := 10) (q0 := 0) rfl rfl [0] rfl [] rfl) rfl rfl hl.1 rfl (lv_room (Nat.le_of_ble_eq_true rfl)) dX10_all_1 ⟨Nat.le_of_ble_eq_true rfl, Nat.le_of_ble_eq_true rfl⟩) hP hS (fun H locs hP hS => ?_)
  refine lv_if_eq (tgt := 17) hx hb dX10_all_4 (by decide) (fun c_1 => ?_) (fun c_1 => ?_)
  · skip
    refine lv_ldcw (v := (-1000000)) hx hb hown (hts (.constant RX10 358 (-1000000)) (List.mem_of_getElem? (i := 7) rfl)) dX10_all_17 ?_
    exact W.iret (v := (-1000000)) hx hb hr (fun t ht hW => ⟨⟨(-1000000), (), rfl, rfl, trivial⟩, hS.F ht⟩) hS.2.2 dX10_all_20
  · exact absurd (by decide) c_1

def wq_X10_image : List Cond := .code yX10_image cX10_image 2 (some .int) :: ([.methodLink RX10 135 yX10_isTree, .instanceMethod yX10_isTree, .selects RX10 yX10_isTree yX10_isTree, .initialized RX10, .code yX10_isTree cX10_isTree 1 (some .boolean), .fieldLink RX10 132 "HubTreeModel" "many" "I"] ++ wsX100)
set_option maxRecDepth 20000 in
theorem g_X10_image_X10_isTree_135 : GoodIn wq_X10_image (wsV RX10 135 RX10 yX10_isTree wq_X10_isTree) := goodIn_r _ [1, 2, 3, 4, 5, 6, 7, 8, 9, 10, 11, 12, 13, 14, 15, 16, 17, 18, 19, 20, 21, 22, 23, 24, 25, 26, 27, 28, 29, 30] (by decide +kernel) (by decide +kernel)
theorem iq_X10_image_10 : ∀ w ∈ wsX100, w ∈ wq_X10_image := fun _ h => List.mem_cons_of_mem _ (List.mem_append_right _ h)
set_option maxHeartbeats 4000000 in
set_option maxRecDepth 100000 in
theorem c_X10_image (l : Launch) (dC : Nat → ClassId) (dI : Nat → Nat → Nat) (bm : Nat → Nat) : Met l yX10_image wq_X10_image ({ frames := 1, cells := 0, slots := 0, locals := 20 }) (va_Pc [.ref (bm 0)] (q_R (dC, dI) [((bm 0), .inr (10, [.int 0, .ref (bm 1), .int 0, .int 0, .int 0, .ref (bm 2), .ref (bm 3), .int 0, .ref (bm 4), .ref (bm 5), .int 0, .ref (bm 6), .ref (bm 7), .int 0, .ref (bm 8), .ref (bm 9), .ref (bm 10), .int 0, .long 0, .ref (bm 11), .ref (bm 12), .ref (bm 13), .ref (bm 14), .int 0]))] [])) (q_i (-1)) 0 0 (fun _ => False) := by
  refine Met.ofW (cc := cX10_image) (maxL := 2) (ret := (some .int)) (by decide) rfl ?_
  intro p e s m args below meth c s₁ B hml hv
  obtain ⟨rfl, hP, hK⟩ := hv
  have hx := B.exec
  have hb := B.bytes
  have hr := B.returns
  have hts := atoms_spec (ws := wq_X10_image) B.pre
  have hown : s.vm.findClass RX10 = some m.cls := findClass_of_methodNamed B.named
  have hlocks := B.notSynchronized
  have hS : va_S (fun _ => False) s.heap s.heap [] := va_S.rf
  have hl := lv_entry ([.ref (bm 0)]) (n := 2) (Nat.le_of_ble_eq_true rfl)
  rw [lg_entry_eq]
  generalize (lg_sl ([.ref (bm 0)]) ++ List.replicate (2 - (lg_sl ([.ref (bm 0)])).length) Slot.unset).toArray = ls at hl ⊢
  have hl : lv_has ls 2 [(0, .ref (bm 0))] := hl
  refine lv_aload_n hx hb dX10_image_0 rfl (lv_at hl 0 rfl) ?_
  refine q_goi (v := 0) (va_runV (As := []) (rest := []) ⟨hx, hb, hml, hown, hts⟩ (c_X10_isTree l dC dI bm) (cwV 0 hts g_X10_image_X10_isTree_135 rfl rfl rfl (by decide +kernel) ⟨Nat.le_of_ble_eq_true rfl, Nat.le_of_ble_eq_true rfl⟩) (q_preV hK hP (ci := 10) (q0 := 0) rfl rfl [0] rfl [] rfl) rfl rfl hl.1 rfl (lv_room (Nat.le_of_ble_eq_true rfl)) dX10_image_1 ⟨Nat.le_of_ble_eq_true rfl, Nat.le_of_ble_eq_true rfl⟩) hP hS (fun H locs hP hS => ?_)
  refine lv_if_ne (tgt := 9) hx hb dX10_image_4 (by decide) (fun c_1 => ?_) (fun c_1 => ?_)
  · exact absurd (by decide) c_1
  refine lv_iconst (v := (-1)) hx hb dX10_image_7 (by decide) ?_
  exact W.iret (v := (-1)) hx hb hr (fun t ht hW => ⟨⟨(-1), (), rfl, rfl, trivial⟩, hS.F ht⟩) hS.2.2 dX10_image_8

def wq_X10_back : List Cond := .code yX10_back cX10_back 2 (some .int) :: ([.fieldLink RX10 154 "HubTreeModel" "hasImage" "Z"] ++ wsX100)
theorem iq_X10_back_10 : ∀ w ∈ wsX100, w ∈ wq_X10_back := fun _ h => List.mem_cons_of_mem _ (List.mem_append_right _ h)
set_option maxHeartbeats 4000000 in
set_option maxRecDepth 100000 in
theorem c_X10_back (l : Launch) (dC : Nat → ClassId) (dI : Nat → Nat → Nat) (bm : Nat → Nat) : Met l yX10_back wq_X10_back ({ frames := 0, cells := 0, slots := 0, locals := 0 }) (va_Pc [.ref (bm 0)] (q_R (dC, dI) [((bm 0), .inr (10, [.int 0, .ref (bm 1), .int 0, .int 0, .int 0, .ref (bm 2), .ref (bm 3), .int 0, .ref (bm 4), .ref (bm 5), .int 0, .ref (bm 6), .ref (bm 7), .int 0, .ref (bm 8), .ref (bm 9), .ref (bm 10), .int 0, .long 0, .ref (bm 11), .ref (bm 12), .ref (bm 13), .ref (bm 14), .int 0]))] [])) (q_i (-1)) 0 0 (fun _ => False) := by
  refine Met.ofW (cc := cX10_back) (maxL := 2) (ret := (some .int)) (by decide) rfl ?_
  intro p e s m args below meth c s₁ B hml hv
  obtain ⟨rfl, hP, hK⟩ := hv
  have hx := B.exec
  have hb := B.bytes
  have hr := B.returns
  have hts := atoms_spec (ws := wq_X10_back) B.pre
  have hown : s.vm.findClass RX10 = some m.cls := findClass_of_methodNamed B.named
  have hlocks := B.notSynchronized
  have hS : va_S (fun _ => False) s.heap s.heap [] := va_S.rf
  have hl := lv_entry ([.ref (bm 0)]) (n := 2) (Nat.le_of_ble_eq_true rfl)
  rw [lg_entry_eq]
  generalize (lg_sl ([.ref (bm 0)]) ++ List.replicate (2 - (lg_sl ([.ref (bm 0)])).length) Slot.unset).toArray = ls at hl ⊢
  have hl : lv_has ls 2 [(0, .ref (bm 0))] := hl
  refine lv_aload_n hx hb dX10_back_0 rfl (lv_at hl 0 rfl) ?_
  refine va_get (D := (dC, dI)) (ci := 10) (v := .int 0) (C := RX10) (T := TX10) (N := 24) hx hb hts iq_X10_back_10 hown hK hP 0 rfl rfl 23 (by decide) (hts (.fieldLink RX10 154 "HubTreeModel" "hasImage" "Z") (List.mem_of_getElem? (i := 1) rfl)) (fun _ h9 => h9) rfl dX10_back_1 ?_
  refine lv_if_ne (tgt := 9) hx hb dX10_back_4 (by decide) (fun c_1 => ?_) (fun c_1 => ?_)
  · exact absurd (by decide) c_1
  refine lv_iconst (v := (-1)) hx hb dX10_back_7 (by decide) ?_
  exact W.iret (v := (-1)) hx hb hr (fun t ht hW => ⟨⟨(-1), (), rfl, rfl, trivial⟩, hS.F ht⟩) hS.2.2 dX10_back_8

def wq_X10_whyPlug : List Cond := .code yX10_whyPlug cX10_whyPlug 4 (some .int) :: ([.methodLink RX10 139 yX10_isDevice, .instanceMethod yX10_isDevice, .selects RX10 yX10_isDevice yX10_isDevice, .initialized RX10, .code yX10_isDevice cX10_isDevice 2 (some .boolean), .fieldLink RX10 132 "HubTreeModel" "many" "I", .methodLink RX10 63 yX10_in, .static yX10_in, .code yX10_in cX10_in 3 (some .boolean)] ++ wsX100)
set_option maxRecDepth 20000 in
theorem g_X10_whyPlug_X10_isDevice_139 : GoodIn wq_X10_whyPlug (wsV RX10 139 RX10 yX10_isDevice wq_X10_isDevice) := goodIn_r _ [1, 2, 3, 4, 5, 6, 7, 8, 4, 9, 10, 11, 12, 13, 14, 15, 16, 17, 18, 19, 20, 21, 22, 23, 24, 25, 26, 27, 28, 29, 30, 31, 32, 33] (by decide +kernel) (by decide +kernel)
theorem iq_X10_whyPlug_10 : ∀ w ∈ wsX100, w ∈ wq_X10_whyPlug := fun _ h => List.mem_cons_of_mem _ (List.mem_append_right _ h)
set_option maxHeartbeats 4000000 in
set_option maxRecDepth 100000 in
theorem c_X10_whyPlug (l : Launch) (dC : Nat → ClassId) (dI : Nat → Nat → Nat) (bm : Nat → Nat) (z1 : Int32) (z2 : Int32) (z3 : Int32) : Met l yX10_whyPlug wq_X10_whyPlug ({ frames := 2, cells := 0, slots := 0, locals := 43 }) (va_Pc [.ref (bm 0), .int z1, .int z2, .int z3] (q_R (dC, dI) [((bm 0), .inr (10, [.int 0, .ref (bm 1), .int 0, .int 0, .int 0, .ref (bm 2), .ref (bm 3), .int 0, .ref (bm 4), .ref (bm 5), .int 0, .ref (bm 6), .ref (bm 7), .int 0, .ref (bm 8), .ref (bm 9), .ref (bm 10), .int 0, .long 0, .ref (bm 11), .ref (bm 12), .ref (bm 13), .ref (bm 14), .int 0]))] [])) (q_i (0)) 0 0 (fun _ => False) := by
  refine Met.ofW (cc := cX10_whyPlug) (maxL := 4) (ret := (some .int)) (by decide) rfl ?_
  intro p e s m args below meth c s₁ B hml hv
  obtain ⟨rfl, hP, hK⟩ := hv
  have hx := B.exec
  have hb := B.bytes
  have hr := B.returns
  have hts := atoms_spec (ws := wq_X10_whyPlug) B.pre
  have hown : s.vm.findClass RX10 = some m.cls := findClass_of_methodNamed B.named
  have hlocks := B.notSynchronized
  have hS : va_S (fun _ => False) s.heap s.heap [] := va_S.rf
  have hl := lv_entry ([.ref (bm 0), .int z1, .int z2, .int z3]) (n := 4) (Nat.le_of_ble_eq_true rfl)
  rw [lg_entry_eq]
  generalize (lg_sl ([.ref (bm 0), .int z1, .int z2, .int z3]) ++ List.replicate (4 - (lg_sl ([.ref (bm 0), .int z1, .int z2, .int z3])).length) Slot.unset).toArray = ls at hl ⊢
  have hl : lv_has ls 4 [(0, .ref (bm 0)), (1, .int z1), (2, .int z2), (3, .int z3)] := hl
  refine lv_aload_n hx hb dX10_whyPlug_0 rfl (lv_at hl 0 rfl) ?_
  refine lv_iload_n hx hb dX10_whyPlug_1 rfl (lv_at hl 1 rfl) ?_
  refine q_goi (v := 0) (va_runV (As := [.int z1]) (rest := []) ⟨hx, hb, hml, hown, hts⟩ (c_X10_isDevice l dC dI bm z1) (cwV 1 hts g_X10_whyPlug_X10_isDevice_139 rfl rfl rfl (by decide +kernel) ⟨Nat.le_of_ble_eq_true rfl, Nat.le_of_ble_eq_true rfl⟩) (q_preV hK hP (ci := 10) (q0 := 0) rfl rfl [0] rfl [] rfl) rfl rfl hl.1 rfl (lv_room (Nat.le_of_ble_eq_true rfl)) dX10_whyPlug_2 ⟨Nat.le_of_ble_eq_true rfl, Nat.le_of_ble_eq_true rfl⟩) hP hS (fun H locs hP hS => ?_)
  refine lv_if_eq (tgt := 16) hx hb dX10_whyPlug_5 (by decide) (fun c_1 => ?_) (fun c_1 => ?_)
  · skip
    refine lv_iconst (v := 0) hx hb dX10_whyPlug_16 (by decide) ?_
    exact W.iret (v := 0) hx hb hr (fun t ht hW => ⟨⟨0, (), rfl, rfl, trivial⟩, hS.F ht⟩) hS.2.2 dX10_whyPlug_17
  · exact absurd (by decide) c_1

def wq_X10_whySleep : List Cond := .code yX10_whySleep cX10_whySleep 2 (some .int) :: ([.methodLink RX10 139 yX10_isDevice, .instanceMethod yX10_isDevice, .selects RX10 yX10_isDevice yX10_isDevice, .initialized RX10, .code yX10_isDevice cX10_isDevice 2 (some .boolean), .fieldLink RX10 132 "HubTreeModel" "many" "I", .methodLink RX10 63 yX10_in, .static yX10_in, .code yX10_in cX10_in 3 (some .boolean)] ++ wsX100)
set_option maxRecDepth 20000 in
theorem g_X10_whySleep_X10_isDevice_139 : GoodIn wq_X10_whySleep (wsV RX10 139 RX10 yX10_isDevice wq_X10_isDevice) := goodIn_r _ [1, 2, 3, 4, 5, 6, 7, 8, 4, 9, 10, 11, 12, 13, 14, 15, 16, 17, 18, 19, 20, 21, 22, 23, 24, 25, 26, 27, 28, 29, 30, 31, 32, 33] (by decide +kernel) (by decide +kernel)
theorem iq_X10_whySleep_10 : ∀ w ∈ wsX100, w ∈ wq_X10_whySleep := fun _ h => List.mem_cons_of_mem _ (List.mem_append_right _ h)
set_option maxHeartbeats 4000000 in
set_option maxRecDepth 100000 in
theorem c_X10_whySleep (l : Launch) (dC : Nat → ClassId) (dI : Nat → Nat → Nat) (bm : Nat → Nat) (z1 : Int32) : Met l yX10_whySleep wq_X10_whySleep ({ frames := 2, cells := 0, slots := 0, locals := 43 }) (va_Pc [.ref (bm 0), .int z1] (q_R (dC, dI) [((bm 0), .inr (10, [.int 0, .ref (bm 1), .int 0, .int 0, .int 0, .ref (bm 2), .ref (bm 3), .int 0, .ref (bm 4), .ref (bm 5), .int 0, .ref (bm 6), .ref (bm 7), .int 0, .ref (bm 8), .ref (bm 9), .ref (bm 10), .int 0, .long 0, .ref (bm 11), .ref (bm 12), .ref (bm 13), .ref (bm 14), .int 0]))] [])) (q_i (0)) 0 0 (fun _ => False) := by
  refine Met.ofW (cc := cX10_whySleep) (maxL := 2) (ret := (some .int)) (by decide) rfl ?_
  intro p e s m args below meth c s₁ B hml hv
  obtain ⟨rfl, hP, hK⟩ := hv
  have hx := B.exec
  have hb := B.bytes
  have hr := B.returns
  have hts := atoms_spec (ws := wq_X10_whySleep) B.pre
  have hown : s.vm.findClass RX10 = some m.cls := findClass_of_methodNamed B.named
  have hlocks := B.notSynchronized
  have hS : va_S (fun _ => False) s.heap s.heap [] := va_S.rf
  have hl := lv_entry ([.ref (bm 0), .int z1]) (n := 2) (Nat.le_of_ble_eq_true rfl)
  rw [lg_entry_eq]
  generalize (lg_sl ([.ref (bm 0), .int z1]) ++ List.replicate (2 - (lg_sl ([.ref (bm 0), .int z1])).length) Slot.unset).toArray = ls at hl ⊢
  have hl : lv_has ls 2 [(0, .ref (bm 0)), (1, .int z1)] := hl
  refine lv_aload_n hx hb dX10_whySleep_0 rfl (lv_at hl 0 rfl) ?_
  refine lv_iload_n hx hb dX10_whySleep_1 rfl (lv_at hl 1 rfl) ?_
  refine q_goi (v := 0) (va_runV (As := [.int z1]) (rest := []) ⟨hx, hb, hml, hown, hts⟩ (c_X10_isDevice l dC dI bm z1) (cwV 1 hts g_X10_whySleep_X10_isDevice_139 rfl rfl rfl (by decide +kernel) ⟨Nat.le_of_ble_eq_true rfl, Nat.le_of_ble_eq_true rfl⟩) (q_preV hK hP (ci := 10) (q0 := 0) rfl rfl [0] rfl [] rfl) rfl rfl hl.1 rfl (lv_room (Nat.le_of_ble_eq_true rfl)) dX10_whySleep_2 ⟨Nat.le_of_ble_eq_true rfl, Nat.le_of_ble_eq_true rfl⟩) hP hS (fun H locs hP hS => ?_)
  refine lv_if_ne (tgt := 10) hx hb dX10_whySleep_5 (by decide) (fun c_1 => ?_) (fun c_1 => ?_)
  · exact absurd (by decide) c_1
  refine lv_iconst (v := 0) hx hb dX10_whySleep_8 (by decide) ?_
  exact W.iret (v := 0) hx hb hr (fun t ht hW => ⟨⟨0, (), rfl, rfl, trivial⟩, hS.F ht⟩) hS.2.2 dX10_whySleep_9

def wq_X10_whyNot : List Cond := .code yX10_whyNot cX10_whyNot 5 (some .int) :: ([.methodLink RX10 297 yX10_whyPlug, .instanceMethod yX10_whyPlug, .selects RX10 yX10_whyPlug yX10_whyPlug, .initialized RX10, .code yX10_whyPlug cX10_whyPlug 4 (some .int), .methodLink RX10 139 yX10_isDevice, .instanceMethod yX10_isDevice, .selects RX10 yX10_isDevice yX10_isDevice, .code yX10_isDevice cX10_isDevice 2 (some .boolean), .fieldLink RX10 132 "HubTreeModel" "many" "I", .methodLink RX10 63 yX10_in, .static yX10_in, .code yX10_in cX10_in 3 (some .boolean), .methodLink RX10 135 yX10_isTree, .instanceMethod yX10_isTree, .selects RX10 yX10_isTree yX10_isTree, .code yX10_isTree cX10_isTree 1 (some .boolean), .methodLink RX10 300 yX10_whySleep, .instanceMethod yX10_whySleep, .selects RX10 yX10_whySleep yX10_whySleep, .code yX10_whySleep cX10_whySleep 2 (some .int)] ++ wsX100)
set_option maxRecDepth 20000 in
theorem g_X10_whyNot_X10_whyPlug_297 : GoodIn wq_X10_whyNot (wsV RX10 297 RX10 yX10_whyPlug wq_X10_whyPlug) := goodIn_r _ [1, 2, 3, 4, 5, 6, 7, 8, 4, 9, 10, 11, 12, 13, 22, 23, 24, 25, 26, 27, 28, 29, 30, 31, 32, 33, 34, 35, 36, 37, 38, 39, 40, 41, 42, 43, 44, 45] (by decide +kernel) (by decide +kernel)
set_option maxRecDepth 20000 in
theorem g_X10_whyNot_X10_isDevice_139 : GoodIn wq_X10_whyNot (wsV RX10 139 RX10 yX10_isDevice wq_X10_isDevice) := goodIn_r _ [6, 7, 8, 4, 9, 10, 11, 12, 4, 13, 22, 23, 24, 25, 26, 27, 28, 29, 30, 31, 32, 33, 34, 35, 36, 37, 38, 39, 40, 41, 42, 43, 44, 45] (by decide +kernel) (by decide +kernel)
set_option maxRecDepth 20000 in
theorem g_X10_whyNot_X10_isTree_135 : GoodIn wq_X10_whyNot (wsV RX10 135 RX10 yX10_isTree wq_X10_isTree) := goodIn_r _ [14, 15, 16, 4, 17, 10, 22, 23, 24, 25, 26, 27, 28, 29, 30, 31, 32, 33, 34, 35, 36, 37, 38, 39, 40, 41, 42, 43, 44, 45] (by decide +kernel) (by decide +kernel)
set_option maxRecDepth 20000 in
theorem g_X10_whyNot_X10_whySleep_300 : GoodIn wq_X10_whyNot (wsV RX10 300 RX10 yX10_whySleep wq_X10_whySleep) := goodIn_r _ [18, 19, 20, 4, 21, 6, 7, 8, 4, 9, 10, 11, 12, 13, 22, 23, 24, 25, 26, 27, 28, 29, 30, 31, 32, 33, 34, 35, 36, 37, 38, 39, 40, 41, 42, 43, 44, 45] (by decide +kernel) (by decide +kernel)
theorem iq_X10_whyNot_10 : ∀ w ∈ wsX100, w ∈ wq_X10_whyNot := fun _ h => List.mem_cons_of_mem _ (List.mem_append_right _ h)
set_option maxHeartbeats 4000000 in
set_option maxRecDepth 100000 in
theorem c_X10_whyNot (l : Launch) (dC : Nat → ClassId) (dI : Nat → Nat → Nat) (bm : Nat → Nat) (z0 : Int32) (z1 : Int32) (z2 : Int32) (z3 : Int32) : Met l yX10_whyNot wq_X10_whyNot ({ frames := 3, cells := 0, slots := 0, locals := 66 }) (va_Pc [.ref (bm 0), .int z0, .int z1, .int z2, .int z3] (q_R (dC, dI) [((bm 0), .inr (10, [.int 0, .ref (bm 1), .int 0, .int 0, .int 0, .ref (bm 2), .ref (bm 3), .int 0, .ref (bm 4), .ref (bm 5), .int 0, .ref (bm 6), .ref (bm 7), .int 0, .ref (bm 8), .ref (bm 9), .ref (bm 10), .int 0, .long 0, .ref (bm 11), .ref (bm 12), .ref (bm 13), .ref (bm 14), .int 0]))] [])) (q_i (0)) 0 0 (fun _ => False) := by
  refine Met.ofW (cc := cX10_whyNot) (maxL := 5) (ret := (some .int)) (by decide) rfl ?_
  intro p e s m args below meth c s₁ B hml hv
  obtain ⟨rfl, hP, hK⟩ := hv
  have hx := B.exec
  have hb := B.bytes
  have hr := B.returns
  have hts := atoms_spec (ws := wq_X10_whyNot) B.pre
  have hown : s.vm.findClass RX10 = some m.cls := findClass_of_methodNamed B.named
  have hlocks := B.notSynchronized
  have hS : va_S (fun _ => False) s.heap s.heap [] := va_S.rf
  have hl := lv_entry ([.ref (bm 0), .int z0, .int z1, .int z2, .int z3]) (n := 5) (Nat.le_of_ble_eq_true rfl)
  rw [lg_entry_eq]
  generalize (lg_sl ([.ref (bm 0), .int z0, .int z1, .int z2, .int z3]) ++ List.replicate (5 - (lg_sl ([.ref (bm 0), .int z0, .int z1, .int z2, .int z3])).length) Slot.unset).toArray = ls at hl ⊢
  have hl : lv_has ls 5 [(0, .ref (bm 0)), (1, .int z0), (2, .int z1), (3, .int z2), (4, .int z3)] := hl
  refine lv_iload_n hx hb dX10_whyNot_0 rfl (lv_at hl 1 rfl) ?_
  by_cases e_1 : z0 = 0
  · refine lv_tableIn (off := 39) (tgt := 40) hx hb dX10_whyNot_1 (by rw [e_1]; decide) (by rw [e_1]; decide) (by rw [e_1]; decide) (by decide) ?_
    refine lv_aload_n hx hb dX10_whyNot_40 rfl (lv_at hl 0 rfl) ?_
    refine lv_iload_n hx hb dX10_whyNot_41 rfl (lv_at hl 2 rfl) ?_
    refine lv_iload_n hx hb dX10_whyNot_42 rfl (lv_at hl 3 rfl) ?_
    refine lv_iload hx hb dX10_whyNot_43 (lv_at hl 4 rfl) ?_
    refine q_goi (v := 0) (va_runV (As := [.int z1, .int z2, .int z3]) (rest := []) ⟨hx, hb, hml, hown, hts⟩ (c_X10_whyPlug l dC dI bm z1 z2 z3) (cwV 3 hts g_X10_whyNot_X10_whyPlug_297 rfl rfl rfl (by decide +kernel) ⟨Nat.le_of_ble_eq_true rfl, Nat.le_of_ble_eq_true rfl⟩) (q_preV hK hP (ci := 10) (q0 := 0) rfl rfl [0] rfl [] rfl) rfl rfl hl.1 rfl (lv_room (Nat.le_of_ble_eq_true rfl)) dX10_whyNot_45 ⟨Nat.le_of_ble_eq_true rfl, Nat.le_of_ble_eq_true rfl⟩) hP hS (fun H locs hP hS => ?_)
    exact W.iret (v := 0) hx hb hr (fun t ht hW => ⟨⟨0, (), rfl, rfl, trivial⟩, hS.F ht⟩) hS.2.2 dX10_whyNot_48
  by_cases e_2 : z0 = 1
  · refine lv_tableIn (off := 48) (tgt := 49) hx hb dX10_whyNot_1 (by rw [e_2]; decide) (by rw [e_2]; decide) (by rw [e_2]; decide) (by decide) ?_
    refine lv_aload_n hx hb dX10_whyNot_49 rfl (lv_at hl 0 rfl) ?_
    refine lv_iload_n hx hb dX10_whyNot_50 rfl (lv_at hl 2 rfl) ?_
    refine q_goi (v := 0) (va_runV (As := [.int z1]) (rest := []) ⟨hx, hb, hml, hown, hts⟩ (c_X10_isDevice l dC dI bm z1) (cwV 1 hts g_X10_whyNot_X10_isDevice_139 rfl rfl rfl (by decide +kernel) ⟨Nat.le_of_ble_eq_true rfl, Nat.le_of_ble_eq_true rfl⟩) (q_preV hK hP (ci := 10) (q0 := 0) rfl rfl [0] rfl [] rfl) rfl rfl hl.1 rfl (lv_room (Nat.le_of_ble_eq_true rfl)) dX10_whyNot_51 ⟨Nat.le_of_ble_eq_true rfl, Nat.le_of_ble_eq_true rfl⟩) hP hS (fun H locs hP hS => ?_)
    refine lv_if_ne (tgt := 61) hx hb dX10_whyNot_54 (by decide) (fun c_3 => ?_) (fun c_3 => ?_)
    · exact absurd (by decide) c_3
    refine lv_iconst (v := 0) hx hb dX10_whyNot_57 (by decide) ?_
    refine lv_goto (tgt := 74) hx hb dX10_whyNot_58 (by decide) ?_
    exact W.iret (v := 0) hx hb hr (fun t ht hW => ⟨⟨0, (), rfl, rfl, trivial⟩, hS.F ht⟩) hS.2.2 dX10_whyNot_74
  by_cases e_4 : z0 = 2
  · refine lv_tableIn (off := 74) (tgt := 75) hx hb dX10_whyNot_1 (by rw [e_4]; decide) (by rw [e_4]; decide) (by rw [e_4]; decide) (by decide) ?_
    refine lv_aload_n hx hb dX10_whyNot_75 rfl (lv_at hl 0 rfl) ?_
    refine q_goi (v := 0) (va_runV (As := []) (rest := []) ⟨hx, hb, hml, hown, hts⟩ (c_X10_isTree l dC dI bm) (cwV 0 hts g_X10_whyNot_X10_isTree_135 rfl rfl rfl (by decide +kernel) ⟨Nat.le_of_ble_eq_true rfl, Nat.le_of_ble_eq_true rfl⟩) (q_preV hK hP (ci := 10) (q0 := 0) rfl rfl [0] rfl [] rfl) rfl rfl hl.1 rfl (lv_room (Nat.le_of_ble_eq_true rfl)) dX10_whyNot_76 ⟨Nat.le_of_ble_eq_true rfl, Nat.le_of_ble_eq_true rfl⟩) hP hS (fun H locs hP hS => ?_)
    refine lv_if_ne (tgt := 86) hx hb dX10_whyNot_79 (by decide) (fun c_5 => ?_) (fun c_5 => ?_)
    · exact absurd (by decide) c_5
    refine lv_iconst (v := 0) hx hb dX10_whyNot_82 (by decide) ?_
    refine lv_goto (tgt := 120) hx hb dX10_whyNot_83 (by decide) ?_
    exact W.iret (v := 0) hx hb hr (fun t ht hW => ⟨⟨0, (), rfl, rfl, trivial⟩, hS.F ht⟩) hS.2.2 dX10_whyNot_120
  by_cases e_6 : z0 = 3
  · refine lv_tableIn (off := 120) (tgt := 121) hx hb dX10_whyNot_1 (by rw [e_6]; decide) (by rw [e_6]; decide) (by rw [e_6]; decide) (by decide) ?_
    refine lv_aload_n hx hb dX10_whyNot_121 rfl (lv_at hl 0 rfl) ?_
    refine lv_iload_n hx hb dX10_whyNot_122 rfl (lv_at hl 2 rfl) ?_
    refine q_goi (v := 0) (va_runV (As := [.int z1]) (rest := []) ⟨hx, hb, hml, hown, hts⟩ (c_X10_isDevice l dC dI bm z1) (cwV 1 hts g_X10_whyNot_X10_isDevice_139 rfl rfl rfl (by decide +kernel) ⟨Nat.le_of_ble_eq_true rfl, Nat.le_of_ble_eq_true rfl⟩) (q_preV hK hP (ci := 10) (q0 := 0) rfl rfl [0] rfl [] rfl) rfl rfl hl.1 rfl (lv_room (Nat.le_of_ble_eq_true rfl)) dX10_whyNot_123 ⟨Nat.le_of_ble_eq_true rfl, Nat.le_of_ble_eq_true rfl⟩) hP hS (fun H locs hP hS => ?_)
    refine lv_if_ne (tgt := 133) hx hb dX10_whyNot_126 (by decide) (fun c_7 => ?_) (fun c_7 => ?_)
    · exact absurd (by decide) c_7
    refine lv_iconst (v := 0) hx hb dX10_whyNot_129 (by decide) ?_
    refine lv_goto (tgt := 147) hx hb dX10_whyNot_130 (by decide) ?_
    exact W.iret (v := 0) hx hb hr (fun t ht hW => ⟨⟨0, (), rfl, rfl, trivial⟩, hS.F ht⟩) hS.2.2 dX10_whyNot_147
  by_cases e_8 : z0 = 4
  · refine lv_tableIn (off := 147) (tgt := 148) hx hb dX10_whyNot_1 (by rw [e_8]; decide) (by rw [e_8]; decide) (by rw [e_8]; decide) (by decide) ?_
    refine lv_aload_n hx hb dX10_whyNot_148 rfl (lv_at hl 0 rfl) ?_
    refine lv_iload_n hx hb dX10_whyNot_149 rfl (lv_at hl 2 rfl) ?_
    refine q_goi (v := 0) (va_runV (As := [.int z1]) (rest := []) ⟨hx, hb, hml, hown, hts⟩ (c_X10_isDevice l dC dI bm z1) (cwV 1 hts g_X10_whyNot_X10_isDevice_139 rfl rfl rfl (by decide +kernel) ⟨Nat.le_of_ble_eq_true rfl, Nat.le_of_ble_eq_true rfl⟩) (q_preV hK hP (ci := 10) (q0 := 0) rfl rfl [0] rfl [] rfl) rfl rfl hl.1 rfl (lv_room (Nat.le_of_ble_eq_true rfl)) dX10_whyNot_150 ⟨Nat.le_of_ble_eq_true rfl, Nat.le_of_ble_eq_true rfl⟩) hP hS (fun H locs hP hS => ?_)
    refine lv_if_ne (tgt := 160) hx hb dX10_whyNot_153 (by decide) (fun c_9 => ?_) (fun c_9 => ?_)
    · exact absurd (by decide) c_9
    refine lv_iconst (v := 0) hx hb dX10_whyNot_156 (by decide) ?_
    refine lv_goto (tgt := 191) hx hb dX10_whyNot_157 (by decide) ?_
    exact W.iret (v := 0) hx hb hr (fun t ht hW => ⟨⟨0, (), rfl, rfl, trivial⟩, hS.F ht⟩) hS.2.2 dX10_whyNot_191
  by_cases e_10 : z0 = 5
  · refine lv_tableIn (off := 191) (tgt := 192) hx hb dX10_whyNot_1 (by rw [e_10]; decide) (by rw [e_10]; decide) (by rw [e_10]; decide) (by decide) ?_
    refine lv_aload_n hx hb dX10_whyNot_192 rfl (lv_at hl 0 rfl) ?_
    refine lv_iload_n hx hb dX10_whyNot_193 rfl (lv_at hl 2 rfl) ?_
    refine q_goi (v := 0) (va_runV (As := [.int z1]) (rest := []) ⟨hx, hb, hml, hown, hts⟩ (c_X10_isDevice l dC dI bm z1) (cwV 1 hts g_X10_whyNot_X10_isDevice_139 rfl rfl rfl (by decide +kernel) ⟨Nat.le_of_ble_eq_true rfl, Nat.le_of_ble_eq_true rfl⟩) (q_preV hK hP (ci := 10) (q0 := 0) rfl rfl [0] rfl [] rfl) rfl rfl hl.1 rfl (lv_room (Nat.le_of_ble_eq_true rfl)) dX10_whyNot_194 ⟨Nat.le_of_ble_eq_true rfl, Nat.le_of_ble_eq_true rfl⟩) hP hS (fun H locs hP hS => ?_)
    refine lv_if_ne (tgt := 204) hx hb dX10_whyNot_197 (by decide) (fun c_11 => ?_) (fun c_11 => ?_)
    · exact absurd (by decide) c_11
    refine lv_iconst (v := 0) hx hb dX10_whyNot_200 (by decide) ?_
    refine lv_goto (tgt := 219) hx hb dX10_whyNot_201 (by decide) ?_
    exact W.iret (v := 0) hx hb hr (fun t ht hW => ⟨⟨0, (), rfl, rfl, trivial⟩, hS.F ht⟩) hS.2.2 dX10_whyNot_219
  have hsw : (z0).toInt < 0 ∨ 5 < (z0).toInt := by
    have := lv_neT (a := 0) e_1 (by decide)
    have := lv_neT (a := 1) e_2 (by decide)
    have := lv_neT (a := 2) e_4 (by decide)
    have := lv_neT (a := 3) e_6 (by decide)
    have := lv_neT (a := 4) e_8 (by decide)
    have := lv_neT (a := 5) e_10 (by decide)
    omega
  refine lv_tableOut (tgt := 220) hx hb dX10_whyNot_1 hsw (by decide) ?_
  refine lv_aload_n hx hb dX10_whyNot_220 rfl (lv_at hl 0 rfl) ?_
  refine lv_iload_n hx hb dX10_whyNot_221 rfl (lv_at hl 2 rfl) ?_
  refine q_goi (v := 0) (va_runV (As := [.int z1]) (rest := []) ⟨hx, hb, hml, hown, hts⟩ (c_X10_whySleep l dC dI bm z1) (cwV 1 hts g_X10_whyNot_X10_whySleep_300 rfl rfl rfl (by decide +kernel) ⟨Nat.le_of_ble_eq_true rfl, Nat.le_of_ble_eq_true rfl⟩) (q_preV hK hP (ci := 10) (q0 := 0) rfl rfl [0] rfl [] rfl) rfl rfl hl.1 rfl (lv_room (Nat.le_of_ble_eq_true rfl)) dX10_whyNot_222 ⟨Nat.le_of_ble_eq_true rfl, Nat.le_of_ble_eq_true rfl⟩) hP hS (fun H locs hP hS => ?_)
  exact W.iret (v := 0) hx hb hr (fun t ht hW => ⟨⟨0, (), rfl, rfl, trivial⟩, hS.F ht⟩) hS.2.2 dX10_whyNot_225

def wq_X10_hand : List Cond := .code yX10_hand cX10_hand 6 (some .int) :: ([.methodLink RX10 331 yX10_whyNot, .instanceMethod yX10_whyNot, .selects RX10 yX10_whyNot yX10_whyNot, .initialized RX10, .code yX10_whyNot cX10_whyNot 5 (some .int), .methodLink RX10 297 yX10_whyPlug, .instanceMethod yX10_whyPlug, .selects RX10 yX10_whyPlug yX10_whyPlug, .code yX10_whyPlug cX10_whyPlug 4 (some .int), .methodLink RX10 139 yX10_isDevice, .instanceMethod yX10_isDevice, .selects RX10 yX10_isDevice yX10_isDevice, .code yX10_isDevice cX10_isDevice 2 (some .boolean), .fieldLink RX10 132 "HubTreeModel" "many" "I", .methodLink RX10 63 yX10_in, .static yX10_in, .code yX10_in cX10_in 3 (some .boolean), .methodLink RX10 135 yX10_isTree, .instanceMethod yX10_isTree, .selects RX10 yX10_isTree yX10_isTree, .code yX10_isTree cX10_isTree 1 (some .boolean), .methodLink RX10 300 yX10_whySleep, .instanceMethod yX10_whySleep, .selects RX10 yX10_whySleep yX10_whySleep, .code yX10_whySleep cX10_whySleep 2 (some .int), .fieldLink RX10 34 "HubTreeModel" "refused" "[I"] ++ wsX100)
set_option maxRecDepth 20000 in
theorem g_X10_hand_X10_whyNot_331 : GoodIn wq_X10_hand (wsV RX10 331 RX10 yX10_whyNot wq_X10_whyNot) := goodIn_r _ [1, 2, 3, 4, 5, 6, 7, 8, 4, 9, 10, 11, 12, 13, 14, 15, 16, 17, 18, 19, 20, 21, 22, 23, 24, 25, 27, 28, 29, 30, 31, 32, 33, 34, 35, 36, 37, 38, 39, 40, 41, 42, 43, 44, 45, 46, 47, 48, 49, 50] (by decide +kernel) (by decide +kernel)
theorem iq_X10_hand_10 : ∀ w ∈ wsX100, w ∈ wq_X10_hand := fun _ h => List.mem_cons_of_mem _ (List.mem_append_right _ h)
set_option maxHeartbeats 4000000 in
set_option maxRecDepth 100000 in
theorem c_X10_hand (l : Launch) (dC : Nat → ClassId) (dI : Nat → Nat → Nat) (bm : Nat → Nat) (km : Nat → ClassId) (z0 : Int32) (z1 : Int32) (z2 : Int32) (z3 : Int32) (A : Nat → Prop) : Met l yX10_hand wq_X10_hand ({ frames := 4, cells := 0, slots := 0, locals := 90 }) (va_Pc [.ref (bm 0), .int z0, .int z1, .int z2, .int z3] (q_W (dC, dI) A [((bm 0), .inr (10, [.int 0, .ref (bm 1), .int 0, .int 0, .int 0, .ref (bm 2), .ref (bm 3), .int 0, .ref (bm 4), .ref (bm 5), .int 0, .ref (bm 6), .ref (bm 7), .int 0, .ref (bm 8), .ref (bm 9), .ref (bm 10), .int 0, .long 0, .ref (bm 11), .ref (bm 12), .ref (bm 13), .ref (bm 14), .int 0])), ((bm 9), .inl ((km 9), 4, .inl (fun _ => 0)))] [((km 9), .int)])) (q_wi (-1) A) 0 0 A := by
  refine Met.ofW (cc := cX10_hand) (maxL := 6) (ret := (some .int)) (by decide) rfl ?_
  intro p e s m args below meth c s₁ B hml hv
  obtain ⟨rfl, hP, hK, hD, hA⟩ := hv
  have hx := B.exec
  have hb := B.bytes
  have hr := B.returns
  have hts := atoms_spec (ws := wq_X10_hand) B.pre
  have hown : s.vm.findClass RX10 = some m.cls := findClass_of_methodNamed B.named
  have hlocks := B.notSynchronized
  have hS : va_S A s.heap s.heap [] := va_S.rf
  have hl := lv_entry ([.ref (bm 0), .int z0, .int z1, .int z2, .int z3]) (n := 6) (Nat.le_of_ble_eq_true rfl)
  rw [lg_entry_eq]
  generalize (lg_sl ([.ref (bm 0), .int z0, .int z1, .int z2, .int z3]) ++ List.replicate (6 - (lg_sl ([.ref (bm 0), .int z0, .int z1, .int z2, .int z3])).length) Slot.unset).toArray = ls at hl ⊢
  have hl : lv_has ls 6 [(0, .ref (bm 0)), (1, .int z0), (2, .int z1), (3, .int z2), (4, .int z3)] := hl
  refine lv_aload_n hx hb dX10_hand_0 rfl (lv_at hl 0 rfl) ?_
  refine lv_iload_n hx hb dX10_hand_1 rfl (lv_at hl 1 rfl) ?_
  refine lv_iload_n hx hb dX10_hand_2 rfl (lv_at hl 2 rfl) ?_
  refine lv_iload_n hx hb dX10_hand_3 rfl (lv_at hl 3 rfl) ?_
  refine lv_iload hx hb dX10_hand_4 (lv_at hl 4 rfl) ?_
  refine q_goi (v := 0) (va_runV (As := [.int z0, .int z1, .int z2, .int z3]) (rest := []) ⟨hx, hb, hml, hown, hts⟩ (c_X10_whyNot l dC dI bm z0 z1 z2 z3) (cwV 4 hts g_X10_hand_X10_whyNot_331 rfl rfl rfl (by decide +kernel) ⟨Nat.le_of_ble_eq_true rfl, Nat.le_of_ble_eq_true rfl⟩) (q_preV hK hP (ci := 10) (q0 := 0) rfl rfl [0] rfl [] rfl) rfl rfl hl.1 rfl (lv_room (Nat.le_of_ble_eq_true rfl)) dX10_hand_6 ⟨Nat.le_of_ble_eq_true rfl, Nat.le_of_ble_eq_true rfl⟩) hP hS (fun H locs hP hS => ?_)
  refine lv_istore (lv' := [(5, .int 0), (0, .ref (bm 0)), (1, .int z0), (2, .int z1), (3, .int z2), (4, .int z3)]) hx hb dX10_hand_9 hl (by decide) rfl (fun ls hl => ?_)
  refine lv_iload hx hb dX10_hand_11 (lv_at hl 0 rfl) ?_
  refine lv_iconst (v := (-1)) hx hb dX10_hand_13 (by decide) ?_
  refine lv_icmp_eq (tgt := 30) hx hb dX10_hand_14 (by decide) (fun c_1 => ?_) (fun c_1 => ?_)
  · exact absurd c_1 (by decide)
  refine lv_aload_n hx hb dX10_hand_17 rfl (lv_at hl 1 rfl) ?_
  refine va_get (D := (dC, dI)) (ci := 10) (v := .ref (bm 9)) (C := RX10) (T := TX10) (N := 24) hx hb hts iq_X10_hand_10 hown hK hP 0 rfl rfl 15 (by decide) (hts (.fieldLink RX10 34 "HubTreeModel" "refused" "[I") (List.mem_of_getElem? (i := 26) rfl)) (fun _ h9 => h9) rfl dX10_hand_18 ?_
  refine lv_iload hx hb dX10_hand_21 (lv_at hl 0 rfl) ?_
  refine lv_dup2_11 hx hb dX10_hand_23 rfl rfl ?_
  refine va_iald hx hb hK hP 1 0 rfl rfl (i := 0) (vp_in_iff.mpr (by decide)) dX10_hand_24 ?_
  refine q_top (y := 0) rfl ?_
  refine lv_iconst (v := 1) hx hb dX10_hand_25 (by decide) ?_
  refine lv_iadd hx hb dX10_hand_26 ?_
  refine q_top (y := 1) (by decide) ?_
  refine va_iast hx hb hK hP hD hS 1 0 rfl rfl (i := 0) (x := 1) (vp_in_iff.mpr (by decide)) dX10_hand_27 (fun H locs hP hD hS => ?_)
  obtain ⟨f_2, hP, hD⟩ : ∃ f9 : Nat → Int32, va_P (dC, dI) vwCl [((bm 0), .inr (10, [.int 0, .ref (bm 1), .int 0, .int 0, .int 0, .ref (bm 2), .ref (bm 3), .int 0, .ref (bm 4), .ref (bm 5), .int 0, .ref (bm 6), .ref (bm 7), .int 0, .ref (bm 8), .ref (bm 9), .ref (bm 10), .int 0, .long 0, .ref (bm 11), .ref (bm 12), .ref (bm 13), .ref (bm 14), .int 0])), ((bm 9), .inl ((km 9), 4, .inl f9))] H ∧ va_D A [((bm 0), .inr (10, [.int 0, .ref (bm 1), .int 0, .int 0, .int 0, .ref (bm 2), .ref (bm 3), .int 0, .ref (bm 4), .ref (bm 5), .int 0, .ref (bm 6), .ref (bm 7), .int 0, .ref (bm 8), .ref (bm 9), .ref (bm 10), .int 0, .long 0, .ref (bm 11), .ref (bm 12), .ref (bm 13), .ref (bm 14), .int 0])), ((bm 9), .inl ((km 9), 4, .inl f9))] := ⟨_, hP, hD⟩
  refine lv_iconst (v := (-1)) hx hb dX10_hand_28 (by decide) ?_
  exact W.iret (v := (-1)) hx hb hr (fun t ht hW => ⟨⟨(-1), (), rfl, rfl, trivial⟩, hS.F ht⟩) hS.2.2 dX10_hand_29

def wq_X10_plug : List Cond := .code yX10_plug cX10_plug 4 (some .int) :: ([.methodLink RX10 337 yX10_hand, .instanceMethod yX10_hand, .selects RX10 yX10_hand yX10_hand, .initialized RX10, .code yX10_hand cX10_hand 6 (some .int), .methodLink RX10 331 yX10_whyNot, .instanceMethod yX10_whyNot, .selects RX10 yX10_whyNot yX10_whyNot, .code yX10_whyNot cX10_whyNot 5 (some .int), .methodLink RX10 297 yX10_whyPlug, .instanceMethod yX10_whyPlug, .selects RX10 yX10_whyPlug yX10_whyPlug, .code yX10_whyPlug cX10_whyPlug 4 (some .int), .methodLink RX10 139 yX10_isDevice, .instanceMethod yX10_isDevice, .selects RX10 yX10_isDevice yX10_isDevice, .code yX10_isDevice cX10_isDevice 2 (some .boolean), .fieldLink RX10 132 "HubTreeModel" "many" "I", .methodLink RX10 63 yX10_in, .static yX10_in, .code yX10_in cX10_in 3 (some .boolean), .methodLink RX10 135 yX10_isTree, .instanceMethod yX10_isTree, .selects RX10 yX10_isTree yX10_isTree, .code yX10_isTree cX10_isTree 1 (some .boolean), .methodLink RX10 300 yX10_whySleep, .instanceMethod yX10_whySleep, .selects RX10 yX10_whySleep yX10_whySleep, .code yX10_whySleep cX10_whySleep 2 (some .int), .fieldLink RX10 34 "HubTreeModel" "refused" "[I"] ++ wsX100)
set_option maxRecDepth 20000 in
theorem g_X10_plug_X10_hand_337 : GoodIn wq_X10_plug (wsV RX10 337 RX10 yX10_hand wq_X10_hand) := goodIn_r _ [1, 2, 3, 4, 5, 6, 7, 8, 4, 9, 10, 11, 12, 13, 14, 15, 16, 17, 18, 19, 20, 21, 22, 23, 24, 25, 26, 27, 28, 29, 30, 31, 32, 33, 34, 35, 36, 37, 38, 39, 40, 41, 42, 43, 44, 45, 46, 47, 48, 49, 50, 51, 52, 53, 54] (by decide +kernel) (by decide +kernel)
theorem iq_X10_plug_10 : ∀ w ∈ wsX100, w ∈ wq_X10_plug := fun _ h => List.mem_cons_of_mem _ (List.mem_append_right _ h)
set_option maxHeartbeats 4000000 in
set_option maxRecDepth 100000 in
theorem c_X10_plug (l : Launch) (dC : Nat → ClassId) (dI : Nat → Nat → Nat) (bm : Nat → Nat) (km : Nat → ClassId) (z1 : Int32) (z2 : Int32) (z3 : Int32) (A : Nat → Prop) : Met l yX10_plug wq_X10_plug ({ frames := 5, cells := 0, slots := 0, locals := 115 }) (va_Pc [.ref (bm 0), .int z1, .int z2, .int z3] (q_W (dC, dI) A [((bm 0), .inr (10, [.int 0, .ref (bm 1), .int 0, .int 0, .int 0, .ref (bm 2), .ref (bm 3), .int 0, .ref (bm 4), .ref (bm 5), .int 0, .ref (bm 6), .ref (bm 7), .int 0, .ref (bm 8), .ref (bm 9), .ref (bm 10), .int 0, .long 0, .ref (bm 11), .ref (bm 12), .ref (bm 13), .ref (bm 14), .int 0])), ((bm 9), .inl ((km 9), 4, .inl (fun _ => 0)))] [((km 9), .int)])) (q_wi (-1) A) 0 0 A := by
  refine Met.ofW (cc := cX10_plug) (maxL := 4) (ret := (some .int)) (by decide) rfl ?_
  intro p e s m args below meth c s₁ B hml hv
  obtain ⟨rfl, hP, hK, hD, hA⟩ := hv
  have hx := B.exec
  have hb := B.bytes
  have hr := B.returns
  have hts := atoms_spec (ws := wq_X10_plug) B.pre
  have hown : s.vm.findClass RX10 = some m.cls := findClass_of_methodNamed B.named
  have hlocks := B.notSynchronized
  have hS : va_S A s.heap s.heap [] := va_S.rf
  have hl := lv_entry ([.ref (bm 0), .int z1, .int z2, .int z3]) (n := 4) (Nat.le_of_ble_eq_true rfl)
  rw [lg_entry_eq]
  generalize (lg_sl ([.ref (bm 0), .int z1, .int z2, .int z3]) ++ List.replicate (4 - (lg_sl ([.ref (bm 0), .int z1, .int z2, .int z3])).length) Slot.unset).toArray = ls at hl ⊢
  have hl : lv_has ls 4 [(0, .ref (bm 0)), (1, .int z1), (2, .int z2), (3, .int z3)] := hl
  refine lv_aload_n hx hb dX10_plug_0 rfl (lv_at hl 0 rfl) ?_
  refine lv_iconst (v := 0) hx hb dX10_plug_1 (by decide) ?_
  refine lv_iload_n hx hb dX10_plug_2 rfl (lv_at hl 1 rfl) ?_
  refine lv_iload_n hx hb dX10_plug_3 rfl (lv_at hl 2 rfl) ?_
  refine lv_iload_n hx hb dX10_plug_4 rfl (lv_at hl 3 rfl) ?_
  refine q_goiF (v := (-1)) (wr := []) (va_runV (As := [.int 0, .int z1, .int z2, .int z3]) (rest := []) ⟨hx, hb, hml, hown, hts⟩ (c_X10_hand l dC dI bm km 0 z1 z2 z3 (va_A [((bm 0), .inr (10, [.int 0, .ref (bm 1), .int 0, .int 0, .int 0, .ref (bm 2), .ref (bm 3), .int 0, .ref (bm 4), .ref (bm 5), .int 0, .ref (bm 6), .ref (bm 7), .int 0, .ref (bm 8), .ref (bm 9), .ref (bm 10), .int 0, .long 0, .ref (bm 11), .ref (bm 12), .ref (bm 13), .ref (bm 14), .int 0])), ((bm 9), .inl ((km 9), 4, .inl (fun _ => 0)))] s.heap.size)) (cwV 4 hts g_X10_plug_X10_hand_337 rfl rfl rfl (by decide +kernel) ⟨Nat.le_of_ble_eq_true rfl, Nat.le_of_ble_eq_true rfl⟩) (q_preWV hK hP hD (ci := 10) (q0 := 0) rfl rfl [0, 1] (by decide) rfl rfl [0] rfl) rfl rfl hl.1 rfl (lv_room (Nat.le_of_ble_eq_true rfl)) dX10_plug_5 ⟨Nat.le_of_ble_eq_true rfl, Nat.le_of_ble_eq_true rfl⟩) hP hD hS hA [0, 1] [] rfl rfl (by decide) (by decide) (fun H locs hP hD hS => ?_)
  have hP : va_P (dC, dI) vwCl [] H := hP
  have hD : va_D A [] := hD
  exact W.iret (v := (-1)) hx hb hr (fun t ht hW => ⟨⟨(-1), (), rfl, rfl, trivial⟩, hS.F ht⟩) hS.2.2 dX10_plug_8

def wq_X10_unplug : List Cond := .code yX10_unplug cX10_unplug 2 (some .int) :: ([.methodLink RX10 337 yX10_hand, .instanceMethod yX10_hand, .selects RX10 yX10_hand yX10_hand, .initialized RX10, .code yX10_hand cX10_hand 6 (some .int), .methodLink RX10 331 yX10_whyNot, .instanceMethod yX10_whyNot, .selects RX10 yX10_whyNot yX10_whyNot, .code yX10_whyNot cX10_whyNot 5 (some .int), .methodLink RX10 297 yX10_whyPlug, .instanceMethod yX10_whyPlug, .selects RX10 yX10_whyPlug yX10_whyPlug, .code yX10_whyPlug cX10_whyPlug 4 (some .int), .methodLink RX10 139 yX10_isDevice, .instanceMethod yX10_isDevice, .selects RX10 yX10_isDevice yX10_isDevice, .code yX10_isDevice cX10_isDevice 2 (some .boolean), .fieldLink RX10 132 "HubTreeModel" "many" "I", .methodLink RX10 63 yX10_in, .static yX10_in, .code yX10_in cX10_in 3 (some .boolean), .methodLink RX10 135 yX10_isTree, .instanceMethod yX10_isTree, .selects RX10 yX10_isTree yX10_isTree, .code yX10_isTree cX10_isTree 1 (some .boolean), .methodLink RX10 300 yX10_whySleep, .instanceMethod yX10_whySleep, .selects RX10 yX10_whySleep yX10_whySleep, .code yX10_whySleep cX10_whySleep 2 (some .int), .fieldLink RX10 34 "HubTreeModel" "refused" "[I"] ++ wsX100)
set_option maxRecDepth 20000 in
theorem g_X10_unplug_X10_hand_337 : GoodIn wq_X10_unplug (wsV RX10 337 RX10 yX10_hand wq_X10_hand) := goodIn_r _ [1, 2, 3, 4, 5, 6, 7, 8, 4, 9, 10, 11, 12, 13, 14, 15, 16, 17, 18, 19, 20, 21, 22, 23, 24, 25, 26, 27, 28, 29, 30, 31, 32, 33, 34, 35, 36, 37, 38, 39, 40, 41, 42, 43, 44, 45, 46, 47, 48, 49, 50, 51, 52, 53, 54] (by decide +kernel) (by decide +kernel)
theorem iq_X10_unplug_10 : ∀ w ∈ wsX100, w ∈ wq_X10_unplug := fun _ h => List.mem_cons_of_mem _ (List.mem_append_right _ h)
set_option maxHeartbeats 4000000 in
set_option maxRecDepth 100000 in
theorem c_X10_unplug (l : Launch) (dC : Nat → ClassId) (dI : Nat → Nat → Nat) (bm : Nat → Nat) (km : Nat → ClassId) (z1 : Int32) (A : Nat → Prop) : Met l yX10_unplug wq_X10_unplug ({ frames := 5, cells := 0, slots := 0, locals := 115 }) (va_Pc [.ref (bm 0), .int z1] (q_W (dC, dI) A [((bm 0), .inr (10, [.int 0, .ref (bm 1), .int 0, .int 0, .int 0, .ref (bm 2), .ref (bm 3), .int 0, .ref (bm 4), .ref (bm 5), .int 0, .ref (bm 6), .ref (bm 7), .int 0, .ref (bm 8), .ref (bm 9), .ref (bm 10), .int 0, .long 0, .ref (bm 11), .ref (bm 12), .ref (bm 13), .ref (bm 14), .int 0])), ((bm 9), .inl ((km 9), 4, .inl (fun _ => 0)))] [((km 9), .int)])) (q_wi (-1) A) 0 0 A := by
  refine Met.ofW (cc := cX10_unplug) (maxL := 2) (ret := (some .int)) (by decide) rfl ?_
  intro p e s m args below meth c s₁ B hml hv
  obtain ⟨rfl, hP, hK, hD, hA⟩ := hv
  have hx := B.exec
  have hb := B.bytes
  have hr := B.returns
  have hts := atoms_spec (ws := wq_X10_unplug) B.pre
  have hown : s.vm.findClass RX10 = some m.cls := findClass_of_methodNamed B.named
  have hlocks := B.notSynchronized
  have hS : va_S A s.heap s.heap [] := va_S.rf
  have hl := lv_entry ([.ref (bm 0), .int z1]) (n := 2) (Nat.le_of_ble_eq_true rfl)
  rw [lg_entry_eq]
  generalize (lg_sl ([.ref (bm 0), .int z1]) ++ List.replicate (2 - (lg_sl ([.ref (bm 0), .int z1])).length) Slot.unset).toArray = ls at hl ⊢
  have hl : lv_has ls 2 [(0, .ref (bm 0)), (1, .int z1)] := hl
  refine lv_aload_n hx hb dX10_unplug_0 rfl (lv_at hl 0 rfl) ?_
  refine lv_iconst (v := 1) hx hb dX10_unplug_1 (by decide) ?_
  refine lv_iload_n hx hb dX10_unplug_2 rfl (lv_at hl 1 rfl) ?_
  refine lv_iconst (v := 0) hx hb dX10_unplug_3 (by decide) ?_
  refine lv_iconst (v := 0) hx hb dX10_unplug_4 (by decide) ?_
  refine q_goiF (v := (-1)) (wr := []) (va_runV (As := [.int 1, .int z1, .int 0, .int 0]) (rest := []) ⟨hx, hb, hml, hown, hts⟩ (c_X10_hand l dC dI bm km 1 z1 0 0 (va_A [((bm 0), .inr (10, [.int 0, .ref (bm 1), .int 0, .int 0, .int 0, .ref (bm 2), .ref (bm 3), .int 0, .ref (bm 4), .ref (bm 5), .int 0, .ref (bm 6), .ref (bm 7), .int 0, .ref (bm 8), .ref (bm 9), .ref (bm 10), .int 0, .long 0, .ref (bm 11), .ref (bm 12), .ref (bm 13), .ref (bm 14), .int 0])), ((bm 9), .inl ((km 9), 4, .inl (fun _ => 0)))] s.heap.size)) (cwV 4 hts g_X10_unplug_X10_hand_337 rfl rfl rfl (by decide +kernel) ⟨Nat.le_of_ble_eq_true rfl, Nat.le_of_ble_eq_true rfl⟩) (q_preWV hK hP hD (ci := 10) (q0 := 0) rfl rfl [0, 1] (by decide) rfl rfl [0] rfl) rfl rfl hl.1 rfl (lv_room (Nat.le_of_ble_eq_true rfl)) dX10_unplug_5 ⟨Nat.le_of_ble_eq_true rfl, Nat.le_of_ble_eq_true rfl⟩) hP hD hS hA [0, 1] [] rfl rfl (by decide) (by decide) (fun H locs hP hD hS => ?_)
  have hP : va_P (dC, dI) vwCl [] H := hP
  have hD : va_D A [] := hD
  exact W.iret (v := (-1)) hx hb hr (fun t ht hW => ⟨⟨(-1), (), rfl, rfl, trivial⟩, hS.F ht⟩) hS.2.2 dX10_unplug_8

def wq_X10_tick : List Cond := .code yX10_tick cX10_tick 2 (some .int) :: ([.methodLink RX10 337 yX10_hand, .instanceMethod yX10_hand, .selects RX10 yX10_hand yX10_hand, .initialized RX10, .code yX10_hand cX10_hand 6 (some .int), .methodLink RX10 331 yX10_whyNot, .instanceMethod yX10_whyNot, .selects RX10 yX10_whyNot yX10_whyNot, .code yX10_whyNot cX10_whyNot 5 (some .int), .methodLink RX10 297 yX10_whyPlug, .instanceMethod yX10_whyPlug, .selects RX10 yX10_whyPlug yX10_whyPlug, .code yX10_whyPlug cX10_whyPlug 4 (some .int), .methodLink RX10 139 yX10_isDevice, .instanceMethod yX10_isDevice, .selects RX10 yX10_isDevice yX10_isDevice, .code yX10_isDevice cX10_isDevice 2 (some .boolean), .fieldLink RX10 132 "HubTreeModel" "many" "I", .methodLink RX10 63 yX10_in, .static yX10_in, .code yX10_in cX10_in 3 (some .boolean), .methodLink RX10 135 yX10_isTree, .instanceMethod yX10_isTree, .selects RX10 yX10_isTree yX10_isTree, .code yX10_isTree cX10_isTree 1 (some .boolean), .methodLink RX10 300 yX10_whySleep, .instanceMethod yX10_whySleep, .selects RX10 yX10_whySleep yX10_whySleep, .code yX10_whySleep cX10_whySleep 2 (some .int), .fieldLink RX10 34 "HubTreeModel" "refused" "[I"] ++ wsX100)
set_option maxRecDepth 20000 in
theorem g_X10_tick_X10_hand_337 : GoodIn wq_X10_tick (wsV RX10 337 RX10 yX10_hand wq_X10_hand) := goodIn_r _ [1, 2, 3, 4, 5, 6, 7, 8, 4, 9, 10, 11, 12, 13, 14, 15, 16, 17, 18, 19, 20, 21, 22, 23, 24, 25, 26, 27, 28, 29, 30, 31, 32, 33, 34, 35, 36, 37, 38, 39, 40, 41, 42, 43, 44, 45, 46, 47, 48, 49, 50, 51, 52, 53, 54] (by decide +kernel) (by decide +kernel)
theorem iq_X10_tick_10 : ∀ w ∈ wsX100, w ∈ wq_X10_tick := fun _ h => List.mem_cons_of_mem _ (List.mem_append_right _ h)
set_option maxHeartbeats 4000000 in
set_option maxRecDepth 100000 in
theorem c_X10_tick (l : Launch) (dC : Nat → ClassId) (dI : Nat → Nat → Nat) (bm : Nat → Nat) (km : Nat → ClassId) (z1 : Int32) (A : Nat → Prop) : Met l yX10_tick wq_X10_tick ({ frames := 5, cells := 0, slots := 0, locals := 115 }) (va_Pc [.ref (bm 0), .int z1] (q_W (dC, dI) A [((bm 0), .inr (10, [.int 0, .ref (bm 1), .int 0, .int 0, .int 0, .ref (bm 2), .ref (bm 3), .int 0, .ref (bm 4), .ref (bm 5), .int 0, .ref (bm 6), .ref (bm 7), .int 0, .ref (bm 8), .ref (bm 9), .ref (bm 10), .int 0, .long 0, .ref (bm 11), .ref (bm 12), .ref (bm 13), .ref (bm 14), .int 0])), ((bm 9), .inl ((km 9), 4, .inl (fun _ => 0)))] [((km 9), .int)])) (q_wi (-1) A) 0 0 A := by
  refine Met.ofW (cc := cX10_tick) (maxL := 2) (ret := (some .int)) (by decide) rfl ?_
  intro p e s m args below meth c s₁ B hml hv
  obtain ⟨rfl, hP, hK, hD, hA⟩ := hv
  have hx := B.exec
  have hb := B.bytes
  have hr := B.returns
  have hts := atoms_spec (ws := wq_X10_tick) B.pre
  have hown : s.vm.findClass RX10 = some m.cls := findClass_of_methodNamed B.named
  have hlocks := B.notSynchronized
  have hS : va_S A s.heap s.heap [] := va_S.rf
  have hl := lv_entry ([.ref (bm 0), .int z1]) (n := 2) (Nat.le_of_ble_eq_true rfl)
  rw [lg_entry_eq]
  generalize (lg_sl ([.ref (bm 0), .int z1]) ++ List.replicate (2 - (lg_sl ([.ref (bm 0), .int z1])).length) Slot.unset).toArray = ls at hl ⊢
  have hl : lv_has ls 2 [(0, .ref (bm 0)), (1, .int z1)] := hl
  refine lv_aload_n hx hb dX10_tick_0 rfl (lv_at hl 0 rfl) ?_
  refine lv_iconst (v := 2) hx hb dX10_tick_1 (by decide) ?_
  refine lv_iload_n hx hb dX10_tick_2 rfl (lv_at hl 1 rfl) ?_
  refine lv_iconst (v := 0) hx hb dX10_tick_3 (by decide) ?_
  refine lv_iconst (v := 0) hx hb dX10_tick_4 (by decide) ?_
  refine q_goiF (v := (-1)) (wr := []) (va_runV (As := [.int 2, .int z1, .int 0, .int 0]) (rest := []) ⟨hx, hb, hml, hown, hts⟩ (c_X10_hand l dC dI bm km 2 z1 0 0 (va_A [((bm 0), .inr (10, [.int 0, .ref (bm 1), .int 0, .int 0, .int 0, .ref (bm 2), .ref (bm 3), .int 0, .ref (bm 4), .ref (bm 5), .int 0, .ref (bm 6), .ref (bm 7), .int 0, .ref (bm 8), .ref (bm 9), .ref (bm 10), .int 0, .long 0, .ref (bm 11), .ref (bm 12), .ref (bm 13), .ref (bm 14), .int 0])), ((bm 9), .inl ((km 9), 4, .inl (fun _ => 0)))] s.heap.size)) (cwV 4 hts g_X10_tick_X10_hand_337 rfl rfl rfl (by decide +kernel) ⟨Nat.le_of_ble_eq_true rfl, Nat.le_of_ble_eq_true rfl⟩) (q_preWV hK hP hD (ci := 10) (q0 := 0) rfl rfl [0, 1] (by decide) rfl rfl [0] rfl) rfl rfl hl.1 rfl (lv_room (Nat.le_of_ble_eq_true rfl)) dX10_tick_5 ⟨Nat.le_of_ble_eq_true rfl, Nat.le_of_ble_eq_true rfl⟩) hP hD hS hA [0, 1] [] rfl rfl (by decide) (by decide) (fun H locs hP hD hS => ?_)
  have hP : va_P (dC, dI) vwCl [] H := hP
  have hD : va_D A [] := hD
  exact W.iret (v := (-1)) hx hb hr (fun t ht hW => ⟨⟨(-1), (), rfl, rfl, trivial⟩, hS.F ht⟩) hS.2.2 dX10_tick_8

def wq_X10_supply : List Cond := .code yX10_supply cX10_supply 2 (some .int) :: ([.methodLink RX10 337 yX10_hand, .instanceMethod yX10_hand, .selects RX10 yX10_hand yX10_hand, .initialized RX10, .code yX10_hand cX10_hand 6 (some .int), .methodLink RX10 331 yX10_whyNot, .instanceMethod yX10_whyNot, .selects RX10 yX10_whyNot yX10_whyNot, .code yX10_whyNot cX10_whyNot 5 (some .int), .methodLink RX10 297 yX10_whyPlug, .instanceMethod yX10_whyPlug, .selects RX10 yX10_whyPlug yX10_whyPlug, .code yX10_whyPlug cX10_whyPlug 4 (some .int), .methodLink RX10 139 yX10_isDevice, .instanceMethod yX10_isDevice, .selects RX10 yX10_isDevice yX10_isDevice, .code yX10_isDevice cX10_isDevice 2 (some .boolean), .fieldLink RX10 132 "HubTreeModel" "many" "I", .methodLink RX10 63 yX10_in, .static yX10_in, .code yX10_in cX10_in 3 (some .boolean), .methodLink RX10 135 yX10_isTree, .instanceMethod yX10_isTree, .selects RX10 yX10_isTree yX10_isTree, .code yX10_isTree cX10_isTree 1 (some .boolean), .methodLink RX10 300 yX10_whySleep, .instanceMethod yX10_whySleep, .selects RX10 yX10_whySleep yX10_whySleep, .code yX10_whySleep cX10_whySleep 2 (some .int), .fieldLink RX10 34 "HubTreeModel" "refused" "[I"] ++ wsX100)
set_option maxRecDepth 20000 in
theorem g_X10_supply_X10_hand_337 : GoodIn wq_X10_supply (wsV RX10 337 RX10 yX10_hand wq_X10_hand) := goodIn_r _ [1, 2, 3, 4, 5, 6, 7, 8, 4, 9, 10, 11, 12, 13, 14, 15, 16, 17, 18, 19, 20, 21, 22, 23, 24, 25, 26, 27, 28, 29, 30, 31, 32, 33, 34, 35, 36, 37, 38, 39, 40, 41, 42, 43, 44, 45, 46, 47, 48, 49, 50, 51, 52, 53, 54] (by decide +kernel) (by decide +kernel)
theorem iq_X10_supply_10 : ∀ w ∈ wsX100, w ∈ wq_X10_supply := fun _ h => List.mem_cons_of_mem _ (List.mem_append_right _ h)
set_option maxHeartbeats 4000000 in
set_option maxRecDepth 100000 in
theorem c_X10_supply (l : Launch) (dC : Nat → ClassId) (dI : Nat → Nat → Nat) (bm : Nat → Nat) (km : Nat → ClassId) (z1 : Int32) (A : Nat → Prop) : Met l yX10_supply wq_X10_supply ({ frames := 5, cells := 0, slots := 0, locals := 115 }) (va_Pc [.ref (bm 0), .int z1] (q_W (dC, dI) A [((bm 0), .inr (10, [.int 0, .ref (bm 1), .int 0, .int 0, .int 0, .ref (bm 2), .ref (bm 3), .int 0, .ref (bm 4), .ref (bm 5), .int 0, .ref (bm 6), .ref (bm 7), .int 0, .ref (bm 8), .ref (bm 9), .ref (bm 10), .int 0, .long 0, .ref (bm 11), .ref (bm 12), .ref (bm 13), .ref (bm 14), .int 0])), ((bm 9), .inl ((km 9), 4, .inl (fun _ => 0)))] [((km 9), .int)])) (q_wi (-1) A) 0 0 A := by
  refine Met.ofW (cc := cX10_supply) (maxL := 2) (ret := (some .int)) (by decide) rfl ?_
  intro p e s m args below meth c s₁ B hml hv
  obtain ⟨rfl, hP, hK, hD, hA⟩ := hv
  have hx := B.exec
  have hb := B.bytes
  have hr := B.returns
  have hts := atoms_spec (ws := wq_X10_supply) B.pre
  have hown : s.vm.findClass RX10 = some m.cls := findClass_of_methodNamed B.named
  have hlocks := B.notSynchronized
  have hS : va_S A s.heap s.heap [] := va_S.rf
  have hl := lv_entry ([.ref (bm 0), .int z1]) (n := 2) (Nat.le_of_ble_eq_true rfl)
  rw [lg_entry_eq]
  generalize (lg_sl ([.ref (bm 0), .int z1]) ++ List.replicate (2 - (lg_sl ([.ref (bm 0), .int z1])).length) Slot.unset).toArray = ls at hl ⊢
  have hl : lv_has ls 2 [(0, .ref (bm 0)), (1, .int z1)] := hl
  refine lv_aload_n hx hb dX10_supply_0 rfl (lv_at hl 0 rfl) ?_
  refine lv_iconst (v := 3) hx hb dX10_supply_1 (by decide) ?_
  refine lv_iload_n hx hb dX10_supply_2 rfl (lv_at hl 1 rfl) ?_
  refine lv_iconst (v := 0) hx hb dX10_supply_3 (by decide) ?_
  refine lv_iconst (v := 0) hx hb dX10_supply_4 (by decide) ?_
  refine q_goiF (v := (-1)) (wr := []) (va_runV (As := [.int 3, .int z1, .int 0, .int 0]) (rest := []) ⟨hx, hb, hml, hown, hts⟩ (c_X10_hand l dC dI bm km 3 z1 0 0 (va_A [((bm 0), .inr (10, [.int 0, .ref (bm 1), .int 0, .int 0, .int 0, .ref (bm 2), .ref (bm 3), .int 0, .ref (bm 4), .ref (bm 5), .int 0, .ref (bm 6), .ref (bm 7), .int 0, .ref (bm 8), .ref (bm 9), .ref (bm 10), .int 0, .long 0, .ref (bm 11), .ref (bm 12), .ref (bm 13), .ref (bm 14), .int 0])), ((bm 9), .inl ((km 9), 4, .inl (fun _ => 0)))] s.heap.size)) (cwV 4 hts g_X10_supply_X10_hand_337 rfl rfl rfl (by decide +kernel) ⟨Nat.le_of_ble_eq_true rfl, Nat.le_of_ble_eq_true rfl⟩) (q_preWV hK hP hD (ci := 10) (q0 := 0) rfl rfl [0, 1] (by decide) rfl rfl [0] rfl) rfl rfl hl.1 rfl (lv_room (Nat.le_of_ble_eq_true rfl)) dX10_supply_5 ⟨Nat.le_of_ble_eq_true rfl, Nat.le_of_ble_eq_true rfl⟩) hP hD hS hA [0, 1] [] rfl rfl (by decide) (by decide) (fun H locs hP hD hS => ?_)
  have hP : va_P (dC, dI) vwCl [] H := hP
  have hD : va_D A [] := hD
  exact W.iret (v := (-1)) hx hb hr (fun t ht hW => ⟨⟨(-1), (), rfl, rfl, trivial⟩, hS.F ht⟩) hS.2.2 dX10_supply_8

def wq_X10_error : List Cond := .code yX10_error cX10_error 3 (some .int) :: ([.methodLink RX10 337 yX10_hand, .instanceMethod yX10_hand, .selects RX10 yX10_hand yX10_hand, .initialized RX10, .code yX10_hand cX10_hand 6 (some .int), .methodLink RX10 331 yX10_whyNot, .instanceMethod yX10_whyNot, .selects RX10 yX10_whyNot yX10_whyNot, .code yX10_whyNot cX10_whyNot 5 (some .int), .methodLink RX10 297 yX10_whyPlug, .instanceMethod yX10_whyPlug, .selects RX10 yX10_whyPlug yX10_whyPlug, .code yX10_whyPlug cX10_whyPlug 4 (some .int), .methodLink RX10 139 yX10_isDevice, .instanceMethod yX10_isDevice, .selects RX10 yX10_isDevice yX10_isDevice, .code yX10_isDevice cX10_isDevice 2 (some .boolean), .fieldLink RX10 132 "HubTreeModel" "many" "I", .methodLink RX10 63 yX10_in, .static yX10_in, .code yX10_in cX10_in 3 (some .boolean), .methodLink RX10 135 yX10_isTree, .instanceMethod yX10_isTree, .selects RX10 yX10_isTree yX10_isTree, .code yX10_isTree cX10_isTree 1 (some .boolean), .methodLink RX10 300 yX10_whySleep, .instanceMethod yX10_whySleep, .selects RX10 yX10_whySleep yX10_whySleep, .code yX10_whySleep cX10_whySleep 2 (some .int), .fieldLink RX10 34 "HubTreeModel" "refused" "[I"] ++ wsX100)
set_option maxRecDepth 20000 in
theorem g_X10_error_X10_hand_337 : GoodIn wq_X10_error (wsV RX10 337 RX10 yX10_hand wq_X10_hand) := goodIn_r _ [1, 2, 3, 4, 5, 6, 7, 8, 4, 9, 10, 11, 12, 13, 14, 15, 16, 17, 18, 19, 20, 21, 22, 23, 24, 25, 26, 27, 28, 29, 30, 31, 32, 33, 34, 35, 36, 37, 38, 39, 40, 41, 42, 43, 44, 45, 46, 47, 48, 49, 50, 51, 52, 53, 54] (by decide +kernel) (by decide +kernel)
theorem iq_X10_error_10 : ∀ w ∈ wsX100, w ∈ wq_X10_error := fun _ h => List.mem_cons_of_mem _ (List.mem_append_right _ h)
set_option maxHeartbeats 4000000 in
set_option maxRecDepth 100000 in
theorem c_X10_error (l : Launch) (dC : Nat → ClassId) (dI : Nat → Nat → Nat) (bm : Nat → Nat) (km : Nat → ClassId) (z1 : Int32) (z2 : Int32) (A : Nat → Prop) : Met l yX10_error wq_X10_error ({ frames := 5, cells := 0, slots := 0, locals := 115 }) (va_Pc [.ref (bm 0), .int z1, .int z2] (q_W (dC, dI) A [((bm 0), .inr (10, [.int 0, .ref (bm 1), .int 0, .int 0, .int 0, .ref (bm 2), .ref (bm 3), .int 0, .ref (bm 4), .ref (bm 5), .int 0, .ref (bm 6), .ref (bm 7), .int 0, .ref (bm 8), .ref (bm 9), .ref (bm 10), .int 0, .long 0, .ref (bm 11), .ref (bm 12), .ref (bm 13), .ref (bm 14), .int 0])), ((bm 9), .inl ((km 9), 4, .inl (fun _ => 0)))] [((km 9), .int)])) (q_wi (-1) A) 0 0 A := by
  refine Met.ofW (cc := cX10_error) (maxL := 3) (ret := (some .int)) (by decide) rfl ?_
  intro p e s m args below meth c s₁ B hml hv
  obtain ⟨rfl, hP, hK, hD, hA⟩ := hv
  have hx := B.exec
  have hb := B.bytes
  have hr := B.returns
  have hts := atoms_spec (ws := wq_X10_error) B.pre
  have hown : s.vm.findClass RX10 = some m.cls := findClass_of_methodNamed B.named
  have hlocks := B.notSynchronized
  have hS : va_S A s.heap s.heap [] := va_S.rf
  have hl := lv_entry ([.ref (bm 0), .int z1, .int z2]) (n := 3) (Nat.le_of_ble_eq_true rfl)
  rw [lg_entry_eq]
  generalize (lg_sl ([.ref (bm 0), .int z1, .int z2]) ++ List.replicate (3 - (lg_sl ([.ref (bm 0), .int z1, .int z2])).length) Slot.unset).toArray = ls at hl ⊢
  have hl : lv_has ls 3 [(0, .ref (bm 0)), (1, .int z1), (2, .int z2)] := hl
  refine lv_aload_n hx hb dX10_error_0 rfl (lv_at hl 0 rfl) ?_
  refine lv_iconst (v := 4) hx hb dX10_error_1 (by decide) ?_
  refine lv_iload_n hx hb dX10_error_2 rfl (lv_at hl 1 rfl) ?_
  refine lv_iload_n hx hb dX10_error_3 rfl (lv_at hl 2 rfl) ?_
  refine lv_iconst (v := 0) hx hb dX10_error_4 (by decide) ?_
  refine q_goiF (v := (-1)) (wr := []) (va_runV (As := [.int 4, .int z1, .int z2, .int 0]) (rest := []) ⟨hx, hb, hml, hown, hts⟩ (c_X10_hand l dC dI bm km 4 z1 z2 0 (va_A [((bm 0), .inr (10, [.int 0, .ref (bm 1), .int 0, .int 0, .int 0, .ref (bm 2), .ref (bm 3), .int 0, .ref (bm 4), .ref (bm 5), .int 0, .ref (bm 6), .ref (bm 7), .int 0, .ref (bm 8), .ref (bm 9), .ref (bm 10), .int 0, .long 0, .ref (bm 11), .ref (bm 12), .ref (bm 13), .ref (bm 14), .int 0])), ((bm 9), .inl ((km 9), 4, .inl (fun _ => 0)))] s.heap.size)) (cwV 4 hts g_X10_error_X10_hand_337 rfl rfl rfl (by decide +kernel) ⟨Nat.le_of_ble_eq_true rfl, Nat.le_of_ble_eq_true rfl⟩) (q_preWV hK hP hD (ci := 10) (q0 := 0) rfl rfl [0, 1] (by decide) rfl rfl [0] rfl) rfl rfl hl.1 rfl (lv_room (Nat.le_of_ble_eq_true rfl)) dX10_error_5 ⟨Nat.le_of_ble_eq_true rfl, Nat.le_of_ble_eq_true rfl⟩) hP hD hS hA [0, 1] [] rfl rfl (by decide) (by decide) (fun H locs hP hD hS => ?_)
  have hP : va_P (dC, dI) vwCl [] H := hP
  have hD : va_D A [] := hD
  exact W.iret (v := (-1)) hx hb hr (fun t ht hW => ⟨⟨(-1), (), rfl, rfl, trivial⟩, hS.F ht⟩) hS.2.2 dX10_error_8

def wq_X10_again : List Cond := .code yX10_again cX10_again 2 (some .int) :: ([.methodLink RX10 337 yX10_hand, .instanceMethod yX10_hand, .selects RX10 yX10_hand yX10_hand, .initialized RX10, .code yX10_hand cX10_hand 6 (some .int), .methodLink RX10 331 yX10_whyNot, .instanceMethod yX10_whyNot, .selects RX10 yX10_whyNot yX10_whyNot, .code yX10_whyNot cX10_whyNot 5 (some .int), .methodLink RX10 297 yX10_whyPlug, .instanceMethod yX10_whyPlug, .selects RX10 yX10_whyPlug yX10_whyPlug, .code yX10_whyPlug cX10_whyPlug 4 (some .int), .methodLink RX10 139 yX10_isDevice, .instanceMethod yX10_isDevice, .selects RX10 yX10_isDevice yX10_isDevice, .code yX10_isDevice cX10_isDevice 2 (some .boolean), .fieldLink RX10 132 "HubTreeModel" "many" "I", .methodLink RX10 63 yX10_in, .static yX10_in, .code yX10_in cX10_in 3 (some .boolean), .methodLink RX10 135 yX10_isTree, .instanceMethod yX10_isTree, .selects RX10 yX10_isTree yX10_isTree, .code yX10_isTree cX10_isTree 1 (some .boolean), .methodLink RX10 300 yX10_whySleep, .instanceMethod yX10_whySleep, .selects RX10 yX10_whySleep yX10_whySleep, .code yX10_whySleep cX10_whySleep 2 (some .int), .fieldLink RX10 34 "HubTreeModel" "refused" "[I"] ++ wsX100)
set_option maxRecDepth 20000 in
theorem g_X10_again_X10_hand_337 : GoodIn wq_X10_again (wsV RX10 337 RX10 yX10_hand wq_X10_hand) := goodIn_r _ [1, 2, 3, 4, 5, 6, 7, 8, 4, 9, 10, 11, 12, 13, 14, 15, 16, 17, 18, 19, 20, 21, 22, 23, 24, 25, 26, 27, 28, 29, 30, 31, 32, 33, 34, 35, 36, 37, 38, 39, 40, 41, 42, 43, 44, 45, 46, 47, 48, 49, 50, 51, 52, 53, 54] (by decide +kernel) (by decide +kernel)
theorem iq_X10_again_10 : ∀ w ∈ wsX100, w ∈ wq_X10_again := fun _ h => List.mem_cons_of_mem _ (List.mem_append_right _ h)
set_option maxHeartbeats 4000000 in
set_option maxRecDepth 100000 in
theorem c_X10_again (l : Launch) (dC : Nat → ClassId) (dI : Nat → Nat → Nat) (bm : Nat → Nat) (km : Nat → ClassId) (z1 : Int32) (A : Nat → Prop) : Met l yX10_again wq_X10_again ({ frames := 5, cells := 0, slots := 0, locals := 115 }) (va_Pc [.ref (bm 0), .int z1] (q_W (dC, dI) A [((bm 0), .inr (10, [.int 0, .ref (bm 1), .int 0, .int 0, .int 0, .ref (bm 2), .ref (bm 3), .int 0, .ref (bm 4), .ref (bm 5), .int 0, .ref (bm 6), .ref (bm 7), .int 0, .ref (bm 8), .ref (bm 9), .ref (bm 10), .int 0, .long 0, .ref (bm 11), .ref (bm 12), .ref (bm 13), .ref (bm 14), .int 0])), ((bm 9), .inl ((km 9), 4, .inl (fun _ => 0)))] [((km 9), .int)])) (q_wi (-1) A) 0 0 A := by
  refine Met.ofW (cc := cX10_again) (maxL := 2) (ret := (some .int)) (by decide) rfl ?_
  intro p e s m args below meth c s₁ B hml hv
  obtain ⟨rfl, hP, hK, hD, hA⟩ := hv
  have hx := B.exec
  have hb := B.bytes
  have hr := B.returns
  have hts := atoms_spec (ws := wq_X10_again) B.pre
  have hown : s.vm.findClass RX10 = some m.cls := findClass_of_methodNamed B.named
  have hlocks := B.notSynchronized
  have hS : va_S A s.heap s.heap [] := va_S.rf
  have hl := lv_entry ([.ref (bm 0), .int z1]) (n := 2) (Nat.le_of_ble_eq_true rfl)
  rw [lg_entry_eq]
  generalize (lg_sl ([.ref (bm 0), .int z1]) ++ List.replicate (2 - (lg_sl ([.ref (bm 0), .int z1])).length) Slot.unset).toArray = ls at hl ⊢
  have hl : lv_has ls 2 [(0, .ref (bm 0)), (1, .int z1)] := hl
  refine lv_aload_n hx hb dX10_again_0 rfl (lv_at hl 0 rfl) ?_
  refine lv_iconst (v := 5) hx hb dX10_again_1 (by decide) ?_
  refine lv_iload_n hx hb dX10_again_2 rfl (lv_at hl 1 rfl) ?_
  refine lv_iconst (v := 0) hx hb dX10_again_3 (by decide) ?_
  refine lv_iconst (v := 0) hx hb dX10_again_4 (by decide) ?_
  refine q_goiF (v := (-1)) (wr := []) (va_runV (As := [.int 5, .int z1, .int 0, .int 0]) (rest := []) ⟨hx, hb, hml, hown, hts⟩ (c_X10_hand l dC dI bm km 5 z1 0 0 (va_A [((bm 0), .inr (10, [.int 0, .ref (bm 1), .int 0, .int 0, .int 0, .ref (bm 2), .ref (bm 3), .int 0, .ref (bm 4), .ref (bm 5), .int 0, .ref (bm 6), .ref (bm 7), .int 0, .ref (bm 8), .ref (bm 9), .ref (bm 10), .int 0, .long 0, .ref (bm 11), .ref (bm 12), .ref (bm 13), .ref (bm 14), .int 0])), ((bm 9), .inl ((km 9), 4, .inl (fun _ => 0)))] s.heap.size)) (cwV 4 hts g_X10_again_X10_hand_337 rfl rfl rfl (by decide +kernel) ⟨Nat.le_of_ble_eq_true rfl, Nat.le_of_ble_eq_true rfl⟩) (q_preWV hK hP hD (ci := 10) (q0 := 0) rfl rfl [0, 1] (by decide) rfl rfl [0] rfl) rfl rfl hl.1 rfl (lv_room (Nat.le_of_ble_eq_true rfl)) dX10_again_5 ⟨Nat.le_of_ble_eq_true rfl, Nat.le_of_ble_eq_true rfl⟩) hP hD hS hA [0, 1] [] rfl rfl (by decide) (by decide) (fun H locs hP hD hS => ?_)
  have hP : va_P (dC, dI) vwCl [] H := hP
  have hD : va_D A [] := hD
  exact W.iret (v := (-1)) hx hb hr (fun t ht hW => ⟨⟨(-1), (), rfl, rfl, trivial⟩, hS.F ht⟩) hS.2.2 dX10_again_8

def wq_X10_sleep : List Cond := .code yX10_sleep cX10_sleep 2 (some .int) :: ([.methodLink RX10 337 yX10_hand, .instanceMethod yX10_hand, .selects RX10 yX10_hand yX10_hand, .initialized RX10, .code yX10_hand cX10_hand 6 (some .int), .methodLink RX10 331 yX10_whyNot, .instanceMethod yX10_whyNot, .selects RX10 yX10_whyNot yX10_whyNot, .code yX10_whyNot cX10_whyNot 5 (some .int), .methodLink RX10 297 yX10_whyPlug, .instanceMethod yX10_whyPlug, .selects RX10 yX10_whyPlug yX10_whyPlug, .code yX10_whyPlug cX10_whyPlug 4 (some .int), .methodLink RX10 139 yX10_isDevice, .instanceMethod yX10_isDevice, .selects RX10 yX10_isDevice yX10_isDevice, .code yX10_isDevice cX10_isDevice 2 (some .boolean), .fieldLink RX10 132 "HubTreeModel" "many" "I", .methodLink RX10 63 yX10_in, .static yX10_in, .code yX10_in cX10_in 3 (some .boolean), .methodLink RX10 135 yX10_isTree, .instanceMethod yX10_isTree, .selects RX10 yX10_isTree yX10_isTree, .code yX10_isTree cX10_isTree 1 (some .boolean), .methodLink RX10 300 yX10_whySleep, .instanceMethod yX10_whySleep, .selects RX10 yX10_whySleep yX10_whySleep, .code yX10_whySleep cX10_whySleep 2 (some .int), .fieldLink RX10 34 "HubTreeModel" "refused" "[I"] ++ wsX100)
set_option maxRecDepth 20000 in
theorem g_X10_sleep_X10_hand_337 : GoodIn wq_X10_sleep (wsV RX10 337 RX10 yX10_hand wq_X10_hand) := goodIn_r _ [1, 2, 3, 4, 5, 6, 7, 8, 4, 9, 10, 11, 12, 13, 14, 15, 16, 17, 18, 19, 20, 21, 22, 23, 24, 25, 26, 27, 28, 29, 30, 31, 32, 33, 34, 35, 36, 37, 38, 39, 40, 41, 42, 43, 44, 45, 46, 47, 48, 49, 50, 51, 52, 53, 54] (by decide +kernel) (by decide +kernel)
theorem iq_X10_sleep_10 : ∀ w ∈ wsX100, w ∈ wq_X10_sleep := fun _ h => List.mem_cons_of_mem _ (List.mem_append_right _ h)
set_option maxHeartbeats 4000000 in
set_option maxRecDepth 100000 in
theorem c_X10_sleep (l : Launch) (dC : Nat → ClassId) (dI : Nat → Nat → Nat) (bm : Nat → Nat) (km : Nat → ClassId) (z1 : Int32) (A : Nat → Prop) : Met l yX10_sleep wq_X10_sleep ({ frames := 5, cells := 0, slots := 0, locals := 115 }) (va_Pc [.ref (bm 0), .int z1] (q_W (dC, dI) A [((bm 0), .inr (10, [.int 0, .ref (bm 1), .int 0, .int 0, .int 0, .ref (bm 2), .ref (bm 3), .int 0, .ref (bm 4), .ref (bm 5), .int 0, .ref (bm 6), .ref (bm 7), .int 0, .ref (bm 8), .ref (bm 9), .ref (bm 10), .int 0, .long 0, .ref (bm 11), .ref (bm 12), .ref (bm 13), .ref (bm 14), .int 0])), ((bm 9), .inl ((km 9), 4, .inl (fun _ => 0)))] [((km 9), .int)])) (q_wi (-1) A) 0 0 A := by
  refine Met.ofW (cc := cX10_sleep) (maxL := 2) (ret := (some .int)) (by decide) rfl ?_
  intro p e s m args below meth c s₁ B hml hv
  obtain ⟨rfl, hP, hK, hD, hA⟩ := hv
  have hx := B.exec
  have hb := B.bytes
  have hr := B.returns
  have hts := atoms_spec (ws := wq_X10_sleep) B.pre
  have hown : s.vm.findClass RX10 = some m.cls := findClass_of_methodNamed B.named
  have hlocks := B.notSynchronized
  have hS : va_S A s.heap s.heap [] := va_S.rf
  have hl := lv_entry ([.ref (bm 0), .int z1]) (n := 2) (Nat.le_of_ble_eq_true rfl)
  rw [lg_entry_eq]
  generalize (lg_sl ([.ref (bm 0), .int z1]) ++ List.replicate (2 - (lg_sl ([.ref (bm 0), .int z1])).length) Slot.unset).toArray = ls at hl ⊢
  have hl : lv_has ls 2 [(0, .ref (bm 0)), (1, .int z1)] := hl
  refine lv_aload_n hx hb dX10_sleep_0 rfl (lv_at hl 0 rfl) ?_
  refine lv_bipush (v := 6) hx hb dX10_sleep_1 (by decide) ?_
  refine lv_iload_n hx hb dX10_sleep_3 rfl (lv_at hl 1 rfl) ?_
  refine lv_iconst (v := 0) hx hb dX10_sleep_4 (by decide) ?_
  refine lv_iconst (v := 0) hx hb dX10_sleep_5 (by decide) ?_
  refine q_goiF (v := (-1)) (wr := []) (va_runV (As := [.int 6, .int z1, .int 0, .int 0]) (rest := []) ⟨hx, hb, hml, hown, hts⟩ (c_X10_hand l dC dI bm km 6 z1 0 0 (va_A [((bm 0), .inr (10, [.int 0, .ref (bm 1), .int 0, .int 0, .int 0, .ref (bm 2), .ref (bm 3), .int 0, .ref (bm 4), .ref (bm 5), .int 0, .ref (bm 6), .ref (bm 7), .int 0, .ref (bm 8), .ref (bm 9), .ref (bm 10), .int 0, .long 0, .ref (bm 11), .ref (bm 12), .ref (bm 13), .ref (bm 14), .int 0])), ((bm 9), .inl ((km 9), 4, .inl (fun _ => 0)))] s.heap.size)) (cwV 4 hts g_X10_sleep_X10_hand_337 rfl rfl rfl (by decide +kernel) ⟨Nat.le_of_ble_eq_true rfl, Nat.le_of_ble_eq_true rfl⟩) (q_preWV hK hP hD (ci := 10) (q0 := 0) rfl rfl [0, 1] (by decide) rfl rfl [0] rfl) rfl rfl hl.1 rfl (lv_room (Nat.le_of_ble_eq_true rfl)) dX10_sleep_6 ⟨Nat.le_of_ble_eq_true rfl, Nat.le_of_ble_eq_true rfl⟩) hP hD hS hA [0, 1] [] rfl rfl (by decide) (by decide) (fun H locs hP hD hS => ?_)
  have hP : va_P (dC, dI) vwCl [] H := hP
  have hD : va_D A [] := hD
  exact W.iret (v := (-1)) hx hb hr (fun t ht hW => ⟨⟨(-1), (), rfl, rfl, trivial⟩, hS.F ht⟩) hS.2.2 dX10_sleep_9
