theorem dX0_clear_0 : decode cX0_clear 0 = .ok (.aload_n 0, 1) := by decide +kernel
theorem dX0_clear_1 : decode cX0_clear 1 = .ok (.iconst 0, 1) := by decide +kernel
theorem dX0_clear_2 : decode cX0_clear 2 = .ok (.putfield 9, 3) := by decide +kernel
theorem dX0_clear_5 : decode cX0_clear 5 = .ok (.aload_n 0, 1) := by decide +kernel
theorem dX0_clear_6 : decode cX0_clear 6 = .ok (.iconst 0, 1) := by decide +kernel
theorem dX0_clear_7 : decode cX0_clear 7 = .ok (.putfield 15, 3) := by decide +kernel
theorem dX0_clear_10 : decode cX0_clear 10 = .ok (.return_, 1) := by decide +kernel
theorem dX0_putByte_0 : decode cX0_putByte 0 = .ok (.aload_n 0, 1) := by decide +kernel
theorem dX0_putByte_1 : decode cX0_putByte 1 = .ok (.iload_n 1, 1) := by decide +kernel
theorem dX0_putByte_2 : decode cX0_putByte 2 = .ok (.ifCond .ne 15, 3) := by decide +kernel
theorem dX0_putByte_5 : decode cX0_putByte 5 = .ok (.aload_n 0, 1) := by decide +kernel
theorem dX0_putByte_6 : decode cX0_putByte 6 = .ok (.getfield 9, 3) := by decide +kernel
theorem dX0_putByte_9 : decode cX0_putByte 9 = .ok (.ldc 18, 2) := by decide +kernel
theorem dX0_putByte_11 : decode cX0_putByte 11 = .ok (.iand, 1) := by decide +kernel
theorem dX0_putByte_12 : decode cX0_putByte 12 = .ok (.iload_n 2, 1) := by decide +kernel
theorem dX0_putByte_13 : decode cX0_putByte 13 = .ok (.ior, 1) := by decide +kernel
theorem dX0_putByte_14 : decode cX0_putByte 14 = .ok (.goto 16, 3) := by decide +kernel
theorem dX0_putByte_17 : decode cX0_putByte 17 = .ok (.aload_n 0, 1) := by decide +kernel
theorem dX0_putByte_18 : decode cX0_putByte 18 = .ok (.getfield 9, 3) := by decide +kernel
theorem dX0_putByte_21 : decode cX0_putByte 21 = .ok (.sipush 255, 3) := by decide +kernel
theorem dX0_putByte_24 : decode cX0_putByte 24 = .ok (.iand, 1) := by decide +kernel
theorem dX0_putByte_25 : decode cX0_putByte 25 = .ok (.iload_n 2, 1) := by decide +kernel
theorem dX0_putByte_26 : decode cX0_putByte 26 = .ok (.bipush 8, 2) := by decide +kernel
theorem dX0_putByte_28 : decode cX0_putByte 28 = .ok (.ishl, 1) := by decide +kernel
theorem dX0_putByte_29 : decode cX0_putByte 29 = .ok (.ior, 1) := by decide +kernel
theorem dX0_putByte_30 : decode cX0_putByte 30 = .ok (.putfield 9, 3) := by decide +kernel
theorem dX0_putByte_33 : decode cX0_putByte 33 = .ok (.aload_n 0, 1) := by decide +kernel
theorem dX0_putByte_34 : decode cX0_putByte 34 = .ok (.iconst 0, 1) := by decide +kernel
theorem dX0_putByte_35 : decode cX0_putByte 35 = .ok (.putfield 15, 3) := by decide +kernel
theorem dX0_putByte_38 : decode cX0_putByte 38 = .ok (.return_, 1) := by decide +kernel
theorem dX0_tellByte_0 : decode cX0_tellByte 0 = .ok (.iload_n 1, 1) := by decide +kernel
theorem dX0_tellByte_1 : decode cX0_tellByte 1 = .ok (.ifCond .ne 14, 3) := by decide +kernel
theorem dX0_tellByte_4 : decode cX0_tellByte 4 = .ok (.aload_n 0, 1) := by decide +kernel
theorem dX0_tellByte_5 : decode cX0_tellByte 5 = .ok (.getfield 9, 3) := by decide +kernel
theorem dX0_tellByte_8 : decode cX0_tellByte 8 = .ok (.sipush 255, 3) := by decide +kernel
theorem dX0_tellByte_11 : decode cX0_tellByte 11 = .ok (.iand, 1) := by decide +kernel
theorem dX0_tellByte_12 : decode cX0_tellByte 12 = .ok (.goto 14, 3) := by decide +kernel
theorem dX0_tellByte_15 : decode cX0_tellByte 15 = .ok (.aload_n 0, 1) := by decide +kernel
theorem dX0_tellByte_16 : decode cX0_tellByte 16 = .ok (.getfield 9, 3) := by decide +kernel
theorem dX0_tellByte_19 : decode cX0_tellByte 19 = .ok (.bipush 8, 2) := by decide +kernel
theorem dX0_tellByte_21 : decode cX0_tellByte 21 = .ok (.ishr, 1) := by decide +kernel
theorem dX0_tellByte_22 : decode cX0_tellByte 22 = .ok (.sipush 255, 3) := by decide +kernel
theorem dX0_tellByte_25 : decode cX0_tellByte 25 = .ok (.iand, 1) := by decide +kernel
theorem dX0_tellByte_26 : decode cX0_tellByte 26 = .ok (.ireturn, 1) := by decide +kernel
theorem dX0_pass_0 : decode cX0_pass 0 = .ok (.aload_n 0, 1) := by decide +kernel
theorem dX0_pass_1 : decode cX0_pass 1 = .ok (.getfield 9, 3) := by decide +kernel
theorem dX0_pass_4 : decode cX0_pass 4 = .ok (.ifCond .gt 5, 3) := by decide +kernel
theorem dX0_pass_7 : decode cX0_pass 7 = .ok (.iconst 0, 1) := by decide +kernel
theorem dX0_pass_8 : decode cX0_pass 8 = .ok (.ireturn, 1) := by decide +kernel
theorem dX0_pass_9 : decode cX0_pass 9 = .ok (.aload_n 0, 1) := by decide +kernel
theorem dX0_pass_10 : decode cX0_pass 10 = .ok (.getfield 15, 3) := by decide +kernel
theorem dX0_pass_13 : decode cX0_pass 13 = .ok (.iload_n 1, 1) := by decide +kernel
theorem dX0_pass_14 : decode cX0_pass 14 = .ok (.iadd, 1) := by decide +kernel
theorem dX0_pass_15 : decode cX0_pass 15 = .ok (.istore_n 2, 1) := by decide +kernel
theorem dX0_pass_16 : decode cX0_pass 16 = .ok (.aload_n 0, 1) := by decide +kernel
theorem dX0_pass_17 : decode cX0_pass 17 = .ok (.iload_n 2, 1) := by decide +kernel
theorem dX0_pass_18 : decode cX0_pass 18 = .ok (.aload_n 0, 1) := by decide +kernel
theorem dX0_pass_19 : decode cX0_pass 19 = .ok (.getfield 9, 3) := by decide +kernel
theorem dX0_pass_22 : decode cX0_pass 22 = .ok (.irem, 1) := by decide +kernel
theorem dX0_pass_23 : decode cX0_pass 23 = .ok (.putfield 15, 3) := by decide +kernel
theorem dX0_pass_26 : decode cX0_pass 26 = .ok (.iload_n 2, 1) := by decide +kernel
theorem dX0_pass_27 : decode cX0_pass 27 = .ok (.aload_n 0, 1) := by decide +kernel
theorem dX0_pass_28 : decode cX0_pass 28 = .ok (.getfield 9, 3) := by decide +kernel
theorem dX0_pass_31 : decode cX0_pass 31 = .ok (.idiv, 1) := by decide +kernel
theorem dX0_pass_32 : decode cX0_pass 32 = .ok (.ireturn, 1) := by decide +kernel
theorem dX3_clear_0 : decode cX3_clear 0 = .ok (.aload_n 0, 1) := by decide +kernel
theorem dX3_clear_1 : decode cX3_clear 1 = .ok (.iconst 0, 1) := by decide +kernel
theorem dX3_clear_2 : decode cX3_clear 2 = .ok (.putfield 7, 3) := by decide +kernel
theorem dX3_clear_5 : decode cX3_clear 5 = .ok (.aload_n 0, 1) := by decide +kernel
theorem dX3_clear_6 : decode cX3_clear 6 = .ok (.iconst 0, 1) := by decide +kernel
theorem dX3_clear_7 : decode cX3_clear 7 = .ok (.putfield 13, 3) := by decide +kernel
theorem dX3_clear_10 : decode cX3_clear 10 = .ok (.aload_n 0, 1) := by decide +kernel
theorem dX3_clear_11 : decode cX3_clear 11 = .ok (.iconst 0, 1) := by decide +kernel
theorem dX3_clear_12 : decode cX3_clear 12 = .ok (.putfield 16, 3) := by decide +kernel
theorem dX3_clear_15 : decode cX3_clear 15 = .ok (.aload_n 0, 1) := by decide +kernel
theorem dX3_clear_16 : decode cX3_clear 16 = .ok (.iconst 0, 1) := by decide +kernel
theorem dX3_clear_17 : decode cX3_clear 17 = .ok (.putfield 19, 3) := by decide +kernel
theorem dX3_clear_20 : decode cX3_clear 20 = .ok (.return_, 1) := by decide +kernel
theorem dX3_outputs_0 : decode cX3_outputs 0 = .ok (.aload_n 0, 1) := by decide +kernel
theorem dX3_outputs_1 : decode cX3_outputs 1 = .ok (.getfield 7, 3) := by decide +kernel
theorem dX3_outputs_4 : decode cX3_outputs 4 = .ok (.ireturn, 1) := by decide +kernel
theorem dX3_loops_0 : decode cX3_loops 0 = .ok (.aload_n 0, 1) := by decide +kernel
theorem dX3_loops_1 : decode cX3_loops 1 = .ok (.getfield 7, 3) := by decide +kernel
theorem dX3_loops_4 : decode cX3_loops 4 = .ok (.bipush 16, 2) := by decide +kernel
theorem dX3_loops_6 : decode cX3_loops 6 = .ok (.iand, 1) := by decide +kernel
theorem dX3_loops_7 : decode cX3_loops 7 = .ok (.ifCond .eq 7, 3) := by decide +kernel
theorem dX3_loops_10 : decode cX3_loops 10 = .ok (.iconst 1, 1) := by decide +kernel
theorem dX3_loops_11 : decode cX3_loops 11 = .ok (.goto 4, 3) := by decide +kernel
theorem dX3_loops_14 : decode cX3_loops 14 = .ok (.iconst 0, 1) := by decide +kernel
theorem dX3_loops_15 : decode cX3_loops 15 = .ok (.ireturn, 1) := by decide +kernel
theorem dX3_hasChanged_0 : decode cX3_hasChanged 0 = .ok (.aload_n 0, 1) := by decide +kernel
theorem dX3_hasChanged_1 : decode cX3_hasChanged 1 = .ok (.getfield 19, 3) := by decide +kernel
theorem dX3_hasChanged_4 : decode cX3_hasChanged 4 = .ok (.ifCond .eq 7, 3) := by decide +kernel
theorem dX3_hasChanged_7 : decode cX3_hasChanged 7 = .ok (.iconst 1, 1) := by decide +kernel
theorem dX3_hasChanged_8 : decode cX3_hasChanged 8 = .ok (.goto 4, 3) := by decide +kernel
theorem dX3_hasChanged_11 : decode cX3_hasChanged 11 = .ok (.iconst 0, 1) := by decide +kernel
theorem dX3_hasChanged_12 : decode cX3_hasChanged 12 = .ok (.ireturn, 1) := by decide +kernel
theorem dX3_looped_0 : decode cX3_looped 0 = .ok (.aload_n 0, 1) := by decide +kernel
theorem dX3_looped_1 : decode cX3_looped 1 = .ok (.getfield 7, 3) := by decide +kernel
theorem dX3_looped_4 : decode cX3_looped 4 = .ok (.iconst 1, 1) := by decide +kernel
theorem dX3_looped_5 : decode cX3_looped 5 = .ok (.ishr, 1) := by decide +kernel
theorem dX3_looped_6 : decode cX3_looped 6 = .ok (.iconst 1, 1) := by decide +kernel
theorem dX3_looped_7 : decode cX3_looped 7 = .ok (.iand, 1) := by decide +kernel
theorem dX3_looped_8 : decode cX3_looped 8 = .ok (.aload_n 0, 1) := by decide +kernel
theorem dX3_looped_9 : decode cX3_looped 9 = .ok (.getfield 7, 3) := by decide +kernel
theorem dX3_looped_12 : decode cX3_looped 12 = .ok (.iconst 1, 1) := by decide +kernel
theorem dX3_looped_13 : decode cX3_looped 13 = .ok (.ishl, 1) := by decide +kernel
theorem dX3_looped_14 : decode cX3_looped 14 = .ok (.iconst 2, 1) := by decide +kernel
theorem dX3_looped_15 : decode cX3_looped 15 = .ok (.iand, 1) := by decide +kernel
theorem dX3_looped_16 : decode cX3_looped 16 = .ok (.ior, 1) := by decide +kernel
theorem dX3_looped_17 : decode cX3_looped 17 = .ok (.aload_n 0, 1) := by decide +kernel
theorem dX3_looped_18 : decode cX3_looped 18 = .ok (.getfield 7, 3) := by decide +kernel
theorem dX3_looped_21 : decode cX3_looped 21 = .ok (.bipush 12, 2) := by decide +kernel
theorem dX3_looped_23 : decode cX3_looped 23 = .ok (.iand, 1) := by decide +kernel
theorem dX3_looped_24 : decode cX3_looped 24 = .ok (.ior, 1) := by decide +kernel
theorem dX3_looped_25 : decode cX3_looped 25 = .ok (.ireturn, 1) := by decide +kernel
theorem dX3_follow_0 : decode cX3_follow 0 = .ok (.aload_n 0, 1) := by decide +kernel
theorem dX3_follow_1 : decode cX3_follow 1 = .ok (.invokevirtual 25, 3) := by decide +kernel
theorem dX3_follow_4 : decode cX3_follow 4 = .ok (.ifCond .eq 10, 3) := by decide +kernel
theorem dX3_follow_7 : decode cX3_follow 7 = .ok (.aload_n 0, 1) := by decide +kernel
theorem dX3_follow_8 : decode cX3_follow 8 = .ok (.invokevirtual 29, 3) := by decide +kernel
theorem dX3_follow_11 : decode cX3_follow 11 = .ok (.goto 7, 3) := by decide +kernel
theorem dX3_follow_14 : decode cX3_follow 14 = .ok (.aload_n 0, 1) := by decide +kernel
theorem dX3_follow_15 : decode cX3_follow 15 = .ok (.getfield 13, 3) := by decide +kernel
theorem dX3_follow_18 : decode cX3_follow 18 = .ok (.istore_n 1, 1) := by decide +kernel
theorem dX3_follow_19 : decode cX3_follow 19 = .ok (.iload_n 1, 1) := by decide +kernel
theorem dX3_follow_20 : decode cX3_follow 20 = .ok (.aload_n 0, 1) := by decide +kernel
theorem dX3_follow_21 : decode cX3_follow 21 = .ok (.getfield 16, 3) := by decide +kernel
theorem dX3_follow_24 : decode cX3_follow 24 = .ok (.ixor, 1) := by decide +kernel
theorem dX3_follow_25 : decode cX3_follow 25 = .ok (.istore_n 2, 1) := by decide +kernel
theorem dX3_follow_26 : decode cX3_follow 26 = .ok (.aload_n 0, 1) := by decide +kernel
theorem dX3_follow_27 : decode cX3_follow 27 = .ok (.dup, 1) := by decide +kernel
theorem dX3_follow_28 : decode cX3_follow 28 = .ok (.getfield 19, 3) := by decide +kernel
theorem dX3_follow_31 : decode cX3_follow 31 = .ok (.iload_n 2, 1) := by decide +kernel
theorem dX3_follow_32 : decode cX3_follow 32 = .ok (.bipush (-5), 2) := by decide +kernel
theorem dX3_follow_34 : decode cX3_follow 34 = .ok (.iand, 1) := by decide +kernel
theorem dX3_follow_35 : decode cX3_follow 35 = .ok (.iload_n 2, 1) := by decide +kernel
theorem dX3_follow_36 : decode cX3_follow 36 = .ok (.aload_n 0, 1) := by decide +kernel
theorem dX3_follow_37 : decode cX3_follow 37 = .ok (.getfield 16, 3) := by decide +kernel
theorem dX3_follow_40 : decode cX3_follow 40 = .ok (.iand, 1) := by decide +kernel
theorem dX3_follow_41 : decode cX3_follow 41 = .ok (.iconst 4, 1) := by decide +kernel
theorem dX3_follow_42 : decode cX3_follow 42 = .ok (.iand, 1) := by decide +kernel
theorem dX3_follow_43 : decode cX3_follow 43 = .ok (.ior, 1) := by decide +kernel
theorem dX3_follow_44 : decode cX3_follow 44 = .ok (.ior, 1) := by decide +kernel
theorem dX3_follow_45 : decode cX3_follow 45 = .ok (.putfield 19, 3) := by decide +kernel
theorem dX3_follow_48 : decode cX3_follow 48 = .ok (.aload_n 0, 1) := by decide +kernel
theorem dX3_follow_49 : decode cX3_follow 49 = .ok (.iload_n 1, 1) := by decide +kernel
theorem dX3_follow_50 : decode cX3_follow 50 = .ok (.putfield 16, 3) := by decide +kernel
theorem dX3_follow_53 : decode cX3_follow 53 = .ok (.return_, 1) := by decide +kernel
set_option maxRecDepth 20000 in
theorem ggX3_follow_X3_loops : GoodIn wsX3_follow wsX3_loops := goodIn_r _ [8, 9, 14, 15, 16, 17] (by decide +kernel) (by decide +kernel)
set_option maxRecDepth 20000 in
theorem gX3_follow_X3_loops : GoodIn wsX3_follow (wsV RX3 25 RX3 yX3_loops wsX3_loops) := goodIn_app (goodIn_of _ (by decide +kernel)) ggX3_follow_X3_loops
set_option maxRecDepth 20000 in
theorem ggX3_follow_X3_looped : GoodIn wsX3_follow wsX3_looped := goodIn_r _ [13, 9, 14, 15, 16, 17] (by decide +kernel) (by decide +kernel)
set_option maxRecDepth 20000 in
theorem gX3_follow_X3_looped : GoodIn wsX3_follow (wsV RX3 29 RX3 yX3_looped wsX3_looped) := goodIn_app (goodIn_of _ (by decide +kernel)) ggX3_follow_X3_looped
theorem dX3_putOutputs_0 : decode cX3_putOutputs 0 = .ok (.aload_n 0, 1) := by decide +kernel
theorem dX3_putOutputs_1 : decode cX3_putOutputs 1 = .ok (.iload_n 1, 1) := by decide +kernel
theorem dX3_putOutputs_2 : decode cX3_putOutputs 2 = .ok (.putfield 7, 3) := by decide +kernel
theorem dX3_putOutputs_5 : decode cX3_putOutputs 5 = .ok (.aload_n 0, 1) := by decide +kernel
theorem dX3_putOutputs_6 : decode cX3_putOutputs 6 = .ok (.invokevirtual 22, 3) := by decide +kernel
theorem dX3_putOutputs_9 : decode cX3_putOutputs 9 = .ok (.return_, 1) := by decide +kernel
set_option maxRecDepth 20000 in
theorem ggX3_putOutputs_X3_follow : GoodIn wsX3_putOutputs wsX3_follow := goodIn_r _ [6, 7, 8, 9, 10, 11, 12, 5, 13, 1, 14, 15, 16, 17, 18, 19, 20, 21] (by decide +kernel) (by decide +kernel)
set_option maxRecDepth 20000 in
theorem gX3_putOutputs_X3_follow : GoodIn wsX3_putOutputs (wsV RX3 22 RX3 yX3_follow wsX3_follow) := goodIn_app (goodIn_of _ (by decide +kernel)) ggX3_putOutputs_X3_follow
theorem dX3_putPins_0 : decode cX3_putPins 0 = .ok (.aload_n 0, 1) := by decide +kernel
theorem dX3_putPins_1 : decode cX3_putPins 1 = .ok (.iload_n 1, 1) := by decide +kernel
theorem dX3_putPins_2 : decode cX3_putPins 2 = .ok (.putfield 13, 3) := by decide +kernel
theorem dX3_putPins_5 : decode cX3_putPins 5 = .ok (.aload_n 0, 1) := by decide +kernel
theorem dX3_putPins_6 : decode cX3_putPins 6 = .ok (.invokevirtual 22, 3) := by decide +kernel
theorem dX3_putPins_9 : decode cX3_putPins 9 = .ok (.return_, 1) := by decide +kernel
set_option maxRecDepth 20000 in
theorem ggX3_putPins_X3_follow : GoodIn wsX3_putPins wsX3_follow := goodIn_r _ [6, 1, 7, 8, 9, 10, 11, 5, 12, 13, 14, 15, 16, 17, 18, 19, 20, 21] (by decide +kernel) (by decide +kernel)
set_option maxRecDepth 20000 in
theorem gX3_putPins_X3_follow : GoodIn wsX3_putPins (wsV RX3 22 RX3 yX3_follow wsX3_follow) := goodIn_app (goodIn_of _ (by decide +kernel)) ggX3_putPins_X3_follow
theorem dX3_tellState_0 : decode cX3_tellState 0 = .ok (.aload_n 0, 1) := by decide +kernel
theorem dX3_tellState_1 : decode cX3_tellState 1 = .ok (.getfield 16, 3) := by decide +kernel
theorem dX3_tellState_4 : decode cX3_tellState 4 = .ok (.iconst 4, 1) := by decide +kernel
theorem dX3_tellState_5 : decode cX3_tellState 5 = .ok (.ishl, 1) := by decide +kernel
theorem dX3_tellState_6 : decode cX3_tellState 6 = .ok (.aload_n 0, 1) := by decide +kernel
theorem dX3_tellState_7 : decode cX3_tellState 7 = .ok (.getfield 19, 3) := by decide +kernel
theorem dX3_tellState_10 : decode cX3_tellState 10 = .ok (.ior, 1) := by decide +kernel
theorem dX3_tellState_11 : decode cX3_tellState 11 = .ok (.istore_n 1, 1) := by decide +kernel
theorem dX3_tellState_12 : decode cX3_tellState 12 = .ok (.aload_n 0, 1) := by decide +kernel
theorem dX3_tellState_13 : decode cX3_tellState 13 = .ok (.iconst 0, 1) := by decide +kernel
theorem dX3_tellState_14 : decode cX3_tellState 14 = .ok (.putfield 19, 3) := by decide +kernel
theorem dX3_tellState_17 : decode cX3_tellState 17 = .ok (.iload_n 1, 1) := by decide +kernel
theorem dX3_tellState_18 : decode cX3_tellState 18 = .ok (.ireturn, 1) := by decide +kernel
theorem dX6_clear_0 : decode cX6_clear 0 = .ok (.aload_n 0, 1) := by decide +kernel
theorem dX6_clear_1 : decode cX6_clear 1 = .ok (.iconst 0, 1) := by decide +kernel
theorem dX6_clear_2 : decode cX6_clear 2 = .ok (.putfield 9, 3) := by decide +kernel
theorem dX6_clear_5 : decode cX6_clear 5 = .ok (.aload_n 0, 1) := by decide +kernel
theorem dX6_clear_6 : decode cX6_clear 6 = .ok (.iconst 0, 1) := by decide +kernel
theorem dX6_clear_7 : decode cX6_clear 7 = .ok (.putfield 15, 3) := by decide +kernel
theorem dX6_clear_10 : decode cX6_clear 10 = .ok (.aload_n 0, 1) := by decide +kernel
theorem dX6_clear_11 : decode cX6_clear 11 = .ok (.iconst 0, 1) := by decide +kernel
theorem dX6_clear_12 : decode cX6_clear 12 = .ok (.putfield 18, 3) := by decide +kernel
theorem dX6_clear_15 : decode cX6_clear 15 = .ok (.aload_n 0, 1) := by decide +kernel
theorem dX6_clear_16 : decode cX6_clear 16 = .ok (.iconst 0, 1) := by decide +kernel
theorem dX6_clear_17 : decode cX6_clear 17 = .ok (.putfield 21, 3) := by decide +kernel
theorem dX6_clear_20 : decode cX6_clear 20 = .ok (.return_, 1) := by decide +kernel
theorem dX6_isBusy_0 : decode cX6_isBusy 0 = .ok (.aload_n 0, 1) := by decide +kernel
theorem dX6_isBusy_1 : decode cX6_isBusy 1 = .ok (.getfield 21, 3) := by decide +kernel
theorem dX6_isBusy_4 : decode cX6_isBusy 4 = .ok (.ireturn, 1) := by decide +kernel
theorem dX6_begin_0 : decode cX6_begin 0 = .ok (.aload_n 0, 1) := by decide +kernel
theorem dX6_begin_1 : decode cX6_begin 1 = .ok (.iload_n 1, 1) := by decide +kernel
theorem dX6_begin_2 : decode cX6_begin 2 = .ok (.putfield 9, 3) := by decide +kernel
theorem dX6_begin_5 : decode cX6_begin 5 = .ok (.aload_n 0, 1) := by decide +kernel
theorem dX6_begin_6 : decode cX6_begin 6 = .ok (.iload_n 2, 1) := by decide +kernel
theorem dX6_begin_7 : decode cX6_begin 7 = .ok (.putfield 15, 3) := by decide +kernel
theorem dX6_begin_10 : decode cX6_begin 10 = .ok (.aload_n 0, 1) := by decide +kernel
theorem dX6_begin_11 : decode cX6_begin 11 = .ok (.iconst 0, 1) := by decide +kernel
theorem dX6_begin_12 : decode cX6_begin 12 = .ok (.putfield 18, 3) := by decide +kernel
theorem dX6_begin_15 : decode cX6_begin 15 = .ok (.aload_n 0, 1) := by decide +kernel
theorem dX6_begin_16 : decode cX6_begin 16 = .ok (.iconst 1, 1) := by decide +kernel
theorem dX6_begin_17 : decode cX6_begin 17 = .ok (.putfield 21, 3) := by decide +kernel
theorem dX6_begin_20 : decode cX6_begin 20 = .ok (.return_, 1) := by decide +kernel
theorem dX6_next_0 : decode cX6_next 0 = .ok (.aload_n 0, 1) := by decide +kernel
theorem dX6_next_1 : decode cX6_next 1 = .ok (.getfield 21, 3) := by decide +kernel
theorem dX6_next_4 : decode cX6_next 4 = .ok (.ifCond .ne 5, 3) := by decide +kernel
theorem dX6_next_7 : decode cX6_next 7 = .ok (.iconst 1, 1) := by decide +kernel
theorem dX6_next_8 : decode cX6_next 8 = .ok (.ireturn, 1) := by decide +kernel
theorem dX6_next_9 : decode cX6_next 9 = .ok (.aload_n 0, 1) := by decide +kernel
theorem dX6_next_10 : decode cX6_next 10 = .ok (.getfield 9, 3) := by decide +kernel
theorem dX6_next_13 : decode cX6_next 13 = .ok (.aload_n 0, 1) := by decide +kernel
theorem dX6_next_14 : decode cX6_next 14 = .ok (.getfield 15, 3) := by decide +kernel
theorem dX6_next_17 : decode cX6_next 17 = .ok (.aload_n 0, 1) := by decide +kernel
theorem dX6_next_18 : decode cX6_next 18 = .ok (.getfield 18, 3) := by decide +kernel
theorem dX6_next_21 : decode cX6_next 21 = .ok (.bipush 16, 2) := by decide +kernel
theorem dX6_next_23 : decode cX6_next 23 = .ok (.idiv, 1) := by decide +kernel
theorem dX6_next_24 : decode cX6_next 24 = .ok (.invokestatic 25, 3) := by decide +kernel
theorem dX6_next_27 : decode cX6_next 27 = .ok (.istore_n 1, 1) := by decide +kernel
theorem dX6_next_28 : decode cX6_next 28 = .ok (.aload_n 0, 1) := by decide +kernel
theorem dX6_next_29 : decode cX6_next 29 = .ok (.dup, 1) := by decide +kernel
theorem dX6_next_30 : decode cX6_next 30 = .ok (.getfield 18, 3) := by decide +kernel
theorem dX6_next_33 : decode cX6_next 33 = .ok (.iconst 1, 1) := by decide +kernel
theorem dX6_next_34 : decode cX6_next 34 = .ok (.iadd, 1) := by decide +kernel
theorem dX6_next_35 : decode cX6_next 35 = .ok (.putfield 18, 3) := by decide +kernel
theorem dX6_next_38 : decode cX6_next 38 = .ok (.aload_n 0, 1) := by decide +kernel
theorem dX6_next_39 : decode cX6_next 39 = .ok (.aload_n 0, 1) := by decide +kernel
theorem dX6_next_40 : decode cX6_next 40 = .ok (.getfield 18, 3) := by decide +kernel
theorem dX6_next_43 : decode cX6_next 43 = .ok (.aload_n 0, 1) := by decide +kernel
theorem dX6_next_44 : decode cX6_next 44 = .ok (.getfield 9, 3) := by decide +kernel
theorem dX6_next_47 : decode cX6_next 47 = .ok (.invokestatic 31, 3) := by decide +kernel
theorem dX6_next_50 : decode cX6_next 50 = .ok (.if_icmp .ge 7, 3) := by decide +kernel
theorem dX6_next_53 : decode cX6_next 53 = .ok (.iconst 1, 1) := by decide +kernel
theorem dX6_next_54 : decode cX6_next 54 = .ok (.goto 4, 3) := by decide +kernel
theorem dX6_next_57 : decode cX6_next 57 = .ok (.iconst 0, 1) := by decide +kernel
theorem dX6_next_58 : decode cX6_next 58 = .ok (.putfield 21, 3) := by decide +kernel
theorem dX6_next_61 : decode cX6_next 61 = .ok (.iload_n 1, 1) := by decide +kernel
theorem dX6_next_62 : decode cX6_next 62 = .ok (.ireturn, 1) := by decide +kernel
set_option maxRecDepth 20000 in
theorem ggX6_next_X7_pieceIsHigh : GoodIn wsX6_next wsX7_pieceIsHigh := goodIn_r _ [8, 9, 10, 7, 11, 12, 13, 14, 15, 16, 17, 18, 19, 20, 21, 22, 23, 24] (by decide +kernel) (by decide +kernel)
set_option maxRecDepth 20000 in
theorem gX6_next_X7_pieceIsHigh : GoodIn wsX6_next (va_wsS RX6 25 yX7_pieceIsHigh wsX7_pieceIsHigh) := goodIn_app (goodIn_of _ (by decide +kernel)) ggX6_next_X7_pieceIsHigh
set_option maxRecDepth 20000 in
theorem ggX6_next_X7_beats : GoodIn wsX6_next wsX7_beats := goodIn_r _ [27, 28, 29, 7, 30, 9, 10, 11, 12, 13, 14, 31, 32, 33] (by decide +kernel) (by decide +kernel)
set_option maxRecDepth 20000 in
theorem gX6_next_X7_beats : GoodIn wsX6_next (va_wsS RX6 31 yX7_beats wsX7_beats) := goodIn_app (goodIn_of _ (by decide +kernel)) ggX6_next_X7_beats
theorem dX4_begin_0 : decode cX4_begin 0 = .ok (.aload_n 0, 1) := by decide +kernel
theorem dX4_begin_1 : decode cX4_begin 1 = .ok (.iload_n 1, 1) := by decide +kernel
theorem dX4_begin_2 : decode cX4_begin 2 = .ok (.putfield 37, 3) := by decide +kernel
theorem dX4_begin_5 : decode cX4_begin 5 = .ok (.aload_n 0, 1) := by decide +kernel
theorem dX4_begin_6 : decode cX4_begin 6 = .ok (.iconst 0, 1) := by decide +kernel
theorem dX4_begin_7 : decode cX4_begin 7 = .ok (.putfield 40, 3) := by decide +kernel
theorem dX4_begin_10 : decode cX4_begin 10 = .ok (.aload_n 0, 1) := by decide +kernel
theorem dX4_begin_11 : decode cX4_begin 11 = .ok (.iconst 0, 1) := by decide +kernel
theorem dX4_begin_12 : decode cX4_begin 12 = .ok (.putfield 26, 3) := by decide +kernel
theorem dX4_begin_15 : decode cX4_begin 15 = .ok (.aload_n 0, 1) := by decide +kernel
theorem dX4_begin_16 : decode cX4_begin 16 = .ok (.iconst 1, 1) := by decide +kernel
theorem dX4_begin_17 : decode cX4_begin 17 = .ok (.putfield 15, 3) := by decide +kernel
theorem dX4_begin_20 : decode cX4_begin 20 = .ok (.aload_n 0, 1) := by decide +kernel
theorem dX4_begin_21 : decode cX4_begin 21 = .ok (.iconst 0, 1) := by decide +kernel
theorem dX4_begin_22 : decode cX4_begin 22 = .ok (.putfield 19, 3) := by decide +kernel
theorem dX4_begin_25 : decode cX4_begin 25 = .ok (.aload_n 0, 1) := by decide +kernel
theorem dX4_begin_26 : decode cX4_begin 26 = .ok (.iconst 0, 1) := by decide +kernel
theorem dX4_begin_27 : decode cX4_begin 27 = .ok (.putfield 43, 3) := by decide +kernel
theorem dX4_begin_30 : decode cX4_begin 30 = .ok (.aload_n 0, 1) := by decide +kernel
theorem dX4_begin_31 : decode cX4_begin 31 = .ok (.iconst 0, 1) := by decide +kernel
theorem dX4_begin_32 : decode cX4_begin 32 = .ok (.putfield 46, 3) := by decide +kernel
theorem dX4_begin_35 : decode cX4_begin 35 = .ok (.return_, 1) := by decide +kernel
theorem dX4_clear_0 : decode cX4_clear 0 = .ok (.aload_n 0, 1) := by decide +kernel
theorem dX4_clear_1 : decode cX4_clear 1 = .ok (.iconst 0, 1) := by decide +kernel
theorem dX4_clear_2 : decode cX4_clear 2 = .ok (.invokevirtual 9, 3) := by decide +kernel
theorem dX4_clear_5 : decode cX4_clear 5 = .ok (.aload_n 0, 1) := by decide +kernel
theorem dX4_clear_6 : decode cX4_clear 6 = .ok (.iconst 0, 1) := by decide +kernel
theorem dX4_clear_7 : decode cX4_clear 7 = .ok (.putfield 15, 3) := by decide +kernel
theorem dX4_clear_10 : decode cX4_clear 10 = .ok (.aload_n 0, 1) := by decide +kernel
theorem dX4_clear_11 : decode cX4_clear 11 = .ok (.iconst 1, 1) := by decide +kernel
theorem dX4_clear_12 : decode cX4_clear 12 = .ok (.putfield 19, 3) := by decide +kernel
theorem dX4_clear_15 : decode cX4_clear 15 = .ok (.return_, 1) := by decide +kernel
set_option maxRecDepth 20000 in
theorem ggX4_clear_X4_begin : GoodIn wsX4_clear wsX4_begin := goodIn_r _ [7, 8, 9, 10, 1, 2, 11, 12, 13, 14, 15, 16, 17, 18, 19] (by decide +kernel) (by decide +kernel)
set_option maxRecDepth 20000 in
theorem gX4_clear_X4_begin : GoodIn wsX4_clear (wsV RX4 9 RX4 yX4_begin wsX4_begin) := goodIn_app (goodIn_of _ (by decide +kernel)) ggX4_clear_X4_begin
theorem dX4_isBusy_0 : decode cX4_isBusy 0 = .ok (.aload_n 0, 1) := by decide +kernel
theorem dX4_isBusy_1 : decode cX4_isBusy 1 = .ok (.getfield 15, 3) := by decide +kernel
theorem dX4_isBusy_4 : decode cX4_isBusy 4 = .ok (.ireturn, 1) := by decide +kernel
theorem dX4_listen_0 : decode cX4_listen 0 = .ok (.iload_n 1, 1) := by decide +kernel
theorem dX4_listen_1 : decode cX4_listen 1 = .ok (.ifCond .eq 11, 3) := by decide +kernel
theorem dX4_listen_4 : decode cX4_listen 4 = .ok (.aload_n 0, 1) := by decide +kernel
theorem dX4_listen_5 : decode cX4_listen 5 = .ok (.iconst 1, 1) := by decide +kernel
theorem dX4_listen_6 : decode cX4_listen 6 = .ok (.putfield 19, 3) := by decide +kernel
theorem dX4_listen_9 : decode cX4_listen 9 = .ok (.goto 15, 3) := by decide +kernel
theorem dX4_listen_12 : decode cX4_listen 12 = .ok (.aload_n 0, 1) := by decide +kernel
theorem dX4_listen_13 : decode cX4_listen 13 = .ok (.getfield 19, 3) := by decide +kernel
theorem dX4_listen_16 : decode cX4_listen 16 = .ok (.ifCond .eq 8, 3) := by decide +kernel
theorem dX4_listen_19 : decode cX4_listen 19 = .ok (.aload_n 0, 1) := by decide +kernel
theorem dX4_listen_20 : decode cX4_listen 20 = .ok (.iload_n 2, 1) := by decide +kernel
theorem dX4_listen_21 : decode cX4_listen 21 = .ok (.invokevirtual 9, 3) := by decide +kernel
theorem dX4_listen_24 : decode cX4_listen 24 = .ok (.return_, 1) := by decide +kernel
set_option maxRecDepth 20000 in
theorem ggX4_listen_X4_begin : GoodIn wsX4_listen wsX4_begin := goodIn_r _ [6, 7, 8, 9, 10, 1, 11, 12, 13, 14, 15, 16, 17, 18, 19] (by decide +kernel) (by decide +kernel)
set_option maxRecDepth 20000 in
theorem gX4_listen_X4_begin : GoodIn wsX4_listen (wsV RX4 9 RX4 yX4_begin wsX4_begin) := goodIn_app (goodIn_of _ (by decide +kernel)) ggX4_listen_X4_begin
theorem dX4_becomeIdle_0 : decode cX4_becomeIdle 0 = .ok (.aload_n 0, 1) := by decide +kernel
theorem dX4_becomeIdle_1 : decode cX4_becomeIdle 1 = .ok (.iconst 0, 1) := by decide +kernel
theorem dX4_becomeIdle_2 : decode cX4_becomeIdle 2 = .ok (.putfield 15, 3) := by decide +kernel
theorem dX4_becomeIdle_5 : decode cX4_becomeIdle 5 = .ok (.aload_n 0, 1) := by decide +kernel
theorem dX4_becomeIdle_6 : decode cX4_becomeIdle 6 = .ok (.iload_n 1, 1) := by decide +kernel
theorem dX4_becomeIdle_7 : decode cX4_becomeIdle 7 = .ok (.putfield 19, 3) := by decide +kernel
theorem dX4_becomeIdle_10 : decode cX4_becomeIdle 10 = .ok (.return_, 1) := by decide +kernel
theorem dX4_seeStart_0 : decode cX4_seeStart 0 = .ok (.iload_n 1, 1) := by decide +kernel
theorem dX4_seeStart_1 : decode cX4_seeStart 1 = .ok (.ifCond .eq 8, 3) := by decide +kernel
theorem dX4_seeStart_4 : decode cX4_seeStart 4 = .ok (.aload_n 0, 1) := by decide +kernel
theorem dX4_seeStart_5 : decode cX4_seeStart 5 = .ok (.iconst 1, 1) := by decide +kernel
theorem dX4_seeStart_6 : decode cX4_seeStart 6 = .ok (.invokevirtual 49, 3) := by decide +kernel
theorem dX4_seeStart_9 : decode cX4_seeStart 9 = .ok (.iconst (-1), 1) := by decide +kernel
theorem dX4_seeStart_10 : decode cX4_seeStart 10 = .ok (.ireturn, 1) := by decide +kernel
set_option maxRecDepth 20000 in
theorem ggX4_seeStart_X4_becomeIdle : GoodIn wsX4_seeStart wsX4_becomeIdle := goodIn_r _ [5, 6, 7, 8, 9, 10, 11, 12, 13, 14] (by decide +kernel) (by decide +kernel)
set_option maxRecDepth 20000 in
theorem gX4_seeStart_X4_becomeIdle : GoodIn wsX4_seeStart (wsV RX4 49 RX4 yX4_becomeIdle wsX4_becomeIdle) := goodIn_app (goodIn_of _ (by decide +kernel)) ggX4_seeStart_X4_becomeIdle
theorem dX4_faults_0 : decode cX4_faults 0 = .ok (.iload_n 1, 1) := by decide +kernel
theorem dX4_faults_1 : decode cX4_faults 1 = .ok (.ifCond .eq 7, 3) := by decide +kernel
theorem dX4_faults_4 : decode cX4_faults 4 = .ok (.iconst 0, 1) := by decide +kernel
theorem dX4_faults_5 : decode cX4_faults 5 = .ok (.goto 5, 3) := by decide +kernel
theorem dX4_faults_8 : decode cX4_faults 8 = .ok (.bipush 8, 2) := by decide +kernel
theorem dX4_faults_10 : decode cX4_faults 10 = .ok (.istore_n 2, 1) := by decide +kernel
theorem dX4_faults_11 : decode cX4_faults 11 = .ok (.aload_n 0, 1) := by decide +kernel
theorem dX4_faults_12 : decode cX4_faults 12 = .ok (.getfield 46, 3) := by decide +kernel
theorem dX4_faults_15 : decode cX4_faults 15 = .ok (.ifCond .ne 8, 3) := by decide +kernel
theorem dX4_faults_18 : decode cX4_faults 18 = .ok (.iload_n 2, 1) := by decide +kernel
theorem dX4_faults_19 : decode cX4_faults 19 = .ok (.bipush 16, 2) := by decide +kernel
theorem dX4_faults_21 : decode cX4_faults 21 = .ok (.ior, 1) := by decide +kernel
theorem dX4_faults_22 : decode cX4_faults 22 = .ok (.istore_n 2, 1) := by decide +kernel
theorem dX4_faults_23 : decode cX4_faults 23 = .ok (.aload_n 0, 1) := by decide +kernel
theorem dX4_faults_24 : decode cX4_faults 24 = .ok (.getfield 37, 3) := by decide +kernel
theorem dX4_faults_27 : decode cX4_faults 27 = .ok (.invokestatic 59, 3) := by decide +kernel
theorem dX4_faults_30 : decode cX4_faults 30 = .ok (.ifCond .eq 25, 3) := by decide +kernel
theorem dX4_faults_33 : decode cX4_faults 33 = .ok (.aload_n 0, 1) := by decide +kernel
theorem dX4_faults_34 : decode cX4_faults 34 = .ok (.getfield 43, 3) := by decide +kernel
theorem dX4_faults_37 : decode cX4_faults 37 = .ok (.aload_n 0, 1) := by decide +kernel
theorem dX4_faults_38 : decode cX4_faults 38 = .ok (.getfield 37, 3) := by decide +kernel
theorem dX4_faults_41 : decode cX4_faults 41 = .ok (.aload_n 0, 1) := by decide +kernel
theorem dX4_faults_42 : decode cX4_faults 42 = .ok (.getfield 40, 3) := by decide +kernel
theorem dX4_faults_45 : decode cX4_faults 45 = .ok (.invokestatic 66, 3) := by decide +kernel
theorem dX4_faults_48 : decode cX4_faults 48 = .ok (.if_icmp .eq 7, 3) := by decide +kernel
theorem dX4_faults_51 : decode cX4_faults 51 = .ok (.iload_n 2, 1) := by decide +kernel
theorem dX4_faults_52 : decode cX4_faults 52 = .ok (.iconst 4, 1) := by decide +kernel
theorem dX4_faults_53 : decode cX4_faults 53 = .ok (.ior, 1) := by decide +kernel
theorem dX4_faults_54 : decode cX4_faults 54 = .ok (.istore_n 2, 1) := by decide +kernel
theorem dX4_faults_55 : decode cX4_faults 55 = .ok (.iload_n 2, 1) := by decide +kernel
theorem dX4_faults_56 : decode cX4_faults 56 = .ok (.ireturn, 1) := by decide +kernel
set_option maxRecDepth 20000 in
theorem ggX4_faults_X7_hasParity : GoodIn wsX4_faults wsX7_hasParity := goodIn_r _ [8] (by decide +kernel) (by decide +kernel)
set_option maxRecDepth 20000 in
theorem gX4_faults_X7_hasParity : GoodIn wsX4_faults (va_wsS RX4 59 yX7_hasParity wsX7_hasParity) := goodIn_app (goodIn_of _ (by decide +kernel)) ggX4_faults_X7_hasParity
set_option maxRecDepth 20000 in
theorem ggX4_faults_X7_parityIsHigh : GoodIn wsX4_faults wsX7_parityIsHigh := goodIn_r _ [11, 12, 13, 7, 14, 15, 16, 17, 18, 19, 20, 21] (by decide +kernel) (by decide +kernel)
set_option maxRecDepth 20000 in
theorem gX4_faults_X7_parityIsHigh : GoodIn wsX4_faults (va_wsS RX4 66 yX7_parityIsHigh wsX7_parityIsHigh) := goodIn_app (goodIn_of _ (by decide +kernel)) ggX4_faults_X7_parityIsHigh
theorem dX4_see_0 : decode cX4_see 0 = .ok (.aload_n 0, 1) := by decide +kernel
theorem dX4_see_1 : decode cX4_see 1 = .ok (.getfield 26, 3) := by decide +kernel
theorem dX4_see_4 : decode cX4_see 4 = .ok (.bipush 16, 2) := by decide +kernel
theorem dX4_see_6 : decode cX4_see 6 = .ok (.idiv, 1) := by decide +kernel
theorem dX4_see_7 : decode cX4_see 7 = .ok (.istore_n 2, 1) := by decide +kernel
theorem dX4_see_8 : decode cX4_see 8 = .ok (.aload_n 0, 1) := by decide +kernel
theorem dX4_see_9 : decode cX4_see 9 = .ok (.getfield 37, 3) := by decide +kernel
theorem dX4_see_12 : decode cX4_see 12 = .ok (.invokestatic 53, 3) := by decide +kernel
theorem dX4_see_15 : decode cX4_see 15 = .ok (.istore_n 3, 1) := by decide +kernel
theorem dX4_see_16 : decode cX4_see 16 = .ok (.aload_n 0, 1) := by decide +kernel
theorem dX4_see_17 : decode cX4_see 17 = .ok (.aload_n 0, 1) := by decide +kernel
theorem dX4_see_18 : decode cX4_see 18 = .ok (.getfield 46, 3) := by decide +kernel
theorem dX4_see_21 : decode cX4_see 21 = .ok (.ifCond .ne 7, 3) := by decide +kernel
theorem dX4_see_24 : decode cX4_see 24 = .ok (.iload_n 1, 1) := by decide +kernel
theorem dX4_see_25 : decode cX4_see 25 = .ok (.ifCond .eq 7, 3) := by decide +kernel
theorem dX4_see_28 : decode cX4_see 28 = .ok (.iconst 1, 1) := by decide +kernel
theorem dX4_see_29 : decode cX4_see 29 = .ok (.goto 4, 3) := by decide +kernel
theorem dX4_see_32 : decode cX4_see 32 = .ok (.iconst 0, 1) := by decide +kernel
theorem dX4_see_33 : decode cX4_see 33 = .ok (.putfield 46, 3) := by decide +kernel
theorem dX4_see_36 : decode cX4_see 36 = .ok (.iload_n 2, 1) := by decide +kernel
theorem dX4_see_37 : decode cX4_see 37 = .ok (.iload_n 3, 1) := by decide +kernel
theorem dX4_see_38 : decode cX4_see 38 = .ok (.if_icmp .gt 27, 3) := by decide +kernel
theorem dX4_see_41 : decode cX4_see 41 = .ok (.aload_n 0, 1) := by decide +kernel
theorem dX4_see_42 : decode cX4_see 42 = .ok (.dup, 1) := by decide +kernel
theorem dX4_see_43 : decode cX4_see 43 = .ok (.getfield 40, 3) := by decide +kernel
theorem dX4_see_46 : decode cX4_see 46 = .ok (.iload_n 1, 1) := by decide +kernel
theorem dX4_see_47 : decode cX4_see 47 = .ok (.ifCond .eq 11, 3) := by decide +kernel
theorem dX4_see_50 : decode cX4_see 50 = .ok (.iconst 1, 1) := by decide +kernel
theorem dX4_see_51 : decode cX4_see 51 = .ok (.iload_n 2, 1) := by decide +kernel
theorem dX4_see_52 : decode cX4_see 52 = .ok (.iconst 1, 1) := by decide +kernel
theorem dX4_see_53 : decode cX4_see 53 = .ok (.isub, 1) := by decide +kernel
theorem dX4_see_54 : decode cX4_see 54 = .ok (.ishl, 1) := by decide +kernel
theorem dX4_see_55 : decode cX4_see 55 = .ok (.goto 4, 3) := by decide +kernel
theorem dX4_see_58 : decode cX4_see 58 = .ok (.iconst 0, 1) := by decide +kernel
theorem dX4_see_59 : decode cX4_see 59 = .ok (.ior, 1) := by decide +kernel
theorem dX4_see_60 : decode cX4_see 60 = .ok (.putfield 40, 3) := by decide +kernel
theorem dX4_see_63 : decode cX4_see 63 = .ok (.iconst (-1), 1) := by decide +kernel
theorem dX4_see_64 : decode cX4_see 64 = .ok (.ireturn, 1) := by decide +kernel
theorem dX4_see_65 : decode cX4_see 65 = .ok (.iload_n 2, 1) := by decide +kernel
theorem dX4_see_66 : decode cX4_see 66 = .ok (.iload_n 3, 1) := by decide +kernel
theorem dX4_see_67 : decode cX4_see 67 = .ok (.iconst 1, 1) := by decide +kernel
theorem dX4_see_68 : decode cX4_see 68 = .ok (.iadd, 1) := by decide +kernel
theorem dX4_see_69 : decode cX4_see 69 = .ok (.if_icmp .ne 20, 3) := by decide +kernel
theorem dX4_see_72 : decode cX4_see 72 = .ok (.aload_n 0, 1) := by decide +kernel
theorem dX4_see_73 : decode cX4_see 73 = .ok (.getfield 37, 3) := by decide +kernel
theorem dX4_see_76 : decode cX4_see 76 = .ok (.invokestatic 59, 3) := by decide +kernel
theorem dX4_see_79 : decode cX4_see 79 = .ok (.ifCond .eq 10, 3) := by decide +kernel
theorem dX4_see_82 : decode cX4_see 82 = .ok (.aload_n 0, 1) := by decide +kernel
theorem dX4_see_83 : decode cX4_see 83 = .ok (.iload_n 1, 1) := by decide +kernel
theorem dX4_see_84 : decode cX4_see 84 = .ok (.putfield 43, 3) := by decide +kernel
theorem dX4_see_87 : decode cX4_see 87 = .ok (.iconst (-1), 1) := by decide +kernel
theorem dX4_see_88 : decode cX4_see 88 = .ok (.ireturn, 1) := by decide +kernel
theorem dX4_see_89 : decode cX4_see 89 = .ok (.aload_n 0, 1) := by decide +kernel
theorem dX4_see_90 : decode cX4_see 90 = .ok (.iload_n 1, 1) := by decide +kernel
theorem dX4_see_91 : decode cX4_see 91 = .ok (.invokevirtual 49, 3) := by decide +kernel
theorem dX4_see_94 : decode cX4_see 94 = .ok (.aload_n 0, 1) := by decide +kernel
theorem dX4_see_95 : decode cX4_see 95 = .ok (.getfield 40, 3) := by decide +kernel
theorem dX4_see_98 : decode cX4_see 98 = .ok (.aload_n 0, 1) := by decide +kernel
theorem dX4_see_99 : decode cX4_see 99 = .ok (.iload_n 1, 1) := by decide +kernel
theorem dX4_see_100 : decode cX4_see 100 = .ok (.invokevirtual 63, 3) := by decide +kernel
theorem dX4_see_103 : decode cX4_see 103 = .ok (.bipush 8, 2) := by decide +kernel
theorem dX4_see_105 : decode cX4_see 105 = .ok (.ishl, 1) := by decide +kernel
theorem dX4_see_106 : decode cX4_see 106 = .ok (.ior, 1) := by decide +kernel
theorem dX4_see_107 : decode cX4_see 107 = .ok (.ireturn, 1) := by decide +kernel
set_option maxRecDepth 20000 in
theorem ggX4_see_X7_dataBits : GoodIn wsX4_see wsX7_dataBits := goodIn_r _ [9] (by decide +kernel) (by decide +kernel)
set_option maxRecDepth 20000 in
theorem gX4_see_X7_dataBits : GoodIn wsX4_see (va_wsS RX4 53 yX7_dataBits wsX7_dataBits) := goodIn_app (goodIn_of _ (by decide +kernel)) ggX4_see_X7_dataBits
set_option maxRecDepth 20000 in
theorem ggX4_see_X7_hasParity : GoodIn wsX4_see wsX7_hasParity := goodIn_r _ [12] (by decide +kernel) (by decide +kernel)
set_option maxRecDepth 20000 in
theorem gX4_see_X7_hasParity : GoodIn wsX4_see (va_wsS RX4 59 yX7_hasParity wsX7_hasParity) := goodIn_app (goodIn_of _ (by decide +kernel)) ggX4_see_X7_hasParity
set_option maxRecDepth 20000 in
theorem ggX4_see_X4_becomeIdle : GoodIn wsX4_see wsX4_becomeIdle := goodIn_r _ [17, 18, 19, 35, 36, 37, 38, 39, 40, 41] (by decide +kernel) (by decide +kernel)
set_option maxRecDepth 20000 in
theorem gX4_see_X4_becomeIdle : GoodIn wsX4_see (wsV RX4 49 RX4 yX4_becomeIdle wsX4_becomeIdle) := goodIn_app (goodIn_of _ (by decide +kernel)) ggX4_see_X4_becomeIdle
set_option maxRecDepth 20000 in
theorem ggX4_see_X4_faults : GoodIn wsX4_see wsX4_faults := goodIn_r _ [23, 3, 2, 5, 4, 10, 11, 8, 12, 24, 25, 26, 27, 7, 9, 28, 29, 30, 31, 32, 33, 34, 35, 36, 37, 38, 39, 40, 41] (by decide +kernel) (by decide +kernel)
set_option maxRecDepth 20000 in
theorem gX4_see_X4_faults : GoodIn wsX4_see (wsV RX4 63 RX4 yX4_faults wsX4_faults) := goodIn_app (goodIn_of _ (by decide +kernel)) ggX4_see_X4_faults
theorem dX4_step_0 : decode cX4_step 0 = .ok (.aload_n 0, 1) := by decide +kernel
theorem dX4_step_1 : decode cX4_step 1 = .ok (.getfield 15, 3) := by decide +kernel
theorem dX4_step_4 : decode cX4_step 4 = .ok (.ifCond .ne 11, 3) := by decide +kernel
theorem dX4_step_7 : decode cX4_step 7 = .ok (.aload_n 0, 1) := by decide +kernel
theorem dX4_step_8 : decode cX4_step 8 = .ok (.iload_n 1, 1) := by decide +kernel
theorem dX4_step_9 : decode cX4_step 9 = .ok (.iload_n 2, 1) := by decide +kernel
theorem dX4_step_10 : decode cX4_step 10 = .ok (.invokevirtual 22, 3) := by decide +kernel
theorem dX4_step_13 : decode cX4_step 13 = .ok (.iconst (-1), 1) := by decide +kernel
theorem dX4_step_14 : decode cX4_step 14 = .ok (.ireturn, 1) := by decide +kernel
theorem dX4_step_15 : decode cX4_step 15 = .ok (.aload_n 0, 1) := by decide +kernel
theorem dX4_step_16 : decode cX4_step 16 = .ok (.dup, 1) := by decide +kernel
theorem dX4_step_17 : decode cX4_step 17 = .ok (.getfield 26, 3) := by decide +kernel
theorem dX4_step_20 : decode cX4_step 20 = .ok (.iconst 1, 1) := by decide +kernel
theorem dX4_step_21 : decode cX4_step 21 = .ok (.iadd, 1) := by decide +kernel
theorem dX4_step_22 : decode cX4_step 22 = .ok (.putfield 26, 3) := by decide +kernel
theorem dX4_step_25 : decode cX4_step 25 = .ok (.aload_n 0, 1) := by decide +kernel
theorem dX4_step_26 : decode cX4_step 26 = .ok (.getfield 26, 3) := by decide +kernel
theorem dX4_step_29 : decode cX4_step 29 = .ok (.bipush 16, 2) := by decide +kernel
theorem dX4_step_31 : decode cX4_step 31 = .ok (.irem, 1) := by decide +kernel
theorem dX4_step_32 : decode cX4_step 32 = .ok (.bipush 7, 2) := by decide +kernel
theorem dX4_step_34 : decode cX4_step 34 = .ok (.if_icmp .eq 5, 3) := by decide +kernel
theorem dX4_step_37 : decode cX4_step 37 = .ok (.iconst (-1), 1) := by decide +kernel
theorem dX4_step_38 : decode cX4_step 38 = .ok (.ireturn, 1) := by decide +kernel
theorem dX4_step_39 : decode cX4_step 39 = .ok (.aload_n 0, 1) := by decide +kernel
theorem dX4_step_40 : decode cX4_step 40 = .ok (.getfield 26, 3) := by decide +kernel
theorem dX4_step_43 : decode cX4_step 43 = .ok (.bipush 7, 2) := by decide +kernel
theorem dX4_step_45 : decode cX4_step 45 = .ok (.if_icmp .ne 11, 3) := by decide +kernel
theorem dX4_step_48 : decode cX4_step 48 = .ok (.aload_n 0, 1) := by decide +kernel
theorem dX4_step_49 : decode cX4_step 49 = .ok (.iload_n 1, 1) := by decide +kernel
theorem dX4_step_50 : decode cX4_step 50 = .ok (.invokevirtual 30, 3) := by decide +kernel
theorem dX4_step_53 : decode cX4_step 53 = .ok (.goto 8, 3) := by decide +kernel
theorem dX4_step_56 : decode cX4_step 56 = .ok (.aload_n 0, 1) := by decide +kernel
theorem dX4_step_57 : decode cX4_step 57 = .ok (.iload_n 1, 1) := by decide +kernel
theorem dX4_step_58 : decode cX4_step 58 = .ok (.invokevirtual 34, 3) := by decide +kernel
theorem dX4_step_61 : decode cX4_step 61 = .ok (.ireturn, 1) := by decide +kernel
set_option maxRecDepth 20000 in
theorem ggX4_step_X4_listen : GoodIn wsX4_step wsX4_listen := goodIn_r _ [7, 8, 9, 10, 11, 6, 12, 13, 14, 2, 1, 15, 16, 51, 52, 53, 54, 55, 56, 57] (by decide +kernel) (by decide +kernel)
set_option maxRecDepth 20000 in
theorem gX4_step_X4_listen : GoodIn wsX4_step (wsV RX4 22 RX4 yX4_listen wsX4_listen) := goodIn_app (goodIn_of _ (by decide +kernel)) ggX4_step_X4_listen
set_option maxRecDepth 20000 in
theorem ggX4_step_X4_seeStart : GoodIn wsX4_step wsX4_seeStart := goodIn_r _ [20, 21, 22, 23, 6, 24, 1, 8, 51, 52, 53, 54, 55, 56, 57] (by decide +kernel) (by decide +kernel)
set_option maxRecDepth 20000 in
theorem gX4_step_X4_seeStart : GoodIn wsX4_step (wsV RX4 30 RX4 yX4_seeStart wsX4_seeStart) := goodIn_app (goodIn_of _ (by decide +kernel)) ggX4_step_X4_seeStart
set_option maxRecDepth 20000 in
theorem ggX4_step_X4_see : GoodIn wsX4_step wsX4_see := goodIn_r _ [28, 2, 13, 16, 14, 15, 29, 30, 31, 32, 33, 34, 35, 21, 22, 23, 6, 24, 1, 8, 36, 37, 38, 39, 40, 41, 42, 43, 44, 45, 46, 47, 48, 49, 50, 51, 52, 53, 54, 55, 56, 57] (by decide +kernel) (by decide +kernel)
set_option maxRecDepth 20000 in
theorem gX4_step_X4_see : GoodIn wsX4_step (wsV RX4 34 RX4 yX4_see wsX4_see) := goodIn_app (goodIn_of _ (by decide +kernel)) ggX4_step_X4_see
def F_X0_clear  (v_divisor : Int32) (v_passed : Int32) : Option (Int32 × Int32) := some (0, 0)
def wX0_clear (h_ : Nat) (u : Int32 × Int32) : va_W := [oX0 h_ u.1 u.2]
set_option maxHeartbeats 4000000 in
set_option maxRecDepth 100000 in
theorem mX0_clear {l : Launch} (D : va_G) (h_ : Nat) (v_divisor : Int32) (v_passed : Int32) (u0 : Int32 × Int32) (hF : F_X0_clear v_divisor v_passed = some u0) : MV l yX0_clear wsX0_clear { frames := 0, cells := 0, slots := 0, locals := 0 } D [] [.ref h_] [oX0 h_ v_divisor v_passed] (wX0_clear h_ u0) := by
  refine MV.ofW (cc := cX0_clear) (maxL := 1) (ret := none) (lv := [(0, .ref h_)]) (by decide +kernel) rfl (Nat.le_of_ble_eq_true rfl) rfl ?_
  intro p e s m args below meth c A ls hx hb hr hml hts hown hlocks hA hK hP hD hS hl
  replace hown : s.vm.findClass RX0 = some m.cls := hown
  have i_X0 : ∀ w ∈ wsX00, w ∈ wsX0_clear := by decide +kernel
  have f_9 := hts (.fieldLink RX0 9 "SerialPort$Divider" "divisor" "I") (by decide +kernel)
  have f_15 := hts (.fieldLink RX0 15 "SerialPort$Divider" "passed" "I") (by decide +kernel)
  have hret : ∀ (u : Int32 × Int32) (H : Heap) (locs : List Loc) (pc : Nat) (ls : Array Slot), va_P D vwCl (wX0_clear h_ u) H → va_D A (wX0_clear h_ u) → va_S A s.heap H locs → some u = some u0 → decode cX0_clear pc = .ok (.return_, 1) → W p l e { frames := 0, cells := 0, slots := 0, locals := 0 } s m args below meth c H locs 0 0 (QV below D [] (wX0_clear h_ u0) args s A) (F0 m pc ls []) := fun u H locs pc ls h1 h2 h3 h4 h5 => rV (wf := wX0_clear h_) hx hb hr hlocks hK h1 h2 h3 h4 h5
  unfold F_X0_clear at hF
  refine lv_aload_n hx hb dX0_clear_0 rfl (lv_at hl 0 rfl) ?_
  refine lv_iconst (v := 0) hx hb dX0_clear_1 (by decide) ?_
  refine pf (ci := 0) (v := .int 0) (ty := .int) (C := RX0) (T := TX0) (N := 2) (ws' := [oX0 h_ 0 v_passed]) hx hb hts i_X0 tyX0_ok nmX0 hown hK hP hD hS 0 rfl rfl 0 (Nat.le_of_ble_eq_true rfl) f_9 rfl rfl (by decide +kernel) rfl rfl (Nat.le_of_ble_eq_true rfl) rfl dX0_clear_2 (fun H locs hP hD hS => ?_)
  refine lv_aload_n hx hb dX0_clear_5 rfl (lv_at hl 0 rfl) ?_
  refine lv_iconst (v := 0) hx hb dX0_clear_6 (by decide) ?_
  refine pf (ci := 0) (v := .int 0) (ty := .int) (C := RX0) (T := TX0) (N := 2) (ws' := [oX0 h_ 0 0]) hx hb hts i_X0 tyX0_ok nmX0 hown hK hP hD hS 0 rfl rfl 1 (Nat.le_of_ble_eq_true rfl) f_15 rfl rfl (by decide +kernel) rfl rfl (Nat.le_of_ble_eq_true rfl) rfl dX0_clear_7 (fun H locs hP hD hS => ?_)
  exact hret (0, 0) _ _ 10 _ hP hD hS hF dX0_clear_10
def F_X0_putByte (p1 : Int32) (p2 : Int32) (v_divisor : Int32) (v_passed : Int32) : Option (Int32 × Int32) := if p1 = 0 then (lt1 ((v_divisor &&& (65280 : Int32)) ||| p2) (fun x3 => some (x3, 0))) else (lt1 ((v_divisor &&& 255) ||| (p2 <<< ((8 : Int32) &&& 31))) (fun x2 => some (x2, 0)))
def wX0_putByte (h_ : Nat) (u : Int32 × Int32) : va_W := [oX0 h_ u.1 u.2]
set_option maxHeartbeats 4000000 in
set_option maxRecDepth 100000 in
theorem mX0_putByte {l : Launch} (D : va_G) (h_ : Nat) (v_divisor : Int32) (v_passed : Int32) (p1 : Int32) (p2 : Int32) (u0 : Int32 × Int32) (hF : F_X0_putByte p1 p2 v_divisor v_passed = some u0) : MV l yX0_putByte wsX0_putByte { frames := 0, cells := 0, slots := 0, locals := 0 } D [] [.ref h_, .int p1, .int p2] [oX0 h_ v_divisor v_passed] (wX0_putByte h_ u0) := by
  refine MV.ofW (cc := cX0_putByte) (maxL := 3) (ret := none) (lv := [(0, .ref h_), (1, .int p1), (2, .int p2)]) (by decide +kernel) rfl (Nat.le_of_ble_eq_true rfl) rfl ?_
  intro p e s m args below meth c A ls hx hb hr hml hts hown hlocks hA hK hP hD hS hl
  replace hown : s.vm.findClass RX0 = some m.cls := hown
  have i_X0 : ∀ w ∈ wsX00, w ∈ wsX0_putByte := by decide +kernel
  have f_9 := hts (.fieldLink RX0 9 "SerialPort$Divider" "divisor" "I") (by decide +kernel)
  have f_15 := hts (.fieldLink RX0 15 "SerialPort$Divider" "passed" "I") (by decide +kernel)
  have c_18 := hts (.constant RX0 18 (65280)) (by decide +kernel)
  have hret : ∀ (u : Int32 × Int32) (H : Heap) (locs : List Loc) (pc : Nat) (ls : Array Slot), va_P D vwCl (wX0_putByte h_ u) H → va_D A (wX0_putByte h_ u) → va_S A s.heap H locs → some u = some u0 → decode cX0_putByte pc = .ok (.return_, 1) → W p l e { frames := 0, cells := 0, slots := 0, locals := 0 } s m args below meth c H locs 0 0 (QV below D [] (wX0_putByte h_ u0) args s A) (F0 m pc ls []) := fun u H locs pc ls h1 h2 h3 h4 h5 => rV (wf := wX0_putByte h_) hx hb hr hlocks hK h1 h2 h3 h4 h5
  unfold F_X0_putByte at hF
  refine lv_aload_n hx hb dX0_putByte_0 rfl (lv_at hl 0 rfl) ?_
  refine lv_iload_n hx hb dX0_putByte_1 rfl (lv_at hl 1 rfl) ?_
  refine lv_if_ne (tgt := 17) hx hb dX0_putByte_2 (by decide) (fun c1 => ?_) (fun c1 => ?_)
  · replace hF := it_f c1 hF
    refine lv_aload_n hx hb dX0_putByte_17 rfl (lv_at hl 0 rfl) ?_
    refine va_get (D := D) (ci := 0) (v := .int v_divisor) (C := RX0) (T := TX0) (N := 2) hx hb hts i_X0 hown hK hP 0 rfl rfl 0 (Nat.le_of_ble_eq_true rfl) f_9 (fun _ h9 => h9) rfl dX0_putByte_18 ?_
    refine lv_sipush (v := 255) hx hb dX0_putByte_21 (by decide) ?_
    refine lv_iand hx hb dX0_putByte_24 ?_
    refine lv_iload_n hx hb dX0_putByte_25 rfl (lv_at hl 2 rfl) ?_
    refine lv_bipush (v := 8) hx hb dX0_putByte_26 (by decide) ?_
    refine lv_ishl hx hb dX0_putByte_28 ?_
    refine lv_ior hx hb dX0_putByte_29 ?_
    refine lv_topi (fun x2 ex2 => ?_)
    replace hF := lt1_x ex2 hF
    refine pf (ci := 0) (v := .int x2) (ty := .int) (C := RX0) (T := TX0) (N := 2) (ws' := [oX0 h_ x2 v_passed]) hx hb hts i_X0 tyX0_ok nmX0 hown hK hP hD hS 0 rfl rfl 0 (Nat.le_of_ble_eq_true rfl) f_9 rfl rfl (by decide +kernel) rfl rfl (Nat.le_of_ble_eq_true rfl) rfl dX0_putByte_30 (fun H locs hP hD hS => ?_)
    refine lv_aload_n hx hb dX0_putByte_33 rfl (lv_at hl 0 rfl) ?_
    refine lv_iconst (v := 0) hx hb dX0_putByte_34 (by decide) ?_
    refine pf (ci := 0) (v := .int 0) (ty := .int) (C := RX0) (T := TX0) (N := 2) (ws' := [oX0 h_ x2 0]) hx hb hts i_X0 tyX0_ok nmX0 hown hK hP hD hS 0 rfl rfl 1 (Nat.le_of_ble_eq_true rfl) f_15 rfl rfl (by decide +kernel) rfl rfl (Nat.le_of_ble_eq_true rfl) rfl dX0_putByte_35 (fun H locs hP hD hS => ?_)
    exact hret (x2, 0) _ _ 38 _ hP hD hS hF dX0_putByte_38
  · replace hF := it_t c1 hF
    refine lv_aload_n hx hb dX0_putByte_5 rfl (lv_at hl 0 rfl) ?_
    refine va_get (D := D) (ci := 0) (v := .int v_divisor) (C := RX0) (T := TX0) (N := 2) hx hb hts i_X0 hown hK hP 0 rfl rfl 0 (Nat.le_of_ble_eq_true rfl) f_9 (fun _ h9 => h9) rfl dX0_putByte_6 ?_
    refine lv_ldc (v := 65280) hx hb hown c_18 dX0_putByte_9 ?_
    refine lv_iand hx hb dX0_putByte_11 ?_
    refine lv_iload_n hx hb dX0_putByte_12 rfl (lv_at hl 2 rfl) ?_
    refine lv_ior hx hb dX0_putByte_13 ?_
    refine lv_goto (tgt := 30) hx hb dX0_putByte_14 (by decide) ?_
    refine lv_topi (fun x3 ex3 => ?_)
    replace hF := lt1_x ex3 hF
    refine pf (ci := 0) (v := .int x3) (ty := .int) (C := RX0) (T := TX0) (N := 2) (ws' := [oX0 h_ x3 v_passed]) hx hb hts i_X0 tyX0_ok nmX0 hown hK hP hD hS 0 rfl rfl 0 (Nat.le_of_ble_eq_true rfl) f_9 rfl rfl (by decide +kernel) rfl rfl (Nat.le_of_ble_eq_true rfl) rfl dX0_putByte_30 (fun H locs hP hD hS => ?_)
    refine lv_aload_n hx hb dX0_putByte_33 rfl (lv_at hl 0 rfl) ?_
    refine lv_iconst (v := 0) hx hb dX0_putByte_34 (by decide) ?_
    refine pf (ci := 0) (v := .int 0) (ty := .int) (C := RX0) (T := TX0) (N := 2) (ws' := [oX0 h_ x3 0]) hx hb hts i_X0 tyX0_ok nmX0 hown hK hP hD hS 0 rfl rfl 1 (Nat.le_of_ble_eq_true rfl) f_15 rfl rfl (by decide +kernel) rfl rfl (Nat.le_of_ble_eq_true rfl) rfl dX0_putByte_35 (fun H locs hP hD hS => ?_)
    exact hret (x3, 0) _ _ 38 _ hP hD hS hF dX0_putByte_38
def F_X0_tellByte (p1 : Int32) (v_divisor : Int32) : Option (Int32) := if p1 = 0 then (some (v_divisor &&& 255)) else (some ((v_divisor >>> ((8 : Int32) &&& 31)) &&& 255))
def wX0_tellByte (h_ : Nat) (v_divisor : Int32) (v_passed : Int32) (_u : Int32) : va_W := [oX0 h_ v_divisor v_passed]
set_option maxHeartbeats 4000000 in
set_option maxRecDepth 100000 in
theorem mX0_tellByte {l : Launch} (D : va_G) (h_ : Nat) (v_divisor : Int32) (v_passed : Int32) (p1 : Int32) (u0 : Int32) (hF : F_X0_tellByte p1 v_divisor = some u0) : MI l yX0_tellByte wsX0_tellByte { frames := 0, cells := 0, slots := 0, locals := 0 } D [] [.ref h_, .int p1] [oX0 h_ v_divisor v_passed] (wX0_tellByte h_ v_divisor v_passed u0) (u0) := by
  refine MI.ofW (cc := cX0_tellByte) (maxL := 2) (ret := (some .int)) (lv := [(0, .ref h_), (1, .int p1)]) (by decide +kernel) rfl (Nat.le_of_ble_eq_true rfl) rfl ?_
  intro p e s m args below meth c A ls hx hb hr hml hts hown hlocks hA hK hP hD hS hl
  replace hown : s.vm.findClass RX0 = some m.cls := hown
  have i_X0 : ∀ w ∈ wsX00, w ∈ wsX0_tellByte := by decide +kernel
  have f_9 := hts (.fieldLink RX0 9 "SerialPort$Divider" "divisor" "I") (by decide +kernel)
  have hret : ∀ (u : Int32) (v : Int32) (H : Heap) (locs : List Loc) (pc : Nat) (ls : Array Slot), va_P D vwCl (wX0_tellByte h_ v_divisor v_passed u) H → va_D A (wX0_tellByte h_ v_divisor v_passed u) → va_S A s.heap H locs → some u = some u0 → v = u → decode cX0_tellByte pc = .ok (.ireturn, 1) → W p l e { frames := 0, cells := 0, slots := 0, locals := 0 } s m args below meth c H locs 0 0 (QI below D [] (wX0_tellByte h_ v_divisor v_passed u0) (u0) args s A) (F0 m pc ls [.int v]) := fun u v H locs pc ls h1 h2 h3 h4 h5 h6 => rI (wf := wX0_tellByte h_ v_divisor v_passed) (rf := fun u => u) hx hb hr hlocks hK h1 h2 h3 h4 h5 h6
  unfold F_X0_tellByte at hF
  refine lv_iload_n hx hb dX0_tellByte_0 rfl (lv_at hl 1 rfl) ?_
  refine lv_if_ne (tgt := 15) hx hb dX0_tellByte_1 (by decide) (fun c1 => ?_) (fun c1 => ?_)
  · replace hF := it_f c1 hF
    refine lv_aload_n hx hb dX0_tellByte_15 rfl (lv_at hl 0 rfl) ?_
    refine va_get (D := D) (ci := 0) (v := .int v_divisor) (C := RX0) (T := TX0) (N := 2) hx hb hts i_X0 hown hK hP 0 rfl rfl 0 (Nat.le_of_ble_eq_true rfl) f_9 (fun _ h9 => h9) rfl dX0_tellByte_16 ?_
    refine lv_bipush (v := 8) hx hb dX0_tellByte_19 (by decide) ?_
    refine lv_ishr hx hb dX0_tellByte_21 ?_
    refine lv_sipush (v := 255) hx hb dX0_tellByte_22 (by decide) ?_
    refine lv_iand hx hb dX0_tellByte_25 ?_
    exact hret ((v_divisor >>> ((8 : Int32) &&& 31)) &&& 255) ((v_divisor >>> ((8 : Int32) &&& 31)) &&& 255) _ _ 26 _ hP hD hS hF rfl dX0_tellByte_26
  · replace hF := it_t c1 hF
    refine lv_aload_n hx hb dX0_tellByte_4 rfl (lv_at hl 0 rfl) ?_
    refine va_get (D := D) (ci := 0) (v := .int v_divisor) (C := RX0) (T := TX0) (N := 2) hx hb hts i_X0 hown hK hP 0 rfl rfl 0 (Nat.le_of_ble_eq_true rfl) f_9 (fun _ h9 => h9) rfl dX0_tellByte_5 ?_
    refine lv_sipush (v := 255) hx hb dX0_tellByte_8 (by decide) ?_
    refine lv_iand hx hb dX0_tellByte_11 ?_
    refine lv_goto (tgt := 26) hx hb dX0_tellByte_12 (by decide) ?_
    exact hret (v_divisor &&& 255) (v_divisor &&& 255) _ _ 26 _ hP hD hS hF rfl dX0_tellByte_26
def F_X0_pass (p1 : Int32) (v_divisor : Int32) (v_passed : Int32) : Option (Int32 × Int32) := if 0 < v_divisor then (lt1 (v_passed + p1) (fun x2 => gd (¬ v_divisor = 0) (lt1 (x2 - x2 / v_divisor * v_divisor) (fun x4 => gd (¬ v_divisor = 0) (some ((x2 / v_divisor), x4)))))) else (some (0, v_passed))
def wX0_pass (h_ : Nat) (v_divisor : Int32) (u : Int32 × Int32) : va_W := [oX0 h_ v_divisor u.2]
set_option maxHeartbeats 4000000 in
set_option maxRecDepth 100000 in
theorem mX0_pass {l : Launch} (D : va_G) (h_ : Nat) (v_divisor : Int32) (v_passed : Int32) (p1 : Int32) (u0 : Int32 × Int32) (hF : F_X0_pass p1 v_divisor v_passed = some u0) : MI l yX0_pass wsX0_pass { frames := 0, cells := 0, slots := 0, locals := 0 } D [] [.ref h_, .int p1] [oX0 h_ v_divisor v_passed] (wX0_pass h_ v_divisor u0) (u0.1) := by
  refine MI.ofW (cc := cX0_pass) (maxL := 3) (ret := (some .int)) (lv := [(0, .ref h_), (1, .int p1)]) (by decide +kernel) rfl (Nat.le_of_ble_eq_true rfl) rfl ?_
  intro p e s m args below meth c A ls hx hb hr hml hts hown hlocks hA hK hP hD hS hl
  replace hown : s.vm.findClass RX0 = some m.cls := hown
  have i_X0 : ∀ w ∈ wsX00, w ∈ wsX0_pass := by decide +kernel
  have f_9 := hts (.fieldLink RX0 9 "SerialPort$Divider" "divisor" "I") (by decide +kernel)
  have f_15 := hts (.fieldLink RX0 15 "SerialPort$Divider" "passed" "I") (by decide +kernel)
  have hret : ∀ (u : Int32 × Int32) (v : Int32) (H : Heap) (locs : List Loc) (pc : Nat) (ls : Array Slot), va_P D vwCl (wX0_pass h_ v_divisor u) H → va_D A (wX0_pass h_ v_divisor u) → va_S A s.heap H locs → some u = some u0 → v = u.1 → decode cX0_pass pc = .ok (.ireturn, 1) → W p l e { frames := 0, cells := 0, slots := 0, locals := 0 } s m args below meth c H locs 0 0 (QI below D [] (wX0_pass h_ v_divisor u0) (u0.1) args s A) (F0 m pc ls [.int v]) := fun u v H locs pc ls h1 h2 h3 h4 h5 h6 => rI (wf := wX0_pass h_ v_divisor) (rf := fun u => u.1) hx hb hr hlocks hK h1 h2 h3 h4 h5 h6
  unfold F_X0_pass at hF
  refine lv_aload_n hx hb dX0_pass_0 rfl (lv_at hl 0 rfl) ?_
  refine va_get (D := D) (ci := 0) (v := .int v_divisor) (C := RX0) (T := TX0) (N := 2) hx hb hts i_X0 hown hK hP 0 rfl rfl 0 (Nat.le_of_ble_eq_true rfl) f_9 (fun _ h9 => h9) rfl dX0_pass_1 ?_
  refine lv_if_gt (tgt := 9) hx hb dX0_pass_4 (by decide) (fun c1 => ?_) (fun c1 => ?_)
  · replace hF := it_t c1 hF
    refine lv_aload_n hx hb dX0_pass_9 rfl (lv_at hl 0 rfl) ?_
    refine va_get (D := D) (ci := 0) (v := .int v_passed) (C := RX0) (T := TX0) (N := 2) hx hb hts i_X0 hown hK hP 0 rfl rfl 1 (Nat.le_of_ble_eq_true rfl) f_15 (fun _ h9 => h9) rfl dX0_pass_10 ?_
    refine lv_iload_n hx hb dX0_pass_13 rfl (lv_at hl 1 rfl) ?_
    refine lv_iadd hx hb dX0_pass_14 ?_
    refine lv_topi (fun x2 ex2 => ?_)
    replace hF := lt1_x ex2 hF
    refine lv_istore_n (lv' := [(2, .int x2), (0, .ref h_), (1, .int p1)]) hx hb dX0_pass_15 rfl hl (Nat.le_of_ble_eq_true rfl) rfl (fun ls hl => ?_)
    refine lv_aload_n hx hb dX0_pass_16 rfl (lv_at hl 1 rfl) ?_
    refine lv_iload_n hx hb dX0_pass_17 rfl (lv_at hl 0 rfl) ?_
    refine lv_aload_n hx hb dX0_pass_18 rfl (lv_at hl 1 rfl) ?_
    refine va_get (D := D) (ci := 0) (v := .int v_divisor) (C := RX0) (T := TX0) (N := 2) hx hb hts i_X0 hown hK hP 0 rfl rfl 0 (Nat.le_of_ble_eq_true rfl) f_9 (fun _ h9 => h9) rfl dX0_pass_19 ?_
    obtain ⟨g3, hF⟩ := gd_el hF
    refine lv_irem hx hb dX0_pass_22 g3 ?_
    refine lv_topi (fun x4 ex4 => ?_)
    replace hF := lt1_x ex4 hF
    refine pf (ci := 0) (v := .int x4) (ty := .int) (C := RX0) (T := TX0) (N := 2) (ws' := [oX0 h_ v_divisor x4]) hx hb hts i_X0 tyX0_ok nmX0 hown hK hP hD hS 0 rfl rfl 1 (Nat.le_of_ble_eq_true rfl) f_15 rfl rfl (by decide +kernel) rfl rfl (Nat.le_of_ble_eq_true rfl) rfl dX0_pass_23 (fun H locs hP hD hS => ?_)
    refine lv_iload_n hx hb dX0_pass_26 rfl (lv_at hl 0 rfl) ?_
    refine lv_aload_n hx hb dX0_pass_27 rfl (lv_at hl 1 rfl) ?_
    refine va_get (D := D) (ci := 0) (v := .int v_divisor) (C := RX0) (T := TX0) (N := 2) hx hb hts i_X0 hown hK hP 0 rfl rfl 0 (Nat.le_of_ble_eq_true rfl) f_9 (fun _ h9 => h9) rfl dX0_pass_28 ?_
    obtain ⟨g5, hF⟩ := gd_el hF
    refine lv_idiv hx hb dX0_pass_31 g5 ?_
    exact hret ((x2 / v_divisor), x4) (x2 / v_divisor) _ _ 32 _ hP hD hS hF rfl dX0_pass_32
  · replace hF := it_f c1 hF
    refine lv_iconst (v := 0) hx hb dX0_pass_7 (by decide) ?_
    exact hret (0, v_passed) 0 _ _ 8 _ hP hD hS hF rfl dX0_pass_8
def F_X3_clear  (v_outputs : Int32) (v_pins : Int32) (v_state : Int32) (v_changes : Int32) : Option (Int32 × Int32 × Int32 × Int32) := some (0, 0, 0, 0)
def wX3_clear (h_ : Nat) (u : Int32 × Int32 × Int32 × Int32) : va_W := [oX3 h_ u.1 u.2.1 u.2.2.1 u.2.2.2]
set_option maxHeartbeats 4000000 in
set_option maxRecDepth 100000 in
theorem mX3_clear {l : Launch} (D : va_G) (h_ : Nat) (v_outputs : Int32) (v_pins : Int32) (v_state : Int32) (v_changes : Int32) (u0 : Int32 × Int32 × Int32 × Int32) (hF : F_X3_clear v_outputs v_pins v_state v_changes = some u0) : MV l yX3_clear wsX3_clear { frames := 0, cells := 0, slots := 0, locals := 0 } D [] [.ref h_] [oX3 h_ v_outputs v_pins v_state v_changes] (wX3_clear h_ u0) := by
  refine MV.ofW (cc := cX3_clear) (maxL := 1) (ret := none) (lv := [(0, .ref h_)]) (by decide +kernel) rfl (Nat.le_of_ble_eq_true rfl) rfl ?_
  intro p e s m args below meth c A ls hx hb hr hml hts hown hlocks hA hK hP hD hS hl
  replace hown : s.vm.findClass RX3 = some m.cls := hown
  have i_X3 : ∀ w ∈ wsX30, w ∈ wsX3_clear := by decide +kernel
  have f_7 := hts (.fieldLink RX3 7 "SerialPort$Modem" "outputs" "I") (by decide +kernel)
  have f_13 := hts (.fieldLink RX3 13 "SerialPort$Modem" "pins" "I") (by decide +kernel)
  have f_16 := hts (.fieldLink RX3 16 "SerialPort$Modem" "state" "I") (by decide +kernel)
  have f_19 := hts (.fieldLink RX3 19 "SerialPort$Modem" "changes" "I") (by decide +kernel)
  have hret : ∀ (u : Int32 × Int32 × Int32 × Int32) (H : Heap) (locs : List Loc) (pc : Nat) (ls : Array Slot), va_P D vwCl (wX3_clear h_ u) H → va_D A (wX3_clear h_ u) → va_S A s.heap H locs → some u = some u0 → decode cX3_clear pc = .ok (.return_, 1) → W p l e { frames := 0, cells := 0, slots := 0, locals := 0 } s m args below meth c H locs 0 0 (QV below D [] (wX3_clear h_ u0) args s A) (F0 m pc ls []) := fun u H locs pc ls h1 h2 h3 h4 h5 => rV (wf := wX3_clear h_) hx hb hr hlocks hK h1 h2 h3 h4 h5
  unfold F_X3_clear at hF
  refine lv_aload_n hx hb dX3_clear_0 rfl (lv_at hl 0 rfl) ?_
  refine lv_iconst (v := 0) hx hb dX3_clear_1 (by decide) ?_
  refine pf (ci := 3) (v := .int 0) (ty := .int) (C := RX3) (T := TX3) (N := 4) (ws' := [oX3 h_ 0 v_pins v_state v_changes]) hx hb hts i_X3 tyX3_ok nmX3 hown hK hP hD hS 0 rfl rfl 0 (Nat.le_of_ble_eq_true rfl) f_7 rfl rfl (by decide +kernel) rfl rfl (Nat.le_of_ble_eq_true rfl) rfl dX3_clear_2 (fun H locs hP hD hS => ?_)
  refine lv_aload_n hx hb dX3_clear_5 rfl (lv_at hl 0 rfl) ?_
  refine lv_iconst (v := 0) hx hb dX3_clear_6 (by decide) ?_
  refine pf (ci := 3) (v := .int 0) (ty := .int) (C := RX3) (T := TX3) (N := 4) (ws' := [oX3 h_ 0 0 v_state v_changes]) hx hb hts i_X3 tyX3_ok nmX3 hown hK hP hD hS 0 rfl rfl 1 (Nat.le_of_ble_eq_true rfl) f_13 rfl rfl (by decide +kernel) rfl rfl (Nat.le_of_ble_eq_true rfl) rfl dX3_clear_7 (fun H locs hP hD hS => ?_)
  refine lv_aload_n hx hb dX3_clear_10 rfl (lv_at hl 0 rfl) ?_
  refine lv_iconst (v := 0) hx hb dX3_clear_11 (by decide) ?_
  refine pf (ci := 3) (v := .int 0) (ty := .int) (C := RX3) (T := TX3) (N := 4) (ws' := [oX3 h_ 0 0 0 v_changes]) hx hb hts i_X3 tyX3_ok nmX3 hown hK hP hD hS 0 rfl rfl 2 (Nat.le_of_ble_eq_true rfl) f_16 rfl rfl (by decide +kernel) rfl rfl (Nat.le_of_ble_eq_true rfl) rfl dX3_clear_12 (fun H locs hP hD hS => ?_)
  refine lv_aload_n hx hb dX3_clear_15 rfl (lv_at hl 0 rfl) ?_
  refine lv_iconst (v := 0) hx hb dX3_clear_16 (by decide) ?_
  refine pf (ci := 3) (v := .int 0) (ty := .int) (C := RX3) (T := TX3) (N := 4) (ws' := [oX3 h_ 0 0 0 0]) hx hb hts i_X3 tyX3_ok nmX3 hown hK hP hD hS 0 rfl rfl 3 (Nat.le_of_ble_eq_true rfl) f_19 rfl rfl (by decide +kernel) rfl rfl (Nat.le_of_ble_eq_true rfl) rfl dX3_clear_17 (fun H locs hP hD hS => ?_)
  exact hret (0, 0, 0, 0) _ _ 20 _ hP hD hS hF dX3_clear_20
def F_X3_outputs  (v_outputs : Int32) : Option (Int32) := some v_outputs
def wX3_outputs (h_ : Nat) (v_outputs : Int32) (v_pins : Int32) (v_state : Int32) (v_changes : Int32) (_u : Int32) : va_W := [oX3 h_ v_outputs v_pins v_state v_changes]
set_option maxHeartbeats 4000000 in
set_option maxRecDepth 100000 in
theorem mX3_outputs {l : Launch} (D : va_G) (h_ : Nat) (v_outputs : Int32) (v_pins : Int32) (v_state : Int32) (v_changes : Int32) (u0 : Int32) (hF : F_X3_outputs v_outputs = some u0) : MI l yX3_outputs wsX3_outputs { frames := 0, cells := 0, slots := 0, locals := 0 } D [] [.ref h_] [oX3 h_ v_outputs v_pins v_state v_changes] (wX3_outputs h_ v_outputs v_pins v_state v_changes u0) (u0) := by
  refine MI.ofW (cc := cX3_outputs) (maxL := 1) (ret := (some .int)) (lv := [(0, .ref h_)]) (by decide +kernel) rfl (Nat.le_of_ble_eq_true rfl) rfl ?_
  intro p e s m args below meth c A ls hx hb hr hml hts hown hlocks hA hK hP hD hS hl
  replace hown : s.vm.findClass RX3 = some m.cls := hown
  have i_X3 : ∀ w ∈ wsX30, w ∈ wsX3_outputs := by decide +kernel
  have f_7 := hts (.fieldLink RX3 7 "SerialPort$Modem" "outputs" "I") (by decide +kernel)
  have hret : ∀ (u : Int32) (v : Int32) (H : Heap) (locs : List Loc) (pc : Nat) (ls : Array Slot), va_P D vwCl (wX3_outputs h_ v_outputs v_pins v_state v_changes u) H → va_D A (wX3_outputs h_ v_outputs v_pins v_state v_changes u) → va_S A s.heap H locs → some u = some u0 → v = u → decode cX3_outputs pc = .ok (.ireturn, 1) → W p l e { frames := 0, cells := 0, slots := 0, locals := 0 } s m args below meth c H locs 0 0 (QI below D [] (wX3_outputs h_ v_outputs v_pins v_state v_changes u0) (u0) args s A) (F0 m pc ls [.int v]) := fun u v H locs pc ls h1 h2 h3 h4 h5 h6 => rI (wf := wX3_outputs h_ v_outputs v_pins v_state v_changes) (rf := fun u => u) hx hb hr hlocks hK h1 h2 h3 h4 h5 h6
  unfold F_X3_outputs at hF
  refine lv_aload_n hx hb dX3_outputs_0 rfl (lv_at hl 0 rfl) ?_
  refine va_get (D := D) (ci := 3) (v := .int v_outputs) (C := RX3) (T := TX3) (N := 4) hx hb hts i_X3 hown hK hP 0 rfl rfl 0 (Nat.le_of_ble_eq_true rfl) f_7 (fun _ h9 => h9) rfl dX3_outputs_1 ?_
  exact hret v_outputs v_outputs _ _ 4 _ hP hD hS hF rfl dX3_outputs_4
def F_X3_loops  (v_outputs : Int32) : Option (Bool) := if (v_outputs &&& 16) = 0 then (some false) else (some true)
def wX3_loops (h_ : Nat) (v_outputs : Int32) (v_pins : Int32) (v_state : Int32) (v_changes : Int32) (_u : Bool) : va_W := [oX3 h_ v_outputs v_pins v_state v_changes]
set_option maxHeartbeats 4000000 in
set_option maxRecDepth 100000 in
theorem mX3_loops {l : Launch} (D : va_G) (h_ : Nat) (v_outputs : Int32) (v_pins : Int32) (v_state : Int32) (v_changes : Int32) (u0 : Bool) (hF : F_X3_loops v_outputs = some u0) : MI l yX3_loops wsX3_loops { frames := 0, cells := 0, slots := 0, locals := 0 } D [] [.ref h_] [oX3 h_ v_outputs v_pins v_state v_changes] (wX3_loops h_ v_outputs v_pins v_state v_changes u0) (bI u0) := by
  refine MI.ofW (cc := cX3_loops) (maxL := 1) (ret := (some .boolean)) (lv := [(0, .ref h_)]) (by decide +kernel) rfl (Nat.le_of_ble_eq_true rfl) rfl ?_
  intro p e s m args below meth c A ls hx hb hr hml hts hown hlocks hA hK hP hD hS hl
  replace hown : s.vm.findClass RX3 = some m.cls := hown
  have i_X3 : ∀ w ∈ wsX30, w ∈ wsX3_loops := by decide +kernel
  have f_7 := hts (.fieldLink RX3 7 "SerialPort$Modem" "outputs" "I") (by decide +kernel)
  have hret : ∀ (u : Bool) (v : Int32) (H : Heap) (locs : List Loc) (pc : Nat) (ls : Array Slot), va_P D vwCl (wX3_loops h_ v_outputs v_pins v_state v_changes u) H → va_D A (wX3_loops h_ v_outputs v_pins v_state v_changes u) → va_S A s.heap H locs → some u = some u0 → v = bI u → decode cX3_loops pc = .ok (.ireturn, 1) → W p l e { frames := 0, cells := 0, slots := 0, locals := 0 } s m args below meth c H locs 0 0 (QI below D [] (wX3_loops h_ v_outputs v_pins v_state v_changes u0) (bI u0) args s A) (F0 m pc ls [.int v]) := fun u v H locs pc ls h1 h2 h3 h4 h5 h6 => rZ (wf := wX3_loops h_ v_outputs v_pins v_state v_changes) (rf := fun u => u) hx hb hr hlocks hK h1 h2 h3 h4 h5 h6
  unfold F_X3_loops at hF
  refine lv_aload_n hx hb dX3_loops_0 rfl (lv_at hl 0 rfl) ?_
  refine va_get (D := D) (ci := 3) (v := .int v_outputs) (C := RX3) (T := TX3) (N := 4) hx hb hts i_X3 hown hK hP 0 rfl rfl 0 (Nat.le_of_ble_eq_true rfl) f_7 (fun _ h9 => h9) rfl dX3_loops_1 ?_
  refine lv_bipush (v := 16) hx hb dX3_loops_4 (by decide) ?_
  refine lv_iand hx hb dX3_loops_6 ?_
  refine lv_if_eq (tgt := 14) hx hb dX3_loops_7 (by decide) (fun c1 => ?_) (fun c1 => ?_)
  · replace hF := it_t c1 hF
    refine lv_iconst (v := 0) hx hb dX3_loops_14 (by decide) ?_
    exact hret false 0 _ _ 15 _ hP hD hS hF rfl dX3_loops_15
  · replace hF := it_f c1 hF
    refine lv_iconst (v := 1) hx hb dX3_loops_10 (by decide) ?_
    refine lv_goto (tgt := 15) hx hb dX3_loops_11 (by decide) ?_
    exact hret true 1 _ _ 15 _ hP hD hS hF rfl dX3_loops_15
def F_X3_hasChanged  (v_changes : Int32) : Option (Bool) := if v_changes = 0 then (some false) else (some true)
def wX3_hasChanged (h_ : Nat) (v_outputs : Int32) (v_pins : Int32) (v_state : Int32) (v_changes : Int32) (_u : Bool) : va_W := [oX3 h_ v_outputs v_pins v_state v_changes]
set_option maxHeartbeats 4000000 in
set_option maxRecDepth 100000 in
theorem mX3_hasChanged {l : Launch} (D : va_G) (h_ : Nat) (v_outputs : Int32) (v_pins : Int32) (v_state : Int32) (v_changes : Int32) (u0 : Bool) (hF : F_X3_hasChanged v_changes = some u0) : MI l yX3_hasChanged wsX3_hasChanged { frames := 0, cells := 0, slots := 0, locals := 0 } D [] [.ref h_] [oX3 h_ v_outputs v_pins v_state v_changes] (wX3_hasChanged h_ v_outputs v_pins v_state v_changes u0) (bI u0) := by
  refine MI.ofW (cc := cX3_hasChanged) (maxL := 1) (ret := (some .boolean)) (lv := [(0, .ref h_)]) (by decide +kernel) rfl (Nat.le_of_ble_eq_true rfl) rfl ?_
  intro p e s m args below meth c A ls hx hb hr hml hts hown hlocks hA hK hP hD hS hl
  replace hown : s.vm.findClass RX3 = some m.cls := hown
  have i_X3 : ∀ w ∈ wsX30, w ∈ wsX3_hasChanged := by decide +kernel
  have f_19 := hts (.fieldLink RX3 19 "SerialPort$Modem" "changes" "I") (by decide +kernel)
  have hret : ∀ (u : Bool) (v : Int32) (H : Heap) (locs : List Loc) (pc : Nat) (ls : Array Slot), va_P D vwCl (wX3_hasChanged h_ v_outputs v_pins v_state v_changes u) H → va_D A (wX3_hasChanged h_ v_outputs v_pins v_state v_changes u) → va_S A s.heap H locs → some u = some u0 → v = bI u → decode cX3_hasChanged pc = .ok (.ireturn, 1) → W p l e { frames := 0, cells := 0, slots := 0, locals := 0 } s m args below meth c H locs 0 0 (QI below D [] (wX3_hasChanged h_ v_outputs v_pins v_state v_changes u0) (bI u0) args s A) (F0 m pc ls [.int v]) := fun u v H locs pc ls h1 h2 h3 h4 h5 h6 => rZ (wf := wX3_hasChanged h_ v_outputs v_pins v_state v_changes) (rf := fun u => u) hx hb hr hlocks hK h1 h2 h3 h4 h5 h6
  unfold F_X3_hasChanged at hF
  refine lv_aload_n hx hb dX3_hasChanged_0 rfl (lv_at hl 0 rfl) ?_
  refine va_get (D := D) (ci := 3) (v := .int v_changes) (C := RX3) (T := TX3) (N := 4) hx hb hts i_X3 hown hK hP 0 rfl rfl 3 (Nat.le_of_ble_eq_true rfl) f_19 (fun _ h9 => h9) rfl dX3_hasChanged_1 ?_
  refine lv_if_eq (tgt := 11) hx hb dX3_hasChanged_4 (by decide) (fun c1 => ?_) (fun c1 => ?_)
  · replace hF := it_t c1 hF
    refine lv_iconst (v := 0) hx hb dX3_hasChanged_11 (by decide) ?_
    exact hret false 0 _ _ 12 _ hP hD hS hF rfl dX3_hasChanged_12
  · replace hF := it_f c1 hF
    refine lv_iconst (v := 1) hx hb dX3_hasChanged_7 (by decide) ?_
    refine lv_goto (tgt := 12) hx hb dX3_hasChanged_8 (by decide) ?_
    exact hret true 1 _ _ 12 _ hP hD hS hF rfl dX3_hasChanged_12
def F_X3_looped  (v_outputs : Int32) : Option (Int32) := some ((((v_outputs >>> ((1 : Int32) &&& 31)) &&& 1) ||| ((v_outputs <<< ((1 : Int32) &&& 31)) &&& 2)) ||| (v_outputs &&& 12))
def wX3_looped (h_ : Nat) (v_outputs : Int32) (v_pins : Int32) (v_state : Int32) (v_changes : Int32) (_u : Int32) : va_W := [oX3 h_ v_outputs v_pins v_state v_changes]
set_option maxHeartbeats 4000000 in
set_option maxRecDepth 100000 in
theorem mX3_looped {l : Launch} (D : va_G) (h_ : Nat) (v_outputs : Int32) (v_pins : Int32) (v_state : Int32) (v_changes : Int32) (u0 : Int32) (hF : F_X3_looped v_outputs = some u0) : MI l yX3_looped wsX3_looped { frames := 0, cells := 0, slots := 0, locals := 0 } D [] [.ref h_] [oX3 h_ v_outputs v_pins v_state v_changes] (wX3_looped h_ v_outputs v_pins v_state v_changes u0) (u0) := by
  refine MI.ofW (cc := cX3_looped) (maxL := 1) (ret := (some .int)) (lv := [(0, .ref h_)]) (by decide +kernel) rfl (Nat.le_of_ble_eq_true rfl) rfl ?_
  intro p e s m args below meth c A ls hx hb hr hml hts hown hlocks hA hK hP hD hS hl
  replace hown : s.vm.findClass RX3 = some m.cls := hown
  have i_X3 : ∀ w ∈ wsX30, w ∈ wsX3_looped := by decide +kernel
  have f_7 := hts (.fieldLink RX3 7 "SerialPort$Modem" "outputs" "I") (by decide +kernel)
  have hret : ∀ (u : Int32) (v : Int32) (H : Heap) (locs : List Loc) (pc : Nat) (ls : Array Slot), va_P D vwCl (wX3_looped h_ v_outputs v_pins v_state v_changes u) H → va_D A (wX3_looped h_ v_outputs v_pins v_state v_changes u) → va_S A s.heap H locs → some u = some u0 → v = u → decode cX3_looped pc = .ok (.ireturn, 1) → W p l e { frames := 0, cells := 0, slots := 0, locals := 0 } s m args below meth c H locs 0 0 (QI below D [] (wX3_looped h_ v_outputs v_pins v_state v_changes u0) (u0) args s A) (F0 m pc ls [.int v]) := fun u v H locs pc ls h1 h2 h3 h4 h5 h6 => rI (wf := wX3_looped h_ v_outputs v_pins v_state v_changes) (rf := fun u => u) hx hb hr hlocks hK h1 h2 h3 h4 h5 h6
  unfold F_X3_looped at hF
  refine lv_aload_n hx hb dX3_looped_0 rfl (lv_at hl 0 rfl) ?_
  refine va_get (D := D) (ci := 3) (v := .int v_outputs) (C := RX3) (T := TX3) (N := 4) hx hb hts i_X3 hown hK hP 0 rfl rfl 0 (Nat.le_of_ble_eq_true rfl) f_7 (fun _ h9 => h9) rfl dX3_looped_1 ?_
  refine lv_iconst (v := 1) hx hb dX3_looped_4 (by decide) ?_
  refine lv_ishr hx hb dX3_looped_5 ?_
  refine lv_iconst (v := 1) hx hb dX3_looped_6 (by decide) ?_
  refine lv_iand hx hb dX3_looped_7 ?_
  refine lv_aload_n hx hb dX3_looped_8 rfl (lv_at hl 0 rfl) ?_
  refine va_get (D := D) (ci := 3) (v := .int v_outputs) (C := RX3) (T := TX3) (N := 4) hx hb hts i_X3 hown hK hP 0 rfl rfl 0 (Nat.le_of_ble_eq_true rfl) f_7 (fun _ h9 => h9) rfl dX3_looped_9 ?_
  refine lv_iconst (v := 1) hx hb dX3_looped_12 (by decide) ?_
  refine lv_ishl hx hb dX3_looped_13 ?_
  refine lv_iconst (v := 2) hx hb dX3_looped_14 (by decide) ?_
  refine lv_iand hx hb dX3_looped_15 ?_
  refine lv_ior hx hb dX3_looped_16 ?_
  refine lv_aload_n hx hb dX3_looped_17 rfl (lv_at hl 0 rfl) ?_
  refine va_get (D := D) (ci := 3) (v := .int v_outputs) (C := RX3) (T := TX3) (N := 4) hx hb hts i_X3 hown hK hP 0 rfl rfl 0 (Nat.le_of_ble_eq_true rfl) f_7 (fun _ h9 => h9) rfl dX3_looped_18 ?_
  refine lv_bipush (v := 12) hx hb dX3_looped_21 (by decide) ?_
  refine lv_iand hx hb dX3_looped_23 ?_
  refine lv_ior hx hb dX3_looped_24 ?_
  exact hret ((((v_outputs >>> ((1 : Int32) &&& 31)) &&& 1) ||| ((v_outputs <<< ((1 : Int32) &&& 31)) &&& 2)) ||| (v_outputs &&& 12)) ((((v_outputs >>> ((1 : Int32) &&& 31)) &&& 1) ||| ((v_outputs <<< ((1 : Int32) &&& 31)) &&& 2)) ||| (v_outputs &&& 12)) _ _ 25 _ hP hD hS hF rfl dX3_looped_25
def F_X3_follow_18 (v_outputs : Int32) (v_pins : Int32) (s0 : Int32) (v_state : Int32) (v_changes : Int32) : Option (Int32 × Int32) := lt1 (s0 ^^^ v_state) (fun x1 => lt1 (v_changes ||| ((x1 &&& (-5)) ||| ((x1 &&& v_state) &&& 4))) (fun x2 => some (s0, x2)))
def F_X3_follow  (v_outputs : Int32) (v_pins : Int32) (v_state : Int32) (v_changes : Int32) : Option (Int32 × Int32) := bd (F_X3_loops v_outputs) (fun u3 => bt u3 (bd (F_X3_looped v_outputs) (fun u5 => F_X3_follow_18 v_outputs v_pins u5 v_state v_changes)) (F_X3_follow_18 v_outputs v_pins v_pins v_state v_changes))
def wX3_follow (h_ : Nat) (v_outputs : Int32) (v_pins : Int32) (u : Int32 × Int32) : va_W := [oX3 h_ v_outputs v_pins u.1 u.2]
set_option maxHeartbeats 4000000 in
set_option maxRecDepth 100000 in
theorem mX3_follow {l : Launch} (D : va_G) (h_ : Nat) (v_outputs : Int32) (v_pins : Int32) (v_state : Int32) (v_changes : Int32) (u0 : Int32 × Int32) (hF : F_X3_follow v_outputs v_pins v_state v_changes = some u0) : MV l yX3_follow wsX3_follow { frames := 1, cells := 0, slots := 0, locals := 20 } D [] [.ref h_] [oX3 h_ v_outputs v_pins v_state v_changes] (wX3_follow h_ v_outputs v_pins u0) := by
  refine MV.ofW (cc := cX3_follow) (maxL := 3) (ret := none) (lv := [(0, .ref h_)]) (by decide +kernel) rfl (Nat.le_of_ble_eq_true rfl) rfl ?_
  intro p e s m args below meth c A ls hx hb hr hml hts hown hlocks hA hK hP hD hS hl
  replace hown : s.vm.findClass RX3 = some m.cls := hown
  have i_X3 : ∀ w ∈ wsX30, w ∈ wsX3_follow := by decide +kernel
  have f_13 := hts (.fieldLink RX3 13 "SerialPort$Modem" "pins" "I") (by decide +kernel)
  have f_16 := hts (.fieldLink RX3 16 "SerialPort$Modem" "state" "I") (by decide +kernel)
  have f_19 := hts (.fieldLink RX3 19 "SerialPort$Modem" "changes" "I") (by decide +kernel)
  have hret : ∀ (u : Int32 × Int32) (H : Heap) (locs : List Loc) (pc : Nat) (ls : Array Slot), va_P D vwCl (wX3_follow h_ v_outputs v_pins u) H → va_D A (wX3_follow h_ v_outputs v_pins u) → va_S A s.heap H locs → some u = some u0 → decode cX3_follow pc = .ok (.return_, 1) → W p l e { frames := 1, cells := 0, slots := 0, locals := 20 } s m args below meth c H locs 0 0 (QV below D [] (wX3_follow h_ v_outputs v_pins u0) args s A) (F0 m pc ls []) := fun u H locs pc ls h1 h2 h3 h4 h5 => rV (wf := wX3_follow h_ v_outputs v_pins) hx hb hr hlocks hK h1 h2 h3 h4 h5
  have J18 : ∀ (s0 : Int32) (v_state : Int32) (v_changes : Int32) (H : Heap) (locs : List Loc) (ls : Array Slot), F_X3_follow_18 v_outputs v_pins s0 v_state v_changes = some u0 → lv_has ls 3 [(0, .ref h_)] → va_P D vwCl [oX3 h_ v_outputs v_pins v_state v_changes] H → va_D A [oX3 h_ v_outputs v_pins v_state v_changes] → va_S A s.heap H locs → W p l e { frames := 1, cells := 0, slots := 0, locals := 20 } s m args below meth c H locs 0 0 (QV below D [] (wX3_follow h_ v_outputs v_pins u0) args s A) (F0 m 18 ls [.int s0]) := by
    intro s0 v_state v_changes H locs ls hF hl hP hD hS
    unfold F_X3_follow_18 at hF
    refine lv_istore_n (lv' := [(1, .int s0), (0, .ref h_)]) hx hb dX3_follow_18 rfl hl (Nat.le_of_ble_eq_true rfl) rfl (fun ls hl => ?_)
    refine lv_iload_n hx hb dX3_follow_19 rfl (lv_at hl 0 rfl) ?_
    refine lv_aload_n hx hb dX3_follow_20 rfl (lv_at hl 1 rfl) ?_
    refine va_get (D := D) (ci := 3) (v := .int v_state) (C := RX3) (T := TX3) (N := 4) hx hb hts i_X3 hown hK hP 0 rfl rfl 2 (Nat.le_of_ble_eq_true rfl) f_16 (fun _ h9 => h9) rfl dX3_follow_21 ?_
    refine lv_ixor hx hb dX3_follow_24 ?_
    refine lv_topi (fun x1 ex1 => ?_)
    replace hF := lt1_x ex1 hF
    refine lv_istore_n (lv' := [(2, .int x1), (1, .int s0), (0, .ref h_)]) hx hb dX3_follow_25 rfl hl (Nat.le_of_ble_eq_true rfl) rfl (fun ls hl => ?_)
    refine lv_aload_n hx hb dX3_follow_26 rfl (lv_at hl 2 rfl) ?_
    refine lv_dup hx hb dX3_follow_27 rfl ?_
    refine va_get (D := D) (ci := 3) (v := .int v_changes) (C := RX3) (T := TX3) (N := 4) hx hb hts i_X3 hown hK hP 0 rfl rfl 3 (Nat.le_of_ble_eq_true rfl) f_19 (fun _ h9 => h9) rfl dX3_follow_28 ?_
    refine lv_iload_n hx hb dX3_follow_31 rfl (lv_at hl 0 rfl) ?_
    refine lv_bipush (v := (-5)) hx hb dX3_follow_32 (by decide) ?_
    refine lv_iand hx hb dX3_follow_34 ?_
    refine lv_iload_n hx hb dX3_follow_35 rfl (lv_at hl 0 rfl) ?_
    refine lv_aload_n hx hb dX3_follow_36 rfl (lv_at hl 2 rfl) ?_
    refine va_get (D := D) (ci := 3) (v := .int v_state) (C := RX3) (T := TX3) (N := 4) hx hb hts i_X3 hown hK hP 0 rfl rfl 2 (Nat.le_of_ble_eq_true rfl) f_16 (fun _ h9 => h9) rfl dX3_follow_37 ?_
    refine lv_iand hx hb dX3_follow_40 ?_
    refine lv_iconst (v := 4) hx hb dX3_follow_41 (by decide) ?_
    refine lv_iand hx hb dX3_follow_42 ?_
    refine lv_ior hx hb dX3_follow_43 ?_
    refine lv_ior hx hb dX3_follow_44 ?_
    refine lv_topi (fun x2 ex2 => ?_)
    replace hF := lt1_x ex2 hF
    refine pf (ci := 3) (v := .int x2) (ty := .int) (C := RX3) (T := TX3) (N := 4) (ws' := [oX3 h_ v_outputs v_pins v_state x2]) hx hb hts i_X3 tyX3_ok nmX3 hown hK hP hD hS 0 rfl rfl 3 (Nat.le_of_ble_eq_true rfl) f_19 rfl rfl (by decide +kernel) rfl rfl (Nat.le_of_ble_eq_true rfl) rfl dX3_follow_45 (fun H locs hP hD hS => ?_)
    refine lv_aload_n hx hb dX3_follow_48 rfl (lv_at hl 2 rfl) ?_
    refine lv_iload_n hx hb dX3_follow_49 rfl (lv_at hl 1 rfl) ?_
    refine pf (ci := 3) (v := .int s0) (ty := .int) (C := RX3) (T := TX3) (N := 4) (ws' := [oX3 h_ v_outputs v_pins s0 x2]) hx hb hts i_X3 tyX3_ok nmX3 hown hK hP hD hS 0 rfl rfl 2 (Nat.le_of_ble_eq_true rfl) f_16 rfl rfl (by decide +kernel) rfl rfl (Nat.le_of_ble_eq_true rfl) rfl dX3_follow_50 (fun H locs hP hD hS => ?_)
    exact hret (s0, x2) _ _ 53 _ hP hD hS hF dX3_follow_53
  unfold F_X3_follow at hF
  refine lv_aload_n hx hb dX3_follow_0 rfl (lv_at hl 0 rfl) ?_
  obtain ⟨u3, hu3, hF⟩ := bd_el hF
  refine cVI (q0 := 0) (ci := 3) (As := []) (rest := []) (wr := []) (ws' := [oX3 h_ v_outputs v_pins v_state v_changes]) (rv := bI u3) ⟨hx, hb, hml, hown, hts⟩ (mX3_loops D h_ v_outputs v_pins v_state v_changes u3 hu3) (cwV 0 hts gX3_follow_X3_loops rfl rfl rfl (by decide +kernel) ⟨Nat.le_of_ble_eq_true rfl, Nat.le_of_ble_eq_true rfl⟩) hK hP hD hS hA [] [0] [] [0] rfl rfl rfl rfl rfl rfl rfl rfl rfl hl.1 rfl (Nat.le_of_ble_eq_true rfl) rfl dX3_follow_1 ⟨Nat.le_refl _, Nat.le_refl _⟩ (fun H locs hP hD hS => ?_)
  refine lv_if_eq (tgt := 14) hx hb dX3_follow_4 (by decide) (fun c4 => ?_) (fun c4 => ?_)
  · replace hF := bt_f (bI_0 c4) hF
    refine lv_aload_n hx hb dX3_follow_14 rfl (lv_at hl 0 rfl) ?_
    refine va_get (D := D) (ci := 3) (v := .int v_pins) (C := RX3) (T := TX3) (N := 4) hx hb hts i_X3 hown hK hP 0 rfl rfl 1 (Nat.le_of_ble_eq_true rfl) f_13 (fun _ h9 => h9) rfl dX3_follow_15 ?_
    exact J18 v_pins v_state v_changes _ _ _ hF hl hP hD hS
  · replace hF := bt_t (bI_n0 c4) hF
    refine lv_aload_n hx hb dX3_follow_7 rfl (lv_at hl 0 rfl) ?_
    obtain ⟨u5, hu5, hF⟩ := bd_el hF
    refine cVI (q0 := 0) (ci := 3) (As := []) (rest := []) (wr := []) (ws' := [oX3 h_ v_outputs v_pins v_state v_changes]) (rv := u5) ⟨hx, hb, hml, hown, hts⟩ (mX3_looped D h_ v_outputs v_pins v_state v_changes u5 hu5) (cwV 0 hts gX3_follow_X3_looped rfl rfl rfl (by decide +kernel) ⟨Nat.le_of_ble_eq_true rfl, Nat.le_of_ble_eq_true rfl⟩) hK hP hD hS hA [] [0] [] [0] rfl rfl rfl rfl rfl rfl rfl rfl rfl hl.1 rfl (Nat.le_of_ble_eq_true rfl) rfl dX3_follow_8 ⟨Nat.le_refl _, Nat.le_refl _⟩ (fun H locs hP hD hS => ?_)
    refine lv_goto (tgt := 18) hx hb dX3_follow_11 (by decide) ?_
    exact J18 u5 v_state v_changes _ _ _ hF hl hP hD hS
def F_X3_putOutputs (p1 : Int32) (v_outputs : Int32) (v_pins : Int32) (v_state : Int32) (v_changes : Int32) : Option (Int32 × Int32 × Int32) := bd (F_X3_follow p1 v_pins v_state v_changes) (fun u1 => some (p1, u1.1, u1.2))
def wX3_putOutputs (h_ : Nat) (v_pins : Int32) (u : Int32 × Int32 × Int32) : va_W := [oX3 h_ u.1 v_pins u.2.1 u.2.2]
set_option maxHeartbeats 4000000 in
set_option maxRecDepth 100000 in
theorem mX3_putOutputs {l : Launch} (D : va_G) (h_ : Nat) (v_outputs : Int32) (v_pins : Int32) (v_state : Int32) (v_changes : Int32) (p1 : Int32) (u0 : Int32 × Int32 × Int32) (hF : F_X3_putOutputs p1 v_outputs v_pins v_state v_changes = some u0) : MV l yX3_putOutputs wsX3_putOutputs { frames := 2, cells := 0, slots := 0, locals := 42 } D [] [.ref h_, .int p1] [oX3 h_ v_outputs v_pins v_state v_changes] (wX3_putOutputs h_ v_pins u0) := by
  refine MV.ofW (cc := cX3_putOutputs) (maxL := 2) (ret := none) (lv := [(0, .ref h_), (1, .int p1)]) (by decide +kernel) rfl (Nat.le_of_ble_eq_true rfl) rfl ?_
  intro p e s m args below meth c A ls hx hb hr hml hts hown hlocks hA hK hP hD hS hl
  replace hown : s.vm.findClass RX3 = some m.cls := hown
  have i_X3 : ∀ w ∈ wsX30, w ∈ wsX3_putOutputs := by decide +kernel
  have f_7 := hts (.fieldLink RX3 7 "SerialPort$Modem" "outputs" "I") (by decide +kernel)
  have hret : ∀ (u : Int32 × Int32 × Int32) (H : Heap) (locs : List Loc) (pc : Nat) (ls : Array Slot), va_P D vwCl (wX3_putOutputs h_ v_pins u) H → va_D A (wX3_putOutputs h_ v_pins u) → va_S A s.heap H locs → some u = some u0 → decode cX3_putOutputs pc = .ok (.return_, 1) → W p l e { frames := 2, cells := 0, slots := 0, locals := 42 } s m args below meth c H locs 0 0 (QV below D [] (wX3_putOutputs h_ v_pins u0) args s A) (F0 m pc ls []) := fun u H locs pc ls h1 h2 h3 h4 h5 => rV (wf := wX3_putOutputs h_ v_pins) hx hb hr hlocks hK h1 h2 h3 h4 h5
  unfold F_X3_putOutputs at hF
  refine lv_aload_n hx hb dX3_putOutputs_0 rfl (lv_at hl 0 rfl) ?_
  refine lv_iload_n hx hb dX3_putOutputs_1 rfl (lv_at hl 1 rfl) ?_
  refine pf (ci := 3) (v := .int p1) (ty := .int) (C := RX3) (T := TX3) (N := 4) (ws' := [oX3 h_ p1 v_pins v_state v_changes]) hx hb hts i_X3 tyX3_ok nmX3 hown hK hP hD hS 0 rfl rfl 0 (Nat.le_of_ble_eq_true rfl) f_7 rfl rfl (by decide +kernel) rfl rfl (Nat.le_of_ble_eq_true rfl) rfl dX3_putOutputs_2 (fun H locs hP hD hS => ?_)
  refine lv_aload_n hx hb dX3_putOutputs_5 rfl (lv_at hl 0 rfl) ?_
  obtain ⟨u1, hu1, hF⟩ := bd_el hF
  refine cVV (q0 := 0) (ci := 3) (As := []) (rest := []) (wr := []) (ws' := [oX3 h_ p1 v_pins u1.1 u1.2]) ⟨hx, hb, hml, hown, hts⟩ (mX3_follow D h_ p1 v_pins v_state v_changes u1 hu1) (cwV 0 hts gX3_putOutputs_X3_follow rfl rfl rfl (by decide +kernel) ⟨Nat.le_of_ble_eq_true rfl, Nat.le_of_ble_eq_true rfl⟩) hK hP hD hS hA [] [0] [] [0] rfl rfl rfl rfl rfl rfl rfl rfl rfl hl.1 rfl (Nat.le_of_ble_eq_true rfl) dX3_putOutputs_6 ⟨Nat.le_refl _, Nat.le_refl _⟩ (fun H locs hP hD hS => ?_)
  exact hret (p1, u1.1, u1.2) _ _ 9 _ hP hD hS hF dX3_putOutputs_9
def F_X3_putPins (p1 : Int32) (v_outputs : Int32) (v_pins : Int32) (v_state : Int32) (v_changes : Int32) : Option (Int32 × Int32 × Int32) := bd (F_X3_follow v_outputs p1 v_state v_changes) (fun u1 => some (p1, u1.1, u1.2))
def wX3_putPins (h_ : Nat) (v_outputs : Int32) (u : Int32 × Int32 × Int32) : va_W := [oX3 h_ v_outputs u.1 u.2.1 u.2.2]
set_option maxHeartbeats 4000000 in
set_option maxRecDepth 100000 in
theorem mX3_putPins {l : Launch} (D : va_G) (h_ : Nat) (v_outputs : Int32) (v_pins : Int32) (v_state : Int32) (v_changes : Int32) (p1 : Int32) (u0 : Int32 × Int32 × Int32) (hF : F_X3_putPins p1 v_outputs v_pins v_state v_changes = some u0) : MV l yX3_putPins wsX3_putPins { frames := 2, cells := 0, slots := 0, locals := 42 } D [] [.ref h_, .int p1] [oX3 h_ v_outputs v_pins v_state v_changes] (wX3_putPins h_ v_outputs u0) := by
  refine MV.ofW (cc := cX3_putPins) (maxL := 2) (ret := none) (lv := [(0, .ref h_), (1, .int p1)]) (by decide +kernel) rfl (Nat.le_of_ble_eq_true rfl) rfl ?_
  intro p e s m args below meth c A ls hx hb hr hml hts hown hlocks hA hK hP hD hS hl
  replace hown : s.vm.findClass RX3 = some m.cls := hown
  have i_X3 : ∀ w ∈ wsX30, w ∈ wsX3_putPins := by decide +kernel
  have f_13 := hts (.fieldLink RX3 13 "SerialPort$Modem" "pins" "I") (by decide +kernel)
  have hret : ∀ (u : Int32 × Int32 × Int32) (H : Heap) (locs : List Loc) (pc : Nat) (ls : Array Slot), va_P D vwCl (wX3_putPins h_ v_outputs u) H → va_D A (wX3_putPins h_ v_outputs u) → va_S A s.heap H locs → some u = some u0 → decode cX3_putPins pc = .ok (.return_, 1) → W p l e { frames := 2, cells := 0, slots := 0, locals := 42 } s m args below meth c H locs 0 0 (QV below D [] (wX3_putPins h_ v_outputs u0) args s A) (F0 m pc ls []) := fun u H locs pc ls h1 h2 h3 h4 h5 => rV (wf := wX3_putPins h_ v_outputs) hx hb hr hlocks hK h1 h2 h3 h4 h5
  unfold F_X3_putPins at hF
  refine lv_aload_n hx hb dX3_putPins_0 rfl (lv_at hl 0 rfl) ?_
  refine lv_iload_n hx hb dX3_putPins_1 rfl (lv_at hl 1 rfl) ?_
  refine pf (ci := 3) (v := .int p1) (ty := .int) (C := RX3) (T := TX3) (N := 4) (ws' := [oX3 h_ v_outputs p1 v_state v_changes]) hx hb hts i_X3 tyX3_ok nmX3 hown hK hP hD hS 0 rfl rfl 1 (Nat.le_of_ble_eq_true rfl) f_13 rfl rfl (by decide +kernel) rfl rfl (Nat.le_of_ble_eq_true rfl) rfl dX3_putPins_2 (fun H locs hP hD hS => ?_)
  refine lv_aload_n hx hb dX3_putPins_5 rfl (lv_at hl 0 rfl) ?_
  obtain ⟨u1, hu1, hF⟩ := bd_el hF
  refine cVV (q0 := 0) (ci := 3) (As := []) (rest := []) (wr := []) (ws' := [oX3 h_ v_outputs p1 u1.1 u1.2]) ⟨hx, hb, hml, hown, hts⟩ (mX3_follow D h_ v_outputs p1 v_state v_changes u1 hu1) (cwV 0 hts gX3_putPins_X3_follow rfl rfl rfl (by decide +kernel) ⟨Nat.le_of_ble_eq_true rfl, Nat.le_of_ble_eq_true rfl⟩) hK hP hD hS hA [] [0] [] [0] rfl rfl rfl rfl rfl rfl rfl rfl rfl hl.1 rfl (Nat.le_of_ble_eq_true rfl) dX3_putPins_6 ⟨Nat.le_refl _, Nat.le_refl _⟩ (fun H locs hP hD hS => ?_)
  exact hret (p1, u1.1, u1.2) _ _ 9 _ hP hD hS hF dX3_putPins_9
def F_X3_tellState  (v_state : Int32) (v_changes : Int32) : Option (Int32 × Int32) := lt1 ((v_state <<< ((4 : Int32) &&& 31)) ||| v_changes) (fun x1 => some (x1, 0))
def wX3_tellState (h_ : Nat) (v_outputs : Int32) (v_pins : Int32) (v_state : Int32) (u : Int32 × Int32) : va_W := [oX3 h_ v_outputs v_pins v_state u.2]
set_option maxHeartbeats 4000000 in
set_option maxRecDepth 100000 in
theorem mX3_tellState {l : Launch} (D : va_G) (h_ : Nat) (v_outputs : Int32) (v_pins : Int32) (v_state : Int32) (v_changes : Int32) (u0 : Int32 × Int32) (hF : F_X3_tellState v_state v_changes = some u0) : MI l yX3_tellState wsX3_tellState { frames := 0, cells := 0, slots := 0, locals := 0 } D [] [.ref h_] [oX3 h_ v_outputs v_pins v_state v_changes] (wX3_tellState h_ v_outputs v_pins v_state u0) (u0.1) := by
  refine MI.ofW (cc := cX3_tellState) (maxL := 2) (ret := (some .int)) (lv := [(0, .ref h_)]) (by decide +kernel) rfl (Nat.le_of_ble_eq_true rfl) rfl ?_
  intro p e s m args below meth c A ls hx hb hr hml hts hown hlocks hA hK hP hD hS hl
  replace hown : s.vm.findClass RX3 = some m.cls := hown
  have i_X3 : ∀ w ∈ wsX30, w ∈ wsX3_tellState := by decide +kernel
  have f_16 := hts (.fieldLink RX3 16 "SerialPort$Modem" "state" "I") (by decide +kernel)
  have f_19 := hts (.fieldLink RX3 19 "SerialPort$Modem" "changes" "I") (by decide +kernel)
  have hret : ∀ (u : Int32 × Int32) (v : Int32) (H : Heap) (locs : List Loc) (pc : Nat) (ls : Array Slot), va_P D vwCl (wX3_tellState h_ v_outputs v_pins v_state u) H → va_D A (wX3_tellState h_ v_outputs v_pins v_state u) → va_S A s.heap H locs → some u = some u0 → v = u.1 → decode cX3_tellState pc = .ok (.ireturn, 1) → W p l e { frames := 0, cells := 0, slots := 0, locals := 0 } s m args below meth c H locs 0 0 (QI below D [] (wX3_tellState h_ v_outputs v_pins v_state u0) (u0.1) args s A) (F0 m pc ls [.int v]) := fun u v H locs pc ls h1 h2 h3 h4 h5 h6 => rI (wf := wX3_tellState h_ v_outputs v_pins v_state) (rf := fun u => u.1) hx hb hr hlocks hK h1 h2 h3 h4 h5 h6
  unfold F_X3_tellState at hF
  refine lv_aload_n hx hb dX3_tellState_0 rfl (lv_at hl 0 rfl) ?_
  refine va_get (D := D) (ci := 3) (v := .int v_state) (C := RX3) (T := TX3) (N := 4) hx hb hts i_X3 hown hK hP 0 rfl rfl 2 (Nat.le_of_ble_eq_true rfl) f_16 (fun _ h9 => h9) rfl dX3_tellState_1 ?_
  refine lv_iconst (v := 4) hx hb dX3_tellState_4 (by decide) ?_
  refine lv_ishl hx hb dX3_tellState_5 ?_
  refine lv_aload_n hx hb dX3_tellState_6 rfl (lv_at hl 0 rfl) ?_
  refine va_get (D := D) (ci := 3) (v := .int v_changes) (C := RX3) (T := TX3) (N := 4) hx hb hts i_X3 hown hK hP 0 rfl rfl 3 (Nat.le_of_ble_eq_true rfl) f_19 (fun _ h9 => h9) rfl dX3_tellState_7 ?_
  refine lv_ior hx hb dX3_tellState_10 ?_
  refine lv_topi (fun x1 ex1 => ?_)
  replace hF := lt1_x ex1 hF
  refine lv_istore_n (lv' := [(1, .int x1), (0, .ref h_)]) hx hb dX3_tellState_11 rfl hl (Nat.le_of_ble_eq_true rfl) rfl (fun ls hl => ?_)
  refine lv_aload_n hx hb dX3_tellState_12 rfl (lv_at hl 1 rfl) ?_
  refine lv_iconst (v := 0) hx hb dX3_tellState_13 (by decide) ?_
  refine pf (ci := 3) (v := .int 0) (ty := .int) (C := RX3) (T := TX3) (N := 4) (ws' := [oX3 h_ v_outputs v_pins v_state 0]) hx hb hts i_X3 tyX3_ok nmX3 hown hK hP hD hS 0 rfl rfl 3 (Nat.le_of_ble_eq_true rfl) f_19 rfl rfl (by decide +kernel) rfl rfl (Nat.le_of_ble_eq_true rfl) rfl dX3_tellState_14 (fun H locs hP hD hS => ?_)
  refine lv_iload_n hx hb dX3_tellState_17 rfl (lv_at hl 0 rfl) ?_
  exact hret (x1, 0) x1 _ _ 18 _ hP hD hS hF rfl dX3_tellState_18
def F_X6_clear  (v_control : Int32) (v_character : Int32) (v_beat : Int32) (v_busy : Bool) : Option (Int32 × Int32 × Int32 × Bool) := some (0, 0, 0, false)
def wX6_clear (h_ : Nat) (u : Int32 × Int32 × Int32 × Bool) : va_W := [oX6 h_ u.1 u.2.1 u.2.2.1 u.2.2.2]
set_option maxHeartbeats 4000000 in
set_option maxRecDepth 100000 in
theorem mX6_clear {l : Launch} (D : va_G) (h_ : Nat) (v_control : Int32) (v_character : Int32) (v_beat : Int32) (v_busy : Bool) (u0 : Int32 × Int32 × Int32 × Bool) (hF : F_X6_clear v_control v_character v_beat v_busy = some u0) : MV l yX6_clear wsX6_clear { frames := 0, cells := 0, slots := 0, locals := 0 } D [] [.ref h_] [oX6 h_ v_control v_character v_beat v_busy] (wX6_clear h_ u0) := by
  refine MV.ofW (cc := cX6_clear) (maxL := 1) (ret := none) (lv := [(0, .ref h_)]) (by decide +kernel) rfl (Nat.le_of_ble_eq_true rfl) rfl ?_
  intro p e s m args below meth c A ls hx hb hr hml hts hown hlocks hA hK hP hD hS hl
  replace hown : s.vm.findClass RX6 = some m.cls := hown
  have i_X6 : ∀ w ∈ wsX60, w ∈ wsX6_clear := by decide +kernel
  have f_9 := hts (.fieldLink RX6 9 "SerialPort$Sender" "control" "I") (by decide +kernel)
  have f_15 := hts (.fieldLink RX6 15 "SerialPort$Sender" "character" "I") (by decide +kernel)
  have f_18 := hts (.fieldLink RX6 18 "SerialPort$Sender" "beat" "I") (by decide +kernel)
  have f_21 := hts (.fieldLink RX6 21 "SerialPort$Sender" "busy" "Z") (by decide +kernel)
  have hret : ∀ (u : Int32 × Int32 × Int32 × Bool) (H : Heap) (locs : List Loc) (pc : Nat) (ls : Array Slot), va_P D vwCl (wX6_clear h_ u) H → va_D A (wX6_clear h_ u) → va_S A s.heap H locs → some u = some u0 → decode cX6_clear pc = .ok (.return_, 1) → W p l e { frames := 0, cells := 0, slots := 0, locals := 0 } s m args below meth c H locs 0 0 (QV below D [] (wX6_clear h_ u0) args s A) (F0 m pc ls []) := fun u H locs pc ls h1 h2 h3 h4 h5 => rV (wf := wX6_clear h_) hx hb hr hlocks hK h1 h2 h3 h4 h5
  unfold F_X6_clear at hF
  refine lv_aload_n hx hb dX6_clear_0 rfl (lv_at hl 0 rfl) ?_
  refine lv_iconst (v := 0) hx hb dX6_clear_1 (by decide) ?_
  refine pf (ci := 6) (v := .int 0) (ty := .int) (C := RX6) (T := TX6) (N := 4) (ws' := [oX6 h_ 0 v_character v_beat v_busy]) hx hb hts i_X6 tyX6_ok nmX6 hown hK hP hD hS 0 rfl rfl 0 (Nat.le_of_ble_eq_true rfl) f_9 rfl rfl (by decide +kernel) rfl rfl (Nat.le_of_ble_eq_true rfl) rfl dX6_clear_2 (fun H locs hP hD hS => ?_)
  refine lv_aload_n hx hb dX6_clear_5 rfl (lv_at hl 0 rfl) ?_
  refine lv_iconst (v := 0) hx hb dX6_clear_6 (by decide) ?_
  refine pf (ci := 6) (v := .int 0) (ty := .int) (C := RX6) (T := TX6) (N := 4) (ws' := [oX6 h_ 0 0 v_beat v_busy]) hx hb hts i_X6 tyX6_ok nmX6 hown hK hP hD hS 0 rfl rfl 1 (Nat.le_of_ble_eq_true rfl) f_15 rfl rfl (by decide +kernel) rfl rfl (Nat.le_of_ble_eq_true rfl) rfl dX6_clear_7 (fun H locs hP hD hS => ?_)
  refine lv_aload_n hx hb dX6_clear_10 rfl (lv_at hl 0 rfl) ?_
  refine lv_iconst (v := 0) hx hb dX6_clear_11 (by decide) ?_
  refine pf (ci := 6) (v := .int 0) (ty := .int) (C := RX6) (T := TX6) (N := 4) (ws' := [oX6 h_ 0 0 0 v_busy]) hx hb hts i_X6 tyX6_ok nmX6 hown hK hP hD hS 0 rfl rfl 2 (Nat.le_of_ble_eq_true rfl) f_18 rfl rfl (by decide +kernel) rfl rfl (Nat.le_of_ble_eq_true rfl) rfl dX6_clear_12 (fun H locs hP hD hS => ?_)
  refine lv_aload_n hx hb dX6_clear_15 rfl (lv_at hl 0 rfl) ?_
  refine lv_iconst (v := 0) hx hb dX6_clear_16 (by decide) ?_
  refine pf (ci := 6) (v := .int (bI false)) (ty := .boolean) (C := RX6) (T := TX6) (N := 4) (ws' := [oX6 h_ 0 0 0 false]) hx hb hts i_X6 tyX6_ok nmX6 hown hK hP hD hS 0 rfl rfl 3 (Nat.le_of_ble_eq_true rfl) f_21 rfl rfl (by decide +kernel) (nar_bI false) (fit_bI false) (Nat.le_of_ble_eq_true rfl) rfl dX6_clear_17 (fun H locs hP hD hS => ?_)
  exact hret (0, 0, 0, false) _ _ 20 _ hP hD hS hF dX6_clear_20
def F_X6_isBusy  (v_busy : Bool) : Option (Bool) := some v_busy
def wX6_isBusy (h_ : Nat) (v_control : Int32) (v_character : Int32) (v_beat : Int32) (v_busy : Bool) (_u : Bool) : va_W := [oX6 h_ v_control v_character v_beat v_busy]
set_option maxHeartbeats 4000000 in
set_option maxRecDepth 100000 in
theorem mX6_isBusy {l : Launch} (D : va_G) (h_ : Nat) (v_control : Int32) (v_character : Int32) (v_beat : Int32) (v_busy : Bool) (u0 : Bool) (hF : F_X6_isBusy v_busy = some u0) : MI l yX6_isBusy wsX6_isBusy { frames := 0, cells := 0, slots := 0, locals := 0 } D [] [.ref h_] [oX6 h_ v_control v_character v_beat v_busy] (wX6_isBusy h_ v_control v_character v_beat v_busy u0) (bI u0) := by
  refine MI.ofW (cc := cX6_isBusy) (maxL := 1) (ret := (some .boolean)) (lv := [(0, .ref h_)]) (by decide +kernel) rfl (Nat.le_of_ble_eq_true rfl) rfl ?_
  intro p e s m args below meth c A ls hx hb hr hml hts hown hlocks hA hK hP hD hS hl
  replace hown : s.vm.findClass RX6 = some m.cls := hown
  have i_X6 : ∀ w ∈ wsX60, w ∈ wsX6_isBusy := by decide +kernel
  have f_21 := hts (.fieldLink RX6 21 "SerialPort$Sender" "busy" "Z") (by decide +kernel)
  have hret : ∀ (u : Bool) (v : Int32) (H : Heap) (locs : List Loc) (pc : Nat) (ls : Array Slot), va_P D vwCl (wX6_isBusy h_ v_control v_character v_beat v_busy u) H → va_D A (wX6_isBusy h_ v_control v_character v_beat v_busy u) → va_S A s.heap H locs → some u = some u0 → v = bI u → decode cX6_isBusy pc = .ok (.ireturn, 1) → W p l e { frames := 0, cells := 0, slots := 0, locals := 0 } s m args below meth c H locs 0 0 (QI below D [] (wX6_isBusy h_ v_control v_character v_beat v_busy u0) (bI u0) args s A) (F0 m pc ls [.int v]) := fun u v H locs pc ls h1 h2 h3 h4 h5 h6 => rZ (wf := wX6_isBusy h_ v_control v_character v_beat v_busy) (rf := fun u => u) hx hb hr hlocks hK h1 h2 h3 h4 h5 h6
  unfold F_X6_isBusy at hF
  refine lv_aload_n hx hb dX6_isBusy_0 rfl (lv_at hl 0 rfl) ?_
  refine va_get (D := D) (ci := 6) (v := .int (bI v_busy)) (C := RX6) (T := TX6) (N := 4) hx hb hts i_X6 hown hK hP 0 rfl rfl 3 (Nat.le_of_ble_eq_true rfl) f_21 (fun _ h9 => h9) rfl dX6_isBusy_1 ?_
  exact hret v_busy (bI v_busy) _ _ 4 _ hP hD hS hF rfl dX6_isBusy_4
def F_X6_begin (p1 : Int32) (p2 : Int32) (v_control : Int32) (v_character : Int32) (v_beat : Int32) (v_busy : Bool) : Option (Int32 × Int32 × Int32 × Bool) := some (p1, p2, 0, true)
def wX6_begin (h_ : Nat) (u : Int32 × Int32 × Int32 × Bool) : va_W := [oX6 h_ u.1 u.2.1 u.2.2.1 u.2.2.2]
set_option maxHeartbeats 4000000 in
set_option maxRecDepth 100000 in
theorem mX6_begin {l : Launch} (D : va_G) (h_ : Nat) (v_control : Int32) (v_character : Int32) (v_beat : Int32) (v_busy : Bool) (p1 : Int32) (p2 : Int32) (u0 : Int32 × Int32 × Int32 × Bool) (hF : F_X6_begin p1 p2 v_control v_character v_beat v_busy = some u0) : MV l yX6_begin wsX6_begin { frames := 0, cells := 0, slots := 0, locals := 0 } D [] [.ref h_, .int p1, .int p2] [oX6 h_ v_control v_character v_beat v_busy] (wX6_begin h_ u0) := by
  refine MV.ofW (cc := cX6_begin) (maxL := 3) (ret := none) (lv := [(0, .ref h_), (1, .int p1), (2, .int p2)]) (by decide +kernel) rfl (Nat.le_of_ble_eq_true rfl) rfl ?_
  intro p e s m args below meth c A ls hx hb hr hml hts hown hlocks hA hK hP hD hS hl
  replace hown : s.vm.findClass RX6 = some m.cls := hown
  have i_X6 : ∀ w ∈ wsX60, w ∈ wsX6_begin := by decide +kernel
  have f_9 := hts (.fieldLink RX6 9 "SerialPort$Sender" "control" "I") (by decide +kernel)
  have f_15 := hts (.fieldLink RX6 15 "SerialPort$Sender" "character" "I") (by decide +kernel)
  have f_18 := hts (.fieldLink RX6 18 "SerialPort$Sender" "beat" "I") (by decide +kernel)
  have f_21 := hts (.fieldLink RX6 21 "SerialPort$Sender" "busy" "Z") (by decide +kernel)
  have hret : ∀ (u : Int32 × Int32 × Int32 × Bool) (H : Heap) (locs : List Loc) (pc : Nat) (ls : Array Slot), va_P D vwCl (wX6_begin h_ u) H → va_D A (wX6_begin h_ u) → va_S A s.heap H locs → some u = some u0 → decode cX6_begin pc = .ok (.return_, 1) → W p l e { frames := 0, cells := 0, slots := 0, locals := 0 } s m args below meth c H locs 0 0 (QV below D [] (wX6_begin h_ u0) args s A) (F0 m pc ls []) := fun u H locs pc ls h1 h2 h3 h4 h5 => rV (wf := wX6_begin h_) hx hb hr hlocks hK h1 h2 h3 h4 h5
  unfold F_X6_begin at hF
  refine lv_aload_n hx hb dX6_begin_0 rfl (lv_at hl 0 rfl) ?_
  refine lv_iload_n hx hb dX6_begin_1 rfl (lv_at hl 1 rfl) ?_
  refine pf (ci := 6) (v := .int p1) (ty := .int) (C := RX6) (T := TX6) (N := 4) (ws' := [oX6 h_ p1 v_character v_beat v_busy]) hx hb hts i_X6 tyX6_ok nmX6 hown hK hP hD hS 0 rfl rfl 0 (Nat.le_of_ble_eq_true rfl) f_9 rfl rfl (by decide +kernel) rfl rfl (Nat.le_of_ble_eq_true rfl) rfl dX6_begin_2 (fun H locs hP hD hS => ?_)
  refine lv_aload_n hx hb dX6_begin_5 rfl (lv_at hl 0 rfl) ?_
  refine lv_iload_n hx hb dX6_begin_6 rfl (lv_at hl 2 rfl) ?_
  refine pf (ci := 6) (v := .int p2) (ty := .int) (C := RX6) (T := TX6) (N := 4) (ws' := [oX6 h_ p1 p2 v_beat v_busy]) hx hb hts i_X6 tyX6_ok nmX6 hown hK hP hD hS 0 rfl rfl 1 (Nat.le_of_ble_eq_true rfl) f_15 rfl rfl (by decide +kernel) rfl rfl (Nat.le_of_ble_eq_true rfl) rfl dX6_begin_7 (fun H locs hP hD hS => ?_)
  refine lv_aload_n hx hb dX6_begin_10 rfl (lv_at hl 0 rfl) ?_
  refine lv_iconst (v := 0) hx hb dX6_begin_11 (by decide) ?_
  refine pf (ci := 6) (v := .int 0) (ty := .int) (C := RX6) (T := TX6) (N := 4) (ws' := [oX6 h_ p1 p2 0 v_busy]) hx hb hts i_X6 tyX6_ok nmX6 hown hK hP hD hS 0 rfl rfl 2 (Nat.le_of_ble_eq_true rfl) f_18 rfl rfl (by decide +kernel) rfl rfl (Nat.le_of_ble_eq_true rfl) rfl dX6_begin_12 (fun H locs hP hD hS => ?_)
  refine lv_aload_n hx hb dX6_begin_15 rfl (lv_at hl 0 rfl) ?_
  refine lv_iconst (v := 1) hx hb dX6_begin_16 (by decide) ?_
  refine pf (ci := 6) (v := .int (bI true)) (ty := .boolean) (C := RX6) (T := TX6) (N := 4) (ws' := [oX6 h_ p1 p2 0 true]) hx hb hts i_X6 tyX6_ok nmX6 hown hK hP hD hS 0 rfl rfl 3 (Nat.le_of_ble_eq_true rfl) f_21 rfl rfl (by decide +kernel) (nar_bI true) (fit_bI true) (Nat.le_of_ble_eq_true rfl) rfl dX6_begin_17 (fun H locs hP hD hS => ?_)
  exact hret (p1, p2, 0, true) _ _ 20 _ hP hD hS hF dX6_begin_20
def F_X6_next  (v_control : Int32) (v_character : Int32) (v_beat : Int32) (v_busy : Bool) : Option (Bool × Int32 × Bool) := bt v_busy (bd (F_X7_pieceIsHigh v_control v_character (v_beat / 16)) (fun u2 => lt1 (v_beat + 1) (fun x3 => bd (F_X7_beats v_control) (fun u4 => if u4 ≤ x3 then (some (u2, x3, false)) else (some (u2, x3, true)))))) (some (true, v_beat, v_busy))
def wX6_next (h_ : Nat) (v_control : Int32) (v_character : Int32) (u : Bool × Int32 × Bool) : va_W := [oX6 h_ v_control v_character u.2.1 u.2.2]
set_option maxHeartbeats 4000000 in
set_option maxRecDepth 100000 in
theorem mX6_next {l : Launch} (D : va_G) (h_ : Nat) (v_control : Int32) (v_character : Int32) (v_beat : Int32) (v_busy : Bool) (u0 : Bool × Int32 × Bool) (hF : F_X6_next v_control v_character v_beat v_busy = some u0) : MI l yX6_next wsX6_next { frames := 3, cells := 0, slots := 0, locals := 67 } D [] [.ref h_] [oX6 h_ v_control v_character v_beat v_busy] (wX6_next h_ v_control v_character u0) (bI u0.1) := by
  refine MI.ofW (cc := cX6_next) (maxL := 2) (ret := (some .boolean)) (lv := [(0, .ref h_)]) (by decide +kernel) rfl (Nat.le_of_ble_eq_true rfl) rfl ?_
  intro p e s m args below meth c A ls hx hb hr hml hts hown hlocks hA hK hP hD hS hl
  replace hown : s.vm.findClass RX6 = some m.cls := hown
  have i_X6 : ∀ w ∈ wsX60, w ∈ wsX6_next := by decide +kernel
  have f_9 := hts (.fieldLink RX6 9 "SerialPort$Sender" "control" "I") (by decide +kernel)
  have f_15 := hts (.fieldLink RX6 15 "SerialPort$Sender" "character" "I") (by decide +kernel)
  have f_18 := hts (.fieldLink RX6 18 "SerialPort$Sender" "beat" "I") (by decide +kernel)
  have f_21 := hts (.fieldLink RX6 21 "SerialPort$Sender" "busy" "Z") (by decide +kernel)
  have hret : ∀ (u : Bool × Int32 × Bool) (v : Int32) (H : Heap) (locs : List Loc) (pc : Nat) (ls : Array Slot), va_P D vwCl (wX6_next h_ v_control v_character u) H → va_D A (wX6_next h_ v_control v_character u) → va_S A s.heap H locs → some u = some u0 → v = bI u.1 → decode cX6_next pc = .ok (.ireturn, 1) → W p l e { frames := 3, cells := 0, slots := 0, locals := 67 } s m args below meth c H locs 0 0 (QI below D [] (wX6_next h_ v_control v_character u0) (bI u0.1) args s A) (F0 m pc ls [.int v]) := fun u v H locs pc ls h1 h2 h3 h4 h5 h6 => rZ (wf := wX6_next h_ v_control v_character) (rf := fun u => u.1) hx hb hr hlocks hK h1 h2 h3 h4 h5 h6
  unfold F_X6_next at hF
  refine lv_aload_n hx hb dX6_next_0 rfl (lv_at hl 0 rfl) ?_
  refine va_get (D := D) (ci := 6) (v := .int (bI v_busy)) (C := RX6) (T := TX6) (N := 4) hx hb hts i_X6 hown hK hP 0 rfl rfl 3 (Nat.le_of_ble_eq_true rfl) f_21 (fun _ h9 => h9) rfl dX6_next_1 ?_
  refine lv_if_ne (tgt := 9) hx hb dX6_next_4 (by decide) (fun c1 => ?_) (fun c1 => ?_)
  · replace hF := bt_t (bI_n0 c1) hF
    refine lv_aload_n hx hb dX6_next_9 rfl (lv_at hl 0 rfl) ?_
    refine va_get (D := D) (ci := 6) (v := .int v_control) (C := RX6) (T := TX6) (N := 4) hx hb hts i_X6 hown hK hP 0 rfl rfl 0 (Nat.le_of_ble_eq_true rfl) f_9 (fun _ h9 => h9) rfl dX6_next_10 ?_
    refine lv_aload_n hx hb dX6_next_13 rfl (lv_at hl 0 rfl) ?_
    refine va_get (D := D) (ci := 6) (v := .int v_character) (C := RX6) (T := TX6) (N := 4) hx hb hts i_X6 hown hK hP 0 rfl rfl 1 (Nat.le_of_ble_eq_true rfl) f_15 (fun _ h9 => h9) rfl dX6_next_14 ?_
    refine lv_aload_n hx hb dX6_next_17 rfl (lv_at hl 0 rfl) ?_
    refine va_get (D := D) (ci := 6) (v := .int v_beat) (C := RX6) (T := TX6) (N := 4) hx hb hts i_X6 hown hK hP 0 rfl rfl 2 (Nat.le_of_ble_eq_true rfl) f_18 (fun _ h9 => h9) rfl dX6_next_18 ?_
    refine lv_bipush (v := 16) hx hb dX6_next_21 (by decide) ?_
    refine lv_idiv hx hb dX6_next_23 (by decide) ?_
    obtain ⟨u2, hu2, hF⟩ := bd_el hF
    refine cSI (As := [.int v_control, .int v_character, .int (v_beat / 16)]) (rest := []) (wr := [oX6 h_ v_control v_character v_beat v_busy]) (ws' := [oX6 h_ v_control v_character v_beat v_busy]) (rv := bI u2) ⟨hx, hb, hml, hown, hts⟩ (mX7_pieceIsHigh D v_control v_character (v_beat / 16) u2 hu2) (va_cwS 3 hts gX6_next_X7_pieceIsHigh rfl rfl rfl (by decide +kernel) ⟨Nat.le_of_ble_eq_true rfl, Nat.le_of_ble_eq_true rfl⟩) hK hP hD hS hA [] [] [0] [0] rfl rfl rfl rfl rfl rfl hl.1 rfl (Nat.le_of_ble_eq_true rfl) rfl dX6_next_24 ⟨Nat.le_refl _, Nat.le_refl _⟩ (fun H locs hP hD hS => ?_)
    refine lv_istore_n (lv' := [(1, .int (bI u2)), (0, .ref h_)]) hx hb dX6_next_27 rfl hl (Nat.le_of_ble_eq_true rfl) rfl (fun ls hl => ?_)
    refine lv_aload_n hx hb dX6_next_28 rfl (lv_at hl 1 rfl) ?_
    refine lv_dup hx hb dX6_next_29 rfl ?_
    refine va_get (D := D) (ci := 6) (v := .int v_beat) (C := RX6) (T := TX6) (N := 4) hx hb hts i_X6 hown hK hP 0 rfl rfl 2 (Nat.le_of_ble_eq_true rfl) f_18 (fun _ h9 => h9) rfl dX6_next_30 ?_
    refine lv_iconst (v := 1) hx hb dX6_next_33 (by decide) ?_
    refine lv_iadd hx hb dX6_next_34 ?_
    refine lv_topi (fun x3 ex3 => ?_)
    replace hF := lt1_x ex3 hF
    refine pf (ci := 6) (v := .int x3) (ty := .int) (C := RX6) (T := TX6) (N := 4) (ws' := [oX6 h_ v_control v_character x3 v_busy]) hx hb hts i_X6 tyX6_ok nmX6 hown hK hP hD hS 0 rfl rfl 2 (Nat.le_of_ble_eq_true rfl) f_18 rfl rfl (by decide +kernel) rfl rfl (Nat.le_of_ble_eq_true rfl) rfl dX6_next_35 (fun H locs hP hD hS => ?_)
    refine lv_aload_n hx hb dX6_next_38 rfl (lv_at hl 1 rfl) ?_
    refine lv_aload_n hx hb dX6_next_39 rfl (lv_at hl 1 rfl) ?_
    refine va_get (D := D) (ci := 6) (v := .int x3) (C := RX6) (T := TX6) (N := 4) hx hb hts i_X6 hown hK hP 0 rfl rfl 2 (Nat.le_of_ble_eq_true rfl) f_18 (fun _ h9 => h9) rfl dX6_next_40 ?_
    refine lv_aload_n hx hb dX6_next_43 rfl (lv_at hl 1 rfl) ?_
    refine va_get (D := D) (ci := 6) (v := .int v_control) (C := RX6) (T := TX6) (N := 4) hx hb hts i_X6 hown hK hP 0 rfl rfl 0 (Nat.le_of_ble_eq_true rfl) f_9 (fun _ h9 => h9) rfl dX6_next_44 ?_
    obtain ⟨u4, hu4, hF⟩ := bd_el hF
    refine cSI (As := [.int v_control]) (rest := [.int x3, .ref h_]) (wr := [oX6 h_ v_control v_character x3 v_busy]) (ws' := [oX6 h_ v_control v_character x3 v_busy]) (rv := u4) ⟨hx, hb, hml, hown, hts⟩ (mX7_beats D v_control u4 hu4) (va_cwS 1 hts gX6_next_X7_beats rfl rfl rfl (by decide +kernel) ⟨Nat.le_of_ble_eq_true rfl, Nat.le_of_ble_eq_true rfl⟩) hK hP hD hS hA [] [] [0] [0] rfl rfl rfl rfl rfl rfl hl.1 rfl (Nat.le_of_ble_eq_true rfl) rfl dX6_next_47 ⟨Nat.le_refl _, Nat.le_refl _⟩ (fun H locs hP hD hS => ?_)
    refine lv_icmp_ge (tgt := 57) hx hb dX6_next_50 (by decide) (fun c5 => ?_) (fun c5 => ?_)
    · replace hF := it_t c5 hF
      refine lv_iconst (v := 0) hx hb dX6_next_57 (by decide) ?_
      refine pf (ci := 6) (v := .int (bI false)) (ty := .boolean) (C := RX6) (T := TX6) (N := 4) (ws' := [oX6 h_ v_control v_character x3 false]) hx hb hts i_X6 tyX6_ok nmX6 hown hK hP hD hS 0 rfl rfl 3 (Nat.le_of_ble_eq_true rfl) f_21 rfl rfl (by decide +kernel) (nar_bI false) (fit_bI false) (Nat.le_of_ble_eq_true rfl) rfl dX6_next_58 (fun H locs hP hD hS => ?_)
      refine lv_iload_n hx hb dX6_next_61 rfl (lv_at hl 0 rfl) ?_
      exact hret (u2, x3, false) (bI u2) _ _ 62 _ hP hD hS hF rfl dX6_next_62
    · replace hF := it_f c5 hF
      refine lv_iconst (v := 1) hx hb dX6_next_53 (by decide) ?_
      refine lv_goto (tgt := 58) hx hb dX6_next_54 (by decide) ?_
      refine pf (ci := 6) (v := .int (bI true)) (ty := .boolean) (C := RX6) (T := TX6) (N := 4) (ws' := [oX6 h_ v_control v_character x3 true]) hx hb hts i_X6 tyX6_ok nmX6 hown hK hP hD hS 0 rfl rfl 3 (Nat.le_of_ble_eq_true rfl) f_21 rfl rfl (by decide +kernel) (nar_bI true) (fit_bI true) (Nat.le_of_ble_eq_true rfl) rfl dX6_next_58 (fun H locs hP hD hS => ?_)
      refine lv_iload_n hx hb dX6_next_61 rfl (lv_at hl 0 rfl) ?_
      exact hret (u2, x3, true) (bI u2) _ _ 62 _ hP hD hS hF rfl dX6_next_62
  · replace hF := bt_f (bI_0 c1) hF
    refine lv_iconst (v := 1) hx hb dX6_next_7 (by decide) ?_
    exact hret (true, v_beat, v_busy) 1 _ _ 8 _ hP hD hS hF rfl dX6_next_8
def F_X4_begin (p1 : Int32) (v_control : Int32) (v_character : Int32) (v_beat : Int32) (v_busy : Bool) (v_wasHigh : Bool) (v_parityHigh : Bool) (v_someHigh : Bool) : Option (Int32 × Int32 × Int32 × Bool × Bool × Bool × Bool) := some (p1, 0, 0, true, false, false, false)
def wX4_begin (h_ : Nat) (u : Int32 × Int32 × Int32 × Bool × Bool × Bool × Bool) : va_W := [oX4 h_ u.1 u.2.1 u.2.2.1 u.2.2.2.1 u.2.2.2.2.1 u.2.2.2.2.2.1 u.2.2.2.2.2.2]
set_option maxHeartbeats 4000000 in
set_option maxRecDepth 100000 in
theorem mX4_begin {l : Launch} (D : va_G) (h_ : Nat) (v_control : Int32) (v_character : Int32) (v_beat : Int32) (v_busy : Bool) (v_wasHigh : Bool) (v_parityHigh : Bool) (v_someHigh : Bool) (p1 : Int32) (u0 : Int32 × Int32 × Int32 × Bool × Bool × Bool × Bool) (hF : F_X4_begin p1 v_control v_character v_beat v_busy v_wasHigh v_parityHigh v_someHigh = some u0) : MV l yX4_begin wsX4_begin { frames := 0, cells := 0, slots := 0, locals := 0 } D [] [.ref h_, .int p1] [oX4 h_ v_control v_character v_beat v_busy v_wasHigh v_parityHigh v_someHigh] (wX4_begin h_ u0) := by
  refine MV.ofW (cc := cX4_begin) (maxL := 2) (ret := none) (lv := [(0, .ref h_), (1, .int p1)]) (by decide +kernel) rfl (Nat.le_of_ble_eq_true rfl) rfl ?_
  intro p e s m args below meth c A ls hx hb hr hml hts hown hlocks hA hK hP hD hS hl
  replace hown : s.vm.findClass RX4 = some m.cls := hown
  have i_X4 : ∀ w ∈ wsX40, w ∈ wsX4_begin := by decide +kernel
  have f_15 := hts (.fieldLink RX4 15 "SerialPort$Receiver" "busy" "Z") (by decide +kernel)
  have f_19 := hts (.fieldLink RX4 19 "SerialPort$Receiver" "wasHigh" "Z") (by decide +kernel)
  have f_26 := hts (.fieldLink RX4 26 "SerialPort$Receiver" "beat" "I") (by decide +kernel)
  have f_37 := hts (.fieldLink RX4 37 "SerialPort$Receiver" "control" "I") (by decide +kernel)
  have f_40 := hts (.fieldLink RX4 40 "SerialPort$Receiver" "character" "I") (by decide +kernel)
  have f_43 := hts (.fieldLink RX4 43 "SerialPort$Receiver" "parityHigh" "Z") (by decide +kernel)
  have f_46 := hts (.fieldLink RX4 46 "SerialPort$Receiver" "someHigh" "Z") (by decide +kernel)
  have hret : ∀ (u : Int32 × Int32 × Int32 × Bool × Bool × Bool × Bool) (H : Heap) (locs : List Loc) (pc : Nat) (ls : Array Slot), va_P D vwCl (wX4_begin h_ u) H → va_D A (wX4_begin h_ u) → va_S A s.heap H locs → some u = some u0 → decode cX4_begin pc = .ok (.return_, 1) → W p l e { frames := 0, cells := 0, slots := 0, locals := 0 } s m args below meth c H locs 0 0 (QV below D [] (wX4_begin h_ u0) args s A) (F0 m pc ls []) := fun u H locs pc ls h1 h2 h3 h4 h5 => rV (wf := wX4_begin h_) hx hb hr hlocks hK h1 h2 h3 h4 h5
  unfold F_X4_begin at hF
  refine lv_aload_n hx hb dX4_begin_0 rfl (lv_at hl 0 rfl) ?_
  refine lv_iload_n hx hb dX4_begin_1 rfl (lv_at hl 1 rfl) ?_
  refine pf (ci := 4) (v := .int p1) (ty := .int) (C := RX4) (T := TX4) (N := 7) (ws' := [oX4 h_ p1 v_character v_beat v_busy v_wasHigh v_parityHigh v_someHigh]) hx hb hts i_X4 tyX4_ok nmX4 hown hK hP hD hS 0 rfl rfl 0 (Nat.le_of_ble_eq_true rfl) f_37 rfl rfl (by decide +kernel) rfl rfl (Nat.le_of_ble_eq_true rfl) rfl dX4_begin_2 (fun H locs hP hD hS => ?_)
  refine lv_aload_n hx hb dX4_begin_5 rfl (lv_at hl 0 rfl) ?_
  refine lv_iconst (v := 0) hx hb dX4_begin_6 (by decide) ?_
  refine pf (ci := 4) (v := .int 0) (ty := .int) (C := RX4) (T := TX4) (N := 7) (ws' := [oX4 h_ p1 0 v_beat v_busy v_wasHigh v_parityHigh v_someHigh]) hx hb hts i_X4 tyX4_ok nmX4 hown hK hP hD hS 0 rfl rfl 1 (Nat.le_of_ble_eq_true rfl) f_40 rfl rfl (by decide +kernel) rfl rfl (Nat.le_of_ble_eq_true rfl) rfl dX4_begin_7 (fun H locs hP hD hS => ?_)
  refine lv_aload_n hx hb dX4_begin_10 rfl (lv_at hl 0 rfl) ?_
  refine lv_iconst (v := 0) hx hb dX4_begin_11 (by decide) ?_
  refine pf (ci := 4) (v := .int 0) (ty := .int) (C := RX4) (T := TX4) (N := 7) (ws' := [oX4 h_ p1 0 0 v_busy v_wasHigh v_parityHigh v_someHigh]) hx hb hts i_X4 tyX4_ok nmX4 hown hK hP hD hS 0 rfl rfl 2 (Nat.le_of_ble_eq_true rfl) f_26 rfl rfl (by decide +kernel) rfl rfl (Nat.le_of_ble_eq_true rfl) rfl dX4_begin_12 (fun H locs hP hD hS => ?_)
  refine lv_aload_n hx hb dX4_begin_15 rfl (lv_at hl 0 rfl) ?_
  refine lv_iconst (v := 1) hx hb dX4_begin_16 (by decide) ?_
  refine pf (ci := 4) (v := .int (bI true)) (ty := .boolean) (C := RX4) (T := TX4) (N := 7) (ws' := [oX4 h_ p1 0 0 true v_wasHigh v_parityHigh v_someHigh]) hx hb hts i_X4 tyX4_ok nmX4 hown hK hP hD hS 0 rfl rfl 3 (Nat.le_of_ble_eq_true rfl) f_15 rfl rfl (by decide +kernel) (nar_bI true) (fit_bI true) (Nat.le_of_ble_eq_true rfl) rfl dX4_begin_17 (fun H locs hP hD hS => ?_)
  refine lv_aload_n hx hb dX4_begin_20 rfl (lv_at hl 0 rfl) ?_
  refine lv_iconst (v := 0) hx hb dX4_begin_21 (by decide) ?_
  refine pf (ci := 4) (v := .int (bI false)) (ty := .boolean) (C := RX4) (T := TX4) (N := 7) (ws' := [oX4 h_ p1 0 0 true false v_parityHigh v_someHigh]) hx hb hts i_X4 tyX4_ok nmX4 hown hK hP hD hS 0 rfl rfl 4 (Nat.le_of_ble_eq_true rfl) f_19 rfl rfl (by decide +kernel) (nar_bI false) (fit_bI false) (Nat.le_of_ble_eq_true rfl) rfl dX4_begin_22 (fun H locs hP hD hS => ?_)
  refine lv_aload_n hx hb dX4_begin_25 rfl (lv_at hl 0 rfl) ?_
  refine lv_iconst (v := 0) hx hb dX4_begin_26 (by decide) ?_
  refine pf (ci := 4) (v := .int (bI false)) (ty := .boolean) (C := RX4) (T := TX4) (N := 7) (ws' := [oX4 h_ p1 0 0 true false false v_someHigh]) hx hb hts i_X4 tyX4_ok nmX4 hown hK hP hD hS 0 rfl rfl 5 (Nat.le_of_ble_eq_true rfl) f_43 rfl rfl (by decide +kernel) (nar_bI false) (fit_bI false) (Nat.le_of_ble_eq_true rfl) rfl dX4_begin_27 (fun H locs hP hD hS => ?_)
  refine lv_aload_n hx hb dX4_begin_30 rfl (lv_at hl 0 rfl) ?_
  refine lv_iconst (v := 0) hx hb dX4_begin_31 (by decide) ?_
  refine pf (ci := 4) (v := .int (bI false)) (ty := .boolean) (C := RX4) (T := TX4) (N := 7) (ws' := [oX4 h_ p1 0 0 true false false false]) hx hb hts i_X4 tyX4_ok nmX4 hown hK hP hD hS 0 rfl rfl 6 (Nat.le_of_ble_eq_true rfl) f_46 rfl rfl (by decide +kernel) (nar_bI false) (fit_bI false) (Nat.le_of_ble_eq_true rfl) rfl dX4_begin_32 (fun H locs hP hD hS => ?_)
  exact hret (p1, 0, 0, true, false, false, false) _ _ 35 _ hP hD hS hF dX4_begin_35
def F_X4_clear  (v_control : Int32) (v_character : Int32) (v_beat : Int32) (v_busy : Bool) (v_wasHigh : Bool) (v_parityHigh : Bool) (v_someHigh : Bool) : Option (Int32 × Int32 × Int32 × Bool × Bool × Bool × Bool) := bd (F_X4_begin 0 v_control v_character v_beat v_busy v_wasHigh v_parityHigh v_someHigh) (fun u1 => some (u1.1, u1.2.1, u1.2.2.1, false, true, u1.2.2.2.2.2.1, u1.2.2.2.2.2.2))
def wX4_clear (h_ : Nat) (u : Int32 × Int32 × Int32 × Bool × Bool × Bool × Bool) : va_W := [oX4 h_ u.1 u.2.1 u.2.2.1 u.2.2.2.1 u.2.2.2.2.1 u.2.2.2.2.2.1 u.2.2.2.2.2.2]
set_option maxHeartbeats 4000000 in
set_option maxRecDepth 100000 in
theorem mX4_clear {l : Launch} (D : va_G) (h_ : Nat) (v_control : Int32) (v_character : Int32) (v_beat : Int32) (v_busy : Bool) (v_wasHigh : Bool) (v_parityHigh : Bool) (v_someHigh : Bool) (u0 : Int32 × Int32 × Int32 × Bool × Bool × Bool × Bool) (hF : F_X4_clear v_control v_character v_beat v_busy v_wasHigh v_parityHigh v_someHigh = some u0) : MV l yX4_clear wsX4_clear { frames := 1, cells := 0, slots := 0, locals := 21 } D [] [.ref h_] [oX4 h_ v_control v_character v_beat v_busy v_wasHigh v_parityHigh v_someHigh] (wX4_clear h_ u0) := by
  refine MV.ofW (cc := cX4_clear) (maxL := 1) (ret := none) (lv := [(0, .ref h_)]) (by decide +kernel) rfl (Nat.le_of_ble_eq_true rfl) rfl ?_
  intro p e s m args below meth c A ls hx hb hr hml hts hown hlocks hA hK hP hD hS hl
  replace hown : s.vm.findClass RX4 = some m.cls := hown
  have i_X4 : ∀ w ∈ wsX40, w ∈ wsX4_clear := by decide +kernel
  have f_15 := hts (.fieldLink RX4 15 "SerialPort$Receiver" "busy" "Z") (by decide +kernel)
  have f_19 := hts (.fieldLink RX4 19 "SerialPort$Receiver" "wasHigh" "Z") (by decide +kernel)
  have hret : ∀ (u : Int32 × Int32 × Int32 × Bool × Bool × Bool × Bool) (H : Heap) (locs : List Loc) (pc : Nat) (ls : Array Slot), va_P D vwCl (wX4_clear h_ u) H → va_D A (wX4_clear h_ u) → va_S A s.heap H locs → some u = some u0 → decode cX4_clear pc = .ok (.return_, 1) → W p l e { frames := 1, cells := 0, slots := 0, locals := 21 } s m args below meth c H locs 0 0 (QV below D [] (wX4_clear h_ u0) args s A) (F0 m pc ls []) := fun u H locs pc ls h1 h2 h3 h4 h5 => rV (wf := wX4_clear h_) hx hb hr hlocks hK h1 h2 h3 h4 h5
  unfold F_X4_clear at hF
  refine lv_aload_n hx hb dX4_clear_0 rfl (lv_at hl 0 rfl) ?_
  refine lv_iconst (v := 0) hx hb dX4_clear_1 (by decide) ?_
  obtain ⟨u1, hu1, hF⟩ := bd_el hF
  refine cVV (q0 := 0) (ci := 4) (As := [.int 0]) (rest := []) (wr := []) (ws' := [oX4 h_ u1.1 u1.2.1 u1.2.2.1 u1.2.2.2.1 u1.2.2.2.2.1 u1.2.2.2.2.2.1 u1.2.2.2.2.2.2]) ⟨hx, hb, hml, hown, hts⟩ (mX4_begin D h_ v_control v_character v_beat v_busy v_wasHigh v_parityHigh v_someHigh 0 u1 hu1) (cwV 1 hts gX4_clear_X4_begin rfl rfl rfl (by decide +kernel) ⟨Nat.le_of_ble_eq_true rfl, Nat.le_of_ble_eq_true rfl⟩) hK hP hD hS hA [] [0] [] [0] rfl rfl rfl rfl rfl rfl rfl rfl rfl hl.1 rfl (Nat.le_of_ble_eq_true rfl) dX4_clear_2 ⟨Nat.le_refl _, Nat.le_refl _⟩ (fun H locs hP hD hS => ?_)
  refine lv_aload_n hx hb dX4_clear_5 rfl (lv_at hl 0 rfl) ?_
  refine lv_iconst (v := 0) hx hb dX4_clear_6 (by decide) ?_
  refine pf (ci := 4) (v := .int (bI false)) (ty := .boolean) (C := RX4) (T := TX4) (N := 7) (ws' := [oX4 h_ u1.1 u1.2.1 u1.2.2.1 false u1.2.2.2.2.1 u1.2.2.2.2.2.1 u1.2.2.2.2.2.2]) hx hb hts i_X4 tyX4_ok nmX4 hown hK hP hD hS 0 rfl rfl 3 (Nat.le_of_ble_eq_true rfl) f_15 rfl rfl (by decide +kernel) (nar_bI false) (fit_bI false) (Nat.le_of_ble_eq_true rfl) rfl dX4_clear_7 (fun H locs hP hD hS => ?_)
  refine lv_aload_n hx hb dX4_clear_10 rfl (lv_at hl 0 rfl) ?_
  refine lv_iconst (v := 1) hx hb dX4_clear_11 (by decide) ?_
  refine pf (ci := 4) (v := .int (bI true)) (ty := .boolean) (C := RX4) (T := TX4) (N := 7) (ws' := [oX4 h_ u1.1 u1.2.1 u1.2.2.1 false true u1.2.2.2.2.2.1 u1.2.2.2.2.2.2]) hx hb hts i_X4 tyX4_ok nmX4 hown hK hP hD hS 0 rfl rfl 4 (Nat.le_of_ble_eq_true rfl) f_19 rfl rfl (by decide +kernel) (nar_bI true) (fit_bI true) (Nat.le_of_ble_eq_true rfl) rfl dX4_clear_12 (fun H locs hP hD hS => ?_)
  exact hret (u1.1, u1.2.1, u1.2.2.1, false, true, u1.2.2.2.2.2.1, u1.2.2.2.2.2.2) _ _ 15 _ hP hD hS hF dX4_clear_15
def F_X4_isBusy  (v_busy : Bool) : Option (Bool) := some v_busy
def wX4_isBusy (h_ : Nat) (v_control : Int32) (v_character : Int32) (v_beat : Int32) (v_busy : Bool) (v_wasHigh : Bool) (v_parityHigh : Bool) (v_someHigh : Bool) (_u : Bool) : va_W := [oX4 h_ v_control v_character v_beat v_busy v_wasHigh v_parityHigh v_someHigh]
set_option maxHeartbeats 4000000 in
set_option maxRecDepth 100000 in
theorem mX4_isBusy {l : Launch} (D : va_G) (h_ : Nat) (v_control : Int32) (v_character : Int32) (v_beat : Int32) (v_busy : Bool) (v_wasHigh : Bool) (v_parityHigh : Bool) (v_someHigh : Bool) (u0 : Bool) (hF : F_X4_isBusy v_busy = some u0) : MI l yX4_isBusy wsX4_isBusy { frames := 0, cells := 0, slots := 0, locals := 0 } D [] [.ref h_] [oX4 h_ v_control v_character v_beat v_busy v_wasHigh v_parityHigh v_someHigh] (wX4_isBusy h_ v_control v_character v_beat v_busy v_wasHigh v_parityHigh v_someHigh u0) (bI u0) := by
  refine MI.ofW (cc := cX4_isBusy) (maxL := 1) (ret := (some .boolean)) (lv := [(0, .ref h_)]) (by decide +kernel) rfl (Nat.le_of_ble_eq_true rfl) rfl ?_
  intro p e s m args below meth c A ls hx hb hr hml hts hown hlocks hA hK hP hD hS hl
  replace hown : s.vm.findClass RX4 = some m.cls := hown
  have i_X4 : ∀ w ∈ wsX40, w ∈ wsX4_isBusy := by decide +kernel
  have f_15 := hts (.fieldLink RX4 15 "SerialPort$Receiver" "busy" "Z") (by decide +kernel)
  have hret : ∀ (u : Bool) (v : Int32) (H : Heap) (locs : List Loc) (pc : Nat) (ls : Array Slot), va_P D vwCl (wX4_isBusy h_ v_control v_character v_beat v_busy v_wasHigh v_parityHigh v_someHigh u) H → va_D A (wX4_isBusy h_ v_control v_character v_beat v_busy v_wasHigh v_parityHigh v_someHigh u) → va_S A s.heap H locs → some u = some u0 → v = bI u → decode cX4_isBusy pc = .ok (.ireturn, 1) → W p l e { frames := 0, cells := 0, slots := 0, locals := 0 } s m args below meth c H locs 0 0 (QI below D [] (wX4_isBusy h_ v_control v_character v_beat v_busy v_wasHigh v_parityHigh v_someHigh u0) (bI u0) args s A) (F0 m pc ls [.int v]) := fun u v H locs pc ls h1 h2 h3 h4 h5 h6 => rZ (wf := wX4_isBusy h_ v_control v_character v_beat v_busy v_wasHigh v_parityHigh v_someHigh) (rf := fun u => u) hx hb hr hlocks hK h1 h2 h3 h4 h5 h6
  unfold F_X4_isBusy at hF
  refine lv_aload_n hx hb dX4_isBusy_0 rfl (lv_at hl 0 rfl) ?_
  refine va_get (D := D) (ci := 4) (v := .int (bI v_busy)) (C := RX4) (T := TX4) (N := 7) hx hb hts i_X4 hown hK hP 0 rfl rfl 3 (Nat.le_of_ble_eq_true rfl) f_15 (fun _ h9 => h9) rfl dX4_isBusy_1 ?_
  exact hret v_busy (bI v_busy) _ _ 4 _ hP hD hS hF rfl dX4_isBusy_4
def F_X4_listen (p1 : Bool) (p2 : Int32) (v_control : Int32) (v_character : Int32) (v_beat : Int32) (v_busy : Bool) (v_wasHigh : Bool) (v_parityHigh : Bool) (v_someHigh : Bool) : Option (Int32 × Int32 × Int32 × Bool × Bool × Bool × Bool) := bt p1 (some (v_control, v_character, v_beat, v_busy, true, v_parityHigh, v_someHigh)) (bt v_wasHigh (bd (F_X4_begin p2 v_control v_character v_beat v_busy v_wasHigh v_parityHigh v_someHigh) (fun u3 => some (u3.1, u3.2.1, u3.2.2.1, u3.2.2.2.1, u3.2.2.2.2.1, u3.2.2.2.2.2.1, u3.2.2.2.2.2.2))) (some (v_control, v_character, v_beat, v_busy, v_wasHigh, v_parityHigh, v_someHigh)))
def wX4_listen (h_ : Nat) (u : Int32 × Int32 × Int32 × Bool × Bool × Bool × Bool) : va_W := [oX4 h_ u.1 u.2.1 u.2.2.1 u.2.2.2.1 u.2.2.2.2.1 u.2.2.2.2.2.1 u.2.2.2.2.2.2]
set_option maxHeartbeats 4000000 in
set_option maxRecDepth 100000 in
theorem mX4_listen {l : Launch} (D : va_G) (h_ : Nat) (v_control : Int32) (v_character : Int32) (v_beat : Int32) (v_busy : Bool) (v_wasHigh : Bool) (v_parityHigh : Bool) (v_someHigh : Bool) (p1 : Bool) (p2 : Int32) (u0 : Int32 × Int32 × Int32 × Bool × Bool × Bool × Bool) (hF : F_X4_listen p1 p2 v_control v_character v_beat v_busy v_wasHigh v_parityHigh v_someHigh = some u0) : MV l yX4_listen wsX4_listen { frames := 1, cells := 0, slots := 0, locals := 21 } D [] [.ref h_, .int (bI p1), .int p2] [oX4 h_ v_control v_character v_beat v_busy v_wasHigh v_parityHigh v_someHigh] (wX4_listen h_ u0) := by
  refine MV.ofW (cc := cX4_listen) (maxL := 3) (ret := none) (lv := [(0, .ref h_), (1, .int (bI p1)), (2, .int p2)]) (by decide +kernel) rfl (Nat.le_of_ble_eq_true rfl) rfl ?_
  intro p e s m args below meth c A ls hx hb hr hml hts hown hlocks hA hK hP hD hS hl
  replace hown : s.vm.findClass RX4 = some m.cls := hown
  have i_X4 : ∀ w ∈ wsX40, w ∈ wsX4_listen := by decide +kernel
  have f_19 := hts (.fieldLink RX4 19 "SerialPort$Receiver" "wasHigh" "Z") (by decide +kernel)
  have hret : ∀ (u : Int32 × Int32 × Int32 × Bool × Bool × Bool × Bool) (H : Heap) (locs : List Loc) (pc : Nat) (ls : Array Slot), va_P D vwCl (wX4_listen h_ u) H → va_D A (wX4_listen h_ u) → va_S A s.heap H locs → some u = some u0 → decode cX4_listen pc = .ok (.return_, 1) → W p l e { frames := 1, cells := 0, slots := 0, locals := 21 } s m args below meth c H locs 0 0 (QV below D [] (wX4_listen h_ u0) args s A) (F0 m pc ls []) := fun u H locs pc ls h1 h2 h3 h4 h5 => rV (wf := wX4_listen h_) hx hb hr hlocks hK h1 h2 h3 h4 h5
  unfold F_X4_listen at hF
  refine lv_iload_n hx hb dX4_listen_0 rfl (lv_at hl 1 rfl) ?_
  refine lv_if_eq (tgt := 12) hx hb dX4_listen_1 (by decide) (fun c1 => ?_) (fun c1 => ?_)
  · replace hF := bt_f (bI_0 c1) hF
    refine lv_aload_n hx hb dX4_listen_12 rfl (lv_at hl 0 rfl) ?_
    refine va_get (D := D) (ci := 4) (v := .int (bI v_wasHigh)) (C := RX4) (T := TX4) (N := 7) hx hb hts i_X4 hown hK hP 0 rfl rfl 4 (Nat.le_of_ble_eq_true rfl) f_19 (fun _ h9 => h9) rfl dX4_listen_13 ?_
    refine lv_if_eq (tgt := 24) hx hb dX4_listen_16 (by decide) (fun c2 => ?_) (fun c2 => ?_)
    · replace hF := bt_f (bI_0 c2) hF
      exact hret (v_control, v_character, v_beat, v_busy, v_wasHigh, v_parityHigh, v_someHigh) _ _ 24 _ hP hD hS hF dX4_listen_24
    · replace hF := bt_t (bI_n0 c2) hF
      refine lv_aload_n hx hb dX4_listen_19 rfl (lv_at hl 0 rfl) ?_
      refine lv_iload_n hx hb dX4_listen_20 rfl (lv_at hl 2 rfl) ?_
      obtain ⟨u3, hu3, hF⟩ := bd_el hF
      refine cVV (q0 := 0) (ci := 4) (As := [.int p2]) (rest := []) (wr := []) (ws' := [oX4 h_ u3.1 u3.2.1 u3.2.2.1 u3.2.2.2.1 u3.2.2.2.2.1 u3.2.2.2.2.2.1 u3.2.2.2.2.2.2]) ⟨hx, hb, hml, hown, hts⟩ (mX4_begin D h_ v_control v_character v_beat v_busy v_wasHigh v_parityHigh v_someHigh p2 u3 hu3) (cwV 1 hts gX4_listen_X4_begin rfl rfl rfl (by decide +kernel) ⟨Nat.le_of_ble_eq_true rfl, Nat.le_of_ble_eq_true rfl⟩) hK hP hD hS hA [] [0] [] [0] rfl rfl rfl rfl rfl rfl rfl rfl rfl hl.1 rfl (Nat.le_of_ble_eq_true rfl) dX4_listen_21 ⟨Nat.le_refl _, Nat.le_refl _⟩ (fun H locs hP hD hS => ?_)
      exact hret (u3.1, u3.2.1, u3.2.2.1, u3.2.2.2.1, u3.2.2.2.2.1, u3.2.2.2.2.2.1, u3.2.2.2.2.2.2) _ _ 24 _ hP hD hS hF dX4_listen_24
  · replace hF := bt_t (bI_n0 c1) hF
    refine lv_aload_n hx hb dX4_listen_4 rfl (lv_at hl 0 rfl) ?_
    refine lv_iconst (v := 1) hx hb dX4_listen_5 (by decide) ?_
    refine pf (ci := 4) (v := .int (bI true)) (ty := .boolean) (C := RX4) (T := TX4) (N := 7) (ws' := [oX4 h_ v_control v_character v_beat v_busy true v_parityHigh v_someHigh]) hx hb hts i_X4 tyX4_ok nmX4 hown hK hP hD hS 0 rfl rfl 4 (Nat.le_of_ble_eq_true rfl) f_19 rfl rfl (by decide +kernel) (nar_bI true) (fit_bI true) (Nat.le_of_ble_eq_true rfl) rfl dX4_listen_6 (fun H locs hP hD hS => ?_)
    refine lv_goto (tgt := 24) hx hb dX4_listen_9 (by decide) ?_
    exact hret (v_control, v_character, v_beat, v_busy, true, v_parityHigh, v_someHigh) _ _ 24 _ hP hD hS hF dX4_listen_24
def F_X4_becomeIdle (p1 : Bool) (v_busy : Bool) (v_wasHigh : Bool) : Option (Bool × Bool) := some (false, p1)
def wX4_becomeIdle (h_ : Nat) (v_control : Int32) (v_character : Int32) (v_beat : Int32) (v_parityHigh : Bool) (v_someHigh : Bool) (u : Bool × Bool) : va_W := [oX4 h_ v_control v_character v_beat u.1 u.2 v_parityHigh v_someHigh]
set_option maxHeartbeats 4000000 in
set_option maxRecDepth 100000 in
theorem mX4_becomeIdle {l : Launch} (D : va_G) (h_ : Nat) (v_control : Int32) (v_character : Int32) (v_beat : Int32) (v_busy : Bool) (v_wasHigh : Bool) (v_parityHigh : Bool) (v_someHigh : Bool) (p1 : Bool) (u0 : Bool × Bool) (hF : F_X4_becomeIdle p1 v_busy v_wasHigh = some u0) : MV l yX4_becomeIdle wsX4_becomeIdle { frames := 0, cells := 0, slots := 0, locals := 0 } D [] [.ref h_, .int (bI p1)] [oX4 h_ v_control v_character v_beat v_busy v_wasHigh v_parityHigh v_someHigh] (wX4_becomeIdle h_ v_control v_character v_beat v_parityHigh v_someHigh u0) := by
  refine MV.ofW (cc := cX4_becomeIdle) (maxL := 2) (ret := none) (lv := [(0, .ref h_), (1, .int (bI p1))]) (by decide +kernel) rfl (Nat.le_of_ble_eq_true rfl) rfl ?_
  intro p e s m args below meth c A ls hx hb hr hml hts hown hlocks hA hK hP hD hS hl
  replace hown : s.vm.findClass RX4 = some m.cls := hown
  have i_X4 : ∀ w ∈ wsX40, w ∈ wsX4_becomeIdle := by decide +kernel
  have f_15 := hts (.fieldLink RX4 15 "SerialPort$Receiver" "busy" "Z") (by decide +kernel)
  have f_19 := hts (.fieldLink RX4 19 "SerialPort$Receiver" "wasHigh" "Z") (by decide +kernel)
  have hret : ∀ (u : Bool × Bool) (H : Heap) (locs : List Loc) (pc : Nat) (ls : Array Slot), va_P D vwCl (wX4_becomeIdle h_ v_control v_character v_beat v_parityHigh v_someHigh u) H → va_D A (wX4_becomeIdle h_ v_control v_character v_beat v_parityHigh v_someHigh u) → va_S A s.heap H locs → some u = some u0 → decode cX4_becomeIdle pc = .ok (.return_, 1) → W p l e { frames := 0, cells := 0, slots := 0, locals := 0 } s m args below meth c H locs 0 0 (QV below D [] (wX4_becomeIdle h_ v_control v_character v_beat v_parityHigh v_someHigh u0) args s A) (F0 m pc ls []) := fun u H locs pc ls h1 h2 h3 h4 h5 => rV (wf := wX4_becomeIdle h_ v_control v_character v_beat v_parityHigh v_someHigh) hx hb hr hlocks hK h1 h2 h3 h4 h5
  unfold F_X4_becomeIdle at hF
  refine lv_aload_n hx hb dX4_becomeIdle_0 rfl (lv_at hl 0 rfl) ?_
  refine lv_iconst (v := 0) hx hb dX4_becomeIdle_1 (by decide) ?_
  refine pf (ci := 4) (v := .int (bI false)) (ty := .boolean) (C := RX4) (T := TX4) (N := 7) (ws' := [oX4 h_ v_control v_character v_beat false v_wasHigh v_parityHigh v_someHigh]) hx hb hts i_X4 tyX4_ok nmX4 hown hK hP hD hS 0 rfl rfl 3 (Nat.le_of_ble_eq_true rfl) f_15 rfl rfl (by decide +kernel) (nar_bI false) (fit_bI false) (Nat.le_of_ble_eq_true rfl) rfl dX4_becomeIdle_2 (fun H locs hP hD hS => ?_)
  refine lv_aload_n hx hb dX4_becomeIdle_5 rfl (lv_at hl 0 rfl) ?_
  refine lv_iload_n hx hb dX4_becomeIdle_6 rfl (lv_at hl 1 rfl) ?_
  refine pf (ci := 4) (v := .int (bI p1)) (ty := .boolean) (C := RX4) (T := TX4) (N := 7) (ws' := [oX4 h_ v_control v_character v_beat false p1 v_parityHigh v_someHigh]) hx hb hts i_X4 tyX4_ok nmX4 hown hK hP hD hS 0 rfl rfl 4 (Nat.le_of_ble_eq_true rfl) f_19 rfl rfl (by decide +kernel) (nar_bI p1) (fit_bI p1) (Nat.le_of_ble_eq_true rfl) rfl dX4_becomeIdle_7 (fun H locs hP hD hS => ?_)
  exact hret (false, p1) _ _ 10 _ hP hD hS hF dX4_becomeIdle_10
def F_X4_seeStart (p1 : Bool) (v_busy : Bool) (v_wasHigh : Bool) : Option (Int32 × Bool × Bool) := bt p1 (bd (F_X4_becomeIdle true v_busy v_wasHigh) (fun u2 => some ((-1), u2.1, u2.2))) (some ((-1), v_busy, v_wasHigh))
def wX4_seeStart (h_ : Nat) (v_control : Int32) (v_character : Int32) (v_beat : Int32) (v_parityHigh : Bool) (v_someHigh : Bool) (u : Int32 × Bool × Bool) : va_W := [oX4 h_ v_control v_character v_beat u.2.1 u.2.2 v_parityHigh v_someHigh]
set_option maxHeartbeats 4000000 in
set_option maxRecDepth 100000 in
theorem mX4_seeStart {l : Launch} (D : va_G) (h_ : Nat) (v_control : Int32) (v_character : Int32) (v_beat : Int32) (v_busy : Bool) (v_wasHigh : Bool) (v_parityHigh : Bool) (v_someHigh : Bool) (p1 : Bool) (u0 : Int32 × Bool × Bool) (hF : F_X4_seeStart p1 v_busy v_wasHigh = some u0) : MI l yX4_seeStart wsX4_seeStart { frames := 1, cells := 0, slots := 0, locals := 21 } D [] [.ref h_, .int (bI p1)] [oX4 h_ v_control v_character v_beat v_busy v_wasHigh v_parityHigh v_someHigh] (wX4_seeStart h_ v_control v_character v_beat v_parityHigh v_someHigh u0) (u0.1) := by
  refine MI.ofW (cc := cX4_seeStart) (maxL := 2) (ret := (some .int)) (lv := [(0, .ref h_), (1, .int (bI p1))]) (by decide +kernel) rfl (Nat.le_of_ble_eq_true rfl) rfl ?_
  intro p e s m args below meth c A ls hx hb hr hml hts hown hlocks hA hK hP hD hS hl
  replace hown : s.vm.findClass RX4 = some m.cls := hown
  have hret : ∀ (u : Int32 × Bool × Bool) (v : Int32) (H : Heap) (locs : List Loc) (pc : Nat) (ls : Array Slot), va_P D vwCl (wX4_seeStart h_ v_control v_character v_beat v_parityHigh v_someHigh u) H → va_D A (wX4_seeStart h_ v_control v_character v_beat v_parityHigh v_someHigh u) → va_S A s.heap H locs → some u = some u0 → v = u.1 → decode cX4_seeStart pc = .ok (.ireturn, 1) → W p l e { frames := 1, cells := 0, slots := 0, locals := 21 } s m args below meth c H locs 0 0 (QI below D [] (wX4_seeStart h_ v_control v_character v_beat v_parityHigh v_someHigh u0) (u0.1) args s A) (F0 m pc ls [.int v]) := fun u v H locs pc ls h1 h2 h3 h4 h5 h6 => rI (wf := wX4_seeStart h_ v_control v_character v_beat v_parityHigh v_someHigh) (rf := fun u => u.1) hx hb hr hlocks hK h1 h2 h3 h4 h5 h6
  unfold F_X4_seeStart at hF
  refine lv_iload_n hx hb dX4_seeStart_0 rfl (lv_at hl 1 rfl) ?_
  refine lv_if_eq (tgt := 9) hx hb dX4_seeStart_1 (by decide) (fun c1 => ?_) (fun c1 => ?_)
  · replace hF := bt_f (bI_0 c1) hF
    refine lv_iconst (v := (-1)) hx hb dX4_seeStart_9 (by decide) ?_
    exact hret ((-1), v_busy, v_wasHigh) (-1) _ _ 10 _ hP hD hS hF rfl dX4_seeStart_10
  · replace hF := bt_t (bI_n0 c1) hF
    refine lv_aload_n hx hb dX4_seeStart_4 rfl (lv_at hl 0 rfl) ?_
    refine lv_iconst (v := 1) hx hb dX4_seeStart_5 (by decide) ?_
    obtain ⟨u2, hu2, hF⟩ := bd_el hF
    refine cVV (q0 := 0) (ci := 4) (As := [.int (bI true)]) (rest := []) (wr := []) (ws' := [oX4 h_ v_control v_character v_beat u2.1 u2.2 v_parityHigh v_someHigh]) ⟨hx, hb, hml, hown, hts⟩ (mX4_becomeIdle D h_ v_control v_character v_beat v_busy v_wasHigh v_parityHigh v_someHigh true u2 hu2) (cwV 1 hts gX4_seeStart_X4_becomeIdle rfl rfl rfl (by decide +kernel) ⟨Nat.le_of_ble_eq_true rfl, Nat.le_of_ble_eq_true rfl⟩) hK hP hD hS hA [] [0] [] [0] rfl rfl rfl rfl rfl rfl rfl rfl rfl hl.1 rfl (Nat.le_of_ble_eq_true rfl) dX4_seeStart_6 ⟨Nat.le_refl _, Nat.le_refl _⟩ (fun H locs hP hD hS => ?_)
    refine lv_iconst (v := (-1)) hx hb dX4_seeStart_9 (by decide) ?_
    exact hret ((-1), u2.1, u2.2) (-1) _ _ 10 _ hP hD hS hF rfl dX4_seeStart_10
def F_X4_faults_23 (v_control : Int32) (v_character : Int32) (v_parityHigh : Bool) (v_someHigh : Bool) (l2 : Int32) : Option (Int32) := bd (F_X7_hasParity v_control) (fun u1 => bt u1 (bd (F_X7_parityIsHigh v_control v_character) (fun u3 => if (bI v_parityHigh) = (bI u3) then (some l2) else (lt1 (l2 ||| 4) (fun x5 => some x5)))) (some l2))
def F_X4_faults_10 (v_control : Int32) (v_character : Int32) (v_parityHigh : Bool) (v_someHigh : Bool) (s0 : Int32) : Option (Int32) := bt v_someHigh (F_X4_faults_23 v_control v_character v_parityHigh v_someHigh s0) (lt1 (s0 ||| 16) (fun x7 => F_X4_faults_23 v_control v_character v_parityHigh v_someHigh x7))
def F_X4_faults (p1 : Bool) (v_control : Int32) (v_character : Int32) (v_parityHigh : Bool) (v_someHigh : Bool) : Option (Int32) := bt p1 (F_X4_faults_10 v_control v_character v_parityHigh v_someHigh 0) (F_X4_faults_10 v_control v_character v_parityHigh v_someHigh 8)
def wX4_faults (h_ : Nat) (v_control : Int32) (v_character : Int32) (v_beat : Int32) (v_busy : Bool) (v_wasHigh : Bool) (v_parityHigh : Bool) (v_someHigh : Bool) (_u : Int32) : va_W := [oX4 h_ v_control v_character v_beat v_busy v_wasHigh v_parityHigh v_someHigh]
set_option maxHeartbeats 4000000 in
set_option maxRecDepth 100000 in
theorem mX4_faults {l : Launch} (D : va_G) (h_ : Nat) (v_control : Int32) (v_character : Int32) (v_beat : Int32) (v_busy : Bool) (v_wasHigh : Bool) (v_parityHigh : Bool) (v_someHigh : Bool) (p1 : Bool) (u0 : Int32) (hF : F_X4_faults p1 v_control v_character v_parityHigh v_someHigh = some u0) : MI l yX4_faults wsX4_faults { frames := 2, cells := 0, slots := 0, locals := 44 } D [] [.ref h_, .int (bI p1)] [oX4 h_ v_control v_character v_beat v_busy v_wasHigh v_parityHigh v_someHigh] (wX4_faults h_ v_control v_character v_beat v_busy v_wasHigh v_parityHigh v_someHigh u0) (u0) := by
  refine MI.ofW (cc := cX4_faults) (maxL := 3) (ret := (some .int)) (lv := [(0, .ref h_), (1, .int (bI p1))]) (by decide +kernel) rfl (Nat.le_of_ble_eq_true rfl) rfl ?_
  intro p e s m args below meth c A ls hx hb hr hml hts hown hlocks hA hK hP hD hS hl
  replace hown : s.vm.findClass RX4 = some m.cls := hown
  have i_X4 : ∀ w ∈ wsX40, w ∈ wsX4_faults := by decide +kernel
  have f_37 := hts (.fieldLink RX4 37 "SerialPort$Receiver" "control" "I") (by decide +kernel)
  have f_40 := hts (.fieldLink RX4 40 "SerialPort$Receiver" "character" "I") (by decide +kernel)
  have f_43 := hts (.fieldLink RX4 43 "SerialPort$Receiver" "parityHigh" "Z") (by decide +kernel)
  have f_46 := hts (.fieldLink RX4 46 "SerialPort$Receiver" "someHigh" "Z") (by decide +kernel)
  have hret : ∀ (u : Int32) (v : Int32) (H : Heap) (locs : List Loc) (pc : Nat) (ls : Array Slot), va_P D vwCl (wX4_faults h_ v_control v_character v_beat v_busy v_wasHigh v_parityHigh v_someHigh u) H → va_D A (wX4_faults h_ v_control v_character v_beat v_busy v_wasHigh v_parityHigh v_someHigh u) → va_S A s.heap H locs → some u = some u0 → v = u → decode cX4_faults pc = .ok (.ireturn, 1) → W p l e { frames := 2, cells := 0, slots := 0, locals := 44 } s m args below meth c H locs 0 0 (QI below D [] (wX4_faults h_ v_control v_character v_beat v_busy v_wasHigh v_parityHigh v_someHigh u0) (u0) args s A) (F0 m pc ls [.int v]) := fun u v H locs pc ls h1 h2 h3 h4 h5 h6 => rI (wf := wX4_faults h_ v_control v_character v_beat v_busy v_wasHigh v_parityHigh v_someHigh) (rf := fun u => u) hx hb hr hlocks hK h1 h2 h3 h4 h5 h6
  have J23 : ∀ (l2 : Int32) (H : Heap) (locs : List Loc) (ls : Array Slot), F_X4_faults_23 v_control v_character v_parityHigh v_someHigh l2 = some u0 → lv_has ls 3 [(0, .ref h_), (2, .int l2)] → va_P D vwCl [oX4 h_ v_control v_character v_beat v_busy v_wasHigh v_parityHigh v_someHigh] H → va_D A [oX4 h_ v_control v_character v_beat v_busy v_wasHigh v_parityHigh v_someHigh] → va_S A s.heap H locs → W p l e { frames := 2, cells := 0, slots := 0, locals := 44 } s m args below meth c H locs 0 0 (QI below D [] (wX4_faults h_ v_control v_character v_beat v_busy v_wasHigh v_parityHigh v_someHigh u0) (u0) args s A) (F0 m 23 ls []) := by
    intro l2 H locs ls hF hl hP hD hS
    unfold F_X4_faults_23 at hF
    refine lv_aload_n hx hb dX4_faults_23 rfl (lv_at hl 0 rfl) ?_
    refine va_get (D := D) (ci := 4) (v := .int v_control) (C := RX4) (T := TX4) (N := 7) hx hb hts i_X4 hown hK hP 0 rfl rfl 0 (Nat.le_of_ble_eq_true rfl) f_37 (fun _ h9 => h9) rfl dX4_faults_24 ?_
    obtain ⟨u1, hu1, hF⟩ := bd_el hF
    refine cSI (As := [.int v_control]) (rest := []) (wr := [oX4 h_ v_control v_character v_beat v_busy v_wasHigh v_parityHigh v_someHigh]) (ws' := [oX4 h_ v_control v_character v_beat v_busy v_wasHigh v_parityHigh v_someHigh]) (rv := bI u1) ⟨hx, hb, hml, hown, hts⟩ (mX7_hasParity D v_control u1 hu1) (va_cwS 1 hts gX4_faults_X7_hasParity rfl rfl rfl (by decide +kernel) ⟨Nat.le_of_ble_eq_true rfl, Nat.le_of_ble_eq_true rfl⟩) hK hP hD hS hA [] [] [0] [0] rfl rfl rfl rfl rfl rfl hl.1 rfl (Nat.le_of_ble_eq_true rfl) rfl dX4_faults_27 ⟨Nat.le_refl _, Nat.le_refl _⟩ (fun H locs hP hD hS => ?_)
    refine lv_if_eq (tgt := 55) hx hb dX4_faults_30 (by decide) (fun c2 => ?_) (fun c2 => ?_)
    · replace hF := bt_f (bI_0 c2) hF
      refine lv_iload_n hx hb dX4_faults_55 rfl (lv_at hl 1 rfl) ?_
      exact hret l2 l2 _ _ 56 _ hP hD hS hF rfl dX4_faults_56
    · replace hF := bt_t (bI_n0 c2) hF
      refine lv_aload_n hx hb dX4_faults_33 rfl (lv_at hl 0 rfl) ?_
      refine va_get (D := D) (ci := 4) (v := .int (bI v_parityHigh)) (C := RX4) (T := TX4) (N := 7) hx hb hts i_X4 hown hK hP 0 rfl rfl 5 (Nat.le_of_ble_eq_true rfl) f_43 (fun _ h9 => h9) rfl dX4_faults_34 ?_
      refine lv_aload_n hx hb dX4_faults_37 rfl (lv_at hl 0 rfl) ?_
      refine va_get (D := D) (ci := 4) (v := .int v_control) (C := RX4) (T := TX4) (N := 7) hx hb hts i_X4 hown hK hP 0 rfl rfl 0 (Nat.le_of_ble_eq_true rfl) f_37 (fun _ h9 => h9) rfl dX4_faults_38 ?_
      refine lv_aload_n hx hb dX4_faults_41 rfl (lv_at hl 0 rfl) ?_
      refine va_get (D := D) (ci := 4) (v := .int v_character) (C := RX4) (T := TX4) (N := 7) hx hb hts i_X4 hown hK hP 0 rfl rfl 1 (Nat.le_of_ble_eq_true rfl) f_40 (fun _ h9 => h9) rfl dX4_faults_42 ?_
      obtain ⟨u3, hu3, hF⟩ := bd_el hF
      refine cSI (As := [.int v_control, .int v_character]) (rest := [.int (bI v_parityHigh)]) (wr := [oX4 h_ v_control v_character v_beat v_busy v_wasHigh v_parityHigh v_someHigh]) (ws' := [oX4 h_ v_control v_character v_beat v_busy v_wasHigh v_parityHigh v_someHigh]) (rv := bI u3) ⟨hx, hb, hml, hown, hts⟩ (mX7_parityIsHigh D v_control v_character u3 hu3) (va_cwS 2 hts gX4_faults_X7_parityIsHigh rfl rfl rfl (by decide +kernel) ⟨Nat.le_of_ble_eq_true rfl, Nat.le_of_ble_eq_true rfl⟩) hK hP hD hS hA [] [] [0] [0] rfl rfl rfl rfl rfl rfl hl.1 rfl (Nat.le_of_ble_eq_true rfl) rfl dX4_faults_45 ⟨Nat.le_refl _, Nat.le_refl _⟩ (fun H locs hP hD hS => ?_)
      refine lv_icmp_eq (tgt := 55) hx hb dX4_faults_48 (by decide) (fun c4 => ?_) (fun c4 => ?_)
      · replace hF := it_t c4 hF
        refine lv_iload_n hx hb dX4_faults_55 rfl (lv_at hl 1 rfl) ?_
        exact hret l2 l2 _ _ 56 _ hP hD hS hF rfl dX4_faults_56
      · replace hF := it_f c4 hF
        refine lv_iload_n hx hb dX4_faults_51 rfl (lv_at hl 1 rfl) ?_
        refine lv_iconst (v := 4) hx hb dX4_faults_52 (by decide) ?_
        refine lv_ior hx hb dX4_faults_53 ?_
        refine lv_topi (fun x5 ex5 => ?_)
        replace hF := lt1_x ex5 hF
        refine lv_istore_n (lv' := [(2, .int x5), (0, .ref h_)]) hx hb dX4_faults_54 rfl hl (Nat.le_of_ble_eq_true rfl) rfl (fun ls hl => ?_)
        refine lv_iload_n hx hb dX4_faults_55 rfl (lv_at hl 0 rfl) ?_
        exact hret x5 x5 _ _ 56 _ hP hD hS hF rfl dX4_faults_56
  have J10 : ∀ (s0 : Int32) (H : Heap) (locs : List Loc) (ls : Array Slot), F_X4_faults_10 v_control v_character v_parityHigh v_someHigh s0 = some u0 → lv_has ls 3 [(0, .ref h_)] → va_P D vwCl [oX4 h_ v_control v_character v_beat v_busy v_wasHigh v_parityHigh v_someHigh] H → va_D A [oX4 h_ v_control v_character v_beat v_busy v_wasHigh v_parityHigh v_someHigh] → va_S A s.heap H locs → W p l e { frames := 2, cells := 0, slots := 0, locals := 44 } s m args below meth c H locs 0 0 (QI below D [] (wX4_faults h_ v_control v_character v_beat v_busy v_wasHigh v_parityHigh v_someHigh u0) (u0) args s A) (F0 m 10 ls [.int s0]) := by
    intro s0 H locs ls hF hl hP hD hS
    unfold F_X4_faults_10 at hF
    refine lv_istore_n (lv' := [(2, .int s0), (0, .ref h_)]) hx hb dX4_faults_10 rfl hl (Nat.le_of_ble_eq_true rfl) rfl (fun ls hl => ?_)
    refine lv_aload_n hx hb dX4_faults_11 rfl (lv_at hl 1 rfl) ?_
    refine va_get (D := D) (ci := 4) (v := .int (bI v_someHigh)) (C := RX4) (T := TX4) (N := 7) hx hb hts i_X4 hown hK hP 0 rfl rfl 6 (Nat.le_of_ble_eq_true rfl) f_46 (fun _ h9 => h9) rfl dX4_faults_12 ?_
    refine lv_if_ne (tgt := 23) hx hb dX4_faults_15 (by decide) (fun c6 => ?_) (fun c6 => ?_)
    · replace hF := bt_t (bI_n0 c6) hF
      exact J23 s0 _ _ _ hF (lv_sub hl [1, 0] rfl) hP hD hS
    · replace hF := bt_f (bI_0 c6) hF
      refine lv_iload_n hx hb dX4_faults_18 rfl (lv_at hl 0 rfl) ?_
      refine lv_bipush (v := 16) hx hb dX4_faults_19 (by decide) ?_
      refine lv_ior hx hb dX4_faults_21 ?_
      refine lv_topi (fun x7 ex7 => ?_)
      replace hF := lt1_x ex7 hF
      refine lv_istore_n (lv' := [(2, .int x7), (0, .ref h_)]) hx hb dX4_faults_22 rfl hl (Nat.le_of_ble_eq_true rfl) rfl (fun ls hl => ?_)
      exact J23 x7 _ _ _ hF (lv_sub hl [1, 0] rfl) hP hD hS
  unfold F_X4_faults at hF
  refine lv_iload_n hx hb dX4_faults_0 rfl (lv_at hl 1 rfl) ?_
  refine lv_if_eq (tgt := 8) hx hb dX4_faults_1 (by decide) (fun c8 => ?_) (fun c8 => ?_)
  · replace hF := bt_f (bI_0 c8) hF
    refine lv_bipush (v := 8) hx hb dX4_faults_8 (by decide) ?_
    exact J10 8 _ _ _ hF (lv_sub hl [0] rfl) hP hD hS
  · replace hF := bt_t (bI_n0 c8) hF
    refine lv_iconst (v := 0) hx hb dX4_faults_4 (by decide) ?_
    refine lv_goto (tgt := 10) hx hb dX4_faults_5 (by decide) ?_
    exact J10 0 _ _ _ hF (lv_sub hl [0] rfl) hP hD hS
def F_X4_see_89 (v_control : Int32) (v_beat : Int32) (l1 : Bool) (v_character : Int32) (v_busy : Bool) (v_wasHigh : Bool) (v_parityHigh : Bool) (v_someHigh : Bool) : Option (Int32 × Int32 × Bool × Bool × Bool × Bool) := bd (F_X4_becomeIdle l1 v_busy v_wasHigh) (fun u1 => bd (F_X4_faults l1 v_control v_character v_parityHigh v_someHigh) (fun u2 => some ((v_character ||| (u2 <<< ((8 : Int32) &&& 31))), v_character, u1.1, u1.2, v_parityHigh, v_someHigh)))
def F_X4_see_33 (v_control : Int32) (v_beat : Int32) (s1 : Bool) (l1 : Bool) (l2 : Int32) (l3 : Int32) (v_character : Int32) (v_busy : Bool) (v_wasHigh : Bool) (v_parityHigh : Bool) (v_someHigh : Bool) : Option (Int32 × Int32 × Bool × Bool × Bool × Bool) := if l3 < l2 then (if l2 = (l3 + 1) then (bd (F_X7_hasParity v_control) (fun u5 => bt u5 (some ((-1), v_character, v_busy, v_wasHigh, l1, s1)) (F_X4_see_89 v_control v_beat l1 v_character v_busy v_wasHigh v_parityHigh s1))) else (F_X4_see_89 v_control v_beat l1 v_character v_busy v_wasHigh v_parityHigh s1)) else (bt l1 (lt1 (v_character ||| (1 <<< ((l2 - 1) &&& 31))) (fun x9 => some ((-1), x9, v_busy, v_wasHigh, v_parityHigh, s1))) (lt1 (v_character ||| 0) (fun x8 => some ((-1), x8, v_busy, v_wasHigh, v_parityHigh, s1))))
def F_X4_see (p1 : Bool) (v_control : Int32) (v_character : Int32) (v_beat : Int32) (v_busy : Bool) (v_wasHigh : Bool) (v_parityHigh : Bool) (v_someHigh : Bool) : Option (Int32 × Int32 × Bool × Bool × Bool × Bool) := lt1 (v_beat / 16) (fun x10 => bd (F_X7_dataBits v_control) (fun u11 => bt v_someHigh (F_X4_see_33 v_control v_beat true p1 x10 u11 v_character v_busy v_wasHigh v_parityHigh v_someHigh) (bt p1 (F_X4_see_33 v_control v_beat true p1 x10 u11 v_character v_busy v_wasHigh v_parityHigh v_someHigh) (F_X4_see_33 v_control v_beat false p1 x10 u11 v_character v_busy v_wasHigh v_parityHigh v_someHigh))))
def wX4_see (h_ : Nat) (v_control : Int32) (v_beat : Int32) (u : Int32 × Int32 × Bool × Bool × Bool × Bool) : va_W := [oX4 h_ v_control u.2.1 v_beat u.2.2.1 u.2.2.2.1 u.2.2.2.2.1 u.2.2.2.2.2]
set_option maxHeartbeats 4000000 in
set_option maxRecDepth 100000 in
theorem mX4_see {l : Launch} (D : va_G) (h_ : Nat) (v_control : Int32) (v_character : Int32) (v_beat : Int32) (v_busy : Bool) (v_wasHigh : Bool) (v_parityHigh : Bool) (v_someHigh : Bool) (p1 : Bool) (u0 : Int32 × Int32 × Bool × Bool × Bool × Bool) (hF : F_X4_see p1 v_control v_character v_beat v_busy v_wasHigh v_parityHigh v_someHigh = some u0) : MI l yX4_see wsX4_see { frames := 3, cells := 0, slots := 0, locals := 66 } D [] [.ref h_, .int (bI p1)] [oX4 h_ v_control v_character v_beat v_busy v_wasHigh v_parityHigh v_someHigh] (wX4_see h_ v_control v_beat u0) (u0.1) := by
  refine MI.ofW (cc := cX4_see) (maxL := 4) (ret := (some .int)) (lv := [(0, .ref h_), (1, .int (bI p1))]) (by decide +kernel) rfl (Nat.le_of_ble_eq_true rfl) rfl ?_
  intro p e s m args below meth c A ls hx hb hr hml hts hown hlocks hA hK hP hD hS hl
  replace hown : s.vm.findClass RX4 = some m.cls := hown
  have i_X4 : ∀ w ∈ wsX40, w ∈ wsX4_see := by decide +kernel
  have f_26 := hts (.fieldLink RX4 26 "SerialPort$Receiver" "beat" "I") (by decide +kernel)
  have f_37 := hts (.fieldLink RX4 37 "SerialPort$Receiver" "control" "I") (by decide +kernel)
  have f_40 := hts (.fieldLink RX4 40 "SerialPort$Receiver" "character" "I") (by decide +kernel)
  have f_43 := hts (.fieldLink RX4 43 "SerialPort$Receiver" "parityHigh" "Z") (by decide +kernel)
  have f_46 := hts (.fieldLink RX4 46 "SerialPort$Receiver" "someHigh" "Z") (by decide +kernel)
  have hret : ∀ (u : Int32 × Int32 × Bool × Bool × Bool × Bool) (v : Int32) (H : Heap) (locs : List Loc) (pc : Nat) (ls : Array Slot), va_P D vwCl (wX4_see h_ v_control v_beat u) H → va_D A (wX4_see h_ v_control v_beat u) → va_S A s.heap H locs → some u = some u0 → v = u.1 → decode cX4_see pc = .ok (.ireturn, 1) → W p l e { frames := 3, cells := 0, slots := 0, locals := 66 } s m args below meth c H locs 0 0 (QI below D [] (wX4_see h_ v_control v_beat u0) (u0.1) args s A) (F0 m pc ls [.int v]) := fun u v H locs pc ls h1 h2 h3 h4 h5 h6 => rI (wf := wX4_see h_ v_control v_beat) (rf := fun u => u.1) hx hb hr hlocks hK h1 h2 h3 h4 h5 h6
  have J89 : ∀ (l1 : Bool) (v_character : Int32) (v_busy : Bool) (v_wasHigh : Bool) (v_parityHigh : Bool) (v_someHigh : Bool) (H : Heap) (locs : List Loc) (ls : Array Slot), F_X4_see_89 v_control v_beat l1 v_character v_busy v_wasHigh v_parityHigh v_someHigh = some u0 → lv_has ls 4 [(0, .ref h_), (1, .int (bI l1))] → va_P D vwCl [oX4 h_ v_control v_character v_beat v_busy v_wasHigh v_parityHigh v_someHigh] H → va_D A [oX4 h_ v_control v_character v_beat v_busy v_wasHigh v_parityHigh v_someHigh] → va_S A s.heap H locs → W p l e { frames := 3, cells := 0, slots := 0, locals := 66 } s m args below meth c H locs 0 0 (QI below D [] (wX4_see h_ v_control v_beat u0) (u0.1) args s A) (F0 m 89 ls []) := by
    intro l1 v_character v_busy v_wasHigh v_parityHigh v_someHigh H locs ls hF hl hP hD hS
    unfold F_X4_see_89 at hF
    refine lv_aload_n hx hb dX4_see_89 rfl (lv_at hl 0 rfl) ?_
    refine lv_iload_n hx hb dX4_see_90 rfl (lv_at hl 1 rfl) ?_
    obtain ⟨u1, hu1, hF⟩ := bd_el hF
    refine cVV (q0 := 0) (ci := 4) (As := [.int (bI l1)]) (rest := []) (wr := []) (ws' := [oX4 h_ v_control v_character v_beat u1.1 u1.2 v_parityHigh v_someHigh]) ⟨hx, hb, hml, hown, hts⟩ (mX4_becomeIdle D h_ v_control v_character v_beat v_busy v_wasHigh v_parityHigh v_someHigh l1 u1 hu1) (cwV 1 hts gX4_see_X4_becomeIdle rfl rfl rfl (by decide +kernel) ⟨Nat.le_of_ble_eq_true rfl, Nat.le_of_ble_eq_true rfl⟩) hK hP hD hS hA [] [0] [] [0] rfl rfl rfl rfl rfl rfl rfl rfl rfl hl.1 rfl (Nat.le_of_ble_eq_true rfl) dX4_see_91 ⟨Nat.le_refl _, Nat.le_refl _⟩ (fun H locs hP hD hS => ?_)
    refine lv_aload_n hx hb dX4_see_94 rfl (lv_at hl 0 rfl) ?_
    refine va_get (D := D) (ci := 4) (v := .int v_character) (C := RX4) (T := TX4) (N := 7) hx hb hts i_X4 hown hK hP 0 rfl rfl 1 (Nat.le_of_ble_eq_true rfl) f_40 (fun _ h9 => h9) rfl dX4_see_95 ?_
    refine lv_aload_n hx hb dX4_see_98 rfl (lv_at hl 0 rfl) ?_
    refine lv_iload_n hx hb dX4_see_99 rfl (lv_at hl 1 rfl) ?_
    obtain ⟨u2, hu2, hF⟩ := bd_el hF
    refine cVI (q0 := 0) (ci := 4) (As := [.int (bI l1)]) (rest := [.int v_character]) (wr := []) (ws' := [oX4 h_ v_control v_character v_beat u1.1 u1.2 v_parityHigh v_someHigh]) (rv := u2) ⟨hx, hb, hml, hown, hts⟩ (mX4_faults D h_ v_control v_character v_beat u1.1 u1.2 v_parityHigh v_someHigh l1 u2 hu2) (cwV 1 hts gX4_see_X4_faults rfl rfl rfl (by decide +kernel) ⟨Nat.le_of_ble_eq_true rfl, Nat.le_of_ble_eq_true rfl⟩) hK hP hD hS hA [] [0] [] [0] rfl rfl rfl rfl rfl rfl rfl rfl rfl hl.1 rfl (Nat.le_of_ble_eq_true rfl) rfl dX4_see_100 ⟨Nat.le_refl _, Nat.le_refl _⟩ (fun H locs hP hD hS => ?_)
    refine lv_bipush (v := 8) hx hb dX4_see_103 (by decide) ?_
    refine lv_ishl hx hb dX4_see_105 ?_
    refine lv_ior hx hb dX4_see_106 ?_
    exact hret ((v_character ||| (u2 <<< ((8 : Int32) &&& 31))), v_character, u1.1, u1.2, v_parityHigh, v_someHigh) (v_character ||| (u2 <<< ((8 : Int32) &&& 31))) _ _ 107 _ hP hD hS hF rfl dX4_see_107
  have J33 : ∀ (s1 : Bool) (l1 : Bool) (l2 : Int32) (l3 : Int32) (v_character : Int32) (v_busy : Bool) (v_wasHigh : Bool) (v_parityHigh : Bool) (v_someHigh : Bool) (H : Heap) (locs : List Loc) (ls : Array Slot), F_X4_see_33 v_control v_beat s1 l1 l2 l3 v_character v_busy v_wasHigh v_parityHigh v_someHigh = some u0 → lv_has ls 4 [(0, .ref h_), (1, .int (bI l1)), (2, .int l2), (3, .int l3)] → va_P D vwCl [oX4 h_ v_control v_character v_beat v_busy v_wasHigh v_parityHigh v_someHigh] H → va_D A [oX4 h_ v_control v_character v_beat v_busy v_wasHigh v_parityHigh v_someHigh] → va_S A s.heap H locs → W p l e { frames := 3, cells := 0, slots := 0, locals := 66 } s m args below meth c H locs 0 0 (QI below D [] (wX4_see h_ v_control v_beat u0) (u0.1) args s A) (F0 m 33 ls [.int (bI s1), .ref h_]) := by
    intro s1 l1 l2 l3 v_character v_busy v_wasHigh v_parityHigh v_someHigh H locs ls hF hl hP hD hS
    unfold F_X4_see_33 at hF
    refine pf (ci := 4) (v := .int (bI s1)) (ty := .boolean) (C := RX4) (T := TX4) (N := 7) (ws' := [oX4 h_ v_control v_character v_beat v_busy v_wasHigh v_parityHigh s1]) hx hb hts i_X4 tyX4_ok nmX4 hown hK hP hD hS 0 rfl rfl 6 (Nat.le_of_ble_eq_true rfl) f_46 rfl rfl (by decide +kernel) (nar_bI s1) (fit_bI s1) (Nat.le_of_ble_eq_true rfl) rfl dX4_see_33 (fun H locs hP hD hS => ?_)
    refine lv_iload_n hx hb dX4_see_36 rfl (lv_at hl 2 rfl) ?_
    refine lv_iload_n hx hb dX4_see_37 rfl (lv_at hl 3 rfl) ?_
    refine lv_icmp_gt (tgt := 65) hx hb dX4_see_38 (by decide) (fun c3 => ?_) (fun c3 => ?_)
    · replace hF := it_t c3 hF
      refine lv_iload_n hx hb dX4_see_65 rfl (lv_at hl 2 rfl) ?_
      refine lv_iload_n hx hb dX4_see_66 rfl (lv_at hl 3 rfl) ?_
      refine lv_iconst (v := 1) hx hb dX4_see_67 (by decide) ?_
      refine lv_iadd hx hb dX4_see_68 ?_
      refine lv_icmp_ne (tgt := 89) hx hb dX4_see_69 (by decide) (fun c4 => ?_) (fun c4 => ?_)
      · replace hF := it_f c4 hF
        exact J89 l1 v_character v_busy v_wasHigh v_parityHigh s1 _ _ _ hF (lv_sub hl [0, 1] rfl) hP hD hS
      · replace hF := it_t c4 hF
        refine lv_aload_n hx hb dX4_see_72 rfl (lv_at hl 0 rfl) ?_
        refine va_get (D := D) (ci := 4) (v := .int v_control) (C := RX4) (T := TX4) (N := 7) hx hb hts i_X4 hown hK hP 0 rfl rfl 0 (Nat.le_of_ble_eq_true rfl) f_37 (fun _ h9 => h9) rfl dX4_see_73 ?_
        obtain ⟨u5, hu5, hF⟩ := bd_el hF
        refine cSI (As := [.int v_control]) (rest := []) (wr := [oX4 h_ v_control v_character v_beat v_busy v_wasHigh v_parityHigh s1]) (ws' := [oX4 h_ v_control v_character v_beat v_busy v_wasHigh v_parityHigh s1]) (rv := bI u5) ⟨hx, hb, hml, hown, hts⟩ (mX7_hasParity D v_control u5 hu5) (va_cwS 1 hts gX4_see_X7_hasParity rfl rfl rfl (by decide +kernel) ⟨Nat.le_of_ble_eq_true rfl, Nat.le_of_ble_eq_true rfl⟩) hK hP hD hS hA [] [] [0] [0] rfl rfl rfl rfl rfl rfl hl.1 rfl (Nat.le_of_ble_eq_true rfl) rfl dX4_see_76 ⟨Nat.le_refl _, Nat.le_refl _⟩ (fun H locs hP hD hS => ?_)
        refine lv_if_eq (tgt := 89) hx hb dX4_see_79 (by decide) (fun c6 => ?_) (fun c6 => ?_)
        · replace hF := bt_f (bI_0 c6) hF
          exact J89 l1 v_character v_busy v_wasHigh v_parityHigh s1 _ _ _ hF (lv_sub hl [0, 1] rfl) hP hD hS
        · replace hF := bt_t (bI_n0 c6) hF
          refine lv_aload_n hx hb dX4_see_82 rfl (lv_at hl 0 rfl) ?_
          refine lv_iload_n hx hb dX4_see_83 rfl (lv_at hl 1 rfl) ?_
          refine pf (ci := 4) (v := .int (bI l1)) (ty := .boolean) (C := RX4) (T := TX4) (N := 7) (ws' := [oX4 h_ v_control v_character v_beat v_busy v_wasHigh l1 s1]) hx hb hts i_X4 tyX4_ok nmX4 hown hK hP hD hS 0 rfl rfl 5 (Nat.le_of_ble_eq_true rfl) f_43 rfl rfl (by decide +kernel) (nar_bI l1) (fit_bI l1) (Nat.le_of_ble_eq_true rfl) rfl dX4_see_84 (fun H locs hP hD hS => ?_)
          refine lv_iconst (v := (-1)) hx hb dX4_see_87 (by decide) ?_
          exact hret ((-1), v_character, v_busy, v_wasHigh, l1, s1) (-1) _ _ 88 _ hP hD hS hF rfl dX4_see_88
    · replace hF := it_f c3 hF
      refine lv_aload_n hx hb dX4_see_41 rfl (lv_at hl 0 rfl) ?_
      refine lv_dup hx hb dX4_see_42 rfl ?_
      refine va_get (D := D) (ci := 4) (v := .int v_character) (C := RX4) (T := TX4) (N := 7) hx hb hts i_X4 hown hK hP 0 rfl rfl 1 (Nat.le_of_ble_eq_true rfl) f_40 (fun _ h9 => h9) rfl dX4_see_43 ?_
      refine lv_iload_n hx hb dX4_see_46 rfl (lv_at hl 1 rfl) ?_
      refine lv_if_eq (tgt := 58) hx hb dX4_see_47 (by decide) (fun c7 => ?_) (fun c7 => ?_)
      · replace hF := bt_f (bI_0 c7) hF
        refine lv_iconst (v := 0) hx hb dX4_see_58 (by decide) ?_
        refine lv_ior hx hb dX4_see_59 ?_
        refine lv_topi (fun x8 ex8 => ?_)
        replace hF := lt1_x ex8 hF
        refine pf (ci := 4) (v := .int x8) (ty := .int) (C := RX4) (T := TX4) (N := 7) (ws' := [oX4 h_ v_control x8 v_beat v_busy v_wasHigh v_parityHigh s1]) hx hb hts i_X4 tyX4_ok nmX4 hown hK hP hD hS 0 rfl rfl 1 (Nat.le_of_ble_eq_true rfl) f_40 rfl rfl (by decide +kernel) rfl rfl (Nat.le_of_ble_eq_true rfl) rfl dX4_see_60 (fun H locs hP hD hS => ?_)
        refine lv_iconst (v := (-1)) hx hb dX4_see_63 (by decide) ?_
        exact hret ((-1), x8, v_busy, v_wasHigh, v_parityHigh, s1) (-1) _ _ 64 _ hP hD hS hF rfl dX4_see_64
      · replace hF := bt_t (bI_n0 c7) hF
        refine lv_iconst (v := 1) hx hb dX4_see_50 (by decide) ?_
        refine lv_iload_n hx hb dX4_see_51 rfl (lv_at hl 2 rfl) ?_
        refine lv_iconst (v := 1) hx hb dX4_see_52 (by decide) ?_
        refine lv_isub hx hb dX4_see_53 ?_
        refine lv_ishl hx hb dX4_see_54 ?_
        refine lv_goto (tgt := 59) hx hb dX4_see_55 (by decide) ?_
        refine lv_ior hx hb dX4_see_59 ?_
        refine lv_topi (fun x9 ex9 => ?_)
        replace hF := lt1_x ex9 hF
        refine pf (ci := 4) (v := .int x9) (ty := .int) (C := RX4) (T := TX4) (N := 7) (ws' := [oX4 h_ v_control x9 v_beat v_busy v_wasHigh v_parityHigh s1]) hx hb hts i_X4 tyX4_ok nmX4 hown hK hP hD hS 0 rfl rfl 1 (Nat.le_of_ble_eq_true rfl) f_40 rfl rfl (by decide +kernel) rfl rfl (Nat.le_of_ble_eq_true rfl) rfl dX4_see_60 (fun H locs hP hD hS => ?_)
        refine lv_iconst (v := (-1)) hx hb dX4_see_63 (by decide) ?_
        exact hret ((-1), x9, v_busy, v_wasHigh, v_parityHigh, s1) (-1) _ _ 64 _ hP hD hS hF rfl dX4_see_64
  unfold F_X4_see at hF
  refine lv_aload_n hx hb dX4_see_0 rfl (lv_at hl 0 rfl) ?_
  refine va_get (D := D) (ci := 4) (v := .int v_beat) (C := RX4) (T := TX4) (N := 7) hx hb hts i_X4 hown hK hP 0 rfl rfl 2 (Nat.le_of_ble_eq_true rfl) f_26 (fun _ h9 => h9) rfl dX4_see_1 ?_
  refine lv_bipush (v := 16) hx hb dX4_see_4 (by decide) ?_
  refine lv_idiv hx hb dX4_see_6 (by decide) ?_
  refine lv_topi (fun x10 ex10 => ?_)
  replace hF := lt1_x ex10 hF
  refine lv_istore_n (lv' := [(2, .int x10), (0, .ref h_), (1, .int (bI p1))]) hx hb dX4_see_7 rfl hl (Nat.le_of_ble_eq_true rfl) rfl (fun ls hl => ?_)
  refine lv_aload_n hx hb dX4_see_8 rfl (lv_at hl 1 rfl) ?_
  refine va_get (D := D) (ci := 4) (v := .int v_control) (C := RX4) (T := TX4) (N := 7) hx hb hts i_X4 hown hK hP 0 rfl rfl 0 (Nat.le_of_ble_eq_true rfl) f_37 (fun _ h9 => h9) rfl dX4_see_9 ?_
  obtain ⟨u11, hu11, hF⟩ := bd_el hF
  refine cSI (As := [.int v_control]) (rest := []) (wr := [oX4 h_ v_control v_character v_beat v_busy v_wasHigh v_parityHigh v_someHigh]) (ws' := [oX4 h_ v_control v_character v_beat v_busy v_wasHigh v_parityHigh v_someHigh]) (rv := u11) ⟨hx, hb, hml, hown, hts⟩ (mX7_dataBits D v_control u11 hu11) (va_cwS 1 hts gX4_see_X7_dataBits rfl rfl rfl (by decide +kernel) ⟨Nat.le_of_ble_eq_true rfl, Nat.le_of_ble_eq_true rfl⟩) hK hP hD hS hA [] [] [0] [0] rfl rfl rfl rfl rfl rfl hl.1 rfl (Nat.le_of_ble_eq_true rfl) rfl dX4_see_12 ⟨Nat.le_refl _, Nat.le_refl _⟩ (fun H locs hP hD hS => ?_)
  refine lv_istore_n (lv' := [(3, .int u11), (2, .int x10), (0, .ref h_), (1, .int (bI p1))]) hx hb dX4_see_15 rfl hl (Nat.le_of_ble_eq_true rfl) rfl (fun ls hl => ?_)
  refine lv_aload_n hx hb dX4_see_16 rfl (lv_at hl 2 rfl) ?_
  refine lv_aload_n hx hb dX4_see_17 rfl (lv_at hl 2 rfl) ?_
  refine va_get (D := D) (ci := 4) (v := .int (bI v_someHigh)) (C := RX4) (T := TX4) (N := 7) hx hb hts i_X4 hown hK hP 0 rfl rfl 6 (Nat.le_of_ble_eq_true rfl) f_46 (fun _ h9 => h9) rfl dX4_see_18 ?_
  refine lv_if_ne (tgt := 28) hx hb dX4_see_21 (by decide) (fun c12 => ?_) (fun c12 => ?_)
  · replace hF := bt_t (bI_n0 c12) hF
    refine lv_iconst (v := 1) hx hb dX4_see_28 (by decide) ?_
    refine lv_goto (tgt := 33) hx hb dX4_see_29 (by decide) ?_
    exact J33 true p1 x10 u11 v_character v_busy v_wasHigh v_parityHigh v_someHigh _ _ _ hF (lv_sub hl [2, 3, 1, 0] rfl) hP hD hS
  · replace hF := bt_f (bI_0 c12) hF
    refine lv_iload_n hx hb dX4_see_24 rfl (lv_at hl 3 rfl) ?_
    refine lv_if_eq (tgt := 32) hx hb dX4_see_25 (by decide) (fun c13 => ?_) (fun c13 => ?_)
    · replace hF := bt_f (bI_0 c13) hF
      refine lv_iconst (v := 0) hx hb dX4_see_32 (by decide) ?_
      exact J33 false p1 x10 u11 v_character v_busy v_wasHigh v_parityHigh v_someHigh _ _ _ hF (lv_sub hl [2, 3, 1, 0] rfl) hP hD hS
    · replace hF := bt_t (bI_n0 c13) hF
      refine lv_iconst (v := 1) hx hb dX4_see_28 (by decide) ?_
      refine lv_goto (tgt := 33) hx hb dX4_see_29 (by decide) ?_
      exact J33 true p1 x10 u11 v_character v_busy v_wasHigh v_parityHigh v_someHigh _ _ _ hF (lv_sub hl [2, 3, 1, 0] rfl) hP hD hS
def F_X4_step (p1 : Bool) (p2 : Int32) (v_control : Int32) (v_character : Int32) (v_beat : Int32) (v_busy : Bool) (v_wasHigh : Bool) (v_parityHigh : Bool) (v_someHigh : Bool) : Option (Int32 × Int32 × Int32 × Int32 × Bool × Bool × Bool × Bool) := bt v_busy (lt1 (v_beat + 1) (fun x2 => if (x2 - x2 / 16 * 16) = 7 then (if x2 = 7 then (bd (F_X4_seeStart p1 v_busy v_wasHigh) (fun u6 => some (u6.1, v_control, v_character, x2, u6.2.1, u6.2.2, v_parityHigh, v_someHigh))) else (bd (F_X4_see p1 v_control v_character x2 v_busy v_wasHigh v_parityHigh v_someHigh) (fun u5 => some (u5.1, v_control, u5.2.1, x2, u5.2.2.1, u5.2.2.2.1, u5.2.2.2.2.1, u5.2.2.2.2.2)))) else (some ((-1), v_control, v_character, x2, v_busy, v_wasHigh, v_parityHigh, v_someHigh)))) (bd (F_X4_listen p1 p2 v_control v_character v_beat v_busy v_wasHigh v_parityHigh v_someHigh) (fun u7 => some ((-1), u7.1, u7.2.1, u7.2.2.1, u7.2.2.2.1, u7.2.2.2.2.1, u7.2.2.2.2.2.1, u7.2.2.2.2.2.2)))
def wX4_step (h_ : Nat) (u : Int32 × Int32 × Int32 × Int32 × Bool × Bool × Bool × Bool) : va_W := [oX4 h_ u.2.1 u.2.2.1 u.2.2.2.1 u.2.2.2.2.1 u.2.2.2.2.2.1 u.2.2.2.2.2.2.1 u.2.2.2.2.2.2.2]
set_option maxHeartbeats 4000000 in
set_option maxRecDepth 100000 in
theorem mX4_step {l : Launch} (D : va_G) (h_ : Nat) (v_control : Int32) (v_character : Int32) (v_beat : Int32) (v_busy : Bool) (v_wasHigh : Bool) (v_parityHigh : Bool) (v_someHigh : Bool) (p1 : Bool) (p2 : Int32) (u0 : Int32 × Int32 × Int32 × Int32 × Bool × Bool × Bool × Bool) (hF : F_X4_step p1 p2 v_control v_character v_beat v_busy v_wasHigh v_parityHigh v_someHigh = some u0) : MI l yX4_step wsX4_step { frames := 4, cells := 0, slots := 0, locals := 89 } D [] [.ref h_, .int (bI p1), .int p2] [oX4 h_ v_control v_character v_beat v_busy v_wasHigh v_parityHigh v_someHigh] (wX4_step h_ u0) (u0.1) := by
  refine MI.ofW (cc := cX4_step) (maxL := 3) (ret := (some .int)) (lv := [(0, .ref h_), (1, .int (bI p1)), (2, .int p2)]) (by decide +kernel) rfl (Nat.le_of_ble_eq_true rfl) rfl ?_
  intro p e s m args below meth c A ls hx hb hr hml hts hown hlocks hA hK hP hD hS hl
  replace hown : s.vm.findClass RX4 = some m.cls := hown
  have i_X4 : ∀ w ∈ wsX40, w ∈ wsX4_step := by decide +kernel
  have f_15 := hts (.fieldLink RX4 15 "SerialPort$Receiver" "busy" "Z") (by decide +kernel)
  have f_26 := hts (.fieldLink RX4 26 "SerialPort$Receiver" "beat" "I") (by decide +kernel)
  have hret : ∀ (u : Int32 × Int32 × Int32 × Int32 × Bool × Bool × Bool × Bool) (v : Int32) (H : Heap) (locs : List Loc) (pc : Nat) (ls : Array Slot), va_P D vwCl (wX4_step h_ u) H → va_D A (wX4_step h_ u) → va_S A s.heap H locs → some u = some u0 → v = u.1 → decode cX4_step pc = .ok (.ireturn, 1) → W p l e { frames := 4, cells := 0, slots := 0, locals := 89 } s m args below meth c H locs 0 0 (QI below D [] (wX4_step h_ u0) (u0.1) args s A) (F0 m pc ls [.int v]) := fun u v H locs pc ls h1 h2 h3 h4 h5 h6 => rI (wf := wX4_step h_) (rf := fun u => u.1) hx hb hr hlocks hK h1 h2 h3 h4 h5 h6
  unfold F_X4_step at hF
  refine lv_aload_n hx hb dX4_step_0 rfl (lv_at hl 0 rfl) ?_
  refine va_get (D := D) (ci := 4) (v := .int (bI v_busy)) (C := RX4) (T := TX4) (N := 7) hx hb hts i_X4 hown hK hP 0 rfl rfl 3 (Nat.le_of_ble_eq_true rfl) f_15 (fun _ h9 => h9) rfl dX4_step_1 ?_
  refine lv_if_ne (tgt := 15) hx hb dX4_step_4 (by decide) (fun c1 => ?_) (fun c1 => ?_)
  · replace hF := bt_t (bI_n0 c1) hF
    refine lv_aload_n hx hb dX4_step_15 rfl (lv_at hl 0 rfl) ?_
    refine lv_dup hx hb dX4_step_16 rfl ?_
    refine va_get (D := D) (ci := 4) (v := .int v_beat) (C := RX4) (T := TX4) (N := 7) hx hb hts i_X4 hown hK hP 0 rfl rfl 2 (Nat.le_of_ble_eq_true rfl) f_26 (fun _ h9 => h9) rfl dX4_step_17 ?_
    refine lv_iconst (v := 1) hx hb dX4_step_20 (by decide) ?_
    refine lv_iadd hx hb dX4_step_21 ?_
    refine lv_topi (fun x2 ex2 => ?_)
    replace hF := lt1_x ex2 hF
    refine pf (ci := 4) (v := .int x2) (ty := .int) (C := RX4) (T := TX4) (N := 7) (ws' := [oX4 h_ v_control v_character x2 v_busy v_wasHigh v_parityHigh v_someHigh]) hx hb hts i_X4 tyX4_ok nmX4 hown hK hP hD hS 0 rfl rfl 2 (Nat.le_of_ble_eq_true rfl) f_26 rfl rfl (by decide +kernel) rfl rfl (Nat.le_of_ble_eq_true rfl) rfl dX4_step_22 (fun H locs hP hD hS => ?_)
    refine lv_aload_n hx hb dX4_step_25 rfl (lv_at hl 0 rfl) ?_
    refine va_get (D := D) (ci := 4) (v := .int x2) (C := RX4) (T := TX4) (N := 7) hx hb hts i_X4 hown hK hP 0 rfl rfl 2 (Nat.le_of_ble_eq_true rfl) f_26 (fun _ h9 => h9) rfl dX4_step_26 ?_
    refine lv_bipush (v := 16) hx hb dX4_step_29 (by decide) ?_
    refine lv_irem hx hb dX4_step_31 (by decide) ?_
    refine lv_bipush (v := 7) hx hb dX4_step_32 (by decide) ?_
    refine lv_icmp_eq (tgt := 39) hx hb dX4_step_34 (by decide) (fun c3 => ?_) (fun c3 => ?_)
    · replace hF := it_t c3 hF
      refine lv_aload_n hx hb dX4_step_39 rfl (lv_at hl 0 rfl) ?_
      refine va_get (D := D) (ci := 4) (v := .int x2) (C := RX4) (T := TX4) (N := 7) hx hb hts i_X4 hown hK hP 0 rfl rfl 2 (Nat.le_of_ble_eq_true rfl) f_26 (fun _ h9 => h9) rfl dX4_step_40 ?_
      refine lv_bipush (v := 7) hx hb dX4_step_43 (by decide) ?_
      refine lv_icmp_ne (tgt := 56) hx hb dX4_step_45 (by decide) (fun c4 => ?_) (fun c4 => ?_)
      · replace hF := it_f c4 hF
        refine lv_aload_n hx hb dX4_step_56 rfl (lv_at hl 0 rfl) ?_
        refine lv_iload_n hx hb dX4_step_57 rfl (lv_at hl 1 rfl) ?_
        obtain ⟨u5, hu5, hF⟩ := bd_el hF
        refine cVI (q0 := 0) (ci := 4) (As := [.int (bI p1)]) (rest := []) (wr := []) (ws' := [oX4 h_ v_control u5.2.1 x2 u5.2.2.1 u5.2.2.2.1 u5.2.2.2.2.1 u5.2.2.2.2.2]) (rv := u5.1) ⟨hx, hb, hml, hown, hts⟩ (mX4_see D h_ v_control v_character x2 v_busy v_wasHigh v_parityHigh v_someHigh p1 u5 hu5) (cwV 1 hts gX4_step_X4_see rfl rfl rfl (by decide +kernel) ⟨Nat.le_of_ble_eq_true rfl, Nat.le_of_ble_eq_true rfl⟩) hK hP hD hS hA [] [0] [] [0] rfl rfl rfl rfl rfl rfl rfl rfl rfl hl.1 rfl (Nat.le_of_ble_eq_true rfl) rfl dX4_step_58 ⟨Nat.le_refl _, Nat.le_refl _⟩ (fun H locs hP hD hS => ?_)
        exact hret (u5.1, v_control, u5.2.1, x2, u5.2.2.1, u5.2.2.2.1, u5.2.2.2.2.1, u5.2.2.2.2.2) u5.1 _ _ 61 _ hP hD hS hF rfl dX4_step_61
      · replace hF := it_t c4 hF
        refine lv_aload_n hx hb dX4_step_48 rfl (lv_at hl 0 rfl) ?_
        refine lv_iload_n hx hb dX4_step_49 rfl (lv_at hl 1 rfl) ?_
        obtain ⟨u6, hu6, hF⟩ := bd_el hF
        refine cVI (q0 := 0) (ci := 4) (As := [.int (bI p1)]) (rest := []) (wr := []) (ws' := [oX4 h_ v_control v_character x2 u6.2.1 u6.2.2 v_parityHigh v_someHigh]) (rv := u6.1) ⟨hx, hb, hml, hown, hts⟩ (mX4_seeStart D h_ v_control v_character x2 v_busy v_wasHigh v_parityHigh v_someHigh p1 u6 hu6) (cwV 1 hts gX4_step_X4_seeStart rfl rfl rfl (by decide +kernel) ⟨Nat.le_of_ble_eq_true rfl, Nat.le_of_ble_eq_true rfl⟩) hK hP hD hS hA [] [0] [] [0] rfl rfl rfl rfl rfl rfl rfl rfl rfl hl.1 rfl (Nat.le_of_ble_eq_true rfl) rfl dX4_step_50 ⟨Nat.le_refl _, Nat.le_refl _⟩ (fun H locs hP hD hS => ?_)
        refine lv_goto (tgt := 61) hx hb dX4_step_53 (by decide) ?_
        exact hret (u6.1, v_control, v_character, x2, u6.2.1, u6.2.2, v_parityHigh, v_someHigh) u6.1 _ _ 61 _ hP hD hS hF rfl dX4_step_61
    · replace hF := it_f c3 hF
      refine lv_iconst (v := (-1)) hx hb dX4_step_37 (by decide) ?_
      exact hret ((-1), v_control, v_character, x2, v_busy, v_wasHigh, v_parityHigh, v_someHigh) (-1) _ _ 38 _ hP hD hS hF rfl dX4_step_38
  · replace hF := bt_f (bI_0 c1) hF
    refine lv_aload_n hx hb dX4_step_7 rfl (lv_at hl 0 rfl) ?_
    refine lv_iload_n hx hb dX4_step_8 rfl (lv_at hl 1 rfl) ?_
    refine lv_iload_n hx hb dX4_step_9 rfl (lv_at hl 2 rfl) ?_
    obtain ⟨u7, hu7, hF⟩ := bd_el hF
    refine cVV (q0 := 0) (ci := 4) (As := [.int (bI p1), .int p2]) (rest := []) (wr := []) (ws' := [oX4 h_ u7.1 u7.2.1 u7.2.2.1 u7.2.2.2.1 u7.2.2.2.2.1 u7.2.2.2.2.2.1 u7.2.2.2.2.2.2]) ⟨hx, hb, hml, hown, hts⟩ (mX4_listen D h_ v_control v_character v_beat v_busy v_wasHigh v_parityHigh v_someHigh p1 p2 u7 hu7) (cwV 2 hts gX4_step_X4_listen rfl rfl rfl (by decide +kernel) ⟨Nat.le_of_ble_eq_true rfl, Nat.le_of_ble_eq_true rfl⟩) hK hP hD hS hA [] [0] [] [0] rfl rfl rfl rfl rfl rfl rfl rfl rfl hl.1 rfl (Nat.le_of_ble_eq_true rfl) dX4_step_10 ⟨Nat.le_refl _, Nat.le_refl _⟩ (fun H locs hP hD hS => ?_)
    refine lv_iconst (v := (-1)) hx hb dX4_step_13 (by decide) ?_
    exact hret ((-1), u7.1, u7.2.1, u7.2.2.1, u7.2.2.2.1, u7.2.2.2.2.1, u7.2.2.2.2.2.1, u7.2.2.2.2.2.2) (-1) _ _ 14 _ hP hD hS hF rfl dX4_step_14
