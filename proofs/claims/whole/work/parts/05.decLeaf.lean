theorem d_Mill_isBelow_0 : decode b_Mill_isBelow 0 = .ok (.iload_n 0, 1) := by decide +kernel
theorem d_Mill_isBelow_1 : decode b_Mill_isBelow 1 = .ok (.ifCond .lt 12, 3) := by decide +kernel
theorem d_Mill_isBelow_4 : decode b_Mill_isBelow 4 = .ok (.iload_n 0, 1) := by decide +kernel
theorem d_Mill_isBelow_5 : decode b_Mill_isBelow 5 = .ok (.iload_n 1, 1) := by decide +kernel
theorem d_Mill_isBelow_6 : decode b_Mill_isBelow 6 = .ok (.if_icmp .ge 7, 3) := by decide +kernel
theorem d_Mill_isBelow_9 : decode b_Mill_isBelow 9 = .ok (.iconst 1, 1) := by decide +kernel
theorem d_Mill_isBelow_10 : decode b_Mill_isBelow 10 = .ok (.goto 4, 3) := by decide +kernel
theorem d_Mill_isBelow_13 : decode b_Mill_isBelow 13 = .ok (.iconst 0, 1) := by decide +kernel
theorem d_Mill_isBelow_14 : decode b_Mill_isBelow 14 = .ok (.ireturn, 1) := by decide +kernel
theorem d_Instr_isThreeRegisters_0 : decode b_Instr_isThreeRegisters 0 = .ok (.iload_n 0, 1) := by decide +kernel
theorem d_Instr_isThreeRegisters_1 : decode b_Instr_isThreeRegisters 1 = .ok (.iconst 3, 1) := by decide +kernel
theorem d_Instr_isThreeRegisters_2 : decode b_Instr_isThreeRegisters 2 = .ok (.if_icmp .lt 13, 3) := by decide +kernel
theorem d_Instr_isThreeRegisters_5 : decode b_Instr_isThreeRegisters 5 = .ok (.iload_n 0, 1) := by decide +kernel
theorem d_Instr_isThreeRegisters_6 : decode b_Instr_isThreeRegisters 6 = .ok (.bipush 10, 2) := by decide +kernel
theorem d_Instr_isThreeRegisters_8 : decode b_Instr_isThreeRegisters 8 = .ok (.if_icmp .gt 7, 3) := by decide +kernel
theorem d_Instr_isThreeRegisters_11 : decode b_Instr_isThreeRegisters 11 = .ok (.iconst 1, 1) := by decide +kernel
theorem d_Instr_isThreeRegisters_12 : decode b_Instr_isThreeRegisters 12 = .ok (.goto 4, 3) := by decide +kernel
theorem d_Instr_isThreeRegisters_15 : decode b_Instr_isThreeRegisters 15 = .ok (.iconst 0, 1) := by decide +kernel
theorem d_Instr_isThreeRegisters_16 : decode b_Instr_isThreeRegisters 16 = .ok (.ireturn, 1) := by decide +kernel
theorem d_Instr_numberAt_0 : decode b_Instr_numberAt 0 = .ok (.iload_n 0, 1) := by decide +kernel
theorem d_Instr_numberAt_1 : decode b_Instr_numberAt 1 = .ok (.iconst 1, 1) := by decide +kernel
theorem d_Instr_numberAt_2 : decode b_Instr_numberAt 2 = .ok (.if_icmp .ne 6, 3) := by decide +kernel
theorem d_Instr_numberAt_5 : decode b_Instr_numberAt 5 = .ok (.bipush 12, 2) := by decide +kernel
theorem d_Instr_numberAt_7 : decode b_Instr_numberAt 7 = .ok (.ireturn, 1) := by decide +kernel
theorem d_Instr_numberAt_8 : decode b_Instr_numberAt 8 = .ok (.iload_n 0, 1) := by decide +kernel
theorem d_Instr_numberAt_9 : decode b_Instr_numberAt 9 = .ok (.bipush 16, 2) := by decide +kernel
theorem d_Instr_numberAt_11 : decode b_Instr_numberAt 11 = .ok (.if_icmp .ne 8, 3) := by decide +kernel
theorem d_Instr_numberAt_14 : decode b_Instr_numberAt 14 = .ok (.bipush 10, 2) := by decide +kernel
theorem d_Instr_numberAt_16 : decode b_Instr_numberAt 16 = .ok (.goto 5, 3) := by decide +kernel
theorem d_Instr_numberAt_19 : decode b_Instr_numberAt 19 = .ok (.bipush 20, 2) := by decide +kernel
theorem d_Instr_numberAt_21 : decode b_Instr_numberAt 21 = .ok (.ireturn, 1) := by decide +kernel
theorem d_Mill_fitsSigned_0 : decode b_Mill_fitsSigned 0 = .ok (.iconst 1, 1) := by decide +kernel
theorem d_Mill_fitsSigned_1 : decode b_Mill_fitsSigned 1 = .ok (.iload_n 1, 1) := by decide +kernel
theorem d_Mill_fitsSigned_2 : decode b_Mill_fitsSigned 2 = .ok (.iconst 1, 1) := by decide +kernel
theorem d_Mill_fitsSigned_3 : decode b_Mill_fitsSigned 3 = .ok (.isub, 1) := by decide +kernel
theorem d_Mill_fitsSigned_4 : decode b_Mill_fitsSigned 4 = .ok (.ishl, 1) := by decide +kernel
theorem d_Mill_fitsSigned_5 : decode b_Mill_fitsSigned 5 = .ok (.istore_n 2, 1) := by decide +kernel
theorem d_Mill_fitsSigned_6 : decode b_Mill_fitsSigned 6 = .ok (.iload_n 0, 1) := by decide +kernel
theorem d_Mill_fitsSigned_7 : decode b_Mill_fitsSigned 7 = .ok (.iload_n 2, 1) := by decide +kernel
theorem d_Mill_fitsSigned_8 : decode b_Mill_fitsSigned 8 = .ok (.ineg, 1) := by decide +kernel
theorem d_Mill_fitsSigned_9 : decode b_Mill_fitsSigned 9 = .ok (.if_icmp .lt 12, 3) := by decide +kernel
theorem d_Mill_fitsSigned_12 : decode b_Mill_fitsSigned 12 = .ok (.iload_n 0, 1) := by decide +kernel
theorem d_Mill_fitsSigned_13 : decode b_Mill_fitsSigned 13 = .ok (.iload_n 2, 1) := by decide +kernel
theorem d_Mill_fitsSigned_14 : decode b_Mill_fitsSigned 14 = .ok (.if_icmp .ge 7, 3) := by decide +kernel
theorem d_Mill_fitsSigned_17 : decode b_Mill_fitsSigned 17 = .ok (.iconst 1, 1) := by decide +kernel
theorem d_Mill_fitsSigned_18 : decode b_Mill_fitsSigned 18 = .ok (.goto 4, 3) := by decide +kernel
theorem d_Mill_fitsSigned_21 : decode b_Mill_fitsSigned 21 = .ok (.iconst 0, 1) := by decide +kernel
theorem d_Mill_fitsSigned_22 : decode b_Mill_fitsSigned 22 = .ok (.ireturn, 1) := by decide +kernel
theorem d_Instr_canHold_0 : decode b_Instr_canHold 0 = .ok (.iload_n 0, 1) := by decide +kernel
theorem d_Instr_canHold_1 : decode b_Instr_canHold 1 = .ok (.ifCond .eq 9, 3) := by decide +kernel
theorem d_Instr_canHold_4 : decode b_Instr_canHold 4 = .ok (.iload_n 0, 1) := by decide +kernel
theorem d_Instr_canHold_5 : decode b_Instr_canHold 5 = .ok (.bipush 18, 2) := by decide +kernel
theorem d_Instr_canHold_7 : decode b_Instr_canHold 7 = .ok (.if_icmp .ne 5, 3) := by decide +kernel
theorem d_Instr_canHold_10 : decode b_Instr_canHold 10 = .ok (.iconst 1, 1) := by decide +kernel
theorem d_Instr_canHold_11 : decode b_Instr_canHold 11 = .ok (.ireturn, 1) := by decide +kernel
theorem d_Instr_canHold_12 : decode b_Instr_canHold 12 = .ok (.iload_n 0, 1) := by decide +kernel
theorem d_Instr_canHold_13 : decode b_Instr_canHold 13 = .ok (.invokestatic 18, 3) := by decide +kernel
theorem d_Instr_canHold_16 : decode b_Instr_canHold 16 = .ok (.ifCond .eq 10, 3) := by decide +kernel
theorem d_Instr_canHold_19 : decode b_Instr_canHold 19 = .ok (.iload_n 1, 1) := by decide +kernel
theorem d_Instr_canHold_20 : decode b_Instr_canHold 20 = .ok (.bipush 32, 2) := by decide +kernel
theorem d_Instr_canHold_22 : decode b_Instr_canHold 22 = .ok (.invokestatic 11, 3) := by decide +kernel
theorem d_Instr_canHold_25 : decode b_Instr_canHold 25 = .ok (.ireturn, 1) := by decide +kernel
theorem d_Instr_canHold_26 : decode b_Instr_canHold 26 = .ok (.iload_n 1, 1) := by decide +kernel
theorem d_Instr_canHold_27 : decode b_Instr_canHold 27 = .ok (.bipush 32, 2) := by decide +kernel
theorem d_Instr_canHold_29 : decode b_Instr_canHold 29 = .ok (.iload_n 0, 1) := by decide +kernel
theorem d_Instr_canHold_30 : decode b_Instr_canHold 30 = .ok (.invokestatic 22, 3) := by decide +kernel
theorem d_Instr_canHold_33 : decode b_Instr_canHold 33 = .ok (.isub, 1) := by decide +kernel
theorem d_Instr_canHold_34 : decode b_Instr_canHold 34 = .ok (.invokestatic 26, 3) := by decide +kernel
theorem d_Instr_canHold_37 : decode b_Instr_canHold 37 = .ok (.ireturn, 1) := by decide +kernel
theorem d_Instr_canBe_0 : decode b_Instr_canBe 0 = .ok (.iload_n 0, 1) := by decide +kernel
theorem d_Instr_canBe_1 : decode b_Instr_canBe 1 = .ok (.bipush 19, 2) := by decide +kernel
theorem d_Instr_canBe_3 : decode b_Instr_canBe 3 = .ok (.invokestatic 11, 3) := by decide +kernel
theorem d_Instr_canBe_6 : decode b_Instr_canBe 6 = .ok (.ifCond .eq 33, 3) := by decide +kernel
theorem d_Instr_canBe_9 : decode b_Instr_canBe 9 = .ok (.iload_n 1, 1) := by decide +kernel
theorem d_Instr_canBe_10 : decode b_Instr_canBe 10 = .ok (.bipush 32, 2) := by decide +kernel
theorem d_Instr_canBe_12 : decode b_Instr_canBe 12 = .ok (.invokestatic 11, 3) := by decide +kernel
theorem d_Instr_canBe_15 : decode b_Instr_canBe 15 = .ok (.ifCond .eq 24, 3) := by decide +kernel
theorem d_Instr_canBe_18 : decode b_Instr_canBe 18 = .ok (.iload_n 2, 1) := by decide +kernel
theorem d_Instr_canBe_19 : decode b_Instr_canBe 19 = .ok (.bipush 32, 2) := by decide +kernel
theorem d_Instr_canBe_21 : decode b_Instr_canBe 21 = .ok (.invokestatic 11, 3) := by decide +kernel
theorem d_Instr_canBe_24 : decode b_Instr_canBe 24 = .ok (.ifCond .eq 15, 3) := by decide +kernel
theorem d_Instr_canBe_27 : decode b_Instr_canBe 27 = .ok (.iload_n 0, 1) := by decide +kernel
theorem d_Instr_canBe_28 : decode b_Instr_canBe 28 = .ok (.iload_n 3, 1) := by decide +kernel
theorem d_Instr_canBe_29 : decode b_Instr_canBe 29 = .ok (.invokestatic 15, 3) := by decide +kernel
theorem d_Instr_canBe_32 : decode b_Instr_canBe 32 = .ok (.ifCond .eq 7, 3) := by decide +kernel
theorem d_Instr_canBe_35 : decode b_Instr_canBe 35 = .ok (.iconst 1, 1) := by decide +kernel
theorem d_Instr_canBe_36 : decode b_Instr_canBe 36 = .ok (.goto 4, 3) := by decide +kernel
theorem d_Instr_canBe_39 : decode b_Instr_canBe 39 = .ok (.iconst 0, 1) := by decide +kernel
theorem d_Instr_canBe_40 : decode b_Instr_canBe 40 = .ok (.ireturn, 1) := by decide +kernel
theorem d_Section_isFull_0 : decode b_Section_isFull 0 = .ok (.aload_n 0, 1) := by decide +kernel
theorem d_Section_isFull_1 : decode b_Section_isFull 1 = .ok (.getfield 13, 3) := by decide +kernel
theorem d_Section_isFull_4 : decode b_Section_isFull 4 = .ok (.aload_n 0, 1) := by decide +kernel
theorem d_Section_isFull_5 : decode b_Section_isFull 5 = .ok (.getfield 7, 3) := by decide +kernel
theorem d_Section_isFull_8 : decode b_Section_isFull 8 = .ok (.arraylength, 1) := by decide +kernel
theorem d_Section_isFull_9 : decode b_Section_isFull 9 = .ok (.if_icmp .ne 7, 3) := by decide +kernel
theorem d_Section_isFull_12 : decode b_Section_isFull 12 = .ok (.iconst 1, 1) := by decide +kernel
theorem d_Section_isFull_13 : decode b_Section_isFull 13 = .ok (.goto 4, 3) := by decide +kernel
theorem d_Section_isFull_16 : decode b_Section_isFull 16 = .ok (.iconst 0, 1) := by decide +kernel
theorem d_Section_isFull_17 : decode b_Section_isFull 17 = .ok (.ireturn, 1) := by decide +kernel
theorem d_Instr_encoded_0 : decode b_Instr_encoded 0 = .ok (.iload_n 0, 1) := by decide +kernel
theorem d_Instr_encoded_1 : decode b_Instr_encoded 1 = .ok (.ifCond .ne 5, 3) := by decide +kernel
theorem d_Instr_encoded_4 : decode b_Instr_encoded 4 = .ok (.iload_n 0, 1) := by decide +kernel
theorem d_Instr_encoded_5 : decode b_Instr_encoded 5 = .ok (.ireturn, 1) := by decide +kernel
theorem d_Instr_encoded_6 : decode b_Instr_encoded 6 = .ok (.iload_n 0, 1) := by decide +kernel
theorem d_Instr_encoded_7 : decode b_Instr_encoded 7 = .ok (.iload_n 1, 1) := by decide +kernel
theorem d_Instr_encoded_8 : decode b_Instr_encoded 8 = .ok (.iconst 5, 1) := by decide +kernel
theorem d_Instr_encoded_9 : decode b_Instr_encoded 9 = .ok (.ishl, 1) := by decide +kernel
theorem d_Instr_encoded_10 : decode b_Instr_encoded 10 = .ok (.ior, 1) := by decide +kernel
theorem d_Instr_encoded_11 : decode b_Instr_encoded 11 = .ok (.istore 4, 2) := by decide +kernel
theorem d_Instr_encoded_13 : decode b_Instr_encoded 13 = .ok (.iload_n 0, 1) := by decide +kernel
theorem d_Instr_encoded_14 : decode b_Instr_encoded 14 = .ok (.bipush 18, 2) := by decide +kernel
theorem d_Instr_encoded_16 : decode b_Instr_encoded 16 = .ok (.if_icmp .ne 6, 3) := by decide +kernel
theorem d_Instr_encoded_19 : decode b_Instr_encoded 19 = .ok (.iload 4, 2) := by decide +kernel
theorem d_Instr_encoded_21 : decode b_Instr_encoded 21 = .ok (.ireturn, 1) := by decide +kernel
theorem d_Instr_encoded_22 : decode b_Instr_encoded 22 = .ok (.iload_n 0, 1) := by decide +kernel
theorem d_Instr_encoded_23 : decode b_Instr_encoded 23 = .ok (.iconst 1, 1) := by decide +kernel
theorem d_Instr_encoded_24 : decode b_Instr_encoded 24 = .ok (.if_icmp .eq 9, 3) := by decide +kernel
theorem d_Instr_encoded_27 : decode b_Instr_encoded 27 = .ok (.iload_n 0, 1) := by decide +kernel
theorem d_Instr_encoded_28 : decode b_Instr_encoded 28 = .ok (.bipush 16, 2) := by decide +kernel
theorem d_Instr_encoded_30 : decode b_Instr_encoded 30 = .ok (.if_icmp .ne 13, 3) := by decide +kernel
theorem d_Instr_encoded_33 : decode b_Instr_encoded 33 = .ok (.iload 4, 2) := by decide +kernel
theorem d_Instr_encoded_35 : decode b_Instr_encoded 35 = .ok (.iload_n 3, 1) := by decide +kernel
theorem d_Instr_encoded_36 : decode b_Instr_encoded 36 = .ok (.iload_n 0, 1) := by decide +kernel
theorem d_Instr_encoded_37 : decode b_Instr_encoded 37 = .ok (.invokestatic 22, 3) := by decide +kernel
theorem d_Instr_encoded_40 : decode b_Instr_encoded 40 = .ok (.ishl, 1) := by decide +kernel
theorem d_Instr_encoded_41 : decode b_Instr_encoded 41 = .ok (.ior, 1) := by decide +kernel
theorem d_Instr_encoded_42 : decode b_Instr_encoded 42 = .ok (.ireturn, 1) := by decide +kernel
theorem d_Instr_encoded_43 : decode b_Instr_encoded 43 = .ok (.iload_n 0, 1) := by decide +kernel
theorem d_Instr_encoded_44 : decode b_Instr_encoded 44 = .ok (.invokestatic 18, 3) := by decide +kernel
theorem d_Instr_encoded_47 : decode b_Instr_encoded 47 = .ok (.ifCond .eq 8, 3) := by decide +kernel
theorem d_Instr_encoded_50 : decode b_Instr_encoded 50 = .ok (.bipush 15, 2) := by decide +kernel
theorem d_Instr_encoded_52 : decode b_Instr_encoded 52 = .ok (.goto 5, 3) := by decide +kernel
theorem d_Instr_encoded_55 : decode b_Instr_encoded 55 = .ok (.bipush 20, 2) := by decide +kernel
theorem d_Instr_encoded_57 : decode b_Instr_encoded 57 = .ok (.istore 5, 2) := by decide +kernel
theorem d_Instr_encoded_59 : decode b_Instr_encoded 59 = .ok (.iload 4, 2) := by decide +kernel
theorem d_Instr_encoded_61 : decode b_Instr_encoded 61 = .ok (.iload_n 2, 1) := by decide +kernel
theorem d_Instr_encoded_62 : decode b_Instr_encoded 62 = .ok (.bipush 10, 2) := by decide +kernel
theorem d_Instr_encoded_64 : decode b_Instr_encoded 64 = .ok (.ishl, 1) := by decide +kernel
theorem d_Instr_encoded_65 : decode b_Instr_encoded 65 = .ok (.ior, 1) := by decide +kernel
theorem d_Instr_encoded_66 : decode b_Instr_encoded 66 = .ok (.iload_n 3, 1) := by decide +kernel
theorem d_Instr_encoded_67 : decode b_Instr_encoded 67 = .ok (.iload 5, 2) := by decide +kernel
theorem d_Instr_encoded_69 : decode b_Instr_encoded 69 = .ok (.ishl, 1) := by decide +kernel
theorem d_Instr_encoded_70 : decode b_Instr_encoded 70 = .ok (.ior, 1) := by decide +kernel
theorem d_Instr_encoded_71 : decode b_Instr_encoded 71 = .ok (.ireturn, 1) := by decide +kernel
theorem d_Section_append_0 : decode b_Section_append 0 = .ok (.aload_n 0, 1) := by decide +kernel
theorem d_Section_append_1 : decode b_Section_append 1 = .ok (.getfield 7, 3) := by decide +kernel
theorem d_Section_append_4 : decode b_Section_append 4 = .ok (.aload_n 0, 1) := by decide +kernel
theorem d_Section_append_5 : decode b_Section_append 5 = .ok (.getfield 13, 3) := by decide +kernel
theorem d_Section_append_8 : decode b_Section_append 8 = .ok (.iload_n 1, 1) := by decide +kernel
theorem d_Section_append_9 : decode b_Section_append 9 = .ok (.iastore, 1) := by decide +kernel
theorem d_Section_append_10 : decode b_Section_append 10 = .ok (.aload_n 0, 1) := by decide +kernel
theorem d_Section_append_11 : decode b_Section_append 11 = .ok (.dup, 1) := by decide +kernel
theorem d_Section_append_12 : decode b_Section_append 12 = .ok (.getfield 13, 3) := by decide +kernel
theorem d_Section_append_15 : decode b_Section_append 15 = .ok (.iconst 1, 1) := by decide +kernel
theorem d_Section_append_16 : decode b_Section_append 16 = .ok (.iadd, 1) := by decide +kernel
theorem d_Section_append_17 : decode b_Section_append 17 = .ok (.putfield 13, 3) := by decide +kernel
theorem d_Section_append_20 : decode b_Section_append 20 = .ok (.aload_n 0, 1) := by decide +kernel
theorem d_Section_append_21 : decode b_Section_append 21 = .ok (.getfield 13, 3) := by decide +kernel
theorem d_Section_append_24 : decode b_Section_append 24 = .ok (.iconst 1, 1) := by decide +kernel
theorem d_Section_append_25 : decode b_Section_append 25 = .ok (.isub, 1) := by decide +kernel
theorem d_Section_append_26 : decode b_Section_append 26 = .ok (.ireturn, 1) := by decide +kernel
theorem d_Mill_isSection_0 : decode b_Mill_isSection 0 = .ok (.iload_n 0, 1) := by decide +kernel
theorem d_Mill_isSection_1 : decode b_Mill_isSection 1 = .ok (.ifCond .eq 8, 3) := by decide +kernel
theorem d_Mill_isSection_4 : decode b_Mill_isSection 4 = .ok (.iload_n 0, 1) := by decide +kernel
theorem d_Mill_isSection_5 : decode b_Mill_isSection 5 = .ok (.iconst 1, 1) := by decide +kernel
theorem d_Mill_isSection_6 : decode b_Mill_isSection 6 = .ok (.if_icmp .ne 7, 3) := by decide +kernel
theorem d_Mill_isSection_9 : decode b_Mill_isSection 9 = .ok (.iconst 1, 1) := by decide +kernel
theorem d_Mill_isSection_10 : decode b_Mill_isSection 10 = .ok (.goto 4, 3) := by decide +kernel
theorem d_Mill_isSection_13 : decode b_Mill_isSection 13 = .ok (.iconst 0, 1) := by decide +kernel
theorem d_Mill_isSection_14 : decode b_Mill_isSection 14 = .ok (.ireturn, 1) := by decide +kernel
theorem d_Part_sectionOf_0 : decode b_Part_sectionOf 0 = .ok (.iload_n 1, 1) := by decide +kernel
theorem d_Part_sectionOf_1 : decode b_Part_sectionOf 1 = .ok (.ifCond .ne 10, 3) := by decide +kernel
theorem d_Part_sectionOf_4 : decode b_Part_sectionOf 4 = .ok (.aload_n 0, 1) := by decide +kernel
theorem d_Part_sectionOf_5 : decode b_Part_sectionOf 5 = .ok (.getfield 16, 3) := by decide +kernel
theorem d_Part_sectionOf_8 : decode b_Part_sectionOf 8 = .ok (.goto 7, 3) := by decide +kernel
theorem d_Part_sectionOf_11 : decode b_Part_sectionOf 11 = .ok (.aload_n 0, 1) := by decide +kernel
theorem d_Part_sectionOf_12 : decode b_Part_sectionOf 12 = .ok (.getfield 20, 3) := by decide +kernel
theorem d_Part_sectionOf_15 : decode b_Part_sectionOf 15 = .ok (.areturn, 1) := by decide +kernel
theorem d_Part_addDefinition_0 : decode b_Part_addDefinition 0 = .ok (.aload_n 0, 1) := by decide +kernel
theorem d_Part_addDefinition_1 : decode b_Part_addDefinition 1 = .ok (.getfield 23, 3) := by decide +kernel
theorem d_Part_addDefinition_4 : decode b_Part_addDefinition 4 = .ok (.aload_n 0, 1) := by decide +kernel
theorem d_Part_addDefinition_5 : decode b_Part_addDefinition 5 = .ok (.getfield 56, 3) := by decide +kernel
theorem d_Part_addDefinition_8 : decode b_Part_addDefinition 8 = .ok (.iload_n 1, 1) := by decide +kernel
theorem d_Part_addDefinition_9 : decode b_Part_addDefinition 9 = .ok (.iastore, 1) := by decide +kernel
theorem d_Part_addDefinition_10 : decode b_Part_addDefinition 10 = .ok (.aload_n 0, 1) := by decide +kernel
theorem d_Part_addDefinition_11 : decode b_Part_addDefinition 11 = .ok (.getfield 27, 3) := by decide +kernel
theorem d_Part_addDefinition_14 : decode b_Part_addDefinition 14 = .ok (.aload_n 0, 1) := by decide +kernel
theorem d_Part_addDefinition_15 : decode b_Part_addDefinition 15 = .ok (.getfield 56, 3) := by decide +kernel
theorem d_Part_addDefinition_18 : decode b_Part_addDefinition 18 = .ok (.iload_n 2, 1) := by decide +kernel
theorem d_Part_addDefinition_19 : decode b_Part_addDefinition 19 = .ok (.iastore, 1) := by decide +kernel
theorem d_Part_addDefinition_20 : decode b_Part_addDefinition 20 = .ok (.aload_n 0, 1) := by decide +kernel
theorem d_Part_addDefinition_21 : decode b_Part_addDefinition 21 = .ok (.getfield 30, 3) := by decide +kernel
theorem d_Part_addDefinition_24 : decode b_Part_addDefinition 24 = .ok (.aload_n 0, 1) := by decide +kernel
theorem d_Part_addDefinition_25 : decode b_Part_addDefinition 25 = .ok (.getfield 56, 3) := by decide +kernel
theorem d_Part_addDefinition_28 : decode b_Part_addDefinition 28 = .ok (.iload_n 3, 1) := by decide +kernel
theorem d_Part_addDefinition_29 : decode b_Part_addDefinition 29 = .ok (.iastore, 1) := by decide +kernel
theorem d_Part_addDefinition_30 : decode b_Part_addDefinition 30 = .ok (.aload_n 0, 1) := by decide +kernel
theorem d_Part_addDefinition_31 : decode b_Part_addDefinition 31 = .ok (.getfield 33, 3) := by decide +kernel
theorem d_Part_addDefinition_34 : decode b_Part_addDefinition 34 = .ok (.aload_n 0, 1) := by decide +kernel
theorem d_Part_addDefinition_35 : decode b_Part_addDefinition 35 = .ok (.getfield 56, 3) := by decide +kernel
theorem d_Part_addDefinition_38 : decode b_Part_addDefinition 38 = .ok (.iload 4, 2) := by decide +kernel
theorem d_Part_addDefinition_40 : decode b_Part_addDefinition 40 = .ok (.bastore, 1) := by decide +kernel
theorem d_Part_addDefinition_41 : decode b_Part_addDefinition 41 = .ok (.aload_n 0, 1) := by decide +kernel
theorem d_Part_addDefinition_42 : decode b_Part_addDefinition 42 = .ok (.dup, 1) := by decide +kernel
theorem d_Part_addDefinition_43 : decode b_Part_addDefinition 43 = .ok (.getfield 56, 3) := by decide +kernel
theorem d_Part_addDefinition_46 : decode b_Part_addDefinition 46 = .ok (.iconst 1, 1) := by decide +kernel
theorem d_Part_addDefinition_47 : decode b_Part_addDefinition 47 = .ok (.iadd, 1) := by decide +kernel
theorem d_Part_addDefinition_48 : decode b_Part_addDefinition 48 = .ok (.putfield 56, 3) := by decide +kernel
theorem d_Part_addDefinition_51 : decode b_Part_addDefinition 51 = .ok (.aload_n 0, 1) := by decide +kernel
theorem d_Part_addDefinition_52 : decode b_Part_addDefinition 52 = .ok (.getfield 56, 3) := by decide +kernel
theorem d_Part_addDefinition_55 : decode b_Part_addDefinition 55 = .ok (.ireturn, 1) := by decide +kernel
theorem d_Part_addFix_0 : decode b_Part_addFix 0 = .ok (.aload_n 0, 1) := by decide +kernel
theorem d_Part_addFix_1 : decode b_Part_addFix 1 = .ok (.getfield 37, 3) := by decide +kernel
theorem d_Part_addFix_4 : decode b_Part_addFix 4 = .ok (.aload_n 0, 1) := by decide +kernel
theorem d_Part_addFix_5 : decode b_Part_addFix 5 = .ok (.getfield 59, 3) := by decide +kernel
theorem d_Part_addFix_8 : decode b_Part_addFix 8 = .ok (.iload_n 1, 1) := by decide +kernel
theorem d_Part_addFix_9 : decode b_Part_addFix 9 = .ok (.iastore, 1) := by decide +kernel
theorem d_Part_addFix_10 : decode b_Part_addFix 10 = .ok (.aload_n 0, 1) := by decide +kernel
theorem d_Part_addFix_11 : decode b_Part_addFix 11 = .ok (.getfield 40, 3) := by decide +kernel
theorem d_Part_addFix_14 : decode b_Part_addFix 14 = .ok (.aload_n 0, 1) := by decide +kernel
theorem d_Part_addFix_15 : decode b_Part_addFix 15 = .ok (.getfield 59, 3) := by decide +kernel
theorem d_Part_addFix_18 : decode b_Part_addFix 18 = .ok (.iload_n 2, 1) := by decide +kernel
theorem d_Part_addFix_19 : decode b_Part_addFix 19 = .ok (.iastore, 1) := by decide +kernel
theorem d_Part_addFix_20 : decode b_Part_addFix 20 = .ok (.aload_n 0, 1) := by decide +kernel
theorem d_Part_addFix_21 : decode b_Part_addFix 21 = .ok (.getfield 43, 3) := by decide +kernel
theorem d_Part_addFix_24 : decode b_Part_addFix 24 = .ok (.aload_n 0, 1) := by decide +kernel
theorem d_Part_addFix_25 : decode b_Part_addFix 25 = .ok (.getfield 59, 3) := by decide +kernel
theorem d_Part_addFix_28 : decode b_Part_addFix 28 = .ok (.iload_n 3, 1) := by decide +kernel
theorem d_Part_addFix_29 : decode b_Part_addFix 29 = .ok (.iastore, 1) := by decide +kernel
theorem d_Part_addFix_30 : decode b_Part_addFix 30 = .ok (.aload_n 0, 1) := by decide +kernel
theorem d_Part_addFix_31 : decode b_Part_addFix 31 = .ok (.getfield 46, 3) := by decide +kernel
theorem d_Part_addFix_34 : decode b_Part_addFix 34 = .ok (.aload_n 0, 1) := by decide +kernel
theorem d_Part_addFix_35 : decode b_Part_addFix 35 = .ok (.getfield 59, 3) := by decide +kernel
theorem d_Part_addFix_38 : decode b_Part_addFix 38 = .ok (.iload 4, 2) := by decide +kernel
theorem d_Part_addFix_40 : decode b_Part_addFix 40 = .ok (.iastore, 1) := by decide +kernel
theorem d_Part_addFix_41 : decode b_Part_addFix 41 = .ok (.aload_n 0, 1) := by decide +kernel
theorem d_Part_addFix_42 : decode b_Part_addFix 42 = .ok (.getfield 49, 3) := by decide +kernel
theorem d_Part_addFix_45 : decode b_Part_addFix 45 = .ok (.aload_n 0, 1) := by decide +kernel
theorem d_Part_addFix_46 : decode b_Part_addFix 46 = .ok (.getfield 59, 3) := by decide +kernel
theorem d_Part_addFix_49 : decode b_Part_addFix 49 = .ok (.iload 5, 2) := by decide +kernel
theorem d_Part_addFix_51 : decode b_Part_addFix 51 = .ok (.iastore, 1) := by decide +kernel
theorem d_Part_addFix_52 : decode b_Part_addFix 52 = .ok (.aload_n 0, 1) := by decide +kernel
theorem d_Part_addFix_53 : decode b_Part_addFix 53 = .ok (.dup, 1) := by decide +kernel
theorem d_Part_addFix_54 : decode b_Part_addFix 54 = .ok (.getfield 59, 3) := by decide +kernel
theorem d_Part_addFix_57 : decode b_Part_addFix 57 = .ok (.iconst 1, 1) := by decide +kernel
theorem d_Part_addFix_58 : decode b_Part_addFix 58 = .ok (.iadd, 1) := by decide +kernel
theorem d_Part_addFix_59 : decode b_Part_addFix 59 = .ok (.putfield 59, 3) := by decide +kernel
theorem d_Part_addFix_62 : decode b_Part_addFix 62 = .ok (.aload_n 0, 1) := by decide +kernel
theorem d_Part_addFix_63 : decode b_Part_addFix 63 = .ok (.getfield 59, 3) := by decide +kernel
theorem d_Part_addFix_66 : decode b_Part_addFix 66 = .ok (.ireturn, 1) := by decide +kernel
theorem d_Part_empty_0 : decode b_Part_empty 0 = .ok (.aload_n 0, 1) := by decide +kernel
theorem d_Part_empty_1 : decode b_Part_empty 1 = .ok (.getfield 16, 3) := by decide +kernel
theorem d_Part_empty_4 : decode b_Part_empty 4 = .ok (.iconst 0, 1) := by decide +kernel
theorem d_Part_empty_5 : decode b_Part_empty 5 = .ok (.putfield 52, 3) := by decide +kernel
theorem d_Part_empty_8 : decode b_Part_empty 8 = .ok (.aload_n 0, 1) := by decide +kernel
theorem d_Part_empty_9 : decode b_Part_empty 9 = .ok (.getfield 20, 3) := by decide +kernel
theorem d_Part_empty_12 : decode b_Part_empty 12 = .ok (.iconst 0, 1) := by decide +kernel
theorem d_Part_empty_13 : decode b_Part_empty 13 = .ok (.putfield 52, 3) := by decide +kernel
theorem d_Part_empty_16 : decode b_Part_empty 16 = .ok (.aload_n 0, 1) := by decide +kernel
theorem d_Part_empty_17 : decode b_Part_empty 17 = .ok (.iconst 0, 1) := by decide +kernel
theorem d_Part_empty_18 : decode b_Part_empty 18 = .ok (.putfield 56, 3) := by decide +kernel
theorem d_Part_empty_21 : decode b_Part_empty 21 = .ok (.aload_n 0, 1) := by decide +kernel
theorem d_Part_empty_22 : decode b_Part_empty 22 = .ok (.iconst 0, 1) := by decide +kernel
theorem d_Part_empty_23 : decode b_Part_empty 23 = .ok (.putfield 59, 3) := by decide +kernel
theorem d_Part_empty_26 : decode b_Part_empty 26 = .ok (.return_, 1) := by decide +kernel
theorem d_Part_globalDefinitionOf_0 : decode b_Part_globalDefinitionOf 0 = .ok (.iconst 0, 1) := by decide +kernel
theorem d_Part_globalDefinitionOf_1 : decode b_Part_globalDefinitionOf 1 = .ok (.istore_n 2, 1) := by decide +kernel
theorem d_Part_globalDefinitionOf_2 : decode b_Part_globalDefinitionOf 2 = .ok (.iload_n 2, 1) := by decide +kernel
theorem d_Part_globalDefinitionOf_3 : decode b_Part_globalDefinitionOf 3 = .ok (.aload_n 0, 1) := by decide +kernel
theorem d_Part_globalDefinitionOf_4 : decode b_Part_globalDefinitionOf 4 = .ok (.getfield 56, 3) := by decide +kernel
theorem d_Part_globalDefinitionOf_7 : decode b_Part_globalDefinitionOf 7 = .ok (.if_icmp .ge 30, 3) := by decide +kernel
theorem d_Part_globalDefinitionOf_10 : decode b_Part_globalDefinitionOf 10 = .ok (.aload_n 0, 1) := by decide +kernel
theorem d_Part_globalDefinitionOf_11 : decode b_Part_globalDefinitionOf 11 = .ok (.getfield 23, 3) := by decide +kernel
theorem d_Part_globalDefinitionOf_14 : decode b_Part_globalDefinitionOf 14 = .ok (.iload_n 2, 1) := by decide +kernel
theorem d_Part_globalDefinitionOf_15 : decode b_Part_globalDefinitionOf 15 = .ok (.iaload, 1) := by decide +kernel
theorem d_Part_globalDefinitionOf_16 : decode b_Part_globalDefinitionOf 16 = .ok (.iload_n 1, 1) := by decide +kernel
theorem d_Part_globalDefinitionOf_17 : decode b_Part_globalDefinitionOf 17 = .ok (.if_icmp .ne 14, 3) := by decide +kernel
theorem d_Part_globalDefinitionOf_20 : decode b_Part_globalDefinitionOf 20 = .ok (.aload_n 0, 1) := by decide +kernel
theorem d_Part_globalDefinitionOf_21 : decode b_Part_globalDefinitionOf 21 = .ok (.getfield 33, 3) := by decide +kernel
theorem d_Part_globalDefinitionOf_24 : decode b_Part_globalDefinitionOf 24 = .ok (.iload_n 2, 1) := by decide +kernel
theorem d_Part_globalDefinitionOf_25 : decode b_Part_globalDefinitionOf 25 = .ok (.baload, 1) := by decide +kernel
theorem d_Part_globalDefinitionOf_26 : decode b_Part_globalDefinitionOf 26 = .ok (.ifCond .eq 5, 3) := by decide +kernel
theorem d_Part_globalDefinitionOf_29 : decode b_Part_globalDefinitionOf 29 = .ok (.iload_n 2, 1) := by decide +kernel
theorem d_Part_globalDefinitionOf_30 : decode b_Part_globalDefinitionOf 30 = .ok (.ireturn, 1) := by decide +kernel
theorem d_Part_globalDefinitionOf_31 : decode b_Part_globalDefinitionOf 31 = .ok (.iinc 2 1, 3) := by decide +kernel
theorem d_Part_globalDefinitionOf_34 : decode b_Part_globalDefinitionOf 34 = .ok (.goto (-32), 3) := by decide +kernel
theorem d_Part_globalDefinitionOf_37 : decode b_Part_globalDefinitionOf 37 = .ok (.iconst (-1), 1) := by decide +kernel
theorem d_Part_globalDefinitionOf_38 : decode b_Part_globalDefinitionOf 38 = .ok (.ireturn, 1) := by decide +kernel
theorem d_Part_timesDefined_0 : decode b_Part_timesDefined 0 = .ok (.iconst 0, 1) := by decide +kernel
theorem d_Part_timesDefined_1 : decode b_Part_timesDefined 1 = .ok (.istore_n 2, 1) := by decide +kernel
theorem d_Part_timesDefined_2 : decode b_Part_timesDefined 2 = .ok (.iconst 0, 1) := by decide +kernel
theorem d_Part_timesDefined_3 : decode b_Part_timesDefined 3 = .ok (.istore_n 3, 1) := by decide +kernel
theorem d_Part_timesDefined_4 : decode b_Part_timesDefined 4 = .ok (.iload_n 3, 1) := by decide +kernel
theorem d_Part_timesDefined_5 : decode b_Part_timesDefined 5 = .ok (.aload_n 0, 1) := by decide +kernel
theorem d_Part_timesDefined_6 : decode b_Part_timesDefined 6 = .ok (.getfield 56, 3) := by decide +kernel
theorem d_Part_timesDefined_9 : decode b_Part_timesDefined 9 = .ok (.if_icmp .ge 22, 3) := by decide +kernel
theorem d_Part_timesDefined_12 : decode b_Part_timesDefined 12 = .ok (.aload_n 0, 1) := by decide +kernel
theorem d_Part_timesDefined_13 : decode b_Part_timesDefined 13 = .ok (.getfield 23, 3) := by decide +kernel
theorem d_Part_timesDefined_16 : decode b_Part_timesDefined 16 = .ok (.iload_n 3, 1) := by decide +kernel
theorem d_Part_timesDefined_17 : decode b_Part_timesDefined 17 = .ok (.iaload, 1) := by decide +kernel
theorem d_Part_timesDefined_18 : decode b_Part_timesDefined 18 = .ok (.iload_n 1, 1) := by decide +kernel
theorem d_Part_timesDefined_19 : decode b_Part_timesDefined 19 = .ok (.if_icmp .ne 6, 3) := by decide +kernel
theorem d_Part_timesDefined_22 : decode b_Part_timesDefined 22 = .ok (.iinc 2 1, 3) := by decide +kernel
theorem d_Part_timesDefined_25 : decode b_Part_timesDefined 25 = .ok (.iinc 3 1, 3) := by decide +kernel
theorem d_Part_timesDefined_28 : decode b_Part_timesDefined 28 = .ok (.goto (-24), 3) := by decide +kernel
theorem d_Part_timesDefined_31 : decode b_Part_timesDefined 31 = .ok (.iload_n 2, 1) := by decide +kernel
theorem d_Part_timesDefined_32 : decode b_Part_timesDefined 32 = .ok (.ireturn, 1) := by decide +kernel
theorem d_Part_definitionOf_0 : decode b_Part_definitionOf 0 = .ok (.iconst 0, 1) := by decide +kernel
theorem d_Part_definitionOf_1 : decode b_Part_definitionOf 1 = .ok (.istore_n 2, 1) := by decide +kernel
theorem d_Part_definitionOf_2 : decode b_Part_definitionOf 2 = .ok (.iload_n 2, 1) := by decide +kernel
theorem d_Part_definitionOf_3 : decode b_Part_definitionOf 3 = .ok (.aload_n 0, 1) := by decide +kernel
theorem d_Part_definitionOf_4 : decode b_Part_definitionOf 4 = .ok (.getfield 56, 3) := by decide +kernel
theorem d_Part_definitionOf_7 : decode b_Part_definitionOf 7 = .ok (.if_icmp .ge 21, 3) := by decide +kernel
theorem d_Part_definitionOf_10 : decode b_Part_definitionOf 10 = .ok (.aload_n 0, 1) := by decide +kernel
theorem d_Part_definitionOf_11 : decode b_Part_definitionOf 11 = .ok (.getfield 23, 3) := by decide +kernel
theorem d_Part_definitionOf_14 : decode b_Part_definitionOf 14 = .ok (.iload_n 2, 1) := by decide +kernel
theorem d_Part_definitionOf_15 : decode b_Part_definitionOf 15 = .ok (.iaload, 1) := by decide +kernel
theorem d_Part_definitionOf_16 : decode b_Part_definitionOf 16 = .ok (.iload_n 1, 1) := by decide +kernel
theorem d_Part_definitionOf_17 : decode b_Part_definitionOf 17 = .ok (.if_icmp .ne 5, 3) := by decide +kernel
theorem d_Part_definitionOf_20 : decode b_Part_definitionOf 20 = .ok (.iload_n 2, 1) := by decide +kernel
theorem d_Part_definitionOf_21 : decode b_Part_definitionOf 21 = .ok (.ireturn, 1) := by decide +kernel
theorem d_Part_definitionOf_22 : decode b_Part_definitionOf 22 = .ok (.iinc 2 1, 3) := by decide +kernel
theorem d_Part_definitionOf_25 : decode b_Part_definitionOf 25 = .ok (.goto (-23), 3) := by decide +kernel
theorem d_Part_definitionOf_28 : decode b_Part_definitionOf 28 = .ok (.iconst (-1), 1) := by decide +kernel
theorem d_Part_definitionOf_29 : decode b_Part_definitionOf 29 = .ok (.ireturn, 1) := by decide +kernel
theorem d_Fix_reaches_0 : decode b_Fix_reaches 0 = .ok (.iload_n 0, 1) := by decide +kernel
theorem d_Fix_reaches_1 : decode b_Fix_reaches 1 = .ok (.iconst 3, 1) := by decide +kernel
theorem d_Fix_reaches_2 : decode b_Fix_reaches 2 = .ok (.if_icmp .eq 10, 3) := by decide +kernel
theorem d_Fix_reaches_5 : decode b_Fix_reaches 5 = .ok (.iload_n 0, 1) := by decide +kernel
theorem d_Fix_reaches_6 : decode b_Fix_reaches 6 = .ok (.iconst 4, 1) := by decide +kernel
theorem d_Fix_reaches_7 : decode b_Fix_reaches 7 = .ok (.if_icmp .eq 5, 3) := by decide +kernel
theorem d_Fix_reaches_10 : decode b_Fix_reaches 10 = .ok (.iconst 1, 1) := by decide +kernel
theorem d_Fix_reaches_11 : decode b_Fix_reaches 11 = .ok (.ireturn, 1) := by decide +kernel
theorem d_Fix_reaches_12 : decode b_Fix_reaches 12 = .ok (.iload_n 0, 1) := by decide +kernel
theorem d_Fix_reaches_13 : decode b_Fix_reaches 13 = .ok (.iconst 3, 1) := by decide +kernel
theorem d_Fix_reaches_14 : decode b_Fix_reaches 14 = .ok (.if_icmp .ne 8, 3) := by decide +kernel
theorem d_Fix_reaches_17 : decode b_Fix_reaches 17 = .ok (.bipush 20, 2) := by decide +kernel
theorem d_Fix_reaches_19 : decode b_Fix_reaches 19 = .ok (.goto 5, 3) := by decide +kernel
theorem d_Fix_reaches_22 : decode b_Fix_reaches 22 = .ok (.bipush 10, 2) := by decide +kernel
theorem d_Fix_reaches_24 : decode b_Fix_reaches 24 = .ok (.istore_n 2, 1) := by decide +kernel
theorem d_Fix_reaches_25 : decode b_Fix_reaches 25 = .ok (.iload_n 1, 1) := by decide +kernel
theorem d_Fix_reaches_26 : decode b_Fix_reaches 26 = .ok (.iconst 2, 1) := by decide +kernel
theorem d_Fix_reaches_27 : decode b_Fix_reaches 27 = .ok (.irem, 1) := by decide +kernel
theorem d_Fix_reaches_28 : decode b_Fix_reaches 28 = .ok (.ifCond .ne 20, 3) := by decide +kernel
theorem d_Fix_reaches_31 : decode b_Fix_reaches 31 = .ok (.iload_n 1, 1) := by decide +kernel
theorem d_Fix_reaches_32 : decode b_Fix_reaches 32 = .ok (.iconst 2, 1) := by decide +kernel
theorem d_Fix_reaches_33 : decode b_Fix_reaches 33 = .ok (.idiv, 1) := by decide +kernel
theorem d_Fix_reaches_34 : decode b_Fix_reaches 34 = .ok (.bipush 32, 2) := by decide +kernel
theorem d_Fix_reaches_36 : decode b_Fix_reaches 36 = .ok (.iload_n 2, 1) := by decide +kernel
theorem d_Fix_reaches_37 : decode b_Fix_reaches 37 = .ok (.isub, 1) := by decide +kernel
theorem d_Fix_reaches_38 : decode b_Fix_reaches 38 = .ok (.invokestatic 11, 3) := by decide +kernel
theorem d_Fix_reaches_41 : decode b_Fix_reaches 41 = .ok (.ifCond .eq 7, 3) := by decide +kernel
theorem d_Fix_reaches_44 : decode b_Fix_reaches 44 = .ok (.iconst 1, 1) := by decide +kernel
theorem d_Fix_reaches_45 : decode b_Fix_reaches 45 = .ok (.goto 4, 3) := by decide +kernel
theorem d_Fix_reaches_48 : decode b_Fix_reaches 48 = .ok (.iconst 0, 1) := by decide +kernel
theorem d_Fix_reaches_49 : decode b_Fix_reaches 49 = .ok (.ireturn, 1) := by decide +kernel
theorem d_Image_resize_0 : decode b_Image_resize 0 = .ok (.aload_n 0, 1) := by decide +kernel
theorem d_Image_resize_1 : decode b_Image_resize 1 = .ok (.getfield 15, 3) := by decide +kernel
theorem d_Image_resize_4 : decode b_Image_resize 4 = .ok (.istore_n 2, 1) := by decide +kernel
theorem d_Image_resize_5 : decode b_Image_resize 5 = .ok (.iload_n 2, 1) := by decide +kernel
theorem d_Image_resize_6 : decode b_Image_resize 6 = .ok (.iload_n 1, 1) := by decide +kernel
theorem d_Image_resize_7 : decode b_Image_resize 7 = .ok (.if_icmp .ge 16, 3) := by decide +kernel
theorem d_Image_resize_10 : decode b_Image_resize 10 = .ok (.aload_n 0, 1) := by decide +kernel
theorem d_Image_resize_11 : decode b_Image_resize 11 = .ok (.getfield 9, 3) := by decide +kernel
theorem d_Image_resize_14 : decode b_Image_resize 14 = .ok (.iload_n 2, 1) := by decide +kernel
theorem d_Image_resize_15 : decode b_Image_resize 15 = .ok (.iconst 0, 1) := by decide +kernel
theorem d_Image_resize_16 : decode b_Image_resize 16 = .ok (.iastore, 1) := by decide +kernel
theorem d_Image_resize_17 : decode b_Image_resize 17 = .ok (.iinc 2 1, 3) := by decide +kernel
theorem d_Image_resize_20 : decode b_Image_resize 20 = .ok (.goto (-15), 3) := by decide +kernel
theorem d_Image_resize_23 : decode b_Image_resize 23 = .ok (.aload_n 0, 1) := by decide +kernel
theorem d_Image_resize_24 : decode b_Image_resize 24 = .ok (.iload_n 1, 1) := by decide +kernel
theorem d_Image_resize_25 : decode b_Image_resize 25 = .ok (.putfield 15, 3) := by decide +kernel
theorem d_Image_resize_28 : decode b_Image_resize 28 = .ok (.return_, 1) := by decide +kernel
theorem d_Image_setWord_0 : decode b_Image_setWord 0 = .ok (.aload_n 0, 1) := by decide +kernel
theorem d_Image_setWord_1 : decode b_Image_setWord 1 = .ok (.getfield 9, 3) := by decide +kernel
theorem d_Image_setWord_4 : decode b_Image_setWord 4 = .ok (.iload_n 1, 1) := by decide +kernel
theorem d_Image_setWord_5 : decode b_Image_setWord 5 = .ok (.iload_n 2, 1) := by decide +kernel
theorem d_Image_setWord_6 : decode b_Image_setWord 6 = .ok (.sipush 255, 3) := by decide +kernel
theorem d_Image_setWord_9 : decode b_Image_setWord 9 = .ok (.iand, 1) := by decide +kernel
theorem d_Image_setWord_10 : decode b_Image_setWord 10 = .ok (.iastore, 1) := by decide +kernel
theorem d_Image_setWord_11 : decode b_Image_setWord 11 = .ok (.aload_n 0, 1) := by decide +kernel
theorem d_Image_setWord_12 : decode b_Image_setWord 12 = .ok (.getfield 9, 3) := by decide +kernel
theorem d_Image_setWord_15 : decode b_Image_setWord 15 = .ok (.iload_n 1, 1) := by decide +kernel
theorem d_Image_setWord_16 : decode b_Image_setWord 16 = .ok (.iconst 1, 1) := by decide +kernel
theorem d_Image_setWord_17 : decode b_Image_setWord 17 = .ok (.iadd, 1) := by decide +kernel
theorem d_Image_setWord_18 : decode b_Image_setWord 18 = .ok (.iload_n 2, 1) := by decide +kernel
theorem d_Image_setWord_19 : decode b_Image_setWord 19 = .ok (.bipush 8, 2) := by decide +kernel
theorem d_Image_setWord_21 : decode b_Image_setWord 21 = .ok (.ishr, 1) := by decide +kernel
theorem d_Image_setWord_22 : decode b_Image_setWord 22 = .ok (.sipush 255, 3) := by decide +kernel
theorem d_Image_setWord_25 : decode b_Image_setWord 25 = .ok (.iand, 1) := by decide +kernel
theorem d_Image_setWord_26 : decode b_Image_setWord 26 = .ok (.iastore, 1) := by decide +kernel
theorem d_Image_setWord_27 : decode b_Image_setWord 27 = .ok (.aload_n 0, 1) := by decide +kernel
theorem d_Image_setWord_28 : decode b_Image_setWord 28 = .ok (.getfield 9, 3) := by decide +kernel
theorem d_Image_setWord_31 : decode b_Image_setWord 31 = .ok (.iload_n 1, 1) := by decide +kernel
theorem d_Image_setWord_32 : decode b_Image_setWord 32 = .ok (.iconst 2, 1) := by decide +kernel
theorem d_Image_setWord_33 : decode b_Image_setWord 33 = .ok (.iadd, 1) := by decide +kernel
theorem d_Image_setWord_34 : decode b_Image_setWord 34 = .ok (.iload_n 2, 1) := by decide +kernel
theorem d_Image_setWord_35 : decode b_Image_setWord 35 = .ok (.bipush 16, 2) := by decide +kernel
theorem d_Image_setWord_37 : decode b_Image_setWord 37 = .ok (.ishr, 1) := by decide +kernel
theorem d_Image_setWord_38 : decode b_Image_setWord 38 = .ok (.sipush 255, 3) := by decide +kernel
theorem d_Image_setWord_41 : decode b_Image_setWord 41 = .ok (.iand, 1) := by decide +kernel
theorem d_Image_setWord_42 : decode b_Image_setWord 42 = .ok (.iastore, 1) := by decide +kernel
theorem d_Image_setWord_43 : decode b_Image_setWord 43 = .ok (.aload_n 0, 1) := by decide +kernel
theorem d_Image_setWord_44 : decode b_Image_setWord 44 = .ok (.getfield 9, 3) := by decide +kernel
theorem d_Image_setWord_47 : decode b_Image_setWord 47 = .ok (.iload_n 1, 1) := by decide +kernel
theorem d_Image_setWord_48 : decode b_Image_setWord 48 = .ok (.iconst 3, 1) := by decide +kernel
theorem d_Image_setWord_49 : decode b_Image_setWord 49 = .ok (.iadd, 1) := by decide +kernel
theorem d_Image_setWord_50 : decode b_Image_setWord 50 = .ok (.iload_n 2, 1) := by decide +kernel
theorem d_Image_setWord_51 : decode b_Image_setWord 51 = .ok (.bipush 24, 2) := by decide +kernel
theorem d_Image_setWord_53 : decode b_Image_setWord 53 = .ok (.ishr, 1) := by decide +kernel
theorem d_Image_setWord_54 : decode b_Image_setWord 54 = .ok (.sipush 255, 3) := by decide +kernel
theorem d_Image_setWord_57 : decode b_Image_setWord 57 = .ok (.iand, 1) := by decide +kernel
theorem d_Image_setWord_58 : decode b_Image_setWord 58 = .ok (.iastore, 1) := by decide +kernel
theorem d_Image_setWord_59 : decode b_Image_setWord 59 = .ok (.return_, 1) := by decide +kernel
theorem d_Image_wordAt_0 : decode b_Image_wordAt 0 = .ok (.aload_n 0, 1) := by decide +kernel
theorem d_Image_wordAt_1 : decode b_Image_wordAt 1 = .ok (.getfield 9, 3) := by decide +kernel
theorem d_Image_wordAt_4 : decode b_Image_wordAt 4 = .ok (.iload_n 1, 1) := by decide +kernel
theorem d_Image_wordAt_5 : decode b_Image_wordAt 5 = .ok (.iaload, 1) := by decide +kernel
theorem d_Image_wordAt_6 : decode b_Image_wordAt 6 = .ok (.aload_n 0, 1) := by decide +kernel
theorem d_Image_wordAt_7 : decode b_Image_wordAt 7 = .ok (.getfield 9, 3) := by decide +kernel
theorem d_Image_wordAt_10 : decode b_Image_wordAt 10 = .ok (.iload_n 1, 1) := by decide +kernel
theorem d_Image_wordAt_11 : decode b_Image_wordAt 11 = .ok (.iconst 1, 1) := by decide +kernel
theorem d_Image_wordAt_12 : decode b_Image_wordAt 12 = .ok (.iadd, 1) := by decide +kernel
theorem d_Image_wordAt_13 : decode b_Image_wordAt 13 = .ok (.iaload, 1) := by decide +kernel
theorem d_Image_wordAt_14 : decode b_Image_wordAt 14 = .ok (.bipush 8, 2) := by decide +kernel
theorem d_Image_wordAt_16 : decode b_Image_wordAt 16 = .ok (.ishl, 1) := by decide +kernel
theorem d_Image_wordAt_17 : decode b_Image_wordAt 17 = .ok (.ior, 1) := by decide +kernel
theorem d_Image_wordAt_18 : decode b_Image_wordAt 18 = .ok (.aload_n 0, 1) := by decide +kernel
theorem d_Image_wordAt_19 : decode b_Image_wordAt 19 = .ok (.getfield 9, 3) := by decide +kernel
theorem d_Image_wordAt_22 : decode b_Image_wordAt 22 = .ok (.iload_n 1, 1) := by decide +kernel
theorem d_Image_wordAt_23 : decode b_Image_wordAt 23 = .ok (.iconst 2, 1) := by decide +kernel
theorem d_Image_wordAt_24 : decode b_Image_wordAt 24 = .ok (.iadd, 1) := by decide +kernel
theorem d_Image_wordAt_25 : decode b_Image_wordAt 25 = .ok (.iaload, 1) := by decide +kernel
theorem d_Image_wordAt_26 : decode b_Image_wordAt 26 = .ok (.bipush 16, 2) := by decide +kernel
theorem d_Image_wordAt_28 : decode b_Image_wordAt 28 = .ok (.ishl, 1) := by decide +kernel
theorem d_Image_wordAt_29 : decode b_Image_wordAt 29 = .ok (.ior, 1) := by decide +kernel
theorem d_Image_wordAt_30 : decode b_Image_wordAt 30 = .ok (.aload_n 0, 1) := by decide +kernel
theorem d_Image_wordAt_31 : decode b_Image_wordAt 31 = .ok (.getfield 9, 3) := by decide +kernel
theorem d_Image_wordAt_34 : decode b_Image_wordAt 34 = .ok (.iload_n 1, 1) := by decide +kernel
theorem d_Image_wordAt_35 : decode b_Image_wordAt 35 = .ok (.iconst 3, 1) := by decide +kernel
theorem d_Image_wordAt_36 : decode b_Image_wordAt 36 = .ok (.iadd, 1) := by decide +kernel
theorem d_Image_wordAt_37 : decode b_Image_wordAt 37 = .ok (.iaload, 1) := by decide +kernel
theorem d_Image_wordAt_38 : decode b_Image_wordAt 38 = .ok (.bipush 24, 2) := by decide +kernel
theorem d_Image_wordAt_40 : decode b_Image_wordAt 40 = .ok (.ishl, 1) := by decide +kernel
theorem d_Image_wordAt_41 : decode b_Image_wordAt 41 = .ok (.ior, 1) := by decide +kernel
theorem d_Image_wordAt_42 : decode b_Image_wordAt 42 = .ok (.ireturn, 1) := by decide +kernel
theorem d_Image_headerWord_0 : decode b_Image_headerWord 0 = .ok (.aload_n 0, 1) := by decide +kernel
theorem d_Image_headerWord_1 : decode b_Image_headerWord 1 = .ok (.iconst 4, 1) := by decide +kernel
theorem d_Image_headerWord_2 : decode b_Image_headerWord 2 = .ok (.iload_n 1, 1) := by decide +kernel
theorem d_Image_headerWord_3 : decode b_Image_headerWord 3 = .ok (.imul, 1) := by decide +kernel
theorem d_Image_headerWord_4 : decode b_Image_headerWord 4 = .ok (.invokevirtual 19, 3) := by decide +kernel
theorem d_Image_headerWord_7 : decode b_Image_headerWord 7 = .ok (.ireturn, 1) := by decide +kernel
theorem d_Image_headerSum_0 : decode b_Image_headerSum 0 = .ok (.iconst 0, 1) := by decide +kernel
theorem d_Image_headerSum_1 : decode b_Image_headerSum 1 = .ok (.istore_n 1, 1) := by decide +kernel
theorem d_Image_headerSum_2 : decode b_Image_headerSum 2 = .ok (.iconst 0, 1) := by decide +kernel
theorem d_Image_headerSum_3 : decode b_Image_headerSum 3 = .ok (.istore_n 2, 1) := by decide +kernel
theorem d_Image_headerSum_4 : decode b_Image_headerSum 4 = .ok (.iload_n 2, 1) := by decide +kernel
theorem d_Image_headerSum_5 : decode b_Image_headerSum 5 = .ok (.bipush 8, 2) := by decide +kernel
theorem d_Image_headerSum_7 : decode b_Image_headerSum 7 = .ok (.if_icmp .ge 17, 3) := by decide +kernel
theorem d_Image_headerSum_10 : decode b_Image_headerSum 10 = .ok (.iload_n 1, 1) := by decide +kernel
theorem d_Image_headerSum_11 : decode b_Image_headerSum 11 = .ok (.aload_n 0, 1) := by decide +kernel
theorem d_Image_headerSum_12 : decode b_Image_headerSum 12 = .ok (.iload_n 2, 1) := by decide +kernel
theorem d_Image_headerSum_13 : decode b_Image_headerSum 13 = .ok (.invokevirtual 23, 3) := by decide +kernel
theorem d_Image_headerSum_16 : decode b_Image_headerSum 16 = .ok (.iadd, 1) := by decide +kernel
theorem d_Image_headerSum_17 : decode b_Image_headerSum 17 = .ok (.istore_n 1, 1) := by decide +kernel
theorem d_Image_headerSum_18 : decode b_Image_headerSum 18 = .ok (.iinc 2 1, 3) := by decide +kernel
theorem d_Image_headerSum_21 : decode b_Image_headerSum 21 = .ok (.goto (-17), 3) := by decide +kernel
theorem d_Image_headerSum_24 : decode b_Image_headerSum 24 = .ok (.iload_n 1, 1) := by decide +kernel
theorem d_Image_headerSum_25 : decode b_Image_headerSum 25 = .ok (.ireturn, 1) := by decide +kernel
theorem d_Math_floorDiv_0 : decode b_Math_floorDiv 0 = .ok (.iload_n 0, 1) := by decide +kernel
theorem d_Math_floorDiv_1 : decode b_Math_floorDiv 1 = .ok (.iload_n 1, 1) := by decide +kernel
theorem d_Math_floorDiv_2 : decode b_Math_floorDiv 2 = .ok (.idiv, 1) := by decide +kernel
theorem d_Math_floorDiv_3 : decode b_Math_floorDiv 3 = .ok (.istore_n 2, 1) := by decide +kernel
theorem d_Math_floorDiv_4 : decode b_Math_floorDiv 4 = .ok (.iload_n 0, 1) := by decide +kernel
theorem d_Math_floorDiv_5 : decode b_Math_floorDiv 5 = .ok (.iload_n 1, 1) := by decide +kernel
theorem d_Math_floorDiv_6 : decode b_Math_floorDiv 6 = .ok (.ixor, 1) := by decide +kernel
theorem d_Math_floorDiv_7 : decode b_Math_floorDiv 7 = .ok (.ifCond .ge 14, 3) := by decide +kernel
theorem d_Math_floorDiv_10 : decode b_Math_floorDiv 10 = .ok (.iload_n 2, 1) := by decide +kernel
theorem d_Math_floorDiv_11 : decode b_Math_floorDiv 11 = .ok (.iload_n 1, 1) := by decide +kernel
theorem d_Math_floorDiv_12 : decode b_Math_floorDiv 12 = .ok (.imul, 1) := by decide +kernel
theorem d_Math_floorDiv_13 : decode b_Math_floorDiv 13 = .ok (.iload_n 0, 1) := by decide +kernel
theorem d_Math_floorDiv_14 : decode b_Math_floorDiv 14 = .ok (.if_icmp .eq 7, 3) := by decide +kernel
theorem d_Math_floorDiv_17 : decode b_Math_floorDiv 17 = .ok (.iload_n 2, 1) := by decide +kernel
theorem d_Math_floorDiv_18 : decode b_Math_floorDiv 18 = .ok (.iconst 1, 1) := by decide +kernel
theorem d_Math_floorDiv_19 : decode b_Math_floorDiv 19 = .ok (.isub, 1) := by decide +kernel
theorem d_Math_floorDiv_20 : decode b_Math_floorDiv 20 = .ok (.ireturn, 1) := by decide +kernel
theorem d_Math_floorDiv_21 : decode b_Math_floorDiv 21 = .ok (.iload_n 2, 1) := by decide +kernel
theorem d_Math_floorDiv_22 : decode b_Math_floorDiv 22 = .ok (.ireturn, 1) := by decide +kernel
theorem d_Fix_withNumber_0 : decode b_Fix_withNumber 0 = .ok (.iload_n 0, 1) := by decide +kernel
theorem d_Fix_withNumber_1 : decode b_Fix_withNumber 1 = .ok (.iconst 1, 1) := by decide +kernel
theorem d_Fix_withNumber_2 : decode b_Fix_withNumber 2 = .ok (.iload_n 1, 1) := by decide +kernel
theorem d_Fix_withNumber_3 : decode b_Fix_withNumber 3 = .ok (.ishl, 1) := by decide +kernel
theorem d_Fix_withNumber_4 : decode b_Fix_withNumber 4 = .ok (.iconst 1, 1) := by decide +kernel
theorem d_Fix_withNumber_5 : decode b_Fix_withNumber 5 = .ok (.isub, 1) := by decide +kernel
theorem d_Fix_withNumber_6 : decode b_Fix_withNumber 6 = .ok (.iand, 1) := by decide +kernel
theorem d_Fix_withNumber_7 : decode b_Fix_withNumber 7 = .ok (.istore_n 3, 1) := by decide +kernel
theorem d_Fix_withNumber_8 : decode b_Fix_withNumber 8 = .ok (.iload_n 3, 1) := by decide +kernel
theorem d_Fix_withNumber_9 : decode b_Fix_withNumber 9 = .ok (.iload_n 2, 1) := by decide +kernel
theorem d_Fix_withNumber_10 : decode b_Fix_withNumber 10 = .ok (.iload_n 1, 1) := by decide +kernel
theorem d_Fix_withNumber_11 : decode b_Fix_withNumber 11 = .ok (.ishl, 1) := by decide +kernel
theorem d_Fix_withNumber_12 : decode b_Fix_withNumber 12 = .ok (.ior, 1) := by decide +kernel
theorem d_Fix_withNumber_13 : decode b_Fix_withNumber 13 = .ok (.ireturn, 1) := by decide +kernel
theorem d_Fix_fixed_0 : decode b_Fix_fixed 0 = .ok (.iload_n 0, 1) := by decide +kernel
theorem d_Fix_fixed_1 : decode b_Fix_fixed 1 = .ok (.tableswitch 71 0 3 #[31, 33, 51, 59], 31) := by decide +kernel
theorem d_Fix_fixed_32 : decode b_Fix_fixed 32 = .ok (.iload_n 2, 1) := by decide +kernel
theorem d_Fix_fixed_33 : decode b_Fix_fixed 33 = .ok (.ireturn, 1) := by decide +kernel
theorem d_Fix_fixed_34 : decode b_Fix_fixed 34 = .ok (.iload_n 1, 1) := by decide +kernel
theorem d_Fix_fixed_35 : decode b_Fix_fixed 35 = .ok (.bipush 12, 2) := by decide +kernel
theorem d_Fix_fixed_37 : decode b_Fix_fixed 37 = .ok (.iload_n 2, 1) := by decide +kernel
theorem d_Fix_fixed_38 : decode b_Fix_fixed 38 = .ok (.sipush 2048, 3) := by decide +kernel
theorem d_Fix_fixed_41 : decode b_Fix_fixed 41 = .ok (.iadd, 1) := by decide +kernel
theorem d_Fix_fixed_42 : decode b_Fix_fixed 42 = .ok (.sipush 4096, 3) := by decide +kernel
theorem d_Fix_fixed_45 : decode b_Fix_fixed 45 = .ok (.invokestatic 17, 3) := by decide +kernel
theorem d_Fix_fixed_48 : decode b_Fix_fixed 48 = .ok (.invokestatic 23, 3) := by decide +kernel
theorem d_Fix_fixed_51 : decode b_Fix_fixed 51 = .ok (.ireturn, 1) := by decide +kernel
theorem d_Fix_fixed_52 : decode b_Fix_fixed 52 = .ok (.iload_n 1, 1) := by decide +kernel
theorem d_Fix_fixed_53 : decode b_Fix_fixed 53 = .ok (.bipush 20, 2) := by decide +kernel
theorem d_Fix_fixed_55 : decode b_Fix_fixed 55 = .ok (.iload_n 2, 1) := by decide +kernel
theorem d_Fix_fixed_56 : decode b_Fix_fixed 56 = .ok (.invokestatic 23, 3) := by decide +kernel
theorem d_Fix_fixed_59 : decode b_Fix_fixed 59 = .ok (.ireturn, 1) := by decide +kernel
theorem d_Fix_fixed_60 : decode b_Fix_fixed 60 = .ok (.iload_n 1, 1) := by decide +kernel
theorem d_Fix_fixed_61 : decode b_Fix_fixed 61 = .ok (.bipush 20, 2) := by decide +kernel
theorem d_Fix_fixed_63 : decode b_Fix_fixed 63 = .ok (.iload_n 2, 1) := by decide +kernel
theorem d_Fix_fixed_64 : decode b_Fix_fixed 64 = .ok (.iload_n 3, 1) := by decide +kernel
theorem d_Fix_fixed_65 : decode b_Fix_fixed 65 = .ok (.isub, 1) := by decide +kernel
theorem d_Fix_fixed_66 : decode b_Fix_fixed 66 = .ok (.iconst 2, 1) := by decide +kernel
theorem d_Fix_fixed_67 : decode b_Fix_fixed 67 = .ok (.idiv, 1) := by decide +kernel
theorem d_Fix_fixed_68 : decode b_Fix_fixed 68 = .ok (.invokestatic 23, 3) := by decide +kernel
theorem d_Fix_fixed_71 : decode b_Fix_fixed 71 = .ok (.ireturn, 1) := by decide +kernel
theorem d_Fix_fixed_72 : decode b_Fix_fixed 72 = .ok (.iload_n 1, 1) := by decide +kernel
theorem d_Fix_fixed_73 : decode b_Fix_fixed 73 = .ok (.bipush 10, 2) := by decide +kernel
theorem d_Fix_fixed_75 : decode b_Fix_fixed 75 = .ok (.iload_n 2, 1) := by decide +kernel
theorem d_Fix_fixed_76 : decode b_Fix_fixed 76 = .ok (.iload_n 3, 1) := by decide +kernel
theorem d_Fix_fixed_77 : decode b_Fix_fixed 77 = .ok (.isub, 1) := by decide +kernel
theorem d_Fix_fixed_78 : decode b_Fix_fixed 78 = .ok (.iconst 2, 1) := by decide +kernel
theorem d_Fix_fixed_79 : decode b_Fix_fixed 79 = .ok (.idiv, 1) := by decide +kernel
theorem d_Fix_fixed_80 : decode b_Fix_fixed 80 = .ok (.invokestatic 23, 3) := by decide +kernel
theorem d_Fix_fixed_83 : decode b_Fix_fixed 83 = .ok (.ireturn, 1) := by decide +kernel
theorem d_Instr_opOf_0 : decode b_Instr_opOf 0 = .ok (.iload_n 0, 1) := by decide +kernel
theorem d_Instr_opOf_1 : decode b_Instr_opOf 1 = .ok (.bipush 31, 2) := by decide +kernel
theorem d_Instr_opOf_3 : decode b_Instr_opOf 3 = .ok (.iand, 1) := by decide +kernel
theorem d_Instr_opOf_4 : decode b_Instr_opOf 4 = .ok (.ireturn, 1) := by decide +kernel
theorem d_Instr_aOf_0 : decode b_Instr_aOf 0 = .ok (.iload_n 0, 1) := by decide +kernel
theorem d_Instr_aOf_1 : decode b_Instr_aOf 1 = .ok (.iconst 5, 1) := by decide +kernel
theorem d_Instr_aOf_2 : decode b_Instr_aOf 2 = .ok (.ishr, 1) := by decide +kernel
theorem d_Instr_aOf_3 : decode b_Instr_aOf 3 = .ok (.bipush 31, 2) := by decide +kernel
theorem d_Instr_aOf_5 : decode b_Instr_aOf 5 = .ok (.iand, 1) := by decide +kernel
theorem d_Instr_aOf_6 : decode b_Instr_aOf 6 = .ok (.ireturn, 1) := by decide +kernel
theorem d_Instr_bOf_0 : decode b_Instr_bOf 0 = .ok (.iload_n 0, 1) := by decide +kernel
theorem d_Instr_bOf_1 : decode b_Instr_bOf 1 = .ok (.bipush 10, 2) := by decide +kernel
theorem d_Instr_bOf_3 : decode b_Instr_bOf 3 = .ok (.ishr, 1) := by decide +kernel
theorem d_Instr_bOf_4 : decode b_Instr_bOf 4 = .ok (.bipush 31, 2) := by decide +kernel
theorem d_Instr_bOf_6 : decode b_Instr_bOf 6 = .ok (.iand, 1) := by decide +kernel
theorem d_Instr_bOf_7 : decode b_Instr_bOf 7 = .ok (.ireturn, 1) := by decide +kernel
theorem d_Instr_numberOf_0 : decode b_Instr_numberOf 0 = .ok (.iload_n 0, 1) := by decide +kernel
theorem d_Instr_numberOf_1 : decode b_Instr_numberOf 1 = .ok (.iload_n 0, 1) := by decide +kernel
theorem d_Instr_numberOf_2 : decode b_Instr_numberOf 2 = .ok (.invokestatic 29, 3) := by decide +kernel
theorem d_Instr_numberOf_5 : decode b_Instr_numberOf 5 = .ok (.invokestatic 22, 3) := by decide +kernel
theorem d_Instr_numberOf_8 : decode b_Instr_numberOf 8 = .ok (.ishr, 1) := by decide +kernel
theorem d_Instr_numberOf_9 : decode b_Instr_numberOf 9 = .ok (.ireturn, 1) := by decide +kernel
theorem d_Instr_registerCOf_0 : decode b_Instr_registerCOf 0 = .ok (.iload_n 0, 1) := by decide +kernel
theorem d_Instr_registerCOf_1 : decode b_Instr_registerCOf 1 = .ok (.bipush 15, 2) := by decide +kernel
theorem d_Instr_registerCOf_3 : decode b_Instr_registerCOf 3 = .ok (.ishr, 1) := by decide +kernel
theorem d_Instr_registerCOf_4 : decode b_Instr_registerCOf 4 = .ok (.bipush 31, 2) := by decide +kernel
theorem d_Instr_registerCOf_6 : decode b_Instr_registerCOf 6 = .ok (.iand, 1) := by decide +kernel
theorem d_Instr_registerCOf_7 : decode b_Instr_registerCOf 7 = .ok (.ireturn, 1) := by decide +kernel
theorem d_Math_min_0 : decode b_Math_min 0 = .ok (.iload_n 0, 1) := by decide +kernel
theorem d_Math_min_1 : decode b_Math_min 1 = .ok (.iload_n 1, 1) := by decide +kernel
theorem d_Math_min_2 : decode b_Math_min 2 = .ok (.if_icmp .gt 7, 3) := by decide +kernel
theorem d_Math_min_5 : decode b_Math_min 5 = .ok (.iload_n 0, 1) := by decide +kernel
theorem d_Math_min_6 : decode b_Math_min 6 = .ok (.goto 4, 3) := by decide +kernel
theorem d_Math_min_9 : decode b_Math_min 9 = .ok (.iload_n 1, 1) := by decide +kernel
theorem d_Math_min_10 : decode b_Math_min 10 = .ok (.ireturn, 1) := by decide +kernel
