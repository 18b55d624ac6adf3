theorem d_Linker_layOutSections_0 : decode b_Linker_layOutSections 0 = .ok (.iload_n 2, 1) := by decide +kernel
theorem d_Linker_layOutSections_1 : decode b_Linker_layOutSections 1 = .ok (.istore_n 3, 1) := by decide +kernel
theorem d_Linker_layOutSections_2 : decode b_Linker_layOutSections 2 = .ok (.iconst 0, 1) := by decide +kernel
theorem d_Linker_layOutSections_3 : decode b_Linker_layOutSections 3 = .ok (.istore 4, 2) := by decide +kernel
theorem d_Linker_layOutSections_5 : decode b_Linker_layOutSections 5 = .ok (.iload 4, 2) := by decide +kernel
theorem d_Linker_layOutSections_7 : decode b_Linker_layOutSections 7 = .ok (.iconst 4, 1) := by decide +kernel
theorem d_Linker_layOutSections_8 : decode b_Linker_layOutSections 8 = .ok (.if_icmp .ge 40, 3) := by decide +kernel
theorem d_Linker_layOutSections_11 : decode b_Linker_layOutSections 11 = .ok (.aload_n 0, 1) := by decide +kernel
theorem d_Linker_layOutSections_12 : decode b_Linker_layOutSections 12 = .ok (.getfield 18, 3) := by decide +kernel
theorem d_Linker_layOutSections_15 : decode b_Linker_layOutSections 15 = .ok (.iload_n 1, 1) := by decide +kernel
theorem d_Linker_layOutSections_16 : decode b_Linker_layOutSections 16 = .ok (.iconst 4, 1) := by decide +kernel
theorem d_Linker_layOutSections_17 : decode b_Linker_layOutSections 17 = .ok (.imul, 1) := by decide +kernel
theorem d_Linker_layOutSections_18 : decode b_Linker_layOutSections 18 = .ok (.iload 4, 2) := by decide +kernel
theorem d_Linker_layOutSections_20 : decode b_Linker_layOutSections 20 = .ok (.iadd, 1) := by decide +kernel
theorem d_Linker_layOutSections_21 : decode b_Linker_layOutSections 21 = .ok (.iload_n 3, 1) := by decide +kernel
theorem d_Linker_layOutSections_22 : decode b_Linker_layOutSections 22 = .ok (.iastore, 1) := by decide +kernel
theorem d_Linker_layOutSections_23 : decode b_Linker_layOutSections 23 = .ok (.iload_n 3, 1) := by decide +kernel
theorem d_Linker_layOutSections_24 : decode b_Linker_layOutSections 24 = .ok (.iconst 4, 1) := by decide +kernel
theorem d_Linker_layOutSections_25 : decode b_Linker_layOutSections 25 = .ok (.aload_n 0, 1) := by decide +kernel
theorem d_Linker_layOutSections_26 : decode b_Linker_layOutSections 26 = .ok (.getfield 11, 3) := by decide +kernel
theorem d_Linker_layOutSections_29 : decode b_Linker_layOutSections 29 = .ok (.iload 4, 2) := by decide +kernel
theorem d_Linker_layOutSections_31 : decode b_Linker_layOutSections 31 = .ok (.aaload, 1) := by decide +kernel
theorem d_Linker_layOutSections_32 : decode b_Linker_layOutSections 32 = .ok (.iload_n 1, 1) := by decide +kernel
theorem d_Linker_layOutSections_33 : decode b_Linker_layOutSections 33 = .ok (.invokevirtual 75, 3) := by decide +kernel
theorem d_Linker_layOutSections_36 : decode b_Linker_layOutSections 36 = .ok (.getfield 79, 3) := by decide +kernel
theorem d_Linker_layOutSections_39 : decode b_Linker_layOutSections 39 = .ok (.imul, 1) := by decide +kernel
theorem d_Linker_layOutSections_40 : decode b_Linker_layOutSections 40 = .ok (.iadd, 1) := by decide +kernel
theorem d_Linker_layOutSections_41 : decode b_Linker_layOutSections 41 = .ok (.istore_n 3, 1) := by decide +kernel
theorem d_Linker_layOutSections_42 : decode b_Linker_layOutSections 42 = .ok (.iinc 4 1, 3) := by decide +kernel
theorem d_Linker_layOutSections_45 : decode b_Linker_layOutSections 45 = .ok (.goto (-40), 3) := by decide +kernel
theorem d_Linker_layOutSections_48 : decode b_Linker_layOutSections 48 = .ok (.iload_n 3, 1) := by decide +kernel
theorem d_Linker_layOutSections_49 : decode b_Linker_layOutSections 49 = .ok (.ireturn, 1) := by decide +kernel
theorem d_Linker_layOut_0 : decode b_Linker_layOut 0 = .ok (.aload_n 0, 1) := by decide +kernel
theorem d_Linker_layOut_1 : decode b_Linker_layOut 1 = .ok (.iload_n 1, 1) := by decide +kernel
theorem d_Linker_layOut_2 : decode b_Linker_layOut 2 = .ok (.putfield 43, 3) := by decide +kernel
theorem d_Linker_layOut_5 : decode b_Linker_layOut 5 = .ok (.aload_n 0, 1) := by decide +kernel
theorem d_Linker_layOut_6 : decode b_Linker_layOut 6 = .ok (.aload_n 0, 1) := by decide +kernel
theorem d_Linker_layOut_7 : decode b_Linker_layOut 7 = .ok (.iconst 0, 1) := by decide +kernel
theorem d_Linker_layOut_8 : decode b_Linker_layOut 8 = .ok (.aload_n 0, 1) := by decide +kernel
theorem d_Linker_layOut_9 : decode b_Linker_layOut 9 = .ok (.getfield 43, 3) := by decide +kernel
theorem d_Linker_layOut_12 : decode b_Linker_layOut 12 = .ok (.invokevirtual 71, 3) := by decide +kernel
theorem d_Linker_layOut_15 : decode b_Linker_layOut 15 = .ok (.putfield 39, 3) := by decide +kernel
theorem d_Linker_layOut_18 : decode b_Linker_layOut 18 = .ok (.aload_n 0, 1) := by decide +kernel
theorem d_Linker_layOut_19 : decode b_Linker_layOut 19 = .ok (.aload_n 0, 1) := by decide +kernel
theorem d_Linker_layOut_20 : decode b_Linker_layOut 20 = .ok (.getfield 39, 3) := by decide +kernel
theorem d_Linker_layOut_23 : decode b_Linker_layOut 23 = .ok (.bipush 64, 2) := by decide +kernel
theorem d_Linker_layOut_25 : decode b_Linker_layOut 25 = .ok (.iadd, 1) := by decide +kernel
theorem d_Linker_layOut_26 : decode b_Linker_layOut 26 = .ok (.iconst 1, 1) := by decide +kernel
theorem d_Linker_layOut_27 : decode b_Linker_layOut 27 = .ok (.isub, 1) := by decide +kernel
theorem d_Linker_layOut_28 : decode b_Linker_layOut 28 = .ok (.bipush 64, 2) := by decide +kernel
theorem d_Linker_layOut_30 : decode b_Linker_layOut 30 = .ok (.idiv, 1) := by decide +kernel
theorem d_Linker_layOut_31 : decode b_Linker_layOut 31 = .ok (.bipush 64, 2) := by decide +kernel
theorem d_Linker_layOut_33 : decode b_Linker_layOut 33 = .ok (.imul, 1) := by decide +kernel
theorem d_Linker_layOut_34 : decode b_Linker_layOut 34 = .ok (.putfield 49, 3) := by decide +kernel
theorem d_Linker_layOut_37 : decode b_Linker_layOut 37 = .ok (.aload_n 0, 1) := by decide +kernel
theorem d_Linker_layOut_38 : decode b_Linker_layOut 38 = .ok (.aload_n 0, 1) := by decide +kernel
theorem d_Linker_layOut_39 : decode b_Linker_layOut 39 = .ok (.iconst 1, 1) := by decide +kernel
theorem d_Linker_layOut_40 : decode b_Linker_layOut 40 = .ok (.aload_n 0, 1) := by decide +kernel
theorem d_Linker_layOut_41 : decode b_Linker_layOut 41 = .ok (.getfield 49, 3) := by decide +kernel
theorem d_Linker_layOut_44 : decode b_Linker_layOut 44 = .ok (.invokevirtual 71, 3) := by decide +kernel
theorem d_Linker_layOut_47 : decode b_Linker_layOut 47 = .ok (.putfield 46, 3) := by decide +kernel
theorem d_Linker_layOut_50 : decode b_Linker_layOut 50 = .ok (.return_, 1) := by decide +kernel
theorem d_Linker_addressOf_0 : decode b_Linker_addressOf 0 = .ok (.aload_n 0, 1) := by decide +kernel
theorem d_Linker_addressOf_1 : decode b_Linker_addressOf 1 = .ok (.getfield 18, 3) := by decide +kernel
theorem d_Linker_addressOf_4 : decode b_Linker_addressOf 4 = .ok (.iload_n 2, 1) := by decide +kernel
theorem d_Linker_addressOf_5 : decode b_Linker_addressOf 5 = .ok (.iconst 4, 1) := by decide +kernel
theorem d_Linker_addressOf_6 : decode b_Linker_addressOf 6 = .ok (.imul, 1) := by decide +kernel
theorem d_Linker_addressOf_7 : decode b_Linker_addressOf 7 = .ok (.iload_n 1, 1) := by decide +kernel
theorem d_Linker_addressOf_8 : decode b_Linker_addressOf 8 = .ok (.iadd, 1) := by decide +kernel
theorem d_Linker_addressOf_9 : decode b_Linker_addressOf 9 = .ok (.iaload, 1) := by decide +kernel
theorem d_Linker_addressOf_10 : decode b_Linker_addressOf 10 = .ok (.iconst 4, 1) := by decide +kernel
theorem d_Linker_addressOf_11 : decode b_Linker_addressOf 11 = .ok (.iload_n 3, 1) := by decide +kernel
theorem d_Linker_addressOf_12 : decode b_Linker_addressOf 12 = .ok (.imul, 1) := by decide +kernel
theorem d_Linker_addressOf_13 : decode b_Linker_addressOf 13 = .ok (.iadd, 1) := by decide +kernel
theorem d_Linker_addressOf_14 : decode b_Linker_addressOf 14 = .ok (.ireturn, 1) := by decide +kernel
theorem d_Linker_definedAddress_0 : decode b_Linker_definedAddress 0 = .ok (.aload_n 0, 1) := by decide +kernel
theorem d_Linker_definedAddress_1 : decode b_Linker_definedAddress 1 = .ok (.iload_n 1, 1) := by decide +kernel
theorem d_Linker_definedAddress_2 : decode b_Linker_definedAddress 2 = .ok (.aload_n 0, 1) := by decide +kernel
theorem d_Linker_definedAddress_3 : decode b_Linker_definedAddress 3 = .ok (.getfield 11, 3) := by decide +kernel
theorem d_Linker_definedAddress_6 : decode b_Linker_definedAddress 6 = .ok (.iload_n 1, 1) := by decide +kernel
theorem d_Linker_definedAddress_7 : decode b_Linker_definedAddress 7 = .ok (.aaload, 1) := by decide +kernel
theorem d_Linker_definedAddress_8 : decode b_Linker_definedAddress 8 = .ok (.getfield 134, 3) := by decide +kernel
theorem d_Linker_definedAddress_11 : decode b_Linker_definedAddress 11 = .ok (.iload_n 2, 1) := by decide +kernel
theorem d_Linker_definedAddress_12 : decode b_Linker_definedAddress 12 = .ok (.iaload, 1) := by decide +kernel
theorem d_Linker_definedAddress_13 : decode b_Linker_definedAddress 13 = .ok (.aload_n 0, 1) := by decide +kernel
theorem d_Linker_definedAddress_14 : decode b_Linker_definedAddress 14 = .ok (.getfield 11, 3) := by decide +kernel
theorem d_Linker_definedAddress_17 : decode b_Linker_definedAddress 17 = .ok (.iload_n 1, 1) := by decide +kernel
theorem d_Linker_definedAddress_18 : decode b_Linker_definedAddress 18 = .ok (.aaload, 1) := by decide +kernel
theorem d_Linker_definedAddress_19 : decode b_Linker_definedAddress 19 = .ok (.getfield 137, 3) := by decide +kernel
theorem d_Linker_definedAddress_22 : decode b_Linker_definedAddress 22 = .ok (.iload_n 2, 1) := by decide +kernel
theorem d_Linker_definedAddress_23 : decode b_Linker_definedAddress 23 = .ok (.iaload, 1) := by decide +kernel
theorem d_Linker_definedAddress_24 : decode b_Linker_definedAddress 24 = .ok (.invokevirtual 140, 3) := by decide +kernel
theorem d_Linker_definedAddress_27 : decode b_Linker_definedAddress 27 = .ok (.ireturn, 1) := by decide +kernel
theorem d_Linker_findGlobals_0 : decode b_Linker_findGlobals 0 = .ok (.iconst 0, 1) := by decide +kernel
theorem d_Linker_findGlobals_1 : decode b_Linker_findGlobals 1 = .ok (.istore_n 1, 1) := by decide +kernel
theorem d_Linker_findGlobals_2 : decode b_Linker_findGlobals 2 = .ok (.iload_n 1, 1) := by decide +kernel
theorem d_Linker_findGlobals_3 : decode b_Linker_findGlobals 3 = .ok (.bipush 16, 2) := by decide +kernel
theorem d_Linker_findGlobals_5 : decode b_Linker_findGlobals 5 = .ok (.if_icmp .ge 57, 3) := by decide +kernel
theorem d_Linker_findGlobals_8 : decode b_Linker_findGlobals 8 = .ok (.aload_n 0, 1) := by decide +kernel
theorem d_Linker_findGlobals_9 : decode b_Linker_findGlobals 9 = .ok (.getfield 22, 3) := by decide +kernel
theorem d_Linker_findGlobals_12 : decode b_Linker_findGlobals 12 = .ok (.iload_n 1, 1) := by decide +kernel
theorem d_Linker_findGlobals_13 : decode b_Linker_findGlobals 13 = .ok (.iconst (-1), 1) := by decide +kernel
theorem d_Linker_findGlobals_14 : decode b_Linker_findGlobals 14 = .ok (.iastore, 1) := by decide +kernel
theorem d_Linker_findGlobals_15 : decode b_Linker_findGlobals 15 = .ok (.iconst 0, 1) := by decide +kernel
theorem d_Linker_findGlobals_16 : decode b_Linker_findGlobals 16 = .ok (.istore_n 2, 1) := by decide +kernel
theorem d_Linker_findGlobals_17 : decode b_Linker_findGlobals 17 = .ok (.iload_n 2, 1) := by decide +kernel
theorem d_Linker_findGlobals_18 : decode b_Linker_findGlobals 18 = .ok (.iconst 4, 1) := by decide +kernel
theorem d_Linker_findGlobals_19 : decode b_Linker_findGlobals 19 = .ok (.if_icmp .ge 37, 3) := by decide +kernel
theorem d_Linker_findGlobals_22 : decode b_Linker_findGlobals 22 = .ok (.aload_n 0, 1) := by decide +kernel
theorem d_Linker_findGlobals_23 : decode b_Linker_findGlobals 23 = .ok (.getfield 11, 3) := by decide +kernel
theorem d_Linker_findGlobals_26 : decode b_Linker_findGlobals 26 = .ok (.iload_n 2, 1) := by decide +kernel
theorem d_Linker_findGlobals_27 : decode b_Linker_findGlobals 27 = .ok (.aaload, 1) := by decide +kernel
theorem d_Linker_findGlobals_28 : decode b_Linker_findGlobals 28 = .ok (.iload_n 1, 1) := by decide +kernel
theorem d_Linker_findGlobals_29 : decode b_Linker_findGlobals 29 = .ok (.invokevirtual 84, 3) := by decide +kernel
theorem d_Linker_findGlobals_32 : decode b_Linker_findGlobals 32 = .ok (.istore_n 3, 1) := by decide +kernel
theorem d_Linker_findGlobals_33 : decode b_Linker_findGlobals 33 = .ok (.iload_n 3, 1) := by decide +kernel
theorem d_Linker_findGlobals_34 : decode b_Linker_findGlobals 34 = .ok (.iconst (-1), 1) := by decide +kernel
theorem d_Linker_findGlobals_35 : decode b_Linker_findGlobals 35 = .ok (.if_icmp .eq 15, 3) := by decide +kernel
theorem d_Linker_findGlobals_38 : decode b_Linker_findGlobals 38 = .ok (.aload_n 0, 1) := by decide +kernel
theorem d_Linker_findGlobals_39 : decode b_Linker_findGlobals 39 = .ok (.getfield 22, 3) := by decide +kernel
theorem d_Linker_findGlobals_42 : decode b_Linker_findGlobals 42 = .ok (.iload_n 1, 1) := by decide +kernel
theorem d_Linker_findGlobals_43 : decode b_Linker_findGlobals 43 = .ok (.aload_n 0, 1) := by decide +kernel
theorem d_Linker_findGlobals_44 : decode b_Linker_findGlobals 44 = .ok (.iload_n 2, 1) := by decide +kernel
theorem d_Linker_findGlobals_45 : decode b_Linker_findGlobals 45 = .ok (.iload_n 3, 1) := by decide +kernel
theorem d_Linker_findGlobals_46 : decode b_Linker_findGlobals 46 = .ok (.invokevirtual 87, 3) := by decide +kernel
theorem d_Linker_findGlobals_49 : decode b_Linker_findGlobals 49 = .ok (.iastore, 1) := by decide +kernel
theorem d_Linker_findGlobals_50 : decode b_Linker_findGlobals 50 = .ok (.iinc 2 1, 3) := by decide +kernel
theorem d_Linker_findGlobals_53 : decode b_Linker_findGlobals 53 = .ok (.goto (-36), 3) := by decide +kernel
theorem d_Linker_findGlobals_56 : decode b_Linker_findGlobals 56 = .ok (.iinc 1 1, 3) := by decide +kernel
theorem d_Linker_findGlobals_59 : decode b_Linker_findGlobals 59 = .ok (.goto (-57), 3) := by decide +kernel
theorem d_Linker_findGlobals_62 : decode b_Linker_findGlobals 62 = .ok (.return_, 1) := by decide +kernel
theorem d_Linker_isDoubled_0 : decode b_Linker_isDoubled 0 = .ok (.iconst 0, 1) := by decide +kernel
theorem d_Linker_isDoubled_1 : decode b_Linker_isDoubled 1 = .ok (.istore_n 2, 1) := by decide +kernel
theorem d_Linker_isDoubled_2 : decode b_Linker_isDoubled 2 = .ok (.iconst 0, 1) := by decide +kernel
theorem d_Linker_isDoubled_3 : decode b_Linker_isDoubled 3 = .ok (.istore_n 3, 1) := by decide +kernel
theorem d_Linker_isDoubled_4 : decode b_Linker_isDoubled 4 = .ok (.iload_n 3, 1) := by decide +kernel
theorem d_Linker_isDoubled_5 : decode b_Linker_isDoubled 5 = .ok (.iconst 4, 1) := by decide +kernel
theorem d_Linker_isDoubled_6 : decode b_Linker_isDoubled 6 = .ok (.if_icmp .ge 42, 3) := by decide +kernel
theorem d_Linker_isDoubled_9 : decode b_Linker_isDoubled 9 = .ok (.aload_n 0, 1) := by decide +kernel
theorem d_Linker_isDoubled_10 : decode b_Linker_isDoubled 10 = .ok (.getfield 11, 3) := by decide +kernel
theorem d_Linker_isDoubled_13 : decode b_Linker_isDoubled 13 = .ok (.iload_n 3, 1) := by decide +kernel
theorem d_Linker_isDoubled_14 : decode b_Linker_isDoubled 14 = .ok (.aaload, 1) := by decide +kernel
theorem d_Linker_isDoubled_15 : decode b_Linker_isDoubled 15 = .ok (.iload_n 1, 1) := by decide +kernel
theorem d_Linker_isDoubled_16 : decode b_Linker_isDoubled 16 = .ok (.invokevirtual 104, 3) := by decide +kernel
theorem d_Linker_isDoubled_19 : decode b_Linker_isDoubled 19 = .ok (.iconst 1, 1) := by decide +kernel
theorem d_Linker_isDoubled_20 : decode b_Linker_isDoubled 20 = .ok (.if_icmp .le 5, 3) := by decide +kernel
theorem d_Linker_isDoubled_23 : decode b_Linker_isDoubled 23 = .ok (.iconst 1, 1) := by decide +kernel
theorem d_Linker_isDoubled_24 : decode b_Linker_isDoubled 24 = .ok (.ireturn, 1) := by decide +kernel
theorem d_Linker_isDoubled_25 : decode b_Linker_isDoubled 25 = .ok (.aload_n 0, 1) := by decide +kernel
theorem d_Linker_isDoubled_26 : decode b_Linker_isDoubled 26 = .ok (.getfield 11, 3) := by decide +kernel
theorem d_Linker_isDoubled_29 : decode b_Linker_isDoubled 29 = .ok (.iload_n 3, 1) := by decide +kernel
theorem d_Linker_isDoubled_30 : decode b_Linker_isDoubled 30 = .ok (.aaload, 1) := by decide +kernel
theorem d_Linker_isDoubled_31 : decode b_Linker_isDoubled 31 = .ok (.iload_n 1, 1) := by decide +kernel
theorem d_Linker_isDoubled_32 : decode b_Linker_isDoubled 32 = .ok (.invokevirtual 84, 3) := by decide +kernel
theorem d_Linker_isDoubled_35 : decode b_Linker_isDoubled 35 = .ok (.iconst (-1), 1) := by decide +kernel
theorem d_Linker_isDoubled_36 : decode b_Linker_isDoubled 36 = .ok (.if_icmp .eq 6, 3) := by decide +kernel
theorem d_Linker_isDoubled_39 : decode b_Linker_isDoubled 39 = .ok (.iinc 2 1, 3) := by decide +kernel
theorem d_Linker_isDoubled_42 : decode b_Linker_isDoubled 42 = .ok (.iinc 3 1, 3) := by decide +kernel
theorem d_Linker_isDoubled_45 : decode b_Linker_isDoubled 45 = .ok (.goto (-41), 3) := by decide +kernel
theorem d_Linker_isDoubled_48 : decode b_Linker_isDoubled 48 = .ok (.iload_n 2, 1) := by decide +kernel
theorem d_Linker_isDoubled_49 : decode b_Linker_isDoubled 49 = .ok (.iconst 1, 1) := by decide +kernel
theorem d_Linker_isDoubled_50 : decode b_Linker_isDoubled 50 = .ok (.if_icmp .le 7, 3) := by decide +kernel
theorem d_Linker_isDoubled_53 : decode b_Linker_isDoubled 53 = .ok (.iconst 1, 1) := by decide +kernel
theorem d_Linker_isDoubled_54 : decode b_Linker_isDoubled 54 = .ok (.goto 4, 3) := by decide +kernel
theorem d_Linker_isDoubled_57 : decode b_Linker_isDoubled 57 = .ok (.iconst 0, 1) := by decide +kernel
theorem d_Linker_isDoubled_58 : decode b_Linker_isDoubled 58 = .ok (.ireturn, 1) := by decide +kernel
theorem d_Linker_leastDoubledName_0 : decode b_Linker_leastDoubledName 0 = .ok (.iconst 0, 1) := by decide +kernel
theorem d_Linker_leastDoubledName_1 : decode b_Linker_leastDoubledName 1 = .ok (.istore_n 1, 1) := by decide +kernel
theorem d_Linker_leastDoubledName_2 : decode b_Linker_leastDoubledName 2 = .ok (.iload_n 1, 1) := by decide +kernel
theorem d_Linker_leastDoubledName_3 : decode b_Linker_leastDoubledName 3 = .ok (.bipush 16, 2) := by decide +kernel
theorem d_Linker_leastDoubledName_5 : decode b_Linker_leastDoubledName 5 = .ok (.if_icmp .ge 19, 3) := by decide +kernel
theorem d_Linker_leastDoubledName_8 : decode b_Linker_leastDoubledName 8 = .ok (.aload_n 0, 1) := by decide +kernel
theorem d_Linker_leastDoubledName_9 : decode b_Linker_leastDoubledName 9 = .ok (.iload_n 1, 1) := by decide +kernel
theorem d_Linker_leastDoubledName_10 : decode b_Linker_leastDoubledName 10 = .ok (.invokevirtual 100, 3) := by decide +kernel
theorem d_Linker_leastDoubledName_13 : decode b_Linker_leastDoubledName 13 = .ok (.ifCond .eq 5, 3) := by decide +kernel
theorem d_Linker_leastDoubledName_16 : decode b_Linker_leastDoubledName 16 = .ok (.iload_n 1, 1) := by decide +kernel
theorem d_Linker_leastDoubledName_17 : decode b_Linker_leastDoubledName 17 = .ok (.ireturn, 1) := by decide +kernel
theorem d_Linker_leastDoubledName_18 : decode b_Linker_leastDoubledName 18 = .ok (.iinc 1 1, 3) := by decide +kernel
theorem d_Linker_leastDoubledName_21 : decode b_Linker_leastDoubledName 21 = .ok (.goto (-19), 3) := by decide +kernel
theorem d_Linker_leastDoubledName_24 : decode b_Linker_leastDoubledName 24 = .ok (.iconst (-1), 1) := by decide +kernel
theorem d_Linker_leastDoubledName_25 : decode b_Linker_leastDoubledName 25 = .ok (.ireturn, 1) := by decide +kernel
theorem d_Linker_addressFor_0 : decode b_Linker_addressFor 0 = .ok (.aload_n 0, 1) := by decide +kernel
theorem d_Linker_addressFor_1 : decode b_Linker_addressFor 1 = .ok (.getfield 11, 3) := by decide +kernel
theorem d_Linker_addressFor_4 : decode b_Linker_addressFor 4 = .ok (.iload_n 1, 1) := by decide +kernel
theorem d_Linker_addressFor_5 : decode b_Linker_addressFor 5 = .ok (.aaload, 1) := by decide +kernel
theorem d_Linker_addressFor_6 : decode b_Linker_addressFor 6 = .ok (.iload_n 2, 1) := by decide +kernel
theorem d_Linker_addressFor_7 : decode b_Linker_addressFor 7 = .ok (.invokevirtual 131, 3) := by decide +kernel
theorem d_Linker_addressFor_10 : decode b_Linker_addressFor 10 = .ok (.istore_n 3, 1) := by decide +kernel
theorem d_Linker_addressFor_11 : decode b_Linker_addressFor 11 = .ok (.iload_n 3, 1) := by decide +kernel
theorem d_Linker_addressFor_12 : decode b_Linker_addressFor 12 = .ok (.iconst (-1), 1) := by decide +kernel
theorem d_Linker_addressFor_13 : decode b_Linker_addressFor 13 = .ok (.if_icmp .ne 12, 3) := by decide +kernel
theorem d_Linker_addressFor_16 : decode b_Linker_addressFor 16 = .ok (.aload_n 0, 1) := by decide +kernel
theorem d_Linker_addressFor_17 : decode b_Linker_addressFor 17 = .ok (.getfield 22, 3) := by decide +kernel
theorem d_Linker_addressFor_20 : decode b_Linker_addressFor 20 = .ok (.iload_n 2, 1) := by decide +kernel
theorem d_Linker_addressFor_21 : decode b_Linker_addressFor 21 = .ok (.iaload, 1) := by decide +kernel
theorem d_Linker_addressFor_22 : decode b_Linker_addressFor 22 = .ok (.goto 9, 3) := by decide +kernel
theorem d_Linker_addressFor_25 : decode b_Linker_addressFor 25 = .ok (.aload_n 0, 1) := by decide +kernel
theorem d_Linker_addressFor_26 : decode b_Linker_addressFor 26 = .ok (.iload_n 1, 1) := by decide +kernel
theorem d_Linker_addressFor_27 : decode b_Linker_addressFor 27 = .ok (.iload_n 3, 1) := by decide +kernel
theorem d_Linker_addressFor_28 : decode b_Linker_addressFor 28 = .ok (.invokevirtual 87, 3) := by decide +kernel
theorem d_Linker_addressFor_31 : decode b_Linker_addressFor 31 = .ok (.ireturn, 1) := by decide +kernel
theorem d_Linker_firstNamelessFix_0 : decode b_Linker_firstNamelessFix 0 = .ok (.iconst 0, 1) := by decide +kernel
theorem d_Linker_firstNamelessFix_1 : decode b_Linker_firstNamelessFix 1 = .ok (.istore_n 1, 1) := by decide +kernel
theorem d_Linker_firstNamelessFix_2 : decode b_Linker_firstNamelessFix 2 = .ok (.iload_n 1, 1) := by decide +kernel
theorem d_Linker_firstNamelessFix_3 : decode b_Linker_firstNamelessFix 3 = .ok (.iconst 4, 1) := by decide +kernel
theorem d_Linker_firstNamelessFix_4 : decode b_Linker_firstNamelessFix 4 = .ok (.if_icmp .ge 57, 3) := by decide +kernel
theorem d_Linker_firstNamelessFix_7 : decode b_Linker_firstNamelessFix 7 = .ok (.iconst 0, 1) := by decide +kernel
theorem d_Linker_firstNamelessFix_8 : decode b_Linker_firstNamelessFix 8 = .ok (.istore_n 2, 1) := by decide +kernel
theorem d_Linker_firstNamelessFix_9 : decode b_Linker_firstNamelessFix 9 = .ok (.iload_n 2, 1) := by decide +kernel
theorem d_Linker_firstNamelessFix_10 : decode b_Linker_firstNamelessFix 10 = .ok (.aload_n 0, 1) := by decide +kernel
theorem d_Linker_firstNamelessFix_11 : decode b_Linker_firstNamelessFix 11 = .ok (.getfield 11, 3) := by decide +kernel
theorem d_Linker_firstNamelessFix_14 : decode b_Linker_firstNamelessFix 14 = .ok (.iload_n 1, 1) := by decide +kernel
theorem d_Linker_firstNamelessFix_15 : decode b_Linker_firstNamelessFix 15 = .ok (.aaload, 1) := by decide +kernel
theorem d_Linker_firstNamelessFix_16 : decode b_Linker_firstNamelessFix 16 = .ok (.getfield 107, 3) := by decide +kernel
theorem d_Linker_firstNamelessFix_19 : decode b_Linker_firstNamelessFix 19 = .ok (.if_icmp .ge 36, 3) := by decide +kernel
theorem d_Linker_firstNamelessFix_22 : decode b_Linker_firstNamelessFix 22 = .ok (.aload_n 0, 1) := by decide +kernel
theorem d_Linker_firstNamelessFix_23 : decode b_Linker_firstNamelessFix 23 = .ok (.iload_n 1, 1) := by decide +kernel
theorem d_Linker_firstNamelessFix_24 : decode b_Linker_firstNamelessFix 24 = .ok (.aload_n 0, 1) := by decide +kernel
theorem d_Linker_firstNamelessFix_25 : decode b_Linker_firstNamelessFix 25 = .ok (.getfield 11, 3) := by decide +kernel
theorem d_Linker_firstNamelessFix_28 : decode b_Linker_firstNamelessFix 28 = .ok (.iload_n 1, 1) := by decide +kernel
theorem d_Linker_firstNamelessFix_29 : decode b_Linker_firstNamelessFix 29 = .ok (.aaload, 1) := by decide +kernel
theorem d_Linker_firstNamelessFix_30 : decode b_Linker_firstNamelessFix 30 = .ok (.getfield 110, 3) := by decide +kernel
theorem d_Linker_firstNamelessFix_33 : decode b_Linker_firstNamelessFix 33 = .ok (.iload_n 2, 1) := by decide +kernel
theorem d_Linker_firstNamelessFix_34 : decode b_Linker_firstNamelessFix 34 = .ok (.iaload, 1) := by decide +kernel
theorem d_Linker_firstNamelessFix_35 : decode b_Linker_firstNamelessFix 35 = .ok (.invokevirtual 113, 3) := by decide +kernel
theorem d_Linker_firstNamelessFix_38 : decode b_Linker_firstNamelessFix 38 = .ok (.iconst (-1), 1) := by decide +kernel
theorem d_Linker_firstNamelessFix_39 : decode b_Linker_firstNamelessFix 39 = .ok (.if_icmp .ne 10, 3) := by decide +kernel
theorem d_Linker_firstNamelessFix_42 : decode b_Linker_firstNamelessFix 42 = .ok (.bipush 100, 2) := by decide +kernel
theorem d_Linker_firstNamelessFix_44 : decode b_Linker_firstNamelessFix 44 = .ok (.iload_n 1, 1) := by decide +kernel
theorem d_Linker_firstNamelessFix_45 : decode b_Linker_firstNamelessFix 45 = .ok (.imul, 1) := by decide +kernel
theorem d_Linker_firstNamelessFix_46 : decode b_Linker_firstNamelessFix 46 = .ok (.iload_n 2, 1) := by decide +kernel
theorem d_Linker_firstNamelessFix_47 : decode b_Linker_firstNamelessFix 47 = .ok (.iadd, 1) := by decide +kernel
theorem d_Linker_firstNamelessFix_48 : decode b_Linker_firstNamelessFix 48 = .ok (.ireturn, 1) := by decide +kernel
theorem d_Linker_firstNamelessFix_49 : decode b_Linker_firstNamelessFix 49 = .ok (.iinc 2 1, 3) := by decide +kernel
theorem d_Linker_firstNamelessFix_52 : decode b_Linker_firstNamelessFix 52 = .ok (.goto (-43), 3) := by decide +kernel
theorem d_Linker_firstNamelessFix_55 : decode b_Linker_firstNamelessFix 55 = .ok (.iinc 1 1, 3) := by decide +kernel
theorem d_Linker_firstNamelessFix_58 : decode b_Linker_firstNamelessFix 58 = .ok (.goto (-56), 3) := by decide +kernel
theorem d_Linker_firstNamelessFix_61 : decode b_Linker_firstNamelessFix 61 = .ok (.iconst (-1), 1) := by decide +kernel
theorem d_Linker_firstNamelessFix_62 : decode b_Linker_firstNamelessFix 62 = .ok (.ireturn, 1) := by decide +kernel
theorem d_Linker_fixValue_0 : decode b_Linker_fixValue 0 = .ok (.aload_n 0, 1) := by decide +kernel
theorem d_Linker_fixValue_1 : decode b_Linker_fixValue 1 = .ok (.iload_n 1, 1) := by decide +kernel
theorem d_Linker_fixValue_2 : decode b_Linker_fixValue 2 = .ok (.aload_n 0, 1) := by decide +kernel
theorem d_Linker_fixValue_3 : decode b_Linker_fixValue 3 = .ok (.getfield 11, 3) := by decide +kernel
theorem d_Linker_fixValue_6 : decode b_Linker_fixValue 6 = .ok (.iload_n 1, 1) := by decide +kernel
theorem d_Linker_fixValue_7 : decode b_Linker_fixValue 7 = .ok (.aaload, 1) := by decide +kernel
theorem d_Linker_fixValue_8 : decode b_Linker_fixValue 8 = .ok (.getfield 110, 3) := by decide +kernel
theorem d_Linker_fixValue_11 : decode b_Linker_fixValue 11 = .ok (.iload_n 2, 1) := by decide +kernel
theorem d_Linker_fixValue_12 : decode b_Linker_fixValue 12 = .ok (.iaload, 1) := by decide +kernel
theorem d_Linker_fixValue_13 : decode b_Linker_fixValue 13 = .ok (.invokevirtual 113, 3) := by decide +kernel
theorem d_Linker_fixValue_16 : decode b_Linker_fixValue 16 = .ok (.aload_n 0, 1) := by decide +kernel
theorem d_Linker_fixValue_17 : decode b_Linker_fixValue 17 = .ok (.getfield 11, 3) := by decide +kernel
theorem d_Linker_fixValue_20 : decode b_Linker_fixValue 20 = .ok (.iload_n 1, 1) := by decide +kernel
theorem d_Linker_fixValue_21 : decode b_Linker_fixValue 21 = .ok (.aaload, 1) := by decide +kernel
theorem d_Linker_fixValue_22 : decode b_Linker_fixValue 22 = .ok (.getfield 150, 3) := by decide +kernel
theorem d_Linker_fixValue_25 : decode b_Linker_fixValue 25 = .ok (.iload_n 2, 1) := by decide +kernel
theorem d_Linker_fixValue_26 : decode b_Linker_fixValue 26 = .ok (.iaload, 1) := by decide +kernel
theorem d_Linker_fixValue_27 : decode b_Linker_fixValue 27 = .ok (.iadd, 1) := by decide +kernel
theorem d_Linker_fixValue_28 : decode b_Linker_fixValue 28 = .ok (.ireturn, 1) := by decide +kernel
theorem d_Linker_fixAddress_0 : decode b_Linker_fixAddress 0 = .ok (.aload_n 0, 1) := by decide +kernel
theorem d_Linker_fixAddress_1 : decode b_Linker_fixAddress 1 = .ok (.iload_n 1, 1) := by decide +kernel
theorem d_Linker_fixAddress_2 : decode b_Linker_fixAddress 2 = .ok (.aload_n 0, 1) := by decide +kernel
theorem d_Linker_fixAddress_3 : decode b_Linker_fixAddress 3 = .ok (.getfield 11, 3) := by decide +kernel
theorem d_Linker_fixAddress_6 : decode b_Linker_fixAddress 6 = .ok (.iload_n 1, 1) := by decide +kernel
theorem d_Linker_fixAddress_7 : decode b_Linker_fixAddress 7 = .ok (.aaload, 1) := by decide +kernel
theorem d_Linker_fixAddress_8 : decode b_Linker_fixAddress 8 = .ok (.getfield 144, 3) := by decide +kernel
theorem d_Linker_fixAddress_11 : decode b_Linker_fixAddress 11 = .ok (.iload_n 2, 1) := by decide +kernel
theorem d_Linker_fixAddress_12 : decode b_Linker_fixAddress 12 = .ok (.iaload, 1) := by decide +kernel
theorem d_Linker_fixAddress_13 : decode b_Linker_fixAddress 13 = .ok (.aload_n 0, 1) := by decide +kernel
theorem d_Linker_fixAddress_14 : decode b_Linker_fixAddress 14 = .ok (.getfield 11, 3) := by decide +kernel
theorem d_Linker_fixAddress_17 : decode b_Linker_fixAddress 17 = .ok (.iload_n 1, 1) := by decide +kernel
theorem d_Linker_fixAddress_18 : decode b_Linker_fixAddress 18 = .ok (.aaload, 1) := by decide +kernel
theorem d_Linker_fixAddress_19 : decode b_Linker_fixAddress 19 = .ok (.getfield 147, 3) := by decide +kernel
theorem d_Linker_fixAddress_22 : decode b_Linker_fixAddress 22 = .ok (.iload_n 2, 1) := by decide +kernel
theorem d_Linker_fixAddress_23 : decode b_Linker_fixAddress 23 = .ok (.iaload, 1) := by decide +kernel
theorem d_Linker_fixAddress_24 : decode b_Linker_fixAddress 24 = .ok (.invokevirtual 140, 3) := by decide +kernel
theorem d_Linker_fixAddress_27 : decode b_Linker_fixAddress 27 = .ok (.ireturn, 1) := by decide +kernel
theorem d_Linker_firstFixOutOfReach_0 : decode b_Linker_firstFixOutOfReach 0 = .ok (.iconst 0, 1) := by decide +kernel
theorem d_Linker_firstFixOutOfReach_1 : decode b_Linker_firstFixOutOfReach 1 = .ok (.istore_n 1, 1) := by decide +kernel
theorem d_Linker_firstFixOutOfReach_2 : decode b_Linker_firstFixOutOfReach 2 = .ok (.iload_n 1, 1) := by decide +kernel
theorem d_Linker_firstFixOutOfReach_3 : decode b_Linker_firstFixOutOfReach 3 = .ok (.iconst 4, 1) := by decide +kernel
theorem d_Linker_firstFixOutOfReach_4 : decode b_Linker_firstFixOutOfReach 4 = .ok (.if_icmp .ge 69, 3) := by decide +kernel
theorem d_Linker_firstFixOutOfReach_7 : decode b_Linker_firstFixOutOfReach 7 = .ok (.iconst 0, 1) := by decide +kernel
theorem d_Linker_firstFixOutOfReach_8 : decode b_Linker_firstFixOutOfReach 8 = .ok (.istore_n 2, 1) := by decide +kernel
theorem d_Linker_firstFixOutOfReach_9 : decode b_Linker_firstFixOutOfReach 9 = .ok (.iload_n 2, 1) := by decide +kernel
theorem d_Linker_firstFixOutOfReach_10 : decode b_Linker_firstFixOutOfReach 10 = .ok (.aload_n 0, 1) := by decide +kernel
theorem d_Linker_firstFixOutOfReach_11 : decode b_Linker_firstFixOutOfReach 11 = .ok (.getfield 11, 3) := by decide +kernel
theorem d_Linker_firstFixOutOfReach_14 : decode b_Linker_firstFixOutOfReach 14 = .ok (.iload_n 1, 1) := by decide +kernel
theorem d_Linker_firstFixOutOfReach_15 : decode b_Linker_firstFixOutOfReach 15 = .ok (.aaload, 1) := by decide +kernel
theorem d_Linker_firstFixOutOfReach_16 : decode b_Linker_firstFixOutOfReach 16 = .ok (.getfield 107, 3) := by decide +kernel
theorem d_Linker_firstFixOutOfReach_19 : decode b_Linker_firstFixOutOfReach 19 = .ok (.if_icmp .ge 48, 3) := by decide +kernel
theorem d_Linker_firstFixOutOfReach_22 : decode b_Linker_firstFixOutOfReach 22 = .ok (.aload_n 0, 1) := by decide +kernel
theorem d_Linker_firstFixOutOfReach_23 : decode b_Linker_firstFixOutOfReach 23 = .ok (.iload_n 1, 1) := by decide +kernel
theorem d_Linker_firstFixOutOfReach_24 : decode b_Linker_firstFixOutOfReach 24 = .ok (.iload_n 2, 1) := by decide +kernel
theorem d_Linker_firstFixOutOfReach_25 : decode b_Linker_firstFixOutOfReach 25 = .ok (.invokevirtual 116, 3) := by decide +kernel
theorem d_Linker_firstFixOutOfReach_28 : decode b_Linker_firstFixOutOfReach 28 = .ok (.aload_n 0, 1) := by decide +kernel
theorem d_Linker_firstFixOutOfReach_29 : decode b_Linker_firstFixOutOfReach 29 = .ok (.iload_n 1, 1) := by decide +kernel
theorem d_Linker_firstFixOutOfReach_30 : decode b_Linker_firstFixOutOfReach 30 = .ok (.iload_n 2, 1) := by decide +kernel
theorem d_Linker_firstFixOutOfReach_31 : decode b_Linker_firstFixOutOfReach 31 = .ok (.invokevirtual 119, 3) := by decide +kernel
theorem d_Linker_firstFixOutOfReach_34 : decode b_Linker_firstFixOutOfReach 34 = .ok (.isub, 1) := by decide +kernel
theorem d_Linker_firstFixOutOfReach_35 : decode b_Linker_firstFixOutOfReach 35 = .ok (.istore_n 3, 1) := by decide +kernel
theorem d_Linker_firstFixOutOfReach_36 : decode b_Linker_firstFixOutOfReach 36 = .ok (.aload_n 0, 1) := by decide +kernel
theorem d_Linker_firstFixOutOfReach_37 : decode b_Linker_firstFixOutOfReach 37 = .ok (.getfield 11, 3) := by decide +kernel
theorem d_Linker_firstFixOutOfReach_40 : decode b_Linker_firstFixOutOfReach 40 = .ok (.iload_n 1, 1) := by decide +kernel
theorem d_Linker_firstFixOutOfReach_41 : decode b_Linker_firstFixOutOfReach 41 = .ok (.aaload, 1) := by decide +kernel
theorem d_Linker_firstFixOutOfReach_42 : decode b_Linker_firstFixOutOfReach 42 = .ok (.getfield 122, 3) := by decide +kernel
theorem d_Linker_firstFixOutOfReach_45 : decode b_Linker_firstFixOutOfReach 45 = .ok (.iload_n 2, 1) := by decide +kernel
theorem d_Linker_firstFixOutOfReach_46 : decode b_Linker_firstFixOutOfReach 46 = .ok (.iaload, 1) := by decide +kernel
theorem d_Linker_firstFixOutOfReach_47 : decode b_Linker_firstFixOutOfReach 47 = .ok (.iload_n 3, 1) := by decide +kernel
theorem d_Linker_firstFixOutOfReach_48 : decode b_Linker_firstFixOutOfReach 48 = .ok (.invokestatic 125, 3) := by decide +kernel
theorem d_Linker_firstFixOutOfReach_51 : decode b_Linker_firstFixOutOfReach 51 = .ok (.ifCond .ne 10, 3) := by decide +kernel
theorem d_Linker_firstFixOutOfReach_54 : decode b_Linker_firstFixOutOfReach 54 = .ok (.bipush 100, 2) := by decide +kernel
theorem d_Linker_firstFixOutOfReach_56 : decode b_Linker_firstFixOutOfReach 56 = .ok (.iload_n 1, 1) := by decide +kernel
theorem d_Linker_firstFixOutOfReach_57 : decode b_Linker_firstFixOutOfReach 57 = .ok (.imul, 1) := by decide +kernel
theorem d_Linker_firstFixOutOfReach_58 : decode b_Linker_firstFixOutOfReach 58 = .ok (.iload_n 2, 1) := by decide +kernel
theorem d_Linker_firstFixOutOfReach_59 : decode b_Linker_firstFixOutOfReach 59 = .ok (.iadd, 1) := by decide +kernel
theorem d_Linker_firstFixOutOfReach_60 : decode b_Linker_firstFixOutOfReach 60 = .ok (.ireturn, 1) := by decide +kernel
theorem d_Linker_firstFixOutOfReach_61 : decode b_Linker_firstFixOutOfReach 61 = .ok (.iinc 2 1, 3) := by decide +kernel
theorem d_Linker_firstFixOutOfReach_64 : decode b_Linker_firstFixOutOfReach 64 = .ok (.goto (-55), 3) := by decide +kernel
theorem d_Linker_firstFixOutOfReach_67 : decode b_Linker_firstFixOutOfReach 67 = .ok (.iinc 1 1, 3) := by decide +kernel
theorem d_Linker_firstFixOutOfReach_70 : decode b_Linker_firstFixOutOfReach 70 = .ok (.goto (-68), 3) := by decide +kernel
theorem d_Linker_firstFixOutOfReach_73 : decode b_Linker_firstFixOutOfReach 73 = .ok (.iconst (-1), 1) := by decide +kernel
theorem d_Linker_firstFixOutOfReach_74 : decode b_Linker_firstFixOutOfReach 74 = .ok (.ireturn, 1) := by decide +kernel
theorem d_Linker_refusalOf_0 : decode b_Linker_refusalOf 0 = .ok (.aload_n 0, 1) := by decide +kernel
theorem d_Linker_refusalOf_1 : decode b_Linker_refusalOf 1 = .ok (.invokevirtual 90, 3) := by decide +kernel
theorem d_Linker_refusalOf_4 : decode b_Linker_refusalOf 4 = .ok (.istore_n 2, 1) := by decide +kernel
theorem d_Linker_refusalOf_5 : decode b_Linker_refusalOf 5 = .ok (.iload_n 2, 1) := by decide +kernel
theorem d_Linker_refusalOf_6 : decode b_Linker_refusalOf 6 = .ok (.iconst (-1), 1) := by decide +kernel
theorem d_Linker_refusalOf_7 : decode b_Linker_refusalOf 7 = .ok (.if_icmp .eq 9, 3) := by decide +kernel
theorem d_Linker_refusalOf_10 : decode b_Linker_refusalOf 10 = .ok (.sipush (-1000), 3) := by decide +kernel
theorem d_Linker_refusalOf_13 : decode b_Linker_refusalOf 13 = .ok (.iload_n 2, 1) := by decide +kernel
theorem d_Linker_refusalOf_14 : decode b_Linker_refusalOf 14 = .ok (.isub, 1) := by decide +kernel
theorem d_Linker_refusalOf_15 : decode b_Linker_refusalOf 15 = .ok (.ireturn, 1) := by decide +kernel
theorem d_Linker_refusalOf_16 : decode b_Linker_refusalOf 16 = .ok (.aload_n 0, 1) := by decide +kernel
theorem d_Linker_refusalOf_17 : decode b_Linker_refusalOf 17 = .ok (.invokevirtual 94, 3) := by decide +kernel
theorem d_Linker_refusalOf_20 : decode b_Linker_refusalOf 20 = .ok (.istore_n 3, 1) := by decide +kernel
theorem d_Linker_refusalOf_21 : decode b_Linker_refusalOf 21 = .ok (.iload_n 3, 1) := by decide +kernel
theorem d_Linker_refusalOf_22 : decode b_Linker_refusalOf 22 = .ok (.iconst (-1), 1) := by decide +kernel
theorem d_Linker_refusalOf_23 : decode b_Linker_refusalOf 23 = .ok (.if_icmp .eq 9, 3) := by decide +kernel
theorem d_Linker_refusalOf_26 : decode b_Linker_refusalOf 26 = .ok (.sipush (-2000), 3) := by decide +kernel
theorem d_Linker_refusalOf_29 : decode b_Linker_refusalOf 29 = .ok (.iload_n 3, 1) := by decide +kernel
theorem d_Linker_refusalOf_30 : decode b_Linker_refusalOf 30 = .ok (.isub, 1) := by decide +kernel
theorem d_Linker_refusalOf_31 : decode b_Linker_refusalOf 31 = .ok (.ireturn, 1) := by decide +kernel
theorem d_Linker_refusalOf_32 : decode b_Linker_refusalOf 32 = .ok (.aload_n 0, 1) := by decide +kernel
theorem d_Linker_refusalOf_33 : decode b_Linker_refusalOf 33 = .ok (.invokevirtual 97, 3) := by decide +kernel
theorem d_Linker_refusalOf_36 : decode b_Linker_refusalOf 36 = .ok (.istore 4, 2) := by decide +kernel
theorem d_Linker_refusalOf_38 : decode b_Linker_refusalOf 38 = .ok (.iload 4, 2) := by decide +kernel
theorem d_Linker_refusalOf_40 : decode b_Linker_refusalOf 40 = .ok (.iconst (-1), 1) := by decide +kernel
theorem d_Linker_refusalOf_41 : decode b_Linker_refusalOf 41 = .ok (.if_icmp .eq 10, 3) := by decide +kernel
theorem d_Linker_refusalOf_44 : decode b_Linker_refusalOf 44 = .ok (.sipush (-3000), 3) := by decide +kernel
theorem d_Linker_refusalOf_47 : decode b_Linker_refusalOf 47 = .ok (.iload 4, 2) := by decide +kernel
theorem d_Linker_refusalOf_49 : decode b_Linker_refusalOf 49 = .ok (.isub, 1) := by decide +kernel
theorem d_Linker_refusalOf_50 : decode b_Linker_refusalOf 50 = .ok (.ireturn, 1) := by decide +kernel
theorem d_Linker_refusalOf_51 : decode b_Linker_refusalOf 51 = .ok (.aload_n 0, 1) := by decide +kernel
theorem d_Linker_refusalOf_52 : decode b_Linker_refusalOf 52 = .ok (.getfield 22, 3) := by decide +kernel
theorem d_Linker_refusalOf_55 : decode b_Linker_refusalOf 55 = .ok (.iload_n 1, 1) := by decide +kernel
theorem d_Linker_refusalOf_56 : decode b_Linker_refusalOf 56 = .ok (.iaload, 1) := by decide +kernel
theorem d_Linker_refusalOf_57 : decode b_Linker_refusalOf 57 = .ok (.iconst (-1), 1) := by decide +kernel
theorem d_Linker_refusalOf_58 : decode b_Linker_refusalOf 58 = .ok (.if_icmp .ne 11, 3) := by decide +kernel
theorem d_Linker_refusalOf_61 : decode b_Linker_refusalOf 61 = .ok (.sipush (-4000), 3) := by decide +kernel
theorem d_Linker_refusalOf_64 : decode b_Linker_refusalOf 64 = .ok (.iload_n 1, 1) := by decide +kernel
theorem d_Linker_refusalOf_65 : decode b_Linker_refusalOf 65 = .ok (.isub, 1) := by decide +kernel
theorem d_Linker_refusalOf_66 : decode b_Linker_refusalOf 66 = .ok (.goto 4, 3) := by decide +kernel
theorem d_Linker_refusalOf_69 : decode b_Linker_refusalOf 69 = .ok (.iconst 0, 1) := by decide +kernel
theorem d_Linker_refusalOf_70 : decode b_Linker_refusalOf 70 = .ok (.ireturn, 1) := by decide +kernel
theorem d_Linker_writeHeader_0 : decode b_Linker_writeHeader 0 = .ok (.aload_n 0, 1) := by decide +kernel
theorem d_Linker_writeHeader_1 : decode b_Linker_writeHeader 1 = .ok (.getfield 39, 3) := by decide +kernel
theorem d_Linker_writeHeader_4 : decode b_Linker_writeHeader 4 = .ok (.aload_n 0, 1) := by decide +kernel
theorem d_Linker_writeHeader_5 : decode b_Linker_writeHeader 5 = .ok (.getfield 43, 3) := by decide +kernel
theorem d_Linker_writeHeader_8 : decode b_Linker_writeHeader 8 = .ok (.isub, 1) := by decide +kernel
theorem d_Linker_writeHeader_9 : decode b_Linker_writeHeader 9 = .ok (.istore_n 3, 1) := by decide +kernel
theorem d_Linker_writeHeader_10 : decode b_Linker_writeHeader 10 = .ok (.aload_n 1, 1) := by decide +kernel
theorem d_Linker_writeHeader_11 : decode b_Linker_writeHeader 11 = .ok (.iconst 0, 1) := by decide +kernel
theorem d_Linker_writeHeader_12 : decode b_Linker_writeHeader 12 = .ok (.ldc 153, 2) := by decide +kernel
theorem d_Linker_writeHeader_14 : decode b_Linker_writeHeader 14 = .ok (.invokevirtual 154, 3) := by decide +kernel
theorem d_Linker_writeHeader_17 : decode b_Linker_writeHeader 17 = .ok (.aload_n 1, 1) := by decide +kernel
theorem d_Linker_writeHeader_18 : decode b_Linker_writeHeader 18 = .ok (.iconst 4, 1) := by decide +kernel
theorem d_Linker_writeHeader_19 : decode b_Linker_writeHeader 19 = .ok (.iload_n 2, 1) := by decide +kernel
theorem d_Linker_writeHeader_20 : decode b_Linker_writeHeader 20 = .ok (.invokevirtual 154, 3) := by decide +kernel
theorem d_Linker_writeHeader_23 : decode b_Linker_writeHeader 23 = .ok (.aload_n 1, 1) := by decide +kernel
theorem d_Linker_writeHeader_24 : decode b_Linker_writeHeader 24 = .ok (.bipush 8, 2) := by decide +kernel
theorem d_Linker_writeHeader_26 : decode b_Linker_writeHeader 26 = .ok (.aload_n 0, 1) := by decide +kernel
theorem d_Linker_writeHeader_27 : decode b_Linker_writeHeader 27 = .ok (.getfield 43, 3) := by decide +kernel
theorem d_Linker_writeHeader_30 : decode b_Linker_writeHeader 30 = .ok (.invokevirtual 154, 3) := by decide +kernel
theorem d_Linker_writeHeader_33 : decode b_Linker_writeHeader 33 = .ok (.aload_n 1, 1) := by decide +kernel
theorem d_Linker_writeHeader_34 : decode b_Linker_writeHeader 34 = .ok (.bipush 12, 2) := by decide +kernel
theorem d_Linker_writeHeader_36 : decode b_Linker_writeHeader 36 = .ok (.iload_n 3, 1) := by decide +kernel
theorem d_Linker_writeHeader_37 : decode b_Linker_writeHeader 37 = .ok (.invokevirtual 154, 3) := by decide +kernel
theorem d_Linker_writeHeader_40 : decode b_Linker_writeHeader 40 = .ok (.aload_n 1, 1) := by decide +kernel
theorem d_Linker_writeHeader_41 : decode b_Linker_writeHeader 41 = .ok (.bipush 16, 2) := by decide +kernel
theorem d_Linker_writeHeader_43 : decode b_Linker_writeHeader 43 = .ok (.bipush 36, 2) := by decide +kernel
theorem d_Linker_writeHeader_45 : decode b_Linker_writeHeader 45 = .ok (.invokevirtual 154, 3) := by decide +kernel
theorem d_Linker_writeHeader_48 : decode b_Linker_writeHeader 48 = .ok (.aload_n 1, 1) := by decide +kernel
theorem d_Linker_writeHeader_49 : decode b_Linker_writeHeader 49 = .ok (.bipush 20, 2) := by decide +kernel
theorem d_Linker_writeHeader_51 : decode b_Linker_writeHeader 51 = .ok (.aload_n 0, 1) := by decide +kernel
theorem d_Linker_writeHeader_52 : decode b_Linker_writeHeader 52 = .ok (.getfield 49, 3) := by decide +kernel
theorem d_Linker_writeHeader_55 : decode b_Linker_writeHeader 55 = .ok (.invokevirtual 154, 3) := by decide +kernel
theorem d_Linker_writeHeader_58 : decode b_Linker_writeHeader 58 = .ok (.aload_n 1, 1) := by decide +kernel
theorem d_Linker_writeHeader_59 : decode b_Linker_writeHeader 59 = .ok (.bipush 24, 2) := by decide +kernel
theorem d_Linker_writeHeader_61 : decode b_Linker_writeHeader 61 = .ok (.aload_n 0, 1) := by decide +kernel
theorem d_Linker_writeHeader_62 : decode b_Linker_writeHeader 62 = .ok (.getfield 46, 3) := by decide +kernel
theorem d_Linker_writeHeader_65 : decode b_Linker_writeHeader 65 = .ok (.aload_n 0, 1) := by decide +kernel
theorem d_Linker_writeHeader_66 : decode b_Linker_writeHeader 66 = .ok (.getfield 49, 3) := by decide +kernel
theorem d_Linker_writeHeader_69 : decode b_Linker_writeHeader 69 = .ok (.isub, 1) := by decide +kernel
theorem d_Linker_writeHeader_70 : decode b_Linker_writeHeader 70 = .ok (.invokevirtual 154, 3) := by decide +kernel
theorem d_Linker_writeHeader_73 : decode b_Linker_writeHeader 73 = .ok (.aload_n 1, 1) := by decide +kernel
theorem d_Linker_writeHeader_74 : decode b_Linker_writeHeader 74 = .ok (.bipush 28, 2) := by decide +kernel
theorem d_Linker_writeHeader_76 : decode b_Linker_writeHeader 76 = .ok (.bipush 36, 2) := by decide +kernel
theorem d_Linker_writeHeader_78 : decode b_Linker_writeHeader 78 = .ok (.iload_n 3, 1) := by decide +kernel
theorem d_Linker_writeHeader_79 : decode b_Linker_writeHeader 79 = .ok (.iadd, 1) := by decide +kernel
theorem d_Linker_writeHeader_80 : decode b_Linker_writeHeader 80 = .ok (.invokevirtual 154, 3) := by decide +kernel
theorem d_Linker_writeHeader_83 : decode b_Linker_writeHeader 83 = .ok (.aload_n 1, 1) := by decide +kernel
theorem d_Linker_writeHeader_84 : decode b_Linker_writeHeader 84 = .ok (.bipush 32, 2) := by decide +kernel
theorem d_Linker_writeHeader_86 : decode b_Linker_writeHeader 86 = .ok (.aload_n 1, 1) := by decide +kernel
theorem d_Linker_writeHeader_87 : decode b_Linker_writeHeader 87 = .ok (.invokevirtual 158, 3) := by decide +kernel
theorem d_Linker_writeHeader_90 : decode b_Linker_writeHeader 90 = .ok (.invokevirtual 154, 3) := by decide +kernel
theorem d_Linker_writeHeader_93 : decode b_Linker_writeHeader 93 = .ok (.return_, 1) := by decide +kernel
theorem d_Linker_byteOf_0 : decode b_Linker_byteOf 0 = .ok (.bipush 36, 2) := by decide +kernel
theorem d_Linker_byteOf_2 : decode b_Linker_byteOf 2 = .ok (.aload_n 0, 1) := by decide +kernel
theorem d_Linker_byteOf_3 : decode b_Linker_byteOf 3 = .ok (.getfield 43, 3) := by decide +kernel
theorem d_Linker_byteOf_6 : decode b_Linker_byteOf 6 = .ok (.isub, 1) := by decide +kernel
theorem d_Linker_byteOf_7 : decode b_Linker_byteOf 7 = .ok (.istore_n 3, 1) := by decide +kernel
theorem d_Linker_byteOf_8 : decode b_Linker_byteOf 8 = .ok (.bipush 36, 2) := by decide +kernel
theorem d_Linker_byteOf_10 : decode b_Linker_byteOf 10 = .ok (.aload_n 0, 1) := by decide +kernel
theorem d_Linker_byteOf_11 : decode b_Linker_byteOf 11 = .ok (.getfield 39, 3) := by decide +kernel
theorem d_Linker_byteOf_14 : decode b_Linker_byteOf 14 = .ok (.iadd, 1) := by decide +kernel
theorem d_Linker_byteOf_15 : decode b_Linker_byteOf 15 = .ok (.aload_n 0, 1) := by decide +kernel
theorem d_Linker_byteOf_16 : decode b_Linker_byteOf 16 = .ok (.getfield 43, 3) := by decide +kernel
theorem d_Linker_byteOf_19 : decode b_Linker_byteOf 19 = .ok (.isub, 1) := by decide +kernel
theorem d_Linker_byteOf_20 : decode b_Linker_byteOf 20 = .ok (.aload_n 0, 1) := by decide +kernel
theorem d_Linker_byteOf_21 : decode b_Linker_byteOf 21 = .ok (.getfield 49, 3) := by decide +kernel
theorem d_Linker_byteOf_24 : decode b_Linker_byteOf 24 = .ok (.isub, 1) := by decide +kernel
theorem d_Linker_byteOf_25 : decode b_Linker_byteOf 25 = .ok (.istore 4, 2) := by decide +kernel
theorem d_Linker_byteOf_27 : decode b_Linker_byteOf 27 = .ok (.iload_n 2, 1) := by decide +kernel
theorem d_Linker_byteOf_28 : decode b_Linker_byteOf 28 = .ok (.iload_n 1, 1) := by decide +kernel
theorem d_Linker_byteOf_29 : decode b_Linker_byteOf 29 = .ok (.ifCond .ne 7, 3) := by decide +kernel
theorem d_Linker_byteOf_32 : decode b_Linker_byteOf 32 = .ok (.iload_n 3, 1) := by decide +kernel
theorem d_Linker_byteOf_33 : decode b_Linker_byteOf 33 = .ok (.goto 5, 3) := by decide +kernel
theorem d_Linker_byteOf_36 : decode b_Linker_byteOf 36 = .ok (.iload 4, 2) := by decide +kernel
theorem d_Linker_byteOf_38 : decode b_Linker_byteOf 38 = .ok (.iadd, 1) := by decide +kernel
theorem d_Linker_byteOf_39 : decode b_Linker_byteOf 39 = .ok (.ireturn, 1) := by decide +kernel
theorem d_Linker_writeSection_0 : decode b_Linker_writeSection 0 = .ok (.aload_n 0, 1) := by decide +kernel
theorem d_Linker_writeSection_1 : decode b_Linker_writeSection 1 = .ok (.getfield 11, 3) := by decide +kernel
theorem d_Linker_writeSection_4 : decode b_Linker_writeSection 4 = .ok (.iload_n 2, 1) := by decide +kernel
theorem d_Linker_writeSection_5 : decode b_Linker_writeSection 5 = .ok (.aaload, 1) := by decide +kernel
theorem d_Linker_writeSection_6 : decode b_Linker_writeSection 6 = .ok (.iload_n 3, 1) := by decide +kernel
theorem d_Linker_writeSection_7 : decode b_Linker_writeSection 7 = .ok (.invokevirtual 75, 3) := by decide +kernel
theorem d_Linker_writeSection_10 : decode b_Linker_writeSection 10 = .ok (.astore 4, 2) := by decide +kernel
theorem d_Linker_writeSection_12 : decode b_Linker_writeSection 12 = .ok (.aload_n 0, 1) := by decide +kernel
theorem d_Linker_writeSection_13 : decode b_Linker_writeSection 13 = .ok (.iload_n 3, 1) := by decide +kernel
theorem d_Linker_writeSection_14 : decode b_Linker_writeSection 14 = .ok (.aload_n 0, 1) := by decide +kernel
theorem d_Linker_writeSection_15 : decode b_Linker_writeSection 15 = .ok (.iload_n 2, 1) := by decide +kernel
theorem d_Linker_writeSection_16 : decode b_Linker_writeSection 16 = .ok (.iload_n 3, 1) := by decide +kernel
theorem d_Linker_writeSection_17 : decode b_Linker_writeSection 17 = .ok (.iconst 0, 1) := by decide +kernel
theorem d_Linker_writeSection_18 : decode b_Linker_writeSection 18 = .ok (.invokevirtual 140, 3) := by decide +kernel
theorem d_Linker_writeSection_21 : decode b_Linker_writeSection 21 = .ok (.invokevirtual 161, 3) := by decide +kernel
theorem d_Linker_writeSection_24 : decode b_Linker_writeSection 24 = .ok (.istore 5, 2) := by decide +kernel
theorem d_Linker_writeSection_26 : decode b_Linker_writeSection 26 = .ok (.iconst 0, 1) := by decide +kernel
theorem d_Linker_writeSection_27 : decode b_Linker_writeSection 27 = .ok (.istore 6, 2) := by decide +kernel
theorem d_Linker_writeSection_29 : decode b_Linker_writeSection 29 = .ok (.iload 6, 2) := by decide +kernel
theorem d_Linker_writeSection_31 : decode b_Linker_writeSection 31 = .ok (.aload 4, 2) := by decide +kernel
theorem d_Linker_writeSection_33 : decode b_Linker_writeSection 33 = .ok (.getfield 79, 3) := by decide +kernel
theorem d_Linker_writeSection_36 : decode b_Linker_writeSection 36 = .ok (.if_icmp .ge 28, 3) := by decide +kernel
theorem d_Linker_writeSection_39 : decode b_Linker_writeSection 39 = .ok (.aload_n 1, 1) := by decide +kernel
theorem d_Linker_writeSection_40 : decode b_Linker_writeSection 40 = .ok (.iload 5, 2) := by decide +kernel
theorem d_Linker_writeSection_42 : decode b_Linker_writeSection 42 = .ok (.iconst 4, 1) := by decide +kernel
theorem d_Linker_writeSection_43 : decode b_Linker_writeSection 43 = .ok (.iload 6, 2) := by decide +kernel
theorem d_Linker_writeSection_45 : decode b_Linker_writeSection 45 = .ok (.imul, 1) := by decide +kernel
theorem d_Linker_writeSection_46 : decode b_Linker_writeSection 46 = .ok (.iadd, 1) := by decide +kernel
theorem d_Linker_writeSection_47 : decode b_Linker_writeSection 47 = .ok (.aload 4, 2) := by decide +kernel
theorem d_Linker_writeSection_49 : decode b_Linker_writeSection 49 = .ok (.getfield 164, 3) := by decide +kernel
theorem d_Linker_writeSection_52 : decode b_Linker_writeSection 52 = .ok (.iload 6, 2) := by decide +kernel
theorem d_Linker_writeSection_54 : decode b_Linker_writeSection 54 = .ok (.iaload, 1) := by decide +kernel
theorem d_Linker_writeSection_55 : decode b_Linker_writeSection 55 = .ok (.invokevirtual 154, 3) := by decide +kernel
theorem d_Linker_writeSection_58 : decode b_Linker_writeSection 58 = .ok (.iinc 6 1, 3) := by decide +kernel
theorem d_Linker_writeSection_61 : decode b_Linker_writeSection 61 = .ok (.goto (-32), 3) := by decide +kernel
theorem d_Linker_writeSection_64 : decode b_Linker_writeSection 64 = .ok (.return_, 1) := by decide +kernel
theorem d_Linker_makeFixes_0 : decode b_Linker_makeFixes 0 = .ok (.iconst 0, 1) := by decide +kernel
theorem d_Linker_makeFixes_1 : decode b_Linker_makeFixes 1 = .ok (.istore_n 3, 1) := by decide +kernel
theorem d_Linker_makeFixes_2 : decode b_Linker_makeFixes 2 = .ok (.iload_n 3, 1) := by decide +kernel
theorem d_Linker_makeFixes_3 : decode b_Linker_makeFixes 3 = .ok (.aload_n 0, 1) := by decide +kernel
theorem d_Linker_makeFixes_4 : decode b_Linker_makeFixes 4 = .ok (.getfield 11, 3) := by decide +kernel
theorem d_Linker_makeFixes_7 : decode b_Linker_makeFixes 7 = .ok (.iload_n 2, 1) := by decide +kernel
theorem d_Linker_makeFixes_8 : decode b_Linker_makeFixes 8 = .ok (.aaload, 1) := by decide +kernel
theorem d_Linker_makeFixes_9 : decode b_Linker_makeFixes 9 = .ok (.getfield 107, 3) := by decide +kernel
theorem d_Linker_makeFixes_12 : decode b_Linker_makeFixes 12 = .ok (.if_icmp .ge 70, 3) := by decide +kernel
theorem d_Linker_makeFixes_15 : decode b_Linker_makeFixes 15 = .ok (.aload_n 0, 1) := by decide +kernel
theorem d_Linker_makeFixes_16 : decode b_Linker_makeFixes 16 = .ok (.iload_n 2, 1) := by decide +kernel
theorem d_Linker_makeFixes_17 : decode b_Linker_makeFixes 17 = .ok (.iload_n 3, 1) := by decide +kernel
theorem d_Linker_makeFixes_18 : decode b_Linker_makeFixes 18 = .ok (.invokevirtual 119, 3) := by decide +kernel
theorem d_Linker_makeFixes_21 : decode b_Linker_makeFixes 21 = .ok (.istore 4, 2) := by decide +kernel
theorem d_Linker_makeFixes_23 : decode b_Linker_makeFixes 23 = .ok (.aload_n 0, 1) := by decide +kernel
theorem d_Linker_makeFixes_24 : decode b_Linker_makeFixes 24 = .ok (.aload_n 0, 1) := by decide +kernel
theorem d_Linker_makeFixes_25 : decode b_Linker_makeFixes 25 = .ok (.getfield 11, 3) := by decide +kernel
theorem d_Linker_makeFixes_28 : decode b_Linker_makeFixes 28 = .ok (.iload_n 2, 1) := by decide +kernel
theorem d_Linker_makeFixes_29 : decode b_Linker_makeFixes 29 = .ok (.aaload, 1) := by decide +kernel
theorem d_Linker_makeFixes_30 : decode b_Linker_makeFixes 30 = .ok (.getfield 144, 3) := by decide +kernel
theorem d_Linker_makeFixes_33 : decode b_Linker_makeFixes 33 = .ok (.iload_n 3, 1) := by decide +kernel
theorem d_Linker_makeFixes_34 : decode b_Linker_makeFixes 34 = .ok (.iaload, 1) := by decide +kernel
theorem d_Linker_makeFixes_35 : decode b_Linker_makeFixes 35 = .ok (.iload 4, 2) := by decide +kernel
theorem d_Linker_makeFixes_37 : decode b_Linker_makeFixes 37 = .ok (.invokevirtual 161, 3) := by decide +kernel
theorem d_Linker_makeFixes_40 : decode b_Linker_makeFixes 40 = .ok (.istore 5, 2) := by decide +kernel
theorem d_Linker_makeFixes_42 : decode b_Linker_makeFixes 42 = .ok (.aload_n 1, 1) := by decide +kernel
theorem d_Linker_makeFixes_43 : decode b_Linker_makeFixes 43 = .ok (.iload 5, 2) := by decide +kernel
theorem d_Linker_makeFixes_45 : decode b_Linker_makeFixes 45 = .ok (.aload_n 0, 1) := by decide +kernel
theorem d_Linker_makeFixes_46 : decode b_Linker_makeFixes 46 = .ok (.getfield 11, 3) := by decide +kernel
theorem d_Linker_makeFixes_49 : decode b_Linker_makeFixes 49 = .ok (.iload_n 2, 1) := by decide +kernel
theorem d_Linker_makeFixes_50 : decode b_Linker_makeFixes 50 = .ok (.aaload, 1) := by decide +kernel
theorem d_Linker_makeFixes_51 : decode b_Linker_makeFixes 51 = .ok (.getfield 122, 3) := by decide +kernel
theorem d_Linker_makeFixes_54 : decode b_Linker_makeFixes 54 = .ok (.iload_n 3, 1) := by decide +kernel
theorem d_Linker_makeFixes_55 : decode b_Linker_makeFixes 55 = .ok (.iaload, 1) := by decide +kernel
theorem d_Linker_makeFixes_56 : decode b_Linker_makeFixes 56 = .ok (.aload_n 1, 1) := by decide +kernel
theorem d_Linker_makeFixes_57 : decode b_Linker_makeFixes 57 = .ok (.iload 5, 2) := by decide +kernel
theorem d_Linker_makeFixes_59 : decode b_Linker_makeFixes 59 = .ok (.invokevirtual 167, 3) := by decide +kernel
theorem d_Linker_makeFixes_62 : decode b_Linker_makeFixes 62 = .ok (.aload_n 0, 1) := by decide +kernel
theorem d_Linker_makeFixes_63 : decode b_Linker_makeFixes 63 = .ok (.iload_n 2, 1) := by decide +kernel
theorem d_Linker_makeFixes_64 : decode b_Linker_makeFixes 64 = .ok (.iload_n 3, 1) := by decide +kernel
theorem d_Linker_makeFixes_65 : decode b_Linker_makeFixes 65 = .ok (.invokevirtual 116, 3) := by decide +kernel
theorem d_Linker_makeFixes_68 : decode b_Linker_makeFixes 68 = .ok (.iload 4, 2) := by decide +kernel
theorem d_Linker_makeFixes_70 : decode b_Linker_makeFixes 70 = .ok (.invokestatic 170, 3) := by decide +kernel
theorem d_Linker_makeFixes_73 : decode b_Linker_makeFixes 73 = .ok (.invokevirtual 154, 3) := by decide +kernel
theorem d_Linker_makeFixes_76 : decode b_Linker_makeFixes 76 = .ok (.iinc 3 1, 3) := by decide +kernel
theorem d_Linker_makeFixes_79 : decode b_Linker_makeFixes 79 = .ok (.goto (-77), 3) := by decide +kernel
theorem d_Linker_makeFixes_82 : decode b_Linker_makeFixes 82 = .ok (.return_, 1) := by decide +kernel
theorem d_Linker_build_0 : decode b_Linker_build 0 = .ok (.aload_n 0, 1) := by decide +kernel
theorem d_Linker_build_1 : decode b_Linker_build 1 = .ok (.iload_n 2, 1) := by decide +kernel
theorem d_Linker_build_2 : decode b_Linker_build 2 = .ok (.invokevirtual 28, 3) := by decide +kernel
theorem d_Linker_build_5 : decode b_Linker_build 5 = .ok (.aload_n 0, 1) := by decide +kernel
theorem d_Linker_build_6 : decode b_Linker_build 6 = .ok (.invokevirtual 32, 3) := by decide +kernel
theorem d_Linker_build_9 : decode b_Linker_build 9 = .ok (.aload_n 0, 1) := by decide +kernel
theorem d_Linker_build_10 : decode b_Linker_build 10 = .ok (.iload_n 3, 1) := by decide +kernel
theorem d_Linker_build_11 : decode b_Linker_build 11 = .ok (.invokevirtual 35, 3) := by decide +kernel
theorem d_Linker_build_14 : decode b_Linker_build 14 = .ok (.istore 4, 2) := by decide +kernel
theorem d_Linker_build_16 : decode b_Linker_build 16 = .ok (.iload 4, 2) := by decide +kernel
theorem d_Linker_build_18 : decode b_Linker_build 18 = .ok (.ifCond .eq 6, 3) := by decide +kernel
theorem d_Linker_build_21 : decode b_Linker_build 21 = .ok (.iload 4, 2) := by decide +kernel
theorem d_Linker_build_23 : decode b_Linker_build 23 = .ok (.ireturn, 1) := by decide +kernel
theorem d_Linker_build_24 : decode b_Linker_build 24 = .ok (.iconst 0, 1) := by decide +kernel
theorem d_Linker_build_25 : decode b_Linker_build 25 = .ok (.istore 5, 2) := by decide +kernel
theorem d_Linker_build_27 : decode b_Linker_build 27 = .ok (.iload 5, 2) := by decide +kernel
theorem d_Linker_build_29 : decode b_Linker_build 29 = .ok (.bipush 16, 2) := by decide +kernel
theorem d_Linker_build_31 : decode b_Linker_build 31 = .ok (.if_icmp .ge 23, 3) := by decide +kernel
theorem d_Linker_build_34 : decode b_Linker_build 34 = .ok (.aload_n 0, 1) := by decide +kernel
theorem d_Linker_build_35 : decode b_Linker_build 35 = .ok (.getfield 25, 3) := by decide +kernel
theorem d_Linker_build_38 : decode b_Linker_build 38 = .ok (.iload 5, 2) := by decide +kernel
theorem d_Linker_build_40 : decode b_Linker_build 40 = .ok (.aload_n 0, 1) := by decide +kernel
theorem d_Linker_build_41 : decode b_Linker_build 41 = .ok (.getfield 22, 3) := by decide +kernel
theorem d_Linker_build_44 : decode b_Linker_build 44 = .ok (.iload 5, 2) := by decide +kernel
theorem d_Linker_build_46 : decode b_Linker_build 46 = .ok (.iaload, 1) := by decide +kernel
theorem d_Linker_build_47 : decode b_Linker_build 47 = .ok (.iastore, 1) := by decide +kernel
theorem d_Linker_build_48 : decode b_Linker_build 48 = .ok (.iinc 5 1, 3) := by decide +kernel
theorem d_Linker_build_51 : decode b_Linker_build 51 = .ok (.goto (-24), 3) := by decide +kernel
theorem d_Linker_build_54 : decode b_Linker_build 54 = .ok (.aload_n 1, 1) := by decide +kernel
theorem d_Linker_build_55 : decode b_Linker_build 55 = .ok (.bipush 36, 2) := by decide +kernel
theorem d_Linker_build_57 : decode b_Linker_build 57 = .ok (.aload_n 0, 1) := by decide +kernel
theorem d_Linker_build_58 : decode b_Linker_build 58 = .ok (.getfield 39, 3) := by decide +kernel
theorem d_Linker_build_61 : decode b_Linker_build 61 = .ok (.iadd, 1) := by decide +kernel
theorem d_Linker_build_62 : decode b_Linker_build 62 = .ok (.aload_n 0, 1) := by decide +kernel
theorem d_Linker_build_63 : decode b_Linker_build 63 = .ok (.getfield 43, 3) := by decide +kernel
theorem d_Linker_build_66 : decode b_Linker_build 66 = .ok (.isub, 1) := by decide +kernel
theorem d_Linker_build_67 : decode b_Linker_build 67 = .ok (.aload_n 0, 1) := by decide +kernel
theorem d_Linker_build_68 : decode b_Linker_build 68 = .ok (.getfield 46, 3) := by decide +kernel
theorem d_Linker_build_71 : decode b_Linker_build 71 = .ok (.iadd, 1) := by decide +kernel
theorem d_Linker_build_72 : decode b_Linker_build 72 = .ok (.aload_n 0, 1) := by decide +kernel
theorem d_Linker_build_73 : decode b_Linker_build 73 = .ok (.getfield 49, 3) := by decide +kernel
theorem d_Linker_build_76 : decode b_Linker_build 76 = .ok (.isub, 1) := by decide +kernel
theorem d_Linker_build_77 : decode b_Linker_build 77 = .ok (.invokevirtual 52, 3) := by decide +kernel
theorem d_Linker_build_80 : decode b_Linker_build 80 = .ok (.aload_n 0, 1) := by decide +kernel
theorem d_Linker_build_81 : decode b_Linker_build 81 = .ok (.aload_n 1, 1) := by decide +kernel
theorem d_Linker_build_82 : decode b_Linker_build 82 = .ok (.aload_n 0, 1) := by decide +kernel
theorem d_Linker_build_83 : decode b_Linker_build 83 = .ok (.getfield 25, 3) := by decide +kernel
theorem d_Linker_build_86 : decode b_Linker_build 86 = .ok (.iload_n 3, 1) := by decide +kernel
theorem d_Linker_build_87 : decode b_Linker_build 87 = .ok (.iaload, 1) := by decide +kernel
theorem d_Linker_build_88 : decode b_Linker_build 88 = .ok (.invokevirtual 57, 3) := by decide +kernel
theorem d_Linker_build_91 : decode b_Linker_build 91 = .ok (.iconst 0, 1) := by decide +kernel
theorem d_Linker_build_92 : decode b_Linker_build 92 = .ok (.istore 5, 2) := by decide +kernel
theorem d_Linker_build_94 : decode b_Linker_build 94 = .ok (.iload 5, 2) := by decide +kernel
theorem d_Linker_build_96 : decode b_Linker_build 96 = .ok (.iconst 4, 1) := by decide +kernel
theorem d_Linker_build_97 : decode b_Linker_build 97 = .ok (.if_icmp .ge 32, 3) := by decide +kernel
theorem d_Linker_build_100 : decode b_Linker_build 100 = .ok (.aload_n 0, 1) := by decide +kernel
theorem d_Linker_build_101 : decode b_Linker_build 101 = .ok (.aload_n 1, 1) := by decide +kernel
theorem d_Linker_build_102 : decode b_Linker_build 102 = .ok (.iload 5, 2) := by decide +kernel
theorem d_Linker_build_104 : decode b_Linker_build 104 = .ok (.iconst 0, 1) := by decide +kernel
theorem d_Linker_build_105 : decode b_Linker_build 105 = .ok (.invokevirtual 61, 3) := by decide +kernel
theorem d_Linker_build_108 : decode b_Linker_build 108 = .ok (.aload_n 0, 1) := by decide +kernel
theorem d_Linker_build_109 : decode b_Linker_build 109 = .ok (.aload_n 1, 1) := by decide +kernel
theorem d_Linker_build_110 : decode b_Linker_build 110 = .ok (.iload 5, 2) := by decide +kernel
theorem d_Linker_build_112 : decode b_Linker_build 112 = .ok (.iconst 1, 1) := by decide +kernel
theorem d_Linker_build_113 : decode b_Linker_build 113 = .ok (.invokevirtual 61, 3) := by decide +kernel
theorem d_Linker_build_116 : decode b_Linker_build 116 = .ok (.aload_n 0, 1) := by decide +kernel
theorem d_Linker_build_117 : decode b_Linker_build 117 = .ok (.aload_n 1, 1) := by decide +kernel
theorem d_Linker_build_118 : decode b_Linker_build 118 = .ok (.iload 5, 2) := by decide +kernel
theorem d_Linker_build_120 : decode b_Linker_build 120 = .ok (.invokevirtual 65, 3) := by decide +kernel
theorem d_Linker_build_123 : decode b_Linker_build 123 = .ok (.iinc 5 1, 3) := by decide +kernel
theorem d_Linker_build_126 : decode b_Linker_build 126 = .ok (.goto (-32), 3) := by decide +kernel
theorem d_Linker_build_129 : decode b_Linker_build 129 = .ok (.aload_n 1, 1) := by decide +kernel
theorem d_Linker_build_130 : decode b_Linker_build 130 = .ok (.getfield 68, 3) := by decide +kernel
theorem d_Linker_build_133 : decode b_Linker_build 133 = .ok (.ireturn, 1) := by decide +kernel
