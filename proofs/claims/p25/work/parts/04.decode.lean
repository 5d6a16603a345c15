theorem dX0_init_0 : decode cX0_init 0 = .ok (.aload_n 0, 1) := by decide +kernel
theorem dX0_init_1 : decode cX0_init 1 = .ok (.invokespecial 3, 3) := by decide +kernel
theorem dX0_init_4 : decode cX0_init 4 = .ok (.aload_n 0, 1) := by decide +kernel
theorem dX0_init_5 : decode cX0_init 5 = .ok (.bipush 20, 2) := by decide +kernel
theorem dX0_init_7 : decode cX0_init 7 = .ok (.newarray .int, 2) := by decide +kernel
theorem dX0_init_9 : decode cX0_init 9 = .ok (.putfield 9, 3) := by decide +kernel
theorem dX0_init_12 : decode cX0_init 12 = .ok (.aload_n 0, 1) := by decide +kernel
theorem dX0_init_13 : decode cX0_init 13 = .ok (.bipush 20, 2) := by decide +kernel
theorem dX0_init_15 : decode cX0_init 15 = .ok (.newarray .int, 2) := by decide +kernel
theorem dX0_init_17 : decode cX0_init 17 = .ok (.putfield 15, 3) := by decide +kernel
theorem dX0_init_20 : decode cX0_init 20 = .ok (.aload_n 0, 1) := by decide +kernel
theorem dX0_init_21 : decode cX0_init 21 = .ok (.bipush 20, 2) := by decide +kernel
theorem dX0_init_23 : decode cX0_init 23 = .ok (.newarray .int, 2) := by decide +kernel
theorem dX0_init_25 : decode cX0_init 25 = .ok (.putfield 18, 3) := by decide +kernel
theorem dX0_init_28 : decode cX0_init 28 = .ok (.aload_n 0, 1) := by decide +kernel
theorem dX0_init_29 : decode cX0_init 29 = .ok (.bipush 20, 2) := by decide +kernel
theorem dX0_init_31 : decode cX0_init 31 = .ok (.newarray .int, 2) := by decide +kernel
theorem dX0_init_33 : decode cX0_init 33 = .ok (.putfield 21, 3) := by decide +kernel
theorem dX0_init_36 : decode cX0_init 36 = .ok (.aload_n 0, 1) := by decide +kernel
theorem dX0_init_37 : decode cX0_init 37 = .ok (.bipush 80, 2) := by decide +kernel
theorem dX0_init_39 : decode cX0_init 39 = .ok (.newarray .int, 2) := by decide +kernel
theorem dX0_init_41 : decode cX0_init 41 = .ok (.putfield 24, 3) := by decide +kernel
theorem dX0_init_44 : decode cX0_init 44 = .ok (.aload_n 0, 1) := by decide +kernel
theorem dX0_init_45 : decode cX0_init 45 = .ok (.iconst 0, 1) := by decide +kernel
theorem dX0_init_46 : decode cX0_init 46 = .ok (.putfield 27, 3) := by decide +kernel
theorem dX0_init_49 : decode cX0_init 49 = .ok (.aload_n 0, 1) := by decide +kernel
theorem dX0_init_50 : decode cX0_init 50 = .ok (.iconst 0, 1) := by decide +kernel
theorem dX0_init_51 : decode cX0_init 51 = .ok (.putfield 31, 3) := by decide +kernel
theorem dX0_init_54 : decode cX0_init 54 = .ok (.aload_n 0, 1) := by decide +kernel
theorem dX0_init_55 : decode cX0_init 55 = .ok (.iconst 0, 1) := by decide +kernel
theorem dX0_init_56 : decode cX0_init 56 = .ok (.putfield 34, 3) := by decide +kernel
theorem dX0_init_59 : decode cX0_init 59 = .ok (.return_, 1) := by decide +kernel
theorem dX0_number_0 : decode cX0_number 0 = .ok (.aload_n 0, 1) := by decide +kernel
theorem dX0_number_1 : decode cX0_number 1 = .ok (.getfield 27, 3) := by decide +kernel
theorem dX0_number_4 : decode cX0_number 4 = .ok (.ireturn, 1) := by decide +kernel
theorem dX0_pricesOfDone_0 : decode cX0_pricesOfDone 0 = .ok (.aload_n 0, 1) := by decide +kernel
theorem dX0_pricesOfDone_1 : decode cX0_pricesOfDone 1 = .ok (.getfield 31, 3) := by decide +kernel
theorem dX0_pricesOfDone_4 : decode cX0_pricesOfDone 4 = .ok (.ireturn, 1) := by decide +kernel
theorem dX0_owedForLate_0 : decode cX0_owedForLate 0 = .ok (.aload_n 0, 1) := by decide +kernel
theorem dX0_owedForLate_1 : decode cX0_owedForLate 1 = .ok (.getfield 34, 3) := by decide +kernel
theorem dX0_owedForLate_4 : decode cX0_owedForLate 4 = .ok (.ireturn, 1) := by decide +kernel
theorem dX0_stateOf_0 : decode cX0_stateOf 0 = .ok (.iload_n 1, 1) := by decide +kernel
theorem dX0_stateOf_1 : decode cX0_stateOf 1 = .ok (.ifCond .lt 20, 3) := by decide +kernel
theorem dX0_stateOf_4 : decode cX0_stateOf 4 = .ok (.iload_n 1, 1) := by decide +kernel
theorem dX0_stateOf_5 : decode cX0_stateOf 5 = .ok (.aload_n 0, 1) := by decide +kernel
theorem dX0_stateOf_6 : decode cX0_stateOf 6 = .ok (.getfield 27, 3) := by decide +kernel
theorem dX0_stateOf_9 : decode cX0_stateOf 9 = .ok (.if_icmp .ge 12, 3) := by decide +kernel
theorem dX0_stateOf_12 : decode cX0_stateOf 12 = .ok (.aload_n 0, 1) := by decide +kernel
theorem dX0_stateOf_13 : decode cX0_stateOf 13 = .ok (.getfield 18, 3) := by decide +kernel
theorem dX0_stateOf_16 : decode cX0_stateOf 16 = .ok (.iload_n 1, 1) := by decide +kernel
theorem dX0_stateOf_17 : decode cX0_stateOf 17 = .ok (.iaload, 1) := by decide +kernel
theorem dX0_stateOf_18 : decode cX0_stateOf 18 = .ok (.goto 4, 3) := by decide +kernel
theorem dX0_stateOf_21 : decode cX0_stateOf 21 = .ok (.iconst (-1), 1) := by decide +kernel
theorem dX0_stateOf_22 : decode cX0_stateOf 22 = .ok (.ireturn, 1) := by decide +kernel
theorem dX0_isOpen_0 : decode cX0_isOpen 0 = .ok (.aload_n 0, 1) := by decide +kernel
theorem dX0_isOpen_1 : decode cX0_isOpen 1 = .ok (.iload_n 1, 1) := by decide +kernel
theorem dX0_isOpen_2 : decode cX0_isOpen 2 = .ok (.invokevirtual 37, 3) := by decide +kernel
theorem dX0_isOpen_5 : decode cX0_isOpen 5 = .ok (.istore_n 2, 1) := by decide +kernel
theorem dX0_isOpen_6 : decode cX0_isOpen 6 = .ok (.iload_n 2, 1) := by decide +kernel
theorem dX0_isOpen_7 : decode cX0_isOpen 7 = .ok (.ifCond .eq 8, 3) := by decide +kernel
theorem dX0_isOpen_10 : decode cX0_isOpen 10 = .ok (.iload_n 2, 1) := by decide +kernel
theorem dX0_isOpen_11 : decode cX0_isOpen 11 = .ok (.iconst 1, 1) := by decide +kernel
theorem dX0_isOpen_12 : decode cX0_isOpen 12 = .ok (.if_icmp .ne 7, 3) := by decide +kernel
theorem dX0_isOpen_15 : decode cX0_isOpen 15 = .ok (.iconst 1, 1) := by decide +kernel
theorem dX0_isOpen_16 : decode cX0_isOpen 16 = .ok (.goto 4, 3) := by decide +kernel
theorem dX0_isOpen_19 : decode cX0_isOpen 19 = .ok (.iconst 0, 1) := by decide +kernel
theorem dX0_isOpen_20 : decode cX0_isOpen 20 = .ok (.ireturn, 1) := by decide +kernel
theorem dX0_openHaulOf_0 : decode cX0_openHaulOf 0 = .ok (.iconst 0, 1) := by decide +kernel
theorem dX0_openHaulOf_1 : decode cX0_openHaulOf 1 = .ok (.istore_n 2, 1) := by decide +kernel
theorem dX0_openHaulOf_2 : decode cX0_openHaulOf 2 = .ok (.iload_n 2, 1) := by decide +kernel
theorem dX0_openHaulOf_3 : decode cX0_openHaulOf 3 = .ok (.aload_n 0, 1) := by decide +kernel
theorem dX0_openHaulOf_4 : decode cX0_openHaulOf 4 = .ok (.getfield 27, 3) := by decide +kernel
theorem dX0_openHaulOf_7 : decode cX0_openHaulOf 7 = .ok (.if_icmp .ge 29, 3) := by decide +kernel
theorem dX0_openHaulOf_10 : decode cX0_openHaulOf 10 = .ok (.aload_n 0, 1) := by decide +kernel
theorem dX0_openHaulOf_11 : decode cX0_openHaulOf 11 = .ok (.getfield 9, 3) := by decide +kernel
theorem dX0_openHaulOf_14 : decode cX0_openHaulOf 14 = .ok (.iload_n 2, 1) := by decide +kernel
theorem dX0_openHaulOf_15 : decode cX0_openHaulOf 15 = .ok (.iaload, 1) := by decide +kernel
theorem dX0_openHaulOf_16 : decode cX0_openHaulOf 16 = .ok (.iload_n 1, 1) := by decide +kernel
theorem dX0_openHaulOf_17 : decode cX0_openHaulOf 17 = .ok (.if_icmp .ne 13, 3) := by decide +kernel
theorem dX0_openHaulOf_20 : decode cX0_openHaulOf 20 = .ok (.aload_n 0, 1) := by decide +kernel
theorem dX0_openHaulOf_21 : decode cX0_openHaulOf 21 = .ok (.iload_n 2, 1) := by decide +kernel
theorem dX0_openHaulOf_22 : decode cX0_openHaulOf 22 = .ok (.invokevirtual 41, 3) := by decide +kernel
theorem dX0_openHaulOf_25 : decode cX0_openHaulOf 25 = .ok (.ifCond .eq 5, 3) := by decide +kernel
theorem dX0_openHaulOf_28 : decode cX0_openHaulOf 28 = .ok (.iload_n 2, 1) := by decide +kernel
theorem dX0_openHaulOf_29 : decode cX0_openHaulOf 29 = .ok (.ireturn, 1) := by decide +kernel
theorem dX0_openHaulOf_30 : decode cX0_openHaulOf 30 = .ok (.iinc 2 1, 3) := by decide +kernel
theorem dX0_openHaulOf_33 : decode cX0_openHaulOf 33 = .ok (.goto (-31), 3) := by decide +kernel
theorem dX0_openHaulOf_36 : decode cX0_openHaulOf 36 = .ok (.iconst (-1), 1) := by decide +kernel
theorem dX0_openHaulOf_37 : decode cX0_openHaulOf 37 = .ok (.ireturn, 1) := by decide +kernel
theorem dX0_add_0 : decode cX0_add 0 = .ok (.aload_n 0, 1) := by decide +kernel
theorem dX0_add_1 : decode cX0_add 1 = .ok (.getfield 27, 3) := by decide +kernel
theorem dX0_add_4 : decode cX0_add 4 = .ok (.bipush 20, 2) := by decide +kernel
theorem dX0_add_6 : decode cX0_add 6 = .ok (.if_icmp .lt 5, 3) := by decide +kernel
theorem dX0_add_9 : decode cX0_add 9 = .ok (.iconst (-1), 1) := by decide +kernel
theorem dX0_add_10 : decode cX0_add 10 = .ok (.ireturn, 1) := by decide +kernel
theorem dX0_add_11 : decode cX0_add 11 = .ok (.aload_n 0, 1) := by decide +kernel
theorem dX0_add_12 : decode cX0_add 12 = .ok (.getfield 27, 3) := by decide +kernel
theorem dX0_add_15 : decode cX0_add 15 = .ok (.istore_n 3, 1) := by decide +kernel
theorem dX0_add_16 : decode cX0_add 16 = .ok (.aload_n 0, 1) := by decide +kernel
theorem dX0_add_17 : decode cX0_add 17 = .ok (.dup, 1) := by decide +kernel
theorem dX0_add_18 : decode cX0_add 18 = .ok (.getfield 27, 3) := by decide +kernel
theorem dX0_add_21 : decode cX0_add 21 = .ok (.iconst 1, 1) := by decide +kernel
theorem dX0_add_22 : decode cX0_add 22 = .ok (.iadd, 1) := by decide +kernel
theorem dX0_add_23 : decode cX0_add 23 = .ok (.putfield 27, 3) := by decide +kernel
theorem dX0_add_26 : decode cX0_add 26 = .ok (.aload_n 0, 1) := by decide +kernel
theorem dX0_add_27 : decode cX0_add 27 = .ok (.getfield 9, 3) := by decide +kernel
theorem dX0_add_30 : decode cX0_add 30 = .ok (.iload_n 3, 1) := by decide +kernel
theorem dX0_add_31 : decode cX0_add 31 = .ok (.iload_n 1, 1) := by decide +kernel
theorem dX0_add_32 : decode cX0_add 32 = .ok (.iastore, 1) := by decide +kernel
theorem dX0_add_33 : decode cX0_add 33 = .ok (.aload_n 0, 1) := by decide +kernel
theorem dX0_add_34 : decode cX0_add 34 = .ok (.getfield 15, 3) := by decide +kernel
theorem dX0_add_37 : decode cX0_add 37 = .ok (.iload_n 3, 1) := by decide +kernel
theorem dX0_add_38 : decode cX0_add 38 = .ok (.iload_n 2, 1) := by decide +kernel
theorem dX0_add_39 : decode cX0_add 39 = .ok (.iastore, 1) := by decide +kernel
theorem dX0_add_40 : decode cX0_add 40 = .ok (.aload_n 0, 1) := by decide +kernel
theorem dX0_add_41 : decode cX0_add 41 = .ok (.getfield 18, 3) := by decide +kernel
theorem dX0_add_44 : decode cX0_add 44 = .ok (.iload_n 3, 1) := by decide +kernel
theorem dX0_add_45 : decode cX0_add 45 = .ok (.iconst 0, 1) := by decide +kernel
theorem dX0_add_46 : decode cX0_add 46 = .ok (.iastore, 1) := by decide +kernel
theorem dX0_add_47 : decode cX0_add 47 = .ok (.iload_n 3, 1) := by decide +kernel
theorem dX0_add_48 : decode cX0_add 48 = .ok (.ireturn, 1) := by decide +kernel
theorem dX0_isPlaceForBid_0 : decode cX0_isPlaceForBid 0 = .ok (.iload_n 1, 1) := by decide +kernel
theorem dX0_isPlaceForBid_1 : decode cX0_isPlaceForBid 1 = .ok (.ifCond .lt 24, 3) := by decide +kernel
theorem dX0_isPlaceForBid_4 : decode cX0_isPlaceForBid 4 = .ok (.iload_n 1, 1) := by decide +kernel
theorem dX0_isPlaceForBid_5 : decode cX0_isPlaceForBid 5 = .ok (.aload_n 0, 1) := by decide +kernel
theorem dX0_isPlaceForBid_6 : decode cX0_isPlaceForBid 6 = .ok (.getfield 27, 3) := by decide +kernel
theorem dX0_isPlaceForBid_9 : decode cX0_isPlaceForBid 9 = .ok (.if_icmp .ge 16, 3) := by decide +kernel
theorem dX0_isPlaceForBid_12 : decode cX0_isPlaceForBid 12 = .ok (.iload_n 2, 1) := by decide +kernel
theorem dX0_isPlaceForBid_13 : decode cX0_isPlaceForBid 13 = .ok (.ifCond .lt 12, 3) := by decide +kernel
theorem dX0_isPlaceForBid_16 : decode cX0_isPlaceForBid 16 = .ok (.iload_n 2, 1) := by decide +kernel
theorem dX0_isPlaceForBid_17 : decode cX0_isPlaceForBid 17 = .ok (.iconst 4, 1) := by decide +kernel
theorem dX0_isPlaceForBid_18 : decode cX0_isPlaceForBid 18 = .ok (.if_icmp .ge 7, 3) := by decide +kernel
theorem dX0_isPlaceForBid_21 : decode cX0_isPlaceForBid 21 = .ok (.iconst 1, 1) := by decide +kernel
theorem dX0_isPlaceForBid_22 : decode cX0_isPlaceForBid 22 = .ok (.goto 4, 3) := by decide +kernel
theorem dX0_isPlaceForBid_25 : decode cX0_isPlaceForBid 25 = .ok (.iconst 0, 1) := by decide +kernel
theorem dX0_isPlaceForBid_26 : decode cX0_isPlaceForBid 26 = .ok (.ireturn, 1) := by decide +kernel
theorem dX0_priceAsked_0 : decode cX0_priceAsked 0 = .ok (.aload_n 0, 1) := by decide +kernel
theorem dX0_priceAsked_1 : decode cX0_priceAsked 1 = .ok (.iload_n 1, 1) := by decide +kernel
theorem dX0_priceAsked_2 : decode cX0_priceAsked 2 = .ok (.iload_n 2, 1) := by decide +kernel
theorem dX0_priceAsked_3 : decode cX0_priceAsked 3 = .ok (.invokevirtual 45, 3) := by decide +kernel
theorem dX0_priceAsked_6 : decode cX0_priceAsked 6 = .ok (.ifCond .eq 16, 3) := by decide +kernel
theorem dX0_priceAsked_9 : decode cX0_priceAsked 9 = .ok (.aload_n 0, 1) := by decide +kernel
theorem dX0_priceAsked_10 : decode cX0_priceAsked 10 = .ok (.getfield 24, 3) := by decide +kernel
theorem dX0_priceAsked_13 : decode cX0_priceAsked 13 = .ok (.iload_n 1, 1) := by decide +kernel
theorem dX0_priceAsked_14 : decode cX0_priceAsked 14 = .ok (.iconst 4, 1) := by decide +kernel
theorem dX0_priceAsked_15 : decode cX0_priceAsked 15 = .ok (.imul, 1) := by decide +kernel
theorem dX0_priceAsked_16 : decode cX0_priceAsked 16 = .ok (.iload_n 2, 1) := by decide +kernel
theorem dX0_priceAsked_17 : decode cX0_priceAsked 17 = .ok (.iadd, 1) := by decide +kernel
theorem dX0_priceAsked_18 : decode cX0_priceAsked 18 = .ok (.iaload, 1) := by decide +kernel
theorem dX0_priceAsked_19 : decode cX0_priceAsked 19 = .ok (.ifCond .ne 5, 3) := by decide +kernel
theorem dX0_priceAsked_22 : decode cX0_priceAsked 22 = .ok (.iconst (-1), 1) := by decide +kernel
theorem dX0_priceAsked_23 : decode cX0_priceAsked 23 = .ok (.ireturn, 1) := by decide +kernel
theorem dX0_priceAsked_24 : decode cX0_priceAsked 24 = .ok (.aload_n 0, 1) := by decide +kernel
theorem dX0_priceAsked_25 : decode cX0_priceAsked 25 = .ok (.getfield 24, 3) := by decide +kernel
theorem dX0_priceAsked_28 : decode cX0_priceAsked 28 = .ok (.iload_n 1, 1) := by decide +kernel
theorem dX0_priceAsked_29 : decode cX0_priceAsked 29 = .ok (.iconst 4, 1) := by decide +kernel
theorem dX0_priceAsked_30 : decode cX0_priceAsked 30 = .ok (.imul, 1) := by decide +kernel
theorem dX0_priceAsked_31 : decode cX0_priceAsked 31 = .ok (.iload_n 2, 1) := by decide +kernel
theorem dX0_priceAsked_32 : decode cX0_priceAsked 32 = .ok (.iadd, 1) := by decide +kernel
theorem dX0_priceAsked_33 : decode cX0_priceAsked 33 = .ok (.iaload, 1) := by decide +kernel
theorem dX0_priceAsked_34 : decode cX0_priceAsked 34 = .ok (.ireturn, 1) := by decide +kernel
theorem dX0_enterBid_0 : decode cX0_enterBid 0 = .ok (.aload_n 0, 1) := by decide +kernel
theorem dX0_enterBid_1 : decode cX0_enterBid 1 = .ok (.iload_n 1, 1) := by decide +kernel
theorem dX0_enterBid_2 : decode cX0_enterBid 2 = .ok (.iload_n 2, 1) := by decide +kernel
theorem dX0_enterBid_3 : decode cX0_enterBid 3 = .ok (.invokevirtual 45, 3) := by decide +kernel
theorem dX0_enterBid_6 : decode cX0_enterBid 6 = .ok (.ifCond .eq 14, 3) := by decide +kernel
theorem dX0_enterBid_9 : decode cX0_enterBid 9 = .ok (.aload_n 0, 1) := by decide +kernel
theorem dX0_enterBid_10 : decode cX0_enterBid 10 = .ok (.getfield 24, 3) := by decide +kernel
theorem dX0_enterBid_13 : decode cX0_enterBid 13 = .ok (.iload_n 1, 1) := by decide +kernel
theorem dX0_enterBid_14 : decode cX0_enterBid 14 = .ok (.iconst 4, 1) := by decide +kernel
theorem dX0_enterBid_15 : decode cX0_enterBid 15 = .ok (.imul, 1) := by decide +kernel
theorem dX0_enterBid_16 : decode cX0_enterBid 16 = .ok (.iload_n 2, 1) := by decide +kernel
theorem dX0_enterBid_17 : decode cX0_enterBid 17 = .ok (.iadd, 1) := by decide +kernel
theorem dX0_enterBid_18 : decode cX0_enterBid 18 = .ok (.iload_n 3, 1) := by decide +kernel
theorem dX0_enterBid_19 : decode cX0_enterBid 19 = .ok (.iastore, 1) := by decide +kernel
theorem dX0_enterBid_20 : decode cX0_enterBid 20 = .ok (.return_, 1) := by decide +kernel
theorem dX0_cheapestHaulier_0 : decode cX0_cheapestHaulier 0 = .ok (.iconst (-1), 1) := by decide +kernel
theorem dX0_cheapestHaulier_1 : decode cX0_cheapestHaulier 1 = .ok (.istore_n 2, 1) := by decide +kernel
theorem dX0_cheapestHaulier_2 : decode cX0_cheapestHaulier 2 = .ok (.iconst 0, 1) := by decide +kernel
theorem dX0_cheapestHaulier_3 : decode cX0_cheapestHaulier 3 = .ok (.istore_n 3, 1) := by decide +kernel
theorem dX0_cheapestHaulier_4 : decode cX0_cheapestHaulier 4 = .ok (.iload_n 3, 1) := by decide +kernel
theorem dX0_cheapestHaulier_5 : decode cX0_cheapestHaulier 5 = .ok (.iconst 4, 1) := by decide +kernel
theorem dX0_cheapestHaulier_6 : decode cX0_cheapestHaulier 6 = .ok (.if_icmp .ge 41, 3) := by decide +kernel
theorem dX0_cheapestHaulier_9 : decode cX0_cheapestHaulier 9 = .ok (.aload_n 0, 1) := by decide +kernel
theorem dX0_cheapestHaulier_10 : decode cX0_cheapestHaulier 10 = .ok (.iload_n 1, 1) := by decide +kernel
theorem dX0_cheapestHaulier_11 : decode cX0_cheapestHaulier 11 = .ok (.iload_n 3, 1) := by decide +kernel
theorem dX0_cheapestHaulier_12 : decode cX0_cheapestHaulier 12 = .ok (.invokevirtual 49, 3) := by decide +kernel
theorem dX0_cheapestHaulier_15 : decode cX0_cheapestHaulier 15 = .ok (.istore 4, 2) := by decide +kernel
theorem dX0_cheapestHaulier_17 : decode cX0_cheapestHaulier 17 = .ok (.iload 4, 2) := by decide +kernel
theorem dX0_cheapestHaulier_19 : decode cX0_cheapestHaulier 19 = .ok (.iconst (-1), 1) := by decide +kernel
theorem dX0_cheapestHaulier_20 : decode cX0_cheapestHaulier 20 = .ok (.if_icmp .eq 21, 3) := by decide +kernel
theorem dX0_cheapestHaulier_23 : decode cX0_cheapestHaulier 23 = .ok (.iload_n 2, 1) := by decide +kernel
theorem dX0_cheapestHaulier_24 : decode cX0_cheapestHaulier 24 = .ok (.iconst (-1), 1) := by decide +kernel
theorem dX0_cheapestHaulier_25 : decode cX0_cheapestHaulier 25 = .ok (.if_icmp .eq 14, 3) := by decide +kernel
theorem dX0_cheapestHaulier_28 : decode cX0_cheapestHaulier 28 = .ok (.iload 4, 2) := by decide +kernel
theorem dX0_cheapestHaulier_30 : decode cX0_cheapestHaulier 30 = .ok (.aload_n 0, 1) := by decide +kernel
theorem dX0_cheapestHaulier_31 : decode cX0_cheapestHaulier 31 = .ok (.iload_n 1, 1) := by decide +kernel
theorem dX0_cheapestHaulier_32 : decode cX0_cheapestHaulier 32 = .ok (.iload_n 2, 1) := by decide +kernel
theorem dX0_cheapestHaulier_33 : decode cX0_cheapestHaulier 33 = .ok (.invokevirtual 49, 3) := by decide +kernel
theorem dX0_cheapestHaulier_36 : decode cX0_cheapestHaulier 36 = .ok (.if_icmp .ge 5, 3) := by decide +kernel
theorem dX0_cheapestHaulier_39 : decode cX0_cheapestHaulier 39 = .ok (.iload_n 3, 1) := by decide +kernel
theorem dX0_cheapestHaulier_40 : decode cX0_cheapestHaulier 40 = .ok (.istore_n 2, 1) := by decide +kernel
theorem dX0_cheapestHaulier_41 : decode cX0_cheapestHaulier 41 = .ok (.iinc 3 1, 3) := by decide +kernel
theorem dX0_cheapestHaulier_44 : decode cX0_cheapestHaulier 44 = .ok (.goto (-40), 3) := by decide +kernel
theorem dX0_cheapestHaulier_47 : decode cX0_cheapestHaulier 47 = .ok (.iload_n 2, 1) := by decide +kernel
theorem dX0_cheapestHaulier_48 : decode cX0_cheapestHaulier 48 = .ok (.ireturn, 1) := by decide +kernel
theorem dX0_giveTo_0 : decode cX0_giveTo 0 = .ok (.aload_n 0, 1) := by decide +kernel
theorem dX0_giveTo_1 : decode cX0_giveTo 1 = .ok (.iload_n 1, 1) := by decide +kernel
theorem dX0_giveTo_2 : decode cX0_giveTo 2 = .ok (.iload_n 2, 1) := by decide +kernel
theorem dX0_giveTo_3 : decode cX0_giveTo 3 = .ok (.invokevirtual 45, 3) := by decide +kernel
theorem dX0_giveTo_6 : decode cX0_giveTo 6 = .ok (.ifCond .eq 22, 3) := by decide +kernel
theorem dX0_giveTo_9 : decode cX0_giveTo 9 = .ok (.aload_n 0, 1) := by decide +kernel
theorem dX0_giveTo_10 : decode cX0_giveTo 10 = .ok (.getfield 18, 3) := by decide +kernel
theorem dX0_giveTo_13 : decode cX0_giveTo 13 = .ok (.iload_n 1, 1) := by decide +kernel
theorem dX0_giveTo_14 : decode cX0_giveTo 14 = .ok (.iconst 1, 1) := by decide +kernel
theorem dX0_giveTo_15 : decode cX0_giveTo 15 = .ok (.iastore, 1) := by decide +kernel
theorem dX0_giveTo_16 : decode cX0_giveTo 16 = .ok (.aload_n 0, 1) := by decide +kernel
theorem dX0_giveTo_17 : decode cX0_giveTo 17 = .ok (.getfield 21, 3) := by decide +kernel
theorem dX0_giveTo_20 : decode cX0_giveTo 20 = .ok (.iload_n 1, 1) := by decide +kernel
theorem dX0_giveTo_21 : decode cX0_giveTo 21 = .ok (.aload_n 0, 1) := by decide +kernel
theorem dX0_giveTo_22 : decode cX0_giveTo 22 = .ok (.iload_n 1, 1) := by decide +kernel
theorem dX0_giveTo_23 : decode cX0_giveTo 23 = .ok (.iload_n 2, 1) := by decide +kernel
theorem dX0_giveTo_24 : decode cX0_giveTo 24 = .ok (.invokevirtual 49, 3) := by decide +kernel
theorem dX0_giveTo_27 : decode cX0_giveTo 27 = .ok (.iastore, 1) := by decide +kernel
theorem dX0_giveTo_28 : decode cX0_giveTo 28 = .ok (.return_, 1) := by decide +kernel
theorem dX0_finish_0 : decode cX0_finish 0 = .ok (.iload_n 1, 1) := by decide +kernel
theorem dX0_finish_1 : decode cX0_finish 1 = .ok (.ifCond .lt 11, 3) := by decide +kernel
theorem dX0_finish_4 : decode cX0_finish 4 = .ok (.iload_n 1, 1) := by decide +kernel
theorem dX0_finish_5 : decode cX0_finish 5 = .ok (.aload_n 0, 1) := by decide +kernel
theorem dX0_finish_6 : decode cX0_finish 6 = .ok (.getfield 27, 3) := by decide +kernel
theorem dX0_finish_9 : decode cX0_finish 9 = .ok (.if_icmp .lt 5, 3) := by decide +kernel
theorem dX0_finish_12 : decode cX0_finish 12 = .ok (.iconst 0, 1) := by decide +kernel
theorem dX0_finish_13 : decode cX0_finish 13 = .ok (.ireturn, 1) := by decide +kernel
theorem dX0_finish_14 : decode cX0_finish 14 = .ok (.aload_n 0, 1) := by decide +kernel
theorem dX0_finish_15 : decode cX0_finish 15 = .ok (.getfield 18, 3) := by decide +kernel
theorem dX0_finish_18 : decode cX0_finish 18 = .ok (.iload_n 1, 1) := by decide +kernel
theorem dX0_finish_19 : decode cX0_finish 19 = .ok (.iconst 2, 1) := by decide +kernel
theorem dX0_finish_20 : decode cX0_finish 20 = .ok (.iastore, 1) := by decide +kernel
theorem dX0_finish_21 : decode cX0_finish 21 = .ok (.aload_n 0, 1) := by decide +kernel
theorem dX0_finish_22 : decode cX0_finish 22 = .ok (.dup, 1) := by decide +kernel
theorem dX0_finish_23 : decode cX0_finish 23 = .ok (.getfield 31, 3) := by decide +kernel
theorem dX0_finish_26 : decode cX0_finish 26 = .ok (.aload_n 0, 1) := by decide +kernel
theorem dX0_finish_27 : decode cX0_finish 27 = .ok (.getfield 21, 3) := by decide +kernel
theorem dX0_finish_30 : decode cX0_finish 30 = .ok (.iload_n 1, 1) := by decide +kernel
theorem dX0_finish_31 : decode cX0_finish 31 = .ok (.iaload, 1) := by decide +kernel
theorem dX0_finish_32 : decode cX0_finish 32 = .ok (.iadd, 1) := by decide +kernel
theorem dX0_finish_33 : decode cX0_finish 33 = .ok (.putfield 31, 3) := by decide +kernel
theorem dX0_finish_36 : decode cX0_finish 36 = .ok (.aload_n 0, 1) := by decide +kernel
theorem dX0_finish_37 : decode cX0_finish 37 = .ok (.getfield 21, 3) := by decide +kernel
theorem dX0_finish_40 : decode cX0_finish 40 = .ok (.iload_n 1, 1) := by decide +kernel
theorem dX0_finish_41 : decode cX0_finish 41 = .ok (.iaload, 1) := by decide +kernel
theorem dX0_finish_42 : decode cX0_finish 42 = .ok (.ireturn, 1) := by decide +kernel
theorem dX0_endDay_0 : decode cX0_endDay 0 = .ok (.iconst 0, 1) := by decide +kernel
theorem dX0_endDay_1 : decode cX0_endDay 1 = .ok (.istore_n 2, 1) := by decide +kernel
theorem dX0_endDay_2 : decode cX0_endDay 2 = .ok (.iload_n 2, 1) := by decide +kernel
theorem dX0_endDay_3 : decode cX0_endDay 3 = .ok (.aload_n 0, 1) := by decide +kernel
theorem dX0_endDay_4 : decode cX0_endDay 4 = .ok (.getfield 27, 3) := by decide +kernel
theorem dX0_endDay_7 : decode cX0_endDay 7 = .ok (.if_icmp .ge 45, 3) := by decide +kernel
theorem dX0_endDay_10 : decode cX0_endDay 10 = .ok (.aload_n 0, 1) := by decide +kernel
theorem dX0_endDay_11 : decode cX0_endDay 11 = .ok (.iload_n 2, 1) := by decide +kernel
theorem dX0_endDay_12 : decode cX0_endDay 12 = .ok (.invokevirtual 41, 3) := by decide +kernel
theorem dX0_endDay_15 : decode cX0_endDay 15 = .ok (.ifCond .eq 31, 3) := by decide +kernel
theorem dX0_endDay_18 : decode cX0_endDay 18 = .ok (.aload_n 0, 1) := by decide +kernel
theorem dX0_endDay_19 : decode cX0_endDay 19 = .ok (.getfield 15, 3) := by decide +kernel
theorem dX0_endDay_22 : decode cX0_endDay 22 = .ok (.iload_n 2, 1) := by decide +kernel
theorem dX0_endDay_23 : decode cX0_endDay 23 = .ok (.iaload, 1) := by decide +kernel
theorem dX0_endDay_24 : decode cX0_endDay 24 = .ok (.iload_n 1, 1) := by decide +kernel
theorem dX0_endDay_25 : decode cX0_endDay 25 = .ok (.if_icmp .ne 21, 3) := by decide +kernel
theorem dX0_endDay_28 : decode cX0_endDay 28 = .ok (.aload_n 0, 1) := by decide +kernel
theorem dX0_endDay_29 : decode cX0_endDay 29 = .ok (.getfield 18, 3) := by decide +kernel
theorem dX0_endDay_32 : decode cX0_endDay 32 = .ok (.iload_n 2, 1) := by decide +kernel
theorem dX0_endDay_33 : decode cX0_endDay 33 = .ok (.iconst 3, 1) := by decide +kernel
theorem dX0_endDay_34 : decode cX0_endDay 34 = .ok (.iastore, 1) := by decide +kernel
theorem dX0_endDay_35 : decode cX0_endDay 35 = .ok (.aload_n 0, 1) := by decide +kernel
theorem dX0_endDay_36 : decode cX0_endDay 36 = .ok (.dup, 1) := by decide +kernel
theorem dX0_endDay_37 : decode cX0_endDay 37 = .ok (.getfield 34, 3) := by decide +kernel
theorem dX0_endDay_40 : decode cX0_endDay 40 = .ok (.bipush 50, 2) := by decide +kernel
theorem dX0_endDay_42 : decode cX0_endDay 42 = .ok (.iadd, 1) := by decide +kernel
theorem dX0_endDay_43 : decode cX0_endDay 43 = .ok (.putfield 34, 3) := by decide +kernel
theorem dX0_endDay_46 : decode cX0_endDay 46 = .ok (.iinc 2 1, 3) := by decide +kernel
theorem dX0_endDay_49 : decode cX0_endDay 49 = .ok (.goto (-47), 3) := by decide +kernel
theorem dX0_endDay_52 : decode cX0_endDay 52 = .ok (.return_, 1) := by decide +kernel
theorem dX1_init_0 : decode cX1_init 0 = .ok (.aload_n 0, 1) := by decide +kernel
theorem dX1_init_1 : decode cX1_init 1 = .ok (.invokespecial 3, 3) := by decide +kernel
theorem dX1_init_4 : decode cX1_init 4 = .ok (.aload_n 0, 1) := by decide +kernel
theorem dX1_init_5 : decode cX1_init 5 = .ok (.bipush 6, 2) := by decide +kernel
theorem dX1_init_7 : decode cX1_init 7 = .ok (.newarray .int, 2) := by decide +kernel
theorem dX1_init_9 : decode cX1_init 9 = .ok (.putfield 9, 3) := by decide +kernel
theorem dX1_init_12 : decode cX1_init 12 = .ok (.aload_n 0, 1) := by decide +kernel
theorem dX1_init_13 : decode cX1_init 13 = .ok (.bipush 30, 2) := by decide +kernel
theorem dX1_init_15 : decode cX1_init 15 = .ok (.newarray .int, 2) := by decide +kernel
theorem dX1_init_17 : decode cX1_init 17 = .ok (.putfield 15, 3) := by decide +kernel
theorem dX1_init_20 : decode cX1_init 20 = .ok (.aload_n 0, 1) := by decide +kernel
theorem dX1_init_21 : decode cX1_init 21 = .ok (.bipush 30, 2) := by decide +kernel
theorem dX1_init_23 : decode cX1_init 23 = .ok (.newarray .int, 2) := by decide +kernel
theorem dX1_init_25 : decode cX1_init 25 = .ok (.putfield 18, 3) := by decide +kernel
theorem dX1_init_28 : decode cX1_init 28 = .ok (.return_, 1) := by decide +kernel
theorem dX1_copyFrom_0 : decode cX1_copyFrom 0 = .ok (.aload_n 1, 1) := by decide +kernel
theorem dX1_copyFrom_1 : decode cX1_copyFrom 1 = .ok (.getfield 9, 3) := by decide +kernel
theorem dX1_copyFrom_4 : decode cX1_copyFrom 4 = .ok (.iconst 0, 1) := by decide +kernel
theorem dX1_copyFrom_5 : decode cX1_copyFrom 5 = .ok (.aload_n 0, 1) := by decide +kernel
theorem dX1_copyFrom_6 : decode cX1_copyFrom 6 = .ok (.getfield 9, 3) := by decide +kernel
theorem dX1_copyFrom_9 : decode cX1_copyFrom 9 = .ok (.iconst 0, 1) := by decide +kernel
theorem dX1_copyFrom_10 : decode cX1_copyFrom 10 = .ok (.bipush 6, 2) := by decide +kernel
theorem dX1_copyFrom_12 : decode cX1_copyFrom 12 = .ok (.invokestatic 21, 3) := by decide +kernel
theorem dX1_copyFrom_15 : decode cX1_copyFrom 15 = .ok (.aload_n 1, 1) := by decide +kernel
theorem dX1_copyFrom_16 : decode cX1_copyFrom 16 = .ok (.getfield 15, 3) := by decide +kernel
theorem dX1_copyFrom_19 : decode cX1_copyFrom 19 = .ok (.iconst 0, 1) := by decide +kernel
theorem dX1_copyFrom_20 : decode cX1_copyFrom 20 = .ok (.aload_n 0, 1) := by decide +kernel
theorem dX1_copyFrom_21 : decode cX1_copyFrom 21 = .ok (.getfield 15, 3) := by decide +kernel
theorem dX1_copyFrom_24 : decode cX1_copyFrom 24 = .ok (.iconst 0, 1) := by decide +kernel
theorem dX1_copyFrom_25 : decode cX1_copyFrom 25 = .ok (.bipush 30, 2) := by decide +kernel
theorem dX1_copyFrom_27 : decode cX1_copyFrom 27 = .ok (.invokestatic 21, 3) := by decide +kernel
theorem dX1_copyFrom_30 : decode cX1_copyFrom 30 = .ok (.aload_n 1, 1) := by decide +kernel
theorem dX1_copyFrom_31 : decode cX1_copyFrom 31 = .ok (.getfield 18, 3) := by decide +kernel
theorem dX1_copyFrom_34 : decode cX1_copyFrom 34 = .ok (.iconst 0, 1) := by decide +kernel
theorem dX1_copyFrom_35 : decode cX1_copyFrom 35 = .ok (.aload_n 0, 1) := by decide +kernel
theorem dX1_copyFrom_36 : decode cX1_copyFrom 36 = .ok (.getfield 18, 3) := by decide +kernel
theorem dX1_copyFrom_39 : decode cX1_copyFrom 39 = .ok (.iconst 0, 1) := by decide +kernel
theorem dX1_copyFrom_40 : decode cX1_copyFrom 40 = .ok (.bipush 30, 2) := by decide +kernel
theorem dX1_copyFrom_42 : decode cX1_copyFrom 42 = .ok (.invokestatic 21, 3) := by decide +kernel
theorem dX1_copyFrom_45 : decode cX1_copyFrom 45 = .ok (.return_, 1) := by decide +kernel
theorem dX1_setWeight_0 : decode cX1_setWeight 0 = .ok (.iload_n 1, 1) := by decide +kernel
theorem dX1_setWeight_1 : decode cX1_setWeight 1 = .ok (.ifCond .lt 16, 3) := by decide +kernel
theorem dX1_setWeight_4 : decode cX1_setWeight 4 = .ok (.iload_n 1, 1) := by decide +kernel
theorem dX1_setWeight_5 : decode cX1_setWeight 5 = .ok (.bipush 30, 2) := by decide +kernel
theorem dX1_setWeight_7 : decode cX1_setWeight 7 = .ok (.if_icmp .ge 10, 3) := by decide +kernel
theorem dX1_setWeight_10 : decode cX1_setWeight 10 = .ok (.aload_n 0, 1) := by decide +kernel
theorem dX1_setWeight_11 : decode cX1_setWeight 11 = .ok (.getfield 18, 3) := by decide +kernel
theorem dX1_setWeight_14 : decode cX1_setWeight 14 = .ok (.iload_n 1, 1) := by decide +kernel
theorem dX1_setWeight_15 : decode cX1_setWeight 15 = .ok (.iload_n 2, 1) := by decide +kernel
theorem dX1_setWeight_16 : decode cX1_setWeight 16 = .ok (.iastore, 1) := by decide +kernel
theorem dX1_setWeight_17 : decode cX1_setWeight 17 = .ok (.return_, 1) := by decide +kernel
theorem dX1_weightOf_0 : decode cX1_weightOf 0 = .ok (.iload_n 1, 1) := by decide +kernel
theorem dX1_weightOf_1 : decode cX1_weightOf 1 = .ok (.ifCond .lt 18, 3) := by decide +kernel
theorem dX1_weightOf_4 : decode cX1_weightOf 4 = .ok (.iload_n 1, 1) := by decide +kernel
theorem dX1_weightOf_5 : decode cX1_weightOf 5 = .ok (.bipush 30, 2) := by decide +kernel
theorem dX1_weightOf_7 : decode cX1_weightOf 7 = .ok (.if_icmp .ge 12, 3) := by decide +kernel
theorem dX1_weightOf_10 : decode cX1_weightOf 10 = .ok (.aload_n 0, 1) := by decide +kernel
theorem dX1_weightOf_11 : decode cX1_weightOf 11 = .ok (.getfield 18, 3) := by decide +kernel
theorem dX1_weightOf_14 : decode cX1_weightOf 14 = .ok (.iload_n 1, 1) := by decide +kernel
theorem dX1_weightOf_15 : decode cX1_weightOf 15 = .ok (.iaload, 1) := by decide +kernel
theorem dX1_weightOf_16 : decode cX1_weightOf 16 = .ok (.goto 4, 3) := by decide +kernel
theorem dX1_weightOf_19 : decode cX1_weightOf 19 = .ok (.iconst (-1), 1) := by decide +kernel
theorem dX1_weightOf_20 : decode cX1_weightOf 20 = .ok (.ireturn, 1) := by decide +kernel
theorem dX1_heightOf_0 : decode cX1_heightOf 0 = .ok (.iload_n 1, 1) := by decide +kernel
theorem dX1_heightOf_1 : decode cX1_heightOf 1 = .ok (.ifCond .lt 18, 3) := by decide +kernel
theorem dX1_heightOf_4 : decode cX1_heightOf 4 = .ok (.iload_n 1, 1) := by decide +kernel
theorem dX1_heightOf_5 : decode cX1_heightOf 5 = .ok (.bipush 6, 2) := by decide +kernel
theorem dX1_heightOf_7 : decode cX1_heightOf 7 = .ok (.if_icmp .ge 12, 3) := by decide +kernel
theorem dX1_heightOf_10 : decode cX1_heightOf 10 = .ok (.aload_n 0, 1) := by decide +kernel
theorem dX1_heightOf_11 : decode cX1_heightOf 11 = .ok (.getfield 9, 3) := by decide +kernel
theorem dX1_heightOf_14 : decode cX1_heightOf 14 = .ok (.iload_n 1, 1) := by decide +kernel
theorem dX1_heightOf_15 : decode cX1_heightOf 15 = .ok (.iaload, 1) := by decide +kernel
theorem dX1_heightOf_16 : decode cX1_heightOf 16 = .ok (.goto 4, 3) := by decide +kernel
theorem dX1_heightOf_19 : decode cX1_heightOf 19 = .ok (.iconst 0, 1) := by decide +kernel
theorem dX1_heightOf_20 : decode cX1_heightOf 20 = .ok (.ireturn, 1) := by decide +kernel
theorem dX1_crateAt_0 : decode cX1_crateAt 0 = .ok (.iload_n 2, 1) := by decide +kernel
theorem dX1_crateAt_1 : decode cX1_crateAt 1 = .ok (.ifCond .lt 25, 3) := by decide +kernel
theorem dX1_crateAt_4 : decode cX1_crateAt 4 = .ok (.iload_n 2, 1) := by decide +kernel
theorem dX1_crateAt_5 : decode cX1_crateAt 5 = .ok (.aload_n 0, 1) := by decide +kernel
theorem dX1_crateAt_6 : decode cX1_crateAt 6 = .ok (.iload_n 1, 1) := by decide +kernel
theorem dX1_crateAt_7 : decode cX1_crateAt 7 = .ok (.invokevirtual 27, 3) := by decide +kernel
theorem dX1_crateAt_10 : decode cX1_crateAt 10 = .ok (.if_icmp .ge 16, 3) := by decide +kernel
theorem dX1_crateAt_13 : decode cX1_crateAt 13 = .ok (.aload_n 0, 1) := by decide +kernel
theorem dX1_crateAt_14 : decode cX1_crateAt 14 = .ok (.getfield 15, 3) := by decide +kernel
theorem dX1_crateAt_17 : decode cX1_crateAt 17 = .ok (.iload_n 1, 1) := by decide +kernel
theorem dX1_crateAt_18 : decode cX1_crateAt 18 = .ok (.iconst 5, 1) := by decide +kernel
theorem dX1_crateAt_19 : decode cX1_crateAt 19 = .ok (.imul, 1) := by decide +kernel
theorem dX1_crateAt_20 : decode cX1_crateAt 20 = .ok (.iload_n 2, 1) := by decide +kernel
theorem dX1_crateAt_21 : decode cX1_crateAt 21 = .ok (.iadd, 1) := by decide +kernel
theorem dX1_crateAt_22 : decode cX1_crateAt 22 = .ok (.iaload, 1) := by decide +kernel
theorem dX1_crateAt_23 : decode cX1_crateAt 23 = .ok (.goto 4, 3) := by decide +kernel
theorem dX1_crateAt_26 : decode cX1_crateAt 26 = .ok (.iconst (-1), 1) := by decide +kernel
theorem dX1_crateAt_27 : decode cX1_crateAt 27 = .ok (.ireturn, 1) := by decide +kernel
theorem dX1_topOf_0 : decode cX1_topOf 0 = .ok (.aload_n 0, 1) := by decide +kernel
theorem dX1_topOf_1 : decode cX1_topOf 1 = .ok (.iload_n 1, 1) := by decide +kernel
theorem dX1_topOf_2 : decode cX1_topOf 2 = .ok (.invokevirtual 27, 3) := by decide +kernel
theorem dX1_topOf_5 : decode cX1_topOf 5 = .ok (.istore_n 2, 1) := by decide +kernel
theorem dX1_topOf_6 : decode cX1_topOf 6 = .ok (.iload_n 2, 1) := by decide +kernel
theorem dX1_topOf_7 : decode cX1_topOf 7 = .ok (.ifCond .le 18, 3) := by decide +kernel
theorem dX1_topOf_10 : decode cX1_topOf 10 = .ok (.aload_n 0, 1) := by decide +kernel
theorem dX1_topOf_11 : decode cX1_topOf 11 = .ok (.getfield 15, 3) := by decide +kernel
theorem dX1_topOf_14 : decode cX1_topOf 14 = .ok (.iload_n 1, 1) := by decide +kernel
theorem dX1_topOf_15 : decode cX1_topOf 15 = .ok (.iconst 5, 1) := by decide +kernel
theorem dX1_topOf_16 : decode cX1_topOf 16 = .ok (.imul, 1) := by decide +kernel
theorem dX1_topOf_17 : decode cX1_topOf 17 = .ok (.iload_n 2, 1) := by decide +kernel
theorem dX1_topOf_18 : decode cX1_topOf 18 = .ok (.iadd, 1) := by decide +kernel
theorem dX1_topOf_19 : decode cX1_topOf 19 = .ok (.iconst 1, 1) := by decide +kernel
theorem dX1_topOf_20 : decode cX1_topOf 20 = .ok (.isub, 1) := by decide +kernel
theorem dX1_topOf_21 : decode cX1_topOf 21 = .ok (.iaload, 1) := by decide +kernel
theorem dX1_topOf_22 : decode cX1_topOf 22 = .ok (.goto 4, 3) := by decide +kernel
theorem dX1_topOf_25 : decode cX1_topOf 25 = .ok (.iconst (-1), 1) := by decide +kernel
theorem dX1_topOf_26 : decode cX1_topOf 26 = .ok (.ireturn, 1) := by decide +kernel
theorem dX1_stackHolding_0 : decode cX1_stackHolding 0 = .ok (.iconst 0, 1) := by decide +kernel
theorem dX1_stackHolding_1 : decode cX1_stackHolding 1 = .ok (.istore_n 2, 1) := by decide +kernel
theorem dX1_stackHolding_2 : decode cX1_stackHolding 2 = .ok (.iload_n 2, 1) := by decide +kernel
theorem dX1_stackHolding_3 : decode cX1_stackHolding 3 = .ok (.bipush 6, 2) := by decide +kernel
theorem dX1_stackHolding_5 : decode cX1_stackHolding 5 = .ok (.if_icmp .ge 43, 3) := by decide +kernel
theorem dX1_stackHolding_8 : decode cX1_stackHolding 8 = .ok (.iconst 0, 1) := by decide +kernel
theorem dX1_stackHolding_9 : decode cX1_stackHolding 9 = .ok (.istore_n 3, 1) := by decide +kernel
theorem dX1_stackHolding_10 : decode cX1_stackHolding 10 = .ok (.iload_n 3, 1) := by decide +kernel
theorem dX1_stackHolding_11 : decode cX1_stackHolding 11 = .ok (.aload_n 0, 1) := by decide +kernel
theorem dX1_stackHolding_12 : decode cX1_stackHolding 12 = .ok (.getfield 9, 3) := by decide +kernel
theorem dX1_stackHolding_15 : decode cX1_stackHolding 15 = .ok (.iload_n 2, 1) := by decide +kernel
theorem dX1_stackHolding_16 : decode cX1_stackHolding 16 = .ok (.iaload, 1) := by decide +kernel
theorem dX1_stackHolding_17 : decode cX1_stackHolding 17 = .ok (.if_icmp .ge 25, 3) := by decide +kernel
theorem dX1_stackHolding_20 : decode cX1_stackHolding 20 = .ok (.aload_n 0, 1) := by decide +kernel
theorem dX1_stackHolding_21 : decode cX1_stackHolding 21 = .ok (.getfield 15, 3) := by decide +kernel
theorem dX1_stackHolding_24 : decode cX1_stackHolding 24 = .ok (.iload_n 2, 1) := by decide +kernel
theorem dX1_stackHolding_25 : decode cX1_stackHolding 25 = .ok (.iconst 5, 1) := by decide +kernel
theorem dX1_stackHolding_26 : decode cX1_stackHolding 26 = .ok (.imul, 1) := by decide +kernel
theorem dX1_stackHolding_27 : decode cX1_stackHolding 27 = .ok (.iload_n 3, 1) := by decide +kernel
theorem dX1_stackHolding_28 : decode cX1_stackHolding 28 = .ok (.iadd, 1) := by decide +kernel
theorem dX1_stackHolding_29 : decode cX1_stackHolding 29 = .ok (.iaload, 1) := by decide +kernel
theorem dX1_stackHolding_30 : decode cX1_stackHolding 30 = .ok (.iload_n 1, 1) := by decide +kernel
theorem dX1_stackHolding_31 : decode cX1_stackHolding 31 = .ok (.if_icmp .ne 5, 3) := by decide +kernel
theorem dX1_stackHolding_34 : decode cX1_stackHolding 34 = .ok (.iload_n 2, 1) := by decide +kernel
theorem dX1_stackHolding_35 : decode cX1_stackHolding 35 = .ok (.ireturn, 1) := by decide +kernel
theorem dX1_stackHolding_36 : decode cX1_stackHolding 36 = .ok (.iinc 3 1, 3) := by decide +kernel
theorem dX1_stackHolding_39 : decode cX1_stackHolding 39 = .ok (.goto (-29), 3) := by decide +kernel
theorem dX1_stackHolding_42 : decode cX1_stackHolding 42 = .ok (.iinc 2 1, 3) := by decide +kernel
theorem dX1_stackHolding_45 : decode cX1_stackHolding 45 = .ok (.goto (-43), 3) := by decide +kernel
theorem dX1_stackHolding_48 : decode cX1_stackHolding 48 = .ok (.iconst (-1), 1) := by decide +kernel
theorem dX1_stackHolding_49 : decode cX1_stackHolding 49 = .ok (.ireturn, 1) := by decide +kernel
theorem dX1_canTake_0 : decode cX1_canTake 0 = .ok (.aload_n 0, 1) := by decide +kernel
theorem dX1_canTake_1 : decode cX1_canTake 1 = .ok (.iload_n 1, 1) := by decide +kernel
theorem dX1_canTake_2 : decode cX1_canTake 2 = .ok (.invokevirtual 27, 3) := by decide +kernel
theorem dX1_canTake_5 : decode cX1_canTake 5 = .ok (.istore 4, 2) := by decide +kernel
theorem dX1_canTake_7 : decode cX1_canTake 7 = .ok (.iload 4, 2) := by decide +kernel
theorem dX1_canTake_9 : decode cX1_canTake 9 = .ok (.iload_n 3, 1) := by decide +kernel
theorem dX1_canTake_10 : decode cX1_canTake 10 = .ok (.if_icmp .ge 25, 3) := by decide +kernel
theorem dX1_canTake_13 : decode cX1_canTake 13 = .ok (.iload 4, 2) := by decide +kernel
theorem dX1_canTake_15 : decode cX1_canTake 15 = .ok (.ifCond .eq 16, 3) := by decide +kernel
theorem dX1_canTake_18 : decode cX1_canTake 18 = .ok (.aload_n 0, 1) := by decide +kernel
theorem dX1_canTake_19 : decode cX1_canTake 19 = .ok (.aload_n 0, 1) := by decide +kernel
theorem dX1_canTake_20 : decode cX1_canTake 20 = .ok (.iload_n 1, 1) := by decide +kernel
theorem dX1_canTake_21 : decode cX1_canTake 21 = .ok (.invokevirtual 31, 3) := by decide +kernel
theorem dX1_canTake_24 : decode cX1_canTake 24 = .ok (.invokevirtual 34, 3) := by decide +kernel
theorem dX1_canTake_27 : decode cX1_canTake 27 = .ok (.iload_n 2, 1) := by decide +kernel
theorem dX1_canTake_28 : decode cX1_canTake 28 = .ok (.if_icmp .lt 7, 3) := by decide +kernel
theorem dX1_canTake_31 : decode cX1_canTake 31 = .ok (.iconst 1, 1) := by decide +kernel
theorem dX1_canTake_32 : decode cX1_canTake 32 = .ok (.goto 4, 3) := by decide +kernel
theorem dX1_canTake_35 : decode cX1_canTake 35 = .ok (.iconst 0, 1) := by decide +kernel
theorem dX1_canTake_36 : decode cX1_canTake 36 = .ok (.ireturn, 1) := by decide +kernel
theorem dX1_put_0 : decode cX1_put 0 = .ok (.aload_n 0, 1) := by decide +kernel
theorem dX1_put_1 : decode cX1_put 1 = .ok (.iload_n 1, 1) := by decide +kernel
theorem dX1_put_2 : decode cX1_put 2 = .ok (.invokevirtual 27, 3) := by decide +kernel
theorem dX1_put_5 : decode cX1_put 5 = .ok (.istore_n 3, 1) := by decide +kernel
theorem dX1_put_6 : decode cX1_put 6 = .ok (.iload_n 1, 1) := by decide +kernel
theorem dX1_put_7 : decode cX1_put 7 = .ok (.ifCond .lt 34, 3) := by decide +kernel
theorem dX1_put_10 : decode cX1_put 10 = .ok (.iload_n 1, 1) := by decide +kernel
theorem dX1_put_11 : decode cX1_put 11 = .ok (.bipush 6, 2) := by decide +kernel
theorem dX1_put_13 : decode cX1_put 13 = .ok (.if_icmp .ge 28, 3) := by decide +kernel
theorem dX1_put_16 : decode cX1_put 16 = .ok (.iload_n 3, 1) := by decide +kernel
theorem dX1_put_17 : decode cX1_put 17 = .ok (.iconst 5, 1) := by decide +kernel
theorem dX1_put_18 : decode cX1_put 18 = .ok (.if_icmp .ge 23, 3) := by decide +kernel
theorem dX1_put_21 : decode cX1_put 21 = .ok (.aload_n 0, 1) := by decide +kernel
theorem dX1_put_22 : decode cX1_put 22 = .ok (.getfield 15, 3) := by decide +kernel
theorem dX1_put_25 : decode cX1_put 25 = .ok (.iload_n 1, 1) := by decide +kernel
theorem dX1_put_26 : decode cX1_put 26 = .ok (.iconst 5, 1) := by decide +kernel
theorem dX1_put_27 : decode cX1_put 27 = .ok (.imul, 1) := by decide +kernel
theorem dX1_put_28 : decode cX1_put 28 = .ok (.iload_n 3, 1) := by decide +kernel
theorem dX1_put_29 : decode cX1_put 29 = .ok (.iadd, 1) := by decide +kernel
theorem dX1_put_30 : decode cX1_put 30 = .ok (.iload_n 2, 1) := by decide +kernel
theorem dX1_put_31 : decode cX1_put 31 = .ok (.iastore, 1) := by decide +kernel
theorem dX1_put_32 : decode cX1_put 32 = .ok (.aload_n 0, 1) := by decide +kernel
theorem dX1_put_33 : decode cX1_put 33 = .ok (.getfield 9, 3) := by decide +kernel
theorem dX1_put_36 : decode cX1_put 36 = .ok (.iload_n 1, 1) := by decide +kernel
theorem dX1_put_37 : decode cX1_put 37 = .ok (.iload_n 3, 1) := by decide +kernel
theorem dX1_put_38 : decode cX1_put 38 = .ok (.iconst 1, 1) := by decide +kernel
theorem dX1_put_39 : decode cX1_put 39 = .ok (.iadd, 1) := by decide +kernel
theorem dX1_put_40 : decode cX1_put 40 = .ok (.iastore, 1) := by decide +kernel
theorem dX1_put_41 : decode cX1_put 41 = .ok (.return_, 1) := by decide +kernel
theorem dX1_takeTop_0 : decode cX1_takeTop 0 = .ok (.aload_n 0, 1) := by decide +kernel
theorem dX1_takeTop_1 : decode cX1_takeTop 1 = .ok (.iload_n 1, 1) := by decide +kernel
theorem dX1_takeTop_2 : decode cX1_takeTop 2 = .ok (.invokevirtual 31, 3) := by decide +kernel
theorem dX1_takeTop_5 : decode cX1_takeTop 5 = .ok (.istore_n 2, 1) := by decide +kernel
theorem dX1_takeTop_6 : decode cX1_takeTop 6 = .ok (.iload_n 2, 1) := by decide +kernel
theorem dX1_takeTop_7 : decode cX1_takeTop 7 = .ok (.iconst (-1), 1) := by decide +kernel
theorem dX1_takeTop_8 : decode cX1_takeTop 8 = .ok (.if_icmp .eq 13, 3) := by decide +kernel
theorem dX1_takeTop_11 : decode cX1_takeTop 11 = .ok (.aload_n 0, 1) := by decide +kernel
theorem dX1_takeTop_12 : decode cX1_takeTop 12 = .ok (.getfield 9, 3) := by decide +kernel
theorem dX1_takeTop_15 : decode cX1_takeTop 15 = .ok (.iload_n 1, 1) := by decide +kernel
theorem dX1_takeTop_16 : decode cX1_takeTop 16 = .ok (.dup2, 1) := by decide +kernel
theorem dX1_takeTop_17 : decode cX1_takeTop 17 = .ok (.iaload, 1) := by decide +kernel
theorem dX1_takeTop_18 : decode cX1_takeTop 18 = .ok (.iconst 1, 1) := by decide +kernel
theorem dX1_takeTop_19 : decode cX1_takeTop 19 = .ok (.isub, 1) := by decide +kernel
theorem dX1_takeTop_20 : decode cX1_takeTop 20 = .ok (.iastore, 1) := by decide +kernel
theorem dX1_takeTop_21 : decode cX1_takeTop 21 = .ok (.iload_n 2, 1) := by decide +kernel
theorem dX1_takeTop_22 : decode cX1_takeTop 22 = .ok (.ireturn, 1) := by decide +kernel
theorem dX1_digOut_0 : decode cX1_digOut 0 = .ok (.aload_n 0, 1) := by decide +kernel
theorem dX1_digOut_1 : decode cX1_digOut 1 = .ok (.iload_n 1, 1) := by decide +kernel
theorem dX1_digOut_2 : decode cX1_digOut 2 = .ok (.invokevirtual 37, 3) := by decide +kernel
theorem dX1_digOut_5 : decode cX1_digOut 5 = .ok (.istore_n 3, 1) := by decide +kernel
theorem dX1_digOut_6 : decode cX1_digOut 6 = .ok (.iload_n 3, 1) := by decide +kernel
theorem dX1_digOut_7 : decode cX1_digOut 7 = .ok (.iconst (-1), 1) := by decide +kernel
theorem dX1_digOut_8 : decode cX1_digOut 8 = .ok (.if_icmp .ne 5, 3) := by decide +kernel
theorem dX1_digOut_11 : decode cX1_digOut 11 = .ok (.iconst (-1), 1) := by decide +kernel
theorem dX1_digOut_12 : decode cX1_digOut 12 = .ok (.ireturn, 1) := by decide +kernel
theorem dX1_digOut_13 : decode cX1_digOut 13 = .ok (.iconst 1, 1) := by decide +kernel
theorem dX1_digOut_14 : decode cX1_digOut 14 = .ok (.istore 4, 2) := by decide +kernel
theorem dX1_digOut_16 : decode cX1_digOut 16 = .ok (.iload 4, 2) := by decide +kernel
theorem dX1_digOut_18 : decode cX1_digOut 18 = .ok (.iconst 5, 1) := by decide +kernel
theorem dX1_digOut_19 : decode cX1_digOut 19 = .ok (.if_icmp .gt 55, 3) := by decide +kernel
theorem dX1_digOut_22 : decode cX1_digOut 22 = .ok (.aload_n 0, 1) := by decide +kernel
theorem dX1_digOut_23 : decode cX1_digOut 23 = .ok (.iload_n 3, 1) := by decide +kernel
theorem dX1_digOut_24 : decode cX1_digOut 24 = .ok (.invokevirtual 40, 3) := by decide +kernel
theorem dX1_digOut_27 : decode cX1_digOut 27 = .ok (.istore 5, 2) := by decide +kernel
theorem dX1_digOut_29 : decode cX1_digOut 29 = .ok (.iload 5, 2) := by decide +kernel
theorem dX1_digOut_31 : decode cX1_digOut 31 = .ok (.iload_n 1, 1) := by decide +kernel
theorem dX1_digOut_32 : decode cX1_digOut 32 = .ok (.if_icmp .ne 6, 3) := by decide +kernel
theorem dX1_digOut_35 : decode cX1_digOut 35 = .ok (.iload 4, 2) := by decide +kernel
theorem dX1_digOut_37 : decode cX1_digOut 37 = .ok (.ireturn, 1) := by decide +kernel
theorem dX1_digOut_38 : decode cX1_digOut 38 = .ok (.aload_n 0, 1) := by decide +kernel
theorem dX1_digOut_39 : decode cX1_digOut 39 = .ok (.aload_n 0, 1) := by decide +kernel
theorem dX1_digOut_40 : decode cX1_digOut 40 = .ok (.iload 5, 2) := by decide +kernel
theorem dX1_digOut_42 : decode cX1_digOut 42 = .ok (.invokevirtual 34, 3) := by decide +kernel
theorem dX1_digOut_45 : decode cX1_digOut 45 = .ok (.iload_n 3, 1) := by decide +kernel
theorem dX1_digOut_46 : decode cX1_digOut 46 = .ok (.iload_n 2, 1) := by decide +kernel
theorem dX1_digOut_47 : decode cX1_digOut 47 = .ok (.invokevirtual 43, 3) := by decide +kernel
theorem dX1_digOut_50 : decode cX1_digOut 50 = .ok (.istore 6, 2) := by decide +kernel
theorem dX1_digOut_52 : decode cX1_digOut 52 = .ok (.iload 6, 2) := by decide +kernel
theorem dX1_digOut_54 : decode cX1_digOut 54 = .ok (.iconst (-1), 1) := by decide +kernel
theorem dX1_digOut_55 : decode cX1_digOut 55 = .ok (.if_icmp .ne 5, 3) := by decide +kernel
theorem dX1_digOut_58 : decode cX1_digOut 58 = .ok (.iconst (-1), 1) := by decide +kernel
theorem dX1_digOut_59 : decode cX1_digOut 59 = .ok (.ireturn, 1) := by decide +kernel
theorem dX1_digOut_60 : decode cX1_digOut 60 = .ok (.aload_n 0, 1) := by decide +kernel
theorem dX1_digOut_61 : decode cX1_digOut 61 = .ok (.iload 6, 2) := by decide +kernel
theorem dX1_digOut_63 : decode cX1_digOut 63 = .ok (.iload 5, 2) := by decide +kernel
theorem dX1_digOut_65 : decode cX1_digOut 65 = .ok (.invokevirtual 47, 3) := by decide +kernel
theorem dX1_digOut_68 : decode cX1_digOut 68 = .ok (.iinc 4 1, 3) := by decide +kernel
theorem dX1_digOut_71 : decode cX1_digOut 71 = .ok (.goto (-55), 3) := by decide +kernel
theorem dX1_digOut_74 : decode cX1_digOut 74 = .ok (.iconst (-1), 1) := by decide +kernel
theorem dX1_digOut_75 : decode cX1_digOut 75 = .ok (.ireturn, 1) := by decide +kernel
theorem dX1_targetFor_0 : decode cX1_targetFor 0 = .ok (.iconst (-1), 1) := by decide +kernel
theorem dX1_targetFor_1 : decode cX1_targetFor 1 = .ok (.istore 4, 2) := by decide +kernel
theorem dX1_targetFor_3 : decode cX1_targetFor 3 = .ok (.iconst 0, 1) := by decide +kernel
theorem dX1_targetFor_4 : decode cX1_targetFor 4 = .ok (.istore 5, 2) := by decide +kernel
theorem dX1_targetFor_6 : decode cX1_targetFor 6 = .ok (.iload 5, 2) := by decide +kernel
theorem dX1_targetFor_8 : decode cX1_targetFor 8 = .ok (.bipush 6, 2) := by decide +kernel
theorem dX1_targetFor_10 : decode cX1_targetFor 10 = .ok (.if_icmp .ge 51, 3) := by decide +kernel
theorem dX1_targetFor_13 : decode cX1_targetFor 13 = .ok (.iload 5, 2) := by decide +kernel
theorem dX1_targetFor_15 : decode cX1_targetFor 15 = .ok (.iload_n 2, 1) := by decide +kernel
theorem dX1_targetFor_16 : decode cX1_targetFor 16 = .ok (.if_icmp .eq 39, 3) := by decide +kernel
theorem dX1_targetFor_19 : decode cX1_targetFor 19 = .ok (.aload_n 0, 1) := by decide +kernel
theorem dX1_targetFor_20 : decode cX1_targetFor 20 = .ok (.iload 5, 2) := by decide +kernel
theorem dX1_targetFor_22 : decode cX1_targetFor 22 = .ok (.iload_n 1, 1) := by decide +kernel
theorem dX1_targetFor_23 : decode cX1_targetFor 23 = .ok (.iload_n 3, 1) := by decide +kernel
theorem dX1_targetFor_24 : decode cX1_targetFor 24 = .ok (.invokevirtual 51, 3) := by decide +kernel
theorem dX1_targetFor_27 : decode cX1_targetFor 27 = .ok (.ifCond .eq 28, 3) := by decide +kernel
theorem dX1_targetFor_30 : decode cX1_targetFor 30 = .ok (.iload 4, 2) := by decide +kernel
theorem dX1_targetFor_32 : decode cX1_targetFor 32 = .ok (.iconst (-1), 1) := by decide +kernel
theorem dX1_targetFor_33 : decode cX1_targetFor 33 = .ok (.if_icmp .eq 18, 3) := by decide +kernel
theorem dX1_targetFor_36 : decode cX1_targetFor 36 = .ok (.aload_n 0, 1) := by decide +kernel
theorem dX1_targetFor_37 : decode cX1_targetFor 37 = .ok (.iload 5, 2) := by decide +kernel
theorem dX1_targetFor_39 : decode cX1_targetFor 39 = .ok (.invokevirtual 27, 3) := by decide +kernel
theorem dX1_targetFor_42 : decode cX1_targetFor 42 = .ok (.aload_n 0, 1) := by decide +kernel
theorem dX1_targetFor_43 : decode cX1_targetFor 43 = .ok (.iload 4, 2) := by decide +kernel
theorem dX1_targetFor_45 : decode cX1_targetFor 45 = .ok (.invokevirtual 27, 3) := by decide +kernel
theorem dX1_targetFor_48 : decode cX1_targetFor 48 = .ok (.if_icmp .ge 7, 3) := by decide +kernel
theorem dX1_targetFor_51 : decode cX1_targetFor 51 = .ok (.iload 5, 2) := by decide +kernel
theorem dX1_targetFor_53 : decode cX1_targetFor 53 = .ok (.istore 4, 2) := by decide +kernel
theorem dX1_targetFor_55 : decode cX1_targetFor 55 = .ok (.iinc 5 1, 3) := by decide +kernel
theorem dX1_targetFor_58 : decode cX1_targetFor 58 = .ok (.goto (-52), 3) := by decide +kernel
theorem dX1_targetFor_61 : decode cX1_targetFor 61 = .ok (.iload 4, 2) := by decide +kernel
theorem dX1_targetFor_63 : decode cX1_targetFor 63 = .ok (.ireturn, 1) := by decide +kernel
theorem dX1_cratesAbove_0 : decode cX1_cratesAbove 0 = .ok (.iconst 0, 1) := by decide +kernel
theorem dX1_cratesAbove_1 : decode cX1_cratesAbove 1 = .ok (.istore_n 2, 1) := by decide +kernel
theorem dX1_cratesAbove_2 : decode cX1_cratesAbove 2 = .ok (.iconst 0, 1) := by decide +kernel
theorem dX1_cratesAbove_3 : decode cX1_cratesAbove 3 = .ok (.istore_n 3, 1) := by decide +kernel
theorem dX1_cratesAbove_4 : decode cX1_cratesAbove 4 = .ok (.iload_n 3, 1) := by decide +kernel
theorem dX1_cratesAbove_5 : decode cX1_cratesAbove 5 = .ok (.bipush 6, 2) := by decide +kernel
theorem dX1_cratesAbove_7 : decode cX1_cratesAbove 7 = .ok (.if_icmp .ge 24, 3) := by decide +kernel
theorem dX1_cratesAbove_10 : decode cX1_cratesAbove 10 = .ok (.iload_n 2, 1) := by decide +kernel
theorem dX1_cratesAbove_11 : decode cX1_cratesAbove 11 = .ok (.iconst 0, 1) := by decide +kernel
theorem dX1_cratesAbove_12 : decode cX1_cratesAbove 12 = .ok (.aload_n 0, 1) := by decide +kernel
theorem dX1_cratesAbove_13 : decode cX1_cratesAbove 13 = .ok (.getfield 9, 3) := by decide +kernel
theorem dX1_cratesAbove_16 : decode cX1_cratesAbove 16 = .ok (.iload_n 3, 1) := by decide +kernel
theorem dX1_cratesAbove_17 : decode cX1_cratesAbove 17 = .ok (.iaload, 1) := by decide +kernel
theorem dX1_cratesAbove_18 : decode cX1_cratesAbove 18 = .ok (.iload_n 1, 1) := by decide +kernel
theorem dX1_cratesAbove_19 : decode cX1_cratesAbove 19 = .ok (.isub, 1) := by decide +kernel
theorem dX1_cratesAbove_20 : decode cX1_cratesAbove 20 = .ok (.invokestatic 55, 3) := by decide +kernel
theorem dX1_cratesAbove_23 : decode cX1_cratesAbove 23 = .ok (.iadd, 1) := by decide +kernel
theorem dX1_cratesAbove_24 : decode cX1_cratesAbove 24 = .ok (.istore_n 2, 1) := by decide +kernel
theorem dX1_cratesAbove_25 : decode cX1_cratesAbove 25 = .ok (.iinc 3 1, 3) := by decide +kernel
theorem dX1_cratesAbove_28 : decode cX1_cratesAbove 28 = .ok (.goto (-24), 3) := by decide +kernel
theorem dX1_cratesAbove_31 : decode cX1_cratesAbove 31 = .ok (.iload_n 2, 1) := by decide +kernel
theorem dX1_cratesAbove_32 : decode cX1_cratesAbove 32 = .ok (.ireturn, 1) := by decide +kernel
theorem dX1_feeOfOneDay_0 : decode cX1_feeOfOneDay 0 = .ok (.iconst 0, 1) := by decide +kernel
theorem dX1_feeOfOneDay_1 : decode cX1_feeOfOneDay 1 = .ok (.istore_n 1, 1) := by decide +kernel
theorem dX1_feeOfOneDay_2 : decode cX1_feeOfOneDay 2 = .ok (.iconst 0, 1) := by decide +kernel
theorem dX1_feeOfOneDay_3 : decode cX1_feeOfOneDay 3 = .ok (.istore_n 2, 1) := by decide +kernel
theorem dX1_feeOfOneDay_4 : decode cX1_feeOfOneDay 4 = .ok (.iload_n 2, 1) := by decide +kernel
theorem dX1_feeOfOneDay_5 : decode cX1_feeOfOneDay 5 = .ok (.bipush 6, 2) := by decide +kernel
theorem dX1_feeOfOneDay_7 : decode cX1_feeOfOneDay 7 = .ok (.if_icmp .ge 29, 3) := by decide +kernel
theorem dX1_feeOfOneDay_10 : decode cX1_feeOfOneDay 10 = .ok (.iload_n 1, 1) := by decide +kernel
theorem dX1_feeOfOneDay_11 : decode cX1_feeOfOneDay 11 = .ok (.aload_n 0, 1) := by decide +kernel
theorem dX1_feeOfOneDay_12 : decode cX1_feeOfOneDay 12 = .ok (.getfield 9, 3) := by decide +kernel
theorem dX1_feeOfOneDay_15 : decode cX1_feeOfOneDay 15 = .ok (.iload_n 2, 1) := by decide +kernel
theorem dX1_feeOfOneDay_16 : decode cX1_feeOfOneDay 16 = .ok (.iaload, 1) := by decide +kernel
theorem dX1_feeOfOneDay_17 : decode cX1_feeOfOneDay 17 = .ok (.aload_n 0, 1) := by decide +kernel
theorem dX1_feeOfOneDay_18 : decode cX1_feeOfOneDay 18 = .ok (.getfield 9, 3) := by decide +kernel
theorem dX1_feeOfOneDay_21 : decode cX1_feeOfOneDay 21 = .ok (.iload_n 2, 1) := by decide +kernel
theorem dX1_feeOfOneDay_22 : decode cX1_feeOfOneDay 22 = .ok (.iaload, 1) := by decide +kernel
theorem dX1_feeOfOneDay_23 : decode cX1_feeOfOneDay 23 = .ok (.iconst 1, 1) := by decide +kernel
theorem dX1_feeOfOneDay_24 : decode cX1_feeOfOneDay 24 = .ok (.isub, 1) := by decide +kernel
theorem dX1_feeOfOneDay_25 : decode cX1_feeOfOneDay 25 = .ok (.imul, 1) := by decide +kernel
theorem dX1_feeOfOneDay_26 : decode cX1_feeOfOneDay 26 = .ok (.iconst 2, 1) := by decide +kernel
theorem dX1_feeOfOneDay_27 : decode cX1_feeOfOneDay 27 = .ok (.idiv, 1) := by decide +kernel
theorem dX1_feeOfOneDay_28 : decode cX1_feeOfOneDay 28 = .ok (.iadd, 1) := by decide +kernel
theorem dX1_feeOfOneDay_29 : decode cX1_feeOfOneDay 29 = .ok (.istore_n 1, 1) := by decide +kernel
theorem dX1_feeOfOneDay_30 : decode cX1_feeOfOneDay 30 = .ok (.iinc 2 1, 3) := by decide +kernel
theorem dX1_feeOfOneDay_33 : decode cX1_feeOfOneDay 33 = .ok (.goto (-29), 3) := by decide +kernel
theorem dX1_feeOfOneDay_36 : decode cX1_feeOfOneDay 36 = .ok (.iload_n 1, 1) := by decide +kernel
theorem dX1_feeOfOneDay_37 : decode cX1_feeOfOneDay 37 = .ok (.ireturn, 1) := by decide +kernel
theorem dX2_init_0 : decode cX2_init 0 = .ok (.aload_n 0, 1) := by decide +kernel
theorem dX2_init_1 : decode cX2_init 1 = .ok (.invokespecial 3, 3) := by decide +kernel
theorem dX2_init_4 : decode cX2_init 4 = .ok (.aload_n 0, 1) := by decide +kernel
theorem dX2_init_5 : decode cX2_init 5 = .ok (.bipush 32, 2) := by decide +kernel
theorem dX2_init_7 : decode cX2_init 7 = .ok (.newarray .int, 2) := by decide +kernel
theorem dX2_init_9 : decode cX2_init 9 = .ok (.putfield 9, 3) := by decide +kernel
theorem dX2_init_12 : decode cX2_init 12 = .ok (.aload_n 0, 1) := by decide +kernel
theorem dX2_init_13 : decode cX2_init 13 = .ok (.bipush 8, 2) := by decide +kernel
theorem dX2_init_15 : decode cX2_init 15 = .ok (.newarray .int, 2) := by decide +kernel
theorem dX2_init_17 : decode cX2_init 17 = .ok (.putfield 15, 3) := by decide +kernel
theorem dX2_init_20 : decode cX2_init 20 = .ok (.aload_n 0, 1) := by decide +kernel
theorem dX2_init_21 : decode cX2_init 21 = .ok (.bipush 8, 2) := by decide +kernel
theorem dX2_init_23 : decode cX2_init 23 = .ok (.newarray .boolean, 2) := by decide +kernel
theorem dX2_init_25 : decode cX2_init 25 = .ok (.putfield 18, 3) := by decide +kernel
theorem dX2_init_28 : decode cX2_init 28 = .ok (.aload_n 0, 1) := by decide +kernel
theorem dX2_init_29 : decode cX2_init 29 = .ok (.iconst 0, 1) := by decide +kernel
theorem dX2_init_30 : decode cX2_init 30 = .ok (.putfield 22, 3) := by decide +kernel
theorem dX2_init_33 : decode cX2_init 33 = .ok (.aload_n 0, 1) := by decide +kernel
theorem dX2_init_34 : decode cX2_init 34 = .ok (.iconst 0, 1) := by decide +kernel
theorem dX2_init_35 : decode cX2_init 35 = .ok (.putfield 26, 3) := by decide +kernel
theorem dX2_init_38 : decode cX2_init 38 = .ok (.return_, 1) := by decide +kernel
theorem dX2_number_0 : decode cX2_number 0 = .ok (.aload_n 0, 1) := by decide +kernel
theorem dX2_number_1 : decode cX2_number 1 = .ok (.getfield 22, 3) := by decide +kernel
theorem dX2_number_4 : decode cX2_number 4 = .ok (.ireturn, 1) := by decide +kernel
theorem dX2_paidInAll_0 : decode cX2_paidInAll 0 = .ok (.aload_n 0, 1) := by decide +kernel
theorem dX2_paidInAll_1 : decode cX2_paidInAll 1 = .ok (.getfield 26, 3) := by decide +kernel
theorem dX2_paidInAll_4 : decode cX2_paidInAll 4 = .ok (.ireturn, 1) := by decide +kernel
theorem dX2_add_0 : decode cX2_add 0 = .ok (.aload_n 0, 1) := by decide +kernel
theorem dX2_add_1 : decode cX2_add 1 = .ok (.getfield 22, 3) := by decide +kernel
theorem dX2_add_4 : decode cX2_add 4 = .ok (.bipush 8, 2) := by decide +kernel
theorem dX2_add_6 : decode cX2_add 6 = .ok (.if_icmp .lt 5, 3) := by decide +kernel
theorem dX2_add_9 : decode cX2_add 9 = .ok (.iconst (-1), 1) := by decide +kernel
theorem dX2_add_10 : decode cX2_add 10 = .ok (.ireturn, 1) := by decide +kernel
theorem dX2_add_11 : decode cX2_add 11 = .ok (.aload_n 0, 1) := by decide +kernel
theorem dX2_add_12 : decode cX2_add 12 = .ok (.getfield 22, 3) := by decide +kernel
theorem dX2_add_15 : decode cX2_add 15 = .ok (.istore 5, 2) := by decide +kernel
theorem dX2_add_17 : decode cX2_add 17 = .ok (.aload_n 0, 1) := by decide +kernel
theorem dX2_add_18 : decode cX2_add 18 = .ok (.dup, 1) := by decide +kernel
theorem dX2_add_19 : decode cX2_add 19 = .ok (.getfield 22, 3) := by decide +kernel
theorem dX2_add_22 : decode cX2_add 22 = .ok (.iconst 1, 1) := by decide +kernel
theorem dX2_add_23 : decode cX2_add 23 = .ok (.iadd, 1) := by decide +kernel
theorem dX2_add_24 : decode cX2_add 24 = .ok (.putfield 22, 3) := by decide +kernel
theorem dX2_add_27 : decode cX2_add 27 = .ok (.iload 5, 2) := by decide +kernel
theorem dX2_add_29 : decode cX2_add 29 = .ok (.iconst 4, 1) := by decide +kernel
theorem dX2_add_30 : decode cX2_add 30 = .ok (.imul, 1) := by decide +kernel
theorem dX2_add_31 : decode cX2_add 31 = .ok (.istore 6, 2) := by decide +kernel
theorem dX2_add_33 : decode cX2_add 33 = .ok (.aload_n 0, 1) := by decide +kernel
theorem dX2_add_34 : decode cX2_add 34 = .ok (.getfield 9, 3) := by decide +kernel
theorem dX2_add_37 : decode cX2_add 37 = .ok (.iload 6, 2) := by decide +kernel
theorem dX2_add_39 : decode cX2_add 39 = .ok (.iload_n 1, 1) := by decide +kernel
theorem dX2_add_40 : decode cX2_add 40 = .ok (.iastore, 1) := by decide +kernel
theorem dX2_add_41 : decode cX2_add 41 = .ok (.aload_n 0, 1) := by decide +kernel
theorem dX2_add_42 : decode cX2_add 42 = .ok (.getfield 9, 3) := by decide +kernel
theorem dX2_add_45 : decode cX2_add 45 = .ok (.iload 6, 2) := by decide +kernel
theorem dX2_add_47 : decode cX2_add 47 = .ok (.iconst 1, 1) := by decide +kernel
theorem dX2_add_48 : decode cX2_add 48 = .ok (.iadd, 1) := by decide +kernel
theorem dX2_add_49 : decode cX2_add 49 = .ok (.iload_n 2, 1) := by decide +kernel
theorem dX2_add_50 : decode cX2_add 50 = .ok (.iastore, 1) := by decide +kernel
theorem dX2_add_51 : decode cX2_add 51 = .ok (.aload_n 0, 1) := by decide +kernel
theorem dX2_add_52 : decode cX2_add 52 = .ok (.getfield 9, 3) := by decide +kernel
theorem dX2_add_55 : decode cX2_add 55 = .ok (.iload 6, 2) := by decide +kernel
theorem dX2_add_57 : decode cX2_add 57 = .ok (.iconst 2, 1) := by decide +kernel
theorem dX2_add_58 : decode cX2_add 58 = .ok (.iadd, 1) := by decide +kernel
theorem dX2_add_59 : decode cX2_add 59 = .ok (.iload_n 3, 1) := by decide +kernel
theorem dX2_add_60 : decode cX2_add 60 = .ok (.iastore, 1) := by decide +kernel
theorem dX2_add_61 : decode cX2_add 61 = .ok (.aload_n 0, 1) := by decide +kernel
theorem dX2_add_62 : decode cX2_add 62 = .ok (.getfield 9, 3) := by decide +kernel
theorem dX2_add_65 : decode cX2_add 65 = .ok (.iload 6, 2) := by decide +kernel
theorem dX2_add_67 : decode cX2_add 67 = .ok (.iconst 3, 1) := by decide +kernel
theorem dX2_add_68 : decode cX2_add 68 = .ok (.iadd, 1) := by decide +kernel
theorem dX2_add_69 : decode cX2_add 69 = .ok (.iload 4, 2) := by decide +kernel
theorem dX2_add_71 : decode cX2_add 71 = .ok (.iastore, 1) := by decide +kernel
theorem dX2_add_72 : decode cX2_add 72 = .ok (.aload_n 0, 1) := by decide +kernel
theorem dX2_add_73 : decode cX2_add 73 = .ok (.getfield 15, 3) := by decide +kernel
theorem dX2_add_76 : decode cX2_add 76 = .ok (.iload 5, 2) := by decide +kernel
theorem dX2_add_78 : decode cX2_add 78 = .ok (.iload_n 3, 1) := by decide +kernel
theorem dX2_add_79 : decode cX2_add 79 = .ok (.iconst (-1), 1) := by decide +kernel
theorem dX2_add_80 : decode cX2_add 80 = .ok (.if_icmp .ne 7, 3) := by decide +kernel
theorem dX2_add_83 : decode cX2_add 83 = .ok (.iconst 2, 1) := by decide +kernel
theorem dX2_add_84 : decode cX2_add 84 = .ok (.goto 14, 3) := by decide +kernel
theorem dX2_add_87 : decode cX2_add 87 = .ok (.iload 4, 2) := by decide +kernel
theorem dX2_add_89 : decode cX2_add 89 = .ok (.iconst (-1), 1) := by decide +kernel
theorem dX2_add_90 : decode cX2_add 90 = .ok (.if_icmp .ne 7, 3) := by decide +kernel
theorem dX2_add_93 : decode cX2_add 93 = .ok (.iconst 3, 1) := by decide +kernel
theorem dX2_add_94 : decode cX2_add 94 = .ok (.goto 4, 3) := by decide +kernel
theorem dX2_add_97 : decode cX2_add 97 = .ok (.iconst 4, 1) := by decide +kernel
theorem dX2_add_98 : decode cX2_add 98 = .ok (.iastore, 1) := by decide +kernel
theorem dX2_add_99 : decode cX2_add 99 = .ok (.iload 5, 2) := by decide +kernel
theorem dX2_add_101 : decode cX2_add 101 = .ok (.ireturn, 1) := by decide +kernel
theorem dX2_payShown_0 : decode cX2_payShown 0 = .ok (.iconst 0, 1) := by decide +kernel
theorem dX2_payShown_1 : decode cX2_payShown 1 = .ok (.istore_n 3, 1) := by decide +kernel
theorem dX2_payShown_2 : decode cX2_payShown 2 = .ok (.iload_n 3, 1) := by decide +kernel
theorem dX2_payShown_3 : decode cX2_payShown 3 = .ok (.aload_n 0, 1) := by decide +kernel
theorem dX2_payShown_4 : decode cX2_payShown 4 = .ok (.getfield 22, 3) := by decide +kernel
theorem dX2_payShown_7 : decode cX2_payShown 7 = .ok (.if_icmp .ge 53, 3) := by decide +kernel
theorem dX2_payShown_10 : decode cX2_payShown 10 = .ok (.aload_n 0, 1) := by decide +kernel
theorem dX2_payShown_11 : decode cX2_payShown 11 = .ok (.getfield 18, 3) := by decide +kernel
theorem dX2_payShown_14 : decode cX2_payShown 14 = .ok (.iload_n 3, 1) := by decide +kernel
theorem dX2_payShown_15 : decode cX2_payShown 15 = .ok (.baload, 1) := by decide +kernel
theorem dX2_payShown_16 : decode cX2_payShown 16 = .ok (.ifCond .ne 38, 3) := by decide +kernel
theorem dX2_payShown_19 : decode cX2_payShown 19 = .ok (.aload_n 0, 1) := by decide +kernel
theorem dX2_payShown_20 : decode cX2_payShown 20 = .ok (.iload_n 3, 1) := by decide +kernel
theorem dX2_payShown_21 : decode cX2_payShown 21 = .ok (.aload_n 1, 1) := by decide +kernel
theorem dX2_payShown_22 : decode cX2_payShown 22 = .ok (.iload_n 2, 1) := by decide +kernel
theorem dX2_payShown_23 : decode cX2_payShown 23 = .ok (.invokevirtual 29, 3) := by decide +kernel
theorem dX2_payShown_26 : decode cX2_payShown 26 = .ok (.ifCond .eq 28, 3) := by decide +kernel
theorem dX2_payShown_29 : decode cX2_payShown 29 = .ok (.aload_n 0, 1) := by decide +kernel
theorem dX2_payShown_30 : decode cX2_payShown 30 = .ok (.getfield 18, 3) := by decide +kernel
theorem dX2_payShown_33 : decode cX2_payShown 33 = .ok (.iload_n 3, 1) := by decide +kernel
theorem dX2_payShown_34 : decode cX2_payShown 34 = .ok (.iconst 1, 1) := by decide +kernel
theorem dX2_payShown_35 : decode cX2_payShown 35 = .ok (.bastore, 1) := by decide +kernel
theorem dX2_payShown_36 : decode cX2_payShown 36 = .ok (.aload_n 0, 1) := by decide +kernel
theorem dX2_payShown_37 : decode cX2_payShown 37 = .ok (.dup, 1) := by decide +kernel
theorem dX2_payShown_38 : decode cX2_payShown 38 = .ok (.getfield 26, 3) := by decide +kernel
theorem dX2_payShown_41 : decode cX2_payShown 41 = .ok (.bipush 100, 2) := by decide +kernel
theorem dX2_payShown_43 : decode cX2_payShown 43 = .ok (.aload_n 0, 1) := by decide +kernel
theorem dX2_payShown_44 : decode cX2_payShown 44 = .ok (.getfield 15, 3) := by decide +kernel
theorem dX2_payShown_47 : decode cX2_payShown 47 = .ok (.iload_n 3, 1) := by decide +kernel
theorem dX2_payShown_48 : decode cX2_payShown 48 = .ok (.iaload, 1) := by decide +kernel
theorem dX2_payShown_49 : decode cX2_payShown 49 = .ok (.imul, 1) := by decide +kernel
theorem dX2_payShown_50 : decode cX2_payShown 50 = .ok (.iadd, 1) := by decide +kernel
theorem dX2_payShown_51 : decode cX2_payShown 51 = .ok (.putfield 26, 3) := by decide +kernel
theorem dX2_payShown_54 : decode cX2_payShown 54 = .ok (.iinc 3 1, 3) := by decide +kernel
theorem dX2_payShown_57 : decode cX2_payShown 57 = .ok (.goto (-55), 3) := by decide +kernel
theorem dX2_payShown_60 : decode cX2_payShown 60 = .ok (.return_, 1) := by decide +kernel
theorem dX2_isShown_0 : decode cX2_isShown 0 = .ok (.iload_n 3, 1) := by decide +kernel
theorem dX2_isShown_1 : decode cX2_isShown 1 = .ok (.aload_n 2, 1) := by decide +kernel
theorem dX2_isShown_2 : decode cX2_isShown 2 = .ok (.arraylength, 1) := by decide +kernel
theorem dX2_isShown_3 : decode cX2_isShown 3 = .ok (.invokestatic 33, 3) := by decide +kernel
theorem dX2_isShown_6 : decode cX2_isShown 6 = .ok (.aload_n 0, 1) := by decide +kernel
theorem dX2_isShown_7 : decode cX2_isShown 7 = .ok (.getfield 15, 3) := by decide +kernel
theorem dX2_isShown_10 : decode cX2_isShown 10 = .ok (.iload_n 1, 1) := by decide +kernel
theorem dX2_isShown_11 : decode cX2_isShown 11 = .ok (.iaload, 1) := by decide +kernel
theorem dX2_isShown_12 : decode cX2_isShown 12 = .ok (.isub, 1) := by decide +kernel
theorem dX2_isShown_13 : decode cX2_isShown 13 = .ok (.istore 4, 2) := by decide +kernel
theorem dX2_isShown_15 : decode cX2_isShown 15 = .ok (.iconst 0, 1) := by decide +kernel
theorem dX2_isShown_16 : decode cX2_isShown 16 = .ok (.istore 5, 2) := by decide +kernel
theorem dX2_isShown_18 : decode cX2_isShown 18 = .ok (.iload 5, 2) := by decide +kernel
theorem dX2_isShown_20 : decode cX2_isShown 20 = .ok (.iload 4, 2) := by decide +kernel
theorem dX2_isShown_22 : decode cX2_isShown 22 = .ok (.if_icmp .gt 22, 3) := by decide +kernel
theorem dX2_isShown_25 : decode cX2_isShown 25 = .ok (.aload_n 0, 1) := by decide +kernel
theorem dX2_isShown_26 : decode cX2_isShown 26 = .ok (.iload 5, 2) := by decide +kernel
theorem dX2_isShown_28 : decode cX2_isShown 28 = .ok (.iload_n 1, 1) := by decide +kernel
theorem dX2_isShown_29 : decode cX2_isShown 29 = .ok (.aload_n 2, 1) := by decide +kernel
theorem dX2_isShown_30 : decode cX2_isShown 30 = .ok (.invokevirtual 39, 3) := by decide +kernel
theorem dX2_isShown_33 : decode cX2_isShown 33 = .ok (.ifCond .eq 5, 3) := by decide +kernel
theorem dX2_isShown_36 : decode cX2_isShown 36 = .ok (.iconst 1, 1) := by decide +kernel
theorem dX2_isShown_37 : decode cX2_isShown 37 = .ok (.ireturn, 1) := by decide +kernel
theorem dX2_isShown_38 : decode cX2_isShown 38 = .ok (.iinc 5 1, 3) := by decide +kernel
theorem dX2_isShown_41 : decode cX2_isShown 41 = .ok (.goto (-23), 3) := by decide +kernel
theorem dX2_isShown_44 : decode cX2_isShown 44 = .ok (.iconst 0, 1) := by decide +kernel
theorem dX2_isShown_45 : decode cX2_isShown 45 = .ok (.ireturn, 1) := by decide +kernel
theorem dX2_isShownFrom_0 : decode cX2_isShownFrom 0 = .ok (.iconst 0, 1) := by decide +kernel
theorem dX2_isShownFrom_1 : decode cX2_isShownFrom 1 = .ok (.istore 4, 2) := by decide +kernel
theorem dX2_isShownFrom_3 : decode cX2_isShownFrom 3 = .ok (.iload 4, 2) := by decide +kernel
theorem dX2_isShownFrom_5 : decode cX2_isShownFrom 5 = .ok (.aload_n 0, 1) := by decide +kernel
theorem dX2_isShownFrom_6 : decode cX2_isShownFrom 6 = .ok (.getfield 15, 3) := by decide +kernel
theorem dX2_isShownFrom_9 : decode cX2_isShownFrom 9 = .ok (.iload_n 2, 1) := by decide +kernel
theorem dX2_isShownFrom_10 : decode cX2_isShownFrom 10 = .ok (.iaload, 1) := by decide +kernel
theorem dX2_isShownFrom_11 : decode cX2_isShownFrom 11 = .ok (.if_icmp .ge 31, 3) := by decide +kernel
theorem dX2_isShownFrom_14 : decode cX2_isShownFrom 14 = .ok (.aload_n 3, 1) := by decide +kernel
theorem dX2_isShownFrom_15 : decode cX2_isShownFrom 15 = .ok (.iload_n 1, 1) := by decide +kernel
theorem dX2_isShownFrom_16 : decode cX2_isShownFrom 16 = .ok (.iload 4, 2) := by decide +kernel
theorem dX2_isShownFrom_18 : decode cX2_isShownFrom 18 = .ok (.iadd, 1) := by decide +kernel
theorem dX2_isShownFrom_19 : decode cX2_isShownFrom 19 = .ok (.iaload, 1) := by decide +kernel
theorem dX2_isShownFrom_20 : decode cX2_isShownFrom 20 = .ok (.aload_n 0, 1) := by decide +kernel
theorem dX2_isShownFrom_21 : decode cX2_isShownFrom 21 = .ok (.getfield 9, 3) := by decide +kernel
theorem dX2_isShownFrom_24 : decode cX2_isShownFrom 24 = .ok (.iload_n 2, 1) := by decide +kernel
theorem dX2_isShownFrom_25 : decode cX2_isShownFrom 25 = .ok (.iconst 4, 1) := by decide +kernel
theorem dX2_isShownFrom_26 : decode cX2_isShownFrom 26 = .ok (.imul, 1) := by decide +kernel
theorem dX2_isShownFrom_27 : decode cX2_isShownFrom 27 = .ok (.iload 4, 2) := by decide +kernel
theorem dX2_isShownFrom_29 : decode cX2_isShownFrom 29 = .ok (.iadd, 1) := by decide +kernel
theorem dX2_isShownFrom_30 : decode cX2_isShownFrom 30 = .ok (.iaload, 1) := by decide +kernel
theorem dX2_isShownFrom_31 : decode cX2_isShownFrom 31 = .ok (.if_icmp .eq 5, 3) := by decide +kernel
theorem dX2_isShownFrom_34 : decode cX2_isShownFrom 34 = .ok (.iconst 0, 1) := by decide +kernel
theorem dX2_isShownFrom_35 : decode cX2_isShownFrom 35 = .ok (.ireturn, 1) := by decide +kernel
theorem dX2_isShownFrom_36 : decode cX2_isShownFrom 36 = .ok (.iinc 4 1, 3) := by decide +kernel
theorem dX2_isShownFrom_39 : decode cX2_isShownFrom 39 = .ok (.goto (-36), 3) := by decide +kernel
theorem dX2_isShownFrom_42 : decode cX2_isShownFrom 42 = .ok (.iconst 1, 1) := by decide +kernel
theorem dX2_isShownFrom_43 : decode cX2_isShownFrom 43 = .ok (.ireturn, 1) := by decide +kernel
theorem dX3_init_0 : decode cX3_init 0 = .ok (.aload_n 0, 1) := by decide +kernel
theorem dX3_init_1 : decode cX3_init 1 = .ok (.invokespecial 1, 3) := by decide +kernel
theorem dX3_init_4 : decode cX3_init 4 = .ok (.aload_n 0, 1) := by decide +kernel
theorem dX3_init_5 : decode cX3_init 5 = .ok (.new 7, 3) := by decide +kernel
theorem dX3_init_8 : decode cX3_init 8 = .ok (.dup, 1) := by decide +kernel
theorem dX3_init_9 : decode cX3_init 9 = .ok (.invokespecial 9, 3) := by decide +kernel
theorem dX3_init_12 : decode cX3_init 12 = .ok (.putfield 10, 3) := by decide +kernel
theorem dX3_init_15 : decode cX3_init 15 = .ok (.aload_n 0, 1) := by decide +kernel
theorem dX3_init_16 : decode cX3_init 16 = .ok (.new 7, 3) := by decide +kernel
theorem dX3_init_19 : decode cX3_init 19 = .ok (.dup, 1) := by decide +kernel
theorem dX3_init_20 : decode cX3_init 20 = .ok (.invokespecial 9, 3) := by decide +kernel
theorem dX3_init_23 : decode cX3_init 23 = .ok (.putfield 16, 3) := by decide +kernel
theorem dX3_init_26 : decode cX3_init 26 = .ok (.aload_n 0, 1) := by decide +kernel
theorem dX3_init_27 : decode cX3_init 27 = .ok (.new 19, 3) := by decide +kernel
theorem dX3_init_30 : decode cX3_init 30 = .ok (.dup, 1) := by decide +kernel
theorem dX3_init_31 : decode cX3_init 31 = .ok (.invokespecial 21, 3) := by decide +kernel
theorem dX3_init_34 : decode cX3_init 34 = .ok (.putfield 22, 3) := by decide +kernel
theorem dX3_init_37 : decode cX3_init 37 = .ok (.aload_n 0, 1) := by decide +kernel
theorem dX3_init_38 : decode cX3_init 38 = .ok (.new 26, 3) := by decide +kernel
theorem dX3_init_41 : decode cX3_init 41 = .ok (.dup, 1) := by decide +kernel
theorem dX3_init_42 : decode cX3_init 42 = .ok (.invokespecial 28, 3) := by decide +kernel
theorem dX3_init_45 : decode cX3_init 45 = .ok (.putfield 29, 3) := by decide +kernel
theorem dX3_init_48 : decode cX3_init 48 = .ok (.aload_n 0, 1) := by decide +kernel
theorem dX3_init_49 : decode cX3_init 49 = .ok (.bipush 30, 2) := by decide +kernel
theorem dX3_init_51 : decode cX3_init 51 = .ok (.newarray .int, 2) := by decide +kernel
theorem dX3_init_53 : decode cX3_init 53 = .ok (.putfield 33, 3) := by decide +kernel
theorem dX3_init_56 : decode cX3_init 56 = .ok (.aload_n 0, 1) := by decide +kernel
theorem dX3_init_57 : decode cX3_init 57 = .ok (.bipush 6, 2) := by decide +kernel
theorem dX3_init_59 : decode cX3_init 59 = .ok (.newarray .int, 2) := by decide +kernel
theorem dX3_init_61 : decode cX3_init 61 = .ok (.putfield 37, 3) := by decide +kernel
theorem dX3_init_64 : decode cX3_init 64 = .ok (.aload_n 0, 1) := by decide +kernel
theorem dX3_init_65 : decode cX3_init 65 = .ok (.iconst 0, 1) := by decide +kernel
theorem dX3_init_66 : decode cX3_init 66 = .ok (.putfield 40, 3) := by decide +kernel
theorem dX3_init_69 : decode cX3_init 69 = .ok (.aload_n 0, 1) := by decide +kernel
theorem dX3_init_70 : decode cX3_init 70 = .ok (.iconst (-1), 1) := by decide +kernel
theorem dX3_init_71 : decode cX3_init 71 = .ok (.putfield 44, 3) := by decide +kernel
theorem dX3_init_74 : decode cX3_init 74 = .ok (.aload_n 0, 1) := by decide +kernel
theorem dX3_init_75 : decode cX3_init 75 = .ok (.iconst 0, 1) := by decide +kernel
theorem dX3_init_76 : decode cX3_init 76 = .ok (.putfield 47, 3) := by decide +kernel
theorem dX3_init_79 : decode cX3_init 79 = .ok (.aload_n 0, 1) := by decide +kernel
theorem dX3_init_80 : decode cX3_init 80 = .ok (.iconst 0, 1) := by decide +kernel
theorem dX3_init_81 : decode cX3_init 81 = .ok (.putfield 50, 3) := by decide +kernel
theorem dX3_init_84 : decode cX3_init 84 = .ok (.aload_n 0, 1) := by decide +kernel
theorem dX3_init_85 : decode cX3_init 85 = .ok (.iconst 0, 1) := by decide +kernel
theorem dX3_init_86 : decode cX3_init 86 = .ok (.putfield 53, 3) := by decide +kernel
theorem dX3_init_89 : decode cX3_init 89 = .ok (.aload_n 0, 1) := by decide +kernel
theorem dX3_init_90 : decode cX3_init 90 = .ok (.iconst 0, 1) := by decide +kernel
theorem dX3_init_91 : decode cX3_init 91 = .ok (.putfield 57, 3) := by decide +kernel
theorem dX3_init_94 : decode cX3_init 94 = .ok (.return_, 1) := by decide +kernel
theorem dX3_arrive_0 : decode cX3_arrive 0 = .ok (.iload_n 1, 1) := by decide +kernel
theorem dX3_arrive_1 : decode cX3_arrive 1 = .ok (.iconst 1, 1) := by decide +kernel
theorem dX3_arrive_2 : decode cX3_arrive 2 = .ok (.if_icmp .lt 9, 3) := by decide +kernel
theorem dX3_arrive_5 : decode cX3_arrive 5 = .ok (.iload_n 1, 1) := by decide +kernel
theorem dX3_arrive_6 : decode cX3_arrive 6 = .ok (.bipush 100, 2) := by decide +kernel
theorem dX3_arrive_8 : decode cX3_arrive 8 = .ok (.if_icmp .le 13, 3) := by decide +kernel
theorem dX3_arrive_11 : decode cX3_arrive 11 = .ok (.new 60, 3) := by decide +kernel
theorem dX3_arrive_14 : decode cX3_arrive 14 = .ok (.dup, 1) := by decide +kernel
theorem dX3_arrive_15 : decode cX3_arrive 15 = .ok (.ldc 62, 2) := by decide +kernel
theorem dX3_arrive_17 : decode cX3_arrive 17 = .ok (.invokespecial 64, 3) := by decide +kernel
theorem dX3_arrive_20 : decode cX3_arrive 20 = .ok (.athrow, 1) := by decide +kernel
theorem dX3_arrive_21 : decode cX3_arrive 21 = .ok (.iload_n 2, 1) := by decide +kernel
theorem dX3_arrive_22 : decode cX3_arrive 22 = .ok (.invokestatic 67, 3) := by decide +kernel
theorem dX3_arrive_25 : decode cX3_arrive 25 = .ok (.iload_n 3, 1) := by decide +kernel
theorem dX3_arrive_26 : decode cX3_arrive 26 = .ok (.invokestatic 71, 3) := by decide +kernel
theorem dX3_arrive_29 : decode cX3_arrive 29 = .ok (.aload_n 0, 1) := by decide +kernel
theorem dX3_arrive_30 : decode cX3_arrive 30 = .ok (.getfield 40, 3) := by decide +kernel
theorem dX3_arrive_33 : decode cX3_arrive 33 = .ok (.bipush 30, 2) := by decide +kernel
theorem dX3_arrive_35 : decode cX3_arrive 35 = .ok (.if_icmp .lt 13, 3) := by decide +kernel
theorem dX3_arrive_38 : decode cX3_arrive 38 = .ok (.new 74, 3) := by decide +kernel
theorem dX3_arrive_41 : decode cX3_arrive 41 = .ok (.dup, 1) := by decide +kernel
theorem dX3_arrive_42 : decode cX3_arrive 42 = .ok (.ldc 76, 2) := by decide +kernel
theorem dX3_arrive_44 : decode cX3_arrive 44 = .ok (.invokespecial 78, 3) := by decide +kernel
theorem dX3_arrive_47 : decode cX3_arrive 47 = .ok (.athrow, 1) := by decide +kernel
theorem dX3_arrive_48 : decode cX3_arrive 48 = .ok (.aload_n 0, 1) := by decide +kernel
theorem dX3_arrive_49 : decode cX3_arrive 49 = .ok (.iload_n 3, 1) := by decide +kernel
theorem dX3_arrive_50 : decode cX3_arrive 50 = .ok (.iload_n 1, 1) := by decide +kernel
theorem dX3_arrive_51 : decode cX3_arrive 51 = .ok (.invokevirtual 79, 3) := by decide +kernel
theorem dX3_arrive_54 : decode cX3_arrive 54 = .ok (.aload_n 0, 1) := by decide +kernel
theorem dX3_arrive_55 : decode cX3_arrive 55 = .ok (.getfield 40, 3) := by decide +kernel
theorem dX3_arrive_58 : decode cX3_arrive 58 = .ok (.istore 4, 2) := by decide +kernel
theorem dX3_arrive_60 : decode cX3_arrive 60 = .ok (.aload_n 0, 1) := by decide +kernel
theorem dX3_arrive_61 : decode cX3_arrive 61 = .ok (.dup, 1) := by decide +kernel
theorem dX3_arrive_62 : decode cX3_arrive 62 = .ok (.getfield 40, 3) := by decide +kernel
theorem dX3_arrive_65 : decode cX3_arrive 65 = .ok (.iconst 1, 1) := by decide +kernel
theorem dX3_arrive_66 : decode cX3_arrive 66 = .ok (.iadd, 1) := by decide +kernel
theorem dX3_arrive_67 : decode cX3_arrive 67 = .ok (.putfield 40, 3) := by decide +kernel
theorem dX3_arrive_70 : decode cX3_arrive 70 = .ok (.aload_n 0, 1) := by decide +kernel
theorem dX3_arrive_71 : decode cX3_arrive 71 = .ok (.getfield 33, 3) := by decide +kernel
theorem dX3_arrive_74 : decode cX3_arrive 74 = .ok (.iload 4, 2) := by decide +kernel
theorem dX3_arrive_76 : decode cX3_arrive 76 = .ok (.iload_n 2, 1) := by decide +kernel
theorem dX3_arrive_77 : decode cX3_arrive 77 = .ok (.iastore, 1) := by decide +kernel
theorem dX3_arrive_78 : decode cX3_arrive 78 = .ok (.aload_n 0, 1) := by decide +kernel
theorem dX3_arrive_79 : decode cX3_arrive 79 = .ok (.getfield 10, 3) := by decide +kernel
theorem dX3_arrive_82 : decode cX3_arrive 82 = .ok (.iload 4, 2) := by decide +kernel
theorem dX3_arrive_84 : decode cX3_arrive 84 = .ok (.iload_n 1, 1) := by decide +kernel
theorem dX3_arrive_85 : decode cX3_arrive 85 = .ok (.invokevirtual 83, 3) := by decide +kernel
theorem dX3_arrive_88 : decode cX3_arrive 88 = .ok (.aload_n 0, 1) := by decide +kernel
theorem dX3_arrive_89 : decode cX3_arrive 89 = .ok (.getfield 10, 3) := by decide +kernel
theorem dX3_arrive_92 : decode cX3_arrive 92 = .ok (.iload_n 3, 1) := by decide +kernel
theorem dX3_arrive_93 : decode cX3_arrive 93 = .ok (.iload 4, 2) := by decide +kernel
theorem dX3_arrive_95 : decode cX3_arrive 95 = .ok (.invokevirtual 86, 3) := by decide +kernel
theorem dX3_arrive_98 : decode cX3_arrive 98 = .ok (.aload_n 0, 1) := by decide +kernel
theorem dX3_arrive_99 : decode cX3_arrive 99 = .ok (.invokevirtual 89, 3) := by decide +kernel
theorem dX3_arrive_102 : decode cX3_arrive 102 = .ok (.iload 4, 2) := by decide +kernel
theorem dX3_arrive_104 : decode cX3_arrive 104 = .ok (.ireturn, 1) := by decide +kernel
theorem dX3_lift_0 : decode cX3_lift 0 = .ok (.iload_n 1, 1) := by decide +kernel
theorem dX3_lift_1 : decode cX3_lift 1 = .ok (.invokestatic 71, 3) := by decide +kernel
theorem dX3_lift_4 : decode cX3_lift 4 = .ok (.aload_n 0, 1) := by decide +kernel
theorem dX3_lift_5 : decode cX3_lift 5 = .ok (.invokevirtual 92, 3) := by decide +kernel
theorem dX3_lift_8 : decode cX3_lift 8 = .ok (.aload_n 0, 1) := by decide +kernel
theorem dX3_lift_9 : decode cX3_lift 9 = .ok (.getfield 10, 3) := by decide +kernel
theorem dX3_lift_12 : decode cX3_lift 12 = .ok (.iload_n 1, 1) := by decide +kernel
theorem dX3_lift_13 : decode cX3_lift 13 = .ok (.invokevirtual 95, 3) := by decide +kernel
theorem dX3_lift_16 : decode cX3_lift 16 = .ok (.ifCond .ne 13, 3) := by decide +kernel
theorem dX3_lift_19 : decode cX3_lift 19 = .ok (.new 74, 3) := by decide +kernel
theorem dX3_lift_22 : decode cX3_lift 22 = .ok (.dup, 1) := by decide +kernel
theorem dX3_lift_23 : decode cX3_lift 23 = .ok (.ldc 99, 2) := by decide +kernel
theorem dX3_lift_25 : decode cX3_lift 25 = .ok (.invokespecial 78, 3) := by decide +kernel
theorem dX3_lift_28 : decode cX3_lift 28 = .ok (.athrow, 1) := by decide +kernel
theorem dX3_lift_29 : decode cX3_lift 29 = .ok (.aload_n 0, 1) := by decide +kernel
theorem dX3_lift_30 : decode cX3_lift 30 = .ok (.aload_n 0, 1) := by decide +kernel
theorem dX3_lift_31 : decode cX3_lift 31 = .ok (.getfield 10, 3) := by decide +kernel
theorem dX3_lift_34 : decode cX3_lift 34 = .ok (.iload_n 1, 1) := by decide +kernel
theorem dX3_lift_35 : decode cX3_lift 35 = .ok (.invokevirtual 101, 3) := by decide +kernel
theorem dX3_lift_38 : decode cX3_lift 38 = .ok (.putfield 44, 3) := by decide +kernel
theorem dX3_lift_41 : decode cX3_lift 41 = .ok (.aload_n 0, 1) := by decide +kernel
theorem dX3_lift_42 : decode cX3_lift 42 = .ok (.dup, 1) := by decide +kernel
theorem dX3_lift_43 : decode cX3_lift 43 = .ok (.getfield 47, 3) := by decide +kernel
theorem dX3_lift_46 : decode cX3_lift 46 = .ok (.iconst 1, 1) := by decide +kernel
theorem dX3_lift_47 : decode cX3_lift 47 = .ok (.iadd, 1) := by decide +kernel
theorem dX3_lift_48 : decode cX3_lift 48 = .ok (.putfield 47, 3) := by decide +kernel
theorem dX3_lift_51 : decode cX3_lift 51 = .ok (.aload_n 0, 1) := by decide +kernel
theorem dX3_lift_52 : decode cX3_lift 52 = .ok (.invokevirtual 89, 3) := by decide +kernel
theorem dX3_lift_55 : decode cX3_lift 55 = .ok (.aload_n 0, 1) := by decide +kernel
theorem dX3_lift_56 : decode cX3_lift 56 = .ok (.getfield 44, 3) := by decide +kernel
theorem dX3_lift_59 : decode cX3_lift 59 = .ok (.ireturn, 1) := by decide +kernel
theorem dX3_drop_0 : decode cX3_drop 0 = .ok (.iload_n 1, 1) := by decide +kernel
theorem dX3_drop_1 : decode cX3_drop 1 = .ok (.invokestatic 71, 3) := by decide +kernel
theorem dX3_drop_4 : decode cX3_drop 4 = .ok (.aload_n 0, 1) := by decide +kernel
theorem dX3_drop_5 : decode cX3_drop 5 = .ok (.invokevirtual 104, 3) := by decide +kernel
theorem dX3_drop_8 : decode cX3_drop 8 = .ok (.aload_n 0, 1) := by decide +kernel
theorem dX3_drop_9 : decode cX3_drop 9 = .ok (.iload_n 1, 1) := by decide +kernel
theorem dX3_drop_10 : decode cX3_drop 10 = .ok (.aload_n 0, 1) := by decide +kernel
theorem dX3_drop_11 : decode cX3_drop 11 = .ok (.getfield 10, 3) := by decide +kernel
theorem dX3_drop_14 : decode cX3_drop 14 = .ok (.aload_n 0, 1) := by decide +kernel
theorem dX3_drop_15 : decode cX3_drop 15 = .ok (.getfield 44, 3) := by decide +kernel
theorem dX3_drop_18 : decode cX3_drop 18 = .ok (.invokevirtual 107, 3) := by decide +kernel
theorem dX3_drop_21 : decode cX3_drop 21 = .ok (.invokevirtual 79, 3) := by decide +kernel
theorem dX3_drop_24 : decode cX3_drop 24 = .ok (.aload_n 0, 1) := by decide +kernel
theorem dX3_drop_25 : decode cX3_drop 25 = .ok (.getfield 10, 3) := by decide +kernel
theorem dX3_drop_28 : decode cX3_drop 28 = .ok (.iload_n 1, 1) := by decide +kernel
theorem dX3_drop_29 : decode cX3_drop 29 = .ok (.aload_n 0, 1) := by decide +kernel
theorem dX3_drop_30 : decode cX3_drop 30 = .ok (.getfield 44, 3) := by decide +kernel
theorem dX3_drop_33 : decode cX3_drop 33 = .ok (.invokevirtual 86, 3) := by decide +kernel
theorem dX3_drop_36 : decode cX3_drop 36 = .ok (.aload_n 0, 1) := by decide +kernel
theorem dX3_drop_37 : decode cX3_drop 37 = .ok (.iconst (-1), 1) := by decide +kernel
theorem dX3_drop_38 : decode cX3_drop 38 = .ok (.putfield 44, 3) := by decide +kernel
theorem dX3_drop_41 : decode cX3_drop 41 = .ok (.aload_n 0, 1) := by decide +kernel
theorem dX3_drop_42 : decode cX3_drop 42 = .ok (.invokevirtual 89, 3) := by decide +kernel
theorem dX3_drop_45 : decode cX3_drop 45 = .ok (.aload_n 0, 1) := by decide +kernel
theorem dX3_drop_46 : decode cX3_drop 46 = .ok (.getfield 10, 3) := by decide +kernel
theorem dX3_drop_49 : decode cX3_drop 49 = .ok (.iload_n 1, 1) := by decide +kernel
theorem dX3_drop_50 : decode cX3_drop 50 = .ok (.invokevirtual 95, 3) := by decide +kernel
theorem dX3_drop_53 : decode cX3_drop 53 = .ok (.ireturn, 1) := by decide +kernel
theorem dX3_dig_0 : decode cX3_dig 0 = .ok (.aload_n 0, 1) := by decide +kernel
theorem dX3_dig_1 : decode cX3_dig 1 = .ok (.iload_n 1, 1) := by decide +kernel
theorem dX3_dig_2 : decode cX3_dig 2 = .ok (.invokevirtual 110, 3) := by decide +kernel
theorem dX3_dig_5 : decode cX3_dig 5 = .ok (.aload_n 0, 1) := by decide +kernel
theorem dX3_dig_6 : decode cX3_dig 6 = .ok (.invokevirtual 92, 3) := by decide +kernel
theorem dX3_dig_9 : decode cX3_dig 9 = .ok (.aload_n 0, 1) := by decide +kernel
theorem dX3_dig_10 : decode cX3_dig 10 = .ok (.iload_n 1, 1) := by decide +kernel
theorem dX3_dig_11 : decode cX3_dig 11 = .ok (.invokevirtual 113, 3) := by decide +kernel
theorem dX3_dig_14 : decode cX3_dig 14 = .ok (.aload_n 0, 1) := by decide +kernel
theorem dX3_dig_15 : decode cX3_dig 15 = .ok (.getfield 16, 3) := by decide +kernel
theorem dX3_dig_18 : decode cX3_dig 18 = .ok (.aload_n 0, 1) := by decide +kernel
theorem dX3_dig_19 : decode cX3_dig 19 = .ok (.getfield 10, 3) := by decide +kernel
theorem dX3_dig_22 : decode cX3_dig 22 = .ok (.invokevirtual 116, 3) := by decide +kernel
theorem dX3_dig_25 : decode cX3_dig 25 = .ok (.aload_n 0, 1) := by decide +kernel
theorem dX3_dig_26 : decode cX3_dig 26 = .ok (.getfield 16, 3) := by decide +kernel
theorem dX3_dig_29 : decode cX3_dig 29 = .ok (.iload_n 1, 1) := by decide +kernel
theorem dX3_dig_30 : decode cX3_dig 30 = .ok (.aload_n 0, 1) := by decide +kernel
theorem dX3_dig_31 : decode cX3_dig 31 = .ok (.invokevirtual 120, 3) := by decide +kernel
theorem dX3_dig_34 : decode cX3_dig 34 = .ok (.invokevirtual 124, 3) := by decide +kernel
theorem dX3_dig_37 : decode cX3_dig 37 = .ok (.istore_n 2, 1) := by decide +kernel
theorem dX3_dig_38 : decode cX3_dig 38 = .ok (.iload_n 2, 1) := by decide +kernel
theorem dX3_dig_39 : decode cX3_dig 39 = .ok (.iconst (-1), 1) := by decide +kernel
theorem dX3_dig_40 : decode cX3_dig 40 = .ok (.if_icmp .ne 13, 3) := by decide +kernel
theorem dX3_dig_43 : decode cX3_dig 43 = .ok (.new 74, 3) := by decide +kernel
theorem dX3_dig_46 : decode cX3_dig 46 = .ok (.dup, 1) := by decide +kernel
theorem dX3_dig_47 : decode cX3_dig 47 = .ok (.ldc 128, 2) := by decide +kernel
theorem dX3_dig_49 : decode cX3_dig 49 = .ok (.invokespecial 78, 3) := by decide +kernel
theorem dX3_dig_52 : decode cX3_dig 52 = .ok (.athrow, 1) := by decide +kernel
theorem dX3_dig_53 : decode cX3_dig 53 = .ok (.aload_n 0, 1) := by decide +kernel
theorem dX3_dig_54 : decode cX3_dig 54 = .ok (.getfield 10, 3) := by decide +kernel
theorem dX3_dig_57 : decode cX3_dig 57 = .ok (.aload_n 0, 1) := by decide +kernel
theorem dX3_dig_58 : decode cX3_dig 58 = .ok (.getfield 16, 3) := by decide +kernel
theorem dX3_dig_61 : decode cX3_dig 61 = .ok (.invokevirtual 116, 3) := by decide +kernel
theorem dX3_dig_64 : decode cX3_dig 64 = .ok (.aload_n 0, 1) := by decide +kernel
theorem dX3_dig_65 : decode cX3_dig 65 = .ok (.iload_n 1, 1) := by decide +kernel
theorem dX3_dig_66 : decode cX3_dig 66 = .ok (.putfield 44, 3) := by decide +kernel
theorem dX3_dig_69 : decode cX3_dig 69 = .ok (.aload_n 0, 1) := by decide +kernel
theorem dX3_dig_70 : decode cX3_dig 70 = .ok (.dup, 1) := by decide +kernel
theorem dX3_dig_71 : decode cX3_dig 71 = .ok (.getfield 47, 3) := by decide +kernel
theorem dX3_dig_74 : decode cX3_dig 74 = .ok (.iload_n 2, 1) := by decide +kernel
theorem dX3_dig_75 : decode cX3_dig 75 = .ok (.iadd, 1) := by decide +kernel
theorem dX3_dig_76 : decode cX3_dig 76 = .ok (.putfield 47, 3) := by decide +kernel
theorem dX3_dig_79 : decode cX3_dig 79 = .ok (.aload_n 0, 1) := by decide +kernel
theorem dX3_dig_80 : decode cX3_dig 80 = .ok (.invokevirtual 89, 3) := by decide +kernel
theorem dX3_dig_83 : decode cX3_dig 83 = .ok (.iload_n 2, 1) := by decide +kernel
theorem dX3_dig_84 : decode cX3_dig 84 = .ok (.ireturn, 1) := by decide +kernel
theorem dX3_crane_0 : decode cX3_crane 0 = .ok (.aload_n 0, 1) := by decide +kernel
theorem dX3_crane_1 : decode cX3_crane 1 = .ok (.getfield 44, 3) := by decide +kernel
theorem dX3_crane_4 : decode cX3_crane 4 = .ok (.ireturn, 1) := by decide +kernel
theorem dX3_height_0 : decode cX3_height 0 = .ok (.iload_n 1, 1) := by decide +kernel
theorem dX3_height_1 : decode cX3_height 1 = .ok (.invokestatic 71, 3) := by decide +kernel
theorem dX3_height_4 : decode cX3_height 4 = .ok (.aload_n 0, 1) := by decide +kernel
theorem dX3_height_5 : decode cX3_height 5 = .ok (.getfield 10, 3) := by decide +kernel
theorem dX3_height_8 : decode cX3_height 8 = .ok (.iload_n 1, 1) := by decide +kernel
theorem dX3_height_9 : decode cX3_height 9 = .ok (.invokevirtual 95, 3) := by decide +kernel
theorem dX3_height_12 : decode cX3_height 12 = .ok (.ireturn, 1) := by decide +kernel
theorem dX3_at_0 : decode cX3_at 0 = .ok (.iload_n 1, 1) := by decide +kernel
theorem dX3_at_1 : decode cX3_at 1 = .ok (.invokestatic 71, 3) := by decide +kernel
theorem dX3_at_4 : decode cX3_at 4 = .ok (.iload_n 2, 1) := by decide +kernel
theorem dX3_at_5 : decode cX3_at 5 = .ok (.ifCond .lt 8, 3) := by decide +kernel
theorem dX3_at_8 : decode cX3_at 8 = .ok (.iload_n 2, 1) := by decide +kernel
theorem dX3_at_9 : decode cX3_at 9 = .ok (.iconst 5, 1) := by decide +kernel
theorem dX3_at_10 : decode cX3_at 10 = .ok (.if_icmp .lt 13, 3) := by decide +kernel
theorem dX3_at_13 : decode cX3_at 13 = .ok (.new 60, 3) := by decide +kernel
theorem dX3_at_16 : decode cX3_at 16 = .ok (.dup, 1) := by decide +kernel
theorem dX3_at_17 : decode cX3_at 17 = .ok (.ldc 130, 2) := by decide +kernel
theorem dX3_at_19 : decode cX3_at 19 = .ok (.invokespecial 64, 3) := by decide +kernel
theorem dX3_at_22 : decode cX3_at 22 = .ok (.athrow, 1) := by decide +kernel
theorem dX3_at_23 : decode cX3_at 23 = .ok (.aload_n 0, 1) := by decide +kernel
theorem dX3_at_24 : decode cX3_at 24 = .ok (.getfield 10, 3) := by decide +kernel
theorem dX3_at_27 : decode cX3_at 27 = .ok (.iload_n 1, 1) := by decide +kernel
theorem dX3_at_28 : decode cX3_at 28 = .ok (.iload_n 2, 1) := by decide +kernel
theorem dX3_at_29 : decode cX3_at 29 = .ok (.invokevirtual 132, 3) := by decide +kernel
theorem dX3_at_32 : decode cX3_at 32 = .ok (.ireturn, 1) := by decide +kernel
theorem dX3_stackOf_0 : decode cX3_stackOf 0 = .ok (.aload_n 0, 1) := by decide +kernel
theorem dX3_stackOf_1 : decode cX3_stackOf 1 = .ok (.iload_n 1, 1) := by decide +kernel
theorem dX3_stackOf_2 : decode cX3_stackOf 2 = .ok (.invokevirtual 110, 3) := by decide +kernel
theorem dX3_stackOf_5 : decode cX3_stackOf 5 = .ok (.aload_n 0, 1) := by decide +kernel
theorem dX3_stackOf_6 : decode cX3_stackOf 6 = .ok (.getfield 10, 3) := by decide +kernel
theorem dX3_stackOf_9 : decode cX3_stackOf 9 = .ok (.iload_n 1, 1) := by decide +kernel
theorem dX3_stackOf_10 : decode cX3_stackOf 10 = .ok (.invokevirtual 135, 3) := by decide +kernel
theorem dX3_stackOf_13 : decode cX3_stackOf 13 = .ok (.ireturn, 1) := by decide +kernel
theorem dX3_lifts_0 : decode cX3_lifts 0 = .ok (.aload_n 0, 1) := by decide +kernel
theorem dX3_lifts_1 : decode cX3_lifts 1 = .ok (.getfield 47, 3) := by decide +kernel
theorem dX3_lifts_4 : decode cX3_lifts 4 = .ok (.ireturn, 1) := by decide +kernel
theorem dX3_fewestLifts_0 : decode cX3_fewestLifts 0 = .ok (.aload_n 0, 1) := by decide +kernel
theorem dX3_fewestLifts_1 : decode cX3_fewestLifts 1 = .ok (.iload_n 1, 1) := by decide +kernel
theorem dX3_fewestLifts_2 : decode cX3_fewestLifts 2 = .ok (.invokevirtual 138, 3) := by decide +kernel
theorem dX3_fewestLifts_5 : decode cX3_fewestLifts 5 = .ok (.ifCond .ne 13, 3) := by decide +kernel
theorem dX3_fewestLifts_8 : decode cX3_fewestLifts 8 = .ok (.new 60, 3) := by decide +kernel
theorem dX3_fewestLifts_11 : decode cX3_fewestLifts 11 = .ok (.dup, 1) := by decide +kernel
theorem dX3_fewestLifts_12 : decode cX3_fewestLifts 12 = .ok (.ldc 142, 2) := by decide +kernel
theorem dX3_fewestLifts_14 : decode cX3_fewestLifts 14 = .ok (.invokespecial 64, 3) := by decide +kernel
theorem dX3_fewestLifts_17 : decode cX3_fewestLifts 17 = .ok (.athrow, 1) := by decide +kernel
theorem dX3_fewestLifts_18 : decode cX3_fewestLifts 18 = .ok (.aload_n 0, 1) := by decide +kernel
theorem dX3_fewestLifts_19 : decode cX3_fewestLifts 19 = .ok (.invokevirtual 92, 3) := by decide +kernel
theorem dX3_fewestLifts_22 : decode cX3_fewestLifts 22 = .ok (.iload_n 1, 1) := by decide +kernel
theorem dX3_fewestLifts_23 : decode cX3_fewestLifts 23 = .ok (.invokestatic 144, 3) := by decide +kernel
theorem dX3_fewestLifts_26 : decode cX3_fewestLifts 26 = .ok (.invokestatic 149, 3) := by decide +kernel
theorem dX3_fewestLifts_29 : decode cX3_fewestLifts 29 = .ok (.istore_n 2, 1) := by decide +kernel
theorem dX3_fewestLifts_30 : decode cX3_fewestLifts 30 = .ok (.iconst (-1), 1) := by decide +kernel
theorem dX3_fewestLifts_31 : decode cX3_fewestLifts 31 = .ok (.istore_n 3, 1) := by decide +kernel
theorem dX3_fewestLifts_32 : decode cX3_fewestLifts 32 = .ok (.iconst 0, 1) := by decide +kernel
theorem dX3_fewestLifts_33 : decode cX3_fewestLifts 33 = .ok (.istore 4, 2) := by decide +kernel
theorem dX3_fewestLifts_35 : decode cX3_fewestLifts 35 = .ok (.iload 4, 2) := by decide +kernel
theorem dX3_fewestLifts_37 : decode cX3_fewestLifts 37 = .ok (.iload_n 2, 1) := by decide +kernel
theorem dX3_fewestLifts_38 : decode cX3_fewestLifts 38 = .ok (.if_icmp .ge 38, 3) := by decide +kernel
theorem dX3_fewestLifts_41 : decode cX3_fewestLifts 41 = .ok (.aload_n 0, 1) := by decide +kernel
theorem dX3_fewestLifts_42 : decode cX3_fewestLifts 42 = .ok (.iload_n 1, 1) := by decide +kernel
theorem dX3_fewestLifts_43 : decode cX3_fewestLifts 43 = .ok (.iload 4, 2) := by decide +kernel
theorem dX3_fewestLifts_45 : decode cX3_fewestLifts 45 = .ok (.invokevirtual 152, 3) := by decide +kernel
theorem dX3_fewestLifts_48 : decode cX3_fewestLifts 48 = .ok (.istore 5, 2) := by decide +kernel
theorem dX3_fewestLifts_50 : decode cX3_fewestLifts 50 = .ok (.iload 5, 2) := by decide +kernel
theorem dX3_fewestLifts_52 : decode cX3_fewestLifts 52 = .ok (.iconst (-1), 1) := by decide +kernel
theorem dX3_fewestLifts_53 : decode cX3_fewestLifts 53 = .ok (.if_icmp .eq 17, 3) := by decide +kernel
theorem dX3_fewestLifts_56 : decode cX3_fewestLifts 56 = .ok (.iload_n 3, 1) := by decide +kernel
theorem dX3_fewestLifts_57 : decode cX3_fewestLifts 57 = .ok (.iconst (-1), 1) := by decide +kernel
theorem dX3_fewestLifts_58 : decode cX3_fewestLifts 58 = .ok (.if_icmp .eq 9, 3) := by decide +kernel
theorem dX3_fewestLifts_61 : decode cX3_fewestLifts 61 = .ok (.iload 5, 2) := by decide +kernel
theorem dX3_fewestLifts_63 : decode cX3_fewestLifts 63 = .ok (.iload_n 3, 1) := by decide +kernel
theorem dX3_fewestLifts_64 : decode cX3_fewestLifts 64 = .ok (.if_icmp .ge 6, 3) := by decide +kernel
theorem dX3_fewestLifts_67 : decode cX3_fewestLifts 67 = .ok (.iload 5, 2) := by decide +kernel
theorem dX3_fewestLifts_69 : decode cX3_fewestLifts 69 = .ok (.istore_n 3, 1) := by decide +kernel
theorem dX3_fewestLifts_70 : decode cX3_fewestLifts 70 = .ok (.iinc 4 1, 3) := by decide +kernel
theorem dX3_fewestLifts_73 : decode cX3_fewestLifts 73 = .ok (.goto (-38), 3) := by decide +kernel
theorem dX3_fewestLifts_76 : decode cX3_fewestLifts 76 = .ok (.iload_n 3, 1) := by decide +kernel
theorem dX3_fewestLifts_77 : decode cX3_fewestLifts 77 = .ok (.ireturn, 1) := by decide +kernel
theorem dX3_tell_0 : decode cX3_tell 0 = .ok (.iload_n 1, 1) := by decide +kernel
theorem dX3_tell_1 : decode cX3_tell 1 = .ok (.invokestatic 67, 3) := by decide +kernel
theorem dX3_tell_4 : decode cX3_tell 4 = .ok (.iload_n 2, 1) := by decide +kernel
theorem dX3_tell_5 : decode cX3_tell 5 = .ok (.invokestatic 67, 3) := by decide +kernel
theorem dX3_tell_8 : decode cX3_tell 8 = .ok (.iload_n 3, 1) := by decide +kernel
theorem dX3_tell_9 : decode cX3_tell 9 = .ok (.iconst (-1), 1) := by decide +kernel
theorem dX3_tell_10 : decode cX3_tell 10 = .ok (.if_icmp .eq 7, 3) := by decide +kernel
theorem dX3_tell_13 : decode cX3_tell 13 = .ok (.iload_n 3, 1) := by decide +kernel
theorem dX3_tell_14 : decode cX3_tell 14 = .ok (.invokestatic 67, 3) := by decide +kernel
theorem dX3_tell_17 : decode cX3_tell 17 = .ok (.iload 4, 2) := by decide +kernel
theorem dX3_tell_19 : decode cX3_tell 19 = .ok (.iconst (-1), 1) := by decide +kernel
theorem dX3_tell_20 : decode cX3_tell 20 = .ok (.if_icmp .eq 23, 3) := by decide +kernel
theorem dX3_tell_23 : decode cX3_tell 23 = .ok (.iload 4, 2) := by decide +kernel
theorem dX3_tell_25 : decode cX3_tell 25 = .ok (.invokestatic 67, 3) := by decide +kernel
theorem dX3_tell_28 : decode cX3_tell 28 = .ok (.iload_n 3, 1) := by decide +kernel
theorem dX3_tell_29 : decode cX3_tell 29 = .ok (.iconst (-1), 1) := by decide +kernel
theorem dX3_tell_30 : decode cX3_tell 30 = .ok (.if_icmp .ne 13, 3) := by decide +kernel
theorem dX3_tell_33 : decode cX3_tell 33 = .ok (.new 60, 3) := by decide +kernel
theorem dX3_tell_36 : decode cX3_tell 36 = .ok (.dup, 1) := by decide +kernel
theorem dX3_tell_37 : decode cX3_tell 37 = .ok (.ldc 155, 2) := by decide +kernel
theorem dX3_tell_39 : decode cX3_tell 39 = .ok (.invokespecial 64, 3) := by decide +kernel
theorem dX3_tell_42 : decode cX3_tell 42 = .ok (.athrow, 1) := by decide +kernel
theorem dX3_tell_43 : decode cX3_tell 43 = .ok (.aload_n 0, 1) := by decide +kernel
theorem dX3_tell_44 : decode cX3_tell 44 = .ok (.getfield 22, 3) := by decide +kernel
theorem dX3_tell_47 : decode cX3_tell 47 = .ok (.invokevirtual 157, 3) := by decide +kernel
theorem dX3_tell_50 : decode cX3_tell 50 = .ok (.bipush 8, 2) := by decide +kernel
theorem dX3_tell_52 : decode cX3_tell 52 = .ok (.if_icmp .lt 13, 3) := by decide +kernel
theorem dX3_tell_55 : decode cX3_tell 55 = .ok (.new 74, 3) := by decide +kernel
theorem dX3_tell_58 : decode cX3_tell 58 = .ok (.dup, 1) := by decide +kernel
theorem dX3_tell_59 : decode cX3_tell 59 = .ok (.ldc 160, 2) := by decide +kernel
theorem dX3_tell_61 : decode cX3_tell 61 = .ok (.invokespecial 78, 3) := by decide +kernel
theorem dX3_tell_64 : decode cX3_tell 64 = .ok (.athrow, 1) := by decide +kernel
theorem dX3_tell_65 : decode cX3_tell 65 = .ok (.aload_n 0, 1) := by decide +kernel
theorem dX3_tell_66 : decode cX3_tell 66 = .ok (.getfield 22, 3) := by decide +kernel
theorem dX3_tell_69 : decode cX3_tell 69 = .ok (.iload_n 1, 1) := by decide +kernel
theorem dX3_tell_70 : decode cX3_tell 70 = .ok (.iload_n 2, 1) := by decide +kernel
theorem dX3_tell_71 : decode cX3_tell 71 = .ok (.iload_n 3, 1) := by decide +kernel
theorem dX3_tell_72 : decode cX3_tell 72 = .ok (.iload 4, 2) := by decide +kernel
theorem dX3_tell_74 : decode cX3_tell 74 = .ok (.invokevirtual 162, 3) := by decide +kernel
theorem dX3_tell_77 : decode cX3_tell 77 = .ok (.istore 5, 2) := by decide +kernel
theorem dX3_tell_79 : decode cX3_tell 79 = .ok (.aload_n 0, 1) := by decide +kernel
theorem dX3_tell_80 : decode cX3_tell 80 = .ok (.invokevirtual 89, 3) := by decide +kernel
theorem dX3_tell_83 : decode cX3_tell 83 = .ok (.iload 5, 2) := by decide +kernel
theorem dX3_tell_85 : decode cX3_tell 85 = .ok (.ireturn, 1) := by decide +kernel
theorem dX3_bonus_0 : decode cX3_bonus 0 = .ok (.aload_n 0, 1) := by decide +kernel
theorem dX3_bonus_1 : decode cX3_bonus 1 = .ok (.getfield 22, 3) := by decide +kernel
theorem dX3_bonus_4 : decode cX3_bonus 4 = .ok (.invokevirtual 174, 3) := by decide +kernel
theorem dX3_bonus_7 : decode cX3_bonus 7 = .ok (.ireturn, 1) := by decide +kernel
theorem dX3_offer_0 : decode cX3_offer 0 = .ok (.aload_n 0, 1) := by decide +kernel
theorem dX3_offer_1 : decode cX3_offer 1 = .ok (.iload_n 1, 1) := by decide +kernel
theorem dX3_offer_2 : decode cX3_offer 2 = .ok (.invokevirtual 110, 3) := by decide +kernel
theorem dX3_offer_5 : decode cX3_offer 5 = .ok (.iload_n 2, 1) := by decide +kernel
theorem dX3_offer_6 : decode cX3_offer 6 = .ok (.aload_n 0, 1) := by decide +kernel
theorem dX3_offer_7 : decode cX3_offer 7 = .ok (.getfield 50, 3) := by decide +kernel
theorem dX3_offer_10 : decode cX3_offer 10 = .ok (.if_icmp .lt 14, 3) := by decide +kernel
theorem dX3_offer_13 : decode cX3_offer 13 = .ok (.iload_n 2, 1) := by decide +kernel
theorem dX3_offer_14 : decode cX3_offer 14 = .ok (.aload_n 0, 1) := by decide +kernel
theorem dX3_offer_15 : decode cX3_offer 15 = .ok (.getfield 50, 3) := by decide +kernel
theorem dX3_offer_18 : decode cX3_offer 18 = .ok (.bipush 100, 2) := by decide +kernel
theorem dX3_offer_20 : decode cX3_offer 20 = .ok (.iadd, 1) := by decide +kernel
theorem dX3_offer_21 : decode cX3_offer 21 = .ok (.if_icmp .le 13, 3) := by decide +kernel
theorem dX3_offer_24 : decode cX3_offer 24 = .ok (.new 60, 3) := by decide +kernel
theorem dX3_offer_27 : decode cX3_offer 27 = .ok (.dup, 1) := by decide +kernel
theorem dX3_offer_28 : decode cX3_offer 28 = .ok (.ldc 177, 2) := by decide +kernel
theorem dX3_offer_30 : decode cX3_offer 30 = .ok (.invokespecial 64, 3) := by decide +kernel
theorem dX3_offer_33 : decode cX3_offer 33 = .ok (.athrow, 1) := by decide +kernel
theorem dX3_offer_34 : decode cX3_offer 34 = .ok (.aload_n 0, 1) := by decide +kernel
theorem dX3_offer_35 : decode cX3_offer 35 = .ok (.iload_n 1, 1) := by decide +kernel
theorem dX3_offer_36 : decode cX3_offer 36 = .ok (.invokevirtual 113, 3) := by decide +kernel
theorem dX3_offer_39 : decode cX3_offer 39 = .ok (.aload_n 0, 1) := by decide +kernel
theorem dX3_offer_40 : decode cX3_offer 40 = .ok (.getfield 29, 3) := by decide +kernel
theorem dX3_offer_43 : decode cX3_offer 43 = .ok (.iload_n 1, 1) := by decide +kernel
theorem dX3_offer_44 : decode cX3_offer 44 = .ok (.invokevirtual 179, 3) := by decide +kernel
theorem dX3_offer_47 : decode cX3_offer 47 = .ok (.iconst (-1), 1) := by decide +kernel
theorem dX3_offer_48 : decode cX3_offer 48 = .ok (.if_icmp .eq 13, 3) := by decide +kernel
theorem dX3_offer_51 : decode cX3_offer 51 = .ok (.new 74, 3) := by decide +kernel
theorem dX3_offer_54 : decode cX3_offer 54 = .ok (.dup, 1) := by decide +kernel
theorem dX3_offer_55 : decode cX3_offer 55 = .ok (.ldc 182, 2) := by decide +kernel
theorem dX3_offer_57 : decode cX3_offer 57 = .ok (.invokespecial 78, 3) := by decide +kernel
theorem dX3_offer_60 : decode cX3_offer 60 = .ok (.athrow, 1) := by decide +kernel
theorem dX3_offer_61 : decode cX3_offer 61 = .ok (.aload_n 0, 1) := by decide +kernel
theorem dX3_offer_62 : decode cX3_offer 62 = .ok (.getfield 29, 3) := by decide +kernel
theorem dX3_offer_65 : decode cX3_offer 65 = .ok (.invokevirtual 184, 3) := by decide +kernel
theorem dX3_offer_68 : decode cX3_offer 68 = .ok (.bipush 20, 2) := by decide +kernel
theorem dX3_offer_70 : decode cX3_offer 70 = .ok (.if_icmp .lt 13, 3) := by decide +kernel
theorem dX3_offer_73 : decode cX3_offer 73 = .ok (.new 74, 3) := by decide +kernel
theorem dX3_offer_76 : decode cX3_offer 76 = .ok (.dup, 1) := by decide +kernel
theorem dX3_offer_77 : decode cX3_offer 77 = .ok (.ldc 185, 2) := by decide +kernel
theorem dX3_offer_79 : decode cX3_offer 79 = .ok (.invokespecial 78, 3) := by decide +kernel
theorem dX3_offer_82 : decode cX3_offer 82 = .ok (.athrow, 1) := by decide +kernel
theorem dX3_offer_83 : decode cX3_offer 83 = .ok (.aload_n 0, 1) := by decide +kernel
theorem dX3_offer_84 : decode cX3_offer 84 = .ok (.getfield 29, 3) := by decide +kernel
theorem dX3_offer_87 : decode cX3_offer 87 = .ok (.iload_n 1, 1) := by decide +kernel
theorem dX3_offer_88 : decode cX3_offer 88 = .ok (.iload_n 2, 1) := by decide +kernel
theorem dX3_offer_89 : decode cX3_offer 89 = .ok (.invokevirtual 187, 3) := by decide +kernel
theorem dX3_offer_92 : decode cX3_offer 92 = .ok (.ireturn, 1) := by decide +kernel
theorem dX3_bid_0 : decode cX3_bid 0 = .ok (.aload_n 0, 1) := by decide +kernel
theorem dX3_bid_1 : decode cX3_bid 1 = .ok (.iload_n 1, 1) := by decide +kernel
theorem dX3_bid_2 : decode cX3_bid 2 = .ok (.invokevirtual 189, 3) := by decide +kernel
theorem dX3_bid_5 : decode cX3_bid 5 = .ok (.iload_n 2, 1) := by decide +kernel
theorem dX3_bid_6 : decode cX3_bid 6 = .ok (.ifCond .lt 8, 3) := by decide +kernel
theorem dX3_bid_9 : decode cX3_bid 9 = .ok (.iload_n 2, 1) := by decide +kernel
theorem dX3_bid_10 : decode cX3_bid 10 = .ok (.iconst 4, 1) := by decide +kernel
theorem dX3_bid_11 : decode cX3_bid 11 = .ok (.if_icmp .lt 13, 3) := by decide +kernel
theorem dX3_bid_14 : decode cX3_bid 14 = .ok (.new 60, 3) := by decide +kernel
theorem dX3_bid_17 : decode cX3_bid 17 = .ok (.dup, 1) := by decide +kernel
theorem dX3_bid_18 : decode cX3_bid 18 = .ok (.ldc 192, 2) := by decide +kernel
theorem dX3_bid_20 : decode cX3_bid 20 = .ok (.invokespecial 64, 3) := by decide +kernel
theorem dX3_bid_23 : decode cX3_bid 23 = .ok (.athrow, 1) := by decide +kernel
theorem dX3_bid_24 : decode cX3_bid 24 = .ok (.iload_n 3, 1) := by decide +kernel
theorem dX3_bid_25 : decode cX3_bid 25 = .ok (.iconst 1, 1) := by decide +kernel
theorem dX3_bid_26 : decode cX3_bid 26 = .ok (.if_icmp .lt 10, 3) := by decide +kernel
theorem dX3_bid_29 : decode cX3_bid 29 = .ok (.iload_n 3, 1) := by decide +kernel
theorem dX3_bid_30 : decode cX3_bid 30 = .ok (.sipush 1000, 3) := by decide +kernel
theorem dX3_bid_33 : decode cX3_bid 33 = .ok (.if_icmp .le 13, 3) := by decide +kernel
theorem dX3_bid_36 : decode cX3_bid 36 = .ok (.new 60, 3) := by decide +kernel
theorem dX3_bid_39 : decode cX3_bid 39 = .ok (.dup, 1) := by decide +kernel
theorem dX3_bid_40 : decode cX3_bid 40 = .ok (.ldc 194, 2) := by decide +kernel
theorem dX3_bid_42 : decode cX3_bid 42 = .ok (.invokespecial 64, 3) := by decide +kernel
theorem dX3_bid_45 : decode cX3_bid 45 = .ok (.athrow, 1) := by decide +kernel
theorem dX3_bid_46 : decode cX3_bid 46 = .ok (.aload_n 0, 1) := by decide +kernel
theorem dX3_bid_47 : decode cX3_bid 47 = .ok (.iload_n 1, 1) := by decide +kernel
theorem dX3_bid_48 : decode cX3_bid 48 = .ok (.invokevirtual 196, 3) := by decide +kernel
theorem dX3_bid_51 : decode cX3_bid 51 = .ok (.aload_n 0, 1) := by decide +kernel
theorem dX3_bid_52 : decode cX3_bid 52 = .ok (.getfield 29, 3) := by decide +kernel
theorem dX3_bid_55 : decode cX3_bid 55 = .ok (.iload_n 1, 1) := by decide +kernel
theorem dX3_bid_56 : decode cX3_bid 56 = .ok (.iload_n 2, 1) := by decide +kernel
theorem dX3_bid_57 : decode cX3_bid 57 = .ok (.invokevirtual 199, 3) := by decide +kernel
theorem dX3_bid_60 : decode cX3_bid 60 = .ok (.iconst (-1), 1) := by decide +kernel
theorem dX3_bid_61 : decode cX3_bid 61 = .ok (.if_icmp .eq 13, 3) := by decide +kernel
theorem dX3_bid_64 : decode cX3_bid 64 = .ok (.new 74, 3) := by decide +kernel
theorem dX3_bid_67 : decode cX3_bid 67 = .ok (.dup, 1) := by decide +kernel
theorem dX3_bid_68 : decode cX3_bid 68 = .ok (.ldc 202, 2) := by decide +kernel
theorem dX3_bid_70 : decode cX3_bid 70 = .ok (.invokespecial 78, 3) := by decide +kernel
theorem dX3_bid_73 : decode cX3_bid 73 = .ok (.athrow, 1) := by decide +kernel
theorem dX3_bid_74 : decode cX3_bid 74 = .ok (.aload_n 0, 1) := by decide +kernel
theorem dX3_bid_75 : decode cX3_bid 75 = .ok (.getfield 29, 3) := by decide +kernel
theorem dX3_bid_78 : decode cX3_bid 78 = .ok (.iload_n 1, 1) := by decide +kernel
theorem dX3_bid_79 : decode cX3_bid 79 = .ok (.iload_n 2, 1) := by decide +kernel
theorem dX3_bid_80 : decode cX3_bid 80 = .ok (.iload_n 3, 1) := by decide +kernel
theorem dX3_bid_81 : decode cX3_bid 81 = .ok (.invokevirtual 204, 3) := by decide +kernel
theorem dX3_bid_84 : decode cX3_bid 84 = .ok (.return_, 1) := by decide +kernel
theorem dX3_give_0 : decode cX3_give 0 = .ok (.aload_n 0, 1) := by decide +kernel
theorem dX3_give_1 : decode cX3_give 1 = .ok (.iload_n 1, 1) := by decide +kernel
theorem dX3_give_2 : decode cX3_give 2 = .ok (.invokevirtual 189, 3) := by decide +kernel
theorem dX3_give_5 : decode cX3_give 5 = .ok (.aload_n 0, 1) := by decide +kernel
theorem dX3_give_6 : decode cX3_give 6 = .ok (.iload_n 1, 1) := by decide +kernel
theorem dX3_give_7 : decode cX3_give 7 = .ok (.invokevirtual 196, 3) := by decide +kernel
theorem dX3_give_10 : decode cX3_give 10 = .ok (.aload_n 0, 1) := by decide +kernel
theorem dX3_give_11 : decode cX3_give 11 = .ok (.getfield 29, 3) := by decide +kernel
theorem dX3_give_14 : decode cX3_give 14 = .ok (.iload_n 1, 1) := by decide +kernel
theorem dX3_give_15 : decode cX3_give 15 = .ok (.invokevirtual 208, 3) := by decide +kernel
theorem dX3_give_18 : decode cX3_give 18 = .ok (.istore_n 2, 1) := by decide +kernel
theorem dX3_give_19 : decode cX3_give 19 = .ok (.iload_n 2, 1) := by decide +kernel
theorem dX3_give_20 : decode cX3_give 20 = .ok (.iconst (-1), 1) := by decide +kernel
theorem dX3_give_21 : decode cX3_give 21 = .ok (.if_icmp .ne 13, 3) := by decide +kernel
theorem dX3_give_24 : decode cX3_give 24 = .ok (.new 74, 3) := by decide +kernel
theorem dX3_give_27 : decode cX3_give 27 = .ok (.dup, 1) := by decide +kernel
theorem dX3_give_28 : decode cX3_give 28 = .ok (.ldc 211, 2) := by decide +kernel
theorem dX3_give_30 : decode cX3_give 30 = .ok (.invokespecial 78, 3) := by decide +kernel
theorem dX3_give_33 : decode cX3_give 33 = .ok (.athrow, 1) := by decide +kernel
theorem dX3_give_34 : decode cX3_give 34 = .ok (.aload_n 0, 1) := by decide +kernel
theorem dX3_give_35 : decode cX3_give 35 = .ok (.getfield 29, 3) := by decide +kernel
theorem dX3_give_38 : decode cX3_give 38 = .ok (.iload_n 1, 1) := by decide +kernel
theorem dX3_give_39 : decode cX3_give 39 = .ok (.iload_n 2, 1) := by decide +kernel
theorem dX3_give_40 : decode cX3_give 40 = .ok (.invokevirtual 213, 3) := by decide +kernel
theorem dX3_give_43 : decode cX3_give 43 = .ok (.iload_n 2, 1) := by decide +kernel
theorem dX3_give_44 : decode cX3_give 44 = .ok (.ireturn, 1) := by decide +kernel
theorem dX3_load_0 : decode cX3_load 0 = .ok (.aload_n 0, 1) := by decide +kernel
theorem dX3_load_1 : decode cX3_load 1 = .ok (.invokevirtual 104, 3) := by decide +kernel
theorem dX3_load_4 : decode cX3_load 4 = .ok (.aload_n 0, 1) := by decide +kernel
theorem dX3_load_5 : decode cX3_load 5 = .ok (.getfield 29, 3) := by decide +kernel
theorem dX3_load_8 : decode cX3_load 8 = .ok (.aload_n 0, 1) := by decide +kernel
theorem dX3_load_9 : decode cX3_load 9 = .ok (.getfield 44, 3) := by decide +kernel
theorem dX3_load_12 : decode cX3_load 12 = .ok (.invokevirtual 179, 3) := by decide +kernel
theorem dX3_load_15 : decode cX3_load 15 = .ok (.istore_n 1, 1) := by decide +kernel
theorem dX3_load_16 : decode cX3_load 16 = .ok (.iload_n 1, 1) := by decide +kernel
theorem dX3_load_17 : decode cX3_load 17 = .ok (.iconst (-1), 1) := by decide +kernel
theorem dX3_load_18 : decode cX3_load 18 = .ok (.if_icmp .eq 15, 3) := by decide +kernel
theorem dX3_load_21 : decode cX3_load 21 = .ok (.aload_n 0, 1) := by decide +kernel
theorem dX3_load_22 : decode cX3_load 22 = .ok (.getfield 29, 3) := by decide +kernel
theorem dX3_load_25 : decode cX3_load 25 = .ok (.iload_n 1, 1) := by decide +kernel
theorem dX3_load_26 : decode cX3_load 26 = .ok (.invokevirtual 216, 3) := by decide +kernel
theorem dX3_load_29 : decode cX3_load 29 = .ok (.iconst 1, 1) := by decide +kernel
theorem dX3_load_30 : decode cX3_load 30 = .ok (.if_icmp .eq 13, 3) := by decide +kernel
theorem dX3_load_33 : decode cX3_load 33 = .ok (.new 74, 3) := by decide +kernel
theorem dX3_load_36 : decode cX3_load 36 = .ok (.dup, 1) := by decide +kernel
theorem dX3_load_37 : decode cX3_load 37 = .ok (.ldc 219, 2) := by decide +kernel
theorem dX3_load_39 : decode cX3_load 39 = .ok (.invokespecial 78, 3) := by decide +kernel
theorem dX3_load_42 : decode cX3_load 42 = .ok (.athrow, 1) := by decide +kernel
theorem dX3_load_43 : decode cX3_load 43 = .ok (.aload_n 0, 1) := by decide +kernel
theorem dX3_load_44 : decode cX3_load 44 = .ok (.iconst (-1), 1) := by decide +kernel
theorem dX3_load_45 : decode cX3_load 45 = .ok (.putfield 44, 3) := by decide +kernel
theorem dX3_load_48 : decode cX3_load 48 = .ok (.aload_n 0, 1) := by decide +kernel
theorem dX3_load_49 : decode cX3_load 49 = .ok (.getfield 29, 3) := by decide +kernel
theorem dX3_load_52 : decode cX3_load 52 = .ok (.iload_n 1, 1) := by decide +kernel
theorem dX3_load_53 : decode cX3_load 53 = .ok (.invokevirtual 221, 3) := by decide +kernel
theorem dX3_load_56 : decode cX3_load 56 = .ok (.ireturn, 1) := by decide +kernel
theorem dX3_storm_0 : decode cX3_storm 0 = .ok (.aload_n 0, 1) := by decide +kernel
theorem dX3_storm_1 : decode cX3_storm 1 = .ok (.iconst 1, 1) := by decide +kernel
theorem dX3_storm_2 : decode cX3_storm 2 = .ok (.putfield 53, 3) := by decide +kernel
theorem dX3_storm_5 : decode cX3_storm 5 = .ok (.aload_n 0, 1) := by decide +kernel
theorem dX3_storm_6 : decode cX3_storm 6 = .ok (.getfield 10, 3) := by decide +kernel
theorem dX3_storm_9 : decode cX3_storm 9 = .ok (.aload_n 0, 1) := by decide +kernel
theorem dX3_storm_10 : decode cX3_storm 10 = .ok (.invokevirtual 120, 3) := by decide +kernel
theorem dX3_storm_13 : decode cX3_storm 13 = .ok (.invokevirtual 224, 3) := by decide +kernel
theorem dX3_storm_16 : decode cX3_storm 16 = .ok (.ireturn, 1) := by decide +kernel
theorem dX3_pass_0 : decode cX3_pass 0 = .ok (.iload_n 1, 1) := by decide +kernel
theorem dX3_pass_1 : decode cX3_pass 1 = .ok (.iconst 1, 1) := by decide +kernel
theorem dX3_pass_2 : decode cX3_pass 2 = .ok (.if_icmp .lt 9, 3) := by decide +kernel
theorem dX3_pass_5 : decode cX3_pass 5 = .ok (.iload_n 1, 1) := by decide +kernel
theorem dX3_pass_6 : decode cX3_pass 6 = .ok (.bipush 100, 2) := by decide +kernel
theorem dX3_pass_8 : decode cX3_pass 8 = .ok (.if_icmp .le 13, 3) := by decide +kernel
theorem dX3_pass_11 : decode cX3_pass 11 = .ok (.new 60, 3) := by decide +kernel
theorem dX3_pass_14 : decode cX3_pass 14 = .ok (.dup, 1) := by decide +kernel
theorem dX3_pass_15 : decode cX3_pass 15 = .ok (.ldc 227, 2) := by decide +kernel
theorem dX3_pass_17 : decode cX3_pass 17 = .ok (.invokespecial 64, 3) := by decide +kernel
theorem dX3_pass_20 : decode cX3_pass 20 = .ok (.athrow, 1) := by decide +kernel
theorem dX3_pass_21 : decode cX3_pass 21 = .ok (.aload_n 0, 1) := by decide +kernel
theorem dX3_pass_22 : decode cX3_pass 22 = .ok (.getfield 50, 3) := by decide +kernel
theorem dX3_pass_25 : decode cX3_pass 25 = .ok (.iload_n 1, 1) := by decide +kernel
theorem dX3_pass_26 : decode cX3_pass 26 = .ok (.iadd, 1) := by decide +kernel
theorem dX3_pass_27 : decode cX3_pass 27 = .ok (.sipush 10000, 3) := by decide +kernel
theorem dX3_pass_30 : decode cX3_pass 30 = .ok (.if_icmp .le 13, 3) := by decide +kernel
theorem dX3_pass_33 : decode cX3_pass 33 = .ok (.new 74, 3) := by decide +kernel
theorem dX3_pass_36 : decode cX3_pass 36 = .ok (.dup, 1) := by decide +kernel
theorem dX3_pass_37 : decode cX3_pass 37 = .ok (.ldc 229, 2) := by decide +kernel
theorem dX3_pass_39 : decode cX3_pass 39 = .ok (.invokespecial 78, 3) := by decide +kernel
theorem dX3_pass_42 : decode cX3_pass 42 = .ok (.athrow, 1) := by decide +kernel
theorem dX3_pass_43 : decode cX3_pass 43 = .ok (.aload_n 0, 1) := by decide +kernel
theorem dX3_pass_44 : decode cX3_pass 44 = .ok (.getfield 57, 3) := by decide +kernel
theorem dX3_pass_47 : decode cX3_pass 47 = .ok (.istore_n 2, 1) := by decide +kernel
theorem dX3_pass_48 : decode cX3_pass 48 = .ok (.iconst 0, 1) := by decide +kernel
theorem dX3_pass_49 : decode cX3_pass 49 = .ok (.istore_n 3, 1) := by decide +kernel
theorem dX3_pass_50 : decode cX3_pass 50 = .ok (.iload_n 3, 1) := by decide +kernel
theorem dX3_pass_51 : decode cX3_pass 51 = .ok (.iload_n 1, 1) := by decide +kernel
theorem dX3_pass_52 : decode cX3_pass 52 = .ok (.if_icmp .ge 13, 3) := by decide +kernel
theorem dX3_pass_55 : decode cX3_pass 55 = .ok (.aload_n 0, 1) := by decide +kernel
theorem dX3_pass_56 : decode cX3_pass 56 = .ok (.invokevirtual 231, 3) := by decide +kernel
theorem dX3_pass_59 : decode cX3_pass 59 = .ok (.iinc 3 1, 3) := by decide +kernel
theorem dX3_pass_62 : decode cX3_pass 62 = .ok (.goto (-12), 3) := by decide +kernel
theorem dX3_pass_65 : decode cX3_pass 65 = .ok (.aload_n 0, 1) := by decide +kernel
theorem dX3_pass_66 : decode cX3_pass 66 = .ok (.getfield 57, 3) := by decide +kernel
theorem dX3_pass_69 : decode cX3_pass 69 = .ok (.iload_n 2, 1) := by decide +kernel
theorem dX3_pass_70 : decode cX3_pass 70 = .ok (.isub, 1) := by decide +kernel
theorem dX3_pass_71 : decode cX3_pass 71 = .ok (.ireturn, 1) := by decide +kernel
theorem dX3_today_0 : decode cX3_today 0 = .ok (.aload_n 0, 1) := by decide +kernel
theorem dX3_today_1 : decode cX3_today 1 = .ok (.getfield 50, 3) := by decide +kernel
theorem dX3_today_4 : decode cX3_today 4 = .ok (.ireturn, 1) := by decide +kernel
theorem dX3_balance_0 : decode cX3_balance 0 = .ok (.aload_n 0, 1) := by decide +kernel
theorem dX3_balance_1 : decode cX3_balance 1 = .ok (.getfield 22, 3) := by decide +kernel
theorem dX3_balance_4 : decode cX3_balance 4 = .ok (.invokevirtual 174, 3) := by decide +kernel
theorem dX3_balance_7 : decode cX3_balance 7 = .ok (.aload_n 0, 1) := by decide +kernel
theorem dX3_balance_8 : decode cX3_balance 8 = .ok (.getfield 57, 3) := by decide +kernel
theorem dX3_balance_11 : decode cX3_balance 11 = .ok (.isub, 1) := by decide +kernel
theorem dX3_balance_12 : decode cX3_balance 12 = .ok (.aload_n 0, 1) := by decide +kernel
theorem dX3_balance_13 : decode cX3_balance 13 = .ok (.getfield 29, 3) := by decide +kernel
theorem dX3_balance_16 : decode cX3_balance 16 = .ok (.invokevirtual 234, 3) := by decide +kernel
theorem dX3_balance_19 : decode cX3_balance 19 = .ok (.isub, 1) := by decide +kernel
theorem dX3_balance_20 : decode cX3_balance 20 = .ok (.aload_n 0, 1) := by decide +kernel
theorem dX3_balance_21 : decode cX3_balance 21 = .ok (.getfield 29, 3) := by decide +kernel
theorem dX3_balance_24 : decode cX3_balance 24 = .ok (.invokevirtual 237, 3) := by decide +kernel
theorem dX3_balance_27 : decode cX3_balance 27 = .ok (.isub, 1) := by decide +kernel
theorem dX3_balance_28 : decode cX3_balance 28 = .ok (.ireturn, 1) := by decide +kernel
theorem dX3_requireStack_0 : decode cX3_requireStack 0 = .ok (.iload_n 0, 1) := by decide +kernel
theorem dX3_requireStack_1 : decode cX3_requireStack 1 = .ok (.ifCond .lt 9, 3) := by decide +kernel
theorem dX3_requireStack_4 : decode cX3_requireStack 4 = .ok (.iload_n 0, 1) := by decide +kernel
theorem dX3_requireStack_5 : decode cX3_requireStack 5 = .ok (.bipush 6, 2) := by decide +kernel
theorem dX3_requireStack_7 : decode cX3_requireStack 7 = .ok (.if_icmp .lt 13, 3) := by decide +kernel
theorem dX3_requireStack_10 : decode cX3_requireStack 10 = .ok (.new 60, 3) := by decide +kernel
theorem dX3_requireStack_13 : decode cX3_requireStack 13 = .ok (.dup, 1) := by decide +kernel
theorem dX3_requireStack_14 : decode cX3_requireStack 14 = .ok (.ldc 240, 2) := by decide +kernel
theorem dX3_requireStack_16 : decode cX3_requireStack 16 = .ok (.invokespecial 64, 3) := by decide +kernel
theorem dX3_requireStack_19 : decode cX3_requireStack 19 = .ok (.athrow, 1) := by decide +kernel
theorem dX3_requireStack_20 : decode cX3_requireStack 20 = .ok (.return_, 1) := by decide +kernel
theorem dX3_requireLetter_0 : decode cX3_requireLetter 0 = .ok (.iload_n 0, 1) := by decide +kernel
theorem dX3_requireLetter_1 : decode cX3_requireLetter 1 = .ok (.ifCond .lt 9, 3) := by decide +kernel
theorem dX3_requireLetter_4 : decode cX3_requireLetter 4 = .ok (.iload_n 0, 1) := by decide +kernel
theorem dX3_requireLetter_5 : decode cX3_requireLetter 5 = .ok (.bipush 26, 2) := by decide +kernel
theorem dX3_requireLetter_7 : decode cX3_requireLetter 7 = .ok (.if_icmp .lt 13, 3) := by decide +kernel
theorem dX3_requireLetter_10 : decode cX3_requireLetter 10 = .ok (.new 60, 3) := by decide +kernel
theorem dX3_requireLetter_13 : decode cX3_requireLetter 13 = .ok (.dup, 1) := by decide +kernel
theorem dX3_requireLetter_14 : decode cX3_requireLetter 14 = .ok (.ldc 242, 2) := by decide +kernel
theorem dX3_requireLetter_16 : decode cX3_requireLetter 16 = .ok (.invokespecial 64, 3) := by decide +kernel
theorem dX3_requireLetter_19 : decode cX3_requireLetter 19 = .ok (.athrow, 1) := by decide +kernel
theorem dX3_requireLetter_20 : decode cX3_requireLetter 20 = .ok (.return_, 1) := by decide +kernel
theorem dX3_requireCrate_0 : decode cX3_requireCrate 0 = .ok (.iload_n 1, 1) := by decide +kernel
theorem dX3_requireCrate_1 : decode cX3_requireCrate 1 = .ok (.ifCond .lt 11, 3) := by decide +kernel
theorem dX3_requireCrate_4 : decode cX3_requireCrate 4 = .ok (.iload_n 1, 1) := by decide +kernel
theorem dX3_requireCrate_5 : decode cX3_requireCrate 5 = .ok (.aload_n 0, 1) := by decide +kernel
theorem dX3_requireCrate_6 : decode cX3_requireCrate 6 = .ok (.getfield 40, 3) := by decide +kernel
theorem dX3_requireCrate_9 : decode cX3_requireCrate 9 = .ok (.if_icmp .lt 13, 3) := by decide +kernel
theorem dX3_requireCrate_12 : decode cX3_requireCrate 12 = .ok (.new 166, 3) := by decide +kernel
theorem dX3_requireCrate_15 : decode cX3_requireCrate 15 = .ok (.dup, 1) := by decide +kernel
theorem dX3_requireCrate_16 : decode cX3_requireCrate 16 = .ok (.ldc 244, 2) := by decide +kernel
theorem dX3_requireCrate_18 : decode cX3_requireCrate 18 = .ok (.invokespecial 170, 3) := by decide +kernel
theorem dX3_requireCrate_21 : decode cX3_requireCrate 21 = .ok (.athrow, 1) := by decide +kernel
theorem dX3_requireCrate_22 : decode cX3_requireCrate 22 = .ok (.return_, 1) := by decide +kernel
theorem dX3_requireHaul_0 : decode cX3_requireHaul 0 = .ok (.iload_n 1, 1) := by decide +kernel
theorem dX3_requireHaul_1 : decode cX3_requireHaul 1 = .ok (.ifCond .lt 14, 3) := by decide +kernel
theorem dX3_requireHaul_4 : decode cX3_requireHaul 4 = .ok (.iload_n 1, 1) := by decide +kernel
theorem dX3_requireHaul_5 : decode cX3_requireHaul 5 = .ok (.aload_n 0, 1) := by decide +kernel
theorem dX3_requireHaul_6 : decode cX3_requireHaul 6 = .ok (.getfield 29, 3) := by decide +kernel
theorem dX3_requireHaul_9 : decode cX3_requireHaul 9 = .ok (.invokevirtual 184, 3) := by decide +kernel
theorem dX3_requireHaul_12 : decode cX3_requireHaul 12 = .ok (.if_icmp .lt 13, 3) := by decide +kernel
theorem dX3_requireHaul_15 : decode cX3_requireHaul 15 = .ok (.new 166, 3) := by decide +kernel
theorem dX3_requireHaul_18 : decode cX3_requireHaul 18 = .ok (.dup, 1) := by decide +kernel
theorem dX3_requireHaul_19 : decode cX3_requireHaul 19 = .ok (.ldc 246, 2) := by decide +kernel
theorem dX3_requireHaul_21 : decode cX3_requireHaul 21 = .ok (.invokespecial 170, 3) := by decide +kernel
theorem dX3_requireHaul_24 : decode cX3_requireHaul 24 = .ok (.athrow, 1) := by decide +kernel
theorem dX3_requireHaul_25 : decode cX3_requireHaul 25 = .ok (.return_, 1) := by decide +kernel
theorem dX3_requireOffered_0 : decode cX3_requireOffered 0 = .ok (.aload_n 0, 1) := by decide +kernel
theorem dX3_requireOffered_1 : decode cX3_requireOffered 1 = .ok (.getfield 29, 3) := by decide +kernel
theorem dX3_requireOffered_4 : decode cX3_requireOffered 4 = .ok (.iload_n 1, 1) := by decide +kernel
theorem dX3_requireOffered_5 : decode cX3_requireOffered 5 = .ok (.invokevirtual 216, 3) := by decide +kernel
theorem dX3_requireOffered_8 : decode cX3_requireOffered 8 = .ok (.ifCond .eq 13, 3) := by decide +kernel
theorem dX3_requireOffered_11 : decode cX3_requireOffered 11 = .ok (.new 74, 3) := by decide +kernel
theorem dX3_requireOffered_14 : decode cX3_requireOffered 14 = .ok (.dup, 1) := by decide +kernel
theorem dX3_requireOffered_15 : decode cX3_requireOffered 15 = .ok (.ldc 248, 2) := by decide +kernel
theorem dX3_requireOffered_17 : decode cX3_requireOffered 17 = .ok (.invokespecial 78, 3) := by decide +kernel
theorem dX3_requireOffered_20 : decode cX3_requireOffered 20 = .ok (.athrow, 1) := by decide +kernel
theorem dX3_requireOffered_21 : decode cX3_requireOffered 21 = .ok (.return_, 1) := by decide +kernel
theorem dX3_requireEmptyCrane_0 : decode cX3_requireEmptyCrane 0 = .ok (.aload_n 0, 1) := by decide +kernel
theorem dX3_requireEmptyCrane_1 : decode cX3_requireEmptyCrane 1 = .ok (.getfield 44, 3) := by decide +kernel
theorem dX3_requireEmptyCrane_4 : decode cX3_requireEmptyCrane 4 = .ok (.iconst (-1), 1) := by decide +kernel
theorem dX3_requireEmptyCrane_5 : decode cX3_requireEmptyCrane 5 = .ok (.if_icmp .eq 13, 3) := by decide +kernel
theorem dX3_requireEmptyCrane_8 : decode cX3_requireEmptyCrane 8 = .ok (.new 74, 3) := by decide +kernel
theorem dX3_requireEmptyCrane_11 : decode cX3_requireEmptyCrane 11 = .ok (.dup, 1) := by decide +kernel
theorem dX3_requireEmptyCrane_12 : decode cX3_requireEmptyCrane 12 = .ok (.ldc 250, 2) := by decide +kernel
theorem dX3_requireEmptyCrane_14 : decode cX3_requireEmptyCrane 14 = .ok (.invokespecial 78, 3) := by decide +kernel
theorem dX3_requireEmptyCrane_17 : decode cX3_requireEmptyCrane 17 = .ok (.athrow, 1) := by decide +kernel
theorem dX3_requireEmptyCrane_18 : decode cX3_requireEmptyCrane 18 = .ok (.return_, 1) := by decide +kernel
theorem dX3_requireFullCrane_0 : decode cX3_requireFullCrane 0 = .ok (.aload_n 0, 1) := by decide +kernel
theorem dX3_requireFullCrane_1 : decode cX3_requireFullCrane 1 = .ok (.getfield 44, 3) := by decide +kernel
theorem dX3_requireFullCrane_4 : decode cX3_requireFullCrane 4 = .ok (.iconst (-1), 1) := by decide +kernel
theorem dX3_requireFullCrane_5 : decode cX3_requireFullCrane 5 = .ok (.if_icmp .ne 13, 3) := by decide +kernel
theorem dX3_requireFullCrane_8 : decode cX3_requireFullCrane 8 = .ok (.new 74, 3) := by decide +kernel
theorem dX3_requireFullCrane_11 : decode cX3_requireFullCrane 11 = .ok (.dup, 1) := by decide +kernel
theorem dX3_requireFullCrane_12 : decode cX3_requireFullCrane 12 = .ok (.ldc 252, 2) := by decide +kernel
theorem dX3_requireFullCrane_14 : decode cX3_requireFullCrane 14 = .ok (.invokespecial 78, 3) := by decide +kernel
theorem dX3_requireFullCrane_17 : decode cX3_requireFullCrane 17 = .ok (.athrow, 1) := by decide +kernel
theorem dX3_requireFullCrane_18 : decode cX3_requireFullCrane 18 = .ok (.return_, 1) := by decide +kernel
theorem dX3_requireInStack_0 : decode cX3_requireInStack 0 = .ok (.aload_n 0, 1) := by decide +kernel
theorem dX3_requireInStack_1 : decode cX3_requireInStack 1 = .ok (.getfield 10, 3) := by decide +kernel
theorem dX3_requireInStack_4 : decode cX3_requireInStack 4 = .ok (.iload_n 1, 1) := by decide +kernel
theorem dX3_requireInStack_5 : decode cX3_requireInStack 5 = .ok (.invokevirtual 135, 3) := by decide +kernel
theorem dX3_requireInStack_8 : decode cX3_requireInStack 8 = .ok (.iconst (-1), 1) := by decide +kernel
theorem dX3_requireInStack_9 : decode cX3_requireInStack 9 = .ok (.if_icmp .ne 13, 3) := by decide +kernel
theorem dX3_requireInStack_12 : decode cX3_requireInStack 12 = .ok (.new 74, 3) := by decide +kernel
theorem dX3_requireInStack_15 : decode cX3_requireInStack 15 = .ok (.dup, 1) := by decide +kernel
theorem dX3_requireInStack_16 : decode cX3_requireInStack 16 = .ok (.ldc 254, 2) := by decide +kernel
theorem dX3_requireInStack_18 : decode cX3_requireInStack 18 = .ok (.invokespecial 78, 3) := by decide +kernel
theorem dX3_requireInStack_21 : decode cX3_requireInStack 21 = .ok (.athrow, 1) := by decide +kernel
theorem dX3_requireInStack_22 : decode cX3_requireInStack 22 = .ok (.return_, 1) := by decide +kernel
theorem dX3_requireRoom_0 : decode cX3_requireRoom 0 = .ok (.aload_n 0, 1) := by decide +kernel
theorem dX3_requireRoom_1 : decode cX3_requireRoom 1 = .ok (.getfield 10, 3) := by decide +kernel
theorem dX3_requireRoom_4 : decode cX3_requireRoom 4 = .ok (.iload_n 1, 1) := by decide +kernel
theorem dX3_requireRoom_5 : decode cX3_requireRoom 5 = .ok (.iload_n 2, 1) := by decide +kernel
theorem dX3_requireRoom_6 : decode cX3_requireRoom 6 = .ok (.aload_n 0, 1) := by decide +kernel
theorem dX3_requireRoom_7 : decode cX3_requireRoom 7 = .ok (.invokevirtual 120, 3) := by decide +kernel
theorem dX3_requireRoom_10 : decode cX3_requireRoom 10 = .ok (.invokevirtual 256, 3) := by decide +kernel
theorem dX3_requireRoom_13 : decode cX3_requireRoom 13 = .ok (.ifCond .ne 14, 3) := by decide +kernel
theorem dX3_requireRoom_16 : decode cX3_requireRoom 16 = .ok (.new 74, 3) := by decide +kernel
theorem dX3_requireRoom_19 : decode cX3_requireRoom 19 = .ok (.dup, 1) := by decide +kernel
theorem dX3_requireRoom_20 : decode cX3_requireRoom 20 = .ok (.ldc_w 260, 3) := by decide +kernel
theorem dX3_requireRoom_23 : decode cX3_requireRoom 23 = .ok (.invokespecial 78, 3) := by decide +kernel
theorem dX3_requireRoom_26 : decode cX3_requireRoom 26 = .ok (.athrow, 1) := by decide +kernel
theorem dX3_requireRoom_27 : decode cX3_requireRoom 27 = .ok (.return_, 1) := by decide +kernel
theorem dX3_mostPlaces_0 : decode cX3_mostPlaces 0 = .ok (.aload_n 0, 1) := by decide +kernel
theorem dX3_mostPlaces_1 : decode cX3_mostPlaces 1 = .ok (.getfield 53, 3) := by decide +kernel
theorem dX3_mostPlaces_4 : decode cX3_mostPlaces 4 = .ok (.ifCond .eq 7, 3) := by decide +kernel
theorem dX3_mostPlaces_7 : decode cX3_mostPlaces 7 = .ok (.iconst 3, 1) := by decide +kernel
theorem dX3_mostPlaces_8 : decode cX3_mostPlaces 8 = .ok (.goto 4, 3) := by decide +kernel
theorem dX3_mostPlaces_11 : decode cX3_mostPlaces 11 = .ok (.iconst 5, 1) := by decide +kernel
theorem dX3_mostPlaces_12 : decode cX3_mostPlaces 12 = .ok (.ireturn, 1) := by decide +kernel
theorem dX3_payWords_0 : decode cX3_payWords 0 = .ok (.iconst 0, 1) := by decide +kernel
theorem dX3_payWords_1 : decode cX3_payWords 1 = .ok (.istore_n 1, 1) := by decide +kernel
theorem dX3_payWords_2 : decode cX3_payWords 2 = .ok (.iconst 0, 1) := by decide +kernel
theorem dX3_payWords_3 : decode cX3_payWords 3 = .ok (.istore_n 2, 1) := by decide +kernel
theorem dX3_payWords_4 : decode cX3_payWords 4 = .ok (.iload_n 2, 1) := by decide +kernel
theorem dX3_payWords_5 : decode cX3_payWords 5 = .ok (.bipush 6, 2) := by decide +kernel
theorem dX3_payWords_7 : decode cX3_payWords 7 = .ok (.if_icmp .ge 49, 3) := by decide +kernel
theorem dX3_payWords_10 : decode cX3_payWords 10 = .ok (.aload_n 0, 1) := by decide +kernel
theorem dX3_payWords_11 : decode cX3_payWords 11 = .ok (.getfield 10, 3) := by decide +kernel
theorem dX3_payWords_14 : decode cX3_payWords 14 = .ok (.iload_n 2, 1) := by decide +kernel
theorem dX3_payWords_15 : decode cX3_payWords 15 = .ok (.invokevirtual 262, 3) := by decide +kernel
theorem dX3_payWords_18 : decode cX3_payWords 18 = .ok (.istore_n 3, 1) := by decide +kernel
theorem dX3_payWords_19 : decode cX3_payWords 19 = .ok (.iload_n 3, 1) := by decide +kernel
theorem dX3_payWords_20 : decode cX3_payWords 20 = .ok (.ifCond .lt 30, 3) := by decide +kernel
theorem dX3_payWords_23 : decode cX3_payWords 23 = .ok (.iload_n 3, 1) := by decide +kernel
theorem dX3_payWords_24 : decode cX3_payWords 24 = .ok (.bipush 30, 2) := by decide +kernel
theorem dX3_payWords_26 : decode cX3_payWords 26 = .ok (.if_icmp .ge 24, 3) := by decide +kernel
theorem dX3_payWords_29 : decode cX3_payWords 29 = .ok (.iload_n 1, 1) := by decide +kernel
theorem dX3_payWords_30 : decode cX3_payWords 30 = .ok (.bipush 6, 2) := by decide +kernel
theorem dX3_payWords_32 : decode cX3_payWords 32 = .ok (.if_icmp .ge 18, 3) := by decide +kernel
theorem dX3_payWords_35 : decode cX3_payWords 35 = .ok (.aload_n 0, 1) := by decide +kernel
theorem dX3_payWords_36 : decode cX3_payWords 36 = .ok (.getfield 37, 3) := by decide +kernel
theorem dX3_payWords_39 : decode cX3_payWords 39 = .ok (.iload_n 1, 1) := by decide +kernel
theorem dX3_payWords_40 : decode cX3_payWords 40 = .ok (.aload_n 0, 1) := by decide +kernel
theorem dX3_payWords_41 : decode cX3_payWords 41 = .ok (.getfield 33, 3) := by decide +kernel
theorem dX3_payWords_44 : decode cX3_payWords 44 = .ok (.iload_n 3, 1) := by decide +kernel
theorem dX3_payWords_45 : decode cX3_payWords 45 = .ok (.iaload, 1) := by decide +kernel
theorem dX3_payWords_46 : decode cX3_payWords 46 = .ok (.iastore, 1) := by decide +kernel
theorem dX3_payWords_47 : decode cX3_payWords 47 = .ok (.iinc 1 1, 3) := by decide +kernel
theorem dX3_payWords_50 : decode cX3_payWords 50 = .ok (.iinc 2 1, 3) := by decide +kernel
theorem dX3_payWords_53 : decode cX3_payWords 53 = .ok (.goto (-49), 3) := by decide +kernel
theorem dX3_payWords_56 : decode cX3_payWords 56 = .ok (.aload_n 0, 1) := by decide +kernel
theorem dX3_payWords_57 : decode cX3_payWords 57 = .ok (.getfield 22, 3) := by decide +kernel
theorem dX3_payWords_60 : decode cX3_payWords 60 = .ok (.aload_n 0, 1) := by decide +kernel
theorem dX3_payWords_61 : decode cX3_payWords 61 = .ok (.getfield 37, 3) := by decide +kernel
theorem dX3_payWords_64 : decode cX3_payWords 64 = .ok (.iload_n 1, 1) := by decide +kernel
theorem dX3_payWords_65 : decode cX3_payWords 65 = .ok (.invokevirtual 265, 3) := by decide +kernel
theorem dX3_payWords_68 : decode cX3_payWords 68 = .ok (.return_, 1) := by decide +kernel
theorem dX3_endDay_0 : decode cX3_endDay 0 = .ok (.aload_n 0, 1) := by decide +kernel
theorem dX3_endDay_1 : decode cX3_endDay 1 = .ok (.dup, 1) := by decide +kernel
theorem dX3_endDay_2 : decode cX3_endDay 2 = .ok (.getfield 57, 3) := by decide +kernel
theorem dX3_endDay_5 : decode cX3_endDay 5 = .ok (.aload_n 0, 1) := by decide +kernel
theorem dX3_endDay_6 : decode cX3_endDay 6 = .ok (.getfield 10, 3) := by decide +kernel
theorem dX3_endDay_9 : decode cX3_endDay 9 = .ok (.invokevirtual 269, 3) := by decide +kernel
theorem dX3_endDay_12 : decode cX3_endDay 12 = .ok (.iadd, 1) := by decide +kernel
theorem dX3_endDay_13 : decode cX3_endDay 13 = .ok (.putfield 57, 3) := by decide +kernel
theorem dX3_endDay_16 : decode cX3_endDay 16 = .ok (.aload_n 0, 1) := by decide +kernel
theorem dX3_endDay_17 : decode cX3_endDay 17 = .ok (.getfield 29, 3) := by decide +kernel
theorem dX3_endDay_20 : decode cX3_endDay 20 = .ok (.aload_n 0, 1) := by decide +kernel
theorem dX3_endDay_21 : decode cX3_endDay 21 = .ok (.getfield 50, 3) := by decide +kernel
theorem dX3_endDay_24 : decode cX3_endDay 24 = .ok (.invokevirtual 272, 3) := by decide +kernel
theorem dX3_endDay_27 : decode cX3_endDay 27 = .ok (.aload_n 0, 1) := by decide +kernel
theorem dX3_endDay_28 : decode cX3_endDay 28 = .ok (.dup, 1) := by decide +kernel
theorem dX3_endDay_29 : decode cX3_endDay 29 = .ok (.getfield 50, 3) := by decide +kernel
theorem dX3_endDay_32 : decode cX3_endDay 32 = .ok (.iconst 1, 1) := by decide +kernel
theorem dX3_endDay_33 : decode cX3_endDay 33 = .ok (.iadd, 1) := by decide +kernel
theorem dX3_endDay_34 : decode cX3_endDay 34 = .ok (.putfield 50, 3) := by decide +kernel
theorem dX3_endDay_37 : decode cX3_endDay 37 = .ok (.aload_n 0, 1) := by decide +kernel
theorem dX3_endDay_38 : decode cX3_endDay 38 = .ok (.iconst 0, 1) := by decide +kernel
theorem dX3_endDay_39 : decode cX3_endDay 39 = .ok (.putfield 53, 3) := by decide +kernel
theorem dX3_endDay_42 : decode cX3_endDay 42 = .ok (.return_, 1) := by decide +kernel
theorem dX3_areInStacks_0 : decode cX3_areInStacks 0 = .ok (.iload_n 1, 1) := by decide +kernel
theorem dX3_areInStacks_1 : decode cX3_areInStacks 1 = .ok (.invokestatic 144, 3) := by decide +kernel
theorem dX3_areInStacks_4 : decode cX3_areInStacks 4 = .ok (.istore_n 2, 1) := by decide +kernel
theorem dX3_areInStacks_5 : decode cX3_areInStacks 5 = .ok (.iload_n 2, 1) := by decide +kernel
theorem dX3_areInStacks_6 : decode cX3_areInStacks 6 = .ok (.iconst 1, 1) := by decide +kernel
theorem dX3_areInStacks_7 : decode cX3_areInStacks 7 = .ok (.if_icmp .lt 8, 3) := by decide +kernel
theorem dX3_areInStacks_10 : decode cX3_areInStacks 10 = .ok (.iload_n 2, 1) := by decide +kernel
theorem dX3_areInStacks_11 : decode cX3_areInStacks 11 = .ok (.iconst 4, 1) := by decide +kernel
theorem dX3_areInStacks_12 : decode cX3_areInStacks 12 = .ok (.if_icmp .le 5, 3) := by decide +kernel
theorem dX3_areInStacks_15 : decode cX3_areInStacks 15 = .ok (.iconst 0, 1) := by decide +kernel
theorem dX3_areInStacks_16 : decode cX3_areInStacks 16 = .ok (.ireturn, 1) := by decide +kernel
theorem dX3_areInStacks_17 : decode cX3_areInStacks 17 = .ok (.iconst 0, 1) := by decide +kernel
theorem dX3_areInStacks_18 : decode cX3_areInStacks 18 = .ok (.istore_n 3, 1) := by decide +kernel
theorem dX3_areInStacks_19 : decode cX3_areInStacks 19 = .ok (.iload_n 3, 1) := by decide +kernel
theorem dX3_areInStacks_20 : decode cX3_areInStacks 20 = .ok (.bipush 32, 2) := by decide +kernel
theorem dX3_areInStacks_22 : decode cX3_areInStacks 22 = .ok (.if_icmp .ge 31, 3) := by decide +kernel
theorem dX3_areInStacks_25 : decode cX3_areInStacks 25 = .ok (.iload_n 1, 1) := by decide +kernel
theorem dX3_areInStacks_26 : decode cX3_areInStacks 26 = .ok (.iload_n 3, 1) := by decide +kernel
theorem dX3_areInStacks_27 : decode cX3_areInStacks 27 = .ok (.invokestatic 274, 3) := by decide +kernel
theorem dX3_areInStacks_30 : decode cX3_areInStacks 30 = .ok (.ifCond .eq 17, 3) := by decide +kernel
theorem dX3_areInStacks_33 : decode cX3_areInStacks 33 = .ok (.aload_n 0, 1) := by decide +kernel
theorem dX3_areInStacks_34 : decode cX3_areInStacks 34 = .ok (.getfield 10, 3) := by decide +kernel
theorem dX3_areInStacks_37 : decode cX3_areInStacks 37 = .ok (.iload_n 3, 1) := by decide +kernel
theorem dX3_areInStacks_38 : decode cX3_areInStacks 38 = .ok (.invokevirtual 135, 3) := by decide +kernel
theorem dX3_areInStacks_41 : decode cX3_areInStacks 41 = .ok (.iconst (-1), 1) := by decide +kernel
theorem dX3_areInStacks_42 : decode cX3_areInStacks 42 = .ok (.if_icmp .ne 5, 3) := by decide +kernel
theorem dX3_areInStacks_45 : decode cX3_areInStacks 45 = .ok (.iconst 0, 1) := by decide +kernel
theorem dX3_areInStacks_46 : decode cX3_areInStacks 46 = .ok (.ireturn, 1) := by decide +kernel
theorem dX3_areInStacks_47 : decode cX3_areInStacks 47 = .ok (.iinc 3 1, 3) := by decide +kernel
theorem dX3_areInStacks_50 : decode cX3_areInStacks 50 = .ok (.goto (-31), 3) := by decide +kernel
theorem dX3_areInStacks_53 : decode cX3_areInStacks 53 = .ok (.iconst 1, 1) := by decide +kernel
theorem dX3_areInStacks_54 : decode cX3_areInStacks 54 = .ok (.ireturn, 1) := by decide +kernel
theorem dX3_contains_0 : decode cX3_contains 0 = .ok (.iload_n 0, 1) := by decide +kernel
theorem dX3_contains_1 : decode cX3_contains 1 = .ok (.iload_n 1, 1) := by decide +kernel
theorem dX3_contains_2 : decode cX3_contains 2 = .ok (.iushr, 1) := by decide +kernel
theorem dX3_contains_3 : decode cX3_contains 3 = .ok (.iconst 1, 1) := by decide +kernel
theorem dX3_contains_4 : decode cX3_contains 4 = .ok (.iand, 1) := by decide +kernel
theorem dX3_contains_5 : decode cX3_contains 5 = .ok (.iconst 1, 1) := by decide +kernel
theorem dX3_contains_6 : decode cX3_contains 6 = .ok (.if_icmp .ne 7, 3) := by decide +kernel
theorem dX3_contains_9 : decode cX3_contains 9 = .ok (.iconst 1, 1) := by decide +kernel
theorem dX3_contains_10 : decode cX3_contains 10 = .ok (.goto 4, 3) := by decide +kernel
theorem dX3_contains_13 : decode cX3_contains 13 = .ok (.iconst 0, 1) := by decide +kernel
theorem dX3_contains_14 : decode cX3_contains 14 = .ok (.ireturn, 1) := by decide +kernel
theorem dX3_ordersOf_0 : decode cX3_ordersOf 0 = .ok (.iconst 1, 1) := by decide +kernel
theorem dX3_ordersOf_1 : decode cX3_ordersOf 1 = .ok (.istore_n 1, 1) := by decide +kernel
theorem dX3_ordersOf_2 : decode cX3_ordersOf 2 = .ok (.iconst 2, 1) := by decide +kernel
theorem dX3_ordersOf_3 : decode cX3_ordersOf 3 = .ok (.istore_n 2, 1) := by decide +kernel
theorem dX3_ordersOf_4 : decode cX3_ordersOf 4 = .ok (.iload_n 2, 1) := by decide +kernel
theorem dX3_ordersOf_5 : decode cX3_ordersOf 5 = .ok (.iload_n 0, 1) := by decide +kernel
theorem dX3_ordersOf_6 : decode cX3_ordersOf 6 = .ok (.if_icmp .gt 13, 3) := by decide +kernel
theorem dX3_ordersOf_9 : decode cX3_ordersOf 9 = .ok (.iload_n 1, 1) := by decide +kernel
theorem dX3_ordersOf_10 : decode cX3_ordersOf 10 = .ok (.iload_n 2, 1) := by decide +kernel
theorem dX3_ordersOf_11 : decode cX3_ordersOf 11 = .ok (.imul, 1) := by decide +kernel
theorem dX3_ordersOf_12 : decode cX3_ordersOf 12 = .ok (.istore_n 1, 1) := by decide +kernel
theorem dX3_ordersOf_13 : decode cX3_ordersOf 13 = .ok (.iinc 2 1, 3) := by decide +kernel
theorem dX3_ordersOf_16 : decode cX3_ordersOf 16 = .ok (.goto (-12), 3) := by decide +kernel
theorem dX3_ordersOf_19 : decode cX3_ordersOf 19 = .ok (.iload_n 1, 1) := by decide +kernel
theorem dX3_ordersOf_20 : decode cX3_ordersOf 20 = .ok (.ireturn, 1) := by decide +kernel
theorem dX3_liftsInOrder_0 : decode cX3_liftsInOrder 0 = .ok (.aload_n 0, 1) := by decide +kernel
theorem dX3_liftsInOrder_1 : decode cX3_liftsInOrder 1 = .ok (.getfield 16, 3) := by decide +kernel
theorem dX3_liftsInOrder_4 : decode cX3_liftsInOrder 4 = .ok (.aload_n 0, 1) := by decide +kernel
theorem dX3_liftsInOrder_5 : decode cX3_liftsInOrder 5 = .ok (.getfield 10, 3) := by decide +kernel
theorem dX3_liftsInOrder_8 : decode cX3_liftsInOrder 8 = .ok (.invokevirtual 116, 3) := by decide +kernel
theorem dX3_liftsInOrder_11 : decode cX3_liftsInOrder 11 = .ok (.iload_n 1, 1) := by decide +kernel
theorem dX3_liftsInOrder_12 : decode cX3_liftsInOrder 12 = .ok (.istore_n 3, 1) := by decide +kernel
theorem dX3_liftsInOrder_13 : decode cX3_liftsInOrder 13 = .ok (.iload_n 2, 1) := by decide +kernel
theorem dX3_liftsInOrder_14 : decode cX3_liftsInOrder 14 = .ok (.istore 4, 2) := by decide +kernel
theorem dX3_liftsInOrder_16 : decode cX3_liftsInOrder 16 = .ok (.iconst 0, 1) := by decide +kernel
theorem dX3_liftsInOrder_17 : decode cX3_liftsInOrder 17 = .ok (.istore 5, 2) := by decide +kernel
theorem dX3_liftsInOrder_19 : decode cX3_liftsInOrder 19 = .ok (.iload_n 1, 1) := by decide +kernel
theorem dX3_liftsInOrder_20 : decode cX3_liftsInOrder 20 = .ok (.invokestatic 144, 3) := by decide +kernel
theorem dX3_liftsInOrder_23 : decode cX3_liftsInOrder 23 = .ok (.istore 6, 2) := by decide +kernel
theorem dX3_liftsInOrder_25 : decode cX3_liftsInOrder 25 = .ok (.iload 6, 2) := by decide +kernel
theorem dX3_liftsInOrder_27 : decode cX3_liftsInOrder 27 = .ok (.ifCond .le 66, 3) := by decide +kernel
theorem dX3_liftsInOrder_30 : decode cX3_liftsInOrder 30 = .ok (.iload_n 3, 1) := by decide +kernel
theorem dX3_liftsInOrder_31 : decode cX3_liftsInOrder 31 = .ok (.iload 4, 2) := by decide +kernel
theorem dX3_liftsInOrder_33 : decode cX3_liftsInOrder 33 = .ok (.iload 6, 2) := by decide +kernel
theorem dX3_liftsInOrder_35 : decode cX3_liftsInOrder 35 = .ok (.irem, 1) := by decide +kernel
theorem dX3_liftsInOrder_36 : decode cX3_liftsInOrder 36 = .ok (.invokestatic 278, 3) := by decide +kernel
theorem dX3_liftsInOrder_39 : decode cX3_liftsInOrder 39 = .ok (.istore 7, 2) := by decide +kernel
theorem dX3_liftsInOrder_41 : decode cX3_liftsInOrder 41 = .ok (.aload_n 0, 1) := by decide +kernel
theorem dX3_liftsInOrder_42 : decode cX3_liftsInOrder 42 = .ok (.getfield 16, 3) := by decide +kernel
theorem dX3_liftsInOrder_45 : decode cX3_liftsInOrder 45 = .ok (.iload 7, 2) := by decide +kernel
theorem dX3_liftsInOrder_47 : decode cX3_liftsInOrder 47 = .ok (.aload_n 0, 1) := by decide +kernel
theorem dX3_liftsInOrder_48 : decode cX3_liftsInOrder 48 = .ok (.invokevirtual 120, 3) := by decide +kernel
theorem dX3_liftsInOrder_51 : decode cX3_liftsInOrder 51 = .ok (.invokevirtual 124, 3) := by decide +kernel
theorem dX3_liftsInOrder_54 : decode cX3_liftsInOrder 54 = .ok (.istore 8, 2) := by decide +kernel
theorem dX3_liftsInOrder_56 : decode cX3_liftsInOrder 56 = .ok (.iload 8, 2) := by decide +kernel
theorem dX3_liftsInOrder_58 : decode cX3_liftsInOrder 58 = .ok (.iconst (-1), 1) := by decide +kernel
theorem dX3_liftsInOrder_59 : decode cX3_liftsInOrder 59 = .ok (.if_icmp .ne 5, 3) := by decide +kernel
theorem dX3_liftsInOrder_62 : decode cX3_liftsInOrder 62 = .ok (.iconst (-1), 1) := by decide +kernel
theorem dX3_liftsInOrder_63 : decode cX3_liftsInOrder 63 = .ok (.ireturn, 1) := by decide +kernel
theorem dX3_liftsInOrder_64 : decode cX3_liftsInOrder 64 = .ok (.iload 5, 2) := by decide +kernel
theorem dX3_liftsInOrder_66 : decode cX3_liftsInOrder 66 = .ok (.iload 8, 2) := by decide +kernel
theorem dX3_liftsInOrder_68 : decode cX3_liftsInOrder 68 = .ok (.iadd, 1) := by decide +kernel
theorem dX3_liftsInOrder_69 : decode cX3_liftsInOrder 69 = .ok (.istore 5, 2) := by decide +kernel
theorem dX3_liftsInOrder_71 : decode cX3_liftsInOrder 71 = .ok (.iload_n 3, 1) := by decide +kernel
theorem dX3_liftsInOrder_72 : decode cX3_liftsInOrder 72 = .ok (.iconst 1, 1) := by decide +kernel
theorem dX3_liftsInOrder_73 : decode cX3_liftsInOrder 73 = .ok (.iload 7, 2) := by decide +kernel
theorem dX3_liftsInOrder_75 : decode cX3_liftsInOrder 75 = .ok (.ishl, 1) := by decide +kernel
theorem dX3_liftsInOrder_76 : decode cX3_liftsInOrder 76 = .ok (.iconst (-1), 1) := by decide +kernel
theorem dX3_liftsInOrder_77 : decode cX3_liftsInOrder 77 = .ok (.ixor, 1) := by decide +kernel
theorem dX3_liftsInOrder_78 : decode cX3_liftsInOrder 78 = .ok (.iand, 1) := by decide +kernel
theorem dX3_liftsInOrder_79 : decode cX3_liftsInOrder 79 = .ok (.istore_n 3, 1) := by decide +kernel
theorem dX3_liftsInOrder_80 : decode cX3_liftsInOrder 80 = .ok (.iload 4, 2) := by decide +kernel
theorem dX3_liftsInOrder_82 : decode cX3_liftsInOrder 82 = .ok (.iload 6, 2) := by decide +kernel
theorem dX3_liftsInOrder_84 : decode cX3_liftsInOrder 84 = .ok (.idiv, 1) := by decide +kernel
theorem dX3_liftsInOrder_85 : decode cX3_liftsInOrder 85 = .ok (.istore 4, 2) := by decide +kernel
theorem dX3_liftsInOrder_87 : decode cX3_liftsInOrder 87 = .ok (.iinc 6 (-1), 3) := by decide +kernel
theorem dX3_liftsInOrder_90 : decode cX3_liftsInOrder 90 = .ok (.goto (-65), 3) := by decide +kernel
theorem dX3_liftsInOrder_93 : decode cX3_liftsInOrder 93 = .ok (.iload 5, 2) := by decide +kernel
theorem dX3_liftsInOrder_95 : decode cX3_liftsInOrder 95 = .ok (.ireturn, 1) := by decide +kernel
theorem dX3_memberOf_0 : decode cX3_memberOf 0 = .ok (.iconst 0, 1) := by decide +kernel
theorem dX3_memberOf_1 : decode cX3_memberOf 1 = .ok (.istore_n 2, 1) := by decide +kernel
theorem dX3_memberOf_2 : decode cX3_memberOf 2 = .ok (.iconst 0, 1) := by decide +kernel
theorem dX3_memberOf_3 : decode cX3_memberOf 3 = .ok (.istore_n 3, 1) := by decide +kernel
theorem dX3_memberOf_4 : decode cX3_memberOf 4 = .ok (.iload_n 3, 1) := by decide +kernel
theorem dX3_memberOf_5 : decode cX3_memberOf 5 = .ok (.bipush 30, 2) := by decide +kernel
theorem dX3_memberOf_7 : decode cX3_memberOf 7 = .ok (.if_icmp .ge 27, 3) := by decide +kernel
theorem dX3_memberOf_10 : decode cX3_memberOf 10 = .ok (.iload_n 0, 1) := by decide +kernel
theorem dX3_memberOf_11 : decode cX3_memberOf 11 = .ok (.iload_n 3, 1) := by decide +kernel
theorem dX3_memberOf_12 : decode cX3_memberOf 12 = .ok (.invokestatic 274, 3) := by decide +kernel
theorem dX3_memberOf_15 : decode cX3_memberOf 15 = .ok (.ifCond .eq 13, 3) := by decide +kernel
theorem dX3_memberOf_18 : decode cX3_memberOf 18 = .ok (.iload_n 2, 1) := by decide +kernel
theorem dX3_memberOf_19 : decode cX3_memberOf 19 = .ok (.iload_n 1, 1) := by decide +kernel
theorem dX3_memberOf_20 : decode cX3_memberOf 20 = .ok (.if_icmp .ne 5, 3) := by decide +kernel
theorem dX3_memberOf_23 : decode cX3_memberOf 23 = .ok (.iload_n 3, 1) := by decide +kernel
theorem dX3_memberOf_24 : decode cX3_memberOf 24 = .ok (.ireturn, 1) := by decide +kernel
theorem dX3_memberOf_25 : decode cX3_memberOf 25 = .ok (.iinc 2 1, 3) := by decide +kernel
theorem dX3_memberOf_28 : decode cX3_memberOf 28 = .ok (.iinc 3 1, 3) := by decide +kernel
theorem dX3_memberOf_31 : decode cX3_memberOf 31 = .ok (.goto (-27), 3) := by decide +kernel
theorem dX3_memberOf_34 : decode cX3_memberOf 34 = .ok (.iconst (-1), 1) := by decide +kernel
theorem dX3_memberOf_35 : decode cX3_memberOf 35 = .ok (.ireturn, 1) := by decide +kernel
theorem dJ6_bitCount_0f7a4_0 : decode cJ6_bitCount_0f7a4 0 = .ok (.iload_n 0, 1) := by decide +kernel
theorem dJ6_bitCount_0f7a4_1 : decode cJ6_bitCount_0f7a4 1 = .ok (.iload_n 0, 1) := by decide +kernel
theorem dJ6_bitCount_0f7a4_2 : decode cJ6_bitCount_0f7a4 2 = .ok (.iconst 1, 1) := by decide +kernel
theorem dJ6_bitCount_0f7a4_3 : decode cJ6_bitCount_0f7a4 3 = .ok (.iushr, 1) := by decide +kernel
theorem dJ6_bitCount_0f7a4_4 : decode cJ6_bitCount_0f7a4 4 = .ok (.ldc_w 265, 3) := by decide +kernel
theorem dJ6_bitCount_0f7a4_7 : decode cJ6_bitCount_0f7a4 7 = .ok (.iand, 1) := by decide +kernel
theorem dJ6_bitCount_0f7a4_8 : decode cJ6_bitCount_0f7a4 8 = .ok (.isub, 1) := by decide +kernel
theorem dJ6_bitCount_0f7a4_9 : decode cJ6_bitCount_0f7a4 9 = .ok (.istore_n 0, 1) := by decide +kernel
theorem dJ6_bitCount_0f7a4_10 : decode cJ6_bitCount_0f7a4 10 = .ok (.iload_n 0, 1) := by decide +kernel
theorem dJ6_bitCount_0f7a4_11 : decode cJ6_bitCount_0f7a4 11 = .ok (.ldc_w 266, 3) := by decide +kernel
theorem dJ6_bitCount_0f7a4_14 : decode cJ6_bitCount_0f7a4 14 = .ok (.iand, 1) := by decide +kernel
theorem dJ6_bitCount_0f7a4_15 : decode cJ6_bitCount_0f7a4 15 = .ok (.iload_n 0, 1) := by decide +kernel
theorem dJ6_bitCount_0f7a4_16 : decode cJ6_bitCount_0f7a4 16 = .ok (.iconst 2, 1) := by decide +kernel
theorem dJ6_bitCount_0f7a4_17 : decode cJ6_bitCount_0f7a4 17 = .ok (.iushr, 1) := by decide +kernel
theorem dJ6_bitCount_0f7a4_18 : decode cJ6_bitCount_0f7a4 18 = .ok (.ldc_w 266, 3) := by decide +kernel
theorem dJ6_bitCount_0f7a4_21 : decode cJ6_bitCount_0f7a4 21 = .ok (.iand, 1) := by decide +kernel
theorem dJ6_bitCount_0f7a4_22 : decode cJ6_bitCount_0f7a4 22 = .ok (.iadd, 1) := by decide +kernel
theorem dJ6_bitCount_0f7a4_23 : decode cJ6_bitCount_0f7a4 23 = .ok (.istore_n 0, 1) := by decide +kernel
theorem dJ6_bitCount_0f7a4_24 : decode cJ6_bitCount_0f7a4 24 = .ok (.iload_n 0, 1) := by decide +kernel
theorem dJ6_bitCount_0f7a4_25 : decode cJ6_bitCount_0f7a4 25 = .ok (.iload_n 0, 1) := by decide +kernel
theorem dJ6_bitCount_0f7a4_26 : decode cJ6_bitCount_0f7a4 26 = .ok (.iconst 4, 1) := by decide +kernel
theorem dJ6_bitCount_0f7a4_27 : decode cJ6_bitCount_0f7a4 27 = .ok (.iushr, 1) := by decide +kernel
theorem dJ6_bitCount_0f7a4_28 : decode cJ6_bitCount_0f7a4 28 = .ok (.iadd, 1) := by decide +kernel
theorem dJ6_bitCount_0f7a4_29 : decode cJ6_bitCount_0f7a4 29 = .ok (.ldc_w 267, 3) := by decide +kernel
theorem dJ6_bitCount_0f7a4_32 : decode cJ6_bitCount_0f7a4 32 = .ok (.iand, 1) := by decide +kernel
theorem dJ6_bitCount_0f7a4_33 : decode cJ6_bitCount_0f7a4 33 = .ok (.istore_n 0, 1) := by decide +kernel
theorem dJ6_bitCount_0f7a4_34 : decode cJ6_bitCount_0f7a4 34 = .ok (.iload_n 0, 1) := by decide +kernel
theorem dJ6_bitCount_0f7a4_35 : decode cJ6_bitCount_0f7a4 35 = .ok (.iload_n 0, 1) := by decide +kernel
theorem dJ6_bitCount_0f7a4_36 : decode cJ6_bitCount_0f7a4 36 = .ok (.bipush 8, 2) := by decide +kernel
theorem dJ6_bitCount_0f7a4_38 : decode cJ6_bitCount_0f7a4 38 = .ok (.iushr, 1) := by decide +kernel
theorem dJ6_bitCount_0f7a4_39 : decode cJ6_bitCount_0f7a4 39 = .ok (.iadd, 1) := by decide +kernel
theorem dJ6_bitCount_0f7a4_40 : decode cJ6_bitCount_0f7a4 40 = .ok (.istore_n 0, 1) := by decide +kernel
theorem dJ6_bitCount_0f7a4_41 : decode cJ6_bitCount_0f7a4 41 = .ok (.iload_n 0, 1) := by decide +kernel
theorem dJ6_bitCount_0f7a4_42 : decode cJ6_bitCount_0f7a4 42 = .ok (.iload_n 0, 1) := by decide +kernel
theorem dJ6_bitCount_0f7a4_43 : decode cJ6_bitCount_0f7a4 43 = .ok (.bipush 16, 2) := by decide +kernel
theorem dJ6_bitCount_0f7a4_45 : decode cJ6_bitCount_0f7a4 45 = .ok (.iushr, 1) := by decide +kernel
theorem dJ6_bitCount_0f7a4_46 : decode cJ6_bitCount_0f7a4 46 = .ok (.iadd, 1) := by decide +kernel
theorem dJ6_bitCount_0f7a4_47 : decode cJ6_bitCount_0f7a4 47 = .ok (.istore_n 0, 1) := by decide +kernel
theorem dJ6_bitCount_0f7a4_48 : decode cJ6_bitCount_0f7a4 48 = .ok (.iload_n 0, 1) := by decide +kernel
theorem dJ6_bitCount_0f7a4_49 : decode cJ6_bitCount_0f7a4 49 = .ok (.bipush 63, 2) := by decide +kernel
theorem dJ6_bitCount_0f7a4_51 : decode cJ6_bitCount_0f7a4 51 = .ok (.iand, 1) := by decide +kernel
theorem dJ6_bitCount_0f7a4_52 : decode cJ6_bitCount_0f7a4 52 = .ok (.ireturn, 1) := by decide +kernel
theorem dJ9_max_7cf53_0 : decode cJ9_max_7cf53 0 = .ok (.iload_n 0, 1) := by decide +kernel
theorem dJ9_max_7cf53_1 : decode cJ9_max_7cf53 1 = .ok (.iload_n 1, 1) := by decide +kernel
theorem dJ9_max_7cf53_2 : decode cJ9_max_7cf53 2 = .ok (.if_icmp .lt 7, 3) := by decide +kernel
theorem dJ9_max_7cf53_5 : decode cJ9_max_7cf53 5 = .ok (.iload_n 0, 1) := by decide +kernel
theorem dJ9_max_7cf53_6 : decode cJ9_max_7cf53 6 = .ok (.goto 4, 3) := by decide +kernel
theorem dJ9_max_7cf53_9 : decode cJ9_max_7cf53 9 = .ok (.iload_n 1, 1) := by decide +kernel
theorem dJ9_max_7cf53_10 : decode cJ9_max_7cf53 10 = .ok (.ireturn, 1) := by decide +kernel
theorem dJ9_min_7cf53_0 : decode cJ9_min_7cf53 0 = .ok (.iload_n 0, 1) := by decide +kernel
theorem dJ9_min_7cf53_1 : decode cJ9_min_7cf53 1 = .ok (.iload_n 1, 1) := by decide +kernel
theorem dJ9_min_7cf53_2 : decode cJ9_min_7cf53 2 = .ok (.if_icmp .gt 7, 3) := by decide +kernel
theorem dJ9_min_7cf53_5 : decode cJ9_min_7cf53 5 = .ok (.iload_n 0, 1) := by decide +kernel
theorem dJ9_min_7cf53_6 : decode cJ9_min_7cf53 6 = .ok (.goto 4, 3) := by decide +kernel
theorem dJ9_min_7cf53_9 : decode cJ9_min_7cf53 9 = .ok (.iload_n 1, 1) := by decide +kernel
theorem dJ9_min_7cf53_10 : decode cJ9_min_7cf53 10 = .ok (.ireturn, 1) := by decide +kernel
theorem dL_cell_0 : decode cL_cell 0 = .ok (.iload_n 1, 1) := by decide +kernel
theorem dL_cell_1 : decode cL_cell 1 = .ok (.aload_n 0, 1) := by decide +kernel
theorem dL_cell_2 : decode cL_cell 2 = .ok (.arraylength, 1) := by decide +kernel
theorem dL_cell_3 : decode cL_cell 3 = .ok (.if_icmp .ge 9, 3) := by decide +kernel
theorem dL_cell_6 : decode cL_cell 6 = .ok (.aload_n 0, 1) := by decide +kernel
theorem dL_cell_7 : decode cL_cell 7 = .ok (.iload_n 1, 1) := by decide +kernel
theorem dL_cell_8 : decode cL_cell 8 = .ok (.iaload, 1) := by decide +kernel
theorem dL_cell_9 : decode cL_cell 9 = .ok (.goto 18, 3) := by decide +kernel
theorem dL_cell_12 : decode cL_cell 12 = .ok (.sipush 7919, 3) := by decide +kernel
theorem dL_cell_15 : decode cL_cell 15 = .ok (.iload_n 1, 1) := by decide +kernel
theorem dL_cell_16 : decode cL_cell 16 = .ok (.sipush 967, 3) := by decide +kernel
theorem dL_cell_19 : decode cL_cell 19 = .ok (.iadd, 1) := by decide +kernel
theorem dL_cell_20 : decode cL_cell 20 = .ok (.imul, 1) := by decide +kernel
theorem dL_cell_21 : decode cL_cell 21 = .ok (.iload_n 1, 1) := by decide +kernel
theorem dL_cell_22 : decode cL_cell 22 = .ok (.sipush 907, 3) := by decide +kernel
theorem dL_cell_25 : decode cL_cell 25 = .ok (.iadd, 1) := by decide +kernel
theorem dL_cell_26 : decode cL_cell 26 = .ok (.imul, 1) := by decide +kernel
theorem dL_cell_27 : decode cL_cell 27 = .ok (.ireturn, 1) := by decide +kernel
theorem dL_low_0 : decode cL_low 0 = .ok (.iload_n 0, 1) := by decide +kernel
theorem dL_low_1 : decode cL_low 1 = .ok (.ldc 7, 2) := by decide +kernel
theorem dL_low_3 : decode cL_low 3 = .ok (.iand, 1) := by decide +kernel
theorem dL_low_4 : decode cL_low 4 = .ok (.iload_n 1, 1) := by decide +kernel
theorem dL_low_5 : decode cL_low 5 = .ok (.irem, 1) := by decide +kernel
theorem dL_low_6 : decode cL_low 6 = .ok (.ireturn, 1) := by decide +kernel
theorem dL_arrive_0 : decode cL_arrive 0 = .ok (.aload_n 0, 1) := by decide +kernel
theorem dL_arrive_1 : decode cL_arrive 1 = .ok (.iload_n 1, 1) := by decide +kernel
theorem dL_arrive_2 : decode cL_arrive 2 = .ok (.iload_n 2, 1) := by decide +kernel
theorem dL_arrive_3 : decode cL_arrive 3 = .ok (.iload_n 3, 1) := by decide +kernel
theorem dL_arrive_4 : decode cL_arrive 4 = .ok (.invokevirtual 8, 3) := by decide +kernel
theorem dL_arrive_7 : decode cL_arrive 7 = .ok (.ireturn, 1) := by decide +kernel
theorem dL_arrive_8 : decode cL_arrive 8 = .ok (.astore 4, 2) := by decide +kernel
theorem dL_arrive_10 : decode cL_arrive 10 = .ok (.ldc 16, 2) := by decide +kernel
theorem dL_arrive_12 : decode cL_arrive 12 = .ok (.ireturn, 1) := by decide +kernel
theorem dL_arrive_13 : decode cL_arrive 13 = .ok (.astore 4, 2) := by decide +kernel
theorem dL_arrive_15 : decode cL_arrive 15 = .ok (.ldc 16, 2) := by decide +kernel
theorem dL_arrive_17 : decode cL_arrive 17 = .ok (.ireturn, 1) := by decide +kernel
theorem dL_lift_0 : decode cL_lift 0 = .ok (.aload_n 0, 1) := by decide +kernel
theorem dL_lift_1 : decode cL_lift 1 = .ok (.iload_n 1, 1) := by decide +kernel
theorem dL_lift_2 : decode cL_lift 2 = .ok (.invokevirtual 19, 3) := by decide +kernel
theorem dL_lift_5 : decode cL_lift 5 = .ok (.ireturn, 1) := by decide +kernel
theorem dL_lift_6 : decode cL_lift 6 = .ok (.astore_n 2, 1) := by decide +kernel
theorem dL_lift_7 : decode cL_lift 7 = .ok (.ldc 16, 2) := by decide +kernel
theorem dL_lift_9 : decode cL_lift 9 = .ok (.ireturn, 1) := by decide +kernel
theorem dL_lift_10 : decode cL_lift 10 = .ok (.astore_n 2, 1) := by decide +kernel
theorem dL_lift_11 : decode cL_lift 11 = .ok (.ldc 16, 2) := by decide +kernel
theorem dL_lift_13 : decode cL_lift 13 = .ok (.ireturn, 1) := by decide +kernel
theorem dL_drop_0 : decode cL_drop 0 = .ok (.aload_n 0, 1) := by decide +kernel
theorem dL_drop_1 : decode cL_drop 1 = .ok (.iload_n 1, 1) := by decide +kernel
theorem dL_drop_2 : decode cL_drop 2 = .ok (.invokevirtual 23, 3) := by decide +kernel
theorem dL_drop_5 : decode cL_drop 5 = .ok (.ireturn, 1) := by decide +kernel
theorem dL_drop_6 : decode cL_drop 6 = .ok (.astore_n 2, 1) := by decide +kernel
theorem dL_drop_7 : decode cL_drop 7 = .ok (.ldc 16, 2) := by decide +kernel
theorem dL_drop_9 : decode cL_drop 9 = .ok (.ireturn, 1) := by decide +kernel
theorem dL_drop_10 : decode cL_drop 10 = .ok (.astore_n 2, 1) := by decide +kernel
theorem dL_drop_11 : decode cL_drop 11 = .ok (.ldc 16, 2) := by decide +kernel
theorem dL_drop_13 : decode cL_drop 13 = .ok (.ireturn, 1) := by decide +kernel
theorem dL_dig_0 : decode cL_dig 0 = .ok (.aload_n 0, 1) := by decide +kernel
theorem dL_dig_1 : decode cL_dig 1 = .ok (.iload_n 1, 1) := by decide +kernel
theorem dL_dig_2 : decode cL_dig 2 = .ok (.invokevirtual 26, 3) := by decide +kernel
theorem dL_dig_5 : decode cL_dig 5 = .ok (.ireturn, 1) := by decide +kernel
theorem dL_dig_6 : decode cL_dig 6 = .ok (.astore_n 2, 1) := by decide +kernel
theorem dL_dig_7 : decode cL_dig 7 = .ok (.ldc 16, 2) := by decide +kernel
theorem dL_dig_9 : decode cL_dig 9 = .ok (.ireturn, 1) := by decide +kernel
theorem dL_dig_10 : decode cL_dig 10 = .ok (.astore_n 2, 1) := by decide +kernel
theorem dL_dig_11 : decode cL_dig 11 = .ok (.ldc 31, 2) := by decide +kernel
theorem dL_dig_13 : decode cL_dig 13 = .ok (.ireturn, 1) := by decide +kernel
theorem dL_fewest_0 : decode cL_fewest 0 = .ok (.aload_n 0, 1) := by decide +kernel
theorem dL_fewest_1 : decode cL_fewest 1 = .ok (.iload_n 1, 1) := by decide +kernel
theorem dL_fewest_2 : decode cL_fewest 2 = .ok (.invokevirtual 32, 3) := by decide +kernel
theorem dL_fewest_5 : decode cL_fewest 5 = .ok (.ireturn, 1) := by decide +kernel
theorem dL_fewest_6 : decode cL_fewest 6 = .ok (.astore_n 2, 1) := by decide +kernel
theorem dL_fewest_7 : decode cL_fewest 7 = .ok (.bipush (-2), 2) := by decide +kernel
theorem dL_fewest_9 : decode cL_fewest 9 = .ok (.ireturn, 1) := by decide +kernel
theorem dL_fewest_10 : decode cL_fewest 10 = .ok (.astore_n 2, 1) := by decide +kernel
theorem dL_fewest_11 : decode cL_fewest 11 = .ok (.bipush (-3), 2) := by decide +kernel
theorem dL_fewest_13 : decode cL_fewest 13 = .ok (.ireturn, 1) := by decide +kernel
theorem dL_tell_0 : decode cL_tell 0 = .ok (.aload_n 0, 1) := by decide +kernel
theorem dL_tell_1 : decode cL_tell 1 = .ok (.iload_n 1, 1) := by decide +kernel
theorem dL_tell_2 : decode cL_tell 2 = .ok (.iload_n 2, 1) := by decide +kernel
theorem dL_tell_3 : decode cL_tell 3 = .ok (.iload_n 3, 1) := by decide +kernel
theorem dL_tell_4 : decode cL_tell 4 = .ok (.iload 4, 2) := by decide +kernel
theorem dL_tell_6 : decode cL_tell 6 = .ok (.invokevirtual 35, 3) := by decide +kernel
theorem dL_tell_9 : decode cL_tell 9 = .ok (.ireturn, 1) := by decide +kernel
theorem dL_tell_10 : decode cL_tell 10 = .ok (.astore 5, 2) := by decide +kernel
theorem dL_tell_12 : decode cL_tell 12 = .ok (.ldc 16, 2) := by decide +kernel
theorem dL_tell_14 : decode cL_tell 14 = .ok (.ireturn, 1) := by decide +kernel
theorem dL_tell_15 : decode cL_tell 15 = .ok (.astore 5, 2) := by decide +kernel
theorem dL_tell_17 : decode cL_tell 17 = .ok (.ldc 16, 2) := by decide +kernel
theorem dL_tell_19 : decode cL_tell 19 = .ok (.ireturn, 1) := by decide +kernel
theorem dL_offer_0 : decode cL_offer 0 = .ok (.aload_n 0, 1) := by decide +kernel
theorem dL_offer_1 : decode cL_offer 1 = .ok (.iload_n 1, 1) := by decide +kernel
theorem dL_offer_2 : decode cL_offer 2 = .ok (.iload_n 2, 1) := by decide +kernel
theorem dL_offer_3 : decode cL_offer 3 = .ok (.invokevirtual 39, 3) := by decide +kernel
theorem dL_offer_6 : decode cL_offer 6 = .ok (.ireturn, 1) := by decide +kernel
theorem dL_offer_7 : decode cL_offer 7 = .ok (.astore_n 3, 1) := by decide +kernel
theorem dL_offer_8 : decode cL_offer 8 = .ok (.ldc 16, 2) := by decide +kernel
theorem dL_offer_10 : decode cL_offer 10 = .ok (.ireturn, 1) := by decide +kernel
theorem dL_offer_11 : decode cL_offer 11 = .ok (.astore_n 3, 1) := by decide +kernel
theorem dL_offer_12 : decode cL_offer 12 = .ok (.ldc 16, 2) := by decide +kernel
theorem dL_offer_14 : decode cL_offer 14 = .ok (.ireturn, 1) := by decide +kernel
theorem dL_offer_15 : decode cL_offer 15 = .ok (.astore_n 3, 1) := by decide +kernel
theorem dL_offer_16 : decode cL_offer 16 = .ok (.ldc 16, 2) := by decide +kernel
theorem dL_offer_18 : decode cL_offer 18 = .ok (.ireturn, 1) := by decide +kernel
theorem dL_bid_0 : decode cL_bid 0 = .ok (.aload_n 0, 1) := by decide +kernel
theorem dL_bid_1 : decode cL_bid 1 = .ok (.iload_n 1, 1) := by decide +kernel
theorem dL_bid_2 : decode cL_bid 2 = .ok (.iload_n 2, 1) := by decide +kernel
theorem dL_bid_3 : decode cL_bid 3 = .ok (.iload_n 3, 1) := by decide +kernel
theorem dL_bid_4 : decode cL_bid 4 = .ok (.invokevirtual 43, 3) := by decide +kernel
theorem dL_bid_7 : decode cL_bid 7 = .ok (.iconst 0, 1) := by decide +kernel
theorem dL_bid_8 : decode cL_bid 8 = .ok (.ireturn, 1) := by decide +kernel
theorem dL_bid_9 : decode cL_bid 9 = .ok (.astore 4, 2) := by decide +kernel
theorem dL_bid_11 : decode cL_bid 11 = .ok (.ldc 16, 2) := by decide +kernel
theorem dL_bid_13 : decode cL_bid 13 = .ok (.ireturn, 1) := by decide +kernel
theorem dL_bid_14 : decode cL_bid 14 = .ok (.astore 4, 2) := by decide +kernel
theorem dL_bid_16 : decode cL_bid 16 = .ok (.ldc 16, 2) := by decide +kernel
theorem dL_bid_18 : decode cL_bid 18 = .ok (.ireturn, 1) := by decide +kernel
theorem dL_bid_19 : decode cL_bid 19 = .ok (.astore 4, 2) := by decide +kernel
theorem dL_bid_21 : decode cL_bid 21 = .ok (.ldc 16, 2) := by decide +kernel
theorem dL_bid_23 : decode cL_bid 23 = .ok (.ireturn, 1) := by decide +kernel
theorem dL_give_0 : decode cL_give 0 = .ok (.aload_n 0, 1) := by decide +kernel
theorem dL_give_1 : decode cL_give 1 = .ok (.iload_n 1, 1) := by decide +kernel
theorem dL_give_2 : decode cL_give 2 = .ok (.invokevirtual 47, 3) := by decide +kernel
theorem dL_give_5 : decode cL_give 5 = .ok (.ireturn, 1) := by decide +kernel
theorem dL_give_6 : decode cL_give 6 = .ok (.astore_n 2, 1) := by decide +kernel
theorem dL_give_7 : decode cL_give 7 = .ok (.ldc 16, 2) := by decide +kernel
theorem dL_give_9 : decode cL_give 9 = .ok (.ireturn, 1) := by decide +kernel
theorem dL_give_10 : decode cL_give 10 = .ok (.astore_n 2, 1) := by decide +kernel
theorem dL_give_11 : decode cL_give 11 = .ok (.ldc 16, 2) := by decide +kernel
theorem dL_give_13 : decode cL_give 13 = .ok (.ireturn, 1) := by decide +kernel
theorem dL_load_0 : decode cL_load 0 = .ok (.aload_n 0, 1) := by decide +kernel
theorem dL_load_1 : decode cL_load 1 = .ok (.invokevirtual 50, 3) := by decide +kernel
theorem dL_load_4 : decode cL_load 4 = .ok (.ireturn, 1) := by decide +kernel
theorem dL_load_5 : decode cL_load 5 = .ok (.astore_n 1, 1) := by decide +kernel
theorem dL_load_6 : decode cL_load 6 = .ok (.ldc 16, 2) := by decide +kernel
theorem dL_load_8 : decode cL_load 8 = .ok (.ireturn, 1) := by decide +kernel
theorem dL_pass_0 : decode cL_pass 0 = .ok (.aload_n 0, 1) := by decide +kernel
theorem dL_pass_1 : decode cL_pass 1 = .ok (.iload_n 1, 1) := by decide +kernel
theorem dL_pass_2 : decode cL_pass 2 = .ok (.invokevirtual 54, 3) := by decide +kernel
theorem dL_pass_5 : decode cL_pass 5 = .ok (.ireturn, 1) := by decide +kernel
theorem dL_pass_6 : decode cL_pass 6 = .ok (.astore_n 2, 1) := by decide +kernel
theorem dL_pass_7 : decode cL_pass 7 = .ok (.ldc 16, 2) := by decide +kernel
theorem dL_pass_9 : decode cL_pass 9 = .ok (.ireturn, 1) := by decide +kernel
theorem dL_pass_10 : decode cL_pass 10 = .ok (.astore_n 2, 1) := by decide +kernel
theorem dL_pass_11 : decode cL_pass 11 = .ok (.ldc 16, 2) := by decide +kernel
theorem dL_pass_13 : decode cL_pass 13 = .ok (.ireturn, 1) := by decide +kernel
theorem dL_stackOf_0 : decode cL_stackOf 0 = .ok (.aload_n 0, 1) := by decide +kernel
theorem dL_stackOf_1 : decode cL_stackOf 1 = .ok (.iload_n 1, 1) := by decide +kernel
theorem dL_stackOf_2 : decode cL_stackOf 2 = .ok (.invokevirtual 57, 3) := by decide +kernel
theorem dL_stackOf_5 : decode cL_stackOf 5 = .ok (.ireturn, 1) := by decide +kernel
theorem dL_stackOf_6 : decode cL_stackOf 6 = .ok (.astore_n 2, 1) := by decide +kernel
theorem dL_stackOf_7 : decode cL_stackOf 7 = .ok (.bipush (-2), 2) := by decide +kernel
theorem dL_stackOf_9 : decode cL_stackOf 9 = .ok (.ireturn, 1) := by decide +kernel
theorem dL_act_0 : decode cL_act 0 = .ok (.iload_n 1, 1) := by decide +kernel
theorem dL_act_1 : decode cL_act 1 = .ok (.bipush 24, 2) := by decide +kernel
theorem dL_act_3 : decode cL_act 3 = .ok (.ishr, 1) := by decide +kernel
theorem dL_act_4 : decode cL_act 4 = .ok (.bipush 9, 2) := by decide +kernel
theorem dL_act_6 : decode cL_act 6 = .ok (.invokestatic 60, 3) := by decide +kernel
theorem dL_act_9 : decode cL_act 9 = .ok (.ifCond .ne 7, 3) := by decide +kernel
theorem dL_act_12 : decode cL_act 12 = .ok (.iconst 1, 1) := by decide +kernel
theorem dL_act_13 : decode cL_act 13 = .ok (.goto 4, 3) := by decide +kernel
theorem dL_act_16 : decode cL_act 16 = .ok (.iconst 0, 1) := by decide +kernel
theorem dL_act_17 : decode cL_act 17 = .ok (.istore_n 2, 1) := by decide +kernel
theorem dL_act_18 : decode cL_act 18 = .ok (.iload_n 2, 1) := by decide +kernel
theorem dL_act_19 : decode cL_act 19 = .ok (.ifCond .eq 16, 3) := by decide +kernel
theorem dL_act_22 : decode cL_act 22 = .ok (.iload_n 1, 1) := by decide +kernel
theorem dL_act_23 : decode cL_act 23 = .ok (.iconst 4, 1) := by decide +kernel
theorem dL_act_24 : decode cL_act 24 = .ok (.ishr, 1) := by decide +kernel
theorem dL_act_25 : decode cL_act 25 = .ok (.bipush 8, 2) := by decide +kernel
theorem dL_act_27 : decode cL_act 27 = .ok (.invokestatic 60, 3) := by decide +kernel
theorem dL_act_30 : decode cL_act 30 = .ok (.iconst 1, 1) := by decide +kernel
theorem dL_act_31 : decode cL_act 31 = .ok (.isub, 1) := by decide +kernel
theorem dL_act_32 : decode cL_act 32 = .ok (.goto 11, 3) := by decide +kernel
theorem dL_act_35 : decode cL_act 35 = .ok (.iload_n 1, 1) := by decide +kernel
theorem dL_act_36 : decode cL_act 36 = .ok (.iconst 4, 1) := by decide +kernel
theorem dL_act_37 : decode cL_act 37 = .ok (.ishr, 1) := by decide +kernel
theorem dL_act_38 : decode cL_act 38 = .ok (.bipush 6, 2) := by decide +kernel
theorem dL_act_40 : decode cL_act 40 = .ok (.invokestatic 60, 3) := by decide +kernel
theorem dL_act_43 : decode cL_act 43 = .ok (.istore_n 3, 1) := by decide +kernel
theorem dL_act_44 : decode cL_act 44 = .ok (.iload_n 1, 1) := by decide +kernel
theorem dL_act_45 : decode cL_act 45 = .ok (.iconst 4, 1) := by decide +kernel
theorem dL_act_46 : decode cL_act 46 = .ok (.ishr, 1) := by decide +kernel
theorem dL_act_47 : decode cL_act 47 = .ok (.iload_n 2, 1) := by decide +kernel
theorem dL_act_48 : decode cL_act 48 = .ok (.ifCond .eq 8, 3) := by decide +kernel
theorem dL_act_51 : decode cL_act 51 = .ok (.bipush 33, 2) := by decide +kernel
theorem dL_act_53 : decode cL_act 53 = .ok (.goto 5, 3) := by decide +kernel
theorem dL_act_56 : decode cL_act 56 = .ok (.bipush 16, 2) := by decide +kernel
theorem dL_act_58 : decode cL_act 58 = .ok (.invokestatic 60, 3) := by decide +kernel
theorem dL_act_61 : decode cL_act 61 = .ok (.iload_n 2, 1) := by decide +kernel
theorem dL_act_62 : decode cL_act 62 = .ok (.ifCond .eq 7, 3) := by decide +kernel
theorem dL_act_65 : decode cL_act 65 = .ok (.iconst 1, 1) := by decide +kernel
theorem dL_act_66 : decode cL_act 66 = .ok (.goto 4, 3) := by decide +kernel
theorem dL_act_69 : decode cL_act 69 = .ok (.iconst 0, 1) := by decide +kernel
theorem dL_act_70 : decode cL_act 70 = .ok (.isub, 1) := by decide +kernel
theorem dL_act_71 : decode cL_act 71 = .ok (.istore 4, 2) := by decide +kernel
theorem dL_act_73 : decode cL_act 73 = .ok (.iload_n 1, 1) := by decide +kernel
theorem dL_act_74 : decode cL_act 74 = .ok (.bipush 20, 2) := by decide +kernel
theorem dL_act_76 : decode cL_act 76 = .ok (.invokestatic 60, 3) := by decide +kernel
theorem dL_act_79 : decode cL_act 79 = .ok (.tableswitch 342 0 13 #[69, 142, 142, 181, 181, 246, 267, 272, 323, 323, 330, 336, 336, 336], 69) := by decide +kernel
theorem dL_act_148 : decode cL_act 148 = .ok (.aload_n 0, 1) := by decide +kernel
theorem dL_act_149 : decode cL_act 149 = .ok (.iload_n 1, 1) := by decide +kernel
theorem dL_act_150 : decode cL_act 150 = .ok (.iconst 4, 1) := by decide +kernel
theorem dL_act_151 : decode cL_act 151 = .ok (.ishr, 1) := by decide +kernel
theorem dL_act_152 : decode cL_act 152 = .ok (.iload_n 2, 1) := by decide +kernel
theorem dL_act_153 : decode cL_act 153 = .ok (.ifCond .eq 8, 3) := by decide +kernel
theorem dL_act_156 : decode cL_act 156 = .ok (.bipush 27, 2) := by decide +kernel
theorem dL_act_158 : decode cL_act 158 = .ok (.goto 4, 3) := by decide +kernel
theorem dL_act_161 : decode cL_act 161 = .ok (.iconst 3, 1) := by decide +kernel
theorem dL_act_162 : decode cL_act 162 = .ok (.invokestatic 60, 3) := by decide +kernel
theorem dL_act_165 : decode cL_act 165 = .ok (.iload_n 1, 1) := by decide +kernel
theorem dL_act_166 : decode cL_act 166 = .ok (.bipush 7, 2) := by decide +kernel
theorem dL_act_168 : decode cL_act 168 = .ok (.ishr, 1) := by decide +kernel
theorem dL_act_169 : decode cL_act 169 = .ok (.iconst 3, 1) := by decide +kernel
theorem dL_act_170 : decode cL_act 170 = .ok (.invokestatic 60, 3) := by decide +kernel
theorem dL_act_173 : decode cL_act 173 = .ok (.iload_n 1, 1) := by decide +kernel
theorem dL_act_174 : decode cL_act 174 = .ok (.bipush 10, 2) := by decide +kernel
theorem dL_act_176 : decode cL_act 176 = .ok (.ishr, 1) := by decide +kernel
theorem dL_act_177 : decode cL_act 177 = .ok (.iconst 3, 1) := by decide +kernel
theorem dL_act_178 : decode cL_act 178 = .ok (.invokestatic 60, 3) := by decide +kernel
theorem dL_act_181 : decode cL_act 181 = .ok (.iconst 1, 1) := by decide +kernel
theorem dL_act_182 : decode cL_act 182 = .ok (.isub, 1) := by decide +kernel
theorem dL_act_183 : decode cL_act 183 = .ok (.iload_n 1, 1) := by decide +kernel
theorem dL_act_184 : decode cL_act 184 = .ok (.bipush 10, 2) := by decide +kernel
theorem dL_act_186 : decode cL_act 186 = .ok (.ishr, 1) := by decide +kernel
theorem dL_act_187 : decode cL_act 187 = .ok (.iconst 3, 1) := by decide +kernel
theorem dL_act_188 : decode cL_act 188 = .ok (.invokestatic 60, 3) := by decide +kernel
theorem dL_act_191 : decode cL_act 191 = .ok (.ifCond .ne 7, 3) := by decide +kernel
theorem dL_act_194 : decode cL_act 194 = .ok (.iconst (-1), 1) := by decide +kernel
theorem dL_act_195 : decode cL_act 195 = .ok (.goto 22, 3) := by decide +kernel
theorem dL_act_198 : decode cL_act 198 = .ok (.iload_n 1, 1) := by decide +kernel
theorem dL_act_199 : decode cL_act 199 = .ok (.bipush 13, 2) := by decide +kernel
theorem dL_act_201 : decode cL_act 201 = .ok (.ishr, 1) := by decide +kernel
theorem dL_act_202 : decode cL_act 202 = .ok (.iload_n 2, 1) := by decide +kernel
theorem dL_act_203 : decode cL_act 203 = .ok (.ifCond .eq 8, 3) := by decide +kernel
theorem dL_act_206 : decode cL_act 206 = .ok (.bipush 28, 2) := by decide +kernel
theorem dL_act_208 : decode cL_act 208 = .ok (.goto 4, 3) := by decide +kernel
theorem dL_act_211 : decode cL_act 211 = .ok (.iconst 4, 1) := by decide +kernel
theorem dL_act_212 : decode cL_act 212 = .ok (.invokestatic 60, 3) := by decide +kernel
theorem dL_act_215 : decode cL_act 215 = .ok (.iconst 1, 1) := by decide +kernel
theorem dL_act_216 : decode cL_act 216 = .ok (.isub, 1) := by decide +kernel
theorem dL_act_217 : decode cL_act 217 = .ok (.invokestatic 65, 3) := by decide +kernel
theorem dL_act_220 : decode cL_act 220 = .ok (.ireturn, 1) := by decide +kernel
theorem dL_act_221 : decode cL_act 221 = .ok (.aload_n 0, 1) := by decide +kernel
theorem dL_act_222 : decode cL_act 222 = .ok (.iload 4, 2) := by decide +kernel
theorem dL_act_224 : decode cL_act 224 = .ok (.aload_n 0, 1) := by decide +kernel
theorem dL_act_225 : decode cL_act 225 = .ok (.invokevirtual 68, 3) := by decide +kernel
theorem dL_act_228 : decode cL_act 228 = .ok (.iload_n 1, 1) := by decide +kernel
theorem dL_act_229 : decode cL_act 229 = .ok (.bipush 9, 2) := by decide +kernel
theorem dL_act_231 : decode cL_act 231 = .ok (.ishr, 1) := by decide +kernel
theorem dL_act_232 : decode cL_act 232 = .ok (.iload_n 2, 1) := by decide +kernel
theorem dL_act_233 : decode cL_act 233 = .ok (.ifCond .eq 8, 3) := by decide +kernel
theorem dL_act_236 : decode cL_act 236 = .ok (.bipush 104, 2) := by decide +kernel
theorem dL_act_238 : decode cL_act 238 = .ok (.goto 4, 3) := by decide +kernel
theorem dL_act_241 : decode cL_act 241 = .ok (.iconst 4, 1) := by decide +kernel
theorem dL_act_242 : decode cL_act 242 = .ok (.invokestatic 60, 3) := by decide +kernel
theorem dL_act_245 : decode cL_act 245 = .ok (.iadd, 1) := by decide +kernel
theorem dL_act_246 : decode cL_act 246 = .ok (.iload_n 2, 1) := by decide +kernel
theorem dL_act_247 : decode cL_act 247 = .ok (.ifCond .eq 7, 3) := by decide +kernel
theorem dL_act_250 : decode cL_act 250 = .ok (.iconst 1, 1) := by decide +kernel
theorem dL_act_251 : decode cL_act 251 = .ok (.goto 4, 3) := by decide +kernel
theorem dL_act_254 : decode cL_act 254 = .ok (.iconst 0, 1) := by decide +kernel
theorem dL_act_255 : decode cL_act 255 = .ok (.isub, 1) := by decide +kernel
theorem dL_act_256 : decode cL_act 256 = .ok (.invokestatic 71, 3) := by decide +kernel
theorem dL_act_259 : decode cL_act 259 = .ok (.ireturn, 1) := by decide +kernel
theorem dL_act_260 : decode cL_act 260 = .ok (.aload_n 0, 1) := by decide +kernel
theorem dL_act_261 : decode cL_act 261 = .ok (.iload_n 1, 1) := by decide +kernel
theorem dL_act_262 : decode cL_act 262 = .ok (.iconst 4, 1) := by decide +kernel
theorem dL_act_263 : decode cL_act 263 = .ok (.ishr, 1) := by decide +kernel
theorem dL_act_264 : decode cL_act 264 = .ok (.iload_n 2, 1) := by decide +kernel
theorem dL_act_265 : decode cL_act 265 = .ok (.ifCond .eq 8, 3) := by decide +kernel
theorem dL_act_268 : decode cL_act 268 = .ok (.bipush 21, 2) := by decide +kernel
theorem dL_act_270 : decode cL_act 270 = .ok (.goto 4, 3) := by decide +kernel
theorem dL_act_273 : decode cL_act 273 = .ok (.iconst 4, 1) := by decide +kernel
theorem dL_act_274 : decode cL_act 274 = .ok (.invokestatic 60, 3) := by decide +kernel
theorem dL_act_277 : decode cL_act 277 = .ok (.iload_n 1, 1) := by decide +kernel
theorem dL_act_278 : decode cL_act 278 = .ok (.bipush 7, 2) := by decide +kernel
theorem dL_act_280 : decode cL_act 280 = .ok (.ishr, 1) := by decide +kernel
theorem dL_act_281 : decode cL_act 281 = .ok (.iload_n 2, 1) := by decide +kernel
theorem dL_act_282 : decode cL_act 282 = .ok (.ifCond .eq 7, 3) := by decide +kernel
theorem dL_act_285 : decode cL_act 285 = .ok (.iconst 5, 1) := by decide +kernel
theorem dL_act_286 : decode cL_act 286 = .ok (.goto 4, 3) := by decide +kernel
theorem dL_act_289 : decode cL_act 289 = .ok (.iconst 4, 1) := by decide +kernel
theorem dL_act_290 : decode cL_act 290 = .ok (.invokestatic 60, 3) := by decide +kernel
theorem dL_act_293 : decode cL_act 293 = .ok (.iload_n 2, 1) := by decide +kernel
theorem dL_act_294 : decode cL_act 294 = .ok (.ifCond .eq 16, 3) := by decide +kernel
theorem dL_act_297 : decode cL_act 297 = .ok (.iload_n 1, 1) := by decide +kernel
theorem dL_act_298 : decode cL_act 298 = .ok (.bipush 10, 2) := by decide +kernel
theorem dL_act_300 : decode cL_act 300 = .ok (.ishr, 1) := by decide +kernel
theorem dL_act_301 : decode cL_act 301 = .ok (.sipush 1003, 3) := by decide +kernel
theorem dL_act_304 : decode cL_act 304 = .ok (.invokestatic 60, 3) := by decide +kernel
theorem dL_act_307 : decode cL_act 307 = .ok (.goto 14, 3) := by decide +kernel
theorem dL_act_310 : decode cL_act 310 = .ok (.iconst 1, 1) := by decide +kernel
theorem dL_act_311 : decode cL_act 311 = .ok (.iload_n 1, 1) := by decide +kernel
theorem dL_act_312 : decode cL_act 312 = .ok (.bipush 10, 2) := by decide +kernel
theorem dL_act_314 : decode cL_act 314 = .ok (.ishr, 1) := by decide +kernel
theorem dL_act_315 : decode cL_act 315 = .ok (.bipush 60, 2) := by decide +kernel
theorem dL_act_317 : decode cL_act 317 = .ok (.invokestatic 60, 3) := by decide +kernel
theorem dL_act_320 : decode cL_act 320 = .ok (.iadd, 1) := by decide +kernel
theorem dL_act_321 : decode cL_act 321 = .ok (.invokestatic 74, 3) := by decide +kernel
theorem dL_act_324 : decode cL_act 324 = .ok (.ireturn, 1) := by decide +kernel
theorem dL_act_325 : decode cL_act 325 = .ok (.aload_n 0, 1) := by decide +kernel
theorem dL_act_326 : decode cL_act 326 = .ok (.iload_n 1, 1) := by decide +kernel
theorem dL_act_327 : decode cL_act 327 = .ok (.iconst 4, 1) := by decide +kernel
theorem dL_act_328 : decode cL_act 328 = .ok (.ishr, 1) := by decide +kernel
theorem dL_act_329 : decode cL_act 329 = .ok (.iload_n 2, 1) := by decide +kernel
theorem dL_act_330 : decode cL_act 330 = .ok (.ifCond .eq 8, 3) := by decide +kernel
theorem dL_act_333 : decode cL_act 333 = .ok (.bipush 21, 2) := by decide +kernel
theorem dL_act_335 : decode cL_act 335 = .ok (.goto 4, 3) := by decide +kernel
theorem dL_act_338 : decode cL_act 338 = .ok (.iconst 4, 1) := by decide +kernel
theorem dL_act_339 : decode cL_act 339 = .ok (.invokestatic 60, 3) := by decide +kernel
theorem dL_act_342 : decode cL_act 342 = .ok (.invokestatic 77, 3) := by decide +kernel
theorem dL_act_345 : decode cL_act 345 = .ok (.ireturn, 1) := by decide +kernel
theorem dL_act_346 : decode cL_act 346 = .ok (.aload_n 0, 1) := by decide +kernel
theorem dL_act_347 : decode cL_act 347 = .ok (.invokestatic 80, 3) := by decide +kernel
theorem dL_act_350 : decode cL_act 350 = .ok (.ireturn, 1) := by decide +kernel
theorem dL_act_351 : decode cL_act 351 = .ok (.iload_n 2, 1) := by decide +kernel
theorem dL_act_352 : decode cL_act 352 = .ok (.ifCond .eq 18, 3) := by decide +kernel
theorem dL_act_355 : decode cL_act 355 = .ok (.aload_n 0, 1) := by decide +kernel
theorem dL_act_356 : decode cL_act 356 = .ok (.iload_n 1, 1) := by decide +kernel
theorem dL_act_357 : decode cL_act 357 = .ok (.iconst 4, 1) := by decide +kernel
theorem dL_act_358 : decode cL_act 358 = .ok (.ishr, 1) := by decide +kernel
theorem dL_act_359 : decode cL_act 359 = .ok (.bipush 103, 2) := by decide +kernel
theorem dL_act_361 : decode cL_act 361 = .ok (.invokestatic 60, 3) := by decide +kernel
theorem dL_act_364 : decode cL_act 364 = .ok (.invokestatic 83, 3) := by decide +kernel
theorem dL_act_367 : decode cL_act 367 = .ok (.goto 34, 3) := by decide +kernel
theorem dL_act_370 : decode cL_act 370 = .ok (.iload_n 1, 1) := by decide +kernel
theorem dL_act_371 : decode cL_act 371 = .ok (.bipush 9, 2) := by decide +kernel
theorem dL_act_373 : decode cL_act 373 = .ok (.ishr, 1) := by decide +kernel
theorem dL_act_374 : decode cL_act 374 = .ok (.iconst 3, 1) := by decide +kernel
theorem dL_act_375 : decode cL_act 375 = .ok (.invokestatic 60, 3) := by decide +kernel
theorem dL_act_378 : decode cL_act 378 = .ok (.ifCond .ne 10, 3) := by decide +kernel
theorem dL_act_381 : decode cL_act 381 = .ok (.aload_n 0, 1) := by decide +kernel
theorem dL_act_382 : decode cL_act 382 = .ok (.invokevirtual 85, 3) := by decide +kernel
theorem dL_act_385 : decode cL_act 385 = .ok (.goto 16, 3) := by decide +kernel
theorem dL_act_388 : decode cL_act 388 = .ok (.aload_n 0, 1) := by decide +kernel
theorem dL_act_389 : decode cL_act 389 = .ok (.iconst 1, 1) := by decide +kernel
theorem dL_act_390 : decode cL_act 390 = .ok (.iload_n 1, 1) := by decide +kernel
theorem dL_act_391 : decode cL_act 391 = .ok (.iconst 4, 1) := by decide +kernel
theorem dL_act_392 : decode cL_act 392 = .ok (.ishr, 1) := by decide +kernel
theorem dL_act_393 : decode cL_act 393 = .ok (.iconst 3, 1) := by decide +kernel
theorem dL_act_394 : decode cL_act 394 = .ok (.invokestatic 60, 3) := by decide +kernel
theorem dL_act_397 : decode cL_act 397 = .ok (.iadd, 1) := by decide +kernel
theorem dL_act_398 : decode cL_act 398 = .ok (.invokestatic 83, 3) := by decide +kernel
theorem dL_act_401 : decode cL_act 401 = .ok (.ireturn, 1) := by decide +kernel
theorem dL_act_402 : decode cL_act 402 = .ok (.aload_n 0, 1) := by decide +kernel
theorem dL_act_403 : decode cL_act 403 = .ok (.iload 4, 2) := by decide +kernel
theorem dL_act_405 : decode cL_act 405 = .ok (.invokestatic 88, 3) := by decide +kernel
theorem dL_act_408 : decode cL_act 408 = .ok (.ireturn, 1) := by decide +kernel
theorem dL_act_409 : decode cL_act 409 = .ok (.aload_n 0, 1) := by decide +kernel
theorem dL_act_410 : decode cL_act 410 = .ok (.iload_n 3, 1) := by decide +kernel
theorem dL_act_411 : decode cL_act 411 = .ok (.invokestatic 90, 3) := by decide +kernel
theorem dL_act_414 : decode cL_act 414 = .ok (.ireturn, 1) := by decide +kernel
theorem dL_act_415 : decode cL_act 415 = .ok (.aload_n 0, 1) := by decide +kernel
theorem dL_act_416 : decode cL_act 416 = .ok (.iload_n 3, 1) := by decide +kernel
theorem dL_act_417 : decode cL_act 417 = .ok (.invokestatic 92, 3) := by decide +kernel
theorem dL_act_420 : decode cL_act 420 = .ok (.ireturn, 1) := by decide +kernel
theorem dL_act_421 : decode cL_act 421 = .ok (.aload_n 0, 1) := by decide +kernel
theorem dL_act_422 : decode cL_act 422 = .ok (.iload_n 2, 1) := by decide +kernel
theorem dL_act_423 : decode cL_act 423 = .ok (.ifCond .eq 15, 3) := by decide +kernel
theorem dL_act_426 : decode cL_act 426 = .ok (.iload_n 1, 1) := by decide +kernel
theorem dL_act_427 : decode cL_act 427 = .ok (.bipush 7, 2) := by decide +kernel
theorem dL_act_429 : decode cL_act 429 = .ok (.ishr, 1) := by decide +kernel
theorem dL_act_430 : decode cL_act 430 = .ok (.bipush 103, 2) := by decide +kernel
theorem dL_act_432 : decode cL_act 432 = .ok (.invokestatic 60, 3) := by decide +kernel
theorem dL_act_435 : decode cL_act 435 = .ok (.goto 14, 3) := by decide +kernel
theorem dL_act_438 : decode cL_act 438 = .ok (.iconst 1, 1) := by decide +kernel
theorem dL_act_439 : decode cL_act 439 = .ok (.iload_n 1, 1) := by decide +kernel
theorem dL_act_440 : decode cL_act 440 = .ok (.bipush 7, 2) := by decide +kernel
theorem dL_act_442 : decode cL_act 442 = .ok (.ishr, 1) := by decide +kernel
theorem dL_act_443 : decode cL_act 443 = .ok (.bipush 12, 2) := by decide +kernel
theorem dL_act_445 : decode cL_act 445 = .ok (.invokestatic 60, 3) := by decide +kernel
theorem dL_act_448 : decode cL_act 448 = .ok (.iadd, 1) := by decide +kernel
theorem dL_act_449 : decode cL_act 449 = .ok (.iload_n 1, 1) := by decide +kernel
theorem dL_act_450 : decode cL_act 450 = .ok (.bipush 12, 2) := by decide +kernel
theorem dL_act_452 : decode cL_act 452 = .ok (.ishr, 1) := by decide +kernel
theorem dL_act_453 : decode cL_act 453 = .ok (.iload_n 2, 1) := by decide +kernel
theorem dL_act_454 : decode cL_act 454 = .ok (.ifCond .eq 8, 3) := by decide +kernel
theorem dL_act_457 : decode cL_act 457 = .ok (.bipush 27, 2) := by decide +kernel
theorem dL_act_459 : decode cL_act 459 = .ok (.goto 4, 3) := by decide +kernel
theorem dL_act_462 : decode cL_act 462 = .ok (.iconst 3, 1) := by decide +kernel
theorem dL_act_463 : decode cL_act 463 = .ok (.invokestatic 60, 3) := by decide +kernel
theorem dL_act_466 : decode cL_act 466 = .ok (.iload_n 3, 1) := by decide +kernel
theorem dL_act_467 : decode cL_act 467 = .ok (.invokestatic 94, 3) := by decide +kernel
theorem dL_act_470 : decode cL_act 470 = .ok (.ireturn, 1) := by decide +kernel
theorem dL_areAlike_0 : decode cL_areAlike 0 = .ok (.aload_n 0, 1) := by decide +kernel
theorem dL_areAlike_1 : decode cL_areAlike 1 = .ok (.invokevirtual 96, 3) := by decide +kernel
theorem dL_areAlike_4 : decode cL_areAlike 4 = .ok (.aload_n 1, 1) := by decide +kernel
theorem dL_areAlike_5 : decode cL_areAlike 5 = .ok (.invokevirtual 96, 3) := by decide +kernel
theorem dL_areAlike_8 : decode cL_areAlike 8 = .ok (.if_icmp .ne 51, 3) := by decide +kernel
theorem dL_areAlike_11 : decode cL_areAlike 11 = .ok (.aload_n 0, 1) := by decide +kernel
theorem dL_areAlike_12 : decode cL_areAlike 12 = .ok (.invokevirtual 99, 3) := by decide +kernel
theorem dL_areAlike_15 : decode cL_areAlike 15 = .ok (.aload_n 1, 1) := by decide +kernel
theorem dL_areAlike_16 : decode cL_areAlike 16 = .ok (.invokevirtual 99, 3) := by decide +kernel
theorem dL_areAlike_19 : decode cL_areAlike 19 = .ok (.if_icmp .ne 40, 3) := by decide +kernel
theorem dL_areAlike_22 : decode cL_areAlike 22 = .ok (.aload_n 0, 1) := by decide +kernel
theorem dL_areAlike_23 : decode cL_areAlike 23 = .ok (.invokevirtual 102, 3) := by decide +kernel
theorem dL_areAlike_26 : decode cL_areAlike 26 = .ok (.aload_n 1, 1) := by decide +kernel
theorem dL_areAlike_27 : decode cL_areAlike 27 = .ok (.invokevirtual 102, 3) := by decide +kernel
theorem dL_areAlike_30 : decode cL_areAlike 30 = .ok (.if_icmp .ne 29, 3) := by decide +kernel
theorem dL_areAlike_33 : decode cL_areAlike 33 = .ok (.aload_n 0, 1) := by decide +kernel
theorem dL_areAlike_34 : decode cL_areAlike 34 = .ok (.invokevirtual 68, 3) := by decide +kernel
theorem dL_areAlike_37 : decode cL_areAlike 37 = .ok (.aload_n 1, 1) := by decide +kernel
theorem dL_areAlike_38 : decode cL_areAlike 38 = .ok (.invokevirtual 68, 3) := by decide +kernel
theorem dL_areAlike_41 : decode cL_areAlike 41 = .ok (.if_icmp .ne 18, 3) := by decide +kernel
theorem dL_areAlike_44 : decode cL_areAlike 44 = .ok (.aload_n 0, 1) := by decide +kernel
theorem dL_areAlike_45 : decode cL_areAlike 45 = .ok (.invokevirtual 105, 3) := by decide +kernel
theorem dL_areAlike_48 : decode cL_areAlike 48 = .ok (.aload_n 1, 1) := by decide +kernel
theorem dL_areAlike_49 : decode cL_areAlike 49 = .ok (.invokevirtual 105, 3) := by decide +kernel
theorem dL_areAlike_52 : decode cL_areAlike 52 = .ok (.if_icmp .ne 7, 3) := by decide +kernel
theorem dL_areAlike_55 : decode cL_areAlike 55 = .ok (.iconst 1, 1) := by decide +kernel
theorem dL_areAlike_56 : decode cL_areAlike 56 = .ok (.goto 4, 3) := by decide +kernel
theorem dL_areAlike_59 : decode cL_areAlike 59 = .ok (.iconst 0, 1) := by decide +kernel
theorem dL_areAlike_60 : decode cL_areAlike 60 = .ok (.istore_n 2, 1) := by decide +kernel
theorem dL_areAlike_61 : decode cL_areAlike 61 = .ok (.iconst 0, 1) := by decide +kernel
theorem dL_areAlike_62 : decode cL_areAlike 62 = .ok (.istore_n 3, 1) := by decide +kernel
theorem dL_areAlike_63 : decode cL_areAlike 63 = .ok (.iload_n 3, 1) := by decide +kernel
theorem dL_areAlike_64 : decode cL_areAlike 64 = .ok (.bipush 6, 2) := by decide +kernel
theorem dL_areAlike_66 : decode cL_areAlike 66 = .ok (.if_icmp .ge 74, 3) := by decide +kernel
theorem dL_areAlike_69 : decode cL_areAlike 69 = .ok (.iload_n 2, 1) := by decide +kernel
theorem dL_areAlike_70 : decode cL_areAlike 70 = .ok (.ifCond .eq 70, 3) := by decide +kernel
theorem dL_areAlike_73 : decode cL_areAlike 73 = .ok (.aload_n 0, 1) := by decide +kernel
theorem dL_areAlike_74 : decode cL_areAlike 74 = .ok (.iload_n 3, 1) := by decide +kernel
theorem dL_areAlike_75 : decode cL_areAlike 75 = .ok (.invokevirtual 108, 3) := by decide +kernel
theorem dL_areAlike_78 : decode cL_areAlike 78 = .ok (.aload_n 1, 1) := by decide +kernel
theorem dL_areAlike_79 : decode cL_areAlike 79 = .ok (.iload_n 3, 1) := by decide +kernel
theorem dL_areAlike_80 : decode cL_areAlike 80 = .ok (.invokevirtual 108, 3) := by decide +kernel
theorem dL_areAlike_83 : decode cL_areAlike 83 = .ok (.if_icmp .ne 7, 3) := by decide +kernel
theorem dL_areAlike_86 : decode cL_areAlike 86 = .ok (.iconst 1, 1) := by decide +kernel
theorem dL_areAlike_87 : decode cL_areAlike 87 = .ok (.goto 4, 3) := by decide +kernel
theorem dL_areAlike_90 : decode cL_areAlike 90 = .ok (.iconst 0, 1) := by decide +kernel
theorem dL_areAlike_91 : decode cL_areAlike 91 = .ok (.istore_n 2, 1) := by decide +kernel
theorem dL_areAlike_92 : decode cL_areAlike 92 = .ok (.iconst 0, 1) := by decide +kernel
theorem dL_areAlike_93 : decode cL_areAlike 93 = .ok (.istore 4, 2) := by decide +kernel
theorem dL_areAlike_95 : decode cL_areAlike 95 = .ok (.iload 4, 2) := by decide +kernel
theorem dL_areAlike_97 : decode cL_areAlike 97 = .ok (.iconst 5, 1) := by decide +kernel
theorem dL_areAlike_98 : decode cL_areAlike 98 = .ok (.if_icmp .ge 36, 3) := by decide +kernel
theorem dL_areAlike_101 : decode cL_areAlike 101 = .ok (.iload_n 2, 1) := by decide +kernel
theorem dL_areAlike_102 : decode cL_areAlike 102 = .ok (.ifCond .eq 24, 3) := by decide +kernel
theorem dL_areAlike_105 : decode cL_areAlike 105 = .ok (.aload_n 0, 1) := by decide +kernel
theorem dL_areAlike_106 : decode cL_areAlike 106 = .ok (.iload_n 3, 1) := by decide +kernel
theorem dL_areAlike_107 : decode cL_areAlike 107 = .ok (.iload 4, 2) := by decide +kernel
theorem dL_areAlike_109 : decode cL_areAlike 109 = .ok (.invokevirtual 111, 3) := by decide +kernel
theorem dL_areAlike_112 : decode cL_areAlike 112 = .ok (.aload_n 1, 1) := by decide +kernel
theorem dL_areAlike_113 : decode cL_areAlike 113 = .ok (.iload_n 3, 1) := by decide +kernel
theorem dL_areAlike_114 : decode cL_areAlike 114 = .ok (.iload 4, 2) := by decide +kernel
theorem dL_areAlike_116 : decode cL_areAlike 116 = .ok (.invokevirtual 111, 3) := by decide +kernel
theorem dL_areAlike_119 : decode cL_areAlike 119 = .ok (.if_icmp .ne 7, 3) := by decide +kernel
theorem dL_areAlike_122 : decode cL_areAlike 122 = .ok (.iconst 1, 1) := by decide +kernel
theorem dL_areAlike_123 : decode cL_areAlike 123 = .ok (.goto 4, 3) := by decide +kernel
theorem dL_areAlike_126 : decode cL_areAlike 126 = .ok (.iconst 0, 1) := by decide +kernel
theorem dL_areAlike_127 : decode cL_areAlike 127 = .ok (.istore_n 2, 1) := by decide +kernel
theorem dL_areAlike_128 : decode cL_areAlike 128 = .ok (.iinc 4 1, 3) := by decide +kernel
theorem dL_areAlike_131 : decode cL_areAlike 131 = .ok (.goto (-36), 3) := by decide +kernel
theorem dL_areAlike_134 : decode cL_areAlike 134 = .ok (.iinc 3 1, 3) := by decide +kernel
theorem dL_areAlike_137 : decode cL_areAlike 137 = .ok (.goto (-74), 3) := by decide +kernel
theorem dL_areAlike_140 : decode cL_areAlike 140 = .ok (.iload_n 2, 1) := by decide +kernel
theorem dL_areAlike_141 : decode cL_areAlike 141 = .ok (.ireturn, 1) := by decide +kernel
theorem dL_isYardSo_0 : decode cL_isYardSo 0 = .ok (.iconst 0, 1) := by decide +kernel
theorem dL_isYardSo_1 : decode cL_isYardSo 1 = .ok (.istore_n 1, 1) := by decide +kernel
theorem dL_isYardSo_2 : decode cL_isYardSo 2 = .ok (.iconst 0, 1) := by decide +kernel
theorem dL_isYardSo_3 : decode cL_isYardSo 3 = .ok (.istore_n 2, 1) := by decide +kernel
theorem dL_isYardSo_4 : decode cL_isYardSo 4 = .ok (.iconst 0, 1) := by decide +kernel
theorem dL_isYardSo_5 : decode cL_isYardSo 5 = .ok (.istore_n 3, 1) := by decide +kernel
theorem dL_isYardSo_6 : decode cL_isYardSo 6 = .ok (.iload_n 3, 1) := by decide +kernel
theorem dL_isYardSo_7 : decode cL_isYardSo 7 = .ok (.bipush 6, 2) := by decide +kernel
theorem dL_isYardSo_9 : decode cL_isYardSo 9 = .ok (.if_icmp .ge 125, 3) := by decide +kernel
theorem dL_isYardSo_12 : decode cL_isYardSo 12 = .ok (.aload_n 0, 1) := by decide +kernel
theorem dL_isYardSo_13 : decode cL_isYardSo 13 = .ok (.iload_n 3, 1) := by decide +kernel
theorem dL_isYardSo_14 : decode cL_isYardSo 14 = .ok (.invokevirtual 108, 3) := by decide +kernel
theorem dL_isYardSo_17 : decode cL_isYardSo 17 = .ok (.istore 4, 2) := by decide +kernel
theorem dL_isYardSo_19 : decode cL_isYardSo 19 = .ok (.iconst 0, 1) := by decide +kernel
theorem dL_isYardSo_20 : decode cL_isYardSo 20 = .ok (.istore 5, 2) := by decide +kernel
theorem dL_isYardSo_22 : decode cL_isYardSo 22 = .ok (.iload 5, 2) := by decide +kernel
theorem dL_isYardSo_24 : decode cL_isYardSo 24 = .ok (.iconst 5, 1) := by decide +kernel
theorem dL_isYardSo_25 : decode cL_isYardSo 25 = .ok (.if_icmp .ge 103, 3) := by decide +kernel
theorem dL_isYardSo_28 : decode cL_isYardSo 28 = .ok (.aload_n 0, 1) := by decide +kernel
theorem dL_isYardSo_29 : decode cL_isYardSo 29 = .ok (.iload_n 3, 1) := by decide +kernel
theorem dL_isYardSo_30 : decode cL_isYardSo 30 = .ok (.iload 5, 2) := by decide +kernel
theorem dL_isYardSo_32 : decode cL_isYardSo 32 = .ok (.invokevirtual 111, 3) := by decide +kernel
theorem dL_isYardSo_35 : decode cL_isYardSo 35 = .ok (.istore 6, 2) := by decide +kernel
theorem dL_isYardSo_37 : decode cL_isYardSo 37 = .ok (.iload 5, 2) := by decide +kernel
theorem dL_isYardSo_39 : decode cL_isYardSo 39 = .ok (.iload 4, 2) := by decide +kernel
theorem dL_isYardSo_41 : decode cL_isYardSo 41 = .ok (.if_icmp .ge 7, 3) := by decide +kernel
theorem dL_isYardSo_44 : decode cL_isYardSo 44 = .ok (.iconst 1, 1) := by decide +kernel
theorem dL_isYardSo_45 : decode cL_isYardSo 45 = .ok (.goto 4, 3) := by decide +kernel
theorem dL_isYardSo_48 : decode cL_isYardSo 48 = .ok (.iconst 0, 1) := by decide +kernel
theorem dL_isYardSo_49 : decode cL_isYardSo 49 = .ok (.istore 7, 2) := by decide +kernel
theorem dL_isYardSo_51 : decode cL_isYardSo 51 = .ok (.iload 6, 2) := by decide +kernel
theorem dL_isYardSo_53 : decode cL_isYardSo 53 = .ok (.ifCond .lt 7, 3) := by decide +kernel
theorem dL_isYardSo_56 : decode cL_isYardSo 56 = .ok (.iconst 1, 1) := by decide +kernel
theorem dL_isYardSo_57 : decode cL_isYardSo 57 = .ok (.goto 4, 3) := by decide +kernel
theorem dL_isYardSo_60 : decode cL_isYardSo 60 = .ok (.iconst 0, 1) := by decide +kernel
theorem dL_isYardSo_61 : decode cL_isYardSo 61 = .ok (.iload 7, 2) := by decide +kernel
theorem dL_isYardSo_63 : decode cL_isYardSo 63 = .ok (.if_icmp .ne 28, 3) := by decide +kernel
theorem dL_isYardSo_66 : decode cL_isYardSo 66 = .ok (.iload 7, 2) := by decide +kernel
theorem dL_isYardSo_68 : decode cL_isYardSo 68 = .ok (.ifCond .eq 25, 3) := by decide +kernel
theorem dL_isYardSo_71 : decode cL_isYardSo 71 = .ok (.iload_n 1, 1) := by decide +kernel
theorem dL_isYardSo_72 : decode cL_isYardSo 72 = .ok (.iload 6, 2) := by decide +kernel
theorem dL_isYardSo_74 : decode cL_isYardSo 74 = .ok (.ishr, 1) := by decide +kernel
theorem dL_isYardSo_75 : decode cL_isYardSo 75 = .ok (.iconst 1, 1) := by decide +kernel
theorem dL_isYardSo_76 : decode cL_isYardSo 76 = .ok (.iand, 1) := by decide +kernel
theorem dL_isYardSo_77 : decode cL_isYardSo 77 = .ok (.iconst 1, 1) := by decide +kernel
theorem dL_isYardSo_78 : decode cL_isYardSo 78 = .ok (.if_icmp .eq 13, 3) := by decide +kernel
theorem dL_isYardSo_81 : decode cL_isYardSo 81 = .ok (.aload_n 0, 1) := by decide +kernel
theorem dL_isYardSo_82 : decode cL_isYardSo 82 = .ok (.iload 6, 2) := by decide +kernel
theorem dL_isYardSo_84 : decode cL_isYardSo 84 = .ok (.invokestatic 114, 3) := by decide +kernel
theorem dL_isYardSo_87 : decode cL_isYardSo 87 = .ok (.iload_n 3, 1) := by decide +kernel
theorem dL_isYardSo_88 : decode cL_isYardSo 88 = .ok (.if_icmp .eq 5, 3) := by decide +kernel
theorem dL_isYardSo_91 : decode cL_isYardSo 91 = .ok (.iconst 0, 1) := by decide +kernel
theorem dL_isYardSo_92 : decode cL_isYardSo 92 = .ok (.ireturn, 1) := by decide +kernel
theorem dL_isYardSo_93 : decode cL_isYardSo 93 = .ok (.iload_n 1, 1) := by decide +kernel
theorem dL_isYardSo_94 : decode cL_isYardSo 94 = .ok (.iload 7, 2) := by decide +kernel
theorem dL_isYardSo_96 : decode cL_isYardSo 96 = .ok (.ifCond .eq 10, 3) := by decide +kernel
theorem dL_isYardSo_99 : decode cL_isYardSo 99 = .ok (.iconst 1, 1) := by decide +kernel
theorem dL_isYardSo_100 : decode cL_isYardSo 100 = .ok (.iload 6, 2) := by decide +kernel
theorem dL_isYardSo_102 : decode cL_isYardSo 102 = .ok (.ishl, 1) := by decide +kernel
theorem dL_isYardSo_103 : decode cL_isYardSo 103 = .ok (.goto 4, 3) := by decide +kernel
theorem dL_isYardSo_106 : decode cL_isYardSo 106 = .ok (.iconst 0, 1) := by decide +kernel
theorem dL_isYardSo_107 : decode cL_isYardSo 107 = .ok (.ior, 1) := by decide +kernel
theorem dL_isYardSo_108 : decode cL_isYardSo 108 = .ok (.istore_n 1, 1) := by decide +kernel
theorem dL_isYardSo_109 : decode cL_isYardSo 109 = .ok (.iload_n 2, 1) := by decide +kernel
theorem dL_isYardSo_110 : decode cL_isYardSo 110 = .ok (.iload 7, 2) := by decide +kernel
theorem dL_isYardSo_112 : decode cL_isYardSo 112 = .ok (.ifCond .eq 7, 3) := by decide +kernel
theorem dL_isYardSo_115 : decode cL_isYardSo 115 = .ok (.iconst 1, 1) := by decide +kernel
theorem dL_isYardSo_116 : decode cL_isYardSo 116 = .ok (.goto 4, 3) := by decide +kernel
theorem dL_isYardSo_119 : decode cL_isYardSo 119 = .ok (.iconst 0, 1) := by decide +kernel
theorem dL_isYardSo_120 : decode cL_isYardSo 120 = .ok (.iadd, 1) := by decide +kernel
theorem dL_isYardSo_121 : decode cL_isYardSo 121 = .ok (.istore_n 2, 1) := by decide +kernel
theorem dL_isYardSo_122 : decode cL_isYardSo 122 = .ok (.iinc 5 1, 3) := by decide +kernel
theorem dL_isYardSo_125 : decode cL_isYardSo 125 = .ok (.goto (-103), 3) := by decide +kernel
theorem dL_isYardSo_128 : decode cL_isYardSo 128 = .ok (.iinc 3 1, 3) := by decide +kernel
theorem dL_isYardSo_131 : decode cL_isYardSo 131 = .ok (.goto (-125), 3) := by decide +kernel
theorem dL_isYardSo_134 : decode cL_isYardSo 134 = .ok (.aload_n 0, 1) := by decide +kernel
theorem dL_isYardSo_135 : decode cL_isYardSo 135 = .ok (.invokevirtual 96, 3) := by decide +kernel
theorem dL_isYardSo_138 : decode cL_isYardSo 138 = .ok (.istore_n 3, 1) := by decide +kernel
theorem dL_isYardSo_139 : decode cL_isYardSo 139 = .ok (.iload_n 2, 1) := by decide +kernel
theorem dL_isYardSo_140 : decode cL_isYardSo 140 = .ok (.bipush 30, 2) := by decide +kernel
theorem dL_isYardSo_142 : decode cL_isYardSo 142 = .ok (.if_icmp .gt 42, 3) := by decide +kernel
theorem dL_isYardSo_145 : decode cL_isYardSo 145 = .ok (.iload_n 3, 1) := by decide +kernel
theorem dL_isYardSo_146 : decode cL_isYardSo 146 = .ok (.iconst (-1), 1) := by decide +kernel
theorem dL_isYardSo_147 : decode cL_isYardSo 147 = .ok (.if_icmp .eq 12, 3) := by decide +kernel
theorem dL_isYardSo_150 : decode cL_isYardSo 150 = .ok (.aload_n 0, 1) := by decide +kernel
theorem dL_isYardSo_151 : decode cL_isYardSo 151 = .ok (.iload_n 3, 1) := by decide +kernel
theorem dL_isYardSo_152 : decode cL_isYardSo 152 = .ok (.invokestatic 114, 3) := by decide +kernel
theorem dL_isYardSo_155 : decode cL_isYardSo 155 = .ok (.iconst (-1), 1) := by decide +kernel
theorem dL_isYardSo_156 : decode cL_isYardSo 156 = .ok (.if_icmp .ne 28, 3) := by decide +kernel
theorem dL_isYardSo_159 : decode cL_isYardSo 159 = .ok (.aload_n 0, 1) := by decide +kernel
theorem dL_isYardSo_160 : decode cL_isYardSo 160 = .ok (.invokevirtual 102, 3) := by decide +kernel
theorem dL_isYardSo_163 : decode cL_isYardSo 163 = .ok (.bipush 100, 2) := by decide +kernel
theorem dL_isYardSo_165 : decode cL_isYardSo 165 = .ok (.irem, 1) := by decide +kernel
theorem dL_isYardSo_166 : decode cL_isYardSo 166 = .ok (.ifCond .ne 18, 3) := by decide +kernel
theorem dL_isYardSo_169 : decode cL_isYardSo 169 = .ok (.aload_n 0, 1) := by decide +kernel
theorem dL_isYardSo_170 : decode cL_isYardSo 170 = .ok (.invokevirtual 105, 3) := by decide +kernel
theorem dL_isYardSo_173 : decode cL_isYardSo 173 = .ok (.aload_n 0, 1) := by decide +kernel
theorem dL_isYardSo_174 : decode cL_isYardSo 174 = .ok (.invokevirtual 102, 3) := by decide +kernel
theorem dL_isYardSo_177 : decode cL_isYardSo 177 = .ok (.if_icmp .gt 7, 3) := by decide +kernel
theorem dL_isYardSo_180 : decode cL_isYardSo 180 = .ok (.iconst 1, 1) := by decide +kernel
theorem dL_isYardSo_181 : decode cL_isYardSo 181 = .ok (.goto 4, 3) := by decide +kernel
theorem dL_isYardSo_184 : decode cL_isYardSo 184 = .ok (.iconst 0, 1) := by decide +kernel
theorem dL_isYardSo_185 : decode cL_isYardSo 185 = .ok (.ireturn, 1) := by decide +kernel
theorem dL_isDugSo_0 : decode cL_isDugSo 0 = .ok (.aload_n 0, 1) := by decide +kernel
theorem dL_isDugSo_1 : decode cL_isDugSo 1 = .ok (.iload_n 2, 1) := by decide +kernel
theorem dL_isDugSo_2 : decode cL_isDugSo 2 = .ok (.invokestatic 114, 3) := by decide +kernel
theorem dL_isDugSo_5 : decode cL_isDugSo 5 = .ok (.istore_n 3, 1) := by decide +kernel
theorem dL_isDugSo_6 : decode cL_isDugSo 6 = .ok (.iload_n 3, 1) := by decide +kernel
theorem dL_isDugSo_7 : decode cL_isDugSo 7 = .ok (.ifCond .ge 8, 3) := by decide +kernel
theorem dL_isDugSo_10 : decode cL_isDugSo 10 = .ok (.bipush (-2), 2) := by decide +kernel
theorem dL_isDugSo_12 : decode cL_isDugSo 12 = .ok (.goto 10, 3) := by decide +kernel
theorem dL_isDugSo_15 : decode cL_isDugSo 15 = .ok (.aload_n 0, 1) := by decide +kernel
theorem dL_isDugSo_16 : decode cL_isDugSo 16 = .ok (.iconst 1, 1) := by decide +kernel
theorem dL_isDugSo_17 : decode cL_isDugSo 17 = .ok (.iload_n 2, 1) := by decide +kernel
theorem dL_isDugSo_18 : decode cL_isDugSo 18 = .ok (.ishl, 1) := by decide +kernel
theorem dL_isDugSo_19 : decode cL_isDugSo 19 = .ok (.invokestatic 116, 3) := by decide +kernel
theorem dL_isDugSo_22 : decode cL_isDugSo 22 = .ok (.istore 4, 2) := by decide +kernel
theorem dL_isDugSo_24 : decode cL_isDugSo 24 = .ok (.aload_n 0, 1) := by decide +kernel
theorem dL_isDugSo_25 : decode cL_isDugSo 25 = .ok (.invokevirtual 96, 3) := by decide +kernel
theorem dL_isDugSo_28 : decode cL_isDugSo 28 = .ok (.istore 5, 2) := by decide +kernel
theorem dL_isDugSo_30 : decode cL_isDugSo 30 = .ok (.aload_n 0, 1) := by decide +kernel
theorem dL_isDugSo_31 : decode cL_isDugSo 31 = .ok (.invokevirtual 99, 3) := by decide +kernel
theorem dL_isDugSo_34 : decode cL_isDugSo 34 = .ok (.istore 6, 2) := by decide +kernel
theorem dL_isDugSo_36 : decode cL_isDugSo 36 = .ok (.iconst 0, 1) := by decide +kernel
theorem dL_isDugSo_37 : decode cL_isDugSo 37 = .ok (.istore 7, 2) := by decide +kernel
theorem dL_isDugSo_39 : decode cL_isDugSo 39 = .ok (.iconst 4, 1) := by decide +kernel
theorem dL_isDugSo_40 : decode cL_isDugSo 40 = .ok (.istore 8, 2) := by decide +kernel
theorem dL_isDugSo_42 : decode cL_isDugSo 42 = .ok (.iload 8, 2) := by decide +kernel
theorem dL_isDugSo_44 : decode cL_isDugSo 44 = .ok (.ifCond .lt 44, 3) := by decide +kernel
theorem dL_isDugSo_47 : decode cL_isDugSo 47 = .ok (.iload_n 3, 1) := by decide +kernel
theorem dL_isDugSo_48 : decode cL_isDugSo 48 = .ok (.ifCond .lt 40, 3) := by decide +kernel
theorem dL_isDugSo_51 : decode cL_isDugSo 51 = .ok (.aload_n 0, 1) := by decide +kernel
theorem dL_isDugSo_52 : decode cL_isDugSo 52 = .ok (.iload_n 3, 1) := by decide +kernel
theorem dL_isDugSo_53 : decode cL_isDugSo 53 = .ok (.iload 8, 2) := by decide +kernel
theorem dL_isDugSo_55 : decode cL_isDugSo 55 = .ok (.invokevirtual 111, 3) := by decide +kernel
theorem dL_isDugSo_58 : decode cL_isDugSo 58 = .ok (.iload_n 2, 1) := by decide +kernel
theorem dL_isDugSo_59 : decode cL_isDugSo 59 = .ok (.if_icmp .eq 29, 3) := by decide +kernel
theorem dL_isDugSo_62 : decode cL_isDugSo 62 = .ok (.iload 7, 2) := by decide +kernel
theorem dL_isDugSo_64 : decode cL_isDugSo 64 = .ok (.aload_n 0, 1) := by decide +kernel
theorem dL_isDugSo_65 : decode cL_isDugSo 65 = .ok (.iload_n 3, 1) := by decide +kernel
theorem dL_isDugSo_66 : decode cL_isDugSo 66 = .ok (.iload 8, 2) := by decide +kernel
theorem dL_isDugSo_68 : decode cL_isDugSo 68 = .ok (.invokevirtual 111, 3) := by decide +kernel
theorem dL_isDugSo_71 : decode cL_isDugSo 71 = .ok (.ifCond .lt 7, 3) := by decide +kernel
theorem dL_isDugSo_74 : decode cL_isDugSo 74 = .ok (.iconst 1, 1) := by decide +kernel
theorem dL_isDugSo_75 : decode cL_isDugSo 75 = .ok (.goto 4, 3) := by decide +kernel
theorem dL_isDugSo_78 : decode cL_isDugSo 78 = .ok (.iconst 0, 1) := by decide +kernel
theorem dL_isDugSo_79 : decode cL_isDugSo 79 = .ok (.iadd, 1) := by decide +kernel
theorem dL_isDugSo_80 : decode cL_isDugSo 80 = .ok (.istore 7, 2) := by decide +kernel
theorem dL_isDugSo_82 : decode cL_isDugSo 82 = .ok (.iinc 8 (-1), 3) := by decide +kernel
theorem dL_isDugSo_85 : decode cL_isDugSo 85 = .ok (.goto (-43), 3) := by decide +kernel
theorem dL_isDugSo_88 : decode cL_isDugSo 88 = .ok (.aload_n 0, 1) := by decide +kernel
theorem dL_isDugSo_89 : decode cL_isDugSo 89 = .ok (.iload_n 2, 1) := by decide +kernel
theorem dL_isDugSo_90 : decode cL_isDugSo 90 = .ok (.invokestatic 88, 3) := by decide +kernel
theorem dL_isDugSo_93 : decode cL_isDugSo 93 = .ok (.istore 8, 2) := by decide +kernel
theorem dL_isDugSo_95 : decode cL_isDugSo 95 = .ok (.aload_n 1, 1) := by decide +kernel
theorem dL_isDugSo_96 : decode cL_isDugSo 96 = .ok (.iload_n 2, 1) := by decide +kernel
theorem dL_isDugSo_97 : decode cL_isDugSo 97 = .ok (.invokestatic 88, 3) := by decide +kernel
theorem dL_isDugSo_100 : decode cL_isDugSo 100 = .ok (.iload 8, 2) := by decide +kernel
theorem dL_isDugSo_102 : decode cL_isDugSo 102 = .ok (.if_icmp .eq 5, 3) := by decide +kernel
theorem dL_isDugSo_105 : decode cL_isDugSo 105 = .ok (.iconst 0, 1) := by decide +kernel
theorem dL_isDugSo_106 : decode cL_isDugSo 106 = .ok (.ireturn, 1) := by decide +kernel
theorem dL_isDugSo_107 : decode cL_isDugSo 107 = .ok (.iload 5, 2) := by decide +kernel
theorem dL_isDugSo_109 : decode cL_isDugSo 109 = .ok (.ifCond .ge 7, 3) := by decide +kernel
theorem dL_isDugSo_112 : decode cL_isDugSo 112 = .ok (.iload_n 3, 1) := by decide +kernel
theorem dL_isDugSo_113 : decode cL_isDugSo 113 = .ok (.ifCond .ge 38, 3) := by decide +kernel
theorem dL_isDugSo_116 : decode cL_isDugSo 116 = .ok (.iload 8, 2) := by decide +kernel
theorem dL_isDugSo_118 : decode cL_isDugSo 118 = .ok (.bipush (-2), 2) := by decide +kernel
theorem dL_isDugSo_120 : decode cL_isDugSo 120 = .ok (.if_icmp .ge 29, 3) := by decide +kernel
theorem dL_isDugSo_123 : decode cL_isDugSo 123 = .ok (.iload_n 3, 1) := by decide +kernel
theorem dL_isDugSo_124 : decode cL_isDugSo 124 = .ok (.bipush (-2), 2) := by decide +kernel
theorem dL_isDugSo_126 : decode cL_isDugSo 126 = .ok (.if_icmp .eq 19, 3) := by decide +kernel
theorem dL_isDugSo_129 : decode cL_isDugSo 129 = .ok (.iload 5, 2) := by decide +kernel
theorem dL_isDugSo_131 : decode cL_isDugSo 131 = .ok (.ifCond .lt 14, 3) := by decide +kernel
theorem dL_isDugSo_134 : decode cL_isDugSo 134 = .ok (.iload_n 3, 1) := by decide +kernel
theorem dL_isDugSo_135 : decode cL_isDugSo 135 = .ok (.ifCond .lt 10, 3) := by decide +kernel
theorem dL_isDugSo_138 : decode cL_isDugSo 138 = .ok (.iload 4, 2) := by decide +kernel
theorem dL_isDugSo_140 : decode cL_isDugSo 140 = .ok (.bipush (-3), 2) := by decide +kernel
theorem dL_isDugSo_142 : decode cL_isDugSo 142 = .ok (.if_icmp .ne 7, 3) := by decide +kernel
theorem dL_isDugSo_145 : decode cL_isDugSo 145 = .ok (.iconst 1, 1) := by decide +kernel
theorem dL_isDugSo_146 : decode cL_isDugSo 146 = .ok (.goto 4, 3) := by decide +kernel
theorem dL_isDugSo_149 : decode cL_isDugSo 149 = .ok (.iconst 0, 1) := by decide +kernel
theorem dL_isDugSo_150 : decode cL_isDugSo 150 = .ok (.ireturn, 1) := by decide +kernel
theorem dL_isDugSo_151 : decode cL_isDugSo 151 = .ok (.iload 4, 2) := by decide +kernel
theorem dL_isDugSo_153 : decode cL_isDugSo 153 = .ok (.iconst (-1), 1) := by decide +kernel
theorem dL_isDugSo_154 : decode cL_isDugSo 154 = .ok (.if_icmp .ne 18, 3) := by decide +kernel
theorem dL_isDugSo_157 : decode cL_isDugSo 157 = .ok (.iload 8, 2) := by decide +kernel
theorem dL_isDugSo_159 : decode cL_isDugSo 159 = .ok (.ldc 31, 2) := by decide +kernel
theorem dL_isDugSo_161 : decode cL_isDugSo 161 = .ok (.if_icmp .ne 7, 3) := by decide +kernel
theorem dL_isDugSo_164 : decode cL_isDugSo 164 = .ok (.iconst 1, 1) := by decide +kernel
theorem dL_isDugSo_165 : decode cL_isDugSo 165 = .ok (.goto 57, 3) := by decide +kernel
theorem dL_isDugSo_168 : decode cL_isDugSo 168 = .ok (.iconst 0, 1) := by decide +kernel
theorem dL_isDugSo_169 : decode cL_isDugSo 169 = .ok (.goto 53, 3) := by decide +kernel
theorem dL_isDugSo_172 : decode cL_isDugSo 172 = .ok (.iload 8, 2) := by decide +kernel
theorem dL_isDugSo_174 : decode cL_isDugSo 174 = .ok (.iload 4, 2) := by decide +kernel
theorem dL_isDugSo_176 : decode cL_isDugSo 176 = .ok (.if_icmp .ne 45, 3) := by decide +kernel
theorem dL_isDugSo_179 : decode cL_isDugSo 179 = .ok (.iload 8, 2) := by decide +kernel
theorem dL_isDugSo_181 : decode cL_isDugSo 181 = .ok (.iload 7, 2) := by decide +kernel
theorem dL_isDugSo_183 : decode cL_isDugSo 183 = .ok (.iconst 1, 1) := by decide +kernel
theorem dL_isDugSo_184 : decode cL_isDugSo 184 = .ok (.iadd, 1) := by decide +kernel
theorem dL_isDugSo_185 : decode cL_isDugSo 185 = .ok (.if_icmp .ne 36, 3) := by decide +kernel
theorem dL_isDugSo_188 : decode cL_isDugSo 188 = .ok (.aload_n 0, 1) := by decide +kernel
theorem dL_isDugSo_189 : decode cL_isDugSo 189 = .ok (.invokevirtual 96, 3) := by decide +kernel
theorem dL_isDugSo_192 : decode cL_isDugSo 192 = .ok (.iload_n 2, 1) := by decide +kernel
theorem dL_isDugSo_193 : decode cL_isDugSo 193 = .ok (.if_icmp .ne 28, 3) := by decide +kernel
theorem dL_isDugSo_196 : decode cL_isDugSo 196 = .ok (.aload_n 0, 1) := by decide +kernel
theorem dL_isDugSo_197 : decode cL_isDugSo 197 = .ok (.invokevirtual 99, 3) := by decide +kernel
theorem dL_isDugSo_200 : decode cL_isDugSo 200 = .ok (.iload 6, 2) := by decide +kernel
theorem dL_isDugSo_202 : decode cL_isDugSo 202 = .ok (.iload 8, 2) := by decide +kernel
theorem dL_isDugSo_204 : decode cL_isDugSo 204 = .ok (.iadd, 1) := by decide +kernel
theorem dL_isDugSo_205 : decode cL_isDugSo 205 = .ok (.if_icmp .ne 16, 3) := by decide +kernel
theorem dL_isDugSo_208 : decode cL_isDugSo 208 = .ok (.aload_n 0, 1) := by decide +kernel
theorem dL_isDugSo_209 : decode cL_isDugSo 209 = .ok (.iload_n 2, 1) := by decide +kernel
theorem dL_isDugSo_210 : decode cL_isDugSo 210 = .ok (.invokestatic 114, 3) := by decide +kernel
theorem dL_isDugSo_213 : decode cL_isDugSo 213 = .ok (.iconst (-1), 1) := by decide +kernel
theorem dL_isDugSo_214 : decode cL_isDugSo 214 = .ok (.if_icmp .ne 7, 3) := by decide +kernel
theorem dL_isDugSo_217 : decode cL_isDugSo 217 = .ok (.iconst 1, 1) := by decide +kernel
theorem dL_isDugSo_218 : decode cL_isDugSo 218 = .ok (.goto 4, 3) := by decide +kernel
theorem dL_isDugSo_221 : decode cL_isDugSo 221 = .ok (.iconst 0, 1) := by decide +kernel
theorem dL_isDugSo_222 : decode cL_isDugSo 222 = .ok (.ireturn, 1) := by decide +kernel
theorem dL_law_0 : decode cL_law 0 = .ok (.new 9, 3) := by decide +kernel
theorem dL_law_3 : decode cL_law 3 = .ok (.dup, 1) := by decide +kernel
theorem dL_law_4 : decode cL_law 4 = .ok (.invokespecial 119, 3) := by decide +kernel
theorem dL_law_7 : decode cL_law 7 = .ok (.astore_n 1, 1) := by decide +kernel
theorem dL_law_8 : decode cL_law 8 = .ok (.new 9, 3) := by decide +kernel
theorem dL_law_11 : decode cL_law 11 = .ok (.dup, 1) := by decide +kernel
theorem dL_law_12 : decode cL_law 12 = .ok (.invokespecial 119, 3) := by decide +kernel
theorem dL_law_15 : decode cL_law 15 = .ok (.astore_n 2, 1) := by decide +kernel
theorem dL_law_16 : decode cL_law 16 = .ok (.iconst 0, 1) := by decide +kernel
theorem dL_law_17 : decode cL_law 17 = .ok (.istore_n 3, 1) := by decide +kernel
theorem dL_law_18 : decode cL_law 18 = .ok (.iload_n 3, 1) := by decide +kernel
theorem dL_law_19 : decode cL_law 19 = .ok (.bipush 90, 2) := by decide +kernel
theorem dL_law_21 : decode cL_law 21 = .ok (.if_icmp .ge 102, 3) := by decide +kernel
theorem dL_law_24 : decode cL_law 24 = .ok (.aload_n 0, 1) := by decide +kernel
theorem dL_law_25 : decode cL_law 25 = .ok (.iload_n 3, 1) := by decide +kernel
theorem dL_law_26 : decode cL_law 26 = .ok (.invokestatic 120, 3) := by decide +kernel
theorem dL_law_29 : decode cL_law 29 = .ok (.istore 4, 2) := by decide +kernel
theorem dL_law_31 : decode cL_law 31 = .ok (.aload_n 1, 1) := by decide +kernel
theorem dL_law_32 : decode cL_law 32 = .ok (.iload 4, 2) := by decide +kernel
theorem dL_law_34 : decode cL_law 34 = .ok (.invokestatic 124, 3) := by decide +kernel
theorem dL_law_37 : decode cL_law 37 = .ok (.istore 5, 2) := by decide +kernel
theorem dL_law_39 : decode cL_law 39 = .ok (.iload 5, 2) := by decide +kernel
theorem dL_law_41 : decode cL_law 41 = .ok (.ldc 31, 2) := by decide +kernel
theorem dL_law_43 : decode cL_law 43 = .ok (.if_icmp .le 14, 3) := by decide +kernel
theorem dL_law_46 : decode cL_law 46 = .ok (.aload_n 2, 1) := by decide +kernel
theorem dL_law_47 : decode cL_law 47 = .ok (.iload 4, 2) := by decide +kernel
theorem dL_law_49 : decode cL_law 49 = .ok (.invokestatic 124, 3) := by decide +kernel
theorem dL_law_52 : decode cL_law 52 = .ok (.iload 5, 2) := by decide +kernel
theorem dL_law_54 : decode cL_law 54 = .ok (.if_icmp .ne 11, 3) := by decide +kernel
theorem dL_law_57 : decode cL_law 57 = .ok (.aload_n 1, 1) := by decide +kernel
theorem dL_law_58 : decode cL_law 58 = .ok (.aload_n 2, 1) := by decide +kernel
theorem dL_law_59 : decode cL_law 59 = .ok (.invokestatic 127, 3) := by decide +kernel
theorem dL_law_62 : decode cL_law 62 = .ok (.ifCond .ne 5, 3) := by decide +kernel
theorem dL_law_65 : decode cL_law 65 = .ok (.iconst 0, 1) := by decide +kernel
theorem dL_law_66 : decode cL_law 66 = .ok (.ireturn, 1) := by decide +kernel
theorem dL_law_67 : decode cL_law 67 = .ok (.iload_n 3, 1) := by decide +kernel
theorem dL_law_68 : decode cL_law 68 = .ok (.iconst 5, 1) := by decide +kernel
theorem dL_law_69 : decode cL_law 69 = .ok (.irem, 1) := by decide +kernel
theorem dL_law_70 : decode cL_law 70 = .ok (.iconst 4, 1) := by decide +kernel
theorem dL_law_71 : decode cL_law 71 = .ok (.if_icmp .ne 10, 3) := by decide +kernel
theorem dL_law_74 : decode cL_law 74 = .ok (.aload_n 1, 1) := by decide +kernel
theorem dL_law_75 : decode cL_law 75 = .ok (.invokestatic 131, 3) := by decide +kernel
theorem dL_law_78 : decode cL_law 78 = .ok (.ifCond .eq 37, 3) := by decide +kernel
theorem dL_law_81 : decode cL_law 81 = .ok (.iload_n 3, 1) := by decide +kernel
theorem dL_law_82 : decode cL_law 82 = .ok (.bipush 12, 2) := by decide +kernel
theorem dL_law_84 : decode cL_law 84 = .ok (.irem, 1) := by decide +kernel
theorem dL_law_85 : decode cL_law 85 = .ok (.bipush 11, 2) := by decide +kernel
theorem dL_law_87 : decode cL_law 87 = .ok (.if_icmp .ne 30, 3) := by decide +kernel
theorem dL_law_90 : decode cL_law 90 = .ok (.aload_n 1, 1) := by decide +kernel
theorem dL_law_91 : decode cL_law 91 = .ok (.aload_n 2, 1) := by decide +kernel
theorem dL_law_92 : decode cL_law 92 = .ok (.iload 4, 2) := by decide +kernel
theorem dL_law_94 : decode cL_law 94 = .ok (.iconst 5, 1) := by decide +kernel
theorem dL_law_95 : decode cL_law 95 = .ok (.ishr, 1) := by decide +kernel
theorem dL_law_96 : decode cL_law 96 = .ok (.bipush 14, 2) := by decide +kernel
theorem dL_law_98 : decode cL_law 98 = .ok (.invokestatic 60, 3) := by decide +kernel
theorem dL_law_101 : decode cL_law 101 = .ok (.invokestatic 135, 3) := by decide +kernel
theorem dL_law_104 : decode cL_law 104 = .ok (.ifCond .eq 11, 3) := by decide +kernel
theorem dL_law_107 : decode cL_law 107 = .ok (.aload_n 1, 1) := by decide +kernel
theorem dL_law_108 : decode cL_law 108 = .ok (.aload_n 2, 1) := by decide +kernel
theorem dL_law_109 : decode cL_law 109 = .ok (.invokestatic 127, 3) := by decide +kernel
theorem dL_law_112 : decode cL_law 112 = .ok (.ifCond .ne 5, 3) := by decide +kernel
theorem dL_law_115 : decode cL_law 115 = .ok (.iconst 0, 1) := by decide +kernel
theorem dL_law_116 : decode cL_law 116 = .ok (.ireturn, 1) := by decide +kernel
theorem dL_law_117 : decode cL_law 117 = .ok (.iinc 3 1, 3) := by decide +kernel
theorem dL_law_120 : decode cL_law 120 = .ok (.goto (-102), 3) := by decide +kernel
theorem dL_law_123 : decode cL_law 123 = .ok (.aload_n 1, 1) := by decide +kernel
theorem dL_law_124 : decode cL_law 124 = .ok (.aload_n 2, 1) := by decide +kernel
theorem dL_law_125 : decode cL_law 125 = .ok (.invokestatic 127, 3) := by decide +kernel
theorem dL_law_128 : decode cL_law 128 = .ok (.ireturn, 1) := by decide +kernel
