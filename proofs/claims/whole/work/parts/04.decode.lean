theorem dX0_init_0 : decode cX0_init 0 = .ok (.aload_n 0, 1) := by decide +kernel
theorem dX0_init_1 : decode cX0_init 1 = .ok (.invokespecial 3, 3) := by decide +kernel
theorem dX0_init_4 : decode cX0_init 4 = .ok (.aload_n 0, 1) := by decide +kernel
theorem dX0_init_5 : decode cX0_init 5 = .ok (.bipush 20, 2) := by decide +kernel
theorem dX0_init_7 : decode cX0_init 7 = .ok (.newarray .int, 2) := by decide +kernel
theorem dX0_init_9 : decode cX0_init 9 = .ok (.putfield 9, 3) := by decide +kernel
theorem dX0_init_12 : decode cX0_init 12 = .ok (.aload_n 0, 1) := by decide +kernel
theorem dX0_init_13 : decode cX0_init 13 = .ok (.bipush 20, 2) := by decide +kernel
theorem dX0_init_15 : decode cX0_init 15 = .ok (.newarray .int, 2) := by decide +kernel
theorem dX0_init_17 : decode cX0_init 17 = .ok (.putfield 15, 3) := by decide +kernel
theorem dX0_init_20 : decode cX0_init 20 = .ok (.aload_n 0, 1) := by decide +kernel
theorem dX0_init_21 : decode cX0_init 21 = .ok (.bipush 20, 2) := by decide +kernel
theorem dX0_init_23 : decode cX0_init 23 = .ok (.newarray .int, 2) := by decide +kernel
theorem dX0_init_25 : decode cX0_init 25 = .ok (.putfield 18, 3) := by decide +kernel
theorem dX0_init_28 : decode cX0_init 28 = .ok (.aload_n 0, 1) := by decide +kernel
theorem dX0_init_29 : decode cX0_init 29 = .ok (.bipush 20, 2) := by decide +kernel
theorem dX0_init_31 : decode cX0_init 31 = .ok (.newarray .int, 2) := by decide +kernel
theorem dX0_init_33 : decode cX0_init 33 = .ok (.putfield 21, 3) := by decide +kernel
theorem dX0_init_36 : decode cX0_init 36 = .ok (.aload_n 0, 1) := by decide +kernel
theorem dX0_init_37 : decode cX0_init 37 = .ok (.bipush 80, 2) := by decide +kernel
theorem dX0_init_39 : decode cX0_init 39 = .ok (.newarray .int, 2) := by decide +kernel
theorem dX0_init_41 : decode cX0_init 41 = .ok (.putfield 24, 3) := by decide +kernel
theorem dX0_init_44 : decode cX0_init 44 = .ok (.aload_n 0, 1) := by decide +kernel
theorem dX0_init_45 : decode cX0_init 45 = .ok (.iconst 0, 1) := by decide +kernel
theorem dX0_init_46 : decode cX0_init 46 = .ok (.putfield 27, 3) := by decide +kernel
theorem dX0_init_49 : decode cX0_init 49 = .ok (.aload_n 0, 1) := by decide +kernel
theorem dX0_init_50 : decode cX0_init 50 = .ok (.iconst 0, 1) := by decide +kernel
theorem dX0_init_51 : decode cX0_init 51 = .ok (.putfield 31, 3) := by decide +kernel
theorem dX0_init_54 : decode cX0_init 54 = .ok (.aload_n 0, 1) := by decide +kernel
theorem dX0_init_55 : decode cX0_init 55 = .ok (.iconst 0, 1) := by decide +kernel
theorem dX0_init_56 : decode cX0_init 56 = .ok (.putfield 34, 3) := by decide +kernel
theorem dX0_init_59 : decode cX0_init 59 = .ok (.return_, 1) := by decide +kernel
theorem dX0_number_0 : decode cX0_number 0 = .ok (.aload_n 0, 1) := by decide +kernel
theorem dX0_number_1 : decode cX0_number 1 = .ok (.getfield 27, 3) := by decide +kernel
theorem dX0_number_4 : decode cX0_number 4 = .ok (.ireturn, 1) := by decide +kernel
theorem dX0_pricesOfDone_0 : decode cX0_pricesOfDone 0 = .ok (.aload_n 0, 1) := by decide +kernel
theorem dX0_pricesOfDone_1 : decode cX0_pricesOfDone 1 = .ok (.getfield 31, 3) := by decide +kernel
theorem dX0_pricesOfDone_4 : decode cX0_pricesOfDone 4 = .ok (.ireturn, 1) := by decide +kernel
theorem dX0_owedForLate_0 : decode cX0_owedForLate 0 = .ok (.aload_n 0, 1) := by decide +kernel
theorem dX0_owedForLate_1 : decode cX0_owedForLate 1 = .ok (.getfield 34, 3) := by decide +kernel
theorem dX0_owedForLate_4 : decode cX0_owedForLate 4 = .ok (.ireturn, 1) := by decide +kernel
theorem dX0_stateOf_0 : decode cX0_stateOf 0 = .ok (.iload_n 1, 1) := by decide +kernel
theorem dX0_stateOf_1 : decode cX0_stateOf 1 = .ok (.ifCond .lt 20, 3) := by decide +kernel
theorem dX0_stateOf_4 : decode cX0_stateOf 4 = .ok (.iload_n 1, 1) := by decide +kernel
theorem dX0_stateOf_5 : decode cX0_stateOf 5 = .ok (.aload_n 0, 1) := by decide +kernel
theorem dX0_stateOf_6 : decode cX0_stateOf 6 = .ok (.getfield 27, 3) := by decide +kernel
theorem dX0_stateOf_9 : decode cX0_stateOf 9 = .ok (.if_icmp .ge 12, 3) := by decide +kernel
theorem dX0_stateOf_12 : decode cX0_stateOf 12 = .ok (.aload_n 0, 1) := by decide +kernel
theorem dX0_stateOf_13 : decode cX0_stateOf 13 = .ok (.getfield 18, 3) := by decide +kernel
theorem dX0_stateOf_16 : decode cX0_stateOf 16 = .ok (.iload_n 1, 1) := by decide +kernel
theorem dX0_stateOf_17 : decode cX0_stateOf 17 = .ok (.iaload, 1) := by decide +kernel
theorem dX0_stateOf_18 : decode cX0_stateOf 18 = .ok (.goto 4, 3) := by decide +kernel
theorem dX0_stateOf_21 : decode cX0_stateOf 21 = .ok (.iconst (-1), 1) := by decide +kernel
theorem dX0_stateOf_22 : decode cX0_stateOf 22 = .ok (.ireturn, 1) := by decide +kernel
theorem dX0_isOpen_0 : decode cX0_isOpen 0 = .ok (.aload_n 0, 1) := by decide +kernel
theorem dX0_isOpen_1 : decode cX0_isOpen 1 = .ok (.iload_n 1, 1) := by decide +kernel
theorem dX0_isOpen_2 : decode cX0_isOpen 2 = .ok (.invokevirtual 37, 3) := by decide +kernel
theorem dX0_isOpen_5 : decode cX0_isOpen 5 = .ok (.istore_n 2, 1) := by decide +kernel
theorem dX0_isOpen_6 : decode cX0_isOpen 6 = .ok (.iload_n 2, 1) := by decide +kernel
theorem dX0_isOpen_7 : decode cX0_isOpen 7 = .ok (.ifCond .eq 8, 3) := by decide +kernel
theorem dX0_isOpen_10 : decode cX0_isOpen 10 = .ok (.iload_n 2, 1) := by decide +kernel
theorem dX0_isOpen_11 : decode cX0_isOpen 11 = .ok (.iconst 1, 1) := by decide +kernel
theorem dX0_isOpen_12 : decode cX0_isOpen 12 = .ok (.if_icmp .ne 7, 3) := by decide +kernel
theorem dX0_isOpen_15 : decode cX0_isOpen 15 = .ok (.iconst 1, 1) := by decide +kernel
theorem dX0_isOpen_16 : decode cX0_isOpen 16 = .ok (.goto 4, 3) := by decide +kernel
theorem dX0_isOpen_19 : decode cX0_isOpen 19 = .ok (.iconst 0, 1) := by decide +kernel
theorem dX0_isOpen_20 : decode cX0_isOpen 20 = .ok (.ireturn, 1) := by decide +kernel
theorem dX0_openHaulOf_0 : decode cX0_openHaulOf 0 = .ok (.iconst 0, 1) := by decide +kernel
theorem dX0_openHaulOf_1 : decode cX0_openHaulOf 1 = .ok (.istore_n 2, 1) := by decide +kernel
theorem dX0_openHaulOf_2 : decode cX0_openHaulOf 2 = .ok (.iload_n 2, 1) := by decide +kernel
theorem dX0_openHaulOf_3 : decode cX0_openHaulOf 3 = .ok (.aload_n 0, 1) := by decide +kernel
theorem dX0_openHaulOf_4 : decode cX0_openHaulOf 4 = .ok (.getfield 27, 3) := by decide +kernel
theorem dX0_openHaulOf_7 : decode cX0_openHaulOf 7 = .ok (.if_icmp .ge 29, 3) := by decide +kernel
theorem dX0_openHaulOf_10 : decode cX0_openHaulOf 10 = .ok (.aload_n 0, 1) := by decide +kernel
theorem dX0_openHaulOf_11 : decode cX0_openHaulOf 11 = .ok (.getfield 9, 3) := by decide +kernel
theorem dX0_openHaulOf_14 : decode cX0_openHaulOf 14 = .ok (.iload_n 2, 1) := by decide +kernel
theorem dX0_openHaulOf_15 : decode cX0_openHaulOf 15 = .ok (.iaload, 1) := by decide +kernel
theorem dX0_openHaulOf_16 : decode cX0_openHaulOf 16 = .ok (.iload_n 1, 1) := by decide +kernel
theorem dX0_openHaulOf_17 : decode cX0_openHaulOf 17 = .ok (.if_icmp .ne 13, 3) := by decide +kernel
theorem dX0_openHaulOf_20 : decode cX0_openHaulOf 20 = .ok (.aload_n 0, 1) := by decide +kernel
theorem dX0_openHaulOf_21 : decode cX0_openHaulOf 21 = .ok (.iload_n 2, 1) := by decide +kernel
theorem dX0_openHaulOf_22 : decode cX0_openHaulOf 22 = .ok (.invokevirtual 41, 3) := by decide +kernel
theorem dX0_openHaulOf_25 : decode cX0_openHaulOf 25 = .ok (.ifCond .eq 5, 3) := by decide +kernel
theorem dX0_openHaulOf_28 : decode cX0_openHaulOf 28 = .ok (.iload_n 2, 1) := by decide +kernel
theorem dX0_openHaulOf_29 : decode cX0_openHaulOf 29 = .ok (.ireturn, 1) := by decide +kernel
theorem dX0_openHaulOf_30 : decode cX0_openHaulOf 30 = .ok (.iinc 2 1, 3) := by decide +kernel
theorem dX0_openHaulOf_33 : decode cX0_openHaulOf 33 = .ok (.goto (-31), 3) := by decide +kernel
theorem dX0_openHaulOf_36 : decode cX0_openHaulOf 36 = .ok (.iconst (-1), 1) := by decide +kernel
theorem dX0_openHaulOf_37 : decode cX0_openHaulOf 37 = .ok (.ireturn, 1) := by decide +kernel
theorem dX0_add_0 : decode cX0_add 0 = .ok (.aload_n 0, 1) := by decide +kernel
theorem dX0_add_1 : decode cX0_add 1 = .ok (.getfield 27, 3) := by decide +kernel
theorem dX0_add_4 : decode cX0_add 4 = .ok (.bipush 20, 2) := by decide +kernel
theorem dX0_add_6 : decode cX0_add 6 = .ok (.if_icmp .lt 5, 3) := by decide +kernel
theorem dX0_add_9 : decode cX0_add 9 = .ok (.iconst (-1), 1) := by decide +kernel
theorem dX0_add_10 : decode cX0_add 10 = .ok (.ireturn, 1) := by decide +kernel
theorem dX0_add_11 : decode cX0_add 11 = .ok (.aload_n 0, 1) := by decide +kernel
theorem dX0_add_12 : decode cX0_add 12 = .ok (.getfield 27, 3) := by decide +kernel
theorem dX0_add_15 : decode cX0_add 15 = .ok (.istore_n 3, 1) := by decide +kernel
theorem dX0_add_16 : decode cX0_add 16 = .ok (.aload_n 0, 1) := by decide +kernel
theorem dX0_add_17 : decode cX0_add 17 = .ok (.dup, 1) := by decide +kernel
theorem dX0_add_18 : decode cX0_add 18 = .ok (.getfield 27, 3) := by decide +kernel
theorem dX0_add_21 : decode cX0_add 21 = .ok (.iconst 1, 1) := by decide +kernel
theorem dX0_add_22 : decode cX0_add 22 = .ok (.iadd, 1) := by decide +kernel
theorem dX0_add_23 : decode cX0_add 23 = .ok (.putfield 27, 3) := by decide +kernel
theorem dX0_add_26 : decode cX0_add 26 = .ok (.aload_n 0, 1) := by decide +kernel
theorem dX0_add_27 : decode cX0_add 27 = .ok (.getfield 9, 3) := by decide +kernel
theorem dX0_add_30 : decode cX0_add 30 = .ok (.iload_n 3, 1) := by decide +kernel
theorem dX0_add_31 : decode cX0_add 31 = .ok (.iload_n 1, 1) := by decide +kernel
theorem dX0_add_32 : decode cX0_add 32 = .ok (.iastore, 1) := by decide +kernel
theorem dX0_add_33 : decode cX0_add 33 = .ok (.aload_n 0, 1) := by decide +kernel
theorem dX0_add_34 : decode cX0_add 34 = .ok (.getfield 15, 3) := by decide +kernel
theorem dX0_add_37 : decode cX0_add 37 = .ok (.iload_n 3, 1) := by decide +kernel
theorem dX0_add_38 : decode cX0_add 38 = .ok (.iload_n 2, 1) := by decide +kernel
theorem dX0_add_39 : decode cX0_add 39 = .ok (.iastore, 1) := by decide +kernel
theorem dX0_add_40 : decode cX0_add 40 = .ok (.aload_n 0, 1) := by decide +kernel
theorem dX0_add_41 : decode cX0_add 41 = .ok (.getfield 18, 3) := by decide +kernel
theorem dX0_add_44 : decode cX0_add 44 = .ok (.iload_n 3, 1) := by decide +kernel
theorem dX0_add_45 : decode cX0_add 45 = .ok (.iconst 0, 1) := by decide +kernel
theorem dX0_add_46 : decode cX0_add 46 = .ok (.iastore, 1) := by decide +kernel
theorem dX0_add_47 : decode cX0_add 47 = .ok (.iload_n 3, 1) := by decide +kernel
theorem dX0_add_48 : decode cX0_add 48 = .ok (.ireturn, 1) := by decide +kernel
theorem dX0_isPlaceForBid_0 : decode cX0_isPlaceForBid 0 = .ok (.iload_n 1, 1) := by decide +kernel
theorem dX0_isPlaceForBid_1 : decode cX0_isPlaceForBid 1 = .ok (.ifCond .lt 24, 3) := by decide +kernel
theorem dX0_isPlaceForBid_4 : decode cX0_isPlaceForBid 4 = .ok (.iload_n 1, 1) := by decide +kernel
theorem dX0_isPlaceForBid_5 : decode cX0_isPlaceForBid 5 = .ok (.aload_n 0, 1) := by decide +kernel
theorem dX0_isPlaceForBid_6 : decode cX0_isPlaceForBid 6 = .ok (.getfield 27, 3) := by decide +kernel
theorem dX0_isPlaceForBid_9 : decode cX0_isPlaceForBid 9 = .ok (.if_icmp .ge 16, 3) := by decide +kernel
theorem dX0_isPlaceForBid_12 : decode cX0_isPlaceForBid 12 = .ok (.iload_n 2, 1) := by decide +kernel
theorem dX0_isPlaceForBid_13 : decode cX0_isPlaceForBid 13 = .ok (.ifCond .lt 12, 3) := by decide +kernel
theorem dX0_isPlaceForBid_16 : decode cX0_isPlaceForBid 16 = .ok (.iload_n 2, 1) := by decide +kernel
theorem dX0_isPlaceForBid_17 : decode cX0_isPlaceForBid 17 = .ok (.iconst 4, 1) := by decide +kernel
theorem dX0_isPlaceForBid_18 : decode cX0_isPlaceForBid 18 = .ok (.if_icmp .ge 7, 3) := by decide +kernel
theorem dX0_isPlaceForBid_21 : decode cX0_isPlaceForBid 21 = .ok (.iconst 1, 1) := by decide +kernel
theorem dX0_isPlaceForBid_22 : decode cX0_isPlaceForBid 22 = .ok (.goto 4, 3) := by decide +kernel
theorem dX0_isPlaceForBid_25 : decode cX0_isPlaceForBid 25 = .ok (.iconst 0, 1) := by decide +kernel
theorem dX0_isPlaceForBid_26 : decode cX0_isPlaceForBid 26 = .ok (.ireturn, 1) := by decide +kernel
theorem dX0_priceAsked_0 : decode cX0_priceAsked 0 = .ok (.aload_n 0, 1) := by decide +kernel
theorem dX0_priceAsked_1 : decode cX0_priceAsked 1 = .ok (.iload_n 1, 1) := by decide +kernel
theorem dX0_priceAsked_2 : decode cX0_priceAsked 2 = .ok (.iload_n 2, 1) := by decide +kernel
theorem dX0_priceAsked_3 : decode cX0_priceAsked 3 = .ok (.invokevirtual 45, 3) := by decide +kernel
theorem dX0_priceAsked_6 : decode cX0_priceAsked 6 = .ok (.ifCond .eq 16, 3) := by decide +kernel
theorem dX0_priceAsked_9 : decode cX0_priceAsked 9 = .ok (.aload_n 0, 1) := by decide +kernel
theorem dX0_priceAsked_10 : decode cX0_priceAsked 10 = .ok (.getfield 24, 3) := by decide +kernel
theorem dX0_priceAsked_13 : decode cX0_priceAsked 13 = .ok (.iload_n 1, 1) := by decide +kernel
theorem dX0_priceAsked_14 : decode cX0_priceAsked 14 = .ok (.iconst 4, 1) := by decide +kernel
theorem dX0_priceAsked_15 : decode cX0_priceAsked 15 = .ok (.imul, 1) := by decide +kernel
theorem dX0_priceAsked_16 : decode cX0_priceAsked 16 = .ok (.iload_n 2, 1) := by decide +kernel
theorem dX0_priceAsked_17 : decode cX0_priceAsked 17 = .ok (.iadd, 1) := by decide +kernel
theorem dX0_priceAsked_18 : decode cX0_priceAsked 18 = .ok (.iaload, 1) := by decide +kernel
theorem dX0_priceAsked_19 : decode cX0_priceAsked 19 = .ok (.ifCond .ne 5, 3) := by decide +kernel
theorem dX0_priceAsked_22 : decode cX0_priceAsked 22 = .ok (.iconst (-1), 1) := by decide +kernel
theorem dX0_priceAsked_23 : decode cX0_priceAsked 23 = .ok (.ireturn, 1) := by decide +kernel
theorem dX0_priceAsked_24 : decode cX0_priceAsked 24 = .ok (.aload_n 0, 1) := by decide +kernel
theorem dX0_priceAsked_25 : decode cX0_priceAsked 25 = .ok (.getfield 24, 3) := by decide +kernel
theorem dX0_priceAsked_28 : decode cX0_priceAsked 28 = .ok (.iload_n 1, 1) := by decide +kernel
theorem dX0_priceAsked_29 : decode cX0_priceAsked 29 = .ok (.iconst 4, 1) := by decide +kernel
theorem dX0_priceAsked_30 : decode cX0_priceAsked 30 = .ok (.imul, 1) := by decide +kernel
theorem dX0_priceAsked_31 : decode cX0_priceAsked 31 = .ok (.iload_n 2, 1) := by decide +kernel
theorem dX0_priceAsked_32 : decode cX0_priceAsked 32 = .ok (.iadd, 1) := by decide +kernel
theorem dX0_priceAsked_33 : decode cX0_priceAsked 33 = .ok (.iaload, 1) := by decide +kernel
theorem dX0_priceAsked_34 : decode cX0_priceAsked 34 = .ok (.ireturn, 1) := by decide +kernel
theorem dX0_enterBid_0 : decode cX0_enterBid 0 = .ok (.aload_n 0, 1) := by decide +kernel
theorem dX0_enterBid_1 : decode cX0_enterBid 1 = .ok (.iload_n 1, 1) := by decide +kernel
theorem dX0_enterBid_2 : decode cX0_enterBid 2 = .ok (.iload_n 2, 1) := by decide +kernel
theorem dX0_enterBid_3 : decode cX0_enterBid 3 = .ok (.invokevirtual 45, 3) := by decide +kernel
theorem dX0_enterBid_6 : decode cX0_enterBid 6 = .ok (.ifCond .eq 14, 3) := by decide +kernel
theorem dX0_enterBid_9 : decode cX0_enterBid 9 = .ok (.aload_n 0, 1) := by decide +kernel
theorem dX0_enterBid_10 : decode cX0_enterBid 10 = .ok (.getfield 24, 3) := by decide +kernel
theorem dX0_enterBid_13 : decode cX0_enterBid 13 = .ok (.iload_n 1, 1) := by decide +kernel
theorem dX0_enterBid_14 : decode cX0_enterBid 14 = .ok (.iconst 4, 1) := by decide +kernel
theorem dX0_enterBid_15 : decode cX0_enterBid 15 = .ok (.imul, 1) := by decide +kernel
theorem dX0_enterBid_16 : decode cX0_enterBid 16 = .ok (.iload_n 2, 1) := by decide +kernel
theorem dX0_enterBid_17 : decode cX0_enterBid 17 = .ok (.iadd, 1) := by decide +kernel
theorem dX0_enterBid_18 : decode cX0_enterBid 18 = .ok (.iload_n 3, 1) := by decide +kernel
theorem dX0_enterBid_19 : decode cX0_enterBid 19 = .ok (.iastore, 1) := by decide +kernel
theorem dX0_enterBid_20 : decode cX0_enterBid 20 = .ok (.return_, 1) := by decide +kernel
theorem dX0_cheapestHaulier_0 : decode cX0_cheapestHaulier 0 = .ok (.iconst (-1), 1) := by decide +kernel
theorem dX0_cheapestHaulier_1 : decode cX0_cheapestHaulier 1 = .ok (.istore_n 2, 1) := by decide +kernel
theorem dX0_cheapestHaulier_2 : decode cX0_cheapestHaulier 2 = .ok (.iconst 0, 1) := by decide +kernel
theorem dX0_cheapestHaulier_3 : decode cX0_cheapestHaulier 3 = .ok (.istore_n 3, 1) := by decide +kernel
theorem dX0_cheapestHaulier_4 : decode cX0_cheapestHaulier 4 = .ok (.iload_n 3, 1) := by decide +kernel
theorem dX0_cheapestHaulier_5 : decode cX0_cheapestHaulier 5 = .ok (.iconst 4, 1) := by decide +kernel
theorem dX0_cheapestHaulier_6 : decode cX0_cheapestHaulier 6 = .ok (.if_icmp .ge 41, 3) := by decide +kernel
theorem dX0_cheapestHaulier_9 : decode cX0_cheapestHaulier 9 = .ok (.aload_n 0, 1) := by decide +kernel
theorem dX0_cheapestHaulier_10 : decode cX0_cheapestHaulier 10 = .ok (.iload_n 1, 1) := by decide +kernel
theorem dX0_cheapestHaulier_11 : decode cX0_cheapestHaulier 11 = .ok (.iload_n 3, 1) := by decide +kernel
theorem dX0_cheapestHaulier_12 : decode cX0_cheapestHaulier 12 = .ok (.invokevirtual 49, 3) := by decide +kernel
theorem dX0_cheapestHaulier_15 : decode cX0_cheapestHaulier 15 = .ok (.istore 4, 2) := by decide +kernel
theorem dX0_cheapestHaulier_17 : decode cX0_cheapestHaulier 17 = .ok (.iload 4, 2) := by decide +kernel
theorem dX0_cheapestHaulier_19 : decode cX0_cheapestHaulier 19 = .ok (.iconst (-1), 1) := by decide +kernel
theorem dX0_cheapestHaulier_20 : decode cX0_cheapestHaulier 20 = .ok (.if_icmp .eq 21, 3) := by decide +kernel
theorem dX0_cheapestHaulier_23 : decode cX0_cheapestHaulier 23 = .ok (.iload_n 2, 1) := by decide +kernel
theorem dX0_cheapestHaulier_24 : decode cX0_cheapestHaulier 24 = .ok (.iconst (-1), 1) := by decide +kernel
theorem dX0_cheapestHaulier_25 : decode cX0_cheapestHaulier 25 = .ok (.if_icmp .eq 14, 3) := by decide +kernel
theorem dX0_cheapestHaulier_28 : decode cX0_cheapestHaulier 28 = .ok (.iload 4, 2) := by decide +kernel
theorem dX0_cheapestHaulier_30 : decode cX0_cheapestHaulier 30 = .ok (.aload_n 0, 1) := by decide +kernel
theorem dX0_cheapestHaulier_31 : decode cX0_cheapestHaulier 31 = .ok (.iload_n 1, 1) := by decide +kernel
theorem dX0_cheapestHaulier_32 : decode cX0_cheapestHaulier 32 = .ok (.iload_n 2, 1) := by decide +kernel
theorem dX0_cheapestHaulier_33 : decode cX0_cheapestHaulier 33 = .ok (.invokevirtual 49, 3) := by decide +kernel
theorem dX0_cheapestHaulier_36 : decode cX0_cheapestHaulier 36 = .ok (.if_icmp .ge 5, 3) := by decide +kernel
theorem dX0_cheapestHaulier_39 : decode cX0_cheapestHaulier 39 = .ok (.iload_n 3, 1) := by decide +kernel
theorem dX0_cheapestHaulier_40 : decode cX0_cheapestHaulier 40 = .ok (.istore_n 2, 1) := by decide +kernel
theorem dX0_cheapestHaulier_41 : decode cX0_cheapestHaulier 41 = .ok (.iinc 3 1, 3) := by decide +kernel
theorem dX0_cheapestHaulier_44 : decode cX0_cheapestHaulier 44 = .ok (.goto (-40), 3) := by decide +kernel
theorem dX0_cheapestHaulier_47 : decode cX0_cheapestHaulier 47 = .ok (.iload_n 2, 1) := by decide +kernel
theorem dX0_cheapestHaulier_48 : decode cX0_cheapestHaulier 48 = .ok (.ireturn, 1) := by decide +kernel
theorem dX0_giveTo_0 : decode cX0_giveTo 0 = .ok (.aload_n 0, 1) := by decide +kernel
theorem dX0_giveTo_1 : decode cX0_giveTo 1 = .ok (.iload_n 1, 1) := by decide +kernel
theorem dX0_giveTo_2 : decode cX0_giveTo 2 = .ok (.iload_n 2, 1) := by decide +kernel
theorem dX0_giveTo_3 : decode cX0_giveTo 3 = .ok (.invokevirtual 45, 3) := by decide +kernel
theorem dX0_giveTo_6 : decode cX0_giveTo 6 = .ok (.ifCond .eq 22, 3) := by decide +kernel
theorem dX0_giveTo_9 : decode cX0_giveTo 9 = .ok (.aload_n 0, 1) := by decide +kernel
theorem dX0_giveTo_10 : decode cX0_giveTo 10 = .ok (.getfield 18, 3) := by decide +kernel
theorem dX0_giveTo_13 : decode cX0_giveTo 13 = .ok (.iload_n 1, 1) := by decide +kernel
theorem dX0_giveTo_14 : decode cX0_giveTo 14 = .ok (.iconst 1, 1) := by decide +kernel
theorem dX0_giveTo_15 : decode cX0_giveTo 15 = .ok (.iastore, 1) := by decide +kernel
theorem dX0_giveTo_16 : decode cX0_giveTo 16 = .ok (.aload_n 0, 1) := by decide +kernel
theorem dX0_giveTo_17 : decode cX0_giveTo 17 = .ok (.getfield 21, 3) := by decide +kernel
theorem dX0_giveTo_20 : decode cX0_giveTo 20 = .ok (.iload_n 1, 1) := by decide +kernel
theorem dX0_giveTo_21 : decode cX0_giveTo 21 = .ok (.aload_n 0, 1) := by decide +kernel
theorem dX0_giveTo_22 : decode cX0_giveTo 22 = .ok (.iload_n 1, 1) := by decide +kernel
theorem dX0_giveTo_23 : decode cX0_giveTo 23 = .ok (.iload_n 2, 1) := by decide +kernel
theorem dX0_giveTo_24 : decode cX0_giveTo 24 = .ok (.invokevirtual 49, 3) := by decide +kernel
theorem dX0_giveTo_27 : decode cX0_giveTo 27 = .ok (.iastore, 1) := by decide +kernel
theorem dX0_giveTo_28 : decode cX0_giveTo 28 = .ok (.return_, 1) := by decide +kernel
theorem dX0_finish_0 : decode cX0_finish 0 = .ok (.iload_n 1, 1) := by decide +kernel
theorem dX0_finish_1 : decode cX0_finish 1 = .ok (.ifCond .lt 11, 3) := by decide +kernel
theorem dX0_finish_4 : decode cX0_finish 4 = .ok (.iload_n 1, 1) := by decide +kernel
theorem dX0_finish_5 : decode cX0_finish 5 = .ok (.aload_n 0, 1) := by decide +kernel
theorem dX0_finish_6 : decode cX0_finish 6 = .ok (.getfield 27, 3) := by decide +kernel
theorem dX0_finish_9 : decode cX0_finish 9 = .ok (.if_icmp .lt 5, 3) := by decide +kernel
theorem dX0_finish_12 : decode cX0_finish 12 = .ok (.iconst 0, 1) := by decide +kernel
theorem dX0_finish_13 : decode cX0_finish 13 = .ok (.ireturn, 1) := by decide +kernel
theorem dX0_finish_14 : decode cX0_finish 14 = .ok (.aload_n 0, 1) := by decide +kernel
theorem dX0_finish_15 : decode cX0_finish 15 = .ok (.getfield 18, 3) := by decide +kernel
theorem dX0_finish_18 : decode cX0_finish 18 = .ok (.iload_n 1, 1) := by decide +kernel
theorem dX0_finish_19 : decode cX0_finish 19 = .ok (.iconst 2, 1) := by decide +kernel
theorem dX0_finish_20 : decode cX0_finish 20 = .ok (.iastore, 1) := by decide +kernel
theorem dX0_finish_21 : decode cX0_finish 21 = .ok (.aload_n 0, 1) := by decide +kernel
theorem dX0_finish_22 : decode cX0_finish 22 = .ok (.dup, 1) := by decide +kernel
theorem dX0_finish_23 : decode cX0_finish 23 = .ok (.getfield 31, 3) := by decide +kernel
theorem dX0_finish_26 : decode cX0_finish 26 = .ok (.aload_n 0, 1) := by decide +kernel
theorem dX0_finish_27 : decode cX0_finish 27 = .ok (.getfield 21, 3) := by decide +kernel
theorem dX0_finish_30 : decode cX0_finish 30 = .ok (.iload_n 1, 1) := by decide +kernel
theorem dX0_finish_31 : decode cX0_finish 31 = .ok (.iaload, 1) := by decide +kernel
theorem dX0_finish_32 : decode cX0_finish 32 = .ok (.iadd, 1) := by decide +kernel
theorem dX0_finish_33 : decode cX0_finish 33 = .ok (.putfield 31, 3) := by decide +kernel
theorem dX0_finish_36 : decode cX0_finish 36 = .ok (.aload_n 0, 1) := by decide +kernel
theorem dX0_finish_37 : decode cX0_finish 37 = .ok (.getfield 21, 3) := by decide +kernel
theorem dX0_finish_40 : decode cX0_finish 40 = .ok (.iload_n 1, 1) := by decide +kernel
theorem dX0_finish_41 : decode cX0_finish 41 = .ok (.iaload, 1) := by decide +kernel
theorem dX0_finish_42 : decode cX0_finish 42 = .ok (.ireturn, 1) := by decide +kernel
theorem dX0_endDay_0 : decode cX0_endDay 0 = .ok (.iconst 0, 1) := by decide +kernel
theorem dX0_endDay_1 : decode cX0_endDay 1 = .ok (.istore_n 2, 1) := by decide +kernel
theorem dX0_endDay_2 : decode cX0_endDay 2 = .ok (.iload_n 2, 1) := by decide +kernel
theorem dX0_endDay_3 : decode cX0_endDay 3 = .ok (.aload_n 0, 1) := by decide +kernel
theorem dX0_endDay_4 : decode cX0_endDay 4 = .ok (.getfield 27, 3) := by decide +kernel
theorem dX0_endDay_7 : decode cX0_endDay 7 = .ok (.if_icmp .ge 45, 3) := by decide +kernel
theorem dX0_endDay_10 : decode cX0_endDay 10 = .ok (.aload_n 0, 1) := by decide +kernel
theorem dX0_endDay_11 : decode cX0_endDay 11 = .ok (.iload_n 2, 1) := by decide +kernel
theorem dX0_endDay_12 : decode cX0_endDay 12 = .ok (.invokevirtual 41, 3) := by decide +kernel
theorem dX0_endDay_15 : decode cX0_endDay 15 = .ok (.ifCond .eq 31, 3) := by decide +kernel
theorem dX0_endDay_18 : decode cX0_endDay 18 = .ok (.aload_n 0, 1) := by decide +kernel
theorem dX0_endDay_19 : decode cX0_endDay 19 = .ok (.getfield 15, 3) := by decide +kernel
theorem dX0_endDay_22 : decode cX0_endDay 22 = .ok (.iload_n 2, 1) := by decide +kernel
theorem dX0_endDay_23 : decode cX0_endDay 23 = .ok (.iaload, 1) := by decide +kernel
theorem dX0_endDay_24 : decode cX0_endDay 24 = .ok (.iload_n 1, 1) := by decide +kernel
theorem dX0_endDay_25 : decode cX0_endDay 25 = .ok (.if_icmp .ne 21, 3) := by decide +kernel
theorem dX0_endDay_28 : decode cX0_endDay 28 = .ok (.aload_n 0, 1) := by decide +kernel
theorem dX0_endDay_29 : decode cX0_endDay 29 = .ok (.getfield 18, 3) := by decide +kernel
theorem dX0_endDay_32 : decode cX0_endDay 32 = .ok (.iload_n 2, 1) := by decide +kernel
theorem dX0_endDay_33 : decode cX0_endDay 33 = .ok (.iconst 3, 1) := by decide +kernel
theorem dX0_endDay_34 : decode cX0_endDay 34 = .ok (.iastore, 1) := by decide +kernel
theorem dX0_endDay_35 : decode cX0_endDay 35 = .ok (.aload_n 0, 1) := by decide +kernel
theorem dX0_endDay_36 : decode cX0_endDay 36 = .ok (.dup, 1) := by decide +kernel
theorem dX0_endDay_37 : decode cX0_endDay 37 = .ok (.getfield 34, 3) := by decide +kernel
theorem dX0_endDay_40 : decode cX0_endDay 40 = .ok (.bipush 50, 2) := by decide +kernel
theorem dX0_endDay_42 : decode cX0_endDay 42 = .ok (.iadd, 1) := by decide +kernel
theorem dX0_endDay_43 : decode cX0_endDay 43 = .ok (.putfield 34, 3) := by decide +kernel
theorem dX0_endDay_46 : decode cX0_endDay 46 = .ok (.iinc 2 1, 3) := by decide +kernel
theorem dX0_endDay_49 : decode cX0_endDay 49 = .ok (.goto (-47), 3) := by decide +kernel
theorem dX0_endDay_52 : decode cX0_endDay 52 = .ok (.return_, 1) := by decide +kernel
theorem dX1_init_0 : decode cX1_init 0 = .ok (.aload_n 0, 1) := by decide +kernel
theorem dX1_init_1 : decode cX1_init 1 = .ok (.invokespecial 3, 3) := by decide +kernel
theorem dX1_init_4 : decode cX1_init 4 = .ok (.aload_n 0, 1) := by decide +kernel
theorem dX1_init_5 : decode cX1_init 5 = .ok (.bipush 6, 2) := by decide +kernel
theorem dX1_init_7 : decode cX1_init 7 = .ok (.newarray .int, 2) := by decide +kernel
theorem dX1_init_9 : decode cX1_init 9 = .ok (.putfield 9, 3) := by decide +kernel
theorem dX1_init_12 : decode cX1_init 12 = .ok (.aload_n 0, 1) := by decide +kernel
theorem dX1_init_13 : decode cX1_init 13 = .ok (.bipush 30, 2) := by decide +kernel
theorem dX1_init_15 : decode cX1_init 15 = .ok (.newarray .int, 2) := by decide +kernel
theorem dX1_init_17 : decode cX1_init 17 = .ok (.putfield 15, 3) := by decide +kernel
theorem dX1_init_20 : decode cX1_init 20 = .ok (.aload_n 0, 1) := by decide +kernel
theorem dX1_init_21 : decode cX1_init 21 = .ok (.bipush 30, 2) := by decide +kernel
theorem dX1_init_23 : decode cX1_init 23 = .ok (.newarray .int, 2) := by decide +kernel
theorem dX1_init_25 : decode cX1_init 25 = .ok (.putfield 18, 3) := by decide +kernel
theorem dX1_init_28 : decode cX1_init 28 = .ok (.return_, 1) := by decide +kernel
theorem dX1_copyFrom_0 : decode cX1_copyFrom 0 = .ok (.aload_n 1, 1) := by decide +kernel
theorem dX1_copyFrom_1 : decode cX1_copyFrom 1 = .ok (.getfield 9, 3) := by decide +kernel
theorem dX1_copyFrom_4 : decode cX1_copyFrom 4 = .ok (.iconst 0, 1) := by decide +kernel
theorem dX1_copyFrom_5 : decode cX1_copyFrom 5 = .ok (.aload_n 0, 1) := by decide +kernel
theorem dX1_copyFrom_6 : decode cX1_copyFrom 6 = .ok (.getfield 9, 3) := by decide +kernel
theorem dX1_copyFrom_9 : decode cX1_copyFrom 9 = .ok (.iconst 0, 1) := by decide +kernel
theorem dX1_copyFrom_10 : decode cX1_copyFrom 10 = .ok (.bipush 6, 2) := by decide +kernel
theorem dX1_copyFrom_12 : decode cX1_copyFrom 12 = .ok (.invokestatic 21, 3) := by decide +kernel
theorem dX1_copyFrom_15 : decode cX1_copyFrom 15 = .ok (.aload_n 1, 1) := by decide +kernel
theorem dX1_copyFrom_16 : decode cX1_copyFrom 16 = .ok (.getfield 15, 3) := by decide +kernel
theorem dX1_copyFrom_19 : decode cX1_copyFrom 19 = .ok (.iconst 0, 1) := by decide +kernel
theorem dX1_copyFrom_20 : decode cX1_copyFrom 20 = .ok (.aload_n 0, 1) := by decide +kernel
theorem dX1_copyFrom_21 : decode cX1_copyFrom 21 = .ok (.getfield 15, 3) := by decide +kernel
theorem dX1_copyFrom_24 : decode cX1_copyFrom 24 = .ok (.iconst 0, 1) := by decide +kernel
theorem dX1_copyFrom_25 : decode cX1_copyFrom 25 = .ok (.bipush 30, 2) := by decide +kernel
theorem dX1_copyFrom_27 : decode cX1_copyFrom 27 = .ok (.invokestatic 21, 3) := by decide +kernel
theorem dX1_copyFrom_30 : decode cX1_copyFrom 30 = .ok (.aload_n 1, 1) := by decide +kernel
theorem dX1_copyFrom_31 : decode cX1_copyFrom 31 = .ok (.getfield 18, 3) := by decide +kernel
theorem dX1_copyFrom_34 : decode cX1_copyFrom 34 = .ok (.iconst 0, 1) := by decide +kernel
theorem dX1_copyFrom_35 : decode cX1_copyFrom 35 = .ok (.aload_n 0, 1) := by decide +kernel
theorem dX1_copyFrom_36 : decode cX1_copyFrom 36 = .ok (.getfield 18, 3) := by decide +kernel
theorem dX1_copyFrom_39 : decode cX1_copyFrom 39 = .ok (.iconst 0, 1) := by decide +kernel
theorem dX1_copyFrom_40 : decode cX1_copyFrom 40 = .ok (.bipush 30, 2) := by decide +kernel
theorem dX1_copyFrom_42 : decode cX1_copyFrom 42 = .ok (.invokestatic 21, 3) := by decide +kernel
theorem dX1_copyFrom_45 : decode cX1_copyFrom 45 = .ok (.return_, 1) := by decide +kernel
theorem dX1_setWeight_0 : decode cX1_setWeight 0 = .ok (.iload_n 1, 1) := by decide +kernel
theorem dX1_setWeight_1 : decode cX1_setWeight 1 = .ok (.ifCond .lt 16, 3) := by decide +kernel
theorem dX1_setWeight_4 : decode cX1_setWeight 4 = .ok (.iload_n 1, 1) := by decide +kernel
theorem dX1_setWeight_5 : decode cX1_setWeight 5 = .ok (.bipush 30, 2) := by decide +kernel
theorem dX1_setWeight_7 : decode cX1_setWeight 7 = .ok (.if_icmp .ge 10, 3) := by decide +kernel
theorem dX1_setWeight_10 : decode cX1_setWeight 10 = .ok (.aload_n 0, 1) := by decide +kernel
theorem dX1_setWeight_11 : decode cX1_setWeight 11 = .ok (.getfield 18, 3) := by decide +kernel
theorem dX1_setWeight_14 : decode cX1_setWeight 14 = .ok (.iload_n 1, 1) := by decide +kernel
theorem dX1_setWeight_15 : decode cX1_setWeight 15 = .ok (.iload_n 2, 1) := by decide +kernel
theorem dX1_setWeight_16 : decode cX1_setWeight 16 = .ok (.iastore, 1) := by decide +kernel
theorem dX1_setWeight_17 : decode cX1_setWeight 17 = .ok (.return_, 1) := by decide +kernel
theorem dX1_weightOf_0 : decode cX1_weightOf 0 = .ok (.iload_n 1, 1) := by decide +kernel
theorem dX1_weightOf_1 : decode cX1_weightOf 1 = .ok (.ifCond .lt 18, 3) := by decide +kernel
theorem dX1_weightOf_4 : decode cX1_weightOf 4 = .ok (.iload_n 1, 1) := by decide +kernel
theorem dX1_weightOf_5 : decode cX1_weightOf 5 = .ok (.bipush 30, 2) := by decide +kernel
theorem dX1_weightOf_7 : decode cX1_weightOf 7 = .ok (.if_icmp .ge 12, 3) := by decide +kernel
theorem dX1_weightOf_10 : decode cX1_weightOf 10 = .ok (.aload_n 0, 1) := by decide +kernel
theorem dX1_weightOf_11 : decode cX1_weightOf 11 = .ok (.getfield 18, 3) := by decide +kernel
theorem dX1_weightOf_14 : decode cX1_weightOf 14 = .ok (.iload_n 1, 1) := by decide +kernel
theorem dX1_weightOf_15 : decode cX1_weightOf 15 = .ok (.iaload, 1) := by decide +kernel
theorem dX1_weightOf_16 : decode cX1_weightOf 16 = .ok (.goto 4, 3) := by decide +kernel
theorem dX1_weightOf_19 : decode cX1_weightOf 19 = .ok (.iconst (-1), 1) := by decide +kernel
theorem dX1_weightOf_20 : decode cX1_weightOf 20 = .ok (.ireturn, 1) := by decide +kernel
theorem dX1_heightOf_0 : decode cX1_heightOf 0 = .ok (.iload_n 1, 1) := by decide +kernel
theorem dX1_heightOf_1 : decode cX1_heightOf 1 = .ok (.ifCond .lt 18, 3) := by decide +kernel
theorem dX1_heightOf_4 : decode cX1_heightOf 4 = .ok (.iload_n 1, 1) := by decide +kernel
theorem dX1_heightOf_5 : decode cX1_heightOf 5 = .ok (.bipush 6, 2) := by decide +kernel
theorem dX1_heightOf_7 : decode cX1_heightOf 7 = .ok (.if_icmp .ge 12, 3) := by decide +kernel
theorem dX1_heightOf_10 : decode cX1_heightOf 10 = .ok (.aload_n 0, 1) := by decide +kernel
theorem dX1_heightOf_11 : decode cX1_heightOf 11 = .ok (.getfield 9, 3) := by decide +kernel
theorem dX1_heightOf_14 : decode cX1_heightOf 14 = .ok (.iload_n 1, 1) := by decide +kernel
theorem dX1_heightOf_15 : decode cX1_heightOf 15 = .ok (.iaload, 1) := by decide +kernel
theorem dX1_heightOf_16 : decode cX1_heightOf 16 = .ok (.goto 4, 3) := by decide +kernel
theorem dX1_heightOf_19 : decode cX1_heightOf 19 = .ok (.iconst 0, 1) := by decide +kernel
theorem dX1_heightOf_20 : decode cX1_heightOf 20 = .ok (.ireturn, 1) := by decide +kernel
theorem dX1_crateAt_0 : decode cX1_crateAt 0 = .ok (.iload_n 2, 1) := by decide +kernel
theorem dX1_crateAt_1 : decode cX1_crateAt 1 = .ok (.ifCond .lt 25, 3) := by decide +kernel
theorem dX1_crateAt_4 : decode cX1_crateAt 4 = .ok (.iload_n 2, 1) := by decide +kernel
theorem dX1_crateAt_5 : decode cX1_crateAt 5 = .ok (.aload_n 0, 1) := by decide +kernel
theorem dX1_crateAt_6 : decode cX1_crateAt 6 = .ok (.iload_n 1, 1) := by decide +kernel
theorem dX1_crateAt_7 : decode cX1_crateAt 7 = .ok (.invokevirtual 27, 3) := by decide +kernel
theorem dX1_crateAt_10 : decode cX1_crateAt 10 = .ok (.if_icmp .ge 16, 3) := by decide +kernel
theorem dX1_crateAt_13 : decode cX1_crateAt 13 = .ok (.aload_n 0, 1) := by decide +kernel
theorem dX1_crateAt_14 : decode cX1_crateAt 14 = .ok (.getfield 15, 3) := by decide +kernel
theorem dX1_crateAt_17 : decode cX1_crateAt 17 = .ok (.iload_n 1, 1) := by decide +kernel
theorem dX1_crateAt_18 : decode cX1_crateAt 18 = .ok (.iconst 5, 1) := by decide +kernel
theorem dX1_crateAt_19 : decode cX1_crateAt 19 = .ok (.imul, 1) := by decide +kernel
theorem dX1_crateAt_20 : decode cX1_crateAt 20 = .ok (.iload_n 2, 1) := by decide +kernel
theorem dX1_crateAt_21 : decode cX1_crateAt 21 = .ok (.iadd, 1) := by decide +kernel
theorem dX1_crateAt_22 : decode cX1_crateAt 22 = .ok (.iaload, 1) := by decide +kernel
theorem dX1_crateAt_23 : decode cX1_crateAt 23 = .ok (.goto 4, 3) := by decide +kernel
theorem dX1_crateAt_26 : decode cX1_crateAt 26 = .ok (.iconst (-1), 1) := by decide +kernel
theorem dX1_crateAt_27 : decode cX1_crateAt 27 = .ok (.ireturn, 1) := by decide +kernel
theorem dX1_topOf_0 : decode cX1_topOf 0 = .ok (.aload_n 0, 1) := by decide +kernel
theorem dX1_topOf_1 : decode cX1_topOf 1 = .ok (.iload_n 1, 1) := by decide +kernel
theorem dX1_topOf_2 : decode cX1_topOf 2 = .ok (.invokevirtual 27, 3) := by decide +kernel
theorem dX1_topOf_5 : decode cX1_topOf 5 = .ok (.istore_n 2, 1) := by decide +kernel
theorem dX1_topOf_6 : decode cX1_topOf 6 = .ok (.iload_n 2, 1) := by decide +kernel
theorem dX1_topOf_7 : decode cX1_topOf 7 = .ok (.ifCond .le 18, 3) := by decide +kernel
theorem dX1_topOf_10 : decode cX1_topOf 10 = .ok (.aload_n 0, 1) := by decide +kernel
theorem dX1_topOf_11 : decode cX1_topOf 11 = .ok (.getfield 15, 3) := by decide +kernel
theorem dX1_topOf_14 : decode cX1_topOf 14 = .ok (.iload_n 1, 1) := by decide +kernel
theorem dX1_topOf_15 : decode cX1_topOf 15 = .ok (.iconst 5, 1) := by decide +kernel
theorem dX1_topOf_16 : decode cX1_topOf 16 = .ok (.imul, 1) := by decide +kernel
theorem dX1_topOf_17 : decode cX1_topOf 17 = .ok (.iload_n 2, 1) := by decide +kernel
theorem dX1_topOf_18 : decode cX1_topOf 18 = .ok (.iadd, 1) := by decide +kernel
theorem dX1_topOf_19 : decode cX1_topOf 19 = .ok (.iconst 1, 1) := by decide +kernel
theorem dX1_topOf_20 : decode cX1_topOf 20 = .ok (.isub, 1) := by decide +kernel
theorem dX1_topOf_21 : decode cX1_topOf 21 = .ok (.iaload, 1) := by decide +kernel
theorem dX1_topOf_22 : decode cX1_topOf 22 = .ok (.goto 4, 3) := by decide +kernel
theorem dX1_topOf_25 : decode cX1_topOf 25 = .ok (.iconst (-1), 1) := by decide +kernel
theorem dX1_topOf_26 : decode cX1_topOf 26 = .ok (.ireturn, 1) := by decide +kernel
theorem dX1_stackHolding_0 : decode cX1_stackHolding 0 = .ok (.iconst 0, 1) := by decide +kernel
theorem dX1_stackHolding_1 : decode cX1_stackHolding 1 = .ok (.istore_n 2, 1) := by decide +kernel
theorem dX1_stackHolding_2 : decode cX1_stackHolding 2 = .ok (.iload_n 2, 1) := by decide +kernel
theorem dX1_stackHolding_3 : decode cX1_stackHolding 3 = .ok (.bipush 6, 2) := by decide +kernel
theorem dX1_stackHolding_5 : decode cX1_stackHolding 5 = .ok (.if_icmp .ge 43, 3) := by decide +kernel
theorem dX1_stackHolding_8 : decode cX1_stackHolding 8 = .ok (.iconst 0, 1) := by decide +kernel
theorem dX1_stackHolding_9 : decode cX1_stackHolding 9 = .ok (.istore_n 3, 1) := by decide +kernel
theorem dX1_stackHolding_10 : decode cX1_stackHolding 10 = .ok (.iload_n 3, 1) := by decide +kernel
theorem dX1_stackHolding_11 : decode cX1_stackHolding 11 = .ok (.aload_n 0, 1) := by decide +kernel
theorem dX1_stackHolding_12 : decode cX1_stackHolding 12 = .ok (.getfield 9, 3) := by decide +kernel
theorem dX1_stackHolding_15 : decode cX1_stackHolding 15 = .ok (.iload_n 2, 1) := by decide +kernel
theorem dX1_stackHolding_16 : decode cX1_stackHolding 16 = .ok (.iaload, 1) := by decide +kernel
theorem dX1_stackHolding_17 : decode cX1_stackHolding 17 = .ok (.if_icmp .ge 25, 3) := by decide +kernel
theorem dX1_stackHolding_20 : decode cX1_stackHolding 20 = .ok (.aload_n 0, 1) := by decide +kernel
theorem dX1_stackHolding_21 : decode cX1_stackHolding 21 = .ok (.getfield 15, 3) := by decide +kernel
theorem dX1_stackHolding_24 : decode cX1_stackHolding 24 = .ok (.iload_n 2, 1) := by decide +kernel
theorem dX1_stackHolding_25 : decode cX1_stackHolding 25 = .ok (.iconst 5, 1) := by decide +kernel
theorem dX1_stackHolding_26 : decode cX1_stackHolding 26 = .ok (.imul, 1) := by decide +kernel
theorem dX1_stackHolding_27 : decode cX1_stackHolding 27 = .ok (.iload_n 3, 1) := by decide +kernel
theorem dX1_stackHolding_28 : decode cX1_stackHolding 28 = .ok (.iadd, 1) := by decide +kernel
theorem dX1_stackHolding_29 : decode cX1_stackHolding 29 = .ok (.iaload, 1) := by decide +kernel
theorem dX1_stackHolding_30 : decode cX1_stackHolding 30 = .ok (.iload_n 1, 1) := by decide +kernel
theorem dX1_stackHolding_31 : decode cX1_stackHolding 31 = .ok (.if_icmp .ne 5, 3) := by decide +kernel
theorem dX1_stackHolding_34 : decode cX1_stackHolding 34 = .ok (.iload_n 2, 1) := by decide +kernel
theorem dX1_stackHolding_35 : decode cX1_stackHolding 35 = .ok (.ireturn, 1) := by decide +kernel
theorem dX1_stackHolding_36 : decode cX1_stackHolding 36 = .ok (.iinc 3 1, 3) := by decide +kernel
theorem dX1_stackHolding_39 : decode cX1_stackHolding 39 = .ok (.goto (-29), 3) := by decide +kernel
theorem dX1_stackHolding_42 : decode cX1_stackHolding 42 = .ok (.iinc 2 1, 3) := by decide +kernel
theorem dX1_stackHolding_45 : decode cX1_stackHolding 45 = .ok (.goto (-43), 3) := by decide +kernel
theorem dX1_stackHolding_48 : decode cX1_stackHolding 48 = .ok (.iconst (-1), 1) := by decide +kernel
theorem dX1_stackHolding_49 : decode cX1_stackHolding 49 = .ok (.ireturn, 1) := by decide +kernel
theorem dX1_canTake_0 : decode cX1_canTake 0 = .ok (.aload_n 0, 1) := by decide +kernel
theorem dX1_canTake_1 : decode cX1_canTake 1 = .ok (.iload_n 1, 1) := by decide +kernel
theorem dX1_canTake_2 : decode cX1_canTake 2 = .ok (.invokevirtual 27, 3) := by decide +kernel
theorem dX1_canTake_5 : decode cX1_canTake 5 = .ok (.istore 4, 2) := by decide +kernel
theorem dX1_canTake_7 : decode cX1_canTake 7 = .ok (.iload 4, 2) := by decide +kernel
theorem dX1_canTake_9 : decode cX1_canTake 9 = .ok (.iload_n 3, 1) := by decide +kernel
theorem dX1_canTake_10 : decode cX1_canTake 10 = .ok (.if_icmp .ge 25, 3) := by decide +kernel
theorem dX1_canTake_13 : decode cX1_canTake 13 = .ok (.iload 4, 2) := by decide +kernel
theorem dX1_canTake_15 : decode cX1_canTake 15 = .ok (.ifCond .eq 16, 3) := by decide +kernel
theorem dX1_canTake_18 : decode cX1_canTake 18 = .ok (.aload_n 0, 1) := by decide +kernel
theorem dX1_canTake_19 : decode cX1_canTake 19 = .ok (.aload_n 0, 1) := by decide +kernel
theorem dX1_canTake_20 : decode cX1_canTake 20 = .ok (.iload_n 1, 1) := by decide +kernel
theorem dX1_canTake_21 : decode cX1_canTake 21 = .ok (.invokevirtual 31, 3) := by decide +kernel
theorem dX1_canTake_24 : decode cX1_canTake 24 = .ok (.invokevirtual 34, 3) := by decide +kernel
theorem dX1_canTake_27 : decode cX1_canTake 27 = .ok (.iload_n 2, 1) := by decide +kernel
theorem dX1_canTake_28 : decode cX1_canTake 28 = .ok (.if_icmp .lt 7, 3) := by decide +kernel
theorem dX1_canTake_31 : decode cX1_canTake 31 = .ok (.iconst 1, 1) := by decide +kernel
theorem dX1_canTake_32 : decode cX1_canTake 32 = .ok (.goto 4, 3) := by decide +kernel
theorem dX1_canTake_35 : decode cX1_canTake 35 = .ok (.iconst 0, 1) := by decide +kernel
theorem dX1_canTake_36 : decode cX1_canTake 36 = .ok (.ireturn, 1) := by decide +kernel
theorem dX1_put_0 : decode cX1_put 0 = .ok (.aload_n 0, 1) := by decide +kernel
theorem dX1_put_1 : decode cX1_put 1 = .ok (.iload_n 1, 1) := by decide +kernel
theorem dX1_put_2 : decode cX1_put 2 = .ok (.invokevirtual 27, 3) := by decide +kernel
theorem dX1_put_5 : decode cX1_put 5 = .ok (.istore_n 3, 1) := by decide +kernel
theorem dX1_put_6 : decode cX1_put 6 = .ok (.iload_n 1, 1) := by decide +kernel
theorem dX1_put_7 : decode cX1_put 7 = .ok (.ifCond .lt 34, 3) := by decide +kernel
theorem dX1_put_10 : decode cX1_put 10 = .ok (.iload_n 1, 1) := by decide +kernel
theorem dX1_put_11 : decode cX1_put 11 = .ok (.bipush 6, 2) := by decide +kernel
theorem dX1_put_13 : decode cX1_put 13 = .ok (.if_icmp .ge 28, 3) := by decide +kernel
theorem dX1_put_16 : decode cX1_put 16 = .ok (.iload_n 3, 1) := by decide +kernel
theorem dX1_put_17 : decode cX1_put 17 = .ok (.iconst 5, 1) := by decide +kernel
theorem dX1_put_18 : decode cX1_put 18 = .ok (.if_icmp .ge 23, 3) := by decide +kernel
theorem dX1_put_21 : decode cX1_put 21 = .ok (.aload_n 0, 1) := by decide +kernel
theorem dX1_put_22 : decode cX1_put 22 = .ok (.getfield 15, 3) := by decide +kernel
theorem dX1_put_25 : decode cX1_put 25 = .ok (.iload_n 1, 1) := by decide +kernel
theorem dX1_put_26 : decode cX1_put 26 = .ok (.iconst 5, 1) := by decide +kernel
theorem dX1_put_27 : decode cX1_put 27 = .ok (.imul, 1) := by decide +kernel
theorem dX1_put_28 : decode cX1_put 28 = .ok (.iload_n 3, 1) := by decide +kernel
theorem dX1_put_29 : decode cX1_put 29 = .ok (.iadd, 1) := by decide +kernel
theorem dX1_put_30 : decode cX1_put 30 = .ok (.iload_n 2, 1) := by decide +kernel
theorem dX1_put_31 : decode cX1_put 31 = .ok (.iastore, 1) := by decide +kernel
theorem dX1_put_32 : decode cX1_put 32 = .ok (.aload_n 0, 1) := by decide +kernel
theorem dX1_put_33 : decode cX1_put 33 = .ok (.getfield 9, 3) := by decide +kernel
theorem dX1_put_36 : decode cX1_put 36 = .ok (.iload_n 1, 1) := by decide +kernel
theorem dX1_put_37 : decode cX1_put 37 = .ok (.iload_n 3, 1) := by decide +kernel
theorem dX1_put_38 : decode cX1_put 38 = .ok (.iconst 1, 1) := by decide +kernel
theorem dX1_put_39 : decode cX1_put 39 = .ok (.iadd, 1) := by decide +kernel
theorem dX1_put_40 : decode cX1_put 40 = .ok (.iastore, 1) := by decide +kernel
theorem dX1_put_41 : decode cX1_put 41 = .ok (.return_, 1) := by decide +kernel
theorem dX1_takeTop_0 : decode cX1_takeTop 0 = .ok (.aload_n 0, 1) := by decide +kernel
theorem dX1_takeTop_1 : decode cX1_takeTop 1 = .ok (.iload_n 1, 1) := by decide +kernel
theorem dX1_takeTop_2 : decode cX1_takeTop 2 = .ok (.invokevirtual 31, 3) := by decide +kernel
theorem dX1_takeTop_5 : decode cX1_takeTop 5 = .ok (.istore_n 2, 1) := by decide +kernel
theorem dX1_takeTop_6 : decode cX1_takeTop 6 = .ok (.iload_n 2, 1) := by decide +kernel
theorem dX1_takeTop_7 : decode cX1_takeTop 7 = .ok (.iconst (-1), 1) := by decide +kernel
theorem dX1_takeTop_8 : decode cX1_takeTop 8 = .ok (.if_icmp .eq 13, 3) := by decide +kernel
theorem dX1_takeTop_11 : decode cX1_takeTop 11 = .ok (.aload_n 0, 1) := by decide +kernel
theorem dX1_takeTop_12 : decode cX1_takeTop 12 = .ok (.getfield 9, 3) := by decide +kernel
theorem dX1_takeTop_15 : decode cX1_takeTop 15 = .ok (.iload_n 1, 1) := by decide +kernel
theorem dX1_takeTop_16 : decode cX1_takeTop 16 = .ok (.dup2, 1) := by decide +kernel
theorem dX1_takeTop_17 : decode cX1_takeTop 17 = .ok (.iaload, 1) := by decide +kernel
theorem dX1_takeTop_18 : decode cX1_takeTop 18 = .ok (.iconst 1, 1) := by decide +kernel
theorem dX1_takeTop_19 : decode cX1_takeTop 19 = .ok (.isub, 1) := by decide +kernel
theorem dX1_takeTop_20 : decode cX1_takeTop 20 = .ok (.iastore, 1) := by decide +kernel
theorem dX1_takeTop_21 : decode cX1_takeTop 21 = .ok (.iload_n 2, 1) := by decide +kernel
theorem dX1_takeTop_22 : decode cX1_takeTop 22 = .ok (.ireturn, 1) := by decide +kernel
theorem dX1_digOut_0 : decode cX1_digOut 0 = .ok (.aload_n 0, 1) := by decide +kernel
theorem dX1_digOut_1 : decode cX1_digOut 1 = .ok (.iload_n 1, 1) := by decide +kernel
theorem dX1_digOut_2 : decode cX1_digOut 2 = .ok (.invokevirtual 37, 3) := by decide +kernel
theorem dX1_digOut_5 : decode cX1_digOut 5 = .ok (.istore_n 3, 1) := by decide +kernel
theorem dX1_digOut_6 : decode cX1_digOut 6 = .ok (.iload_n 3, 1) := by decide +kernel
theorem dX1_digOut_7 : decode cX1_digOut 7 = .ok (.iconst (-1), 1) := by decide +kernel
theorem dX1_digOut_8 : decode cX1_digOut 8 = .ok (.if_icmp .ne 5, 3) := by decide +kernel
theorem dX1_digOut_11 : decode cX1_digOut 11 = .ok (.iconst (-1), 1) := by decide +kernel
theorem dX1_digOut_12 : decode cX1_digOut 12 = .ok (.ireturn, 1) := by decide +kernel
theorem dX1_digOut_13 : decode cX1_digOut 13 = .ok (.iconst 1, 1) := by decide +kernel
theorem dX1_digOut_14 : decode cX1_digOut 14 = .ok (.istore 4, 2) := by decide +kernel
theorem dX1_digOut_16 : decode cX1_digOut 16 = .ok (.iload 4, 2) := by decide +kernel
theorem dX1_digOut_18 : decode cX1_digOut 18 = .ok (.iconst 5, 1) := by decide +kernel
theorem dX1_digOut_19 : decode cX1_digOut 19 = .ok (.if_icmp .gt 55, 3) := by decide +kernel
theorem dX1_digOut_22 : decode cX1_digOut 22 = .ok (.aload_n 0, 1) := by decide +kernel
theorem dX1_digOut_23 : decode cX1_digOut 23 = .ok (.iload_n 3, 1) := by decide +kernel
theorem dX1_digOut_24 : decode cX1_digOut 24 = .ok (.invokevirtual 40, 3) := by decide +kernel
theorem dX1_digOut_27 : decode cX1_digOut 27 = .ok (.istore 5, 2) := by decide +kernel
theorem dX1_digOut_29 : decode cX1_digOut 29 = .ok (.iload 5, 2) := by decide +kernel
theorem dX1_digOut_31 : decode cX1_digOut 31 = .ok (.iload_n 1, 1) := by decide +kernel
theorem dX1_digOut_32 : decode cX1_digOut 32 = .ok (.if_icmp .ne 6, 3) := by decide +kernel
theorem dX1_digOut_35 : decode cX1_digOut 35 = .ok (.iload 4, 2) := by decide +kernel
theorem dX1_digOut_37 : decode cX1_digOut 37 = .ok (.ireturn, 1) := by decide +kernel
theorem dX1_digOut_38 : decode cX1_digOut 38 = .ok (.aload_n 0, 1) := by decide +kernel
theorem dX1_digOut_39 : decode cX1_digOut 39 = .ok (.aload_n 0, 1) := by decide +kernel
theorem dX1_digOut_40 : decode cX1_digOut 40 = .ok (.iload 5, 2) := by decide +kernel
theorem dX1_digOut_42 : decode cX1_digOut 42 = .ok (.invokevirtual 34, 3) := by decide +kernel
theorem dX1_digOut_45 : decode cX1_digOut 45 = .ok (.iload_n 3, 1) := by decide +kernel
theorem dX1_digOut_46 : decode cX1_digOut 46 = .ok (.iload_n 2, 1) := by decide +kernel
theorem dX1_digOut_47 : decode cX1_digOut 47 = .ok (.invokevirtual 43, 3) := by decide +kernel
theorem dX1_digOut_50 : decode cX1_digOut 50 = .ok (.istore 6, 2) := by decide +kernel
theorem dX1_digOut_52 : decode cX1_digOut 52 = .ok (.iload 6, 2) := by decide +kernel
theorem dX1_digOut_54 : decode cX1_digOut 54 = .ok (.iconst (-1), 1) := by decide +kernel
theorem dX1_digOut_55 : decode cX1_digOut 55 = .ok (.if_icmp .ne 5, 3) := by decide +kernel
theorem dX1_digOut_58 : decode cX1_digOut 58 = .ok (.iconst (-1), 1) := by decide +kernel
theorem dX1_digOut_59 : decode cX1_digOut 59 = .ok (.ireturn, 1) := by decide +kernel
theorem dX1_digOut_60 : decode cX1_digOut 60 = .ok (.aload_n 0, 1) := by decide +kernel
theorem dX1_digOut_61 : decode cX1_digOut 61 = .ok (.iload 6, 2) := by decide +kernel
theorem dX1_digOut_63 : decode cX1_digOut 63 = .ok (.iload 5, 2) := by decide +kernel
theorem dX1_digOut_65 : decode cX1_digOut 65 = .ok (.invokevirtual 47, 3) := by decide +kernel
theorem dX1_digOut_68 : decode cX1_digOut 68 = .ok (.iinc 4 1, 3) := by decide +kernel
theorem dX1_digOut_71 : decode cX1_digOut 71 = .ok (.goto (-55), 3) := by decide +kernel
theorem dX1_digOut_74 : decode cX1_digOut 74 = .ok (.iconst (-1), 1) := by decide +kernel
theorem dX1_digOut_75 : decode cX1_digOut 75 = .ok (.ireturn, 1) := by decide +kernel
theorem dX1_targetFor_0 : decode cX1_targetFor 0 = .ok (.iconst (-1), 1) := by decide +kernel
theorem dX1_targetFor_1 : decode cX1_targetFor 1 = .ok (.istore 4, 2) := by decide +kernel
theorem dX1_targetFor_3 : decode cX1_targetFor 3 = .ok (.iconst 0, 1) := by decide +kernel
theorem dX1_targetFor_4 : decode cX1_targetFor 4 = .ok (.istore 5, 2) := by decide +kernel
theorem dX1_targetFor_6 : decode cX1_targetFor 6 = .ok (.iload 5, 2) := by decide +kernel
theorem dX1_targetFor_8 : decode cX1_targetFor 8 = .ok (.bipush 6, 2) := by decide +kernel
theorem dX1_targetFor_10 : decode cX1_targetFor 10 = .ok (.if_icmp .ge 51, 3) := by decide +kernel
theorem dX1_targetFor_13 : decode cX1_targetFor 13 = .ok (.iload 5, 2) := by decide +kernel
theorem dX1_targetFor_15 : decode cX1_targetFor 15 = .ok (.iload_n 2, 1) := by decide +kernel
theorem dX1_targetFor_16 : decode cX1_targetFor 16 = .ok (.if_icmp .eq 39, 3) := by decide +kernel
theorem dX1_targetFor_19 : decode cX1_targetFor 19 = .ok (.aload_n 0, 1) := by decide +kernel
theorem dX1_targetFor_20 : decode cX1_targetFor 20 = .ok (.iload 5, 2) := by decide +kernel
theorem dX1_targetFor_22 : decode cX1_targetFor 22 = .ok (.iload_n 1, 1) := by decide +kernel
theorem dX1_targetFor_23 : decode cX1_targetFor 23 = .ok (.iload_n 3, 1) := by decide +kernel
theorem dX1_targetFor_24 : decode cX1_targetFor 24 = .ok (.invokevirtual 51, 3) := by decide +kernel
theorem dX1_targetFor_27 : decode cX1_targetFor 27 = .ok (.ifCond .eq 28, 3) := by decide +kernel
theorem dX1_targetFor_30 : decode cX1_targetFor 30 = .ok (.iload 4, 2) := by decide +kernel
theorem dX1_targetFor_32 : decode cX1_targetFor 32 = .ok (.iconst (-1), 1) := by decide +kernel
theorem dX1_targetFor_33 : decode cX1_targetFor 33 = .ok (.if_icmp .eq 18, 3) := by decide +kernel
theorem dX1_targetFor_36 : decode cX1_targetFor 36 = .ok (.aload_n 0, 1) := by decide +kernel
theorem dX1_targetFor_37 : decode cX1_targetFor 37 = .ok (.iload 5, 2) := by decide +kernel
theorem dX1_targetFor_39 : decode cX1_targetFor 39 = .ok (.invokevirtual 27, 3) := by decide +kernel
theorem dX1_targetFor_42 : decode cX1_targetFor 42 = .ok (.aload_n 0, 1) := by decide +kernel
theorem dX1_targetFor_43 : decode cX1_targetFor 43 = .ok (.iload 4, 2) := by decide +kernel
theorem dX1_targetFor_45 : decode cX1_targetFor 45 = .ok (.invokevirtual 27, 3) := by decide +kernel
theorem dX1_targetFor_48 : decode cX1_targetFor 48 = .ok (.if_icmp .ge 7, 3) := by decide +kernel
theorem dX1_targetFor_51 : decode cX1_targetFor 51 = .ok (.iload 5, 2) := by decide +kernel
theorem dX1_targetFor_53 : decode cX1_targetFor 53 = .ok (.istore 4, 2) := by decide +kernel
theorem dX1_targetFor_55 : decode cX1_targetFor 55 = .ok (.iinc 5 1, 3) := by decide +kernel
theorem dX1_targetFor_58 : decode cX1_targetFor 58 = .ok (.goto (-52), 3) := by decide +kernel
theorem dX1_targetFor_61 : decode cX1_targetFor 61 = .ok (.iload 4, 2) := by decide +kernel
theorem dX1_targetFor_63 : decode cX1_targetFor 63 = .ok (.ireturn, 1) := by decide +kernel
theorem dX1_cratesAbove_0 : decode cX1_cratesAbove 0 = .ok (.iconst 0, 1) := by decide +kernel
theorem dX1_cratesAbove_1 : decode cX1_cratesAbove 1 = .ok (.istore_n 2, 1) := by decide +kernel
theorem dX1_cratesAbove_2 : decode cX1_cratesAbove 2 = .ok (.iconst 0, 1) := by decide +kernel
theorem dX1_cratesAbove_3 : decode cX1_cratesAbove 3 = .ok (.istore_n 3, 1) := by decide +kernel
theorem dX1_cratesAbove_4 : decode cX1_cratesAbove 4 = .ok (.iload_n 3, 1) := by decide +kernel
theorem dX1_cratesAbove_5 : decode cX1_cratesAbove 5 = .ok (.bipush 6, 2) := by decide +kernel
theorem dX1_cratesAbove_7 : decode cX1_cratesAbove 7 = .ok (.if_icmp .ge 24, 3) := by decide +kernel
theorem dX1_cratesAbove_10 : decode cX1_cratesAbove 10 = .ok (.iload_n 2, 1) := by decide +kernel
theorem dX1_cratesAbove_11 : decode cX1_cratesAbove 11 = .ok (.iconst 0, 1) := by decide +kernel
theorem dX1_cratesAbove_12 : decode cX1_cratesAbove 12 = .ok (.aload_n 0, 1) := by decide +kernel
theorem dX1_cratesAbove_13 : decode cX1_cratesAbove 13 = .ok (.getfield 9, 3) := by decide +kernel
theorem dX1_cratesAbove_16 : decode cX1_cratesAbove 16 = .ok (.iload_n 3, 1) := by decide +kernel
theorem dX1_cratesAbove_17 : decode cX1_cratesAbove 17 = .ok (.iaload, 1) := by decide +kernel
theorem dX1_cratesAbove_18 : decode cX1_cratesAbove 18 = .ok (.iload_n 1, 1) := by decide +kernel
theorem dX1_cratesAbove_19 : decode cX1_cratesAbove 19 = .ok (.isub, 1) := by decide +kernel
theorem dX1_cratesAbove_20 : decode cX1_cratesAbove 20 = .ok (.invokestatic 55, 3) := by decide +kernel
theorem dX1_cratesAbove_23 : decode cX1_cratesAbove 23 = .ok (.iadd, 1) := by decide +kernel
theorem dX1_cratesAbove_24 : decode cX1_cratesAbove 24 = .ok (.istore_n 2, 1) := by decide +kernel
theorem dX1_cratesAbove_25 : decode cX1_cratesAbove 25 = .ok (.iinc 3 1, 3) := by decide +kernel
theorem dX1_cratesAbove_28 : decode cX1_cratesAbove 28 = .ok (.goto (-24), 3) := by decide +kernel
theorem dX1_cratesAbove_31 : decode cX1_cratesAbove 31 = .ok (.iload_n 2, 1) := by decide +kernel
theorem dX1_cratesAbove_32 : decode cX1_cratesAbove 32 = .ok (.ireturn, 1) := by decide +kernel
theorem dX1_feeOfOneDay_0 : decode cX1_feeOfOneDay 0 = .ok (.iconst 0, 1) := by decide +kernel
theorem dX1_feeOfOneDay_1 : decode cX1_feeOfOneDay 1 = .ok (.istore_n 1, 1) := by decide +kernel
theorem dX1_feeOfOneDay_2 : decode cX1_feeOfOneDay 2 = .ok (.iconst 0, 1) := by decide +kernel
theorem dX1_feeOfOneDay_3 : decode cX1_feeOfOneDay 3 = .ok (.istore_n 2, 1) := by decide +kernel
theorem dX1_feeOfOneDay_4 : decode cX1_feeOfOneDay 4 = .ok (.iload_n 2, 1) := by decide +kernel
theorem dX1_feeOfOneDay_5 : decode cX1_feeOfOneDay 5 = .ok (.bipush 6, 2) := by decide +kernel
theorem dX1_feeOfOneDay_7 : decode cX1_feeOfOneDay 7 = .ok (.if_icmp .ge 29, 3) := by decide +kernel
theorem dX1_feeOfOneDay_10 : decode cX1_feeOfOneDay 10 = .ok (.iload_n 1, 1) := by decide +kernel
theorem dX1_feeOfOneDay_11 : decode cX1_feeOfOneDay 11 = .ok (.aload_n 0, 1) := by decide +kernel
theorem dX1_feeOfOneDay_12 : decode cX1_feeOfOneDay 12 = .ok (.getfield 9, 3) := by decide +kernel
theorem dX1_feeOfOneDay_15 : decode cX1_feeOfOneDay 15 = .ok (.iload_n 2, 1) := by decide +kernel
theorem dX1_feeOfOneDay_16 : decode cX1_feeOfOneDay 16 = .ok (.iaload, 1) := by decide +kernel
theorem dX1_feeOfOneDay_17 : decode cX1_feeOfOneDay 17 = .ok (.aload_n 0, 1) := by decide +kernel
theorem dX1_feeOfOneDay_18 : decode cX1_feeOfOneDay 18 = .ok (.getfield 9, 3) := by decide +kernel
theorem dX1_feeOfOneDay_21 : decode cX1_feeOfOneDay 21 = .ok (.iload_n 2, 1) := by decide +kernel
theorem dX1_feeOfOneDay_22 : decode cX1_feeOfOneDay 22 = .ok (.iaload, 1) := by decide +kernel
theorem dX1_feeOfOneDay_23 : decode cX1_feeOfOneDay 23 = .ok (.iconst 1, 1) := by decide +kernel
theorem dX1_feeOfOneDay_24 : decode cX1_feeOfOneDay 24 = .ok (.isub, 1) := by decide +kernel
theorem dX1_feeOfOneDay_25 : decode cX1_feeOfOneDay 25 = .ok (.imul, 1) := by decide +kernel
theorem dX1_feeOfOneDay_26 : decode cX1_feeOfOneDay 26 = .ok (.iconst 2, 1) := by decide +kernel
theorem dX1_feeOfOneDay_27 : decode cX1_feeOfOneDay 27 = .ok (.idiv, 1) := by decide +kernel
theorem dX1_feeOfOneDay_28 : decode cX1_feeOfOneDay 28 = .ok (.iadd, 1) := by decide +kernel
theorem dX1_feeOfOneDay_29 : decode cX1_feeOfOneDay 29 = .ok (.istore_n 1, 1) := by decide +kernel
theorem dX1_feeOfOneDay_30 : decode cX1_feeOfOneDay 30 = .ok (.iinc 2 1, 3) := by decide +kernel
theorem dX1_feeOfOneDay_33 : decode cX1_feeOfOneDay 33 = .ok (.goto (-29), 3) := by decide +kernel
theorem dX1_feeOfOneDay_36 : decode cX1_feeOfOneDay 36 = .ok (.iload_n 1, 1) := by decide +kernel
theorem dX1_feeOfOneDay_37 : decode cX1_feeOfOneDay 37 = .ok (.ireturn, 1) := by decide +kernel
theorem dX2_init_0 : decode cX2_init 0 = .ok (.aload_n 0, 1) := by decide +kernel
theorem dX2_init_1 : decode cX2_init 1 = .ok (.invokespecial 3, 3) := by decide +kernel
theorem dX2_init_4 : decode cX2_init 4 = .ok (.aload_n 0, 1) := by decide +kernel
theorem dX2_init_5 : decode cX2_init 5 = .ok (.bipush 32, 2) := by decide +kernel
theorem dX2_init_7 : decode cX2_init 7 = .ok (.newarray .int, 2) := by decide +kernel
theorem dX2_init_9 : decode cX2_init 9 = .ok (.putfield 9, 3) := by decide +kernel
theorem dX2_init_12 : decode cX2_init 12 = .ok (.aload_n 0, 1) := by decide +kernel
theorem dX2_init_13 : decode cX2_init 13 = .ok (.bipush 8, 2) := by decide +kernel
theorem dX2_init_15 : decode cX2_init 15 = .ok (.newarray .int, 2) := by decide +kernel
theorem dX2_init_17 : decode cX2_init 17 = .ok (.putfield 15, 3) := by decide +kernel
theorem dX2_init_20 : decode cX2_init 20 = .ok (.aload_n 0, 1) := by decide +kernel
theorem dX2_init_21 : decode cX2_init 21 = .ok (.bipush 8, 2) := by decide +kernel
theorem dX2_init_23 : decode cX2_init 23 = .ok (.newarray .boolean, 2) := by decide +kernel
theorem dX2_init_25 : decode cX2_init 25 = .ok (.putfield 18, 3) := by decide +kernel
theorem dX2_init_28 : decode cX2_init 28 = .ok (.aload_n 0, 1) := by decide +kernel
theorem dX2_init_29 : decode cX2_init 29 = .ok (.iconst 0, 1) := by decide +kernel
theorem dX2_init_30 : decode cX2_init 30 = .ok (.putfield 22, 3) := by decide +kernel
theorem dX2_init_33 : decode cX2_init 33 = .ok (.aload_n 0, 1) := by decide +kernel
theorem dX2_init_34 : decode cX2_init 34 = .ok (.iconst 0, 1) := by decide +kernel
theorem dX2_init_35 : decode cX2_init 35 = .ok (.putfield 26, 3) := by decide +kernel
theorem dX2_init_38 : decode cX2_init 38 = .ok (.return_, 1) := by decide +kernel
theorem dX2_number_0 : decode cX2_number 0 = .ok (.aload_n 0, 1) := by decide +kernel
theorem dX2_number_1 : decode cX2_number 1 = .ok (.getfield 22, 3) := by decide +kernel
theorem dX2_number_4 : decode cX2_number 4 = .ok (.ireturn, 1) := by decide +kernel
theorem dX2_isPaid_0 : decode cX2_isPaid 0 = .ok (.iload_n 1, 1) := by decide +kernel
theorem dX2_isPaid_1 : decode cX2_isPaid 1 = .ok (.ifCond .lt 24, 3) := by decide +kernel
theorem dX2_isPaid_4 : decode cX2_isPaid 4 = .ok (.iload_n 1, 1) := by decide +kernel
theorem dX2_isPaid_5 : decode cX2_isPaid 5 = .ok (.aload_n 0, 1) := by decide +kernel
theorem dX2_isPaid_6 : decode cX2_isPaid 6 = .ok (.getfield 22, 3) := by decide +kernel
theorem dX2_isPaid_9 : decode cX2_isPaid 9 = .ok (.if_icmp .ge 16, 3) := by decide +kernel
theorem dX2_isPaid_12 : decode cX2_isPaid 12 = .ok (.aload_n 0, 1) := by decide +kernel
theorem dX2_isPaid_13 : decode cX2_isPaid 13 = .ok (.getfield 18, 3) := by decide +kernel
theorem dX2_isPaid_16 : decode cX2_isPaid 16 = .ok (.iload_n 1, 1) := by decide +kernel
theorem dX2_isPaid_17 : decode cX2_isPaid 17 = .ok (.baload, 1) := by decide +kernel
theorem dX2_isPaid_18 : decode cX2_isPaid 18 = .ok (.ifCond .eq 7, 3) := by decide +kernel
theorem dX2_isPaid_21 : decode cX2_isPaid 21 = .ok (.iconst 1, 1) := by decide +kernel
theorem dX2_isPaid_22 : decode cX2_isPaid 22 = .ok (.goto 4, 3) := by decide +kernel
theorem dX2_isPaid_25 : decode cX2_isPaid 25 = .ok (.iconst 0, 1) := by decide +kernel
theorem dX2_isPaid_26 : decode cX2_isPaid 26 = .ok (.ireturn, 1) := by decide +kernel
theorem dX2_paidInAll_0 : decode cX2_paidInAll 0 = .ok (.aload_n 0, 1) := by decide +kernel
theorem dX2_paidInAll_1 : decode cX2_paidInAll 1 = .ok (.getfield 26, 3) := by decide +kernel
theorem dX2_paidInAll_4 : decode cX2_paidInAll 4 = .ok (.ireturn, 1) := by decide +kernel
theorem dX2_add_0 : decode cX2_add 0 = .ok (.aload_n 0, 1) := by decide +kernel
theorem dX2_add_1 : decode cX2_add 1 = .ok (.getfield 22, 3) := by decide +kernel
theorem dX2_add_4 : decode cX2_add 4 = .ok (.bipush 8, 2) := by decide +kernel
theorem dX2_add_6 : decode cX2_add 6 = .ok (.if_icmp .lt 5, 3) := by decide +kernel
theorem dX2_add_9 : decode cX2_add 9 = .ok (.iconst (-1), 1) := by decide +kernel
theorem dX2_add_10 : decode cX2_add 10 = .ok (.ireturn, 1) := by decide +kernel
theorem dX2_add_11 : decode cX2_add 11 = .ok (.aload_n 0, 1) := by decide +kernel
theorem dX2_add_12 : decode cX2_add 12 = .ok (.getfield 22, 3) := by decide +kernel
theorem dX2_add_15 : decode cX2_add 15 = .ok (.istore 5, 2) := by decide +kernel
theorem dX2_add_17 : decode cX2_add 17 = .ok (.aload_n 0, 1) := by decide +kernel
theorem dX2_add_18 : decode cX2_add 18 = .ok (.dup, 1) := by decide +kernel
theorem dX2_add_19 : decode cX2_add 19 = .ok (.getfield 22, 3) := by decide +kernel
theorem dX2_add_22 : decode cX2_add 22 = .ok (.iconst 1, 1) := by decide +kernel
theorem dX2_add_23 : decode cX2_add 23 = .ok (.iadd, 1) := by decide +kernel
theorem dX2_add_24 : decode cX2_add 24 = .ok (.putfield 22, 3) := by decide +kernel
theorem dX2_add_27 : decode cX2_add 27 = .ok (.iload 5, 2) := by decide +kernel
theorem dX2_add_29 : decode cX2_add 29 = .ok (.iconst 4, 1) := by decide +kernel
theorem dX2_add_30 : decode cX2_add 30 = .ok (.imul, 1) := by decide +kernel
theorem dX2_add_31 : decode cX2_add 31 = .ok (.istore 6, 2) := by decide +kernel
theorem dX2_add_33 : decode cX2_add 33 = .ok (.aload_n 0, 1) := by decide +kernel
theorem dX2_add_34 : decode cX2_add 34 = .ok (.getfield 9, 3) := by decide +kernel
theorem dX2_add_37 : decode cX2_add 37 = .ok (.iload 6, 2) := by decide +kernel
theorem dX2_add_39 : decode cX2_add 39 = .ok (.iload_n 1, 1) := by decide +kernel
theorem dX2_add_40 : decode cX2_add 40 = .ok (.iastore, 1) := by decide +kernel
theorem dX2_add_41 : decode cX2_add 41 = .ok (.aload_n 0, 1) := by decide +kernel
theorem dX2_add_42 : decode cX2_add 42 = .ok (.getfield 9, 3) := by decide +kernel
theorem dX2_add_45 : decode cX2_add 45 = .ok (.iload 6, 2) := by decide +kernel
theorem dX2_add_47 : decode cX2_add 47 = .ok (.iconst 1, 1) := by decide +kernel
theorem dX2_add_48 : decode cX2_add 48 = .ok (.iadd, 1) := by decide +kernel
theorem dX2_add_49 : decode cX2_add 49 = .ok (.iload_n 2, 1) := by decide +kernel
theorem dX2_add_50 : decode cX2_add 50 = .ok (.iastore, 1) := by decide +kernel
theorem dX2_add_51 : decode cX2_add 51 = .ok (.aload_n 0, 1) := by decide +kernel
theorem dX2_add_52 : decode cX2_add 52 = .ok (.getfield 9, 3) := by decide +kernel
theorem dX2_add_55 : decode cX2_add 55 = .ok (.iload 6, 2) := by decide +kernel
theorem dX2_add_57 : decode cX2_add 57 = .ok (.iconst 2, 1) := by decide +kernel
theorem dX2_add_58 : decode cX2_add 58 = .ok (.iadd, 1) := by decide +kernel
theorem dX2_add_59 : decode cX2_add 59 = .ok (.iload_n 3, 1) := by decide +kernel
theorem dX2_add_60 : decode cX2_add 60 = .ok (.iastore, 1) := by decide +kernel
theorem dX2_add_61 : decode cX2_add 61 = .ok (.aload_n 0, 1) := by decide +kernel
theorem dX2_add_62 : decode cX2_add 62 = .ok (.getfield 9, 3) := by decide +kernel
theorem dX2_add_65 : decode cX2_add 65 = .ok (.iload 6, 2) := by decide +kernel
theorem dX2_add_67 : decode cX2_add 67 = .ok (.iconst 3, 1) := by decide +kernel
theorem dX2_add_68 : decode cX2_add 68 = .ok (.iadd, 1) := by decide +kernel
theorem dX2_add_69 : decode cX2_add 69 = .ok (.iload 4, 2) := by decide +kernel
theorem dX2_add_71 : decode cX2_add 71 = .ok (.iastore, 1) := by decide +kernel
theorem dX2_add_72 : decode cX2_add 72 = .ok (.aload_n 0, 1) := by decide +kernel
theorem dX2_add_73 : decode cX2_add 73 = .ok (.getfield 15, 3) := by decide +kernel
theorem dX2_add_76 : decode cX2_add 76 = .ok (.iload 5, 2) := by decide +kernel
theorem dX2_add_78 : decode cX2_add 78 = .ok (.iload_n 3, 1) := by decide +kernel
theorem dX2_add_79 : decode cX2_add 79 = .ok (.iconst (-1), 1) := by decide +kernel
theorem dX2_add_80 : decode cX2_add 80 = .ok (.if_icmp .ne 7, 3) := by decide +kernel
theorem dX2_add_83 : decode cX2_add 83 = .ok (.iconst 2, 1) := by decide +kernel
theorem dX2_add_84 : decode cX2_add 84 = .ok (.goto 14, 3) := by decide +kernel
theorem dX2_add_87 : decode cX2_add 87 = .ok (.iload 4, 2) := by decide +kernel
theorem dX2_add_89 : decode cX2_add 89 = .ok (.iconst (-1), 1) := by decide +kernel
theorem dX2_add_90 : decode cX2_add 90 = .ok (.if_icmp .ne 7, 3) := by decide +kernel
theorem dX2_add_93 : decode cX2_add 93 = .ok (.iconst 3, 1) := by decide +kernel
theorem dX2_add_94 : decode cX2_add 94 = .ok (.goto 4, 3) := by decide +kernel
theorem dX2_add_97 : decode cX2_add 97 = .ok (.iconst 4, 1) := by decide +kernel
theorem dX2_add_98 : decode cX2_add 98 = .ok (.iastore, 1) := by decide +kernel
theorem dX2_add_99 : decode cX2_add 99 = .ok (.iload 5, 2) := by decide +kernel
theorem dX2_add_101 : decode cX2_add 101 = .ok (.ireturn, 1) := by decide +kernel
theorem dX2_payShown_0 : decode cX2_payShown 0 = .ok (.iconst 0, 1) := by decide +kernel
theorem dX2_payShown_1 : decode cX2_payShown 1 = .ok (.istore_n 3, 1) := by decide +kernel
theorem dX2_payShown_2 : decode cX2_payShown 2 = .ok (.iload_n 3, 1) := by decide +kernel
theorem dX2_payShown_3 : decode cX2_payShown 3 = .ok (.aload_n 0, 1) := by decide +kernel
theorem dX2_payShown_4 : decode cX2_payShown 4 = .ok (.getfield 22, 3) := by decide +kernel
theorem dX2_payShown_7 : decode cX2_payShown 7 = .ok (.if_icmp .ge 53, 3) := by decide +kernel
theorem dX2_payShown_10 : decode cX2_payShown 10 = .ok (.aload_n 0, 1) := by decide +kernel
theorem dX2_payShown_11 : decode cX2_payShown 11 = .ok (.getfield 18, 3) := by decide +kernel
theorem dX2_payShown_14 : decode cX2_payShown 14 = .ok (.iload_n 3, 1) := by decide +kernel
theorem dX2_payShown_15 : decode cX2_payShown 15 = .ok (.baload, 1) := by decide +kernel
theorem dX2_payShown_16 : decode cX2_payShown 16 = .ok (.ifCond .ne 38, 3) := by decide +kernel
theorem dX2_payShown_19 : decode cX2_payShown 19 = .ok (.aload_n 0, 1) := by decide +kernel
theorem dX2_payShown_20 : decode cX2_payShown 20 = .ok (.iload_n 3, 1) := by decide +kernel
theorem dX2_payShown_21 : decode cX2_payShown 21 = .ok (.aload_n 1, 1) := by decide +kernel
theorem dX2_payShown_22 : decode cX2_payShown 22 = .ok (.iload_n 2, 1) := by decide +kernel
theorem dX2_payShown_23 : decode cX2_payShown 23 = .ok (.invokevirtual 29, 3) := by decide +kernel
theorem dX2_payShown_26 : decode cX2_payShown 26 = .ok (.ifCond .eq 28, 3) := by decide +kernel
theorem dX2_payShown_29 : decode cX2_payShown 29 = .ok (.aload_n 0, 1) := by decide +kernel
theorem dX2_payShown_30 : decode cX2_payShown 30 = .ok (.getfield 18, 3) := by decide +kernel
theorem dX2_payShown_33 : decode cX2_payShown 33 = .ok (.iload_n 3, 1) := by decide +kernel
theorem dX2_payShown_34 : decode cX2_payShown 34 = .ok (.iconst 1, 1) := by decide +kernel
theorem dX2_payShown_35 : decode cX2_payShown 35 = .ok (.bastore, 1) := by decide +kernel
theorem dX2_payShown_36 : decode cX2_payShown 36 = .ok (.aload_n 0, 1) := by decide +kernel
theorem dX2_payShown_37 : decode cX2_payShown 37 = .ok (.dup, 1) := by decide +kernel
theorem dX2_payShown_38 : decode cX2_payShown 38 = .ok (.getfield 26, 3) := by decide +kernel
theorem dX2_payShown_41 : decode cX2_payShown 41 = .ok (.bipush 100, 2) := by decide +kernel
theorem dX2_payShown_43 : decode cX2_payShown 43 = .ok (.aload_n 0, 1) := by decide +kernel
theorem dX2_payShown_44 : decode cX2_payShown 44 = .ok (.getfield 15, 3) := by decide +kernel
theorem dX2_payShown_47 : decode cX2_payShown 47 = .ok (.iload_n 3, 1) := by decide +kernel
theorem dX2_payShown_48 : decode cX2_payShown 48 = .ok (.iaload, 1) := by decide +kernel
theorem dX2_payShown_49 : decode cX2_payShown 49 = .ok (.imul, 1) := by decide +kernel
theorem dX2_payShown_50 : decode cX2_payShown 50 = .ok (.iadd, 1) := by decide +kernel
theorem dX2_payShown_51 : decode cX2_payShown 51 = .ok (.putfield 26, 3) := by decide +kernel
theorem dX2_payShown_54 : decode cX2_payShown 54 = .ok (.iinc 3 1, 3) := by decide +kernel
theorem dX2_payShown_57 : decode cX2_payShown 57 = .ok (.goto (-55), 3) := by decide +kernel
theorem dX2_payShown_60 : decode cX2_payShown 60 = .ok (.return_, 1) := by decide +kernel
theorem dX2_isShown_0 : decode cX2_isShown 0 = .ok (.iload_n 3, 1) := by decide +kernel
theorem dX2_isShown_1 : decode cX2_isShown 1 = .ok (.aload_n 2, 1) := by decide +kernel
theorem dX2_isShown_2 : decode cX2_isShown 2 = .ok (.arraylength, 1) := by decide +kernel
theorem dX2_isShown_3 : decode cX2_isShown 3 = .ok (.invokestatic 33, 3) := by decide +kernel
theorem dX2_isShown_6 : decode cX2_isShown 6 = .ok (.aload_n 0, 1) := by decide +kernel
theorem dX2_isShown_7 : decode cX2_isShown 7 = .ok (.getfield 15, 3) := by decide +kernel
theorem dX2_isShown_10 : decode cX2_isShown 10 = .ok (.iload_n 1, 1) := by decide +kernel
theorem dX2_isShown_11 : decode cX2_isShown 11 = .ok (.iaload, 1) := by decide +kernel
theorem dX2_isShown_12 : decode cX2_isShown 12 = .ok (.isub, 1) := by decide +kernel
theorem dX2_isShown_13 : decode cX2_isShown 13 = .ok (.istore 4, 2) := by decide +kernel
theorem dX2_isShown_15 : decode cX2_isShown 15 = .ok (.iconst 0, 1) := by decide +kernel
theorem dX2_isShown_16 : decode cX2_isShown 16 = .ok (.istore 5, 2) := by decide +kernel
theorem dX2_isShown_18 : decode cX2_isShown 18 = .ok (.iload 5, 2) := by decide +kernel
theorem dX2_isShown_20 : decode cX2_isShown 20 = .ok (.iload 4, 2) := by decide +kernel
theorem dX2_isShown_22 : decode cX2_isShown 22 = .ok (.if_icmp .gt 22, 3) := by decide +kernel
theorem dX2_isShown_25 : decode cX2_isShown 25 = .ok (.aload_n 0, 1) := by decide +kernel
theorem dX2_isShown_26 : decode cX2_isShown 26 = .ok (.iload 5, 2) := by decide +kernel
theorem dX2_isShown_28 : decode cX2_isShown 28 = .ok (.iload_n 1, 1) := by decide +kernel
theorem dX2_isShown_29 : decode cX2_isShown 29 = .ok (.aload_n 2, 1) := by decide +kernel
theorem dX2_isShown_30 : decode cX2_isShown 30 = .ok (.invokevirtual 39, 3) := by decide +kernel
theorem dX2_isShown_33 : decode cX2_isShown 33 = .ok (.ifCond .eq 5, 3) := by decide +kernel
theorem dX2_isShown_36 : decode cX2_isShown 36 = .ok (.iconst 1, 1) := by decide +kernel
theorem dX2_isShown_37 : decode cX2_isShown 37 = .ok (.ireturn, 1) := by decide +kernel
theorem dX2_isShown_38 : decode cX2_isShown 38 = .ok (.iinc 5 1, 3) := by decide +kernel
theorem dX2_isShown_41 : decode cX2_isShown 41 = .ok (.goto (-23), 3) := by decide +kernel
theorem dX2_isShown_44 : decode cX2_isShown 44 = .ok (.iconst 0, 1) := by decide +kernel
theorem dX2_isShown_45 : decode cX2_isShown 45 = .ok (.ireturn, 1) := by decide +kernel
theorem dX2_isShownFrom_0 : decode cX2_isShownFrom 0 = .ok (.iconst 0, 1) := by decide +kernel
theorem dX2_isShownFrom_1 : decode cX2_isShownFrom 1 = .ok (.istore 4, 2) := by decide +kernel
theorem dX2_isShownFrom_3 : decode cX2_isShownFrom 3 = .ok (.iload 4, 2) := by decide +kernel
theorem dX2_isShownFrom_5 : decode cX2_isShownFrom 5 = .ok (.aload_n 0, 1) := by decide +kernel
theorem dX2_isShownFrom_6 : decode cX2_isShownFrom 6 = .ok (.getfield 15, 3) := by decide +kernel
theorem dX2_isShownFrom_9 : decode cX2_isShownFrom 9 = .ok (.iload_n 2, 1) := by decide +kernel
theorem dX2_isShownFrom_10 : decode cX2_isShownFrom 10 = .ok (.iaload, 1) := by decide +kernel
theorem dX2_isShownFrom_11 : decode cX2_isShownFrom 11 = .ok (.if_icmp .ge 31, 3) := by decide +kernel
theorem dX2_isShownFrom_14 : decode cX2_isShownFrom 14 = .ok (.aload_n 3, 1) := by decide +kernel
theorem dX2_isShownFrom_15 : decode cX2_isShownFrom 15 = .ok (.iload_n 1, 1) := by decide +kernel
theorem dX2_isShownFrom_16 : decode cX2_isShownFrom 16 = .ok (.iload 4, 2) := by decide +kernel
theorem dX2_isShownFrom_18 : decode cX2_isShownFrom 18 = .ok (.iadd, 1) := by decide +kernel
theorem dX2_isShownFrom_19 : decode cX2_isShownFrom 19 = .ok (.iaload, 1) := by decide +kernel
theorem dX2_isShownFrom_20 : decode cX2_isShownFrom 20 = .ok (.aload_n 0, 1) := by decide +kernel
theorem dX2_isShownFrom_21 : decode cX2_isShownFrom 21 = .ok (.getfield 9, 3) := by decide +kernel
theorem dX2_isShownFrom_24 : decode cX2_isShownFrom 24 = .ok (.iload_n 2, 1) := by decide +kernel
theorem dX2_isShownFrom_25 : decode cX2_isShownFrom 25 = .ok (.iconst 4, 1) := by decide +kernel
theorem dX2_isShownFrom_26 : decode cX2_isShownFrom 26 = .ok (.imul, 1) := by decide +kernel
theorem dX2_isShownFrom_27 : decode cX2_isShownFrom 27 = .ok (.iload 4, 2) := by decide +kernel
theorem dX2_isShownFrom_29 : decode cX2_isShownFrom 29 = .ok (.iadd, 1) := by decide +kernel
theorem dX2_isShownFrom_30 : decode cX2_isShownFrom 30 = .ok (.iaload, 1) := by decide +kernel
theorem dX2_isShownFrom_31 : decode cX2_isShownFrom 31 = .ok (.if_icmp .eq 5, 3) := by decide +kernel
theorem dX2_isShownFrom_34 : decode cX2_isShownFrom 34 = .ok (.iconst 0, 1) := by decide +kernel
theorem dX2_isShownFrom_35 : decode cX2_isShownFrom 35 = .ok (.ireturn, 1) := by decide +kernel
theorem dX2_isShownFrom_36 : decode cX2_isShownFrom 36 = .ok (.iinc 4 1, 3) := by decide +kernel
theorem dX2_isShownFrom_39 : decode cX2_isShownFrom 39 = .ok (.goto (-36), 3) := by decide +kernel
theorem dX2_isShownFrom_42 : decode cX2_isShownFrom 42 = .ok (.iconst 1, 1) := by decide +kernel
theorem dX2_isShownFrom_43 : decode cX2_isShownFrom 43 = .ok (.ireturn, 1) := by decide +kernel
theorem dX3_init_0 : decode cX3_init 0 = .ok (.aload_n 0, 1) := by decide +kernel
theorem dX3_init_1 : decode cX3_init 1 = .ok (.invokespecial 1, 3) := by decide +kernel
theorem dX3_init_4 : decode cX3_init 4 = .ok (.aload_n 0, 1) := by decide +kernel
theorem dX3_init_5 : decode cX3_init 5 = .ok (.new 7, 3) := by decide +kernel
theorem dX3_init_8 : decode cX3_init 8 = .ok (.dup, 1) := by decide +kernel
theorem dX3_init_9 : decode cX3_init 9 = .ok (.invokespecial 9, 3) := by decide +kernel
theorem dX3_init_12 : decode cX3_init 12 = .ok (.putfield 10, 3) := by decide +kernel
theorem dX3_init_15 : decode cX3_init 15 = .ok (.aload_n 0, 1) := by decide +kernel
theorem dX3_init_16 : decode cX3_init 16 = .ok (.new 7, 3) := by decide +kernel
theorem dX3_init_19 : decode cX3_init 19 = .ok (.dup, 1) := by decide +kernel
theorem dX3_init_20 : decode cX3_init 20 = .ok (.invokespecial 9, 3) := by decide +kernel
theorem dX3_init_23 : decode cX3_init 23 = .ok (.putfield 16, 3) := by decide +kernel
theorem dX3_init_26 : decode cX3_init 26 = .ok (.aload_n 0, 1) := by decide +kernel
theorem dX3_init_27 : decode cX3_init 27 = .ok (.new 19, 3) := by decide +kernel
theorem dX3_init_30 : decode cX3_init 30 = .ok (.dup, 1) := by decide +kernel
theorem dX3_init_31 : decode cX3_init 31 = .ok (.invokespecial 21, 3) := by decide +kernel
theorem dX3_init_34 : decode cX3_init 34 = .ok (.putfield 22, 3) := by decide +kernel
theorem dX3_init_37 : decode cX3_init 37 = .ok (.aload_n 0, 1) := by decide +kernel
theorem dX3_init_38 : decode cX3_init 38 = .ok (.new 26, 3) := by decide +kernel
theorem dX3_init_41 : decode cX3_init 41 = .ok (.dup, 1) := by decide +kernel
theorem dX3_init_42 : decode cX3_init 42 = .ok (.invokespecial 28, 3) := by decide +kernel
theorem dX3_init_45 : decode cX3_init 45 = .ok (.putfield 29, 3) := by decide +kernel
theorem dX3_init_48 : decode cX3_init 48 = .ok (.aload_n 0, 1) := by decide +kernel
theorem dX3_init_49 : decode cX3_init 49 = .ok (.bipush 30, 2) := by decide +kernel
theorem dX3_init_51 : decode cX3_init 51 = .ok (.newarray .int, 2) := by decide +kernel
theorem dX3_init_53 : decode cX3_init 53 = .ok (.putfield 33, 3) := by decide +kernel
theorem dX3_init_56 : decode cX3_init 56 = .ok (.aload_n 0, 1) := by decide +kernel
theorem dX3_init_57 : decode cX3_init 57 = .ok (.bipush 6, 2) := by decide +kernel
theorem dX3_init_59 : decode cX3_init 59 = .ok (.newarray .int, 2) := by decide +kernel
theorem dX3_init_61 : decode cX3_init 61 = .ok (.putfield 37, 3) := by decide +kernel
theorem dX3_init_64 : decode cX3_init 64 = .ok (.aload_n 0, 1) := by decide +kernel
theorem dX3_init_65 : decode cX3_init 65 = .ok (.iconst 0, 1) := by decide +kernel
theorem dX3_init_66 : decode cX3_init 66 = .ok (.putfield 40, 3) := by decide +kernel
theorem dX3_init_69 : decode cX3_init 69 = .ok (.aload_n 0, 1) := by decide +kernel
theorem dX3_init_70 : decode cX3_init 70 = .ok (.iconst (-1), 1) := by decide +kernel
theorem dX3_init_71 : decode cX3_init 71 = .ok (.putfield 44, 3) := by decide +kernel
theorem dX3_init_74 : decode cX3_init 74 = .ok (.aload_n 0, 1) := by decide +kernel
theorem dX3_init_75 : decode cX3_init 75 = .ok (.iconst 0, 1) := by decide +kernel
theorem dX3_init_76 : decode cX3_init 76 = .ok (.putfield 47, 3) := by decide +kernel
theorem dX3_init_79 : decode cX3_init 79 = .ok (.aload_n 0, 1) := by decide +kernel
theorem dX3_init_80 : decode cX3_init 80 = .ok (.iconst 0, 1) := by decide +kernel
theorem dX3_init_81 : decode cX3_init 81 = .ok (.putfield 50, 3) := by decide +kernel
theorem dX3_init_84 : decode cX3_init 84 = .ok (.aload_n 0, 1) := by decide +kernel
theorem dX3_init_85 : decode cX3_init 85 = .ok (.iconst 0, 1) := by decide +kernel
theorem dX3_init_86 : decode cX3_init 86 = .ok (.putfield 53, 3) := by decide +kernel
theorem dX3_init_89 : decode cX3_init 89 = .ok (.aload_n 0, 1) := by decide +kernel
theorem dX3_init_90 : decode cX3_init 90 = .ok (.iconst 0, 1) := by decide +kernel
theorem dX3_init_91 : decode cX3_init 91 = .ok (.putfield 57, 3) := by decide +kernel
theorem dX3_init_94 : decode cX3_init 94 = .ok (.return_, 1) := by decide +kernel
theorem dX3_arrive_0 : decode cX3_arrive 0 = .ok (.iload_n 1, 1) := by decide +kernel
theorem dX3_arrive_1 : decode cX3_arrive 1 = .ok (.iconst 1, 1) := by decide +kernel
theorem dX3_arrive_2 : decode cX3_arrive 2 = .ok (.if_icmp .lt 9, 3) := by decide +kernel
theorem dX3_arrive_5 : decode cX3_arrive 5 = .ok (.iload_n 1, 1) := by decide +kernel
theorem dX3_arrive_6 : decode cX3_arrive 6 = .ok (.bipush 100, 2) := by decide +kernel
theorem dX3_arrive_8 : decode cX3_arrive 8 = .ok (.if_icmp .le 13, 3) := by decide +kernel
theorem dX3_arrive_11 : decode cX3_arrive 11 = .ok (.new 60, 3) := by decide +kernel
theorem dX3_arrive_14 : decode cX3_arrive 14 = .ok (.dup, 1) := by decide +kernel
theorem dX3_arrive_15 : decode cX3_arrive 15 = .ok (.ldc 62, 2) := by decide +kernel
theorem dX3_arrive_17 : decode cX3_arrive 17 = .ok (.invokespecial 64, 3) := by decide +kernel
theorem dX3_arrive_20 : decode cX3_arrive 20 = .ok (.athrow, 1) := by decide +kernel
theorem dX3_arrive_21 : decode cX3_arrive 21 = .ok (.iload_n 2, 1) := by decide +kernel
theorem dX3_arrive_22 : decode cX3_arrive 22 = .ok (.invokestatic 67, 3) := by decide +kernel
theorem dX3_arrive_25 : decode cX3_arrive 25 = .ok (.iload_n 3, 1) := by decide +kernel
theorem dX3_arrive_26 : decode cX3_arrive 26 = .ok (.invokestatic 71, 3) := by decide +kernel
theorem dX3_arrive_29 : decode cX3_arrive 29 = .ok (.aload_n 0, 1) := by decide +kernel
theorem dX3_arrive_30 : decode cX3_arrive 30 = .ok (.getfield 40, 3) := by decide +kernel
theorem dX3_arrive_33 : decode cX3_arrive 33 = .ok (.bipush 30, 2) := by decide +kernel
theorem dX3_arrive_35 : decode cX3_arrive 35 = .ok (.if_icmp .lt 13, 3) := by decide +kernel
theorem dX3_arrive_38 : decode cX3_arrive 38 = .ok (.new 74, 3) := by decide +kernel
theorem dX3_arrive_41 : decode cX3_arrive 41 = .ok (.dup, 1) := by decide +kernel
theorem dX3_arrive_42 : decode cX3_arrive 42 = .ok (.ldc 76, 2) := by decide +kernel
theorem dX3_arrive_44 : decode cX3_arrive 44 = .ok (.invokespecial 78, 3) := by decide +kernel
theorem dX3_arrive_47 : decode cX3_arrive 47 = .ok (.athrow, 1) := by decide +kernel
theorem dX3_arrive_48 : decode cX3_arrive 48 = .ok (.aload_n 0, 1) := by decide +kernel
theorem dX3_arrive_49 : decode cX3_arrive 49 = .ok (.iload_n 3, 1) := by decide +kernel
theorem dX3_arrive_50 : decode cX3_arrive 50 = .ok (.iload_n 1, 1) := by decide +kernel
theorem dX3_arrive_51 : decode cX3_arrive 51 = .ok (.invokevirtual 79, 3) := by decide +kernel
theorem dX3_arrive_54 : decode cX3_arrive 54 = .ok (.aload_n 0, 1) := by decide +kernel
theorem dX3_arrive_55 : decode cX3_arrive 55 = .ok (.getfield 40, 3) := by decide +kernel
theorem dX3_arrive_58 : decode cX3_arrive 58 = .ok (.istore 4, 2) := by decide +kernel
theorem dX3_arrive_60 : decode cX3_arrive 60 = .ok (.aload_n 0, 1) := by decide +kernel
theorem dX3_arrive_61 : decode cX3_arrive 61 = .ok (.dup, 1) := by decide +kernel
theorem dX3_arrive_62 : decode cX3_arrive 62 = .ok (.getfield 40, 3) := by decide +kernel
theorem dX3_arrive_65 : decode cX3_arrive 65 = .ok (.iconst 1, 1) := by decide +kernel
theorem dX3_arrive_66 : decode cX3_arrive 66 = .ok (.iadd, 1) := by decide +kernel
theorem dX3_arrive_67 : decode cX3_arrive 67 = .ok (.putfield 40, 3) := by decide +kernel
theorem dX3_arrive_70 : decode cX3_arrive 70 = .ok (.aload_n 0, 1) := by decide +kernel
theorem dX3_arrive_71 : decode cX3_arrive 71 = .ok (.getfield 33, 3) := by decide +kernel
theorem dX3_arrive_74 : decode cX3_arrive 74 = .ok (.iload 4, 2) := by decide +kernel
theorem dX3_arrive_76 : decode cX3_arrive 76 = .ok (.iload_n 2, 1) := by decide +kernel
theorem dX3_arrive_77 : decode cX3_arrive 77 = .ok (.iastore, 1) := by decide +kernel
theorem dX3_arrive_78 : decode cX3_arrive 78 = .ok (.aload_n 0, 1) := by decide +kernel
theorem dX3_arrive_79 : decode cX3_arrive 79 = .ok (.getfield 10, 3) := by decide +kernel
theorem dX3_arrive_82 : decode cX3_arrive 82 = .ok (.iload 4, 2) := by decide +kernel
theorem dX3_arrive_84 : decode cX3_arrive 84 = .ok (.iload_n 1, 1) := by decide +kernel
theorem dX3_arrive_85 : decode cX3_arrive 85 = .ok (.invokevirtual 83, 3) := by decide +kernel
theorem dX3_arrive_88 : decode cX3_arrive 88 = .ok (.aload_n 0, 1) := by decide +kernel
theorem dX3_arrive_89 : decode cX3_arrive 89 = .ok (.getfield 10, 3) := by decide +kernel
theorem dX3_arrive_92 : decode cX3_arrive 92 = .ok (.iload_n 3, 1) := by decide +kernel
theorem dX3_arrive_93 : decode cX3_arrive 93 = .ok (.iload 4, 2) := by decide +kernel
theorem dX3_arrive_95 : decode cX3_arrive 95 = .ok (.invokevirtual 86, 3) := by decide +kernel
theorem dX3_arrive_98 : decode cX3_arrive 98 = .ok (.aload_n 0, 1) := by decide +kernel
theorem dX3_arrive_99 : decode cX3_arrive 99 = .ok (.invokevirtual 89, 3) := by decide +kernel
theorem dX3_arrive_102 : decode cX3_arrive 102 = .ok (.iload 4, 2) := by decide +kernel
theorem dX3_arrive_104 : decode cX3_arrive 104 = .ok (.ireturn, 1) := by decide +kernel
theorem dX3_lift_0 : decode cX3_lift 0 = .ok (.iload_n 1, 1) := by decide +kernel
theorem dX3_lift_1 : decode cX3_lift 1 = .ok (.invokestatic 71, 3) := by decide +kernel
theorem dX3_lift_4 : decode cX3_lift 4 = .ok (.aload_n 0, 1) := by decide +kernel
theorem dX3_lift_5 : decode cX3_lift 5 = .ok (.invokevirtual 92, 3) := by decide +kernel
theorem dX3_lift_8 : decode cX3_lift 8 = .ok (.aload_n 0, 1) := by decide +kernel
theorem dX3_lift_9 : decode cX3_lift 9 = .ok (.getfield 10, 3) := by decide +kernel
theorem dX3_lift_12 : decode cX3_lift 12 = .ok (.iload_n 1, 1) := by decide +kernel
theorem dX3_lift_13 : decode cX3_lift 13 = .ok (.invokevirtual 95, 3) := by decide +kernel
theorem dX3_lift_16 : decode cX3_lift 16 = .ok (.ifCond .ne 13, 3) := by decide +kernel
theorem dX3_lift_19 : decode cX3_lift 19 = .ok (.new 74, 3) := by decide +kernel
theorem dX3_lift_22 : decode cX3_lift 22 = .ok (.dup, 1) := by decide +kernel
theorem dX3_lift_23 : decode cX3_lift 23 = .ok (.ldc 99, 2) := by decide +kernel
theorem dX3_lift_25 : decode cX3_lift 25 = .ok (.invokespecial 78, 3) := by decide +kernel
theorem dX3_lift_28 : decode cX3_lift 28 = .ok (.athrow, 1) := by decide +kernel
theorem dX3_lift_29 : decode cX3_lift 29 = .ok (.aload_n 0, 1) := by decide +kernel
theorem dX3_lift_30 : decode cX3_lift 30 = .ok (.aload_n 0, 1) := by decide +kernel
theorem dX3_lift_31 : decode cX3_lift 31 = .ok (.getfield 10, 3) := by decide +kernel
theorem dX3_lift_34 : decode cX3_lift 34 = .ok (.iload_n 1, 1) := by decide +kernel
theorem dX3_lift_35 : decode cX3_lift 35 = .ok (.invokevirtual 101, 3) := by decide +kernel
theorem dX3_lift_38 : decode cX3_lift 38 = .ok (.putfield 44, 3) := by decide +kernel
theorem dX3_lift_41 : decode cX3_lift 41 = .ok (.aload_n 0, 1) := by decide +kernel
theorem dX3_lift_42 : decode cX3_lift 42 = .ok (.dup, 1) := by decide +kernel
theorem dX3_lift_43 : decode cX3_lift 43 = .ok (.getfield 47, 3) := by decide +kernel
theorem dX3_lift_46 : decode cX3_lift 46 = .ok (.iconst 1, 1) := by decide +kernel
theorem dX3_lift_47 : decode cX3_lift 47 = .ok (.iadd, 1) := by decide +kernel
theorem dX3_lift_48 : decode cX3_lift 48 = .ok (.putfield 47, 3) := by decide +kernel
theorem dX3_lift_51 : decode cX3_lift 51 = .ok (.aload_n 0, 1) := by decide +kernel
theorem dX3_lift_52 : decode cX3_lift 52 = .ok (.invokevirtual 89, 3) := by decide +kernel
theorem dX3_lift_55 : decode cX3_lift 55 = .ok (.aload_n 0, 1) := by decide +kernel
theorem dX3_lift_56 : decode cX3_lift 56 = .ok (.getfield 44, 3) := by decide +kernel
theorem dX3_lift_59 : decode cX3_lift 59 = .ok (.ireturn, 1) := by decide +kernel
theorem dX3_drop_0 : decode cX3_drop 0 = .ok (.iload_n 1, 1) := by decide +kernel
theorem dX3_drop_1 : decode cX3_drop 1 = .ok (.invokestatic 71, 3) := by decide +kernel
theorem dX3_drop_4 : decode cX3_drop 4 = .ok (.aload_n 0, 1) := by decide +kernel
theorem dX3_drop_5 : decode cX3_drop 5 = .ok (.invokevirtual 104, 3) := by decide +kernel
theorem dX3_drop_8 : decode cX3_drop 8 = .ok (.aload_n 0, 1) := by decide +kernel
theorem dX3_drop_9 : decode cX3_drop 9 = .ok (.iload_n 1, 1) := by decide +kernel
theorem dX3_drop_10 : decode cX3_drop 10 = .ok (.aload_n 0, 1) := by decide +kernel
theorem dX3_drop_11 : decode cX3_drop 11 = .ok (.getfield 10, 3) := by decide +kernel
theorem dX3_drop_14 : decode cX3_drop 14 = .ok (.aload_n 0, 1) := by decide +kernel
theorem dX3_drop_15 : decode cX3_drop 15 = .ok (.getfield 44, 3) := by decide +kernel
theorem dX3_drop_18 : decode cX3_drop 18 = .ok (.invokevirtual 107, 3) := by decide +kernel
theorem dX3_drop_21 : decode cX3_drop 21 = .ok (.invokevirtual 79, 3) := by decide +kernel
theorem dX3_drop_24 : decode cX3_drop 24 = .ok (.aload_n 0, 1) := by decide +kernel
theorem dX3_drop_25 : decode cX3_drop 25 = .ok (.getfield 10, 3) := by decide +kernel
theorem dX3_drop_28 : decode cX3_drop 28 = .ok (.iload_n 1, 1) := by decide +kernel
theorem dX3_drop_29 : decode cX3_drop 29 = .ok (.aload_n 0, 1) := by decide +kernel
theorem dX3_drop_30 : decode cX3_drop 30 = .ok (.getfield 44, 3) := by decide +kernel
theorem dX3_drop_33 : decode cX3_drop 33 = .ok (.invokevirtual 86, 3) := by decide +kernel
theorem dX3_drop_36 : decode cX3_drop 36 = .ok (.aload_n 0, 1) := by decide +kernel
theorem dX3_drop_37 : decode cX3_drop 37 = .ok (.iconst (-1), 1) := by decide +kernel
theorem dX3_drop_38 : decode cX3_drop 38 = .ok (.putfield 44, 3) := by decide +kernel
theorem dX3_drop_41 : decode cX3_drop 41 = .ok (.aload_n 0, 1) := by decide +kernel
theorem dX3_drop_42 : decode cX3_drop 42 = .ok (.invokevirtual 89, 3) := by decide +kernel
theorem dX3_drop_45 : decode cX3_drop 45 = .ok (.aload_n 0, 1) := by decide +kernel
theorem dX3_drop_46 : decode cX3_drop 46 = .ok (.getfield 10, 3) := by decide +kernel
theorem dX3_drop_49 : decode cX3_drop 49 = .ok (.iload_n 1, 1) := by decide +kernel
theorem dX3_drop_50 : decode cX3_drop 50 = .ok (.invokevirtual 95, 3) := by decide +kernel
theorem dX3_drop_53 : decode cX3_drop 53 = .ok (.ireturn, 1) := by decide +kernel
theorem dX3_dig_0 : decode cX3_dig 0 = .ok (.aload_n 0, 1) := by decide +kernel
theorem dX3_dig_1 : decode cX3_dig 1 = .ok (.iload_n 1, 1) := by decide +kernel
theorem dX3_dig_2 : decode cX3_dig 2 = .ok (.invokevirtual 110, 3) := by decide +kernel
theorem dX3_dig_5 : decode cX3_dig 5 = .ok (.aload_n 0, 1) := by decide +kernel
theorem dX3_dig_6 : decode cX3_dig 6 = .ok (.invokevirtual 92, 3) := by decide +kernel
theorem dX3_dig_9 : decode cX3_dig 9 = .ok (.aload_n 0, 1) := by decide +kernel
theorem dX3_dig_10 : decode cX3_dig 10 = .ok (.iload_n 1, 1) := by decide +kernel
theorem dX3_dig_11 : decode cX3_dig 11 = .ok (.invokevirtual 113, 3) := by decide +kernel
theorem dX3_dig_14 : decode cX3_dig 14 = .ok (.aload_n 0, 1) := by decide +kernel
theorem dX3_dig_15 : decode cX3_dig 15 = .ok (.getfield 16, 3) := by decide +kernel
theorem dX3_dig_18 : decode cX3_dig 18 = .ok (.aload_n 0, 1) := by decide +kernel
theorem dX3_dig_19 : decode cX3_dig 19 = .ok (.getfield 10, 3) := by decide +kernel
theorem dX3_dig_22 : decode cX3_dig 22 = .ok (.invokevirtual 116, 3) := by decide +kernel
theorem dX3_dig_25 : decode cX3_dig 25 = .ok (.aload_n 0, 1) := by decide +kernel
theorem dX3_dig_26 : decode cX3_dig 26 = .ok (.getfield 16, 3) := by decide +kernel
theorem dX3_dig_29 : decode cX3_dig 29 = .ok (.iload_n 1, 1) := by decide +kernel
theorem dX3_dig_30 : decode cX3_dig 30 = .ok (.aload_n 0, 1) := by decide +kernel
theorem dX3_dig_31 : decode cX3_dig 31 = .ok (.invokevirtual 120, 3) := by decide +kernel
theorem dX3_dig_34 : decode cX3_dig 34 = .ok (.invokevirtual 124, 3) := by decide +kernel
theorem dX3_dig_37 : decode cX3_dig 37 = .ok (.istore_n 2, 1) := by decide +kernel
theorem dX3_dig_38 : decode cX3_dig 38 = .ok (.iload_n 2, 1) := by decide +kernel
theorem dX3_dig_39 : decode cX3_dig 39 = .ok (.iconst (-1), 1) := by decide +kernel
theorem dX3_dig_40 : decode cX3_dig 40 = .ok (.if_icmp .ne 13, 3) := by decide +kernel
theorem dX3_dig_43 : decode cX3_dig 43 = .ok (.new 74, 3) := by decide +kernel
theorem dX3_dig_46 : decode cX3_dig 46 = .ok (.dup, 1) := by decide +kernel
theorem dX3_dig_47 : decode cX3_dig 47 = .ok (.ldc 128, 2) := by decide +kernel
theorem dX3_dig_49 : decode cX3_dig 49 = .ok (.invokespecial 78, 3) := by decide +kernel
theorem dX3_dig_52 : decode cX3_dig 52 = .ok (.athrow, 1) := by decide +kernel
theorem dX3_dig_53 : decode cX3_dig 53 = .ok (.aload_n 0, 1) := by decide +kernel
theorem dX3_dig_54 : decode cX3_dig 54 = .ok (.getfield 10, 3) := by decide +kernel
theorem dX3_dig_57 : decode cX3_dig 57 = .ok (.aload_n 0, 1) := by decide +kernel
theorem dX3_dig_58 : decode cX3_dig 58 = .ok (.getfield 16, 3) := by decide +kernel
theorem dX3_dig_61 : decode cX3_dig 61 = .ok (.invokevirtual 116, 3) := by decide +kernel
theorem dX3_dig_64 : decode cX3_dig 64 = .ok (.aload_n 0, 1) := by decide +kernel
theorem dX3_dig_65 : decode cX3_dig 65 = .ok (.iload_n 1, 1) := by decide +kernel
theorem dX3_dig_66 : decode cX3_dig 66 = .ok (.putfield 44, 3) := by decide +kernel
theorem dX3_dig_69 : decode cX3_dig 69 = .ok (.aload_n 0, 1) := by decide +kernel
theorem dX3_dig_70 : decode cX3_dig 70 = .ok (.dup, 1) := by decide +kernel
theorem dX3_dig_71 : decode cX3_dig 71 = .ok (.getfield 47, 3) := by decide +kernel
theorem dX3_dig_74 : decode cX3_dig 74 = .ok (.iload_n 2, 1) := by decide +kernel
theorem dX3_dig_75 : decode cX3_dig 75 = .ok (.iadd, 1) := by decide +kernel
theorem dX3_dig_76 : decode cX3_dig 76 = .ok (.putfield 47, 3) := by decide +kernel
theorem dX3_dig_79 : decode cX3_dig 79 = .ok (.aload_n 0, 1) := by decide +kernel
theorem dX3_dig_80 : decode cX3_dig 80 = .ok (.invokevirtual 89, 3) := by decide +kernel
theorem dX3_dig_83 : decode cX3_dig 83 = .ok (.iload_n 2, 1) := by decide +kernel
theorem dX3_dig_84 : decode cX3_dig 84 = .ok (.ireturn, 1) := by decide +kernel
theorem dX3_crane_0 : decode cX3_crane 0 = .ok (.aload_n 0, 1) := by decide +kernel
theorem dX3_crane_1 : decode cX3_crane 1 = .ok (.getfield 44, 3) := by decide +kernel
theorem dX3_crane_4 : decode cX3_crane 4 = .ok (.ireturn, 1) := by decide +kernel
theorem dX3_height_0 : decode cX3_height 0 = .ok (.iload_n 1, 1) := by decide +kernel
theorem dX3_height_1 : decode cX3_height 1 = .ok (.invokestatic 71, 3) := by decide +kernel
theorem dX3_height_4 : decode cX3_height 4 = .ok (.aload_n 0, 1) := by decide +kernel
theorem dX3_height_5 : decode cX3_height 5 = .ok (.getfield 10, 3) := by decide +kernel
theorem dX3_height_8 : decode cX3_height 8 = .ok (.iload_n 1, 1) := by decide +kernel
theorem dX3_height_9 : decode cX3_height 9 = .ok (.invokevirtual 95, 3) := by decide +kernel
theorem dX3_height_12 : decode cX3_height 12 = .ok (.ireturn, 1) := by decide +kernel
theorem dX3_at_0 : decode cX3_at 0 = .ok (.iload_n 1, 1) := by decide +kernel
theorem dX3_at_1 : decode cX3_at 1 = .ok (.invokestatic 71, 3) := by decide +kernel
theorem dX3_at_4 : decode cX3_at 4 = .ok (.iload_n 2, 1) := by decide +kernel
theorem dX3_at_5 : decode cX3_at 5 = .ok (.ifCond .lt 8, 3) := by decide +kernel
theorem dX3_at_8 : decode cX3_at 8 = .ok (.iload_n 2, 1) := by decide +kernel
theorem dX3_at_9 : decode cX3_at 9 = .ok (.iconst 5, 1) := by decide +kernel
theorem dX3_at_10 : decode cX3_at 10 = .ok (.if_icmp .lt 13, 3) := by decide +kernel
theorem dX3_at_13 : decode cX3_at 13 = .ok (.new 60, 3) := by decide +kernel
theorem dX3_at_16 : decode cX3_at 16 = .ok (.dup, 1) := by decide +kernel
theorem dX3_at_17 : decode cX3_at 17 = .ok (.ldc 130, 2) := by decide +kernel
theorem dX3_at_19 : decode cX3_at 19 = .ok (.invokespecial 64, 3) := by decide +kernel
theorem dX3_at_22 : decode cX3_at 22 = .ok (.athrow, 1) := by decide +kernel
theorem dX3_at_23 : decode cX3_at 23 = .ok (.aload_n 0, 1) := by decide +kernel
theorem dX3_at_24 : decode cX3_at 24 = .ok (.getfield 10, 3) := by decide +kernel
theorem dX3_at_27 : decode cX3_at 27 = .ok (.iload_n 1, 1) := by decide +kernel
theorem dX3_at_28 : decode cX3_at 28 = .ok (.iload_n 2, 1) := by decide +kernel
theorem dX3_at_29 : decode cX3_at 29 = .ok (.invokevirtual 132, 3) := by decide +kernel
theorem dX3_at_32 : decode cX3_at 32 = .ok (.ireturn, 1) := by decide +kernel
theorem dX3_stackOf_0 : decode cX3_stackOf 0 = .ok (.aload_n 0, 1) := by decide +kernel
theorem dX3_stackOf_1 : decode cX3_stackOf 1 = .ok (.iload_n 1, 1) := by decide +kernel
theorem dX3_stackOf_2 : decode cX3_stackOf 2 = .ok (.invokevirtual 110, 3) := by decide +kernel
theorem dX3_stackOf_5 : decode cX3_stackOf 5 = .ok (.aload_n 0, 1) := by decide +kernel
theorem dX3_stackOf_6 : decode cX3_stackOf 6 = .ok (.getfield 10, 3) := by decide +kernel
theorem dX3_stackOf_9 : decode cX3_stackOf 9 = .ok (.iload_n 1, 1) := by decide +kernel
theorem dX3_stackOf_10 : decode cX3_stackOf 10 = .ok (.invokevirtual 135, 3) := by decide +kernel
theorem dX3_stackOf_13 : decode cX3_stackOf 13 = .ok (.ireturn, 1) := by decide +kernel
theorem dX3_lifts_0 : decode cX3_lifts 0 = .ok (.aload_n 0, 1) := by decide +kernel
theorem dX3_lifts_1 : decode cX3_lifts 1 = .ok (.getfield 47, 3) := by decide +kernel
theorem dX3_lifts_4 : decode cX3_lifts 4 = .ok (.ireturn, 1) := by decide +kernel
theorem dX3_fewestLifts_0 : decode cX3_fewestLifts 0 = .ok (.aload_n 0, 1) := by decide +kernel
theorem dX3_fewestLifts_1 : decode cX3_fewestLifts 1 = .ok (.iload_n 1, 1) := by decide +kernel
theorem dX3_fewestLifts_2 : decode cX3_fewestLifts 2 = .ok (.invokevirtual 138, 3) := by decide +kernel
theorem dX3_fewestLifts_5 : decode cX3_fewestLifts 5 = .ok (.ifCond .ne 13, 3) := by decide +kernel
theorem dX3_fewestLifts_8 : decode cX3_fewestLifts 8 = .ok (.new 60, 3) := by decide +kernel
theorem dX3_fewestLifts_11 : decode cX3_fewestLifts 11 = .ok (.dup, 1) := by decide +kernel
theorem dX3_fewestLifts_12 : decode cX3_fewestLifts 12 = .ok (.ldc 142, 2) := by decide +kernel
theorem dX3_fewestLifts_14 : decode cX3_fewestLifts 14 = .ok (.invokespecial 64, 3) := by decide +kernel
theorem dX3_fewestLifts_17 : decode cX3_fewestLifts 17 = .ok (.athrow, 1) := by decide +kernel
theorem dX3_fewestLifts_18 : decode cX3_fewestLifts 18 = .ok (.aload_n 0, 1) := by decide +kernel
theorem dX3_fewestLifts_19 : decode cX3_fewestLifts 19 = .ok (.invokevirtual 92, 3) := by decide +kernel
theorem dX3_fewestLifts_22 : decode cX3_fewestLifts 22 = .ok (.iload_n 1, 1) := by decide +kernel
theorem dX3_fewestLifts_23 : decode cX3_fewestLifts 23 = .ok (.invokestatic 144, 3) := by decide +kernel
theorem dX3_fewestLifts_26 : decode cX3_fewestLifts 26 = .ok (.invokestatic 149, 3) := by decide +kernel
theorem dX3_fewestLifts_29 : decode cX3_fewestLifts 29 = .ok (.istore_n 2, 1) := by decide +kernel
theorem dX3_fewestLifts_30 : decode cX3_fewestLifts 30 = .ok (.iconst (-1), 1) := by decide +kernel
theorem dX3_fewestLifts_31 : decode cX3_fewestLifts 31 = .ok (.istore_n 3, 1) := by decide +kernel
theorem dX3_fewestLifts_32 : decode cX3_fewestLifts 32 = .ok (.iconst 0, 1) := by decide +kernel
theorem dX3_fewestLifts_33 : decode cX3_fewestLifts 33 = .ok (.istore 4, 2) := by decide +kernel
theorem dX3_fewestLifts_35 : decode cX3_fewestLifts 35 = .ok (.iload 4, 2) := by decide +kernel
theorem dX3_fewestLifts_37 : decode cX3_fewestLifts 37 = .ok (.iload_n 2, 1) := by decide +kernel
theorem dX3_fewestLifts_38 : decode cX3_fewestLifts 38 = .ok (.if_icmp .ge 38, 3) := by decide +kernel
theorem dX3_fewestLifts_41 : decode cX3_fewestLifts 41 = .ok (.aload_n 0, 1) := by decide +kernel
theorem dX3_fewestLifts_42 : decode cX3_fewestLifts 42 = .ok (.iload_n 1, 1) := by decide +kernel
theorem dX3_fewestLifts_43 : decode cX3_fewestLifts 43 = .ok (.iload 4, 2) := by decide +kernel
theorem dX3_fewestLifts_45 : decode cX3_fewestLifts 45 = .ok (.invokevirtual 152, 3) := by decide +kernel
theorem dX3_fewestLifts_48 : decode cX3_fewestLifts 48 = .ok (.istore 5, 2) := by decide +kernel
theorem dX3_fewestLifts_50 : decode cX3_fewestLifts 50 = .ok (.iload 5, 2) := by decide +kernel
theorem dX3_fewestLifts_52 : decode cX3_fewestLifts 52 = .ok (.iconst (-1), 1) := by decide +kernel
theorem dX3_fewestLifts_53 : decode cX3_fewestLifts 53 = .ok (.if_icmp .eq 17, 3) := by decide +kernel
theorem dX3_fewestLifts_56 : decode cX3_fewestLifts 56 = .ok (.iload_n 3, 1) := by decide +kernel
theorem dX3_fewestLifts_57 : decode cX3_fewestLifts 57 = .ok (.iconst (-1), 1) := by decide +kernel
theorem dX3_fewestLifts_58 : decode cX3_fewestLifts 58 = .ok (.if_icmp .eq 9, 3) := by decide +kernel
theorem dX3_fewestLifts_61 : decode cX3_fewestLifts 61 = .ok (.iload 5, 2) := by decide +kernel
theorem dX3_fewestLifts_63 : decode cX3_fewestLifts 63 = .ok (.iload_n 3, 1) := by decide +kernel
theorem dX3_fewestLifts_64 : decode cX3_fewestLifts 64 = .ok (.if_icmp .ge 6, 3) := by decide +kernel
theorem dX3_fewestLifts_67 : decode cX3_fewestLifts 67 = .ok (.iload 5, 2) := by decide +kernel
theorem dX3_fewestLifts_69 : decode cX3_fewestLifts 69 = .ok (.istore_n 3, 1) := by decide +kernel
theorem dX3_fewestLifts_70 : decode cX3_fewestLifts 70 = .ok (.iinc 4 1, 3) := by decide +kernel
theorem dX3_fewestLifts_73 : decode cX3_fewestLifts 73 = .ok (.goto (-38), 3) := by decide +kernel
theorem dX3_fewestLifts_76 : decode cX3_fewestLifts 76 = .ok (.iload_n 3, 1) := by decide +kernel
theorem dX3_fewestLifts_77 : decode cX3_fewestLifts 77 = .ok (.ireturn, 1) := by decide +kernel
theorem dX3_tell_0 : decode cX3_tell 0 = .ok (.iload_n 1, 1) := by decide +kernel
theorem dX3_tell_1 : decode cX3_tell 1 = .ok (.invokestatic 67, 3) := by decide +kernel
theorem dX3_tell_4 : decode cX3_tell 4 = .ok (.iload_n 2, 1) := by decide +kernel
theorem dX3_tell_5 : decode cX3_tell 5 = .ok (.invokestatic 67, 3) := by decide +kernel
theorem dX3_tell_8 : decode cX3_tell 8 = .ok (.iload_n 3, 1) := by decide +kernel
theorem dX3_tell_9 : decode cX3_tell 9 = .ok (.iconst (-1), 1) := by decide +kernel
theorem dX3_tell_10 : decode cX3_tell 10 = .ok (.if_icmp .eq 7, 3) := by decide +kernel
theorem dX3_tell_13 : decode cX3_tell 13 = .ok (.iload_n 3, 1) := by decide +kernel
theorem dX3_tell_14 : decode cX3_tell 14 = .ok (.invokestatic 67, 3) := by decide +kernel
theorem dX3_tell_17 : decode cX3_tell 17 = .ok (.iload 4, 2) := by decide +kernel
theorem dX3_tell_19 : decode cX3_tell 19 = .ok (.iconst (-1), 1) := by decide +kernel
theorem dX3_tell_20 : decode cX3_tell 20 = .ok (.if_icmp .eq 23, 3) := by decide +kernel
theorem dX3_tell_23 : decode cX3_tell 23 = .ok (.iload 4, 2) := by decide +kernel
theorem dX3_tell_25 : decode cX3_tell 25 = .ok (.invokestatic 67, 3) := by decide +kernel
theorem dX3_tell_28 : decode cX3_tell 28 = .ok (.iload_n 3, 1) := by decide +kernel
theorem dX3_tell_29 : decode cX3_tell 29 = .ok (.iconst (-1), 1) := by decide +kernel
theorem dX3_tell_30 : decode cX3_tell 30 = .ok (.if_icmp .ne 13, 3) := by decide +kernel
theorem dX3_tell_33 : decode cX3_tell 33 = .ok (.new 60, 3) := by decide +kernel
theorem dX3_tell_36 : decode cX3_tell 36 = .ok (.dup, 1) := by decide +kernel
theorem dX3_tell_37 : decode cX3_tell 37 = .ok (.ldc 155, 2) := by decide +kernel
theorem dX3_tell_39 : decode cX3_tell 39 = .ok (.invokespecial 64, 3) := by decide +kernel
theorem dX3_tell_42 : decode cX3_tell 42 = .ok (.athrow, 1) := by decide +kernel
theorem dX3_tell_43 : decode cX3_tell 43 = .ok (.aload_n 0, 1) := by decide +kernel
theorem dX3_tell_44 : decode cX3_tell 44 = .ok (.getfield 22, 3) := by decide +kernel
theorem dX3_tell_47 : decode cX3_tell 47 = .ok (.invokevirtual 157, 3) := by decide +kernel
theorem dX3_tell_50 : decode cX3_tell 50 = .ok (.bipush 8, 2) := by decide +kernel
theorem dX3_tell_52 : decode cX3_tell 52 = .ok (.if_icmp .lt 13, 3) := by decide +kernel
theorem dX3_tell_55 : decode cX3_tell 55 = .ok (.new 74, 3) := by decide +kernel
theorem dX3_tell_58 : decode cX3_tell 58 = .ok (.dup, 1) := by decide +kernel
theorem dX3_tell_59 : decode cX3_tell 59 = .ok (.ldc 160, 2) := by decide +kernel
theorem dX3_tell_61 : decode cX3_tell 61 = .ok (.invokespecial 78, 3) := by decide +kernel
theorem dX3_tell_64 : decode cX3_tell 64 = .ok (.athrow, 1) := by decide +kernel
theorem dX3_tell_65 : decode cX3_tell 65 = .ok (.aload_n 0, 1) := by decide +kernel
theorem dX3_tell_66 : decode cX3_tell 66 = .ok (.getfield 22, 3) := by decide +kernel
theorem dX3_tell_69 : decode cX3_tell 69 = .ok (.iload_n 1, 1) := by decide +kernel
theorem dX3_tell_70 : decode cX3_tell 70 = .ok (.iload_n 2, 1) := by decide +kernel
theorem dX3_tell_71 : decode cX3_tell 71 = .ok (.iload_n 3, 1) := by decide +kernel
theorem dX3_tell_72 : decode cX3_tell 72 = .ok (.iload 4, 2) := by decide +kernel
theorem dX3_tell_74 : decode cX3_tell 74 = .ok (.invokevirtual 162, 3) := by decide +kernel
theorem dX3_tell_77 : decode cX3_tell 77 = .ok (.istore 5, 2) := by decide +kernel
theorem dX3_tell_79 : decode cX3_tell 79 = .ok (.aload_n 0, 1) := by decide +kernel
theorem dX3_tell_80 : decode cX3_tell 80 = .ok (.invokevirtual 89, 3) := by decide +kernel
theorem dX3_tell_83 : decode cX3_tell 83 = .ok (.iload 5, 2) := by decide +kernel
theorem dX3_tell_85 : decode cX3_tell 85 = .ok (.ireturn, 1) := by decide +kernel
theorem dX3_hasPaid_0 : decode cX3_hasPaid 0 = .ok (.iload_n 1, 1) := by decide +kernel
theorem dX3_hasPaid_1 : decode cX3_hasPaid 1 = .ok (.ifCond .lt 14, 3) := by decide +kernel
theorem dX3_hasPaid_4 : decode cX3_hasPaid 4 = .ok (.iload_n 1, 1) := by decide +kernel
theorem dX3_hasPaid_5 : decode cX3_hasPaid 5 = .ok (.aload_n 0, 1) := by decide +kernel
theorem dX3_hasPaid_6 : decode cX3_hasPaid 6 = .ok (.getfield 22, 3) := by decide +kernel
theorem dX3_hasPaid_9 : decode cX3_hasPaid 9 = .ok (.invokevirtual 157, 3) := by decide +kernel
theorem dX3_hasPaid_12 : decode cX3_hasPaid 12 = .ok (.if_icmp .lt 13, 3) := by decide +kernel
theorem dX3_hasPaid_15 : decode cX3_hasPaid 15 = .ok (.new 166, 3) := by decide +kernel
theorem dX3_hasPaid_18 : decode cX3_hasPaid 18 = .ok (.dup, 1) := by decide +kernel
theorem dX3_hasPaid_19 : decode cX3_hasPaid 19 = .ok (.ldc 168, 2) := by decide +kernel
theorem dX3_hasPaid_21 : decode cX3_hasPaid 21 = .ok (.invokespecial 170, 3) := by decide +kernel
theorem dX3_hasPaid_24 : decode cX3_hasPaid 24 = .ok (.athrow, 1) := by decide +kernel
theorem dX3_hasPaid_25 : decode cX3_hasPaid 25 = .ok (.aload_n 0, 1) := by decide +kernel
theorem dX3_hasPaid_26 : decode cX3_hasPaid 26 = .ok (.getfield 22, 3) := by decide +kernel
theorem dX3_hasPaid_29 : decode cX3_hasPaid 29 = .ok (.iload_n 1, 1) := by decide +kernel
theorem dX3_hasPaid_30 : decode cX3_hasPaid 30 = .ok (.invokevirtual 171, 3) := by decide +kernel
theorem dX3_hasPaid_33 : decode cX3_hasPaid 33 = .ok (.ireturn, 1) := by decide +kernel
theorem dX3_bonus_0 : decode cX3_bonus 0 = .ok (.aload_n 0, 1) := by decide +kernel
theorem dX3_bonus_1 : decode cX3_bonus 1 = .ok (.getfield 22, 3) := by decide +kernel
theorem dX3_bonus_4 : decode cX3_bonus 4 = .ok (.invokevirtual 174, 3) := by decide +kernel
theorem dX3_bonus_7 : decode cX3_bonus 7 = .ok (.ireturn, 1) := by decide +kernel
theorem dX3_offer_0 : decode cX3_offer 0 = .ok (.aload_n 0, 1) := by decide +kernel
theorem dX3_offer_1 : decode cX3_offer 1 = .ok (.iload_n 1, 1) := by decide +kernel
theorem dX3_offer_2 : decode cX3_offer 2 = .ok (.invokevirtual 110, 3) := by decide +kernel
theorem dX3_offer_5 : decode cX3_offer 5 = .ok (.iload_n 2, 1) := by decide +kernel
theorem dX3_offer_6 : decode cX3_offer 6 = .ok (.aload_n 0, 1) := by decide +kernel
theorem dX3_offer_7 : decode cX3_offer 7 = .ok (.getfield 50, 3) := by decide +kernel
theorem dX3_offer_10 : decode cX3_offer 10 = .ok (.if_icmp .lt 14, 3) := by decide +kernel
theorem dX3_offer_13 : decode cX3_offer 13 = .ok (.iload_n 2, 1) := by decide +kernel
theorem dX3_offer_14 : decode cX3_offer 14 = .ok (.aload_n 0, 1) := by decide +kernel
theorem dX3_offer_15 : decode cX3_offer 15 = .ok (.getfield 50, 3) := by decide +kernel
theorem dX3_offer_18 : decode cX3_offer 18 = .ok (.bipush 100, 2) := by decide +kernel
theorem dX3_offer_20 : decode cX3_offer 20 = .ok (.iadd, 1) := by decide +kernel
theorem dX3_offer_21 : decode cX3_offer 21 = .ok (.if_icmp .le 13, 3) := by decide +kernel
theorem dX3_offer_24 : decode cX3_offer 24 = .ok (.new 60, 3) := by decide +kernel
theorem dX3_offer_27 : decode cX3_offer 27 = .ok (.dup, 1) := by decide +kernel
theorem dX3_offer_28 : decode cX3_offer 28 = .ok (.ldc 177, 2) := by decide +kernel
theorem dX3_offer_30 : decode cX3_offer 30 = .ok (.invokespecial 64, 3) := by decide +kernel
theorem dX3_offer_33 : decode cX3_offer 33 = .ok (.athrow, 1) := by decide +kernel
theorem dX3_offer_34 : decode cX3_offer 34 = .ok (.aload_n 0, 1) := by decide +kernel
theorem dX3_offer_35 : decode cX3_offer 35 = .ok (.iload_n 1, 1) := by decide +kernel
theorem dX3_offer_36 : decode cX3_offer 36 = .ok (.invokevirtual 113, 3) := by decide +kernel
theorem dX3_offer_39 : decode cX3_offer 39 = .ok (.aload_n 0, 1) := by decide +kernel
theorem dX3_offer_40 : decode cX3_offer 40 = .ok (.getfield 29, 3) := by decide +kernel
theorem dX3_offer_43 : decode cX3_offer 43 = .ok (.iload_n 1, 1) := by decide +kernel
theorem dX3_offer_44 : decode cX3_offer 44 = .ok (.invokevirtual 179, 3) := by decide +kernel
theorem dX3_offer_47 : decode cX3_offer 47 = .ok (.iconst (-1), 1) := by decide +kernel
theorem dX3_offer_48 : decode cX3_offer 48 = .ok (.if_icmp .eq 13, 3) := by decide +kernel
theorem dX3_offer_51 : decode cX3_offer 51 = .ok (.new 74, 3) := by decide +kernel
theorem dX3_offer_54 : decode cX3_offer 54 = .ok (.dup, 1) := by decide +kernel
theorem dX3_offer_55 : decode cX3_offer 55 = .ok (.ldc 182, 2) := by decide +kernel
theorem dX3_offer_57 : decode cX3_offer 57 = .ok (.invokespecial 78, 3) := by decide +kernel
theorem dX3_offer_60 : decode cX3_offer 60 = .ok (.athrow, 1) := by decide +kernel
theorem dX3_offer_61 : decode cX3_offer 61 = .ok (.aload_n 0, 1) := by decide +kernel
theorem dX3_offer_62 : decode cX3_offer 62 = .ok (.getfield 29, 3) := by decide +kernel
theorem dX3_offer_65 : decode cX3_offer 65 = .ok (.invokevirtual 184, 3) := by decide +kernel
theorem dX3_offer_68 : decode cX3_offer 68 = .ok (.bipush 20, 2) := by decide +kernel
theorem dX3_offer_70 : decode cX3_offer 70 = .ok (.if_icmp .lt 13, 3) := by decide +kernel
theorem dX3_offer_73 : decode cX3_offer 73 = .ok (.new 74, 3) := by decide +kernel
theorem dX3_offer_76 : decode cX3_offer 76 = .ok (.dup, 1) := by decide +kernel
theorem dX3_offer_77 : decode cX3_offer 77 = .ok (.ldc 185, 2) := by decide +kernel
theorem dX3_offer_79 : decode cX3_offer 79 = .ok (.invokespecial 78, 3) := by decide +kernel
theorem dX3_offer_82 : decode cX3_offer 82 = .ok (.athrow, 1) := by decide +kernel
theorem dX3_offer_83 : decode cX3_offer 83 = .ok (.aload_n 0, 1) := by decide +kernel
theorem dX3_offer_84 : decode cX3_offer 84 = .ok (.getfield 29, 3) := by decide +kernel
theorem dX3_offer_87 : decode cX3_offer 87 = .ok (.iload_n 1, 1) := by decide +kernel
theorem dX3_offer_88 : decode cX3_offer 88 = .ok (.iload_n 2, 1) := by decide +kernel
theorem dX3_offer_89 : decode cX3_offer 89 = .ok (.invokevirtual 187, 3) := by decide +kernel
theorem dX3_offer_92 : decode cX3_offer 92 = .ok (.ireturn, 1) := by decide +kernel
theorem dX3_bid_0 : decode cX3_bid 0 = .ok (.aload_n 0, 1) := by decide +kernel
theorem dX3_bid_1 : decode cX3_bid 1 = .ok (.iload_n 1, 1) := by decide +kernel
theorem dX3_bid_2 : decode cX3_bid 2 = .ok (.invokevirtual 189, 3) := by decide +kernel
theorem dX3_bid_5 : decode cX3_bid 5 = .ok (.iload_n 2, 1) := by decide +kernel
theorem dX3_bid_6 : decode cX3_bid 6 = .ok (.ifCond .lt 8, 3) := by decide +kernel
theorem dX3_bid_9 : decode cX3_bid 9 = .ok (.iload_n 2, 1) := by decide +kernel
theorem dX3_bid_10 : decode cX3_bid 10 = .ok (.iconst 4, 1) := by decide +kernel
theorem dX3_bid_11 : decode cX3_bid 11 = .ok (.if_icmp .lt 13, 3) := by decide +kernel
theorem dX3_bid_14 : decode cX3_bid 14 = .ok (.new 60, 3) := by decide +kernel
theorem dX3_bid_17 : decode cX3_bid 17 = .ok (.dup, 1) := by decide +kernel
theorem dX3_bid_18 : decode cX3_bid 18 = .ok (.ldc 192, 2) := by decide +kernel
theorem dX3_bid_20 : decode cX3_bid 20 = .ok (.invokespecial 64, 3) := by decide +kernel
theorem dX3_bid_23 : decode cX3_bid 23 = .ok (.athrow, 1) := by decide +kernel
theorem dX3_bid_24 : decode cX3_bid 24 = .ok (.iload_n 3, 1) := by decide +kernel
theorem dX3_bid_25 : decode cX3_bid 25 = .ok (.iconst 1, 1) := by decide +kernel
theorem dX3_bid_26 : decode cX3_bid 26 = .ok (.if_icmp .lt 10, 3) := by decide +kernel
theorem dX3_bid_29 : decode cX3_bid 29 = .ok (.iload_n 3, 1) := by decide +kernel
theorem dX3_bid_30 : decode cX3_bid 30 = .ok (.sipush 1000, 3) := by decide +kernel
theorem dX3_bid_33 : decode cX3_bid 33 = .ok (.if_icmp .le 13, 3) := by decide +kernel
theorem dX3_bid_36 : decode cX3_bid 36 = .ok (.new 60, 3) := by decide +kernel
theorem dX3_bid_39 : decode cX3_bid 39 = .ok (.dup, 1) := by decide +kernel
theorem dX3_bid_40 : decode cX3_bid 40 = .ok (.ldc 194, 2) := by decide +kernel
theorem dX3_bid_42 : decode cX3_bid 42 = .ok (.invokespecial 64, 3) := by decide +kernel
theorem dX3_bid_45 : decode cX3_bid 45 = .ok (.athrow, 1) := by decide +kernel
theorem dX3_bid_46 : decode cX3_bid 46 = .ok (.aload_n 0, 1) := by decide +kernel
theorem dX3_bid_47 : decode cX3_bid 47 = .ok (.iload_n 1, 1) := by decide +kernel
theorem dX3_bid_48 : decode cX3_bid 48 = .ok (.invokevirtual 196, 3) := by decide +kernel
theorem dX3_bid_51 : decode cX3_bid 51 = .ok (.aload_n 0, 1) := by decide +kernel
theorem dX3_bid_52 : decode cX3_bid 52 = .ok (.getfield 29, 3) := by decide +kernel
theorem dX3_bid_55 : decode cX3_bid 55 = .ok (.iload_n 1, 1) := by decide +kernel
theorem dX3_bid_56 : decode cX3_bid 56 = .ok (.iload_n 2, 1) := by decide +kernel
theorem dX3_bid_57 : decode cX3_bid 57 = .ok (.invokevirtual 199, 3) := by decide +kernel
theorem dX3_bid_60 : decode cX3_bid 60 = .ok (.iconst (-1), 1) := by decide +kernel
theorem dX3_bid_61 : decode cX3_bid 61 = .ok (.if_icmp .eq 13, 3) := by decide +kernel
theorem dX3_bid_64 : decode cX3_bid 64 = .ok (.new 74, 3) := by decide +kernel
theorem dX3_bid_67 : decode cX3_bid 67 = .ok (.dup, 1) := by decide +kernel
theorem dX3_bid_68 : decode cX3_bid 68 = .ok (.ldc 202, 2) := by decide +kernel
theorem dX3_bid_70 : decode cX3_bid 70 = .ok (.invokespecial 78, 3) := by decide +kernel
theorem dX3_bid_73 : decode cX3_bid 73 = .ok (.athrow, 1) := by decide +kernel
theorem dX3_bid_74 : decode cX3_bid 74 = .ok (.aload_n 0, 1) := by decide +kernel
theorem dX3_bid_75 : decode cX3_bid 75 = .ok (.getfield 29, 3) := by decide +kernel
theorem dX3_bid_78 : decode cX3_bid 78 = .ok (.iload_n 1, 1) := by decide +kernel
theorem dX3_bid_79 : decode cX3_bid 79 = .ok (.iload_n 2, 1) := by decide +kernel
theorem dX3_bid_80 : decode cX3_bid 80 = .ok (.iload_n 3, 1) := by decide +kernel
theorem dX3_bid_81 : decode cX3_bid 81 = .ok (.invokevirtual 204, 3) := by decide +kernel
theorem dX3_bid_84 : decode cX3_bid 84 = .ok (.return_, 1) := by decide +kernel
theorem dX3_give_0 : decode cX3_give 0 = .ok (.aload_n 0, 1) := by decide +kernel
theorem dX3_give_1 : decode cX3_give 1 = .ok (.iload_n 1, 1) := by decide +kernel
theorem dX3_give_2 : decode cX3_give 2 = .ok (.invokevirtual 189, 3) := by decide +kernel
theorem dX3_give_5 : decode cX3_give 5 = .ok (.aload_n 0, 1) := by decide +kernel
theorem dX3_give_6 : decode cX3_give 6 = .ok (.iload_n 1, 1) := by decide +kernel
theorem dX3_give_7 : decode cX3_give 7 = .ok (.invokevirtual 196, 3) := by decide +kernel
theorem dX3_give_10 : decode cX3_give 10 = .ok (.aload_n 0, 1) := by decide +kernel
theorem dX3_give_11 : decode cX3_give 11 = .ok (.getfield 29, 3) := by decide +kernel
theorem dX3_give_14 : decode cX3_give 14 = .ok (.iload_n 1, 1) := by decide +kernel
theorem dX3_give_15 : decode cX3_give 15 = .ok (.invokevirtual 208, 3) := by decide +kernel
theorem dX3_give_18 : decode cX3_give 18 = .ok (.istore_n 2, 1) := by decide +kernel
theorem dX3_give_19 : decode cX3_give 19 = .ok (.iload_n 2, 1) := by decide +kernel
theorem dX3_give_20 : decode cX3_give 20 = .ok (.iconst (-1), 1) := by decide +kernel
theorem dX3_give_21 : decode cX3_give 21 = .ok (.if_icmp .ne 13, 3) := by decide +kernel
theorem dX3_give_24 : decode cX3_give 24 = .ok (.new 74, 3) := by decide +kernel
theorem dX3_give_27 : decode cX3_give 27 = .ok (.dup, 1) := by decide +kernel
theorem dX3_give_28 : decode cX3_give 28 = .ok (.ldc 211, 2) := by decide +kernel
theorem dX3_give_30 : decode cX3_give 30 = .ok (.invokespecial 78, 3) := by decide +kernel
theorem dX3_give_33 : decode cX3_give 33 = .ok (.athrow, 1) := by decide +kernel
theorem dX3_give_34 : decode cX3_give 34 = .ok (.aload_n 0, 1) := by decide +kernel
theorem dX3_give_35 : decode cX3_give 35 = .ok (.getfield 29, 3) := by decide +kernel
theorem dX3_give_38 : decode cX3_give 38 = .ok (.iload_n 1, 1) := by decide +kernel
theorem dX3_give_39 : decode cX3_give 39 = .ok (.iload_n 2, 1) := by decide +kernel
theorem dX3_give_40 : decode cX3_give 40 = .ok (.invokevirtual 213, 3) := by decide +kernel
theorem dX3_give_43 : decode cX3_give 43 = .ok (.iload_n 2, 1) := by decide +kernel
theorem dX3_give_44 : decode cX3_give 44 = .ok (.ireturn, 1) := by decide +kernel
theorem dX3_load_0 : decode cX3_load 0 = .ok (.aload_n 0, 1) := by decide +kernel
theorem dX3_load_1 : decode cX3_load 1 = .ok (.invokevirtual 104, 3) := by decide +kernel
theorem dX3_load_4 : decode cX3_load 4 = .ok (.aload_n 0, 1) := by decide +kernel
theorem dX3_load_5 : decode cX3_load 5 = .ok (.getfield 29, 3) := by decide +kernel
theorem dX3_load_8 : decode cX3_load 8 = .ok (.aload_n 0, 1) := by decide +kernel
theorem dX3_load_9 : decode cX3_load 9 = .ok (.getfield 44, 3) := by decide +kernel
theorem dX3_load_12 : decode cX3_load 12 = .ok (.invokevirtual 179, 3) := by decide +kernel
theorem dX3_load_15 : decode cX3_load 15 = .ok (.istore_n 1, 1) := by decide +kernel
theorem dX3_load_16 : decode cX3_load 16 = .ok (.iload_n 1, 1) := by decide +kernel
theorem dX3_load_17 : decode cX3_load 17 = .ok (.iconst (-1), 1) := by decide +kernel
theorem dX3_load_18 : decode cX3_load 18 = .ok (.if_icmp .eq 15, 3) := by decide +kernel
theorem dX3_load_21 : decode cX3_load 21 = .ok (.aload_n 0, 1) := by decide +kernel
theorem dX3_load_22 : decode cX3_load 22 = .ok (.getfield 29, 3) := by decide +kernel
theorem dX3_load_25 : decode cX3_load 25 = .ok (.iload_n 1, 1) := by decide +kernel
theorem dX3_load_26 : decode cX3_load 26 = .ok (.invokevirtual 216, 3) := by decide +kernel
theorem dX3_load_29 : decode cX3_load 29 = .ok (.iconst 1, 1) := by decide +kernel
theorem dX3_load_30 : decode cX3_load 30 = .ok (.if_icmp .eq 13, 3) := by decide +kernel
theorem dX3_load_33 : decode cX3_load 33 = .ok (.new 74, 3) := by decide +kernel
theorem dX3_load_36 : decode cX3_load 36 = .ok (.dup, 1) := by decide +kernel
theorem dX3_load_37 : decode cX3_load 37 = .ok (.ldc 219, 2) := by decide +kernel
theorem dX3_load_39 : decode cX3_load 39 = .ok (.invokespecial 78, 3) := by decide +kernel
theorem dX3_load_42 : decode cX3_load 42 = .ok (.athrow, 1) := by decide +kernel
theorem dX3_load_43 : decode cX3_load 43 = .ok (.aload_n 0, 1) := by decide +kernel
theorem dX3_load_44 : decode cX3_load 44 = .ok (.iconst (-1), 1) := by decide +kernel
theorem dX3_load_45 : decode cX3_load 45 = .ok (.putfield 44, 3) := by decide +kernel
theorem dX3_load_48 : decode cX3_load 48 = .ok (.aload_n 0, 1) := by decide +kernel
theorem dX3_load_49 : decode cX3_load 49 = .ok (.getfield 29, 3) := by decide +kernel
theorem dX3_load_52 : decode cX3_load 52 = .ok (.iload_n 1, 1) := by decide +kernel
theorem dX3_load_53 : decode cX3_load 53 = .ok (.invokevirtual 221, 3) := by decide +kernel
theorem dX3_load_56 : decode cX3_load 56 = .ok (.ireturn, 1) := by decide +kernel
theorem dX3_state_0 : decode cX3_state 0 = .ok (.aload_n 0, 1) := by decide +kernel
theorem dX3_state_1 : decode cX3_state 1 = .ok (.iload_n 1, 1) := by decide +kernel
theorem dX3_state_2 : decode cX3_state 2 = .ok (.invokevirtual 189, 3) := by decide +kernel
theorem dX3_state_5 : decode cX3_state 5 = .ok (.aload_n 0, 1) := by decide +kernel
theorem dX3_state_6 : decode cX3_state 6 = .ok (.getfield 29, 3) := by decide +kernel
theorem dX3_state_9 : decode cX3_state 9 = .ok (.iload_n 1, 1) := by decide +kernel
theorem dX3_state_10 : decode cX3_state 10 = .ok (.invokevirtual 216, 3) := by decide +kernel
theorem dX3_state_13 : decode cX3_state 13 = .ok (.ireturn, 1) := by decide +kernel
theorem dX3_storm_0 : decode cX3_storm 0 = .ok (.aload_n 0, 1) := by decide +kernel
theorem dX3_storm_1 : decode cX3_storm 1 = .ok (.iconst 1, 1) := by decide +kernel
theorem dX3_storm_2 : decode cX3_storm 2 = .ok (.putfield 53, 3) := by decide +kernel
theorem dX3_storm_5 : decode cX3_storm 5 = .ok (.aload_n 0, 1) := by decide +kernel
theorem dX3_storm_6 : decode cX3_storm 6 = .ok (.getfield 10, 3) := by decide +kernel
theorem dX3_storm_9 : decode cX3_storm 9 = .ok (.aload_n 0, 1) := by decide +kernel
theorem dX3_storm_10 : decode cX3_storm 10 = .ok (.invokevirtual 120, 3) := by decide +kernel
theorem dX3_storm_13 : decode cX3_storm 13 = .ok (.invokevirtual 224, 3) := by decide +kernel
theorem dX3_storm_16 : decode cX3_storm 16 = .ok (.ireturn, 1) := by decide +kernel
theorem dX3_pass_0 : decode cX3_pass 0 = .ok (.iload_n 1, 1) := by decide +kernel
theorem dX3_pass_1 : decode cX3_pass 1 = .ok (.iconst 1, 1) := by decide +kernel
theorem dX3_pass_2 : decode cX3_pass 2 = .ok (.if_icmp .lt 9, 3) := by decide +kernel
theorem dX3_pass_5 : decode cX3_pass 5 = .ok (.iload_n 1, 1) := by decide +kernel
theorem dX3_pass_6 : decode cX3_pass 6 = .ok (.bipush 100, 2) := by decide +kernel
theorem dX3_pass_8 : decode cX3_pass 8 = .ok (.if_icmp .le 13, 3) := by decide +kernel
theorem dX3_pass_11 : decode cX3_pass 11 = .ok (.new 60, 3) := by decide +kernel
theorem dX3_pass_14 : decode cX3_pass 14 = .ok (.dup, 1) := by decide +kernel
theorem dX3_pass_15 : decode cX3_pass 15 = .ok (.ldc 227, 2) := by decide +kernel
theorem dX3_pass_17 : decode cX3_pass 17 = .ok (.invokespecial 64, 3) := by decide +kernel
theorem dX3_pass_20 : decode cX3_pass 20 = .ok (.athrow, 1) := by decide +kernel
theorem dX3_pass_21 : decode cX3_pass 21 = .ok (.aload_n 0, 1) := by decide +kernel
theorem dX3_pass_22 : decode cX3_pass 22 = .ok (.getfield 50, 3) := by decide +kernel
theorem dX3_pass_25 : decode cX3_pass 25 = .ok (.iload_n 1, 1) := by decide +kernel
theorem dX3_pass_26 : decode cX3_pass 26 = .ok (.iadd, 1) := by decide +kernel
theorem dX3_pass_27 : decode cX3_pass 27 = .ok (.sipush 10000, 3) := by decide +kernel
theorem dX3_pass_30 : decode cX3_pass 30 = .ok (.if_icmp .le 13, 3) := by decide +kernel
theorem dX3_pass_33 : decode cX3_pass 33 = .ok (.new 74, 3) := by decide +kernel
theorem dX3_pass_36 : decode cX3_pass 36 = .ok (.dup, 1) := by decide +kernel
theorem dX3_pass_37 : decode cX3_pass 37 = .ok (.ldc 229, 2) := by decide +kernel
theorem dX3_pass_39 : decode cX3_pass 39 = .ok (.invokespecial 78, 3) := by decide +kernel
theorem dX3_pass_42 : decode cX3_pass 42 = .ok (.athrow, 1) := by decide +kernel
theorem dX3_pass_43 : decode cX3_pass 43 = .ok (.aload_n 0, 1) := by decide +kernel
theorem dX3_pass_44 : decode cX3_pass 44 = .ok (.getfield 57, 3) := by decide +kernel
theorem dX3_pass_47 : decode cX3_pass 47 = .ok (.istore_n 2, 1) := by decide +kernel
theorem dX3_pass_48 : decode cX3_pass 48 = .ok (.iconst 0, 1) := by decide +kernel
theorem dX3_pass_49 : decode cX3_pass 49 = .ok (.istore_n 3, 1) := by decide +kernel
theorem dX3_pass_50 : decode cX3_pass 50 = .ok (.iload_n 3, 1) := by decide +kernel
theorem dX3_pass_51 : decode cX3_pass 51 = .ok (.iload_n 1, 1) := by decide +kernel
theorem dX3_pass_52 : decode cX3_pass 52 = .ok (.if_icmp .ge 13, 3) := by decide +kernel
theorem dX3_pass_55 : decode cX3_pass 55 = .ok (.aload_n 0, 1) := by decide +kernel
theorem dX3_pass_56 : decode cX3_pass 56 = .ok (.invokevirtual 231, 3) := by decide +kernel
theorem dX3_pass_59 : decode cX3_pass 59 = .ok (.iinc 3 1, 3) := by decide +kernel
theorem dX3_pass_62 : decode cX3_pass 62 = .ok (.goto (-12), 3) := by decide +kernel
theorem dX3_pass_65 : decode cX3_pass 65 = .ok (.aload_n 0, 1) := by decide +kernel
theorem dX3_pass_66 : decode cX3_pass 66 = .ok (.getfield 57, 3) := by decide +kernel
theorem dX3_pass_69 : decode cX3_pass 69 = .ok (.iload_n 2, 1) := by decide +kernel
theorem dX3_pass_70 : decode cX3_pass 70 = .ok (.isub, 1) := by decide +kernel
theorem dX3_pass_71 : decode cX3_pass 71 = .ok (.ireturn, 1) := by decide +kernel
theorem dX3_today_0 : decode cX3_today 0 = .ok (.aload_n 0, 1) := by decide +kernel
theorem dX3_today_1 : decode cX3_today 1 = .ok (.getfield 50, 3) := by decide +kernel
theorem dX3_today_4 : decode cX3_today 4 = .ok (.ireturn, 1) := by decide +kernel
theorem dX3_balance_0 : decode cX3_balance 0 = .ok (.aload_n 0, 1) := by decide +kernel
theorem dX3_balance_1 : decode cX3_balance 1 = .ok (.getfield 22, 3) := by decide +kernel
theorem dX3_balance_4 : decode cX3_balance 4 = .ok (.invokevirtual 174, 3) := by decide +kernel
theorem dX3_balance_7 : decode cX3_balance 7 = .ok (.aload_n 0, 1) := by decide +kernel
theorem dX3_balance_8 : decode cX3_balance 8 = .ok (.getfield 57, 3) := by decide +kernel
theorem dX3_balance_11 : decode cX3_balance 11 = .ok (.isub, 1) := by decide +kernel
theorem dX3_balance_12 : decode cX3_balance 12 = .ok (.aload_n 0, 1) := by decide +kernel
theorem dX3_balance_13 : decode cX3_balance 13 = .ok (.getfield 29, 3) := by decide +kernel
theorem dX3_balance_16 : decode cX3_balance 16 = .ok (.invokevirtual 234, 3) := by decide +kernel
theorem dX3_balance_19 : decode cX3_balance 19 = .ok (.isub, 1) := by decide +kernel
theorem dX3_balance_20 : decode cX3_balance 20 = .ok (.aload_n 0, 1) := by decide +kernel
theorem dX3_balance_21 : decode cX3_balance 21 = .ok (.getfield 29, 3) := by decide +kernel
theorem dX3_balance_24 : decode cX3_balance 24 = .ok (.invokevirtual 237, 3) := by decide +kernel
theorem dX3_balance_27 : decode cX3_balance 27 = .ok (.isub, 1) := by decide +kernel
theorem dX3_balance_28 : decode cX3_balance 28 = .ok (.ireturn, 1) := by decide +kernel
theorem dX3_requireStack_0 : decode cX3_requireStack 0 = .ok (.iload_n 0, 1) := by decide +kernel
theorem dX3_requireStack_1 : decode cX3_requireStack 1 = .ok (.ifCond .lt 9, 3) := by decide +kernel
theorem dX3_requireStack_4 : decode cX3_requireStack 4 = .ok (.iload_n 0, 1) := by decide +kernel
theorem dX3_requireStack_5 : decode cX3_requireStack 5 = .ok (.bipush 6, 2) := by decide +kernel
theorem dX3_requireStack_7 : decode cX3_requireStack 7 = .ok (.if_icmp .lt 13, 3) := by decide +kernel
theorem dX3_requireStack_10 : decode cX3_requireStack 10 = .ok (.new 60, 3) := by decide +kernel
theorem dX3_requireStack_13 : decode cX3_requireStack 13 = .ok (.dup, 1) := by decide +kernel
theorem dX3_requireStack_14 : decode cX3_requireStack 14 = .ok (.ldc 240, 2) := by decide +kernel
theorem dX3_requireStack_16 : decode cX3_requireStack 16 = .ok (.invokespecial 64, 3) := by decide +kernel
theorem dX3_requireStack_19 : decode cX3_requireStack 19 = .ok (.athrow, 1) := by decide +kernel
theorem dX3_requireStack_20 : decode cX3_requireStack 20 = .ok (.return_, 1) := by decide +kernel
theorem dX3_requireLetter_0 : decode cX3_requireLetter 0 = .ok (.iload_n 0, 1) := by decide +kernel
theorem dX3_requireLetter_1 : decode cX3_requireLetter 1 = .ok (.ifCond .lt 9, 3) := by decide +kernel
theorem dX3_requireLetter_4 : decode cX3_requireLetter 4 = .ok (.iload_n 0, 1) := by decide +kernel
theorem dX3_requireLetter_5 : decode cX3_requireLetter 5 = .ok (.bipush 26, 2) := by decide +kernel
theorem dX3_requireLetter_7 : decode cX3_requireLetter 7 = .ok (.if_icmp .lt 13, 3) := by decide +kernel
theorem dX3_requireLetter_10 : decode cX3_requireLetter 10 = .ok (.new 60, 3) := by decide +kernel
theorem dX3_requireLetter_13 : decode cX3_requireLetter 13 = .ok (.dup, 1) := by decide +kernel
theorem dX3_requireLetter_14 : decode cX3_requireLetter 14 = .ok (.ldc 242, 2) := by decide +kernel
theorem dX3_requireLetter_16 : decode cX3_requireLetter 16 = .ok (.invokespecial 64, 3) := by decide +kernel
theorem dX3_requireLetter_19 : decode cX3_requireLetter 19 = .ok (.athrow, 1) := by decide +kernel
theorem dX3_requireLetter_20 : decode cX3_requireLetter 20 = .ok (.return_, 1) := by decide +kernel
theorem dX3_requireCrate_0 : decode cX3_requireCrate 0 = .ok (.iload_n 1, 1) := by decide +kernel
theorem dX3_requireCrate_1 : decode cX3_requireCrate 1 = .ok (.ifCond .lt 11, 3) := by decide +kernel
theorem dX3_requireCrate_4 : decode cX3_requireCrate 4 = .ok (.iload_n 1, 1) := by decide +kernel
theorem dX3_requireCrate_5 : decode cX3_requireCrate 5 = .ok (.aload_n 0, 1) := by decide +kernel
theorem dX3_requireCrate_6 : decode cX3_requireCrate 6 = .ok (.getfield 40, 3) := by decide +kernel
theorem dX3_requireCrate_9 : decode cX3_requireCrate 9 = .ok (.if_icmp .lt 13, 3) := by decide +kernel
theorem dX3_requireCrate_12 : decode cX3_requireCrate 12 = .ok (.new 166, 3) := by decide +kernel
theorem dX3_requireCrate_15 : decode cX3_requireCrate 15 = .ok (.dup, 1) := by decide +kernel
theorem dX3_requireCrate_16 : decode cX3_requireCrate 16 = .ok (.ldc 244, 2) := by decide +kernel
theorem dX3_requireCrate_18 : decode cX3_requireCrate 18 = .ok (.invokespecial 170, 3) := by decide +kernel
theorem dX3_requireCrate_21 : decode cX3_requireCrate 21 = .ok (.athrow, 1) := by decide +kernel
theorem dX3_requireCrate_22 : decode cX3_requireCrate 22 = .ok (.return_, 1) := by decide +kernel
theorem dX3_requireHaul_0 : decode cX3_requireHaul 0 = .ok (.iload_n 1, 1) := by decide +kernel
theorem dX3_requireHaul_1 : decode cX3_requireHaul 1 = .ok (.ifCond .lt 14, 3) := by decide +kernel
theorem dX3_requireHaul_4 : decode cX3_requireHaul 4 = .ok (.iload_n 1, 1) := by decide +kernel
theorem dX3_requireHaul_5 : decode cX3_requireHaul 5 = .ok (.aload_n 0, 1) := by decide +kernel
theorem dX3_requireHaul_6 : decode cX3_requireHaul 6 = .ok (.getfield 29, 3) := by decide +kernel
theorem dX3_requireHaul_9 : decode cX3_requireHaul 9 = .ok (.invokevirtual 184, 3) := by decide +kernel
theorem dX3_requireHaul_12 : decode cX3_requireHaul 12 = .ok (.if_icmp .lt 13, 3) := by decide +kernel
theorem dX3_requireHaul_15 : decode cX3_requireHaul 15 = .ok (.new 166, 3) := by decide +kernel
theorem dX3_requireHaul_18 : decode cX3_requireHaul 18 = .ok (.dup, 1) := by decide +kernel
theorem dX3_requireHaul_19 : decode cX3_requireHaul 19 = .ok (.ldc 246, 2) := by decide +kernel
theorem dX3_requireHaul_21 : decode cX3_requireHaul 21 = .ok (.invokespecial 170, 3) := by decide +kernel
theorem dX3_requireHaul_24 : decode cX3_requireHaul 24 = .ok (.athrow, 1) := by decide +kernel
theorem dX3_requireHaul_25 : decode cX3_requireHaul 25 = .ok (.return_, 1) := by decide +kernel
theorem dX3_requireOffered_0 : decode cX3_requireOffered 0 = .ok (.aload_n 0, 1) := by decide +kernel
theorem dX3_requireOffered_1 : decode cX3_requireOffered 1 = .ok (.getfield 29, 3) := by decide +kernel
theorem dX3_requireOffered_4 : decode cX3_requireOffered 4 = .ok (.iload_n 1, 1) := by decide +kernel
theorem dX3_requireOffered_5 : decode cX3_requireOffered 5 = .ok (.invokevirtual 216, 3) := by decide +kernel
theorem dX3_requireOffered_8 : decode cX3_requireOffered 8 = .ok (.ifCond .eq 13, 3) := by decide +kernel
theorem dX3_requireOffered_11 : decode cX3_requireOffered 11 = .ok (.new 74, 3) := by decide +kernel
theorem dX3_requireOffered_14 : decode cX3_requireOffered 14 = .ok (.dup, 1) := by decide +kernel
theorem dX3_requireOffered_15 : decode cX3_requireOffered 15 = .ok (.ldc 248, 2) := by decide +kernel
theorem dX3_requireOffered_17 : decode cX3_requireOffered 17 = .ok (.invokespecial 78, 3) := by decide +kernel
theorem dX3_requireOffered_20 : decode cX3_requireOffered 20 = .ok (.athrow, 1) := by decide +kernel
theorem dX3_requireOffered_21 : decode cX3_requireOffered 21 = .ok (.return_, 1) := by decide +kernel
theorem dX3_requireEmptyCrane_0 : decode cX3_requireEmptyCrane 0 = .ok (.aload_n 0, 1) := by decide +kernel
theorem dX3_requireEmptyCrane_1 : decode cX3_requireEmptyCrane 1 = .ok (.getfield 44, 3) := by decide +kernel
theorem dX3_requireEmptyCrane_4 : decode cX3_requireEmptyCrane 4 = .ok (.iconst (-1), 1) := by decide +kernel
theorem dX3_requireEmptyCrane_5 : decode cX3_requireEmptyCrane 5 = .ok (.if_icmp .eq 13, 3) := by decide +kernel
theorem dX3_requireEmptyCrane_8 : decode cX3_requireEmptyCrane 8 = .ok (.new 74, 3) := by decide +kernel
theorem dX3_requireEmptyCrane_11 : decode cX3_requireEmptyCrane 11 = .ok (.dup, 1) := by decide +kernel
theorem dX3_requireEmptyCrane_12 : decode cX3_requireEmptyCrane 12 = .ok (.ldc 250, 2) := by decide +kernel
theorem dX3_requireEmptyCrane_14 : decode cX3_requireEmptyCrane 14 = .ok (.invokespecial 78, 3) := by decide +kernel
theorem dX3_requireEmptyCrane_17 : decode cX3_requireEmptyCrane 17 = .ok (.athrow, 1) := by decide +kernel
theorem dX3_requireEmptyCrane_18 : decode cX3_requireEmptyCrane 18 = .ok (.return_, 1) := by decide +kernel
theorem dX3_requireFullCrane_0 : decode cX3_requireFullCrane 0 = .ok (.aload_n 0, 1) := by decide +kernel
theorem dX3_requireFullCrane_1 : decode cX3_requireFullCrane 1 = .ok (.getfield 44, 3) := by decide +kernel
theorem dX3_requireFullCrane_4 : decode cX3_requireFullCrane 4 = .ok (.iconst (-1), 1) := by decide +kernel
theorem dX3_requireFullCrane_5 : decode cX3_requireFullCrane 5 = .ok (.if_icmp .ne 13, 3) := by decide +kernel
theorem dX3_requireFullCrane_8 : decode cX3_requireFullCrane 8 = .ok (.new 74, 3) := by decide +kernel
theorem dX3_requireFullCrane_11 : decode cX3_requireFullCrane 11 = .ok (.dup, 1) := by decide +kernel
theorem dX3_requireFullCrane_12 : decode cX3_requireFullCrane 12 = .ok (.ldc 252, 2) := by decide +kernel
theorem dX3_requireFullCrane_14 : decode cX3_requireFullCrane 14 = .ok (.invokespecial 78, 3) := by decide +kernel
theorem dX3_requireFullCrane_17 : decode cX3_requireFullCrane 17 = .ok (.athrow, 1) := by decide +kernel
theorem dX3_requireFullCrane_18 : decode cX3_requireFullCrane 18 = .ok (.return_, 1) := by decide +kernel
theorem dX3_requireInStack_0 : decode cX3_requireInStack 0 = .ok (.aload_n 0, 1) := by decide +kernel
theorem dX3_requireInStack_1 : decode cX3_requireInStack 1 = .ok (.getfield 10, 3) := by decide +kernel
theorem dX3_requireInStack_4 : decode cX3_requireInStack 4 = .ok (.iload_n 1, 1) := by decide +kernel
theorem dX3_requireInStack_5 : decode cX3_requireInStack 5 = .ok (.invokevirtual 135, 3) := by decide +kernel
theorem dX3_requireInStack_8 : decode cX3_requireInStack 8 = .ok (.iconst (-1), 1) := by decide +kernel
theorem dX3_requireInStack_9 : decode cX3_requireInStack 9 = .ok (.if_icmp .ne 13, 3) := by decide +kernel
theorem dX3_requireInStack_12 : decode cX3_requireInStack 12 = .ok (.new 74, 3) := by decide +kernel
theorem dX3_requireInStack_15 : decode cX3_requireInStack 15 = .ok (.dup, 1) := by decide +kernel
theorem dX3_requireInStack_16 : decode cX3_requireInStack 16 = .ok (.ldc 254, 2) := by decide +kernel
theorem dX3_requireInStack_18 : decode cX3_requireInStack 18 = .ok (.invokespecial 78, 3) := by decide +kernel
theorem dX3_requireInStack_21 : decode cX3_requireInStack 21 = .ok (.athrow, 1) := by decide +kernel
theorem dX3_requireInStack_22 : decode cX3_requireInStack 22 = .ok (.return_, 1) := by decide +kernel
theorem dX3_requireRoom_0 : decode cX3_requireRoom 0 = .ok (.aload_n 0, 1) := by decide +kernel
theorem dX3_requireRoom_1 : decode cX3_requireRoom 1 = .ok (.getfield 10, 3) := by decide +kernel
theorem dX3_requireRoom_4 : decode cX3_requireRoom 4 = .ok (.iload_n 1, 1) := by decide +kernel
theorem dX3_requireRoom_5 : decode cX3_requireRoom 5 = .ok (.iload_n 2, 1) := by decide +kernel
theorem dX3_requireRoom_6 : decode cX3_requireRoom 6 = .ok (.aload_n 0, 1) := by decide +kernel
theorem dX3_requireRoom_7 : decode cX3_requireRoom 7 = .ok (.invokevirtual 120, 3) := by decide +kernel
theorem dX3_requireRoom_10 : decode cX3_requireRoom 10 = .ok (.invokevirtual 256, 3) := by decide +kernel
theorem dX3_requireRoom_13 : decode cX3_requireRoom 13 = .ok (.ifCond .ne 14, 3) := by decide +kernel
theorem dX3_requireRoom_16 : decode cX3_requireRoom 16 = .ok (.new 74, 3) := by decide +kernel
theorem dX3_requireRoom_19 : decode cX3_requireRoom 19 = .ok (.dup, 1) := by decide +kernel
theorem dX3_requireRoom_20 : decode cX3_requireRoom 20 = .ok (.ldc_w 260, 3) := by decide +kernel
theorem dX3_requireRoom_23 : decode cX3_requireRoom 23 = .ok (.invokespecial 78, 3) := by decide +kernel
theorem dX3_requireRoom_26 : decode cX3_requireRoom 26 = .ok (.athrow, 1) := by decide +kernel
theorem dX3_requireRoom_27 : decode cX3_requireRoom 27 = .ok (.return_, 1) := by decide +kernel
theorem dX3_mostPlaces_0 : decode cX3_mostPlaces 0 = .ok (.aload_n 0, 1) := by decide +kernel
theorem dX3_mostPlaces_1 : decode cX3_mostPlaces 1 = .ok (.getfield 53, 3) := by decide +kernel
theorem dX3_mostPlaces_4 : decode cX3_mostPlaces 4 = .ok (.ifCond .eq 7, 3) := by decide +kernel
theorem dX3_mostPlaces_7 : decode cX3_mostPlaces 7 = .ok (.iconst 3, 1) := by decide +kernel
theorem dX3_mostPlaces_8 : decode cX3_mostPlaces 8 = .ok (.goto 4, 3) := by decide +kernel
theorem dX3_mostPlaces_11 : decode cX3_mostPlaces 11 = .ok (.iconst 5, 1) := by decide +kernel
theorem dX3_mostPlaces_12 : decode cX3_mostPlaces 12 = .ok (.ireturn, 1) := by decide +kernel
theorem dX3_payWords_0 : decode cX3_payWords 0 = .ok (.iconst 0, 1) := by decide +kernel
theorem dX3_payWords_1 : decode cX3_payWords 1 = .ok (.istore_n 1, 1) := by decide +kernel
theorem dX3_payWords_2 : decode cX3_payWords 2 = .ok (.iconst 0, 1) := by decide +kernel
theorem dX3_payWords_3 : decode cX3_payWords 3 = .ok (.istore_n 2, 1) := by decide +kernel
theorem dX3_payWords_4 : decode cX3_payWords 4 = .ok (.iload_n 2, 1) := by decide +kernel
theorem dX3_payWords_5 : decode cX3_payWords 5 = .ok (.bipush 6, 2) := by decide +kernel
theorem dX3_payWords_7 : decode cX3_payWords 7 = .ok (.if_icmp .ge 49, 3) := by decide +kernel
theorem dX3_payWords_10 : decode cX3_payWords 10 = .ok (.aload_n 0, 1) := by decide +kernel
theorem dX3_payWords_11 : decode cX3_payWords 11 = .ok (.getfield 10, 3) := by decide +kernel
theorem dX3_payWords_14 : decode cX3_payWords 14 = .ok (.iload_n 2, 1) := by decide +kernel
theorem dX3_payWords_15 : decode cX3_payWords 15 = .ok (.invokevirtual 262, 3) := by decide +kernel
theorem dX3_payWords_18 : decode cX3_payWords 18 = .ok (.istore_n 3, 1) := by decide +kernel
theorem dX3_payWords_19 : decode cX3_payWords 19 = .ok (.iload_n 3, 1) := by decide +kernel
theorem dX3_payWords_20 : decode cX3_payWords 20 = .ok (.ifCond .lt 30, 3) := by decide +kernel
theorem dX3_payWords_23 : decode cX3_payWords 23 = .ok (.iload_n 3, 1) := by decide +kernel
theorem dX3_payWords_24 : decode cX3_payWords 24 = .ok (.bipush 30, 2) := by decide +kernel
theorem dX3_payWords_26 : decode cX3_payWords 26 = .ok (.if_icmp .ge 24, 3) := by decide +kernel
theorem dX3_payWords_29 : decode cX3_payWords 29 = .ok (.iload_n 1, 1) := by decide +kernel
theorem dX3_payWords_30 : decode cX3_payWords 30 = .ok (.bipush 6, 2) := by decide +kernel
theorem dX3_payWords_32 : decode cX3_payWords 32 = .ok (.if_icmp .ge 18, 3) := by decide +kernel
theorem dX3_payWords_35 : decode cX3_payWords 35 = .ok (.aload_n 0, 1) := by decide +kernel
theorem dX3_payWords_36 : decode cX3_payWords 36 = .ok (.getfield 37, 3) := by decide +kernel
theorem dX3_payWords_39 : decode cX3_payWords 39 = .ok (.iload_n 1, 1) := by decide +kernel
theorem dX3_payWords_40 : decode cX3_payWords 40 = .ok (.aload_n 0, 1) := by decide +kernel
theorem dX3_payWords_41 : decode cX3_payWords 41 = .ok (.getfield 33, 3) := by decide +kernel
theorem dX3_payWords_44 : decode cX3_payWords 44 = .ok (.iload_n 3, 1) := by decide +kernel
theorem dX3_payWords_45 : decode cX3_payWords 45 = .ok (.iaload, 1) := by decide +kernel
theorem dX3_payWords_46 : decode cX3_payWords 46 = .ok (.iastore, 1) := by decide +kernel
theorem dX3_payWords_47 : decode cX3_payWords 47 = .ok (.iinc 1 1, 3) := by decide +kernel
theorem dX3_payWords_50 : decode cX3_payWords 50 = .ok (.iinc 2 1, 3) := by decide +kernel
theorem dX3_payWords_53 : decode cX3_payWords 53 = .ok (.goto (-49), 3) := by decide +kernel
theorem dX3_payWords_56 : decode cX3_payWords 56 = .ok (.aload_n 0, 1) := by decide +kernel
theorem dX3_payWords_57 : decode cX3_payWords 57 = .ok (.getfield 22, 3) := by decide +kernel
theorem dX3_payWords_60 : decode cX3_payWords 60 = .ok (.aload_n 0, 1) := by decide +kernel
theorem dX3_payWords_61 : decode cX3_payWords 61 = .ok (.getfield 37, 3) := by decide +kernel
theorem dX3_payWords_64 : decode cX3_payWords 64 = .ok (.iload_n 1, 1) := by decide +kernel
theorem dX3_payWords_65 : decode cX3_payWords 65 = .ok (.invokevirtual 265, 3) := by decide +kernel
theorem dX3_payWords_68 : decode cX3_payWords 68 = .ok (.return_, 1) := by decide +kernel
theorem dX3_endDay_0 : decode cX3_endDay 0 = .ok (.aload_n 0, 1) := by decide +kernel
theorem dX3_endDay_1 : decode cX3_endDay 1 = .ok (.dup, 1) := by decide +kernel
theorem dX3_endDay_2 : decode cX3_endDay 2 = .ok (.getfield 57, 3) := by decide +kernel
theorem dX3_endDay_5 : decode cX3_endDay 5 = .ok (.aload_n 0, 1) := by decide +kernel
theorem dX3_endDay_6 : decode cX3_endDay 6 = .ok (.getfield 10, 3) := by decide +kernel
theorem dX3_endDay_9 : decode cX3_endDay 9 = .ok (.invokevirtual 269, 3) := by decide +kernel
theorem dX3_endDay_12 : decode cX3_endDay 12 = .ok (.iadd, 1) := by decide +kernel
theorem dX3_endDay_13 : decode cX3_endDay 13 = .ok (.putfield 57, 3) := by decide +kernel
theorem dX3_endDay_16 : decode cX3_endDay 16 = .ok (.aload_n 0, 1) := by decide +kernel
theorem dX3_endDay_17 : decode cX3_endDay 17 = .ok (.getfield 29, 3) := by decide +kernel
theorem dX3_endDay_20 : decode cX3_endDay 20 = .ok (.aload_n 0, 1) := by decide +kernel
theorem dX3_endDay_21 : decode cX3_endDay 21 = .ok (.getfield 50, 3) := by decide +kernel
theorem dX3_endDay_24 : decode cX3_endDay 24 = .ok (.invokevirtual 272, 3) := by decide +kernel
theorem dX3_endDay_27 : decode cX3_endDay 27 = .ok (.aload_n 0, 1) := by decide +kernel
theorem dX3_endDay_28 : decode cX3_endDay 28 = .ok (.dup, 1) := by decide +kernel
theorem dX3_endDay_29 : decode cX3_endDay 29 = .ok (.getfield 50, 3) := by decide +kernel
theorem dX3_endDay_32 : decode cX3_endDay 32 = .ok (.iconst 1, 1) := by decide +kernel
theorem dX3_endDay_33 : decode cX3_endDay 33 = .ok (.iadd, 1) := by decide +kernel
theorem dX3_endDay_34 : decode cX3_endDay 34 = .ok (.putfield 50, 3) := by decide +kernel
theorem dX3_endDay_37 : decode cX3_endDay 37 = .ok (.aload_n 0, 1) := by decide +kernel
theorem dX3_endDay_38 : decode cX3_endDay 38 = .ok (.iconst 0, 1) := by decide +kernel
theorem dX3_endDay_39 : decode cX3_endDay 39 = .ok (.putfield 53, 3) := by decide +kernel
theorem dX3_endDay_42 : decode cX3_endDay 42 = .ok (.return_, 1) := by decide +kernel
theorem dX3_areInStacks_0 : decode cX3_areInStacks 0 = .ok (.iload_n 1, 1) := by decide +kernel
theorem dX3_areInStacks_1 : decode cX3_areInStacks 1 = .ok (.invokestatic 144, 3) := by decide +kernel
theorem dX3_areInStacks_4 : decode cX3_areInStacks 4 = .ok (.istore_n 2, 1) := by decide +kernel
theorem dX3_areInStacks_5 : decode cX3_areInStacks 5 = .ok (.iload_n 2, 1) := by decide +kernel
theorem dX3_areInStacks_6 : decode cX3_areInStacks 6 = .ok (.iconst 1, 1) := by decide +kernel
theorem dX3_areInStacks_7 : decode cX3_areInStacks 7 = .ok (.if_icmp .lt 8, 3) := by decide +kernel
theorem dX3_areInStacks_10 : decode cX3_areInStacks 10 = .ok (.iload_n 2, 1) := by decide +kernel
theorem dX3_areInStacks_11 : decode cX3_areInStacks 11 = .ok (.iconst 4, 1) := by decide +kernel
theorem dX3_areInStacks_12 : decode cX3_areInStacks 12 = .ok (.if_icmp .le 5, 3) := by decide +kernel
theorem dX3_areInStacks_15 : decode cX3_areInStacks 15 = .ok (.iconst 0, 1) := by decide +kernel
theorem dX3_areInStacks_16 : decode cX3_areInStacks 16 = .ok (.ireturn, 1) := by decide +kernel
theorem dX3_areInStacks_17 : decode cX3_areInStacks 17 = .ok (.iconst 0, 1) := by decide +kernel
theorem dX3_areInStacks_18 : decode cX3_areInStacks 18 = .ok (.istore_n 3, 1) := by decide +kernel
theorem dX3_areInStacks_19 : decode cX3_areInStacks 19 = .ok (.iload_n 3, 1) := by decide +kernel
theorem dX3_areInStacks_20 : decode cX3_areInStacks 20 = .ok (.bipush 32, 2) := by decide +kernel
theorem dX3_areInStacks_22 : decode cX3_areInStacks 22 = .ok (.if_icmp .ge 31, 3) := by decide +kernel
theorem dX3_areInStacks_25 : decode cX3_areInStacks 25 = .ok (.iload_n 1, 1) := by decide +kernel
theorem dX3_areInStacks_26 : decode cX3_areInStacks 26 = .ok (.iload_n 3, 1) := by decide +kernel
theorem dX3_areInStacks_27 : decode cX3_areInStacks 27 = .ok (.invokestatic 274, 3) := by decide +kernel
theorem dX3_areInStacks_30 : decode cX3_areInStacks 30 = .ok (.ifCond .eq 17, 3) := by decide +kernel
theorem dX3_areInStacks_33 : decode cX3_areInStacks 33 = .ok (.aload_n 0, 1) := by decide +kernel
theorem dX3_areInStacks_34 : decode cX3_areInStacks 34 = .ok (.getfield 10, 3) := by decide +kernel
theorem dX3_areInStacks_37 : decode cX3_areInStacks 37 = .ok (.iload_n 3, 1) := by decide +kernel
theorem dX3_areInStacks_38 : decode cX3_areInStacks 38 = .ok (.invokevirtual 135, 3) := by decide +kernel
theorem dX3_areInStacks_41 : decode cX3_areInStacks 41 = .ok (.iconst (-1), 1) := by decide +kernel
theorem dX3_areInStacks_42 : decode cX3_areInStacks 42 = .ok (.if_icmp .ne 5, 3) := by decide +kernel
theorem dX3_areInStacks_45 : decode cX3_areInStacks 45 = .ok (.iconst 0, 1) := by decide +kernel
theorem dX3_areInStacks_46 : decode cX3_areInStacks 46 = .ok (.ireturn, 1) := by decide +kernel
theorem dX3_areInStacks_47 : decode cX3_areInStacks 47 = .ok (.iinc 3 1, 3) := by decide +kernel
theorem dX3_areInStacks_50 : decode cX3_areInStacks 50 = .ok (.goto (-31), 3) := by decide +kernel
theorem dX3_areInStacks_53 : decode cX3_areInStacks 53 = .ok (.iconst 1, 1) := by decide +kernel
theorem dX3_areInStacks_54 : decode cX3_areInStacks 54 = .ok (.ireturn, 1) := by decide +kernel
theorem dX3_contains_0 : decode cX3_contains 0 = .ok (.iload_n 0, 1) := by decide +kernel
theorem dX3_contains_1 : decode cX3_contains 1 = .ok (.iload_n 1, 1) := by decide +kernel
theorem dX3_contains_2 : decode cX3_contains 2 = .ok (.iushr, 1) := by decide +kernel
theorem dX3_contains_3 : decode cX3_contains 3 = .ok (.iconst 1, 1) := by decide +kernel
theorem dX3_contains_4 : decode cX3_contains 4 = .ok (.iand, 1) := by decide +kernel
theorem dX3_contains_5 : decode cX3_contains 5 = .ok (.iconst 1, 1) := by decide +kernel
theorem dX3_contains_6 : decode cX3_contains 6 = .ok (.if_icmp .ne 7, 3) := by decide +kernel
theorem dX3_contains_9 : decode cX3_contains 9 = .ok (.iconst 1, 1) := by decide +kernel
theorem dX3_contains_10 : decode cX3_contains 10 = .ok (.goto 4, 3) := by decide +kernel
theorem dX3_contains_13 : decode cX3_contains 13 = .ok (.iconst 0, 1) := by decide +kernel
theorem dX3_contains_14 : decode cX3_contains 14 = .ok (.ireturn, 1) := by decide +kernel
theorem dX3_ordersOf_0 : decode cX3_ordersOf 0 = .ok (.iconst 1, 1) := by decide +kernel
theorem dX3_ordersOf_1 : decode cX3_ordersOf 1 = .ok (.istore_n 1, 1) := by decide +kernel
theorem dX3_ordersOf_2 : decode cX3_ordersOf 2 = .ok (.iconst 2, 1) := by decide +kernel
theorem dX3_ordersOf_3 : decode cX3_ordersOf 3 = .ok (.istore_n 2, 1) := by decide +kernel
theorem dX3_ordersOf_4 : decode cX3_ordersOf 4 = .ok (.iload_n 2, 1) := by decide +kernel
theorem dX3_ordersOf_5 : decode cX3_ordersOf 5 = .ok (.iload_n 0, 1) := by decide +kernel
theorem dX3_ordersOf_6 : decode cX3_ordersOf 6 = .ok (.if_icmp .gt 13, 3) := by decide +kernel
theorem dX3_ordersOf_9 : decode cX3_ordersOf 9 = .ok (.iload_n 1, 1) := by decide +kernel
theorem dX3_ordersOf_10 : decode cX3_ordersOf 10 = .ok (.iload_n 2, 1) := by decide +kernel
theorem dX3_ordersOf_11 : decode cX3_ordersOf 11 = .ok (.imul, 1) := by decide +kernel
theorem dX3_ordersOf_12 : decode cX3_ordersOf 12 = .ok (.istore_n 1, 1) := by decide +kernel
theorem dX3_ordersOf_13 : decode cX3_ordersOf 13 = .ok (.iinc 2 1, 3) := by decide +kernel
theorem dX3_ordersOf_16 : decode cX3_ordersOf 16 = .ok (.goto (-12), 3) := by decide +kernel
theorem dX3_ordersOf_19 : decode cX3_ordersOf 19 = .ok (.iload_n 1, 1) := by decide +kernel
theorem dX3_ordersOf_20 : decode cX3_ordersOf 20 = .ok (.ireturn, 1) := by decide +kernel
theorem dX3_liftsInOrder_0 : decode cX3_liftsInOrder 0 = .ok (.aload_n 0, 1) := by decide +kernel
theorem dX3_liftsInOrder_1 : decode cX3_liftsInOrder 1 = .ok (.getfield 16, 3) := by decide +kernel
theorem dX3_liftsInOrder_4 : decode cX3_liftsInOrder 4 = .ok (.aload_n 0, 1) := by decide +kernel
theorem dX3_liftsInOrder_5 : decode cX3_liftsInOrder 5 = .ok (.getfield 10, 3) := by decide +kernel
theorem dX3_liftsInOrder_8 : decode cX3_liftsInOrder 8 = .ok (.invokevirtual 116, 3) := by decide +kernel
theorem dX3_liftsInOrder_11 : decode cX3_liftsInOrder 11 = .ok (.iload_n 1, 1) := by decide +kernel
theorem dX3_liftsInOrder_12 : decode cX3_liftsInOrder 12 = .ok (.istore_n 3, 1) := by decide +kernel
theorem dX3_liftsInOrder_13 : decode cX3_liftsInOrder 13 = .ok (.iload_n 2, 1) := by decide +kernel
theorem dX3_liftsInOrder_14 : decode cX3_liftsInOrder 14 = .ok (.istore 4, 2) := by decide +kernel
theorem dX3_liftsInOrder_16 : decode cX3_liftsInOrder 16 = .ok (.iconst 0, 1) := by decide +kernel
theorem dX3_liftsInOrder_17 : decode cX3_liftsInOrder 17 = .ok (.istore 5, 2) := by decide +kernel
theorem dX3_liftsInOrder_19 : decode cX3_liftsInOrder 19 = .ok (.iload_n 1, 1) := by decide +kernel
theorem dX3_liftsInOrder_20 : decode cX3_liftsInOrder 20 = .ok (.invokestatic 144, 3) := by decide +kernel
theorem dX3_liftsInOrder_23 : decode cX3_liftsInOrder 23 = .ok (.istore 6, 2) := by decide +kernel
theorem dX3_liftsInOrder_25 : decode cX3_liftsInOrder 25 = .ok (.iload 6, 2) := by decide +kernel
theorem dX3_liftsInOrder_27 : decode cX3_liftsInOrder 27 = .ok (.ifCond .le 66, 3) := by decide +kernel
theorem dX3_liftsInOrder_30 : decode cX3_liftsInOrder 30 = .ok (.iload_n 3, 1) := by decide +kernel
theorem dX3_liftsInOrder_31 : decode cX3_liftsInOrder 31 = .ok (.iload 4, 2) := by decide +kernel
theorem dX3_liftsInOrder_33 : decode cX3_liftsInOrder 33 = .ok (.iload 6, 2) := by decide +kernel
theorem dX3_liftsInOrder_35 : decode cX3_liftsInOrder 35 = .ok (.irem, 1) := by decide +kernel
theorem dX3_liftsInOrder_36 : decode cX3_liftsInOrder 36 = .ok (.invokestatic 278, 3) := by decide +kernel
theorem dX3_liftsInOrder_39 : decode cX3_liftsInOrder 39 = .ok (.istore 7, 2) := by decide +kernel
theorem dX3_liftsInOrder_41 : decode cX3_liftsInOrder 41 = .ok (.aload_n 0, 1) := by decide +kernel
theorem dX3_liftsInOrder_42 : decode cX3_liftsInOrder 42 = .ok (.getfield 16, 3) := by decide +kernel
theorem dX3_liftsInOrder_45 : decode cX3_liftsInOrder 45 = .ok (.iload 7, 2) := by decide +kernel
theorem dX3_liftsInOrder_47 : decode cX3_liftsInOrder 47 = .ok (.aload_n 0, 1) := by decide +kernel
theorem dX3_liftsInOrder_48 : decode cX3_liftsInOrder 48 = .ok (.invokevirtual 120, 3) := by decide +kernel
theorem dX3_liftsInOrder_51 : decode cX3_liftsInOrder 51 = .ok (.invokevirtual 124, 3) := by decide +kernel
theorem dX3_liftsInOrder_54 : decode cX3_liftsInOrder 54 = .ok (.istore 8, 2) := by decide +kernel
theorem dX3_liftsInOrder_56 : decode cX3_liftsInOrder 56 = .ok (.iload 8, 2) := by decide +kernel
theorem dX3_liftsInOrder_58 : decode cX3_liftsInOrder 58 = .ok (.iconst (-1), 1) := by decide +kernel
theorem dX3_liftsInOrder_59 : decode cX3_liftsInOrder 59 = .ok (.if_icmp .ne 5, 3) := by decide +kernel
theorem dX3_liftsInOrder_62 : decode cX3_liftsInOrder 62 = .ok (.iconst (-1), 1) := by decide +kernel
theorem dX3_liftsInOrder_63 : decode cX3_liftsInOrder 63 = .ok (.ireturn, 1) := by decide +kernel
theorem dX3_liftsInOrder_64 : decode cX3_liftsInOrder 64 = .ok (.iload 5, 2) := by decide +kernel
theorem dX3_liftsInOrder_66 : decode cX3_liftsInOrder 66 = .ok (.iload 8, 2) := by decide +kernel
theorem dX3_liftsInOrder_68 : decode cX3_liftsInOrder 68 = .ok (.iadd, 1) := by decide +kernel
theorem dX3_liftsInOrder_69 : decode cX3_liftsInOrder 69 = .ok (.istore 5, 2) := by decide +kernel
theorem dX3_liftsInOrder_71 : decode cX3_liftsInOrder 71 = .ok (.iload_n 3, 1) := by decide +kernel
theorem dX3_liftsInOrder_72 : decode cX3_liftsInOrder 72 = .ok (.iconst 1, 1) := by decide +kernel
theorem dX3_liftsInOrder_73 : decode cX3_liftsInOrder 73 = .ok (.iload 7, 2) := by decide +kernel
theorem dX3_liftsInOrder_75 : decode cX3_liftsInOrder 75 = .ok (.ishl, 1) := by decide +kernel
theorem dX3_liftsInOrder_76 : decode cX3_liftsInOrder 76 = .ok (.iconst (-1), 1) := by decide +kernel
theorem dX3_liftsInOrder_77 : decode cX3_liftsInOrder 77 = .ok (.ixor, 1) := by decide +kernel
theorem dX3_liftsInOrder_78 : decode cX3_liftsInOrder 78 = .ok (.iand, 1) := by decide +kernel
theorem dX3_liftsInOrder_79 : decode cX3_liftsInOrder 79 = .ok (.istore_n 3, 1) := by decide +kernel
theorem dX3_liftsInOrder_80 : decode cX3_liftsInOrder 80 = .ok (.iload 4, 2) := by decide +kernel
theorem dX3_liftsInOrder_82 : decode cX3_liftsInOrder 82 = .ok (.iload 6, 2) := by decide +kernel
theorem dX3_liftsInOrder_84 : decode cX3_liftsInOrder 84 = .ok (.idiv, 1) := by decide +kernel
theorem dX3_liftsInOrder_85 : decode cX3_liftsInOrder 85 = .ok (.istore 4, 2) := by decide +kernel
theorem dX3_liftsInOrder_87 : decode cX3_liftsInOrder 87 = .ok (.iinc 6 (-1), 3) := by decide +kernel
theorem dX3_liftsInOrder_90 : decode cX3_liftsInOrder 90 = .ok (.goto (-65), 3) := by decide +kernel
theorem dX3_liftsInOrder_93 : decode cX3_liftsInOrder 93 = .ok (.iload 5, 2) := by decide +kernel
theorem dX3_liftsInOrder_95 : decode cX3_liftsInOrder 95 = .ok (.ireturn, 1) := by decide +kernel
theorem dX3_memberOf_0 : decode cX3_memberOf 0 = .ok (.iconst 0, 1) := by decide +kernel
theorem dX3_memberOf_1 : decode cX3_memberOf 1 = .ok (.istore_n 2, 1) := by decide +kernel
theorem dX3_memberOf_2 : decode cX3_memberOf 2 = .ok (.iconst 0, 1) := by decide +kernel
theorem dX3_memberOf_3 : decode cX3_memberOf 3 = .ok (.istore_n 3, 1) := by decide +kernel
theorem dX3_memberOf_4 : decode cX3_memberOf 4 = .ok (.iload_n 3, 1) := by decide +kernel
theorem dX3_memberOf_5 : decode cX3_memberOf 5 = .ok (.bipush 30, 2) := by decide +kernel
theorem dX3_memberOf_7 : decode cX3_memberOf 7 = .ok (.if_icmp .ge 27, 3) := by decide +kernel
theorem dX3_memberOf_10 : decode cX3_memberOf 10 = .ok (.iload_n 0, 1) := by decide +kernel
theorem dX3_memberOf_11 : decode cX3_memberOf 11 = .ok (.iload_n 3, 1) := by decide +kernel
theorem dX3_memberOf_12 : decode cX3_memberOf 12 = .ok (.invokestatic 274, 3) := by decide +kernel
theorem dX3_memberOf_15 : decode cX3_memberOf 15 = .ok (.ifCond .eq 13, 3) := by decide +kernel
theorem dX3_memberOf_18 : decode cX3_memberOf 18 = .ok (.iload_n 2, 1) := by decide +kernel
theorem dX3_memberOf_19 : decode cX3_memberOf 19 = .ok (.iload_n 1, 1) := by decide +kernel
theorem dX3_memberOf_20 : decode cX3_memberOf 20 = .ok (.if_icmp .ne 5, 3) := by decide +kernel
theorem dX3_memberOf_23 : decode cX3_memberOf 23 = .ok (.iload_n 3, 1) := by decide +kernel
theorem dX3_memberOf_24 : decode cX3_memberOf 24 = .ok (.ireturn, 1) := by decide +kernel
theorem dX3_memberOf_25 : decode cX3_memberOf 25 = .ok (.iinc 2 1, 3) := by decide +kernel
theorem dX3_memberOf_28 : decode cX3_memberOf 28 = .ok (.iinc 3 1, 3) := by decide +kernel
theorem dX3_memberOf_31 : decode cX3_memberOf 31 = .ok (.goto (-27), 3) := by decide +kernel
theorem dX3_memberOf_34 : decode cX3_memberOf 34 = .ok (.iconst (-1), 1) := by decide +kernel
theorem dX3_memberOf_35 : decode cX3_memberOf 35 = .ok (.ireturn, 1) := by decide +kernel
theorem dX4_init_0 : decode cX4_init 0 = .ok (.aload_n 0, 1) := by decide +kernel
theorem dX4_init_1 : decode cX4_init 1 = .ok (.invokespecial 1, 3) := by decide +kernel
theorem dX4_init_4 : decode cX4_init 4 = .ok (.aload_n 0, 1) := by decide +kernel
theorem dX4_init_5 : decode cX4_init 5 = .ok (.bipush 30, 2) := by decide +kernel
theorem dX4_init_7 : decode cX4_init 7 = .ok (.newarray .int, 2) := by decide +kernel
theorem dX4_init_9 : decode cX4_init 9 = .ok (.putfield 7, 3) := by decide +kernel
theorem dX4_init_12 : decode cX4_init 12 = .ok (.aload_n 0, 1) := by decide +kernel
theorem dX4_init_13 : decode cX4_init 13 = .ok (.bipush 6, 2) := by decide +kernel
theorem dX4_init_15 : decode cX4_init 15 = .ok (.newarray .int, 2) := by decide +kernel
theorem dX4_init_17 : decode cX4_init 17 = .ok (.putfield 13, 3) := by decide +kernel
theorem dX4_init_20 : decode cX4_init 20 = .ok (.aload_n 0, 1) := by decide +kernel
theorem dX4_init_21 : decode cX4_init 21 = .ok (.bipush 30, 2) := by decide +kernel
theorem dX4_init_23 : decode cX4_init 23 = .ok (.newarray .int, 2) := by decide +kernel
theorem dX4_init_25 : decode cX4_init 25 = .ok (.putfield 16, 3) := by decide +kernel
theorem dX4_init_28 : decode cX4_init 28 = .ok (.aload_n 0, 1) := by decide +kernel
theorem dX4_init_29 : decode cX4_init 29 = .ok (.bipush 30, 2) := by decide +kernel
theorem dX4_init_31 : decode cX4_init 31 = .ok (.newarray .int, 2) := by decide +kernel
theorem dX4_init_33 : decode cX4_init 33 = .ok (.putfield 19, 3) := by decide +kernel
theorem dX4_init_36 : decode cX4_init 36 = .ok (.aload_n 0, 1) := by decide +kernel
theorem dX4_init_37 : decode cX4_init 37 = .ok (.iconst (-1), 1) := by decide +kernel
theorem dX4_init_38 : decode cX4_init 38 = .ok (.putfield 22, 3) := by decide +kernel
theorem dX4_init_41 : decode cX4_init 41 = .ok (.aload_n 0, 1) := by decide +kernel
theorem dX4_init_42 : decode cX4_init 42 = .ok (.bipush 30, 2) := by decide +kernel
theorem dX4_init_44 : decode cX4_init 44 = .ok (.newarray .int, 2) := by decide +kernel
theorem dX4_init_46 : decode cX4_init 46 = .ok (.putfield 26, 3) := by decide +kernel
theorem dX4_init_49 : decode cX4_init 49 = .ok (.aload_n 0, 1) := by decide +kernel
theorem dX4_init_50 : decode cX4_init 50 = .ok (.bipush 6, 2) := by decide +kernel
theorem dX4_init_52 : decode cX4_init 52 = .ok (.newarray .int, 2) := by decide +kernel
theorem dX4_init_54 : decode cX4_init 54 = .ok (.putfield 29, 3) := by decide +kernel
theorem dX4_init_57 : decode cX4_init 57 = .ok (.aload_n 0, 1) := by decide +kernel
theorem dX4_init_58 : decode cX4_init 58 = .ok (.bipush 32, 2) := by decide +kernel
theorem dX4_init_60 : decode cX4_init 60 = .ok (.newarray .int, 2) := by decide +kernel
theorem dX4_init_62 : decode cX4_init 62 = .ok (.putfield 32, 3) := by decide +kernel
theorem dX4_init_65 : decode cX4_init 65 = .ok (.aload_n 0, 1) := by decide +kernel
theorem dX4_init_66 : decode cX4_init 66 = .ok (.bipush 8, 2) := by decide +kernel
theorem dX4_init_68 : decode cX4_init 68 = .ok (.newarray .boolean, 2) := by decide +kernel
theorem dX4_init_70 : decode cX4_init 70 = .ok (.putfield 35, 3) := by decide +kernel
theorem dX4_init_73 : decode cX4_init 73 = .ok (.aload_n 0, 1) := by decide +kernel
theorem dX4_init_74 : decode cX4_init 74 = .ok (.bipush 20, 2) := by decide +kernel
theorem dX4_init_76 : decode cX4_init 76 = .ok (.newarray .int, 2) := by decide +kernel
theorem dX4_init_78 : decode cX4_init 78 = .ok (.putfield 39, 3) := by decide +kernel
theorem dX4_init_81 : decode cX4_init 81 = .ok (.aload_n 0, 1) := by decide +kernel
theorem dX4_init_82 : decode cX4_init 82 = .ok (.bipush 20, 2) := by decide +kernel
theorem dX4_init_84 : decode cX4_init 84 = .ok (.newarray .int, 2) := by decide +kernel
theorem dX4_init_86 : decode cX4_init 86 = .ok (.putfield 42, 3) := by decide +kernel
theorem dX4_init_89 : decode cX4_init 89 = .ok (.aload_n 0, 1) := by decide +kernel
theorem dX4_init_90 : decode cX4_init 90 = .ok (.bipush 20, 2) := by decide +kernel
theorem dX4_init_92 : decode cX4_init 92 = .ok (.newarray .int, 2) := by decide +kernel
theorem dX4_init_94 : decode cX4_init 94 = .ok (.putfield 45, 3) := by decide +kernel
theorem dX4_init_97 : decode cX4_init 97 = .ok (.aload_n 0, 1) := by decide +kernel
theorem dX4_init_98 : decode cX4_init 98 = .ok (.bipush 20, 2) := by decide +kernel
theorem dX4_init_100 : decode cX4_init 100 = .ok (.newarray .int, 2) := by decide +kernel
theorem dX4_init_102 : decode cX4_init 102 = .ok (.putfield 48, 3) := by decide +kernel
theorem dX4_init_105 : decode cX4_init 105 = .ok (.aload_n 0, 1) := by decide +kernel
theorem dX4_init_106 : decode cX4_init 106 = .ok (.bipush 80, 2) := by decide +kernel
theorem dX4_init_108 : decode cX4_init 108 = .ok (.newarray .int, 2) := by decide +kernel
theorem dX4_init_110 : decode cX4_init 110 = .ok (.putfield 51, 3) := by decide +kernel
theorem dX4_init_113 : decode cX4_init 113 = .ok (.return_, 1) := by decide +kernel
theorem dX4_thrown_0 : decode cX4_thrown 0 = .ok (.aload_n 0, 1) := by decide +kernel
theorem dX4_thrown_1 : decode cX4_thrown 1 = .ok (.getfield 54, 3) := by decide +kernel
theorem dX4_thrown_4 : decode cX4_thrown 4 = .ok (.ireturn, 1) := by decide +kernel
theorem dX4_goesWell_0 : decode cX4_goesWell 0 = .ok (.aload_n 0, 1) := by decide +kernel
theorem dX4_goesWell_1 : decode cX4_goesWell 1 = .ok (.iload_n 1, 1) := by decide +kernel
theorem dX4_goesWell_2 : decode cX4_goesWell 2 = .ok (.putfield 54, 3) := by decide +kernel
theorem dX4_goesWell_5 : decode cX4_goesWell 5 = .ok (.iload_n 1, 1) := by decide +kernel
theorem dX4_goesWell_6 : decode cX4_goesWell 6 = .ok (.ifCond .ne 7, 3) := by decide +kernel
theorem dX4_goesWell_9 : decode cX4_goesWell 9 = .ok (.iconst 1, 1) := by decide +kernel
theorem dX4_goesWell_10 : decode cX4_goesWell 10 = .ok (.goto 4, 3) := by decide +kernel
theorem dX4_goesWell_13 : decode cX4_goesWell 13 = .ok (.iconst 0, 1) := by decide +kernel
theorem dX4_goesWell_14 : decode cX4_goesWell 14 = .ok (.ireturn, 1) := by decide +kernel
theorem dX4_in_0 : decode cX4_in 0 = .ok (.iload_n 0, 1) := by decide +kernel
theorem dX4_in_1 : decode cX4_in 1 = .ok (.iload_n 1, 1) := by decide +kernel
theorem dX4_in_2 : decode cX4_in 2 = .ok (.if_icmp .lt 12, 3) := by decide +kernel
theorem dX4_in_5 : decode cX4_in 5 = .ok (.iload_n 0, 1) := by decide +kernel
theorem dX4_in_6 : decode cX4_in 6 = .ok (.iload_n 2, 1) := by decide +kernel
theorem dX4_in_7 : decode cX4_in 7 = .ok (.if_icmp .gt 7, 3) := by decide +kernel
theorem dX4_in_10 : decode cX4_in 10 = .ok (.iconst 1, 1) := by decide +kernel
theorem dX4_in_11 : decode cX4_in 11 = .ok (.goto 4, 3) := by decide +kernel
theorem dX4_in_14 : decode cX4_in 14 = .ok (.iconst 0, 1) := by decide +kernel
theorem dX4_in_15 : decode cX4_in 15 = .ok (.ireturn, 1) := by decide +kernel
theorem dX4_isStack_0 : decode cX4_isStack 0 = .ok (.iload_n 0, 1) := by decide +kernel
theorem dX4_isStack_1 : decode cX4_isStack 1 = .ok (.iconst 0, 1) := by decide +kernel
theorem dX4_isStack_2 : decode cX4_isStack 2 = .ok (.iconst 5, 1) := by decide +kernel
theorem dX4_isStack_3 : decode cX4_isStack 3 = .ok (.invokestatic 57, 3) := by decide +kernel
theorem dX4_isStack_6 : decode cX4_isStack 6 = .ok (.ireturn, 1) := by decide +kernel
theorem dX4_isCrate_0 : decode cX4_isCrate 0 = .ok (.iload_n 1, 1) := by decide +kernel
theorem dX4_isCrate_1 : decode cX4_isCrate 1 = .ok (.iconst 0, 1) := by decide +kernel
theorem dX4_isCrate_2 : decode cX4_isCrate 2 = .ok (.aload_n 0, 1) := by decide +kernel
theorem dX4_isCrate_3 : decode cX4_isCrate 3 = .ok (.getfield 61, 3) := by decide +kernel
theorem dX4_isCrate_6 : decode cX4_isCrate 6 = .ok (.iconst 1, 1) := by decide +kernel
theorem dX4_isCrate_7 : decode cX4_isCrate 7 = .ok (.isub, 1) := by decide +kernel
theorem dX4_isCrate_8 : decode cX4_isCrate 8 = .ok (.invokestatic 57, 3) := by decide +kernel
theorem dX4_isCrate_11 : decode cX4_isCrate 11 = .ok (.ireturn, 1) := by decide +kernel
theorem dX4_isHaul_0 : decode cX4_isHaul 0 = .ok (.iload_n 1, 1) := by decide +kernel
theorem dX4_isHaul_1 : decode cX4_isHaul 1 = .ok (.iconst 0, 1) := by decide +kernel
theorem dX4_isHaul_2 : decode cX4_isHaul 2 = .ok (.aload_n 0, 1) := by decide +kernel
theorem dX4_isHaul_3 : decode cX4_isHaul 3 = .ok (.getfield 64, 3) := by decide +kernel
theorem dX4_isHaul_6 : decode cX4_isHaul 6 = .ok (.iconst 1, 1) := by decide +kernel
theorem dX4_isHaul_7 : decode cX4_isHaul 7 = .ok (.isub, 1) := by decide +kernel
theorem dX4_isHaul_8 : decode cX4_isHaul 8 = .ok (.invokestatic 57, 3) := by decide +kernel
theorem dX4_isHaul_11 : decode cX4_isHaul 11 = .ok (.ireturn, 1) := by decide +kernel
theorem dX4_most_0 : decode cX4_most 0 = .ok (.aload_n 0, 1) := by decide +kernel
theorem dX4_most_1 : decode cX4_most 1 = .ok (.getfield 67, 3) := by decide +kernel
theorem dX4_most_4 : decode cX4_most 4 = .ok (.ifCond .eq 7, 3) := by decide +kernel
theorem dX4_most_7 : decode cX4_most 7 = .ok (.iconst 3, 1) := by decide +kernel
theorem dX4_most_8 : decode cX4_most 8 = .ok (.goto 4, 3) := by decide +kernel
theorem dX4_most_11 : decode cX4_most 11 = .ok (.iconst 5, 1) := by decide +kernel
theorem dX4_most_12 : decode cX4_most 12 = .ok (.ireturn, 1) := by decide +kernel
theorem dX4_canPut_0 : decode cX4_canPut 0 = .ok (.aload_n 0, 1) := by decide +kernel
theorem dX4_canPut_1 : decode cX4_canPut 1 = .ok (.getfield 13, 3) := by decide +kernel
theorem dX4_canPut_4 : decode cX4_canPut 4 = .ok (.iload_n 2, 1) := by decide +kernel
theorem dX4_canPut_5 : decode cX4_canPut 5 = .ok (.iaload, 1) := by decide +kernel
theorem dX4_canPut_6 : decode cX4_canPut 6 = .ok (.istore_n 3, 1) := by decide +kernel
theorem dX4_canPut_7 : decode cX4_canPut 7 = .ok (.iload_n 3, 1) := by decide +kernel
theorem dX4_canPut_8 : decode cX4_canPut 8 = .ok (.aload_n 0, 1) := by decide +kernel
theorem dX4_canPut_9 : decode cX4_canPut 9 = .ok (.invokevirtual 71, 3) := by decide +kernel
theorem dX4_canPut_12 : decode cX4_canPut 12 = .ok (.if_icmp .ge 32, 3) := by decide +kernel
theorem dX4_canPut_15 : decode cX4_canPut 15 = .ok (.iload_n 3, 1) := by decide +kernel
theorem dX4_canPut_16 : decode cX4_canPut 16 = .ok (.ifCond .eq 24, 3) := by decide +kernel
theorem dX4_canPut_19 : decode cX4_canPut 19 = .ok (.aload_n 0, 1) := by decide +kernel
theorem dX4_canPut_20 : decode cX4_canPut 20 = .ok (.getfield 16, 3) := by decide +kernel
theorem dX4_canPut_23 : decode cX4_canPut 23 = .ok (.aload_n 0, 1) := by decide +kernel
theorem dX4_canPut_24 : decode cX4_canPut 24 = .ok (.getfield 7, 3) := by decide +kernel
theorem dX4_canPut_27 : decode cX4_canPut 27 = .ok (.iconst 5, 1) := by decide +kernel
theorem dX4_canPut_28 : decode cX4_canPut 28 = .ok (.iload_n 2, 1) := by decide +kernel
theorem dX4_canPut_29 : decode cX4_canPut 29 = .ok (.imul, 1) := by decide +kernel
theorem dX4_canPut_30 : decode cX4_canPut 30 = .ok (.iload_n 3, 1) := by decide +kernel
theorem dX4_canPut_31 : decode cX4_canPut 31 = .ok (.iadd, 1) := by decide +kernel
theorem dX4_canPut_32 : decode cX4_canPut 32 = .ok (.iconst 1, 1) := by decide +kernel
theorem dX4_canPut_33 : decode cX4_canPut 33 = .ok (.isub, 1) := by decide +kernel
theorem dX4_canPut_34 : decode cX4_canPut 34 = .ok (.iaload, 1) := by decide +kernel
theorem dX4_canPut_35 : decode cX4_canPut 35 = .ok (.iaload, 1) := by decide +kernel
theorem dX4_canPut_36 : decode cX4_canPut 36 = .ok (.iload_n 1, 1) := by decide +kernel
theorem dX4_canPut_37 : decode cX4_canPut 37 = .ok (.if_icmp .lt 7, 3) := by decide +kernel
theorem dX4_canPut_40 : decode cX4_canPut 40 = .ok (.iconst 1, 1) := by decide +kernel
theorem dX4_canPut_41 : decode cX4_canPut 41 = .ok (.goto 4, 3) := by decide +kernel
theorem dX4_canPut_44 : decode cX4_canPut 44 = .ok (.iconst 0, 1) := by decide +kernel
theorem dX4_canPut_45 : decode cX4_canPut 45 = .ok (.ireturn, 1) := by decide +kernel
theorem dX4_put_0 : decode cX4_put 0 = .ok (.aload_n 0, 1) := by decide +kernel
theorem dX4_put_1 : decode cX4_put 1 = .ok (.getfield 7, 3) := by decide +kernel
theorem dX4_put_4 : decode cX4_put 4 = .ok (.iconst 5, 1) := by decide +kernel
theorem dX4_put_5 : decode cX4_put 5 = .ok (.iload_n 2, 1) := by decide +kernel
theorem dX4_put_6 : decode cX4_put 6 = .ok (.imul, 1) := by decide +kernel
theorem dX4_put_7 : decode cX4_put 7 = .ok (.aload_n 0, 1) := by decide +kernel
theorem dX4_put_8 : decode cX4_put 8 = .ok (.getfield 13, 3) := by decide +kernel
theorem dX4_put_11 : decode cX4_put 11 = .ok (.iload_n 2, 1) := by decide +kernel
theorem dX4_put_12 : decode cX4_put 12 = .ok (.iaload, 1) := by decide +kernel
theorem dX4_put_13 : decode cX4_put 13 = .ok (.iadd, 1) := by decide +kernel
theorem dX4_put_14 : decode cX4_put 14 = .ok (.iload_n 1, 1) := by decide +kernel
theorem dX4_put_15 : decode cX4_put 15 = .ok (.iastore, 1) := by decide +kernel
theorem dX4_put_16 : decode cX4_put 16 = .ok (.aload_n 0, 1) := by decide +kernel
theorem dX4_put_17 : decode cX4_put 17 = .ok (.getfield 13, 3) := by decide +kernel
theorem dX4_put_20 : decode cX4_put 20 = .ok (.iload_n 2, 1) := by decide +kernel
theorem dX4_put_21 : decode cX4_put 21 = .ok (.dup2, 1) := by decide +kernel
theorem dX4_put_22 : decode cX4_put 22 = .ok (.iaload, 1) := by decide +kernel
theorem dX4_put_23 : decode cX4_put 23 = .ok (.iconst 1, 1) := by decide +kernel
theorem dX4_put_24 : decode cX4_put 24 = .ok (.iadd, 1) := by decide +kernel
theorem dX4_put_25 : decode cX4_put 25 = .ok (.iastore, 1) := by decide +kernel
theorem dX4_put_26 : decode cX4_put 26 = .ok (.return_, 1) := by decide +kernel
theorem dX4_topOf_0 : decode cX4_topOf 0 = .ok (.aload_n 0, 1) := by decide +kernel
theorem dX4_topOf_1 : decode cX4_topOf 1 = .ok (.getfield 7, 3) := by decide +kernel
theorem dX4_topOf_4 : decode cX4_topOf 4 = .ok (.iconst 5, 1) := by decide +kernel
theorem dX4_topOf_5 : decode cX4_topOf 5 = .ok (.iload_n 1, 1) := by decide +kernel
theorem dX4_topOf_6 : decode cX4_topOf 6 = .ok (.imul, 1) := by decide +kernel
theorem dX4_topOf_7 : decode cX4_topOf 7 = .ok (.aload_n 0, 1) := by decide +kernel
theorem dX4_topOf_8 : decode cX4_topOf 8 = .ok (.getfield 13, 3) := by decide +kernel
theorem dX4_topOf_11 : decode cX4_topOf 11 = .ok (.iload_n 1, 1) := by decide +kernel
theorem dX4_topOf_12 : decode cX4_topOf 12 = .ok (.iaload, 1) := by decide +kernel
theorem dX4_topOf_13 : decode cX4_topOf 13 = .ok (.iadd, 1) := by decide +kernel
theorem dX4_topOf_14 : decode cX4_topOf 14 = .ok (.iconst 1, 1) := by decide +kernel
theorem dX4_topOf_15 : decode cX4_topOf 15 = .ok (.isub, 1) := by decide +kernel
theorem dX4_topOf_16 : decode cX4_topOf 16 = .ok (.iaload, 1) := by decide +kernel
theorem dX4_topOf_17 : decode cX4_topOf 17 = .ok (.ireturn, 1) := by decide +kernel
theorem dX4_isOnLids_0 : decode cX4_isOnLids 0 = .ok (.iload_n 2, 1) := by decide +kernel
theorem dX4_isOnLids_1 : decode cX4_isOnLids 1 = .ok (.istore_n 3, 1) := by decide +kernel
theorem dX4_isOnLids_2 : decode cX4_isOnLids 2 = .ok (.iconst 1, 1) := by decide +kernel
theorem dX4_isOnLids_3 : decode cX4_isOnLids 3 = .ok (.istore 4, 2) := by decide +kernel
theorem dX4_isOnLids_5 : decode cX4_isOnLids 5 = .ok (.iconst 0, 1) := by decide +kernel
theorem dX4_isOnLids_6 : decode cX4_isOnLids 6 = .ok (.istore 5, 2) := by decide +kernel
theorem dX4_isOnLids_8 : decode cX4_isOnLids 8 = .ok (.iload 5, 2) := by decide +kernel
theorem dX4_isOnLids_10 : decode cX4_isOnLids 10 = .ok (.iconst 4, 1) := by decide +kernel
theorem dX4_isOnLids_11 : decode cX4_isOnLids 11 = .ok (.if_icmp .ge 108, 3) := by decide +kernel
theorem dX4_isOnLids_14 : decode cX4_isOnLids 14 = .ok (.aload_n 0, 1) := by decide +kernel
theorem dX4_isOnLids_15 : decode cX4_isOnLids 15 = .ok (.getfield 32, 3) := by decide +kernel
theorem dX4_isOnLids_18 : decode cX4_isOnLids 18 = .ok (.iconst 4, 1) := by decide +kernel
theorem dX4_isOnLids_19 : decode cX4_isOnLids 19 = .ok (.iload_n 1, 1) := by decide +kernel
theorem dX4_isOnLids_20 : decode cX4_isOnLids 20 = .ok (.imul, 1) := by decide +kernel
theorem dX4_isOnLids_21 : decode cX4_isOnLids 21 = .ok (.iload 5, 2) := by decide +kernel
theorem dX4_isOnLids_23 : decode cX4_isOnLids 23 = .ok (.iadd, 1) := by decide +kernel
theorem dX4_isOnLids_24 : decode cX4_isOnLids 24 = .ok (.iaload, 1) := by decide +kernel
theorem dX4_isOnLids_25 : decode cX4_isOnLids 25 = .ok (.iconst (-1), 1) := by decide +kernel
theorem dX4_isOnLids_26 : decode cX4_isOnLids 26 = .ok (.if_icmp .eq 93, 3) := by decide +kernel
theorem dX4_isOnLids_29 : decode cX4_isOnLids 29 = .ok (.iload_n 3, 1) := by decide +kernel
theorem dX4_isOnLids_30 : decode cX4_isOnLids 30 = .ok (.bipush 6, 2) := by decide +kernel
theorem dX4_isOnLids_32 : decode cX4_isOnLids 32 = .ok (.if_icmp .ge 18, 3) := by decide +kernel
theorem dX4_isOnLids_35 : decode cX4_isOnLids 35 = .ok (.aload_n 0, 1) := by decide +kernel
theorem dX4_isOnLids_36 : decode cX4_isOnLids 36 = .ok (.getfield 13, 3) := by decide +kernel
theorem dX4_isOnLids_39 : decode cX4_isOnLids 39 = .ok (.iload_n 3, 1) := by decide +kernel
theorem dX4_isOnLids_40 : decode cX4_isOnLids 40 = .ok (.iaload, 1) := by decide +kernel
theorem dX4_isOnLids_41 : decode cX4_isOnLids 41 = .ok (.ifCond .ne 9, 3) := by decide +kernel
theorem dX4_isOnLids_44 : decode cX4_isOnLids 44 = .ok (.iinc 3 1, 3) := by decide +kernel
theorem dX4_isOnLids_47 : decode cX4_isOnLids 47 = .ok (.goto (-18), 3) := by decide +kernel
theorem dX4_isOnLids_50 : decode cX4_isOnLids 50 = .ok (.iload 4, 2) := by decide +kernel
theorem dX4_isOnLids_52 : decode cX4_isOnLids 52 = .ok (.ifCond .eq 37, 3) := by decide +kernel
theorem dX4_isOnLids_55 : decode cX4_isOnLids 55 = .ok (.iload_n 3, 1) := by decide +kernel
theorem dX4_isOnLids_56 : decode cX4_isOnLids 56 = .ok (.bipush 6, 2) := by decide +kernel
theorem dX4_isOnLids_58 : decode cX4_isOnLids 58 = .ok (.if_icmp .ge 31, 3) := by decide +kernel
theorem dX4_isOnLids_61 : decode cX4_isOnLids 61 = .ok (.aload_n 0, 1) := by decide +kernel
theorem dX4_isOnLids_62 : decode cX4_isOnLids 62 = .ok (.getfield 19, 3) := by decide +kernel
theorem dX4_isOnLids_65 : decode cX4_isOnLids 65 = .ok (.aload_n 0, 1) := by decide +kernel
theorem dX4_isOnLids_66 : decode cX4_isOnLids 66 = .ok (.iload_n 3, 1) := by decide +kernel
theorem dX4_isOnLids_67 : decode cX4_isOnLids 67 = .ok (.invokevirtual 75, 3) := by decide +kernel
theorem dX4_isOnLids_70 : decode cX4_isOnLids 70 = .ok (.iaload, 1) := by decide +kernel
theorem dX4_isOnLids_71 : decode cX4_isOnLids 71 = .ok (.aload_n 0, 1) := by decide +kernel
theorem dX4_isOnLids_72 : decode cX4_isOnLids 72 = .ok (.getfield 32, 3) := by decide +kernel
theorem dX4_isOnLids_75 : decode cX4_isOnLids 75 = .ok (.iconst 4, 1) := by decide +kernel
theorem dX4_isOnLids_76 : decode cX4_isOnLids 76 = .ok (.iload_n 1, 1) := by decide +kernel
theorem dX4_isOnLids_77 : decode cX4_isOnLids 77 = .ok (.imul, 1) := by decide +kernel
theorem dX4_isOnLids_78 : decode cX4_isOnLids 78 = .ok (.iload 5, 2) := by decide +kernel
theorem dX4_isOnLids_80 : decode cX4_isOnLids 80 = .ok (.iadd, 1) := by decide +kernel
theorem dX4_isOnLids_81 : decode cX4_isOnLids 81 = .ok (.iaload, 1) := by decide +kernel
theorem dX4_isOnLids_82 : decode cX4_isOnLids 82 = .ok (.if_icmp .ne 7, 3) := by decide +kernel
theorem dX4_isOnLids_85 : decode cX4_isOnLids 85 = .ok (.iconst 1, 1) := by decide +kernel
theorem dX4_isOnLids_86 : decode cX4_isOnLids 86 = .ok (.goto 4, 3) := by decide +kernel
theorem dX4_isOnLids_89 : decode cX4_isOnLids 89 = .ok (.iconst 0, 1) := by decide +kernel
theorem dX4_isOnLids_90 : decode cX4_isOnLids 90 = .ok (.istore 4, 2) := by decide +kernel
theorem dX4_isOnLids_92 : decode cX4_isOnLids 92 = .ok (.iload_n 3, 1) := by decide +kernel
theorem dX4_isOnLids_93 : decode cX4_isOnLids 93 = .ok (.iload_n 3, 1) := by decide +kernel
theorem dX4_isOnLids_94 : decode cX4_isOnLids 94 = .ok (.bipush 6, 2) := by decide +kernel
theorem dX4_isOnLids_96 : decode cX4_isOnLids 96 = .ok (.if_icmp .ge 7, 3) := by decide +kernel
theorem dX4_isOnLids_99 : decode cX4_isOnLids 99 = .ok (.iconst 1, 1) := by decide +kernel
theorem dX4_isOnLids_100 : decode cX4_isOnLids 100 = .ok (.goto 4, 3) := by decide +kernel
theorem dX4_isOnLids_103 : decode cX4_isOnLids 103 = .ok (.iconst 0, 1) := by decide +kernel
theorem dX4_isOnLids_104 : decode cX4_isOnLids 104 = .ok (.iadd, 1) := by decide +kernel
theorem dX4_isOnLids_105 : decode cX4_isOnLids 105 = .ok (.istore_n 3, 1) := by decide +kernel
theorem dX4_isOnLids_106 : decode cX4_isOnLids 106 = .ok (.iload 4, 2) := by decide +kernel
theorem dX4_isOnLids_108 : decode cX4_isOnLids 108 = .ok (.ifCond .ne 5, 3) := by decide +kernel
theorem dX4_isOnLids_111 : decode cX4_isOnLids 111 = .ok (.iconst 0, 1) := by decide +kernel
theorem dX4_isOnLids_112 : decode cX4_isOnLids 112 = .ok (.ireturn, 1) := by decide +kernel
theorem dX4_isOnLids_113 : decode cX4_isOnLids 113 = .ok (.iinc 5 1, 3) := by decide +kernel
theorem dX4_isOnLids_116 : decode cX4_isOnLids 116 = .ok (.goto (-108), 3) := by decide +kernel
theorem dX4_isOnLids_119 : decode cX4_isOnLids 119 = .ok (.iload 4, 2) := by decide +kernel
theorem dX4_isOnLids_121 : decode cX4_isOnLids 121 = .ok (.ireturn, 1) := by decide +kernel
theorem dX4_sizeOf_0 : decode cX4_sizeOf 0 = .ok (.aload_n 0, 1) := by decide +kernel
theorem dX4_sizeOf_1 : decode cX4_sizeOf 1 = .ok (.getfield 32, 3) := by decide +kernel
theorem dX4_sizeOf_4 : decode cX4_sizeOf 4 = .ok (.iconst 4, 1) := by decide +kernel
theorem dX4_sizeOf_5 : decode cX4_sizeOf 5 = .ok (.iload_n 1, 1) := by decide +kernel
theorem dX4_sizeOf_6 : decode cX4_sizeOf 6 = .ok (.imul, 1) := by decide +kernel
theorem dX4_sizeOf_7 : decode cX4_sizeOf 7 = .ok (.iconst 2, 1) := by decide +kernel
theorem dX4_sizeOf_8 : decode cX4_sizeOf 8 = .ok (.iadd, 1) := by decide +kernel
theorem dX4_sizeOf_9 : decode cX4_sizeOf 9 = .ok (.iaload, 1) := by decide +kernel
theorem dX4_sizeOf_10 : decode cX4_sizeOf 10 = .ok (.iconst (-1), 1) := by decide +kernel
theorem dX4_sizeOf_11 : decode cX4_sizeOf 11 = .ok (.if_icmp .ne 7, 3) := by decide +kernel
theorem dX4_sizeOf_14 : decode cX4_sizeOf 14 = .ok (.iconst 2, 1) := by decide +kernel
theorem dX4_sizeOf_15 : decode cX4_sizeOf 15 = .ok (.goto 22, 3) := by decide +kernel
theorem dX4_sizeOf_18 : decode cX4_sizeOf 18 = .ok (.aload_n 0, 1) := by decide +kernel
theorem dX4_sizeOf_19 : decode cX4_sizeOf 19 = .ok (.getfield 32, 3) := by decide +kernel
theorem dX4_sizeOf_22 : decode cX4_sizeOf 22 = .ok (.iconst 4, 1) := by decide +kernel
theorem dX4_sizeOf_23 : decode cX4_sizeOf 23 = .ok (.iload_n 1, 1) := by decide +kernel
theorem dX4_sizeOf_24 : decode cX4_sizeOf 24 = .ok (.imul, 1) := by decide +kernel
theorem dX4_sizeOf_25 : decode cX4_sizeOf 25 = .ok (.iconst 3, 1) := by decide +kernel
theorem dX4_sizeOf_26 : decode cX4_sizeOf 26 = .ok (.iadd, 1) := by decide +kernel
theorem dX4_sizeOf_27 : decode cX4_sizeOf 27 = .ok (.iaload, 1) := by decide +kernel
theorem dX4_sizeOf_28 : decode cX4_sizeOf 28 = .ok (.iconst (-1), 1) := by decide +kernel
theorem dX4_sizeOf_29 : decode cX4_sizeOf 29 = .ok (.if_icmp .ne 7, 3) := by decide +kernel
theorem dX4_sizeOf_32 : decode cX4_sizeOf 32 = .ok (.iconst 3, 1) := by decide +kernel
theorem dX4_sizeOf_33 : decode cX4_sizeOf 33 = .ok (.goto 4, 3) := by decide +kernel
theorem dX4_sizeOf_36 : decode cX4_sizeOf 36 = .ok (.iconst 4, 1) := by decide +kernel
theorem dX4_sizeOf_37 : decode cX4_sizeOf 37 = .ok (.ireturn, 1) := by decide +kernel
theorem dX4_payWords_0 : decode cX4_payWords 0 = .ok (.iconst 0, 1) := by decide +kernel
theorem dX4_payWords_1 : decode cX4_payWords 1 = .ok (.istore_n 1, 1) := by decide +kernel
theorem dX4_payWords_2 : decode cX4_payWords 2 = .ok (.iload_n 1, 1) := by decide +kernel
theorem dX4_payWords_3 : decode cX4_payWords 3 = .ok (.aload_n 0, 1) := by decide +kernel
theorem dX4_payWords_4 : decode cX4_payWords 4 = .ok (.getfield 79, 3) := by decide +kernel
theorem dX4_payWords_7 : decode cX4_payWords 7 = .ok (.if_icmp .ge 90, 3) := by decide +kernel
theorem dX4_payWords_10 : decode cX4_payWords 10 = .ok (.iconst 0, 1) := by decide +kernel
theorem dX4_payWords_11 : decode cX4_payWords 11 = .ok (.istore_n 2, 1) := by decide +kernel
theorem dX4_payWords_12 : decode cX4_payWords 12 = .ok (.iconst 0, 1) := by decide +kernel
theorem dX4_payWords_13 : decode cX4_payWords 13 = .ok (.istore_n 3, 1) := by decide +kernel
theorem dX4_payWords_14 : decode cX4_payWords 14 = .ok (.iload_n 3, 1) := by decide +kernel
theorem dX4_payWords_15 : decode cX4_payWords 15 = .ok (.bipush 6, 2) := by decide +kernel
theorem dX4_payWords_17 : decode cX4_payWords 17 = .ok (.if_icmp .ge 37, 3) := by decide +kernel
theorem dX4_payWords_20 : decode cX4_payWords 20 = .ok (.iload_n 2, 1) := by decide +kernel
theorem dX4_payWords_21 : decode cX4_payWords 21 = .ok (.ifCond .ne 21, 3) := by decide +kernel
theorem dX4_payWords_24 : decode cX4_payWords 24 = .ok (.aload_n 0, 1) := by decide +kernel
theorem dX4_payWords_25 : decode cX4_payWords 25 = .ok (.getfield 13, 3) := by decide +kernel
theorem dX4_payWords_28 : decode cX4_payWords 28 = .ok (.iload_n 3, 1) := by decide +kernel
theorem dX4_payWords_29 : decode cX4_payWords 29 = .ok (.iaload, 1) := by decide +kernel
theorem dX4_payWords_30 : decode cX4_payWords 30 = .ok (.ifCond .le 16, 3) := by decide +kernel
theorem dX4_payWords_33 : decode cX4_payWords 33 = .ok (.aload_n 0, 1) := by decide +kernel
theorem dX4_payWords_34 : decode cX4_payWords 34 = .ok (.iload_n 1, 1) := by decide +kernel
theorem dX4_payWords_35 : decode cX4_payWords 35 = .ok (.iload_n 3, 1) := by decide +kernel
theorem dX4_payWords_36 : decode cX4_payWords 36 = .ok (.invokevirtual 82, 3) := by decide +kernel
theorem dX4_payWords_39 : decode cX4_payWords 39 = .ok (.ifCond .eq 7, 3) := by decide +kernel
theorem dX4_payWords_42 : decode cX4_payWords 42 = .ok (.iconst 1, 1) := by decide +kernel
theorem dX4_payWords_43 : decode cX4_payWords 43 = .ok (.goto 4, 3) := by decide +kernel
theorem dX4_payWords_46 : decode cX4_payWords 46 = .ok (.iconst 0, 1) := by decide +kernel
theorem dX4_payWords_47 : decode cX4_payWords 47 = .ok (.istore_n 2, 1) := by decide +kernel
theorem dX4_payWords_48 : decode cX4_payWords 48 = .ok (.iinc 3 1, 3) := by decide +kernel
theorem dX4_payWords_51 : decode cX4_payWords 51 = .ok (.goto (-37), 3) := by decide +kernel
theorem dX4_payWords_54 : decode cX4_payWords 54 = .ok (.iload_n 2, 1) := by decide +kernel
theorem dX4_payWords_55 : decode cX4_payWords 55 = .ok (.ifCond .eq 36, 3) := by decide +kernel
theorem dX4_payWords_58 : decode cX4_payWords 58 = .ok (.aload_n 0, 1) := by decide +kernel
theorem dX4_payWords_59 : decode cX4_payWords 59 = .ok (.getfield 35, 3) := by decide +kernel
theorem dX4_payWords_62 : decode cX4_payWords 62 = .ok (.iload_n 1, 1) := by decide +kernel
theorem dX4_payWords_63 : decode cX4_payWords 63 = .ok (.baload, 1) := by decide +kernel
theorem dX4_payWords_64 : decode cX4_payWords 64 = .ok (.ifCond .ne 27, 3) := by decide +kernel
theorem dX4_payWords_67 : decode cX4_payWords 67 = .ok (.aload_n 0, 1) := by decide +kernel
theorem dX4_payWords_68 : decode cX4_payWords 68 = .ok (.getfield 35, 3) := by decide +kernel
theorem dX4_payWords_71 : decode cX4_payWords 71 = .ok (.iload_n 1, 1) := by decide +kernel
theorem dX4_payWords_72 : decode cX4_payWords 72 = .ok (.iconst 1, 1) := by decide +kernel
theorem dX4_payWords_73 : decode cX4_payWords 73 = .ok (.bastore, 1) := by decide +kernel
theorem dX4_payWords_74 : decode cX4_payWords 74 = .ok (.aload_n 0, 1) := by decide +kernel
theorem dX4_payWords_75 : decode cX4_payWords 75 = .ok (.dup, 1) := by decide +kernel
theorem dX4_payWords_76 : decode cX4_payWords 76 = .ok (.getfield 86, 3) := by decide +kernel
theorem dX4_payWords_79 : decode cX4_payWords 79 = .ok (.bipush 100, 2) := by decide +kernel
theorem dX4_payWords_81 : decode cX4_payWords 81 = .ok (.aload_n 0, 1) := by decide +kernel
theorem dX4_payWords_82 : decode cX4_payWords 82 = .ok (.iload_n 1, 1) := by decide +kernel
theorem dX4_payWords_83 : decode cX4_payWords 83 = .ok (.invokevirtual 89, 3) := by decide +kernel
theorem dX4_payWords_86 : decode cX4_payWords 86 = .ok (.imul, 1) := by decide +kernel
theorem dX4_payWords_87 : decode cX4_payWords 87 = .ok (.iadd, 1) := by decide +kernel
theorem dX4_payWords_88 : decode cX4_payWords 88 = .ok (.putfield 86, 3) := by decide +kernel
theorem dX4_payWords_91 : decode cX4_payWords 91 = .ok (.iinc 1 1, 3) := by decide +kernel
theorem dX4_payWords_94 : decode cX4_payWords 94 = .ok (.goto (-92), 3) := by decide +kernel
theorem dX4_payWords_97 : decode cX4_payWords 97 = .ok (.return_, 1) := by decide +kernel
theorem dX4_arrive_0 : decode cX4_arrive 0 = .ok (.iload_n 1, 1) := by decide +kernel
theorem dX4_arrive_1 : decode cX4_arrive 1 = .ok (.iconst 1, 1) := by decide +kernel
theorem dX4_arrive_2 : decode cX4_arrive 2 = .ok (.bipush 100, 2) := by decide +kernel
theorem dX4_arrive_4 : decode cX4_arrive 4 = .ok (.invokestatic 57, 3) := by decide +kernel
theorem dX4_arrive_7 : decode cX4_arrive 7 = .ok (.ifCond .eq 24, 3) := by decide +kernel
theorem dX4_arrive_10 : decode cX4_arrive 10 = .ok (.iload_n 2, 1) := by decide +kernel
theorem dX4_arrive_11 : decode cX4_arrive 11 = .ok (.iconst 0, 1) := by decide +kernel
theorem dX4_arrive_12 : decode cX4_arrive 12 = .ok (.bipush 25, 2) := by decide +kernel
theorem dX4_arrive_14 : decode cX4_arrive 14 = .ok (.invokestatic 57, 3) := by decide +kernel
theorem dX4_arrive_17 : decode cX4_arrive 17 = .ok (.ifCond .eq 14, 3) := by decide +kernel
theorem dX4_arrive_20 : decode cX4_arrive 20 = .ok (.iload_n 3, 1) := by decide +kernel
theorem dX4_arrive_21 : decode cX4_arrive 21 = .ok (.invokestatic 92, 3) := by decide +kernel
theorem dX4_arrive_24 : decode cX4_arrive 24 = .ok (.ifCond .eq 7, 3) := by decide +kernel
theorem dX4_arrive_27 : decode cX4_arrive 27 = .ok (.iconst 1, 1) := by decide +kernel
theorem dX4_arrive_28 : decode cX4_arrive 28 = .ok (.goto 4, 3) := by decide +kernel
theorem dX4_arrive_31 : decode cX4_arrive 31 = .ok (.iconst 0, 1) := by decide +kernel
theorem dX4_arrive_32 : decode cX4_arrive 32 = .ok (.istore 4, 2) := by decide +kernel
theorem dX4_arrive_34 : decode cX4_arrive 34 = .ok (.iload 4, 2) := by decide +kernel
theorem dX4_arrive_36 : decode cX4_arrive 36 = .ok (.ifCond .eq 25, 3) := by decide +kernel
theorem dX4_arrive_39 : decode cX4_arrive 39 = .ok (.aload_n 0, 1) := by decide +kernel
theorem dX4_arrive_40 : decode cX4_arrive 40 = .ok (.getfield 61, 3) := by decide +kernel
theorem dX4_arrive_43 : decode cX4_arrive 43 = .ok (.bipush 30, 2) := by decide +kernel
theorem dX4_arrive_45 : decode cX4_arrive 45 = .ok (.if_icmp .ge 16, 3) := by decide +kernel
theorem dX4_arrive_48 : decode cX4_arrive 48 = .ok (.aload_n 0, 1) := by decide +kernel
theorem dX4_arrive_49 : decode cX4_arrive 49 = .ok (.iload_n 1, 1) := by decide +kernel
theorem dX4_arrive_50 : decode cX4_arrive 50 = .ok (.iload_n 3, 1) := by decide +kernel
theorem dX4_arrive_51 : decode cX4_arrive 51 = .ok (.invokevirtual 96, 3) := by decide +kernel
theorem dX4_arrive_54 : decode cX4_arrive 54 = .ok (.ifCond .eq 7, 3) := by decide +kernel
theorem dX4_arrive_57 : decode cX4_arrive 57 = .ok (.iconst 1, 1) := by decide +kernel
theorem dX4_arrive_58 : decode cX4_arrive 58 = .ok (.goto 4, 3) := by decide +kernel
theorem dX4_arrive_61 : decode cX4_arrive 61 = .ok (.iconst 0, 1) := by decide +kernel
theorem dX4_arrive_62 : decode cX4_arrive 62 = .ok (.istore 5, 2) := by decide +kernel
theorem dX4_arrive_64 : decode cX4_arrive 64 = .ok (.aload_n 0, 1) := by decide +kernel
theorem dX4_arrive_65 : decode cX4_arrive 65 = .ok (.iload 4, 2) := by decide +kernel
theorem dX4_arrive_67 : decode cX4_arrive 67 = .ok (.ifCond .ne 7, 3) := by decide +kernel
theorem dX4_arrive_70 : decode cX4_arrive 70 = .ok (.iconst 1, 1) := by decide +kernel
theorem dX4_arrive_71 : decode cX4_arrive 71 = .ok (.goto 13, 3) := by decide +kernel
theorem dX4_arrive_74 : decode cX4_arrive 74 = .ok (.iload 5, 2) := by decide +kernel
theorem dX4_arrive_76 : decode cX4_arrive 76 = .ok (.ifCond .eq 7, 3) := by decide +kernel
theorem dX4_arrive_79 : decode cX4_arrive 79 = .ok (.iconst 0, 1) := by decide +kernel
theorem dX4_arrive_80 : decode cX4_arrive 80 = .ok (.goto 4, 3) := by decide +kernel
theorem dX4_arrive_83 : decode cX4_arrive 83 = .ok (.iconst 2, 1) := by decide +kernel
theorem dX4_arrive_84 : decode cX4_arrive 84 = .ok (.invokevirtual 99, 3) := by decide +kernel
theorem dX4_arrive_87 : decode cX4_arrive 87 = .ok (.ifCond .ne 5, 3) := by decide +kernel
theorem dX4_arrive_90 : decode cX4_arrive 90 = .ok (.iconst 0, 1) := by decide +kernel
theorem dX4_arrive_91 : decode cX4_arrive 91 = .ok (.ireturn, 1) := by decide +kernel
theorem dX4_arrive_92 : decode cX4_arrive 92 = .ok (.aload_n 0, 1) := by decide +kernel
theorem dX4_arrive_93 : decode cX4_arrive 93 = .ok (.getfield 16, 3) := by decide +kernel
theorem dX4_arrive_96 : decode cX4_arrive 96 = .ok (.aload_n 0, 1) := by decide +kernel
theorem dX4_arrive_97 : decode cX4_arrive 97 = .ok (.getfield 61, 3) := by decide +kernel
theorem dX4_arrive_100 : decode cX4_arrive 100 = .ok (.iload_n 1, 1) := by decide +kernel
theorem dX4_arrive_101 : decode cX4_arrive 101 = .ok (.iastore, 1) := by decide +kernel
theorem dX4_arrive_102 : decode cX4_arrive 102 = .ok (.aload_n 0, 1) := by decide +kernel
theorem dX4_arrive_103 : decode cX4_arrive 103 = .ok (.getfield 19, 3) := by decide +kernel
theorem dX4_arrive_106 : decode cX4_arrive 106 = .ok (.aload_n 0, 1) := by decide +kernel
theorem dX4_arrive_107 : decode cX4_arrive 107 = .ok (.getfield 61, 3) := by decide +kernel
theorem dX4_arrive_110 : decode cX4_arrive 110 = .ok (.iload_n 2, 1) := by decide +kernel
theorem dX4_arrive_111 : decode cX4_arrive 111 = .ok (.iastore, 1) := by decide +kernel
theorem dX4_arrive_112 : decode cX4_arrive 112 = .ok (.aload_n 0, 1) := by decide +kernel
theorem dX4_arrive_113 : decode cX4_arrive 113 = .ok (.aload_n 0, 1) := by decide +kernel
theorem dX4_arrive_114 : decode cX4_arrive 114 = .ok (.getfield 61, 3) := by decide +kernel
theorem dX4_arrive_117 : decode cX4_arrive 117 = .ok (.iload_n 3, 1) := by decide +kernel
theorem dX4_arrive_118 : decode cX4_arrive 118 = .ok (.invokevirtual 102, 3) := by decide +kernel
theorem dX4_arrive_121 : decode cX4_arrive 121 = .ok (.aload_n 0, 1) := by decide +kernel
theorem dX4_arrive_122 : decode cX4_arrive 122 = .ok (.dup, 1) := by decide +kernel
theorem dX4_arrive_123 : decode cX4_arrive 123 = .ok (.getfield 61, 3) := by decide +kernel
theorem dX4_arrive_126 : decode cX4_arrive 126 = .ok (.iconst 1, 1) := by decide +kernel
theorem dX4_arrive_127 : decode cX4_arrive 127 = .ok (.iadd, 1) := by decide +kernel
theorem dX4_arrive_128 : decode cX4_arrive 128 = .ok (.putfield 61, 3) := by decide +kernel
theorem dX4_arrive_131 : decode cX4_arrive 131 = .ok (.aload_n 0, 1) := by decide +kernel
theorem dX4_arrive_132 : decode cX4_arrive 132 = .ok (.invokevirtual 106, 3) := by decide +kernel
theorem dX4_arrive_135 : decode cX4_arrive 135 = .ok (.aload_n 0, 1) := by decide +kernel
theorem dX4_arrive_136 : decode cX4_arrive 136 = .ok (.getfield 61, 3) := by decide +kernel
theorem dX4_arrive_139 : decode cX4_arrive 139 = .ok (.iconst 1, 1) := by decide +kernel
theorem dX4_arrive_140 : decode cX4_arrive 140 = .ok (.isub, 1) := by decide +kernel
theorem dX4_arrive_141 : decode cX4_arrive 141 = .ok (.ireturn, 1) := by decide +kernel
theorem dX4_lift_0 : decode cX4_lift 0 = .ok (.iload_n 1, 1) := by decide +kernel
theorem dX4_lift_1 : decode cX4_lift 1 = .ok (.invokestatic 92, 3) := by decide +kernel
theorem dX4_lift_4 : decode cX4_lift 4 = .ok (.istore_n 2, 1) := by decide +kernel
theorem dX4_lift_5 : decode cX4_lift 5 = .ok (.aload_n 0, 1) := by decide +kernel
theorem dX4_lift_6 : decode cX4_lift 6 = .ok (.iload_n 2, 1) := by decide +kernel
theorem dX4_lift_7 : decode cX4_lift 7 = .ok (.ifCond .ne 7, 3) := by decide +kernel
theorem dX4_lift_10 : decode cX4_lift 10 = .ok (.iconst 1, 1) := by decide +kernel
theorem dX4_lift_11 : decode cX4_lift 11 = .ok (.goto 25, 3) := by decide +kernel
theorem dX4_lift_14 : decode cX4_lift 14 = .ok (.aload_n 0, 1) := by decide +kernel
theorem dX4_lift_15 : decode cX4_lift 15 = .ok (.getfield 13, 3) := by decide +kernel
theorem dX4_lift_18 : decode cX4_lift 18 = .ok (.iload_n 1, 1) := by decide +kernel
theorem dX4_lift_19 : decode cX4_lift 19 = .ok (.iaload, 1) := by decide +kernel
theorem dX4_lift_20 : decode cX4_lift 20 = .ok (.ifCond .eq 11, 3) := by decide +kernel
theorem dX4_lift_23 : decode cX4_lift 23 = .ok (.aload_n 0, 1) := by decide +kernel
theorem dX4_lift_24 : decode cX4_lift 24 = .ok (.getfield 22, 3) := by decide +kernel
theorem dX4_lift_27 : decode cX4_lift 27 = .ok (.iconst (-1), 1) := by decide +kernel
theorem dX4_lift_28 : decode cX4_lift 28 = .ok (.if_icmp .eq 7, 3) := by decide +kernel
theorem dX4_lift_31 : decode cX4_lift 31 = .ok (.iconst 2, 1) := by decide +kernel
theorem dX4_lift_32 : decode cX4_lift 32 = .ok (.goto 4, 3) := by decide +kernel
theorem dX4_lift_35 : decode cX4_lift 35 = .ok (.iconst 0, 1) := by decide +kernel
theorem dX4_lift_36 : decode cX4_lift 36 = .ok (.invokevirtual 99, 3) := by decide +kernel
theorem dX4_lift_39 : decode cX4_lift 39 = .ok (.ifCond .ne 5, 3) := by decide +kernel
theorem dX4_lift_42 : decode cX4_lift 42 = .ok (.iconst 0, 1) := by decide +kernel
theorem dX4_lift_43 : decode cX4_lift 43 = .ok (.ireturn, 1) := by decide +kernel
theorem dX4_lift_44 : decode cX4_lift 44 = .ok (.aload_n 0, 1) := by decide +kernel
theorem dX4_lift_45 : decode cX4_lift 45 = .ok (.aload_n 0, 1) := by decide +kernel
theorem dX4_lift_46 : decode cX4_lift 46 = .ok (.iload_n 1, 1) := by decide +kernel
theorem dX4_lift_47 : decode cX4_lift 47 = .ok (.invokevirtual 75, 3) := by decide +kernel
theorem dX4_lift_50 : decode cX4_lift 50 = .ok (.putfield 22, 3) := by decide +kernel
theorem dX4_lift_53 : decode cX4_lift 53 = .ok (.aload_n 0, 1) := by decide +kernel
theorem dX4_lift_54 : decode cX4_lift 54 = .ok (.getfield 13, 3) := by decide +kernel
theorem dX4_lift_57 : decode cX4_lift 57 = .ok (.iload_n 1, 1) := by decide +kernel
theorem dX4_lift_58 : decode cX4_lift 58 = .ok (.dup2, 1) := by decide +kernel
theorem dX4_lift_59 : decode cX4_lift 59 = .ok (.iaload, 1) := by decide +kernel
theorem dX4_lift_60 : decode cX4_lift 60 = .ok (.iconst 1, 1) := by decide +kernel
theorem dX4_lift_61 : decode cX4_lift 61 = .ok (.isub, 1) := by decide +kernel
theorem dX4_lift_62 : decode cX4_lift 62 = .ok (.iastore, 1) := by decide +kernel
theorem dX4_lift_63 : decode cX4_lift 63 = .ok (.aload_n 0, 1) := by decide +kernel
theorem dX4_lift_64 : decode cX4_lift 64 = .ok (.dup, 1) := by decide +kernel
theorem dX4_lift_65 : decode cX4_lift 65 = .ok (.getfield 109, 3) := by decide +kernel
theorem dX4_lift_68 : decode cX4_lift 68 = .ok (.iconst 1, 1) := by decide +kernel
theorem dX4_lift_69 : decode cX4_lift 69 = .ok (.iadd, 1) := by decide +kernel
theorem dX4_lift_70 : decode cX4_lift 70 = .ok (.putfield 109, 3) := by decide +kernel
theorem dX4_lift_73 : decode cX4_lift 73 = .ok (.aload_n 0, 1) := by decide +kernel
theorem dX4_lift_74 : decode cX4_lift 74 = .ok (.invokevirtual 106, 3) := by decide +kernel
theorem dX4_lift_77 : decode cX4_lift 77 = .ok (.aload_n 0, 1) := by decide +kernel
theorem dX4_lift_78 : decode cX4_lift 78 = .ok (.getfield 22, 3) := by decide +kernel
theorem dX4_lift_81 : decode cX4_lift 81 = .ok (.ireturn, 1) := by decide +kernel
theorem dX4_drop_0 : decode cX4_drop 0 = .ok (.iload_n 1, 1) := by decide +kernel
theorem dX4_drop_1 : decode cX4_drop 1 = .ok (.invokestatic 92, 3) := by decide +kernel
theorem dX4_drop_4 : decode cX4_drop 4 = .ok (.istore_n 2, 1) := by decide +kernel
theorem dX4_drop_5 : decode cX4_drop 5 = .ok (.iload_n 2, 1) := by decide +kernel
theorem dX4_drop_6 : decode cX4_drop 6 = .ok (.ifCond .eq 32, 3) := by decide +kernel
theorem dX4_drop_9 : decode cX4_drop 9 = .ok (.aload_n 0, 1) := by decide +kernel
theorem dX4_drop_10 : decode cX4_drop 10 = .ok (.getfield 22, 3) := by decide +kernel
theorem dX4_drop_13 : decode cX4_drop 13 = .ok (.iconst (-1), 1) := by decide +kernel
theorem dX4_drop_14 : decode cX4_drop 14 = .ok (.if_icmp .eq 24, 3) := by decide +kernel
theorem dX4_drop_17 : decode cX4_drop 17 = .ok (.aload_n 0, 1) := by decide +kernel
theorem dX4_drop_18 : decode cX4_drop 18 = .ok (.aload_n 0, 1) := by decide +kernel
theorem dX4_drop_19 : decode cX4_drop 19 = .ok (.getfield 16, 3) := by decide +kernel
theorem dX4_drop_22 : decode cX4_drop 22 = .ok (.aload_n 0, 1) := by decide +kernel
theorem dX4_drop_23 : decode cX4_drop 23 = .ok (.getfield 22, 3) := by decide +kernel
theorem dX4_drop_26 : decode cX4_drop 26 = .ok (.iaload, 1) := by decide +kernel
theorem dX4_drop_27 : decode cX4_drop 27 = .ok (.iload_n 1, 1) := by decide +kernel
theorem dX4_drop_28 : decode cX4_drop 28 = .ok (.invokevirtual 96, 3) := by decide +kernel
theorem dX4_drop_31 : decode cX4_drop 31 = .ok (.ifCond .eq 7, 3) := by decide +kernel
theorem dX4_drop_34 : decode cX4_drop 34 = .ok (.iconst 1, 1) := by decide +kernel
theorem dX4_drop_35 : decode cX4_drop 35 = .ok (.goto 4, 3) := by decide +kernel
theorem dX4_drop_38 : decode cX4_drop 38 = .ok (.iconst 0, 1) := by decide +kernel
theorem dX4_drop_39 : decode cX4_drop 39 = .ok (.istore_n 3, 1) := by decide +kernel
theorem dX4_drop_40 : decode cX4_drop 40 = .ok (.aload_n 0, 1) := by decide +kernel
theorem dX4_drop_41 : decode cX4_drop 41 = .ok (.iload_n 2, 1) := by decide +kernel
theorem dX4_drop_42 : decode cX4_drop 42 = .ok (.ifCond .ne 7, 3) := by decide +kernel
theorem dX4_drop_45 : decode cX4_drop 45 = .ok (.iconst 1, 1) := by decide +kernel
theorem dX4_drop_46 : decode cX4_drop 46 = .ok (.goto 12, 3) := by decide +kernel
theorem dX4_drop_49 : decode cX4_drop 49 = .ok (.iload_n 3, 1) := by decide +kernel
theorem dX4_drop_50 : decode cX4_drop 50 = .ok (.ifCond .eq 7, 3) := by decide +kernel
theorem dX4_drop_53 : decode cX4_drop 53 = .ok (.iconst 0, 1) := by decide +kernel
theorem dX4_drop_54 : decode cX4_drop 54 = .ok (.goto 4, 3) := by decide +kernel
theorem dX4_drop_57 : decode cX4_drop 57 = .ok (.iconst 2, 1) := by decide +kernel
theorem dX4_drop_58 : decode cX4_drop 58 = .ok (.invokevirtual 99, 3) := by decide +kernel
theorem dX4_drop_61 : decode cX4_drop 61 = .ok (.ifCond .ne 5, 3) := by decide +kernel
theorem dX4_drop_64 : decode cX4_drop 64 = .ok (.iconst 0, 1) := by decide +kernel
theorem dX4_drop_65 : decode cX4_drop 65 = .ok (.ireturn, 1) := by decide +kernel
theorem dX4_drop_66 : decode cX4_drop 66 = .ok (.aload_n 0, 1) := by decide +kernel
theorem dX4_drop_67 : decode cX4_drop 67 = .ok (.aload_n 0, 1) := by decide +kernel
theorem dX4_drop_68 : decode cX4_drop 68 = .ok (.getfield 22, 3) := by decide +kernel
theorem dX4_drop_71 : decode cX4_drop 71 = .ok (.iload_n 1, 1) := by decide +kernel
theorem dX4_drop_72 : decode cX4_drop 72 = .ok (.invokevirtual 102, 3) := by decide +kernel
theorem dX4_drop_75 : decode cX4_drop 75 = .ok (.aload_n 0, 1) := by decide +kernel
theorem dX4_drop_76 : decode cX4_drop 76 = .ok (.iconst (-1), 1) := by decide +kernel
theorem dX4_drop_77 : decode cX4_drop 77 = .ok (.putfield 22, 3) := by decide +kernel
theorem dX4_drop_80 : decode cX4_drop 80 = .ok (.aload_n 0, 1) := by decide +kernel
theorem dX4_drop_81 : decode cX4_drop 81 = .ok (.invokevirtual 106, 3) := by decide +kernel
theorem dX4_drop_84 : decode cX4_drop 84 = .ok (.aload_n 0, 1) := by decide +kernel
theorem dX4_drop_85 : decode cX4_drop 85 = .ok (.getfield 13, 3) := by decide +kernel
theorem dX4_drop_88 : decode cX4_drop 88 = .ok (.iload_n 1, 1) := by decide +kernel
theorem dX4_drop_89 : decode cX4_drop 89 = .ok (.iaload, 1) := by decide +kernel
theorem dX4_drop_90 : decode cX4_drop 90 = .ok (.ireturn, 1) := by decide +kernel
theorem dX4_copyYard_0 : decode cX4_copyYard 0 = .ok (.iconst 0, 1) := by decide +kernel
theorem dX4_copyYard_1 : decode cX4_copyYard 1 = .ok (.istore_n 1, 1) := by decide +kernel
theorem dX4_copyYard_2 : decode cX4_copyYard 2 = .ok (.iload_n 1, 1) := by decide +kernel
theorem dX4_copyYard_3 : decode cX4_copyYard 3 = .ok (.bipush 30, 2) := by decide +kernel
theorem dX4_copyYard_5 : decode cX4_copyYard 5 = .ok (.if_icmp .ge 21, 3) := by decide +kernel
theorem dX4_copyYard_8 : decode cX4_copyYard 8 = .ok (.aload_n 0, 1) := by decide +kernel
theorem dX4_copyYard_9 : decode cX4_copyYard 9 = .ok (.getfield 26, 3) := by decide +kernel
theorem dX4_copyYard_12 : decode cX4_copyYard 12 = .ok (.iload_n 1, 1) := by decide +kernel
theorem dX4_copyYard_13 : decode cX4_copyYard 13 = .ok (.aload_n 0, 1) := by decide +kernel
theorem dX4_copyYard_14 : decode cX4_copyYard 14 = .ok (.getfield 7, 3) := by decide +kernel
theorem dX4_copyYard_17 : decode cX4_copyYard 17 = .ok (.iload_n 1, 1) := by decide +kernel
theorem dX4_copyYard_18 : decode cX4_copyYard 18 = .ok (.iaload, 1) := by decide +kernel
theorem dX4_copyYard_19 : decode cX4_copyYard 19 = .ok (.iastore, 1) := by decide +kernel
theorem dX4_copyYard_20 : decode cX4_copyYard 20 = .ok (.iinc 1 1, 3) := by decide +kernel
theorem dX4_copyYard_23 : decode cX4_copyYard 23 = .ok (.goto (-21), 3) := by decide +kernel
theorem dX4_copyYard_26 : decode cX4_copyYard 26 = .ok (.iconst 0, 1) := by decide +kernel
theorem dX4_copyYard_27 : decode cX4_copyYard 27 = .ok (.istore_n 1, 1) := by decide +kernel
theorem dX4_copyYard_28 : decode cX4_copyYard 28 = .ok (.iload_n 1, 1) := by decide +kernel
theorem dX4_copyYard_29 : decode cX4_copyYard 29 = .ok (.bipush 6, 2) := by decide +kernel
theorem dX4_copyYard_31 : decode cX4_copyYard 31 = .ok (.if_icmp .ge 21, 3) := by decide +kernel
theorem dX4_copyYard_34 : decode cX4_copyYard 34 = .ok (.aload_n 0, 1) := by decide +kernel
theorem dX4_copyYard_35 : decode cX4_copyYard 35 = .ok (.getfield 29, 3) := by decide +kernel
theorem dX4_copyYard_38 : decode cX4_copyYard 38 = .ok (.iload_n 1, 1) := by decide +kernel
theorem dX4_copyYard_39 : decode cX4_copyYard 39 = .ok (.aload_n 0, 1) := by decide +kernel
theorem dX4_copyYard_40 : decode cX4_copyYard 40 = .ok (.getfield 13, 3) := by decide +kernel
theorem dX4_copyYard_43 : decode cX4_copyYard 43 = .ok (.iload_n 1, 1) := by decide +kernel
theorem dX4_copyYard_44 : decode cX4_copyYard 44 = .ok (.iaload, 1) := by decide +kernel
theorem dX4_copyYard_45 : decode cX4_copyYard 45 = .ok (.iastore, 1) := by decide +kernel
theorem dX4_copyYard_46 : decode cX4_copyYard 46 = .ok (.iinc 1 1, 3) := by decide +kernel
theorem dX4_copyYard_49 : decode cX4_copyYard 49 = .ok (.goto (-21), 3) := by decide +kernel
theorem dX4_copyYard_52 : decode cX4_copyYard 52 = .ok (.return_, 1) := by decide +kernel
theorem dX4_canTry_0 : decode cX4_canTry 0 = .ok (.aload_n 0, 1) := by decide +kernel
theorem dX4_canTry_1 : decode cX4_canTry 1 = .ok (.getfield 29, 3) := by decide +kernel
theorem dX4_canTry_4 : decode cX4_canTry 4 = .ok (.iload_n 2, 1) := by decide +kernel
theorem dX4_canTry_5 : decode cX4_canTry 5 = .ok (.iaload, 1) := by decide +kernel
theorem dX4_canTry_6 : decode cX4_canTry 6 = .ok (.istore_n 3, 1) := by decide +kernel
theorem dX4_canTry_7 : decode cX4_canTry 7 = .ok (.iload_n 3, 1) := by decide +kernel
theorem dX4_canTry_8 : decode cX4_canTry 8 = .ok (.aload_n 0, 1) := by decide +kernel
theorem dX4_canTry_9 : decode cX4_canTry 9 = .ok (.invokevirtual 71, 3) := by decide +kernel
theorem dX4_canTry_12 : decode cX4_canTry 12 = .ok (.if_icmp .ge 37, 3) := by decide +kernel
theorem dX4_canTry_15 : decode cX4_canTry 15 = .ok (.iload_n 3, 1) := by decide +kernel
theorem dX4_canTry_16 : decode cX4_canTry 16 = .ok (.ifCond .eq 29, 3) := by decide +kernel
theorem dX4_canTry_19 : decode cX4_canTry 19 = .ok (.aload_n 0, 1) := by decide +kernel
theorem dX4_canTry_20 : decode cX4_canTry 20 = .ok (.getfield 16, 3) := by decide +kernel
theorem dX4_canTry_23 : decode cX4_canTry 23 = .ok (.aload_n 0, 1) := by decide +kernel
theorem dX4_canTry_24 : decode cX4_canTry 24 = .ok (.getfield 26, 3) := by decide +kernel
theorem dX4_canTry_27 : decode cX4_canTry 27 = .ok (.iconst 5, 1) := by decide +kernel
theorem dX4_canTry_28 : decode cX4_canTry 28 = .ok (.iload_n 2, 1) := by decide +kernel
theorem dX4_canTry_29 : decode cX4_canTry 29 = .ok (.imul, 1) := by decide +kernel
theorem dX4_canTry_30 : decode cX4_canTry 30 = .ok (.iload_n 3, 1) := by decide +kernel
theorem dX4_canTry_31 : decode cX4_canTry 31 = .ok (.iadd, 1) := by decide +kernel
theorem dX4_canTry_32 : decode cX4_canTry 32 = .ok (.iconst 1, 1) := by decide +kernel
theorem dX4_canTry_33 : decode cX4_canTry 33 = .ok (.isub, 1) := by decide +kernel
theorem dX4_canTry_34 : decode cX4_canTry 34 = .ok (.iaload, 1) := by decide +kernel
theorem dX4_canTry_35 : decode cX4_canTry 35 = .ok (.iaload, 1) := by decide +kernel
theorem dX4_canTry_36 : decode cX4_canTry 36 = .ok (.aload_n 0, 1) := by decide +kernel
theorem dX4_canTry_37 : decode cX4_canTry 37 = .ok (.getfield 16, 3) := by decide +kernel
theorem dX4_canTry_40 : decode cX4_canTry 40 = .ok (.iload_n 1, 1) := by decide +kernel
theorem dX4_canTry_41 : decode cX4_canTry 41 = .ok (.iaload, 1) := by decide +kernel
theorem dX4_canTry_42 : decode cX4_canTry 42 = .ok (.if_icmp .lt 7, 3) := by decide +kernel
theorem dX4_canTry_45 : decode cX4_canTry 45 = .ok (.iconst 1, 1) := by decide +kernel
theorem dX4_canTry_46 : decode cX4_canTry 46 = .ok (.goto 4, 3) := by decide +kernel
theorem dX4_canTry_49 : decode cX4_canTry 49 = .ok (.iconst 0, 1) := by decide +kernel
theorem dX4_canTry_50 : decode cX4_canTry 50 = .ok (.ireturn, 1) := by decide +kernel
theorem dX4_find_0 : decode cX4_find 0 = .ok (.iconst 0, 1) := by decide +kernel
theorem dX4_find_1 : decode cX4_find 1 = .ok (.istore_n 2, 1) := by decide +kernel
theorem dX4_find_2 : decode cX4_find 2 = .ok (.iload_n 2, 1) := by decide +kernel
theorem dX4_find_3 : decode cX4_find 3 = .ok (.bipush 30, 2) := by decide +kernel
theorem dX4_find_5 : decode cX4_find 5 = .ok (.if_icmp .ge 37, 3) := by decide +kernel
theorem dX4_find_8 : decode cX4_find 8 = .ok (.iload_n 2, 1) := by decide +kernel
theorem dX4_find_9 : decode cX4_find 9 = .ok (.iconst 5, 1) := by decide +kernel
theorem dX4_find_10 : decode cX4_find 10 = .ok (.irem, 1) := by decide +kernel
theorem dX4_find_11 : decode cX4_find 11 = .ok (.aload_n 0, 1) := by decide +kernel
theorem dX4_find_12 : decode cX4_find 12 = .ok (.getfield 29, 3) := by decide +kernel
theorem dX4_find_15 : decode cX4_find 15 = .ok (.iload_n 2, 1) := by decide +kernel
theorem dX4_find_16 : decode cX4_find 16 = .ok (.iconst 5, 1) := by decide +kernel
theorem dX4_find_17 : decode cX4_find 17 = .ok (.idiv, 1) := by decide +kernel
theorem dX4_find_18 : decode cX4_find 18 = .ok (.iaload, 1) := by decide +kernel
theorem dX4_find_19 : decode cX4_find 19 = .ok (.if_icmp .ge 17, 3) := by decide +kernel
theorem dX4_find_22 : decode cX4_find 22 = .ok (.aload_n 0, 1) := by decide +kernel
theorem dX4_find_23 : decode cX4_find 23 = .ok (.getfield 26, 3) := by decide +kernel
theorem dX4_find_26 : decode cX4_find 26 = .ok (.iload_n 2, 1) := by decide +kernel
theorem dX4_find_27 : decode cX4_find 27 = .ok (.iaload, 1) := by decide +kernel
theorem dX4_find_28 : decode cX4_find 28 = .ok (.iload_n 1, 1) := by decide +kernel
theorem dX4_find_29 : decode cX4_find 29 = .ok (.if_icmp .ne 7, 3) := by decide +kernel
theorem dX4_find_32 : decode cX4_find 32 = .ok (.iload_n 2, 1) := by decide +kernel
theorem dX4_find_33 : decode cX4_find 33 = .ok (.iconst 5, 1) := by decide +kernel
theorem dX4_find_34 : decode cX4_find 34 = .ok (.idiv, 1) := by decide +kernel
theorem dX4_find_35 : decode cX4_find 35 = .ok (.ireturn, 1) := by decide +kernel
theorem dX4_find_36 : decode cX4_find 36 = .ok (.iinc 2 1, 3) := by decide +kernel
theorem dX4_find_39 : decode cX4_find 39 = .ok (.goto (-37), 3) := by decide +kernel
theorem dX4_find_42 : decode cX4_find 42 = .ok (.iconst (-1), 1) := by decide +kernel
theorem dX4_find_43 : decode cX4_find 43 = .ok (.ireturn, 1) := by decide +kernel
theorem dX4_digOut_0 : decode cX4_digOut 0 = .ok (.aload_n 0, 1) := by decide +kernel
theorem dX4_digOut_1 : decode cX4_digOut 1 = .ok (.iload_n 1, 1) := by decide +kernel
theorem dX4_digOut_2 : decode cX4_digOut 2 = .ok (.invokevirtual 112, 3) := by decide +kernel
theorem dX4_digOut_5 : decode cX4_digOut 5 = .ok (.istore_n 2, 1) := by decide +kernel
theorem dX4_digOut_6 : decode cX4_digOut 6 = .ok (.iconst 0, 1) := by decide +kernel
theorem dX4_digOut_7 : decode cX4_digOut 7 = .ok (.istore_n 3, 1) := by decide +kernel
theorem dX4_digOut_8 : decode cX4_digOut 8 = .ok (.iload_n 2, 1) := by decide +kernel
theorem dX4_digOut_9 : decode cX4_digOut 9 = .ok (.iconst (-1), 1) := by decide +kernel
theorem dX4_digOut_10 : decode cX4_digOut 10 = .ok (.if_icmp .eq 174, 3) := by decide +kernel
theorem dX4_digOut_13 : decode cX4_digOut 13 = .ok (.aload_n 0, 1) := by decide +kernel
theorem dX4_digOut_14 : decode cX4_digOut 14 = .ok (.getfield 26, 3) := by decide +kernel
theorem dX4_digOut_17 : decode cX4_digOut 17 = .ok (.iconst 5, 1) := by decide +kernel
theorem dX4_digOut_18 : decode cX4_digOut 18 = .ok (.iload_n 2, 1) := by decide +kernel
theorem dX4_digOut_19 : decode cX4_digOut 19 = .ok (.imul, 1) := by decide +kernel
theorem dX4_digOut_20 : decode cX4_digOut 20 = .ok (.aload_n 0, 1) := by decide +kernel
theorem dX4_digOut_21 : decode cX4_digOut 21 = .ok (.getfield 29, 3) := by decide +kernel
theorem dX4_digOut_24 : decode cX4_digOut 24 = .ok (.iload_n 2, 1) := by decide +kernel
theorem dX4_digOut_25 : decode cX4_digOut 25 = .ok (.iaload, 1) := by decide +kernel
theorem dX4_digOut_26 : decode cX4_digOut 26 = .ok (.iadd, 1) := by decide +kernel
theorem dX4_digOut_27 : decode cX4_digOut 27 = .ok (.iconst 1, 1) := by decide +kernel
theorem dX4_digOut_28 : decode cX4_digOut 28 = .ok (.isub, 1) := by decide +kernel
theorem dX4_digOut_29 : decode cX4_digOut 29 = .ok (.iaload, 1) := by decide +kernel
theorem dX4_digOut_30 : decode cX4_digOut 30 = .ok (.istore 4, 2) := by decide +kernel
theorem dX4_digOut_32 : decode cX4_digOut 32 = .ok (.iinc 3 1, 3) := by decide +kernel
theorem dX4_digOut_35 : decode cX4_digOut 35 = .ok (.iload 4, 2) := by decide +kernel
theorem dX4_digOut_37 : decode cX4_digOut 37 = .ok (.iload_n 1, 1) := by decide +kernel
theorem dX4_digOut_38 : decode cX4_digOut 38 = .ok (.if_icmp .ne 15, 3) := by decide +kernel
theorem dX4_digOut_41 : decode cX4_digOut 41 = .ok (.aload_n 0, 1) := by decide +kernel
theorem dX4_digOut_42 : decode cX4_digOut 42 = .ok (.getfield 29, 3) := by decide +kernel
theorem dX4_digOut_45 : decode cX4_digOut 45 = .ok (.iload_n 2, 1) := by decide +kernel
theorem dX4_digOut_46 : decode cX4_digOut 46 = .ok (.dup2, 1) := by decide +kernel
theorem dX4_digOut_47 : decode cX4_digOut 47 = .ok (.iaload, 1) := by decide +kernel
theorem dX4_digOut_48 : decode cX4_digOut 48 = .ok (.iconst 1, 1) := by decide +kernel
theorem dX4_digOut_49 : decode cX4_digOut 49 = .ok (.isub, 1) := by decide +kernel
theorem dX4_digOut_50 : decode cX4_digOut 50 = .ok (.iastore, 1) := by decide +kernel
theorem dX4_digOut_51 : decode cX4_digOut 51 = .ok (.iload_n 3, 1) := by decide +kernel
theorem dX4_digOut_52 : decode cX4_digOut 52 = .ok (.ireturn, 1) := by decide +kernel
theorem dX4_digOut_53 : decode cX4_digOut 53 = .ok (.iconst (-1), 1) := by decide +kernel
theorem dX4_digOut_54 : decode cX4_digOut 54 = .ok (.istore 5, 2) := by decide +kernel
theorem dX4_digOut_56 : decode cX4_digOut 56 = .ok (.iconst 0, 1) := by decide +kernel
theorem dX4_digOut_57 : decode cX4_digOut 57 = .ok (.istore 6, 2) := by decide +kernel
theorem dX4_digOut_59 : decode cX4_digOut 59 = .ok (.iload 6, 2) := by decide +kernel
theorem dX4_digOut_61 : decode cX4_digOut 61 = .ok (.bipush 6, 2) := by decide +kernel
theorem dX4_digOut_63 : decode cX4_digOut 63 = .ok (.if_icmp .ge 70, 3) := by decide +kernel
theorem dX4_digOut_66 : decode cX4_digOut 66 = .ok (.iload 6, 2) := by decide +kernel
theorem dX4_digOut_68 : decode cX4_digOut 68 = .ok (.iload_n 2, 1) := by decide +kernel
theorem dX4_digOut_69 : decode cX4_digOut 69 = .ok (.if_icmp .eq 18, 3) := by decide +kernel
theorem dX4_digOut_72 : decode cX4_digOut 72 = .ok (.aload_n 0, 1) := by decide +kernel
theorem dX4_digOut_73 : decode cX4_digOut 73 = .ok (.iload 4, 2) := by decide +kernel
theorem dX4_digOut_75 : decode cX4_digOut 75 = .ok (.iload 6, 2) := by decide +kernel
theorem dX4_digOut_77 : decode cX4_digOut 77 = .ok (.invokevirtual 115, 3) := by decide +kernel
theorem dX4_digOut_80 : decode cX4_digOut 80 = .ok (.ifCond .eq 7, 3) := by decide +kernel
theorem dX4_digOut_83 : decode cX4_digOut 83 = .ok (.iconst 1, 1) := by decide +kernel
theorem dX4_digOut_84 : decode cX4_digOut 84 = .ok (.goto 4, 3) := by decide +kernel
theorem dX4_digOut_87 : decode cX4_digOut 87 = .ok (.iconst 0, 1) := by decide +kernel
theorem dX4_digOut_88 : decode cX4_digOut 88 = .ok (.istore 7, 2) := by decide +kernel
theorem dX4_digOut_90 : decode cX4_digOut 90 = .ok (.iload 7, 2) := by decide +kernel
theorem dX4_digOut_92 : decode cX4_digOut 92 = .ok (.ifCond .eq 31, 3) := by decide +kernel
theorem dX4_digOut_95 : decode cX4_digOut 95 = .ok (.iload 5, 2) := by decide +kernel
theorem dX4_digOut_97 : decode cX4_digOut 97 = .ok (.iconst (-1), 1) := by decide +kernel
theorem dX4_digOut_98 : decode cX4_digOut 98 = .ok (.if_icmp .eq 20, 3) := by decide +kernel
theorem dX4_digOut_101 : decode cX4_digOut 101 = .ok (.aload_n 0, 1) := by decide +kernel
theorem dX4_digOut_102 : decode cX4_digOut 102 = .ok (.getfield 29, 3) := by decide +kernel
theorem dX4_digOut_105 : decode cX4_digOut 105 = .ok (.iload 6, 2) := by decide +kernel
theorem dX4_digOut_107 : decode cX4_digOut 107 = .ok (.iaload, 1) := by decide +kernel
theorem dX4_digOut_108 : decode cX4_digOut 108 = .ok (.aload_n 0, 1) := by decide +kernel
theorem dX4_digOut_109 : decode cX4_digOut 109 = .ok (.getfield 29, 3) := by decide +kernel
theorem dX4_digOut_112 : decode cX4_digOut 112 = .ok (.iload 5, 2) := by decide +kernel
theorem dX4_digOut_114 : decode cX4_digOut 114 = .ok (.iaload, 1) := by decide +kernel
theorem dX4_digOut_115 : decode cX4_digOut 115 = .ok (.if_icmp .ge 8, 3) := by decide +kernel
theorem dX4_digOut_118 : decode cX4_digOut 118 = .ok (.iload 6, 2) := by decide +kernel
theorem dX4_digOut_120 : decode cX4_digOut 120 = .ok (.goto 5, 3) := by decide +kernel
theorem dX4_digOut_123 : decode cX4_digOut 123 = .ok (.iload 5, 2) := by decide +kernel
theorem dX4_digOut_125 : decode cX4_digOut 125 = .ok (.istore 5, 2) := by decide +kernel
theorem dX4_digOut_127 : decode cX4_digOut 127 = .ok (.iinc 6 1, 3) := by decide +kernel
theorem dX4_digOut_130 : decode cX4_digOut 130 = .ok (.goto (-71), 3) := by decide +kernel
theorem dX4_digOut_133 : decode cX4_digOut 133 = .ok (.iload 5, 2) := by decide +kernel
theorem dX4_digOut_135 : decode cX4_digOut 135 = .ok (.iconst (-1), 1) := by decide +kernel
theorem dX4_digOut_136 : decode cX4_digOut 136 = .ok (.if_icmp .ne 5, 3) := by decide +kernel
theorem dX4_digOut_139 : decode cX4_digOut 139 = .ok (.iconst (-1), 1) := by decide +kernel
theorem dX4_digOut_140 : decode cX4_digOut 140 = .ok (.ireturn, 1) := by decide +kernel
theorem dX4_digOut_141 : decode cX4_digOut 141 = .ok (.aload_n 0, 1) := by decide +kernel
theorem dX4_digOut_142 : decode cX4_digOut 142 = .ok (.getfield 29, 3) := by decide +kernel
theorem dX4_digOut_145 : decode cX4_digOut 145 = .ok (.iload_n 2, 1) := by decide +kernel
theorem dX4_digOut_146 : decode cX4_digOut 146 = .ok (.dup2, 1) := by decide +kernel
theorem dX4_digOut_147 : decode cX4_digOut 147 = .ok (.iaload, 1) := by decide +kernel
theorem dX4_digOut_148 : decode cX4_digOut 148 = .ok (.iconst 1, 1) := by decide +kernel
theorem dX4_digOut_149 : decode cX4_digOut 149 = .ok (.isub, 1) := by decide +kernel
theorem dX4_digOut_150 : decode cX4_digOut 150 = .ok (.iastore, 1) := by decide +kernel
theorem dX4_digOut_151 : decode cX4_digOut 151 = .ok (.aload_n 0, 1) := by decide +kernel
theorem dX4_digOut_152 : decode cX4_digOut 152 = .ok (.getfield 26, 3) := by decide +kernel
theorem dX4_digOut_155 : decode cX4_digOut 155 = .ok (.iconst 5, 1) := by decide +kernel
theorem dX4_digOut_156 : decode cX4_digOut 156 = .ok (.iload 5, 2) := by decide +kernel
theorem dX4_digOut_158 : decode cX4_digOut 158 = .ok (.imul, 1) := by decide +kernel
theorem dX4_digOut_159 : decode cX4_digOut 159 = .ok (.aload_n 0, 1) := by decide +kernel
theorem dX4_digOut_160 : decode cX4_digOut 160 = .ok (.getfield 29, 3) := by decide +kernel
theorem dX4_digOut_163 : decode cX4_digOut 163 = .ok (.iload 5, 2) := by decide +kernel
theorem dX4_digOut_165 : decode cX4_digOut 165 = .ok (.iaload, 1) := by decide +kernel
theorem dX4_digOut_166 : decode cX4_digOut 166 = .ok (.iadd, 1) := by decide +kernel
theorem dX4_digOut_167 : decode cX4_digOut 167 = .ok (.iload 4, 2) := by decide +kernel
theorem dX4_digOut_169 : decode cX4_digOut 169 = .ok (.iastore, 1) := by decide +kernel
theorem dX4_digOut_170 : decode cX4_digOut 170 = .ok (.aload_n 0, 1) := by decide +kernel
theorem dX4_digOut_171 : decode cX4_digOut 171 = .ok (.getfield 29, 3) := by decide +kernel
theorem dX4_digOut_174 : decode cX4_digOut 174 = .ok (.iload 5, 2) := by decide +kernel
theorem dX4_digOut_176 : decode cX4_digOut 176 = .ok (.dup2, 1) := by decide +kernel
theorem dX4_digOut_177 : decode cX4_digOut 177 = .ok (.iaload, 1) := by decide +kernel
theorem dX4_digOut_178 : decode cX4_digOut 178 = .ok (.iconst 1, 1) := by decide +kernel
theorem dX4_digOut_179 : decode cX4_digOut 179 = .ok (.iadd, 1) := by decide +kernel
theorem dX4_digOut_180 : decode cX4_digOut 180 = .ok (.iastore, 1) := by decide +kernel
theorem dX4_digOut_181 : decode cX4_digOut 181 = .ok (.goto (-173), 3) := by decide +kernel
theorem dX4_digOut_184 : decode cX4_digOut 184 = .ok (.iconst (-1), 1) := by decide +kernel
theorem dX4_digOut_185 : decode cX4_digOut 185 = .ok (.ireturn, 1) := by decide +kernel
theorem dX4_dig_0 : decode cX4_dig 0 = .ok (.aload_n 0, 1) := by decide +kernel
theorem dX4_dig_1 : decode cX4_dig 1 = .ok (.invokevirtual 118, 3) := by decide +kernel
theorem dX4_dig_4 : decode cX4_dig 4 = .ok (.aload_n 0, 1) := by decide +kernel
theorem dX4_dig_5 : decode cX4_dig 5 = .ok (.iload_n 1, 1) := by decide +kernel
theorem dX4_dig_6 : decode cX4_dig 6 = .ok (.invokevirtual 121, 3) := by decide +kernel
theorem dX4_dig_9 : decode cX4_dig 9 = .ok (.ifCond .eq 19, 3) := by decide +kernel
theorem dX4_dig_12 : decode cX4_dig 12 = .ok (.aload_n 0, 1) := by decide +kernel
theorem dX4_dig_13 : decode cX4_dig 13 = .ok (.getfield 22, 3) := by decide +kernel
theorem dX4_dig_16 : decode cX4_dig 16 = .ok (.iconst (-1), 1) := by decide +kernel
theorem dX4_dig_17 : decode cX4_dig 17 = .ok (.if_icmp .ne 11, 3) := by decide +kernel
theorem dX4_dig_20 : decode cX4_dig 20 = .ok (.aload_n 0, 1) := by decide +kernel
theorem dX4_dig_21 : decode cX4_dig 21 = .ok (.iload_n 1, 1) := by decide +kernel
theorem dX4_dig_22 : decode cX4_dig 22 = .ok (.invokevirtual 124, 3) := by decide +kernel
theorem dX4_dig_25 : decode cX4_dig 25 = .ok (.goto 4, 3) := by decide +kernel
theorem dX4_dig_28 : decode cX4_dig 28 = .ok (.iconst (-1), 1) := by decide +kernel
theorem dX4_dig_29 : decode cX4_dig 29 = .ok (.istore_n 2, 1) := by decide +kernel
theorem dX4_dig_30 : decode cX4_dig 30 = .ok (.aload_n 0, 1) := by decide +kernel
theorem dX4_dig_31 : decode cX4_dig 31 = .ok (.aload_n 0, 1) := by decide +kernel
theorem dX4_dig_32 : decode cX4_dig 32 = .ok (.iload_n 1, 1) := by decide +kernel
theorem dX4_dig_33 : decode cX4_dig 33 = .ok (.invokevirtual 121, 3) := by decide +kernel
theorem dX4_dig_36 : decode cX4_dig 36 = .ok (.ifCond .ne 7, 3) := by decide +kernel
theorem dX4_dig_39 : decode cX4_dig 39 = .ok (.iconst 1, 1) := by decide +kernel
theorem dX4_dig_40 : decode cX4_dig 40 = .ok (.goto 13, 3) := by decide +kernel
theorem dX4_dig_43 : decode cX4_dig 43 = .ok (.iload_n 2, 1) := by decide +kernel
theorem dX4_dig_44 : decode cX4_dig 44 = .ok (.iconst (-1), 1) := by decide +kernel
theorem dX4_dig_45 : decode cX4_dig 45 = .ok (.if_icmp .ne 7, 3) := by decide +kernel
theorem dX4_dig_48 : decode cX4_dig 48 = .ok (.iconst 2, 1) := by decide +kernel
theorem dX4_dig_49 : decode cX4_dig 49 = .ok (.goto 4, 3) := by decide +kernel
theorem dX4_dig_52 : decode cX4_dig 52 = .ok (.iconst 0, 1) := by decide +kernel
theorem dX4_dig_53 : decode cX4_dig 53 = .ok (.invokevirtual 99, 3) := by decide +kernel
theorem dX4_dig_56 : decode cX4_dig 56 = .ok (.ifCond .ne 5, 3) := by decide +kernel
theorem dX4_dig_59 : decode cX4_dig 59 = .ok (.iconst 0, 1) := by decide +kernel
theorem dX4_dig_60 : decode cX4_dig 60 = .ok (.ireturn, 1) := by decide +kernel
theorem dX4_dig_61 : decode cX4_dig 61 = .ok (.iconst 0, 1) := by decide +kernel
theorem dX4_dig_62 : decode cX4_dig 62 = .ok (.istore_n 3, 1) := by decide +kernel
theorem dX4_dig_63 : decode cX4_dig 63 = .ok (.iload_n 3, 1) := by decide +kernel
theorem dX4_dig_64 : decode cX4_dig 64 = .ok (.bipush 30, 2) := by decide +kernel
theorem dX4_dig_66 : decode cX4_dig 66 = .ok (.if_icmp .ge 21, 3) := by decide +kernel
theorem dX4_dig_69 : decode cX4_dig 69 = .ok (.aload_n 0, 1) := by decide +kernel
theorem dX4_dig_70 : decode cX4_dig 70 = .ok (.getfield 7, 3) := by decide +kernel
theorem dX4_dig_73 : decode cX4_dig 73 = .ok (.iload_n 3, 1) := by decide +kernel
theorem dX4_dig_74 : decode cX4_dig 74 = .ok (.aload_n 0, 1) := by decide +kernel
theorem dX4_dig_75 : decode cX4_dig 75 = .ok (.getfield 26, 3) := by decide +kernel
theorem dX4_dig_78 : decode cX4_dig 78 = .ok (.iload_n 3, 1) := by decide +kernel
theorem dX4_dig_79 : decode cX4_dig 79 = .ok (.iaload, 1) := by decide +kernel
theorem dX4_dig_80 : decode cX4_dig 80 = .ok (.iastore, 1) := by decide +kernel
theorem dX4_dig_81 : decode cX4_dig 81 = .ok (.iinc 3 1, 3) := by decide +kernel
theorem dX4_dig_84 : decode cX4_dig 84 = .ok (.goto (-21), 3) := by decide +kernel
theorem dX4_dig_87 : decode cX4_dig 87 = .ok (.iconst 0, 1) := by decide +kernel
theorem dX4_dig_88 : decode cX4_dig 88 = .ok (.istore_n 3, 1) := by decide +kernel
theorem dX4_dig_89 : decode cX4_dig 89 = .ok (.iload_n 3, 1) := by decide +kernel
theorem dX4_dig_90 : decode cX4_dig 90 = .ok (.bipush 6, 2) := by decide +kernel
theorem dX4_dig_92 : decode cX4_dig 92 = .ok (.if_icmp .ge 21, 3) := by decide +kernel
theorem dX4_dig_95 : decode cX4_dig 95 = .ok (.aload_n 0, 1) := by decide +kernel
theorem dX4_dig_96 : decode cX4_dig 96 = .ok (.getfield 13, 3) := by decide +kernel
theorem dX4_dig_99 : decode cX4_dig 99 = .ok (.iload_n 3, 1) := by decide +kernel
theorem dX4_dig_100 : decode cX4_dig 100 = .ok (.aload_n 0, 1) := by decide +kernel
theorem dX4_dig_101 : decode cX4_dig 101 = .ok (.getfield 29, 3) := by decide +kernel
theorem dX4_dig_104 : decode cX4_dig 104 = .ok (.iload_n 3, 1) := by decide +kernel
theorem dX4_dig_105 : decode cX4_dig 105 = .ok (.iaload, 1) := by decide +kernel
theorem dX4_dig_106 : decode cX4_dig 106 = .ok (.iastore, 1) := by decide +kernel
theorem dX4_dig_107 : decode cX4_dig 107 = .ok (.iinc 3 1, 3) := by decide +kernel
theorem dX4_dig_110 : decode cX4_dig 110 = .ok (.goto (-21), 3) := by decide +kernel
theorem dX4_dig_113 : decode cX4_dig 113 = .ok (.aload_n 0, 1) := by decide +kernel
theorem dX4_dig_114 : decode cX4_dig 114 = .ok (.iload_n 1, 1) := by decide +kernel
theorem dX4_dig_115 : decode cX4_dig 115 = .ok (.putfield 22, 3) := by decide +kernel
theorem dX4_dig_118 : decode cX4_dig 118 = .ok (.aload_n 0, 1) := by decide +kernel
theorem dX4_dig_119 : decode cX4_dig 119 = .ok (.dup, 1) := by decide +kernel
theorem dX4_dig_120 : decode cX4_dig 120 = .ok (.getfield 109, 3) := by decide +kernel
theorem dX4_dig_123 : decode cX4_dig 123 = .ok (.iload_n 2, 1) := by decide +kernel
theorem dX4_dig_124 : decode cX4_dig 124 = .ok (.iadd, 1) := by decide +kernel
theorem dX4_dig_125 : decode cX4_dig 125 = .ok (.putfield 109, 3) := by decide +kernel
theorem dX4_dig_128 : decode cX4_dig 128 = .ok (.aload_n 0, 1) := by decide +kernel
theorem dX4_dig_129 : decode cX4_dig 129 = .ok (.invokevirtual 106, 3) := by decide +kernel
theorem dX4_dig_132 : decode cX4_dig 132 = .ok (.iload_n 2, 1) := by decide +kernel
theorem dX4_dig_133 : decode cX4_dig 133 = .ok (.ireturn, 1) := by decide +kernel
theorem dX4_crane_0 : decode cX4_crane 0 = .ok (.aload_n 0, 1) := by decide +kernel
theorem dX4_crane_1 : decode cX4_crane 1 = .ok (.iconst 0, 1) := by decide +kernel
theorem dX4_crane_2 : decode cX4_crane 2 = .ok (.putfield 54, 3) := by decide +kernel
theorem dX4_crane_5 : decode cX4_crane 5 = .ok (.aload_n 0, 1) := by decide +kernel
theorem dX4_crane_6 : decode cX4_crane 6 = .ok (.getfield 22, 3) := by decide +kernel
theorem dX4_crane_9 : decode cX4_crane 9 = .ok (.ireturn, 1) := by decide +kernel
theorem dX4_height_0 : decode cX4_height 0 = .ok (.aload_n 0, 1) := by decide +kernel
theorem dX4_height_1 : decode cX4_height 1 = .ok (.iload_n 1, 1) := by decide +kernel
theorem dX4_height_2 : decode cX4_height 2 = .ok (.invokestatic 92, 3) := by decide +kernel
theorem dX4_height_5 : decode cX4_height 5 = .ok (.ifCond .eq 7, 3) := by decide +kernel
theorem dX4_height_8 : decode cX4_height 8 = .ok (.iconst 0, 1) := by decide +kernel
theorem dX4_height_9 : decode cX4_height 9 = .ok (.goto 4, 3) := by decide +kernel
theorem dX4_height_12 : decode cX4_height 12 = .ok (.iconst 1, 1) := by decide +kernel
theorem dX4_height_13 : decode cX4_height 13 = .ok (.invokevirtual 99, 3) := by decide +kernel
theorem dX4_height_16 : decode cX4_height 16 = .ok (.ifCond .eq 12, 3) := by decide +kernel
theorem dX4_height_19 : decode cX4_height 19 = .ok (.aload_n 0, 1) := by decide +kernel
theorem dX4_height_20 : decode cX4_height 20 = .ok (.getfield 13, 3) := by decide +kernel
theorem dX4_height_23 : decode cX4_height 23 = .ok (.iload_n 1, 1) := by decide +kernel
theorem dX4_height_24 : decode cX4_height 24 = .ok (.iaload, 1) := by decide +kernel
theorem dX4_height_25 : decode cX4_height 25 = .ok (.goto 4, 3) := by decide +kernel
theorem dX4_height_28 : decode cX4_height 28 = .ok (.iconst 0, 1) := by decide +kernel
theorem dX4_height_29 : decode cX4_height 29 = .ok (.ireturn, 1) := by decide +kernel
theorem dX4_at_0 : decode cX4_at 0 = .ok (.aload_n 0, 1) := by decide +kernel
theorem dX4_at_1 : decode cX4_at 1 = .ok (.iload_n 1, 1) := by decide +kernel
theorem dX4_at_2 : decode cX4_at 2 = .ok (.invokestatic 92, 3) := by decide +kernel
theorem dX4_at_5 : decode cX4_at 5 = .ok (.ifCond .eq 16, 3) := by decide +kernel
theorem dX4_at_8 : decode cX4_at 8 = .ok (.iload_n 2, 1) := by decide +kernel
theorem dX4_at_9 : decode cX4_at 9 = .ok (.iconst 0, 1) := by decide +kernel
theorem dX4_at_10 : decode cX4_at 10 = .ok (.iconst 4, 1) := by decide +kernel
theorem dX4_at_11 : decode cX4_at 11 = .ok (.invokestatic 57, 3) := by decide +kernel
theorem dX4_at_14 : decode cX4_at 14 = .ok (.ifCond .eq 7, 3) := by decide +kernel
theorem dX4_at_17 : decode cX4_at 17 = .ok (.iconst 0, 1) := by decide +kernel
theorem dX4_at_18 : decode cX4_at 18 = .ok (.goto 4, 3) := by decide +kernel
theorem dX4_at_21 : decode cX4_at 21 = .ok (.iconst 1, 1) := by decide +kernel
theorem dX4_at_22 : decode cX4_at 22 = .ok (.invokevirtual 99, 3) := by decide +kernel
theorem dX4_at_25 : decode cX4_at 25 = .ok (.ifCond .ne 5, 3) := by decide +kernel
theorem dX4_at_28 : decode cX4_at 28 = .ok (.iconst 0, 1) := by decide +kernel
theorem dX4_at_29 : decode cX4_at 29 = .ok (.ireturn, 1) := by decide +kernel
theorem dX4_at_30 : decode cX4_at 30 = .ok (.iload_n 2, 1) := by decide +kernel
theorem dX4_at_31 : decode cX4_at 31 = .ok (.aload_n 0, 1) := by decide +kernel
theorem dX4_at_32 : decode cX4_at 32 = .ok (.getfield 13, 3) := by decide +kernel
theorem dX4_at_35 : decode cX4_at 35 = .ok (.iload_n 1, 1) := by decide +kernel
theorem dX4_at_36 : decode cX4_at 36 = .ok (.iaload, 1) := by decide +kernel
theorem dX4_at_37 : decode cX4_at 37 = .ok (.if_icmp .ge 16, 3) := by decide +kernel
theorem dX4_at_40 : decode cX4_at 40 = .ok (.aload_n 0, 1) := by decide +kernel
theorem dX4_at_41 : decode cX4_at 41 = .ok (.getfield 7, 3) := by decide +kernel
theorem dX4_at_44 : decode cX4_at 44 = .ok (.iconst 5, 1) := by decide +kernel
theorem dX4_at_45 : decode cX4_at 45 = .ok (.iload_n 1, 1) := by decide +kernel
theorem dX4_at_46 : decode cX4_at 46 = .ok (.imul, 1) := by decide +kernel
theorem dX4_at_47 : decode cX4_at 47 = .ok (.iload_n 2, 1) := by decide +kernel
theorem dX4_at_48 : decode cX4_at 48 = .ok (.iadd, 1) := by decide +kernel
theorem dX4_at_49 : decode cX4_at 49 = .ok (.iaload, 1) := by decide +kernel
theorem dX4_at_50 : decode cX4_at 50 = .ok (.goto 4, 3) := by decide +kernel
theorem dX4_at_53 : decode cX4_at 53 = .ok (.iconst (-1), 1) := by decide +kernel
theorem dX4_at_54 : decode cX4_at 54 = .ok (.ireturn, 1) := by decide +kernel
theorem dX4_stackOf_0 : decode cX4_stackOf 0 = .ok (.aload_n 0, 1) := by decide +kernel
theorem dX4_stackOf_1 : decode cX4_stackOf 1 = .ok (.aload_n 0, 1) := by decide +kernel
theorem dX4_stackOf_2 : decode cX4_stackOf 2 = .ok (.iload_n 1, 1) := by decide +kernel
theorem dX4_stackOf_3 : decode cX4_stackOf 3 = .ok (.invokevirtual 121, 3) := by decide +kernel
theorem dX4_stackOf_6 : decode cX4_stackOf 6 = .ok (.ifCond .eq 7, 3) := by decide +kernel
theorem dX4_stackOf_9 : decode cX4_stackOf 9 = .ok (.iconst 0, 1) := by decide +kernel
theorem dX4_stackOf_10 : decode cX4_stackOf 10 = .ok (.goto 4, 3) := by decide +kernel
theorem dX4_stackOf_13 : decode cX4_stackOf 13 = .ok (.iconst 1, 1) := by decide +kernel
theorem dX4_stackOf_14 : decode cX4_stackOf 14 = .ok (.invokevirtual 99, 3) := by decide +kernel
theorem dX4_stackOf_17 : decode cX4_stackOf 17 = .ok (.ifCond .ne 5, 3) := by decide +kernel
theorem dX4_stackOf_20 : decode cX4_stackOf 20 = .ok (.iconst 0, 1) := by decide +kernel
theorem dX4_stackOf_21 : decode cX4_stackOf 21 = .ok (.ireturn, 1) := by decide +kernel
theorem dX4_stackOf_22 : decode cX4_stackOf 22 = .ok (.aload_n 0, 1) := by decide +kernel
theorem dX4_stackOf_23 : decode cX4_stackOf 23 = .ok (.invokevirtual 118, 3) := by decide +kernel
theorem dX4_stackOf_26 : decode cX4_stackOf 26 = .ok (.aload_n 0, 1) := by decide +kernel
theorem dX4_stackOf_27 : decode cX4_stackOf 27 = .ok (.iload_n 1, 1) := by decide +kernel
theorem dX4_stackOf_28 : decode cX4_stackOf 28 = .ok (.invokevirtual 112, 3) := by decide +kernel
theorem dX4_stackOf_31 : decode cX4_stackOf 31 = .ok (.ireturn, 1) := by decide +kernel
theorem dX4_lifts_0 : decode cX4_lifts 0 = .ok (.aload_n 0, 1) := by decide +kernel
theorem dX4_lifts_1 : decode cX4_lifts 1 = .ok (.iconst 0, 1) := by decide +kernel
theorem dX4_lifts_2 : decode cX4_lifts 2 = .ok (.putfield 54, 3) := by decide +kernel
theorem dX4_lifts_5 : decode cX4_lifts 5 = .ok (.aload_n 0, 1) := by decide +kernel
theorem dX4_lifts_6 : decode cX4_lifts 6 = .ok (.getfield 109, 3) := by decide +kernel
theorem dX4_lifts_9 : decode cX4_lifts 9 = .ok (.ireturn, 1) := by decide +kernel
theorem dX4_member_0 : decode cX4_member 0 = .ok (.iload_n 1, 1) := by decide +kernel
theorem dX4_member_1 : decode cX4_member 1 = .ok (.istore_n 2, 1) := by decide +kernel
theorem dX4_member_2 : decode cX4_member 2 = .ok (.iconst 0, 1) := by decide +kernel
theorem dX4_member_3 : decode cX4_member 3 = .ok (.istore_n 3, 1) := by decide +kernel
theorem dX4_member_4 : decode cX4_member 4 = .ok (.iload_n 3, 1) := by decide +kernel
theorem dX4_member_5 : decode cX4_member 5 = .ok (.bipush 30, 2) := by decide +kernel
theorem dX4_member_7 : decode cX4_member 7 = .ok (.if_icmp .ge 27, 3) := by decide +kernel
theorem dX4_member_10 : decode cX4_member 10 = .ok (.iload_n 0, 1) := by decide +kernel
theorem dX4_member_11 : decode cX4_member 11 = .ok (.iload_n 3, 1) := by decide +kernel
theorem dX4_member_12 : decode cX4_member 12 = .ok (.ishr, 1) := by decide +kernel
theorem dX4_member_13 : decode cX4_member 13 = .ok (.iconst 1, 1) := by decide +kernel
theorem dX4_member_14 : decode cX4_member 14 = .ok (.iand, 1) := by decide +kernel
theorem dX4_member_15 : decode cX4_member 15 = .ok (.iconst 1, 1) := by decide +kernel
theorem dX4_member_16 : decode cX4_member 16 = .ok (.if_icmp .ne 12, 3) := by decide +kernel
theorem dX4_member_19 : decode cX4_member 19 = .ok (.iload_n 2, 1) := by decide +kernel
theorem dX4_member_20 : decode cX4_member 20 = .ok (.ifCond .ne 5, 3) := by decide +kernel
theorem dX4_member_23 : decode cX4_member 23 = .ok (.iload_n 3, 1) := by decide +kernel
theorem dX4_member_24 : decode cX4_member 24 = .ok (.ireturn, 1) := by decide +kernel
theorem dX4_member_25 : decode cX4_member 25 = .ok (.iinc 2 (-1), 3) := by decide +kernel
theorem dX4_member_28 : decode cX4_member 28 = .ok (.iinc 3 1, 3) := by decide +kernel
theorem dX4_member_31 : decode cX4_member 31 = .ok (.goto (-27), 3) := by decide +kernel
theorem dX4_member_34 : decode cX4_member 34 = .ok (.iconst (-1), 1) := by decide +kernel
theorem dX4_member_35 : decode cX4_member 35 = .ok (.ireturn, 1) := by decide +kernel
theorem dX4_bits_0 : decode cX4_bits 0 = .ok (.iconst 0, 1) := by decide +kernel
theorem dX4_bits_1 : decode cX4_bits 1 = .ok (.istore_n 1, 1) := by decide +kernel
theorem dX4_bits_2 : decode cX4_bits 2 = .ok (.iconst 0, 1) := by decide +kernel
theorem dX4_bits_3 : decode cX4_bits 3 = .ok (.istore_n 2, 1) := by decide +kernel
theorem dX4_bits_4 : decode cX4_bits 4 = .ok (.iload_n 2, 1) := by decide +kernel
theorem dX4_bits_5 : decode cX4_bits 5 = .ok (.bipush 30, 2) := by decide +kernel
theorem dX4_bits_7 : decode cX4_bits 7 = .ok (.if_icmp .ge 17, 3) := by decide +kernel
theorem dX4_bits_10 : decode cX4_bits 10 = .ok (.iload_n 1, 1) := by decide +kernel
theorem dX4_bits_11 : decode cX4_bits 11 = .ok (.iload_n 0, 1) := by decide +kernel
theorem dX4_bits_12 : decode cX4_bits 12 = .ok (.iload_n 2, 1) := by decide +kernel
theorem dX4_bits_13 : decode cX4_bits 13 = .ok (.ishr, 1) := by decide +kernel
theorem dX4_bits_14 : decode cX4_bits 14 = .ok (.iconst 1, 1) := by decide +kernel
theorem dX4_bits_15 : decode cX4_bits 15 = .ok (.iand, 1) := by decide +kernel
theorem dX4_bits_16 : decode cX4_bits 16 = .ok (.iadd, 1) := by decide +kernel
theorem dX4_bits_17 : decode cX4_bits 17 = .ok (.istore_n 1, 1) := by decide +kernel
theorem dX4_bits_18 : decode cX4_bits 18 = .ok (.iinc 2 1, 3) := by decide +kernel
theorem dX4_bits_21 : decode cX4_bits 21 = .ok (.goto (-17), 3) := by decide +kernel
theorem dX4_bits_24 : decode cX4_bits 24 = .ok (.iload_n 1, 1) := by decide +kernel
theorem dX4_bits_25 : decode cX4_bits 25 = .ok (.ireturn, 1) := by decide +kernel
theorem dX4_isSet_0 : decode cX4_isSet 0 = .ok (.aload_n 0, 1) := by decide +kernel
theorem dX4_isSet_1 : decode cX4_isSet 1 = .ok (.invokevirtual 118, 3) := by decide +kernel
theorem dX4_isSet_4 : decode cX4_isSet 4 = .ok (.iload_n 1, 1) := by decide +kernel
theorem dX4_isSet_5 : decode cX4_isSet 5 = .ok (.ifCond .le 25, 3) := by decide +kernel
theorem dX4_isSet_8 : decode cX4_isSet 8 = .ok (.iload_n 1, 1) := by decide +kernel
theorem dX4_isSet_9 : decode cX4_isSet 9 = .ok (.ldc 127, 2) := by decide +kernel
theorem dX4_isSet_11 : decode cX4_isSet 11 = .ok (.if_icmp .ge 19, 3) := by decide +kernel
theorem dX4_isSet_14 : decode cX4_isSet 14 = .ok (.iload_n 1, 1) := by decide +kernel
theorem dX4_isSet_15 : decode cX4_isSet 15 = .ok (.invokestatic 128, 3) := by decide +kernel
theorem dX4_isSet_18 : decode cX4_isSet 18 = .ok (.iconst 1, 1) := by decide +kernel
theorem dX4_isSet_19 : decode cX4_isSet 19 = .ok (.iconst 4, 1) := by decide +kernel
theorem dX4_isSet_20 : decode cX4_isSet 20 = .ok (.invokestatic 57, 3) := by decide +kernel
theorem dX4_isSet_23 : decode cX4_isSet 23 = .ok (.ifCond .eq 7, 3) := by decide +kernel
theorem dX4_isSet_26 : decode cX4_isSet 26 = .ok (.iconst 1, 1) := by decide +kernel
theorem dX4_isSet_27 : decode cX4_isSet 27 = .ok (.goto 4, 3) := by decide +kernel
theorem dX4_isSet_30 : decode cX4_isSet 30 = .ok (.iconst 0, 1) := by decide +kernel
theorem dX4_isSet_31 : decode cX4_isSet 31 = .ok (.istore_n 2, 1) := by decide +kernel
theorem dX4_isSet_32 : decode cX4_isSet 32 = .ok (.iconst 0, 1) := by decide +kernel
theorem dX4_isSet_33 : decode cX4_isSet 33 = .ok (.istore_n 3, 1) := by decide +kernel
theorem dX4_isSet_34 : decode cX4_isSet 34 = .ok (.iload_n 3, 1) := by decide +kernel
theorem dX4_isSet_35 : decode cX4_isSet 35 = .ok (.bipush 30, 2) := by decide +kernel
theorem dX4_isSet_37 : decode cX4_isSet 37 = .ok (.if_icmp .ge 36, 3) := by decide +kernel
theorem dX4_isSet_40 : decode cX4_isSet 40 = .ok (.iload_n 2, 1) := by decide +kernel
theorem dX4_isSet_41 : decode cX4_isSet 41 = .ok (.ifCond .eq 32, 3) := by decide +kernel
theorem dX4_isSet_44 : decode cX4_isSet 44 = .ok (.iload_n 1, 1) := by decide +kernel
theorem dX4_isSet_45 : decode cX4_isSet 45 = .ok (.iload_n 3, 1) := by decide +kernel
theorem dX4_isSet_46 : decode cX4_isSet 46 = .ok (.ishr, 1) := by decide +kernel
theorem dX4_isSet_47 : decode cX4_isSet 47 = .ok (.iconst 1, 1) := by decide +kernel
theorem dX4_isSet_48 : decode cX4_isSet 48 = .ok (.iand, 1) := by decide +kernel
theorem dX4_isSet_49 : decode cX4_isSet 49 = .ok (.ifCond .eq 12, 3) := by decide +kernel
theorem dX4_isSet_52 : decode cX4_isSet 52 = .ok (.aload_n 0, 1) := by decide +kernel
theorem dX4_isSet_53 : decode cX4_isSet 53 = .ok (.iload_n 3, 1) := by decide +kernel
theorem dX4_isSet_54 : decode cX4_isSet 54 = .ok (.invokevirtual 112, 3) := by decide +kernel
theorem dX4_isSet_57 : decode cX4_isSet 57 = .ok (.iconst (-1), 1) := by decide +kernel
theorem dX4_isSet_58 : decode cX4_isSet 58 = .ok (.if_icmp .eq 7, 3) := by decide +kernel
theorem dX4_isSet_61 : decode cX4_isSet 61 = .ok (.iconst 1, 1) := by decide +kernel
theorem dX4_isSet_62 : decode cX4_isSet 62 = .ok (.goto 4, 3) := by decide +kernel
theorem dX4_isSet_65 : decode cX4_isSet 65 = .ok (.iconst 0, 1) := by decide +kernel
theorem dX4_isSet_66 : decode cX4_isSet 66 = .ok (.istore_n 2, 1) := by decide +kernel
theorem dX4_isSet_67 : decode cX4_isSet 67 = .ok (.iinc 3 1, 3) := by decide +kernel
theorem dX4_isSet_70 : decode cX4_isSet 70 = .ok (.goto (-36), 3) := by decide +kernel
theorem dX4_isSet_73 : decode cX4_isSet 73 = .ok (.iload_n 2, 1) := by decide +kernel
theorem dX4_isSet_74 : decode cX4_isSet 74 = .ok (.ireturn, 1) := by decide +kernel
theorem dX4_liftsBy_0 : decode cX4_liftsBy 0 = .ok (.aload_n 0, 1) := by decide +kernel
theorem dX4_liftsBy_1 : decode cX4_liftsBy 1 = .ok (.invokevirtual 118, 3) := by decide +kernel
theorem dX4_liftsBy_4 : decode cX4_liftsBy 4 = .ok (.iconst 0, 1) := by decide +kernel
theorem dX4_liftsBy_5 : decode cX4_liftsBy 5 = .ok (.istore 4, 2) := by decide +kernel
theorem dX4_liftsBy_7 : decode cX4_liftsBy 7 = .ok (.iconst 0, 1) := by decide +kernel
theorem dX4_liftsBy_8 : decode cX4_liftsBy 8 = .ok (.istore 5, 2) := by decide +kernel
theorem dX4_liftsBy_10 : decode cX4_liftsBy 10 = .ok (.iload_n 3, 1) := by decide +kernel
theorem dX4_liftsBy_11 : decode cX4_liftsBy 11 = .ok (.istore 6, 2) := by decide +kernel
theorem dX4_liftsBy_13 : decode cX4_liftsBy 13 = .ok (.iconst 0, 1) := by decide +kernel
theorem dX4_liftsBy_14 : decode cX4_liftsBy 14 = .ok (.istore 7, 2) := by decide +kernel
theorem dX4_liftsBy_16 : decode cX4_liftsBy 16 = .ok (.iload 7, 2) := by decide +kernel
theorem dX4_liftsBy_18 : decode cX4_liftsBy 18 = .ok (.iload_n 2, 1) := by decide +kernel
theorem dX4_liftsBy_19 : decode cX4_liftsBy 19 = .ok (.if_icmp .ge 89, 3) := by decide +kernel
theorem dX4_liftsBy_22 : decode cX4_liftsBy 22 = .ok (.iload 6, 2) := by decide +kernel
theorem dX4_liftsBy_24 : decode cX4_liftsBy 24 = .ok (.iconst 4, 1) := by decide +kernel
theorem dX4_liftsBy_25 : decode cX4_liftsBy 25 = .ok (.irem, 1) := by decide +kernel
theorem dX4_liftsBy_26 : decode cX4_liftsBy 26 = .ok (.istore 8, 2) := by decide +kernel
theorem dX4_liftsBy_28 : decode cX4_liftsBy 28 = .ok (.iload 6, 2) := by decide +kernel
theorem dX4_liftsBy_30 : decode cX4_liftsBy 30 = .ok (.iconst 4, 1) := by decide +kernel
theorem dX4_liftsBy_31 : decode cX4_liftsBy 31 = .ok (.idiv, 1) := by decide +kernel
theorem dX4_liftsBy_32 : decode cX4_liftsBy 32 = .ok (.istore 6, 2) := by decide +kernel
theorem dX4_liftsBy_34 : decode cX4_liftsBy 34 = .ok (.iload 8, 2) := by decide +kernel
theorem dX4_liftsBy_36 : decode cX4_liftsBy 36 = .ok (.iload_n 2, 1) := by decide +kernel
theorem dX4_liftsBy_37 : decode cX4_liftsBy 37 = .ok (.if_icmp .ge 17, 3) := by decide +kernel
theorem dX4_liftsBy_40 : decode cX4_liftsBy 40 = .ok (.iload 5, 2) := by decide +kernel
theorem dX4_liftsBy_42 : decode cX4_liftsBy 42 = .ok (.iload 8, 2) := by decide +kernel
theorem dX4_liftsBy_44 : decode cX4_liftsBy 44 = .ok (.ishr, 1) := by decide +kernel
theorem dX4_liftsBy_45 : decode cX4_liftsBy 45 = .ok (.iconst 1, 1) := by decide +kernel
theorem dX4_liftsBy_46 : decode cX4_liftsBy 46 = .ok (.iand, 1) := by decide +kernel
theorem dX4_liftsBy_47 : decode cX4_liftsBy 47 = .ok (.ifCond .ne 7, 3) := by decide +kernel
theorem dX4_liftsBy_50 : decode cX4_liftsBy 50 = .ok (.iconst 1, 1) := by decide +kernel
theorem dX4_liftsBy_51 : decode cX4_liftsBy 51 = .ok (.goto 4, 3) := by decide +kernel
theorem dX4_liftsBy_54 : decode cX4_liftsBy 54 = .ok (.iconst 0, 1) := by decide +kernel
theorem dX4_liftsBy_55 : decode cX4_liftsBy 55 = .ok (.istore 9, 2) := by decide +kernel
theorem dX4_liftsBy_57 : decode cX4_liftsBy 57 = .ok (.iload 9, 2) := by decide +kernel
theorem dX4_liftsBy_59 : decode cX4_liftsBy 59 = .ok (.ifCond .eq 16, 3) := by decide +kernel
theorem dX4_liftsBy_62 : decode cX4_liftsBy 62 = .ok (.aload_n 0, 1) := by decide +kernel
theorem dX4_liftsBy_63 : decode cX4_liftsBy 63 = .ok (.iload_n 1, 1) := by decide +kernel
theorem dX4_liftsBy_64 : decode cX4_liftsBy 64 = .ok (.iload 8, 2) := by decide +kernel
theorem dX4_liftsBy_66 : decode cX4_liftsBy 66 = .ok (.invokestatic 131, 3) := by decide +kernel
theorem dX4_liftsBy_69 : decode cX4_liftsBy 69 = .ok (.invokevirtual 124, 3) := by decide +kernel
theorem dX4_liftsBy_72 : decode cX4_liftsBy 72 = .ok (.goto 4, 3) := by decide +kernel
theorem dX4_liftsBy_75 : decode cX4_liftsBy 75 = .ok (.iconst (-1), 1) := by decide +kernel
theorem dX4_liftsBy_76 : decode cX4_liftsBy 76 = .ok (.istore 10, 2) := by decide +kernel
theorem dX4_liftsBy_78 : decode cX4_liftsBy 78 = .ok (.iload 10, 2) := by decide +kernel
theorem dX4_liftsBy_80 : decode cX4_liftsBy 80 = .ok (.iconst (-1), 1) := by decide +kernel
theorem dX4_liftsBy_81 : decode cX4_liftsBy 81 = .ok (.if_icmp .ne 5, 3) := by decide +kernel
theorem dX4_liftsBy_84 : decode cX4_liftsBy 84 = .ok (.iconst (-1), 1) := by decide +kernel
theorem dX4_liftsBy_85 : decode cX4_liftsBy 85 = .ok (.ireturn, 1) := by decide +kernel
theorem dX4_liftsBy_86 : decode cX4_liftsBy 86 = .ok (.iload 5, 2) := by decide +kernel
theorem dX4_liftsBy_88 : decode cX4_liftsBy 88 = .ok (.iconst 1, 1) := by decide +kernel
theorem dX4_liftsBy_89 : decode cX4_liftsBy 89 = .ok (.iload 8, 2) := by decide +kernel
theorem dX4_liftsBy_91 : decode cX4_liftsBy 91 = .ok (.ishl, 1) := by decide +kernel
theorem dX4_liftsBy_92 : decode cX4_liftsBy 92 = .ok (.ior, 1) := by decide +kernel
theorem dX4_liftsBy_93 : decode cX4_liftsBy 93 = .ok (.istore 5, 2) := by decide +kernel
theorem dX4_liftsBy_95 : decode cX4_liftsBy 95 = .ok (.iload 4, 2) := by decide +kernel
theorem dX4_liftsBy_97 : decode cX4_liftsBy 97 = .ok (.iload 10, 2) := by decide +kernel
theorem dX4_liftsBy_99 : decode cX4_liftsBy 99 = .ok (.iadd, 1) := by decide +kernel
theorem dX4_liftsBy_100 : decode cX4_liftsBy 100 = .ok (.istore 4, 2) := by decide +kernel
theorem dX4_liftsBy_102 : decode cX4_liftsBy 102 = .ok (.iinc 7 1, 3) := by decide +kernel
theorem dX4_liftsBy_105 : decode cX4_liftsBy 105 = .ok (.goto (-89), 3) := by decide +kernel
theorem dX4_liftsBy_108 : decode cX4_liftsBy 108 = .ok (.iload 4, 2) := by decide +kernel
theorem dX4_liftsBy_110 : decode cX4_liftsBy 110 = .ok (.ireturn, 1) := by decide +kernel
theorem dX4_fewestLifts_0 : decode cX4_fewestLifts 0 = .ok (.aload_n 0, 1) := by decide +kernel
theorem dX4_fewestLifts_1 : decode cX4_fewestLifts 1 = .ok (.aload_n 0, 1) := by decide +kernel
theorem dX4_fewestLifts_2 : decode cX4_fewestLifts 2 = .ok (.iload_n 1, 1) := by decide +kernel
theorem dX4_fewestLifts_3 : decode cX4_fewestLifts 3 = .ok (.invokevirtual 135, 3) := by decide +kernel
theorem dX4_fewestLifts_6 : decode cX4_fewestLifts 6 = .ok (.ifCond .ne 7, 3) := by decide +kernel
theorem dX4_fewestLifts_9 : decode cX4_fewestLifts 9 = .ok (.iconst 1, 1) := by decide +kernel
theorem dX4_fewestLifts_10 : decode cX4_fewestLifts 10 = .ok (.goto 16, 3) := by decide +kernel
theorem dX4_fewestLifts_13 : decode cX4_fewestLifts 13 = .ok (.aload_n 0, 1) := by decide +kernel
theorem dX4_fewestLifts_14 : decode cX4_fewestLifts 14 = .ok (.getfield 22, 3) := by decide +kernel
theorem dX4_fewestLifts_17 : decode cX4_fewestLifts 17 = .ok (.iconst (-1), 1) := by decide +kernel
theorem dX4_fewestLifts_18 : decode cX4_fewestLifts 18 = .ok (.if_icmp .eq 7, 3) := by decide +kernel
theorem dX4_fewestLifts_21 : decode cX4_fewestLifts 21 = .ok (.iconst 2, 1) := by decide +kernel
theorem dX4_fewestLifts_22 : decode cX4_fewestLifts 22 = .ok (.goto 4, 3) := by decide +kernel
theorem dX4_fewestLifts_25 : decode cX4_fewestLifts 25 = .ok (.iconst 0, 1) := by decide +kernel
theorem dX4_fewestLifts_26 : decode cX4_fewestLifts 26 = .ok (.invokevirtual 99, 3) := by decide +kernel
theorem dX4_fewestLifts_29 : decode cX4_fewestLifts 29 = .ok (.ifCond .ne 5, 3) := by decide +kernel
theorem dX4_fewestLifts_32 : decode cX4_fewestLifts 32 = .ok (.iconst 0, 1) := by decide +kernel
theorem dX4_fewestLifts_33 : decode cX4_fewestLifts 33 = .ok (.ireturn, 1) := by decide +kernel
theorem dX4_fewestLifts_34 : decode cX4_fewestLifts 34 = .ok (.iload_n 1, 1) := by decide +kernel
theorem dX4_fewestLifts_35 : decode cX4_fewestLifts 35 = .ok (.invokestatic 128, 3) := by decide +kernel
theorem dX4_fewestLifts_38 : decode cX4_fewestLifts 38 = .ok (.istore_n 2, 1) := by decide +kernel
theorem dX4_fewestLifts_39 : decode cX4_fewestLifts 39 = .ok (.iconst (-1), 1) := by decide +kernel
theorem dX4_fewestLifts_40 : decode cX4_fewestLifts 40 = .ok (.istore_n 3, 1) := by decide +kernel
theorem dX4_fewestLifts_41 : decode cX4_fewestLifts 41 = .ok (.iconst 0, 1) := by decide +kernel
theorem dX4_fewestLifts_42 : decode cX4_fewestLifts 42 = .ok (.istore 4, 2) := by decide +kernel
theorem dX4_fewestLifts_44 : decode cX4_fewestLifts 44 = .ok (.iload 4, 2) := by decide +kernel
theorem dX4_fewestLifts_46 : decode cX4_fewestLifts 46 = .ok (.iconst 1, 1) := by decide +kernel
theorem dX4_fewestLifts_47 : decode cX4_fewestLifts 47 = .ok (.iconst 2, 1) := by decide +kernel
theorem dX4_fewestLifts_48 : decode cX4_fewestLifts 48 = .ok (.iload_n 2, 1) := by decide +kernel
theorem dX4_fewestLifts_49 : decode cX4_fewestLifts 49 = .ok (.imul, 1) := by decide +kernel
theorem dX4_fewestLifts_50 : decode cX4_fewestLifts 50 = .ok (.ishl, 1) := by decide +kernel
theorem dX4_fewestLifts_51 : decode cX4_fewestLifts 51 = .ok (.if_icmp .ge 43, 3) := by decide +kernel
theorem dX4_fewestLifts_54 : decode cX4_fewestLifts 54 = .ok (.aload_n 0, 1) := by decide +kernel
theorem dX4_fewestLifts_55 : decode cX4_fewestLifts 55 = .ok (.iload_n 1, 1) := by decide +kernel
theorem dX4_fewestLifts_56 : decode cX4_fewestLifts 56 = .ok (.iload_n 2, 1) := by decide +kernel
theorem dX4_fewestLifts_57 : decode cX4_fewestLifts 57 = .ok (.iload 4, 2) := by decide +kernel
theorem dX4_fewestLifts_59 : decode cX4_fewestLifts 59 = .ok (.invokevirtual 138, 3) := by decide +kernel
theorem dX4_fewestLifts_62 : decode cX4_fewestLifts 62 = .ok (.istore 5, 2) := by decide +kernel
theorem dX4_fewestLifts_64 : decode cX4_fewestLifts 64 = .ok (.iload 5, 2) := by decide +kernel
theorem dX4_fewestLifts_66 : decode cX4_fewestLifts 66 = .ok (.iconst (-1), 1) := by decide +kernel
theorem dX4_fewestLifts_67 : decode cX4_fewestLifts 67 = .ok (.if_icmp .eq 19, 3) := by decide +kernel
theorem dX4_fewestLifts_70 : decode cX4_fewestLifts 70 = .ok (.iload_n 3, 1) := by decide +kernel
theorem dX4_fewestLifts_71 : decode cX4_fewestLifts 71 = .ok (.iconst (-1), 1) := by decide +kernel
theorem dX4_fewestLifts_72 : decode cX4_fewestLifts 72 = .ok (.if_icmp .eq 9, 3) := by decide +kernel
theorem dX4_fewestLifts_75 : decode cX4_fewestLifts 75 = .ok (.iload 5, 2) := by decide +kernel
theorem dX4_fewestLifts_77 : decode cX4_fewestLifts 77 = .ok (.iload_n 3, 1) := by decide +kernel
theorem dX4_fewestLifts_78 : decode cX4_fewestLifts 78 = .ok (.if_icmp .ge 8, 3) := by decide +kernel
theorem dX4_fewestLifts_81 : decode cX4_fewestLifts 81 = .ok (.iload 5, 2) := by decide +kernel
theorem dX4_fewestLifts_83 : decode cX4_fewestLifts 83 = .ok (.goto 4, 3) := by decide +kernel
theorem dX4_fewestLifts_86 : decode cX4_fewestLifts 86 = .ok (.iload_n 3, 1) := by decide +kernel
theorem dX4_fewestLifts_87 : decode cX4_fewestLifts 87 = .ok (.istore_n 3, 1) := by decide +kernel
theorem dX4_fewestLifts_88 : decode cX4_fewestLifts 88 = .ok (.iinc 4 1, 3) := by decide +kernel
theorem dX4_fewestLifts_91 : decode cX4_fewestLifts 91 = .ok (.goto (-47), 3) := by decide +kernel
theorem dX4_fewestLifts_94 : decode cX4_fewestLifts 94 = .ok (.iload_n 3, 1) := by decide +kernel
theorem dX4_fewestLifts_95 : decode cX4_fewestLifts 95 = .ok (.ireturn, 1) := by decide +kernel
theorem dX4_isLetter_0 : decode cX4_isLetter 0 = .ok (.iload_n 0, 1) := by decide +kernel
theorem dX4_isLetter_1 : decode cX4_isLetter 1 = .ok (.iconst 0, 1) := by decide +kernel
theorem dX4_isLetter_2 : decode cX4_isLetter 2 = .ok (.bipush 25, 2) := by decide +kernel
theorem dX4_isLetter_4 : decode cX4_isLetter 4 = .ok (.invokestatic 57, 3) := by decide +kernel
theorem dX4_isLetter_7 : decode cX4_isLetter 7 = .ok (.ireturn, 1) := by decide +kernel
theorem dX4_tell_0 : decode cX4_tell 0 = .ok (.iload_n 1, 1) := by decide +kernel
theorem dX4_tell_1 : decode cX4_tell 1 = .ok (.invokestatic 142, 3) := by decide +kernel
theorem dX4_tell_4 : decode cX4_tell 4 = .ok (.ifCond .eq 49, 3) := by decide +kernel
theorem dX4_tell_7 : decode cX4_tell 7 = .ok (.iload_n 2, 1) := by decide +kernel
theorem dX4_tell_8 : decode cX4_tell 8 = .ok (.invokestatic 142, 3) := by decide +kernel
theorem dX4_tell_11 : decode cX4_tell 11 = .ok (.ifCond .eq 42, 3) := by decide +kernel
theorem dX4_tell_14 : decode cX4_tell 14 = .ok (.iload_n 3, 1) := by decide +kernel
theorem dX4_tell_15 : decode cX4_tell 15 = .ok (.iconst (-1), 1) := by decide +kernel
theorem dX4_tell_16 : decode cX4_tell 16 = .ok (.if_icmp .ne 12, 3) := by decide +kernel
theorem dX4_tell_19 : decode cX4_tell 19 = .ok (.iload 4, 2) := by decide +kernel
theorem dX4_tell_21 : decode cX4_tell 21 = .ok (.iconst (-1), 1) := by decide +kernel
theorem dX4_tell_22 : decode cX4_tell 22 = .ok (.if_icmp .ne 31, 3) := by decide +kernel
theorem dX4_tell_25 : decode cX4_tell 25 = .ok (.goto 24, 3) := by decide +kernel
theorem dX4_tell_28 : decode cX4_tell 28 = .ok (.iload_n 3, 1) := by decide +kernel
theorem dX4_tell_29 : decode cX4_tell 29 = .ok (.invokestatic 142, 3) := by decide +kernel
theorem dX4_tell_32 : decode cX4_tell 32 = .ok (.ifCond .eq 21, 3) := by decide +kernel
theorem dX4_tell_35 : decode cX4_tell 35 = .ok (.iload 4, 2) := by decide +kernel
theorem dX4_tell_37 : decode cX4_tell 37 = .ok (.iconst (-1), 1) := by decide +kernel
theorem dX4_tell_38 : decode cX4_tell 38 = .ok (.if_icmp .eq 11, 3) := by decide +kernel
theorem dX4_tell_41 : decode cX4_tell 41 = .ok (.iload 4, 2) := by decide +kernel
theorem dX4_tell_43 : decode cX4_tell 43 = .ok (.invokestatic 142, 3) := by decide +kernel
theorem dX4_tell_46 : decode cX4_tell 46 = .ok (.ifCond .eq 7, 3) := by decide +kernel
theorem dX4_tell_49 : decode cX4_tell 49 = .ok (.iconst 1, 1) := by decide +kernel
theorem dX4_tell_50 : decode cX4_tell 50 = .ok (.goto 4, 3) := by decide +kernel
theorem dX4_tell_53 : decode cX4_tell 53 = .ok (.iconst 0, 1) := by decide +kernel
theorem dX4_tell_54 : decode cX4_tell 54 = .ok (.istore 5, 2) := by decide +kernel
theorem dX4_tell_56 : decode cX4_tell 56 = .ok (.aload_n 0, 1) := by decide +kernel
theorem dX4_tell_57 : decode cX4_tell 57 = .ok (.iload 5, 2) := by decide +kernel
theorem dX4_tell_59 : decode cX4_tell 59 = .ok (.ifCond .ne 7, 3) := by decide +kernel
theorem dX4_tell_62 : decode cX4_tell 62 = .ok (.iconst 1, 1) := by decide +kernel
theorem dX4_tell_63 : decode cX4_tell 63 = .ok (.goto 17, 3) := by decide +kernel
theorem dX4_tell_66 : decode cX4_tell 66 = .ok (.aload_n 0, 1) := by decide +kernel
theorem dX4_tell_67 : decode cX4_tell 67 = .ok (.getfield 79, 3) := by decide +kernel
theorem dX4_tell_70 : decode cX4_tell 70 = .ok (.bipush 8, 2) := by decide +kernel
theorem dX4_tell_72 : decode cX4_tell 72 = .ok (.if_icmp .ne 7, 3) := by decide +kernel
theorem dX4_tell_75 : decode cX4_tell 75 = .ok (.iconst 2, 1) := by decide +kernel
theorem dX4_tell_76 : decode cX4_tell 76 = .ok (.goto 4, 3) := by decide +kernel
theorem dX4_tell_79 : decode cX4_tell 79 = .ok (.iconst 0, 1) := by decide +kernel
theorem dX4_tell_80 : decode cX4_tell 80 = .ok (.invokevirtual 99, 3) := by decide +kernel
theorem dX4_tell_83 : decode cX4_tell 83 = .ok (.ifCond .ne 5, 3) := by decide +kernel
theorem dX4_tell_86 : decode cX4_tell 86 = .ok (.iconst 0, 1) := by decide +kernel
theorem dX4_tell_87 : decode cX4_tell 87 = .ok (.ireturn, 1) := by decide +kernel
theorem dX4_tell_88 : decode cX4_tell 88 = .ok (.aload_n 0, 1) := by decide +kernel
theorem dX4_tell_89 : decode cX4_tell 89 = .ok (.getfield 32, 3) := by decide +kernel
theorem dX4_tell_92 : decode cX4_tell 92 = .ok (.iconst 4, 1) := by decide +kernel
theorem dX4_tell_93 : decode cX4_tell 93 = .ok (.aload_n 0, 1) := by decide +kernel
theorem dX4_tell_94 : decode cX4_tell 94 = .ok (.getfield 79, 3) := by decide +kernel
theorem dX4_tell_97 : decode cX4_tell 97 = .ok (.imul, 1) := by decide +kernel
theorem dX4_tell_98 : decode cX4_tell 98 = .ok (.iload_n 1, 1) := by decide +kernel
theorem dX4_tell_99 : decode cX4_tell 99 = .ok (.iastore, 1) := by decide +kernel
theorem dX4_tell_100 : decode cX4_tell 100 = .ok (.aload_n 0, 1) := by decide +kernel
theorem dX4_tell_101 : decode cX4_tell 101 = .ok (.getfield 32, 3) := by decide +kernel
theorem dX4_tell_104 : decode cX4_tell 104 = .ok (.iconst 4, 1) := by decide +kernel
theorem dX4_tell_105 : decode cX4_tell 105 = .ok (.aload_n 0, 1) := by decide +kernel
theorem dX4_tell_106 : decode cX4_tell 106 = .ok (.getfield 79, 3) := by decide +kernel
theorem dX4_tell_109 : decode cX4_tell 109 = .ok (.imul, 1) := by decide +kernel
theorem dX4_tell_110 : decode cX4_tell 110 = .ok (.iconst 1, 1) := by decide +kernel
theorem dX4_tell_111 : decode cX4_tell 111 = .ok (.iadd, 1) := by decide +kernel
theorem dX4_tell_112 : decode cX4_tell 112 = .ok (.iload_n 2, 1) := by decide +kernel
theorem dX4_tell_113 : decode cX4_tell 113 = .ok (.iastore, 1) := by decide +kernel
theorem dX4_tell_114 : decode cX4_tell 114 = .ok (.aload_n 0, 1) := by decide +kernel
theorem dX4_tell_115 : decode cX4_tell 115 = .ok (.getfield 32, 3) := by decide +kernel
theorem dX4_tell_118 : decode cX4_tell 118 = .ok (.iconst 4, 1) := by decide +kernel
theorem dX4_tell_119 : decode cX4_tell 119 = .ok (.aload_n 0, 1) := by decide +kernel
theorem dX4_tell_120 : decode cX4_tell 120 = .ok (.getfield 79, 3) := by decide +kernel
theorem dX4_tell_123 : decode cX4_tell 123 = .ok (.imul, 1) := by decide +kernel
theorem dX4_tell_124 : decode cX4_tell 124 = .ok (.iconst 2, 1) := by decide +kernel
theorem dX4_tell_125 : decode cX4_tell 125 = .ok (.iadd, 1) := by decide +kernel
theorem dX4_tell_126 : decode cX4_tell 126 = .ok (.iload_n 3, 1) := by decide +kernel
theorem dX4_tell_127 : decode cX4_tell 127 = .ok (.iastore, 1) := by decide +kernel
theorem dX4_tell_128 : decode cX4_tell 128 = .ok (.aload_n 0, 1) := by decide +kernel
theorem dX4_tell_129 : decode cX4_tell 129 = .ok (.getfield 32, 3) := by decide +kernel
theorem dX4_tell_132 : decode cX4_tell 132 = .ok (.iconst 4, 1) := by decide +kernel
theorem dX4_tell_133 : decode cX4_tell 133 = .ok (.aload_n 0, 1) := by decide +kernel
theorem dX4_tell_134 : decode cX4_tell 134 = .ok (.getfield 79, 3) := by decide +kernel
theorem dX4_tell_137 : decode cX4_tell 137 = .ok (.imul, 1) := by decide +kernel
theorem dX4_tell_138 : decode cX4_tell 138 = .ok (.iconst 3, 1) := by decide +kernel
theorem dX4_tell_139 : decode cX4_tell 139 = .ok (.iadd, 1) := by decide +kernel
theorem dX4_tell_140 : decode cX4_tell 140 = .ok (.iload 4, 2) := by decide +kernel
theorem dX4_tell_142 : decode cX4_tell 142 = .ok (.iastore, 1) := by decide +kernel
theorem dX4_tell_143 : decode cX4_tell 143 = .ok (.aload_n 0, 1) := by decide +kernel
theorem dX4_tell_144 : decode cX4_tell 144 = .ok (.dup, 1) := by decide +kernel
theorem dX4_tell_145 : decode cX4_tell 145 = .ok (.getfield 79, 3) := by decide +kernel
theorem dX4_tell_148 : decode cX4_tell 148 = .ok (.iconst 1, 1) := by decide +kernel
theorem dX4_tell_149 : decode cX4_tell 149 = .ok (.iadd, 1) := by decide +kernel
theorem dX4_tell_150 : decode cX4_tell 150 = .ok (.putfield 79, 3) := by decide +kernel
theorem dX4_tell_153 : decode cX4_tell 153 = .ok (.aload_n 0, 1) := by decide +kernel
theorem dX4_tell_154 : decode cX4_tell 154 = .ok (.invokevirtual 106, 3) := by decide +kernel
theorem dX4_tell_157 : decode cX4_tell 157 = .ok (.aload_n 0, 1) := by decide +kernel
theorem dX4_tell_158 : decode cX4_tell 158 = .ok (.getfield 79, 3) := by decide +kernel
theorem dX4_tell_161 : decode cX4_tell 161 = .ok (.iconst 1, 1) := by decide +kernel
theorem dX4_tell_162 : decode cX4_tell 162 = .ok (.isub, 1) := by decide +kernel
theorem dX4_tell_163 : decode cX4_tell 163 = .ok (.ireturn, 1) := by decide +kernel
theorem dX4_hasPaid_0 : decode cX4_hasPaid 0 = .ok (.aload_n 0, 1) := by decide +kernel
theorem dX4_hasPaid_1 : decode cX4_hasPaid 1 = .ok (.iload_n 1, 1) := by decide +kernel
theorem dX4_hasPaid_2 : decode cX4_hasPaid 2 = .ok (.iconst 0, 1) := by decide +kernel
theorem dX4_hasPaid_3 : decode cX4_hasPaid 3 = .ok (.aload_n 0, 1) := by decide +kernel
theorem dX4_hasPaid_4 : decode cX4_hasPaid 4 = .ok (.getfield 79, 3) := by decide +kernel
theorem dX4_hasPaid_7 : decode cX4_hasPaid 7 = .ok (.iconst 1, 1) := by decide +kernel
theorem dX4_hasPaid_8 : decode cX4_hasPaid 8 = .ok (.isub, 1) := by decide +kernel
theorem dX4_hasPaid_9 : decode cX4_hasPaid 9 = .ok (.invokestatic 57, 3) := by decide +kernel
theorem dX4_hasPaid_12 : decode cX4_hasPaid 12 = .ok (.ifCond .eq 7, 3) := by decide +kernel
theorem dX4_hasPaid_15 : decode cX4_hasPaid 15 = .ok (.iconst 0, 1) := by decide +kernel
theorem dX4_hasPaid_16 : decode cX4_hasPaid 16 = .ok (.goto 4, 3) := by decide +kernel
theorem dX4_hasPaid_19 : decode cX4_hasPaid 19 = .ok (.iconst 1, 1) := by decide +kernel
theorem dX4_hasPaid_20 : decode cX4_hasPaid 20 = .ok (.invokevirtual 99, 3) := by decide +kernel
theorem dX4_hasPaid_23 : decode cX4_hasPaid 23 = .ok (.ifCond .eq 16, 3) := by decide +kernel
theorem dX4_hasPaid_26 : decode cX4_hasPaid 26 = .ok (.aload_n 0, 1) := by decide +kernel
theorem dX4_hasPaid_27 : decode cX4_hasPaid 27 = .ok (.getfield 35, 3) := by decide +kernel
theorem dX4_hasPaid_30 : decode cX4_hasPaid 30 = .ok (.iload_n 1, 1) := by decide +kernel
theorem dX4_hasPaid_31 : decode cX4_hasPaid 31 = .ok (.baload, 1) := by decide +kernel
theorem dX4_hasPaid_32 : decode cX4_hasPaid 32 = .ok (.ifCond .eq 7, 3) := by decide +kernel
theorem dX4_hasPaid_35 : decode cX4_hasPaid 35 = .ok (.iconst 1, 1) := by decide +kernel
theorem dX4_hasPaid_36 : decode cX4_hasPaid 36 = .ok (.goto 4, 3) := by decide +kernel
theorem dX4_hasPaid_39 : decode cX4_hasPaid 39 = .ok (.iconst 0, 1) := by decide +kernel
theorem dX4_hasPaid_40 : decode cX4_hasPaid 40 = .ok (.ireturn, 1) := by decide +kernel
theorem dX4_bonus_0 : decode cX4_bonus 0 = .ok (.aload_n 0, 1) := by decide +kernel
theorem dX4_bonus_1 : decode cX4_bonus 1 = .ok (.iconst 0, 1) := by decide +kernel
theorem dX4_bonus_2 : decode cX4_bonus 2 = .ok (.putfield 54, 3) := by decide +kernel
theorem dX4_bonus_5 : decode cX4_bonus 5 = .ok (.aload_n 0, 1) := by decide +kernel
theorem dX4_bonus_6 : decode cX4_bonus 6 = .ok (.getfield 86, 3) := by decide +kernel
theorem dX4_bonus_9 : decode cX4_bonus 9 = .ok (.ireturn, 1) := by decide +kernel
theorem dX4_haulOf_0 : decode cX4_haulOf 0 = .ok (.iconst 0, 1) := by decide +kernel
theorem dX4_haulOf_1 : decode cX4_haulOf 1 = .ok (.istore_n 2, 1) := by decide +kernel
theorem dX4_haulOf_2 : decode cX4_haulOf 2 = .ok (.iload_n 2, 1) := by decide +kernel
theorem dX4_haulOf_3 : decode cX4_haulOf 3 = .ok (.aload_n 0, 1) := by decide +kernel
theorem dX4_haulOf_4 : decode cX4_haulOf 4 = .ok (.getfield 64, 3) := by decide +kernel
theorem dX4_haulOf_7 : decode cX4_haulOf 7 = .ok (.if_icmp .ge 31, 3) := by decide +kernel
theorem dX4_haulOf_10 : decode cX4_haulOf 10 = .ok (.aload_n 0, 1) := by decide +kernel
theorem dX4_haulOf_11 : decode cX4_haulOf 11 = .ok (.getfield 39, 3) := by decide +kernel
theorem dX4_haulOf_14 : decode cX4_haulOf 14 = .ok (.iload_n 2, 1) := by decide +kernel
theorem dX4_haulOf_15 : decode cX4_haulOf 15 = .ok (.iaload, 1) := by decide +kernel
theorem dX4_haulOf_16 : decode cX4_haulOf 16 = .ok (.iload_n 1, 1) := by decide +kernel
theorem dX4_haulOf_17 : decode cX4_haulOf 17 = .ok (.if_icmp .ne 15, 3) := by decide +kernel
theorem dX4_haulOf_20 : decode cX4_haulOf 20 = .ok (.aload_n 0, 1) := by decide +kernel
theorem dX4_haulOf_21 : decode cX4_haulOf 21 = .ok (.getfield 45, 3) := by decide +kernel
theorem dX4_haulOf_24 : decode cX4_haulOf 24 = .ok (.iload_n 2, 1) := by decide +kernel
theorem dX4_haulOf_25 : decode cX4_haulOf 25 = .ok (.iaload, 1) := by decide +kernel
theorem dX4_haulOf_26 : decode cX4_haulOf 26 = .ok (.iconst 1, 1) := by decide +kernel
theorem dX4_haulOf_27 : decode cX4_haulOf 27 = .ok (.if_icmp .gt 5, 3) := by decide +kernel
theorem dX4_haulOf_30 : decode cX4_haulOf 30 = .ok (.iload_n 2, 1) := by decide +kernel
theorem dX4_haulOf_31 : decode cX4_haulOf 31 = .ok (.ireturn, 1) := by decide +kernel
theorem dX4_haulOf_32 : decode cX4_haulOf 32 = .ok (.iinc 2 1, 3) := by decide +kernel
theorem dX4_haulOf_35 : decode cX4_haulOf 35 = .ok (.goto (-33), 3) := by decide +kernel
theorem dX4_haulOf_38 : decode cX4_haulOf 38 = .ok (.iconst (-1), 1) := by decide +kernel
theorem dX4_haulOf_39 : decode cX4_haulOf 39 = .ok (.ireturn, 1) := by decide +kernel
theorem dX4_offer_0 : decode cX4_offer 0 = .ok (.aload_n 0, 1) := by decide +kernel
theorem dX4_offer_1 : decode cX4_offer 1 = .ok (.iload_n 1, 1) := by decide +kernel
theorem dX4_offer_2 : decode cX4_offer 2 = .ok (.invokevirtual 121, 3) := by decide +kernel
theorem dX4_offer_5 : decode cX4_offer 5 = .ok (.istore_n 3, 1) := by decide +kernel
theorem dX4_offer_6 : decode cX4_offer 6 = .ok (.aload_n 0, 1) := by decide +kernel
theorem dX4_offer_7 : decode cX4_offer 7 = .ok (.invokevirtual 118, 3) := by decide +kernel
theorem dX4_offer_10 : decode cX4_offer 10 = .ok (.iload_n 3, 1) := by decide +kernel
theorem dX4_offer_11 : decode cX4_offer 11 = .ok (.ifCond .eq 34, 3) := by decide +kernel
theorem dX4_offer_14 : decode cX4_offer 14 = .ok (.aload_n 0, 1) := by decide +kernel
theorem dX4_offer_15 : decode cX4_offer 15 = .ok (.iload_n 1, 1) := by decide +kernel
theorem dX4_offer_16 : decode cX4_offer 16 = .ok (.invokevirtual 112, 3) := by decide +kernel
theorem dX4_offer_19 : decode cX4_offer 19 = .ok (.iconst (-1), 1) := by decide +kernel
theorem dX4_offer_20 : decode cX4_offer 20 = .ok (.if_icmp .eq 25, 3) := by decide +kernel
theorem dX4_offer_23 : decode cX4_offer 23 = .ok (.aload_n 0, 1) := by decide +kernel
theorem dX4_offer_24 : decode cX4_offer 24 = .ok (.iload_n 1, 1) := by decide +kernel
theorem dX4_offer_25 : decode cX4_offer 25 = .ok (.invokevirtual 145, 3) := by decide +kernel
theorem dX4_offer_28 : decode cX4_offer 28 = .ok (.iconst (-1), 1) := by decide +kernel
theorem dX4_offer_29 : decode cX4_offer 29 = .ok (.if_icmp .ne 16, 3) := by decide +kernel
theorem dX4_offer_32 : decode cX4_offer 32 = .ok (.aload_n 0, 1) := by decide +kernel
theorem dX4_offer_33 : decode cX4_offer 33 = .ok (.getfield 64, 3) := by decide +kernel
theorem dX4_offer_36 : decode cX4_offer 36 = .ok (.bipush 20, 2) := by decide +kernel
theorem dX4_offer_38 : decode cX4_offer 38 = .ok (.if_icmp .ge 7, 3) := by decide +kernel
theorem dX4_offer_41 : decode cX4_offer 41 = .ok (.iconst 1, 1) := by decide +kernel
theorem dX4_offer_42 : decode cX4_offer 42 = .ok (.goto 4, 3) := by decide +kernel
theorem dX4_offer_45 : decode cX4_offer 45 = .ok (.iconst 0, 1) := by decide +kernel
theorem dX4_offer_46 : decode cX4_offer 46 = .ok (.istore 4, 2) := by decide +kernel
theorem dX4_offer_48 : decode cX4_offer 48 = .ok (.aload_n 0, 1) := by decide +kernel
theorem dX4_offer_49 : decode cX4_offer 49 = .ok (.iload_n 3, 1) := by decide +kernel
theorem dX4_offer_50 : decode cX4_offer 50 = .ok (.ifCond .ne 7, 3) := by decide +kernel
theorem dX4_offer_53 : decode cX4_offer 53 = .ok (.iconst 1, 1) := by decide +kernel
theorem dX4_offer_54 : decode cX4_offer 54 = .ok (.goto 35, 3) := by decide +kernel
theorem dX4_offer_57 : decode cX4_offer 57 = .ok (.iload_n 2, 1) := by decide +kernel
theorem dX4_offer_58 : decode cX4_offer 58 = .ok (.aload_n 0, 1) := by decide +kernel
theorem dX4_offer_59 : decode cX4_offer 59 = .ok (.getfield 148, 3) := by decide +kernel
theorem dX4_offer_62 : decode cX4_offer 62 = .ok (.aload_n 0, 1) := by decide +kernel
theorem dX4_offer_63 : decode cX4_offer 63 = .ok (.getfield 148, 3) := by decide +kernel
theorem dX4_offer_66 : decode cX4_offer 66 = .ok (.bipush 100, 2) := by decide +kernel
theorem dX4_offer_68 : decode cX4_offer 68 = .ok (.iadd, 1) := by decide +kernel
theorem dX4_offer_69 : decode cX4_offer 69 = .ok (.invokestatic 57, 3) := by decide +kernel
theorem dX4_offer_72 : decode cX4_offer 72 = .ok (.ifCond .ne 7, 3) := by decide +kernel
theorem dX4_offer_75 : decode cX4_offer 75 = .ok (.iconst 2, 1) := by decide +kernel
theorem dX4_offer_76 : decode cX4_offer 76 = .ok (.goto 13, 3) := by decide +kernel
theorem dX4_offer_79 : decode cX4_offer 79 = .ok (.iload 4, 2) := by decide +kernel
theorem dX4_offer_81 : decode cX4_offer 81 = .ok (.ifCond .eq 7, 3) := by decide +kernel
theorem dX4_offer_84 : decode cX4_offer 84 = .ok (.iconst 0, 1) := by decide +kernel
theorem dX4_offer_85 : decode cX4_offer 85 = .ok (.goto 4, 3) := by decide +kernel
theorem dX4_offer_88 : decode cX4_offer 88 = .ok (.iconst 3, 1) := by decide +kernel
theorem dX4_offer_89 : decode cX4_offer 89 = .ok (.invokevirtual 99, 3) := by decide +kernel
theorem dX4_offer_92 : decode cX4_offer 92 = .ok (.ifCond .ne 5, 3) := by decide +kernel
theorem dX4_offer_95 : decode cX4_offer 95 = .ok (.iconst 0, 1) := by decide +kernel
theorem dX4_offer_96 : decode cX4_offer 96 = .ok (.ireturn, 1) := by decide +kernel
theorem dX4_offer_97 : decode cX4_offer 97 = .ok (.aload_n 0, 1) := by decide +kernel
theorem dX4_offer_98 : decode cX4_offer 98 = .ok (.getfield 39, 3) := by decide +kernel
theorem dX4_offer_101 : decode cX4_offer 101 = .ok (.aload_n 0, 1) := by decide +kernel
theorem dX4_offer_102 : decode cX4_offer 102 = .ok (.getfield 64, 3) := by decide +kernel
theorem dX4_offer_105 : decode cX4_offer 105 = .ok (.iload_n 1, 1) := by decide +kernel
theorem dX4_offer_106 : decode cX4_offer 106 = .ok (.iastore, 1) := by decide +kernel
theorem dX4_offer_107 : decode cX4_offer 107 = .ok (.aload_n 0, 1) := by decide +kernel
theorem dX4_offer_108 : decode cX4_offer 108 = .ok (.getfield 42, 3) := by decide +kernel
theorem dX4_offer_111 : decode cX4_offer 111 = .ok (.aload_n 0, 1) := by decide +kernel
theorem dX4_offer_112 : decode cX4_offer 112 = .ok (.getfield 64, 3) := by decide +kernel
theorem dX4_offer_115 : decode cX4_offer 115 = .ok (.iload_n 2, 1) := by decide +kernel
theorem dX4_offer_116 : decode cX4_offer 116 = .ok (.iastore, 1) := by decide +kernel
theorem dX4_offer_117 : decode cX4_offer 117 = .ok (.aload_n 0, 1) := by decide +kernel
theorem dX4_offer_118 : decode cX4_offer 118 = .ok (.getfield 45, 3) := by decide +kernel
theorem dX4_offer_121 : decode cX4_offer 121 = .ok (.aload_n 0, 1) := by decide +kernel
theorem dX4_offer_122 : decode cX4_offer 122 = .ok (.getfield 64, 3) := by decide +kernel
theorem dX4_offer_125 : decode cX4_offer 125 = .ok (.iconst 0, 1) := by decide +kernel
theorem dX4_offer_126 : decode cX4_offer 126 = .ok (.iastore, 1) := by decide +kernel
theorem dX4_offer_127 : decode cX4_offer 127 = .ok (.aload_n 0, 1) := by decide +kernel
theorem dX4_offer_128 : decode cX4_offer 128 = .ok (.dup, 1) := by decide +kernel
theorem dX4_offer_129 : decode cX4_offer 129 = .ok (.getfield 64, 3) := by decide +kernel
theorem dX4_offer_132 : decode cX4_offer 132 = .ok (.iconst 1, 1) := by decide +kernel
theorem dX4_offer_133 : decode cX4_offer 133 = .ok (.iadd, 1) := by decide +kernel
theorem dX4_offer_134 : decode cX4_offer 134 = .ok (.putfield 64, 3) := by decide +kernel
theorem dX4_offer_137 : decode cX4_offer 137 = .ok (.aload_n 0, 1) := by decide +kernel
theorem dX4_offer_138 : decode cX4_offer 138 = .ok (.getfield 64, 3) := by decide +kernel
theorem dX4_offer_141 : decode cX4_offer 141 = .ok (.iconst 1, 1) := by decide +kernel
theorem dX4_offer_142 : decode cX4_offer 142 = .ok (.isub, 1) := by decide +kernel
theorem dX4_offer_143 : decode cX4_offer 143 = .ok (.ireturn, 1) := by decide +kernel
theorem dX4_bid_0 : decode cX4_bid 0 = .ok (.aload_n 0, 1) := by decide +kernel
theorem dX4_bid_1 : decode cX4_bid 1 = .ok (.iload_n 1, 1) := by decide +kernel
theorem dX4_bid_2 : decode cX4_bid 2 = .ok (.invokevirtual 151, 3) := by decide +kernel
theorem dX4_bid_5 : decode cX4_bid 5 = .ok (.istore 4, 2) := by decide +kernel
theorem dX4_bid_7 : decode cX4_bid 7 = .ok (.iload_n 2, 1) := by decide +kernel
theorem dX4_bid_8 : decode cX4_bid 8 = .ok (.iconst 0, 1) := by decide +kernel
theorem dX4_bid_9 : decode cX4_bid 9 = .ok (.iconst 3, 1) := by decide +kernel
theorem dX4_bid_10 : decode cX4_bid 10 = .ok (.invokestatic 57, 3) := by decide +kernel
theorem dX4_bid_13 : decode cX4_bid 13 = .ok (.ifCond .eq 18, 3) := by decide +kernel
theorem dX4_bid_16 : decode cX4_bid 16 = .ok (.iload_n 3, 1) := by decide +kernel
theorem dX4_bid_17 : decode cX4_bid 17 = .ok (.iconst 1, 1) := by decide +kernel
theorem dX4_bid_18 : decode cX4_bid 18 = .ok (.sipush 1000, 3) := by decide +kernel
theorem dX4_bid_21 : decode cX4_bid 21 = .ok (.invokestatic 57, 3) := by decide +kernel
theorem dX4_bid_24 : decode cX4_bid 24 = .ok (.ifCond .eq 7, 3) := by decide +kernel
theorem dX4_bid_27 : decode cX4_bid 27 = .ok (.iconst 1, 1) := by decide +kernel
theorem dX4_bid_28 : decode cX4_bid 28 = .ok (.goto 4, 3) := by decide +kernel
theorem dX4_bid_31 : decode cX4_bid 31 = .ok (.iconst 0, 1) := by decide +kernel
theorem dX4_bid_32 : decode cX4_bid 32 = .ok (.istore 5, 2) := by decide +kernel
theorem dX4_bid_34 : decode cX4_bid 34 = .ok (.iload 4, 2) := by decide +kernel
theorem dX4_bid_36 : decode cX4_bid 36 = .ok (.ifCond .eq 34, 3) := by decide +kernel
theorem dX4_bid_39 : decode cX4_bid 39 = .ok (.iload 5, 2) := by decide +kernel
theorem dX4_bid_41 : decode cX4_bid 41 = .ok (.ifCond .eq 29, 3) := by decide +kernel
theorem dX4_bid_44 : decode cX4_bid 44 = .ok (.aload_n 0, 1) := by decide +kernel
theorem dX4_bid_45 : decode cX4_bid 45 = .ok (.getfield 45, 3) := by decide +kernel
theorem dX4_bid_48 : decode cX4_bid 48 = .ok (.iload_n 1, 1) := by decide +kernel
theorem dX4_bid_49 : decode cX4_bid 49 = .ok (.iaload, 1) := by decide +kernel
theorem dX4_bid_50 : decode cX4_bid 50 = .ok (.ifCond .ne 20, 3) := by decide +kernel
theorem dX4_bid_53 : decode cX4_bid 53 = .ok (.aload_n 0, 1) := by decide +kernel
theorem dX4_bid_54 : decode cX4_bid 54 = .ok (.getfield 51, 3) := by decide +kernel
theorem dX4_bid_57 : decode cX4_bid 57 = .ok (.iconst 4, 1) := by decide +kernel
theorem dX4_bid_58 : decode cX4_bid 58 = .ok (.iload_n 1, 1) := by decide +kernel
theorem dX4_bid_59 : decode cX4_bid 59 = .ok (.imul, 1) := by decide +kernel
theorem dX4_bid_60 : decode cX4_bid 60 = .ok (.iload_n 2, 1) := by decide +kernel
theorem dX4_bid_61 : decode cX4_bid 61 = .ok (.iadd, 1) := by decide +kernel
theorem dX4_bid_62 : decode cX4_bid 62 = .ok (.iaload, 1) := by decide +kernel
theorem dX4_bid_63 : decode cX4_bid 63 = .ok (.ifCond .ne 7, 3) := by decide +kernel
theorem dX4_bid_66 : decode cX4_bid 66 = .ok (.iconst 1, 1) := by decide +kernel
theorem dX4_bid_67 : decode cX4_bid 67 = .ok (.goto 4, 3) := by decide +kernel
theorem dX4_bid_70 : decode cX4_bid 70 = .ok (.iconst 0, 1) := by decide +kernel
theorem dX4_bid_71 : decode cX4_bid 71 = .ok (.istore 6, 2) := by decide +kernel
theorem dX4_bid_73 : decode cX4_bid 73 = .ok (.aload_n 0, 1) := by decide +kernel
theorem dX4_bid_74 : decode cX4_bid 74 = .ok (.iload 4, 2) := by decide +kernel
theorem dX4_bid_76 : decode cX4_bid 76 = .ok (.ifCond .ne 7, 3) := by decide +kernel
theorem dX4_bid_79 : decode cX4_bid 79 = .ok (.iconst 1, 1) := by decide +kernel
theorem dX4_bid_80 : decode cX4_bid 80 = .ok (.goto 22, 3) := by decide +kernel
theorem dX4_bid_83 : decode cX4_bid 83 = .ok (.iload 5, 2) := by decide +kernel
theorem dX4_bid_85 : decode cX4_bid 85 = .ok (.ifCond .ne 7, 3) := by decide +kernel
theorem dX4_bid_88 : decode cX4_bid 88 = .ok (.iconst 2, 1) := by decide +kernel
theorem dX4_bid_89 : decode cX4_bid 89 = .ok (.goto 13, 3) := by decide +kernel
theorem dX4_bid_92 : decode cX4_bid 92 = .ok (.iload 6, 2) := by decide +kernel
theorem dX4_bid_94 : decode cX4_bid 94 = .ok (.ifCond .eq 7, 3) := by decide +kernel
theorem dX4_bid_97 : decode cX4_bid 97 = .ok (.iconst 0, 1) := by decide +kernel
theorem dX4_bid_98 : decode cX4_bid 98 = .ok (.goto 4, 3) := by decide +kernel
theorem dX4_bid_101 : decode cX4_bid 101 = .ok (.iconst 3, 1) := by decide +kernel
theorem dX4_bid_102 : decode cX4_bid 102 = .ok (.invokevirtual 99, 3) := by decide +kernel
theorem dX4_bid_105 : decode cX4_bid 105 = .ok (.ifCond .eq 14, 3) := by decide +kernel
theorem dX4_bid_108 : decode cX4_bid 108 = .ok (.aload_n 0, 1) := by decide +kernel
theorem dX4_bid_109 : decode cX4_bid 109 = .ok (.getfield 51, 3) := by decide +kernel
theorem dX4_bid_112 : decode cX4_bid 112 = .ok (.iconst 4, 1) := by decide +kernel
theorem dX4_bid_113 : decode cX4_bid 113 = .ok (.iload_n 1, 1) := by decide +kernel
theorem dX4_bid_114 : decode cX4_bid 114 = .ok (.imul, 1) := by decide +kernel
theorem dX4_bid_115 : decode cX4_bid 115 = .ok (.iload_n 2, 1) := by decide +kernel
theorem dX4_bid_116 : decode cX4_bid 116 = .ok (.iadd, 1) := by decide +kernel
theorem dX4_bid_117 : decode cX4_bid 117 = .ok (.iload_n 3, 1) := by decide +kernel
theorem dX4_bid_118 : decode cX4_bid 118 = .ok (.iastore, 1) := by decide +kernel
theorem dX4_bid_119 : decode cX4_bid 119 = .ok (.return_, 1) := by decide +kernel
theorem dX4_cheapest_0 : decode cX4_cheapest 0 = .ok (.iconst (-1), 1) := by decide +kernel
theorem dX4_cheapest_1 : decode cX4_cheapest 1 = .ok (.istore_n 2, 1) := by decide +kernel
theorem dX4_cheapest_2 : decode cX4_cheapest 2 = .ok (.iconst 0, 1) := by decide +kernel
theorem dX4_cheapest_3 : decode cX4_cheapest 3 = .ok (.istore_n 3, 1) := by decide +kernel
theorem dX4_cheapest_4 : decode cX4_cheapest 4 = .ok (.iload_n 3, 1) := by decide +kernel
theorem dX4_cheapest_5 : decode cX4_cheapest 5 = .ok (.iconst 4, 1) := by decide +kernel
theorem dX4_cheapest_6 : decode cX4_cheapest 6 = .ok (.if_icmp .ge 52, 3) := by decide +kernel
theorem dX4_cheapest_9 : decode cX4_cheapest 9 = .ok (.aload_n 0, 1) := by decide +kernel
theorem dX4_cheapest_10 : decode cX4_cheapest 10 = .ok (.getfield 51, 3) := by decide +kernel
theorem dX4_cheapest_13 : decode cX4_cheapest 13 = .ok (.iconst 4, 1) := by decide +kernel
theorem dX4_cheapest_14 : decode cX4_cheapest 14 = .ok (.iload_n 1, 1) := by decide +kernel
theorem dX4_cheapest_15 : decode cX4_cheapest 15 = .ok (.imul, 1) := by decide +kernel
theorem dX4_cheapest_16 : decode cX4_cheapest 16 = .ok (.iload_n 3, 1) := by decide +kernel
theorem dX4_cheapest_17 : decode cX4_cheapest 17 = .ok (.iadd, 1) := by decide +kernel
theorem dX4_cheapest_18 : decode cX4_cheapest 18 = .ok (.iaload, 1) := by decide +kernel
theorem dX4_cheapest_19 : decode cX4_cheapest 19 = .ok (.istore 4, 2) := by decide +kernel
theorem dX4_cheapest_21 : decode cX4_cheapest 21 = .ok (.iload 4, 2) := by decide +kernel
theorem dX4_cheapest_23 : decode cX4_cheapest 23 = .ok (.ifCond .le 27, 3) := by decide +kernel
theorem dX4_cheapest_26 : decode cX4_cheapest 26 = .ok (.iload_n 2, 1) := by decide +kernel
theorem dX4_cheapest_27 : decode cX4_cheapest 27 = .ok (.iconst (-1), 1) := by decide +kernel
theorem dX4_cheapest_28 : decode cX4_cheapest 28 = .ok (.if_icmp .eq 18, 3) := by decide +kernel
theorem dX4_cheapest_31 : decode cX4_cheapest 31 = .ok (.iload 4, 2) := by decide +kernel
theorem dX4_cheapest_33 : decode cX4_cheapest 33 = .ok (.aload_n 0, 1) := by decide +kernel
theorem dX4_cheapest_34 : decode cX4_cheapest 34 = .ok (.getfield 51, 3) := by decide +kernel
theorem dX4_cheapest_37 : decode cX4_cheapest 37 = .ok (.iconst 4, 1) := by decide +kernel
theorem dX4_cheapest_38 : decode cX4_cheapest 38 = .ok (.iload_n 1, 1) := by decide +kernel
theorem dX4_cheapest_39 : decode cX4_cheapest 39 = .ok (.imul, 1) := by decide +kernel
theorem dX4_cheapest_40 : decode cX4_cheapest 40 = .ok (.iload_n 2, 1) := by decide +kernel
theorem dX4_cheapest_41 : decode cX4_cheapest 41 = .ok (.iadd, 1) := by decide +kernel
theorem dX4_cheapest_42 : decode cX4_cheapest 42 = .ok (.iaload, 1) := by decide +kernel
theorem dX4_cheapest_43 : decode cX4_cheapest 43 = .ok (.if_icmp .ge 7, 3) := by decide +kernel
theorem dX4_cheapest_46 : decode cX4_cheapest 46 = .ok (.iload_n 3, 1) := by decide +kernel
theorem dX4_cheapest_47 : decode cX4_cheapest 47 = .ok (.goto 4, 3) := by decide +kernel
theorem dX4_cheapest_50 : decode cX4_cheapest 50 = .ok (.iload_n 2, 1) := by decide +kernel
theorem dX4_cheapest_51 : decode cX4_cheapest 51 = .ok (.istore_n 2, 1) := by decide +kernel
theorem dX4_cheapest_52 : decode cX4_cheapest 52 = .ok (.iinc 3 1, 3) := by decide +kernel
theorem dX4_cheapest_55 : decode cX4_cheapest 55 = .ok (.goto (-51), 3) := by decide +kernel
theorem dX4_cheapest_58 : decode cX4_cheapest 58 = .ok (.iload_n 2, 1) := by decide +kernel
theorem dX4_cheapest_59 : decode cX4_cheapest 59 = .ok (.ireturn, 1) := by decide +kernel
theorem dX4_give_0 : decode cX4_give 0 = .ok (.aload_n 0, 1) := by decide +kernel
theorem dX4_give_1 : decode cX4_give 1 = .ok (.iload_n 1, 1) := by decide +kernel
theorem dX4_give_2 : decode cX4_give 2 = .ok (.invokevirtual 151, 3) := by decide +kernel
theorem dX4_give_5 : decode cX4_give 5 = .ok (.istore_n 2, 1) := by decide +kernel
theorem dX4_give_6 : decode cX4_give 6 = .ok (.iload_n 2, 1) := by decide +kernel
theorem dX4_give_7 : decode cX4_give 7 = .ok (.ifCond .eq 20, 3) := by decide +kernel
theorem dX4_give_10 : decode cX4_give 10 = .ok (.aload_n 0, 1) := by decide +kernel
theorem dX4_give_11 : decode cX4_give 11 = .ok (.getfield 45, 3) := by decide +kernel
theorem dX4_give_14 : decode cX4_give 14 = .ok (.iload_n 1, 1) := by decide +kernel
theorem dX4_give_15 : decode cX4_give 15 = .ok (.iaload, 1) := by decide +kernel
theorem dX4_give_16 : decode cX4_give 16 = .ok (.ifCond .ne 11, 3) := by decide +kernel
theorem dX4_give_19 : decode cX4_give 19 = .ok (.aload_n 0, 1) := by decide +kernel
theorem dX4_give_20 : decode cX4_give 20 = .ok (.iload_n 1, 1) := by decide +kernel
theorem dX4_give_21 : decode cX4_give 21 = .ok (.invokevirtual 154, 3) := by decide +kernel
theorem dX4_give_24 : decode cX4_give 24 = .ok (.goto 4, 3) := by decide +kernel
theorem dX4_give_27 : decode cX4_give 27 = .ok (.iconst (-1), 1) := by decide +kernel
theorem dX4_give_28 : decode cX4_give 28 = .ok (.istore_n 3, 1) := by decide +kernel
theorem dX4_give_29 : decode cX4_give 29 = .ok (.aload_n 0, 1) := by decide +kernel
theorem dX4_give_30 : decode cX4_give 30 = .ok (.iload_n 2, 1) := by decide +kernel
theorem dX4_give_31 : decode cX4_give 31 = .ok (.ifCond .ne 7, 3) := by decide +kernel
theorem dX4_give_34 : decode cX4_give 34 = .ok (.iconst 1, 1) := by decide +kernel
theorem dX4_give_35 : decode cX4_give 35 = .ok (.goto 13, 3) := by decide +kernel
theorem dX4_give_38 : decode cX4_give 38 = .ok (.iload_n 3, 1) := by decide +kernel
theorem dX4_give_39 : decode cX4_give 39 = .ok (.iconst (-1), 1) := by decide +kernel
theorem dX4_give_40 : decode cX4_give 40 = .ok (.if_icmp .ne 7, 3) := by decide +kernel
theorem dX4_give_43 : decode cX4_give 43 = .ok (.iconst 2, 1) := by decide +kernel
theorem dX4_give_44 : decode cX4_give 44 = .ok (.goto 4, 3) := by decide +kernel
theorem dX4_give_47 : decode cX4_give 47 = .ok (.iconst 0, 1) := by decide +kernel
theorem dX4_give_48 : decode cX4_give 48 = .ok (.invokevirtual 99, 3) := by decide +kernel
theorem dX4_give_51 : decode cX4_give 51 = .ok (.ifCond .ne 5, 3) := by decide +kernel
theorem dX4_give_54 : decode cX4_give 54 = .ok (.iconst 0, 1) := by decide +kernel
theorem dX4_give_55 : decode cX4_give 55 = .ok (.ireturn, 1) := by decide +kernel
theorem dX4_give_56 : decode cX4_give 56 = .ok (.aload_n 0, 1) := by decide +kernel
theorem dX4_give_57 : decode cX4_give 57 = .ok (.getfield 45, 3) := by decide +kernel
theorem dX4_give_60 : decode cX4_give 60 = .ok (.iload_n 1, 1) := by decide +kernel
theorem dX4_give_61 : decode cX4_give 61 = .ok (.iconst 1, 1) := by decide +kernel
theorem dX4_give_62 : decode cX4_give 62 = .ok (.iastore, 1) := by decide +kernel
theorem dX4_give_63 : decode cX4_give 63 = .ok (.aload_n 0, 1) := by decide +kernel
theorem dX4_give_64 : decode cX4_give 64 = .ok (.getfield 48, 3) := by decide +kernel
theorem dX4_give_67 : decode cX4_give 67 = .ok (.iload_n 1, 1) := by decide +kernel
theorem dX4_give_68 : decode cX4_give 68 = .ok (.aload_n 0, 1) := by decide +kernel
theorem dX4_give_69 : decode cX4_give 69 = .ok (.getfield 51, 3) := by decide +kernel
theorem dX4_give_72 : decode cX4_give 72 = .ok (.iconst 4, 1) := by decide +kernel
theorem dX4_give_73 : decode cX4_give 73 = .ok (.iload_n 1, 1) := by decide +kernel
theorem dX4_give_74 : decode cX4_give 74 = .ok (.imul, 1) := by decide +kernel
theorem dX4_give_75 : decode cX4_give 75 = .ok (.iload_n 3, 1) := by decide +kernel
theorem dX4_give_76 : decode cX4_give 76 = .ok (.iadd, 1) := by decide +kernel
theorem dX4_give_77 : decode cX4_give 77 = .ok (.iaload, 1) := by decide +kernel
theorem dX4_give_78 : decode cX4_give 78 = .ok (.iastore, 1) := by decide +kernel
theorem dX4_give_79 : decode cX4_give 79 = .ok (.iload_n 3, 1) := by decide +kernel
theorem dX4_give_80 : decode cX4_give 80 = .ok (.ireturn, 1) := by decide +kernel
theorem dX4_load_0 : decode cX4_load 0 = .ok (.aload_n 0, 1) := by decide +kernel
theorem dX4_load_1 : decode cX4_load 1 = .ok (.getfield 22, 3) := by decide +kernel
theorem dX4_load_4 : decode cX4_load 4 = .ok (.iconst (-1), 1) := by decide +kernel
theorem dX4_load_5 : decode cX4_load 5 = .ok (.if_icmp .ne 7, 3) := by decide +kernel
theorem dX4_load_8 : decode cX4_load 8 = .ok (.iconst (-1), 1) := by decide +kernel
theorem dX4_load_9 : decode cX4_load 9 = .ok (.goto 11, 3) := by decide +kernel
theorem dX4_load_12 : decode cX4_load 12 = .ok (.aload_n 0, 1) := by decide +kernel
theorem dX4_load_13 : decode cX4_load 13 = .ok (.aload_n 0, 1) := by decide +kernel
theorem dX4_load_14 : decode cX4_load 14 = .ok (.getfield 22, 3) := by decide +kernel
theorem dX4_load_17 : decode cX4_load 17 = .ok (.invokevirtual 145, 3) := by decide +kernel
theorem dX4_load_20 : decode cX4_load 20 = .ok (.istore_n 1, 1) := by decide +kernel
theorem dX4_load_21 : decode cX4_load 21 = .ok (.aload_n 0, 1) := by decide +kernel
theorem dX4_load_22 : decode cX4_load 22 = .ok (.iload_n 1, 1) := by decide +kernel
theorem dX4_load_23 : decode cX4_load 23 = .ok (.iconst (-1), 1) := by decide +kernel
theorem dX4_load_24 : decode cX4_load 24 = .ok (.if_icmp .eq 13, 3) := by decide +kernel
theorem dX4_load_27 : decode cX4_load 27 = .ok (.aload_n 0, 1) := by decide +kernel
theorem dX4_load_28 : decode cX4_load 28 = .ok (.getfield 45, 3) := by decide +kernel
theorem dX4_load_31 : decode cX4_load 31 = .ok (.iload_n 1, 1) := by decide +kernel
theorem dX4_load_32 : decode cX4_load 32 = .ok (.iaload, 1) := by decide +kernel
theorem dX4_load_33 : decode cX4_load 33 = .ok (.iconst 1, 1) := by decide +kernel
theorem dX4_load_34 : decode cX4_load 34 = .ok (.if_icmp .eq 7, 3) := by decide +kernel
theorem dX4_load_37 : decode cX4_load 37 = .ok (.iconst 1, 1) := by decide +kernel
theorem dX4_load_38 : decode cX4_load 38 = .ok (.goto 4, 3) := by decide +kernel
theorem dX4_load_41 : decode cX4_load 41 = .ok (.iconst 0, 1) := by decide +kernel
theorem dX4_load_42 : decode cX4_load 42 = .ok (.invokevirtual 99, 3) := by decide +kernel
theorem dX4_load_45 : decode cX4_load 45 = .ok (.ifCond .ne 5, 3) := by decide +kernel
theorem dX4_load_48 : decode cX4_load 48 = .ok (.iconst 0, 1) := by decide +kernel
theorem dX4_load_49 : decode cX4_load 49 = .ok (.ireturn, 1) := by decide +kernel
theorem dX4_load_50 : decode cX4_load 50 = .ok (.aload_n 0, 1) := by decide +kernel
theorem dX4_load_51 : decode cX4_load 51 = .ok (.getfield 45, 3) := by decide +kernel
theorem dX4_load_54 : decode cX4_load 54 = .ok (.iload_n 1, 1) := by decide +kernel
theorem dX4_load_55 : decode cX4_load 55 = .ok (.iconst 2, 1) := by decide +kernel
theorem dX4_load_56 : decode cX4_load 56 = .ok (.iastore, 1) := by decide +kernel
theorem dX4_load_57 : decode cX4_load 57 = .ok (.aload_n 0, 1) := by decide +kernel
theorem dX4_load_58 : decode cX4_load 58 = .ok (.iconst (-1), 1) := by decide +kernel
theorem dX4_load_59 : decode cX4_load 59 = .ok (.putfield 22, 3) := by decide +kernel
theorem dX4_load_62 : decode cX4_load 62 = .ok (.aload_n 0, 1) := by decide +kernel
theorem dX4_load_63 : decode cX4_load 63 = .ok (.getfield 48, 3) := by decide +kernel
theorem dX4_load_66 : decode cX4_load 66 = .ok (.iload_n 1, 1) := by decide +kernel
theorem dX4_load_67 : decode cX4_load 67 = .ok (.iaload, 1) := by decide +kernel
theorem dX4_load_68 : decode cX4_load 68 = .ok (.ireturn, 1) := by decide +kernel
theorem dX4_state_0 : decode cX4_state 0 = .ok (.aload_n 0, 1) := by decide +kernel
theorem dX4_state_1 : decode cX4_state 1 = .ok (.aload_n 0, 1) := by decide +kernel
theorem dX4_state_2 : decode cX4_state 2 = .ok (.iload_n 1, 1) := by decide +kernel
theorem dX4_state_3 : decode cX4_state 3 = .ok (.invokevirtual 151, 3) := by decide +kernel
theorem dX4_state_6 : decode cX4_state 6 = .ok (.ifCond .eq 7, 3) := by decide +kernel
theorem dX4_state_9 : decode cX4_state 9 = .ok (.iconst 0, 1) := by decide +kernel
theorem dX4_state_10 : decode cX4_state 10 = .ok (.goto 4, 3) := by decide +kernel
theorem dX4_state_13 : decode cX4_state 13 = .ok (.iconst 1, 1) := by decide +kernel
theorem dX4_state_14 : decode cX4_state 14 = .ok (.invokevirtual 99, 3) := by decide +kernel
theorem dX4_state_17 : decode cX4_state 17 = .ok (.ifCond .eq 12, 3) := by decide +kernel
theorem dX4_state_20 : decode cX4_state 20 = .ok (.aload_n 0, 1) := by decide +kernel
theorem dX4_state_21 : decode cX4_state 21 = .ok (.getfield 45, 3) := by decide +kernel
theorem dX4_state_24 : decode cX4_state 24 = .ok (.iload_n 1, 1) := by decide +kernel
theorem dX4_state_25 : decode cX4_state 25 = .ok (.iaload, 1) := by decide +kernel
theorem dX4_state_26 : decode cX4_state 26 = .ok (.goto 4, 3) := by decide +kernel
theorem dX4_state_29 : decode cX4_state 29 = .ok (.iconst 0, 1) := by decide +kernel
theorem dX4_state_30 : decode cX4_state 30 = .ok (.ireturn, 1) := by decide +kernel
theorem dX4_storm_0 : decode cX4_storm 0 = .ok (.aload_n 0, 1) := by decide +kernel
theorem dX4_storm_1 : decode cX4_storm 1 = .ok (.iconst 0, 1) := by decide +kernel
theorem dX4_storm_2 : decode cX4_storm 2 = .ok (.putfield 54, 3) := by decide +kernel
theorem dX4_storm_5 : decode cX4_storm 5 = .ok (.aload_n 0, 1) := by decide +kernel
theorem dX4_storm_6 : decode cX4_storm 6 = .ok (.iconst 1, 1) := by decide +kernel
theorem dX4_storm_7 : decode cX4_storm 7 = .ok (.putfield 67, 3) := by decide +kernel
theorem dX4_storm_10 : decode cX4_storm 10 = .ok (.iconst 0, 1) := by decide +kernel
theorem dX4_storm_11 : decode cX4_storm 11 = .ok (.istore_n 1, 1) := by decide +kernel
theorem dX4_storm_12 : decode cX4_storm 12 = .ok (.iconst 0, 1) := by decide +kernel
theorem dX4_storm_13 : decode cX4_storm 13 = .ok (.istore_n 2, 1) := by decide +kernel
theorem dX4_storm_14 : decode cX4_storm 14 = .ok (.iload_n 2, 1) := by decide +kernel
theorem dX4_storm_15 : decode cX4_storm 15 = .ok (.bipush 6, 2) := by decide +kernel
theorem dX4_storm_17 : decode cX4_storm 17 = .ok (.if_icmp .ge 34, 3) := by decide +kernel
theorem dX4_storm_20 : decode cX4_storm 20 = .ok (.iload_n 1, 1) := by decide +kernel
theorem dX4_storm_21 : decode cX4_storm 21 = .ok (.aload_n 0, 1) := by decide +kernel
theorem dX4_storm_22 : decode cX4_storm 22 = .ok (.getfield 13, 3) := by decide +kernel
theorem dX4_storm_25 : decode cX4_storm 25 = .ok (.iload_n 2, 1) := by decide +kernel
theorem dX4_storm_26 : decode cX4_storm 26 = .ok (.iaload, 1) := by decide +kernel
theorem dX4_storm_27 : decode cX4_storm 27 = .ok (.iconst 3, 1) := by decide +kernel
theorem dX4_storm_28 : decode cX4_storm 28 = .ok (.if_icmp .le 14, 3) := by decide +kernel
theorem dX4_storm_31 : decode cX4_storm 31 = .ok (.aload_n 0, 1) := by decide +kernel
theorem dX4_storm_32 : decode cX4_storm 32 = .ok (.getfield 13, 3) := by decide +kernel
theorem dX4_storm_35 : decode cX4_storm 35 = .ok (.iload_n 2, 1) := by decide +kernel
theorem dX4_storm_36 : decode cX4_storm 36 = .ok (.iaload, 1) := by decide +kernel
theorem dX4_storm_37 : decode cX4_storm 37 = .ok (.iconst 3, 1) := by decide +kernel
theorem dX4_storm_38 : decode cX4_storm 38 = .ok (.isub, 1) := by decide +kernel
theorem dX4_storm_39 : decode cX4_storm 39 = .ok (.goto 4, 3) := by decide +kernel
theorem dX4_storm_42 : decode cX4_storm 42 = .ok (.iconst 0, 1) := by decide +kernel
theorem dX4_storm_43 : decode cX4_storm 43 = .ok (.iadd, 1) := by decide +kernel
theorem dX4_storm_44 : decode cX4_storm 44 = .ok (.istore_n 1, 1) := by decide +kernel
theorem dX4_storm_45 : decode cX4_storm 45 = .ok (.iinc 2 1, 3) := by decide +kernel
theorem dX4_storm_48 : decode cX4_storm 48 = .ok (.goto (-34), 3) := by decide +kernel
theorem dX4_storm_51 : decode cX4_storm 51 = .ok (.iload_n 1, 1) := by decide +kernel
theorem dX4_storm_52 : decode cX4_storm 52 = .ok (.ireturn, 1) := by decide +kernel
theorem dX4_endDay_0 : decode cX4_endDay 0 = .ok (.iconst 0, 1) := by decide +kernel
theorem dX4_endDay_1 : decode cX4_endDay 1 = .ok (.istore_n 1, 1) := by decide +kernel
theorem dX4_endDay_2 : decode cX4_endDay 2 = .ok (.iconst 0, 1) := by decide +kernel
theorem dX4_endDay_3 : decode cX4_endDay 3 = .ok (.istore_n 2, 1) := by decide +kernel
theorem dX4_endDay_4 : decode cX4_endDay 4 = .ok (.iload_n 2, 1) := by decide +kernel
theorem dX4_endDay_5 : decode cX4_endDay 5 = .ok (.bipush 6, 2) := by decide +kernel
theorem dX4_endDay_7 : decode cX4_endDay 7 = .ok (.if_icmp .ge 29, 3) := by decide +kernel
theorem dX4_endDay_10 : decode cX4_endDay 10 = .ok (.iload_n 1, 1) := by decide +kernel
theorem dX4_endDay_11 : decode cX4_endDay 11 = .ok (.aload_n 0, 1) := by decide +kernel
theorem dX4_endDay_12 : decode cX4_endDay 12 = .ok (.getfield 13, 3) := by decide +kernel
theorem dX4_endDay_15 : decode cX4_endDay 15 = .ok (.iload_n 2, 1) := by decide +kernel
theorem dX4_endDay_16 : decode cX4_endDay 16 = .ok (.iaload, 1) := by decide +kernel
theorem dX4_endDay_17 : decode cX4_endDay 17 = .ok (.aload_n 0, 1) := by decide +kernel
theorem dX4_endDay_18 : decode cX4_endDay 18 = .ok (.getfield 13, 3) := by decide +kernel
theorem dX4_endDay_21 : decode cX4_endDay 21 = .ok (.iload_n 2, 1) := by decide +kernel
theorem dX4_endDay_22 : decode cX4_endDay 22 = .ok (.iaload, 1) := by decide +kernel
theorem dX4_endDay_23 : decode cX4_endDay 23 = .ok (.iconst 1, 1) := by decide +kernel
theorem dX4_endDay_24 : decode cX4_endDay 24 = .ok (.isub, 1) := by decide +kernel
theorem dX4_endDay_25 : decode cX4_endDay 25 = .ok (.imul, 1) := by decide +kernel
theorem dX4_endDay_26 : decode cX4_endDay 26 = .ok (.iconst 2, 1) := by decide +kernel
theorem dX4_endDay_27 : decode cX4_endDay 27 = .ok (.idiv, 1) := by decide +kernel
theorem dX4_endDay_28 : decode cX4_endDay 28 = .ok (.iadd, 1) := by decide +kernel
theorem dX4_endDay_29 : decode cX4_endDay 29 = .ok (.istore_n 1, 1) := by decide +kernel
theorem dX4_endDay_30 : decode cX4_endDay 30 = .ok (.iinc 2 1, 3) := by decide +kernel
theorem dX4_endDay_33 : decode cX4_endDay 33 = .ok (.goto (-29), 3) := by decide +kernel
theorem dX4_endDay_36 : decode cX4_endDay 36 = .ok (.iconst 0, 1) := by decide +kernel
theorem dX4_endDay_37 : decode cX4_endDay 37 = .ok (.istore_n 2, 1) := by decide +kernel
theorem dX4_endDay_38 : decode cX4_endDay 38 = .ok (.iload_n 2, 1) := by decide +kernel
theorem dX4_endDay_39 : decode cX4_endDay 39 = .ok (.aload_n 0, 1) := by decide +kernel
theorem dX4_endDay_40 : decode cX4_endDay 40 = .ok (.getfield 64, 3) := by decide +kernel
theorem dX4_endDay_43 : decode cX4_endDay 43 = .ok (.if_icmp .ge 39, 3) := by decide +kernel
theorem dX4_endDay_46 : decode cX4_endDay 46 = .ok (.aload_n 0, 1) := by decide +kernel
theorem dX4_endDay_47 : decode cX4_endDay 47 = .ok (.getfield 45, 3) := by decide +kernel
theorem dX4_endDay_50 : decode cX4_endDay 50 = .ok (.iload_n 2, 1) := by decide +kernel
theorem dX4_endDay_51 : decode cX4_endDay 51 = .ok (.iaload, 1) := by decide +kernel
theorem dX4_endDay_52 : decode cX4_endDay 52 = .ok (.iconst 1, 1) := by decide +kernel
theorem dX4_endDay_53 : decode cX4_endDay 53 = .ok (.if_icmp .gt 23, 3) := by decide +kernel
theorem dX4_endDay_56 : decode cX4_endDay 56 = .ok (.aload_n 0, 1) := by decide +kernel
theorem dX4_endDay_57 : decode cX4_endDay 57 = .ok (.getfield 42, 3) := by decide +kernel
theorem dX4_endDay_60 : decode cX4_endDay 60 = .ok (.iload_n 2, 1) := by decide +kernel
theorem dX4_endDay_61 : decode cX4_endDay 61 = .ok (.iaload, 1) := by decide +kernel
theorem dX4_endDay_62 : decode cX4_endDay 62 = .ok (.aload_n 0, 1) := by decide +kernel
theorem dX4_endDay_63 : decode cX4_endDay 63 = .ok (.getfield 148, 3) := by decide +kernel
theorem dX4_endDay_66 : decode cX4_endDay 66 = .ok (.if_icmp .ne 10, 3) := by decide +kernel
theorem dX4_endDay_69 : decode cX4_endDay 69 = .ok (.aload_n 0, 1) := by decide +kernel
theorem dX4_endDay_70 : decode cX4_endDay 70 = .ok (.getfield 45, 3) := by decide +kernel
theorem dX4_endDay_73 : decode cX4_endDay 73 = .ok (.iload_n 2, 1) := by decide +kernel
theorem dX4_endDay_74 : decode cX4_endDay 74 = .ok (.iconst 3, 1) := by decide +kernel
theorem dX4_endDay_75 : decode cX4_endDay 75 = .ok (.iastore, 1) := by decide +kernel
theorem dX4_endDay_76 : decode cX4_endDay 76 = .ok (.iinc 2 1, 3) := by decide +kernel
theorem dX4_endDay_79 : decode cX4_endDay 79 = .ok (.goto (-41), 3) := by decide +kernel
theorem dX4_endDay_82 : decode cX4_endDay 82 = .ok (.aload_n 0, 1) := by decide +kernel
theorem dX4_endDay_83 : decode cX4_endDay 83 = .ok (.dup, 1) := by decide +kernel
theorem dX4_endDay_84 : decode cX4_endDay 84 = .ok (.getfield 157, 3) := by decide +kernel
theorem dX4_endDay_87 : decode cX4_endDay 87 = .ok (.iload_n 1, 1) := by decide +kernel
theorem dX4_endDay_88 : decode cX4_endDay 88 = .ok (.iadd, 1) := by decide +kernel
theorem dX4_endDay_89 : decode cX4_endDay 89 = .ok (.putfield 157, 3) := by decide +kernel
theorem dX4_endDay_92 : decode cX4_endDay 92 = .ok (.aload_n 0, 1) := by decide +kernel
theorem dX4_endDay_93 : decode cX4_endDay 93 = .ok (.dup, 1) := by decide +kernel
theorem dX4_endDay_94 : decode cX4_endDay 94 = .ok (.getfield 148, 3) := by decide +kernel
theorem dX4_endDay_97 : decode cX4_endDay 97 = .ok (.iconst 1, 1) := by decide +kernel
theorem dX4_endDay_98 : decode cX4_endDay 98 = .ok (.iadd, 1) := by decide +kernel
theorem dX4_endDay_99 : decode cX4_endDay 99 = .ok (.putfield 148, 3) := by decide +kernel
theorem dX4_endDay_102 : decode cX4_endDay 102 = .ok (.aload_n 0, 1) := by decide +kernel
theorem dX4_endDay_103 : decode cX4_endDay 103 = .ok (.iconst 0, 1) := by decide +kernel
theorem dX4_endDay_104 : decode cX4_endDay 104 = .ok (.putfield 67, 3) := by decide +kernel
theorem dX4_endDay_107 : decode cX4_endDay 107 = .ok (.iload_n 1, 1) := by decide +kernel
theorem dX4_endDay_108 : decode cX4_endDay 108 = .ok (.ireturn, 1) := by decide +kernel
theorem dX4_pass_0 : decode cX4_pass 0 = .ok (.iload_n 1, 1) := by decide +kernel
theorem dX4_pass_1 : decode cX4_pass 1 = .ok (.iconst 1, 1) := by decide +kernel
theorem dX4_pass_2 : decode cX4_pass 2 = .ok (.bipush 100, 2) := by decide +kernel
theorem dX4_pass_4 : decode cX4_pass 4 = .ok (.invokestatic 57, 3) := by decide +kernel
theorem dX4_pass_7 : decode cX4_pass 7 = .ok (.istore_n 2, 1) := by decide +kernel
theorem dX4_pass_8 : decode cX4_pass 8 = .ok (.aload_n 0, 1) := by decide +kernel
theorem dX4_pass_9 : decode cX4_pass 9 = .ok (.iload_n 2, 1) := by decide +kernel
theorem dX4_pass_10 : decode cX4_pass 10 = .ok (.ifCond .ne 7, 3) := by decide +kernel
theorem dX4_pass_13 : decode cX4_pass 13 = .ok (.iconst 1, 1) := by decide +kernel
theorem dX4_pass_14 : decode cX4_pass 14 = .ok (.goto 20, 3) := by decide +kernel
theorem dX4_pass_17 : decode cX4_pass 17 = .ok (.aload_n 0, 1) := by decide +kernel
theorem dX4_pass_18 : decode cX4_pass 18 = .ok (.getfield 148, 3) := by decide +kernel
theorem dX4_pass_21 : decode cX4_pass 21 = .ok (.iload_n 1, 1) := by decide +kernel
theorem dX4_pass_22 : decode cX4_pass 22 = .ok (.iadd, 1) := by decide +kernel
theorem dX4_pass_23 : decode cX4_pass 23 = .ok (.sipush 10000, 3) := by decide +kernel
theorem dX4_pass_26 : decode cX4_pass 26 = .ok (.if_icmp .le 7, 3) := by decide +kernel
theorem dX4_pass_29 : decode cX4_pass 29 = .ok (.iconst 2, 1) := by decide +kernel
theorem dX4_pass_30 : decode cX4_pass 30 = .ok (.goto 4, 3) := by decide +kernel
theorem dX4_pass_33 : decode cX4_pass 33 = .ok (.iconst 0, 1) := by decide +kernel
theorem dX4_pass_34 : decode cX4_pass 34 = .ok (.invokevirtual 99, 3) := by decide +kernel
theorem dX4_pass_37 : decode cX4_pass 37 = .ok (.ifCond .ne 5, 3) := by decide +kernel
theorem dX4_pass_40 : decode cX4_pass 40 = .ok (.iconst 0, 1) := by decide +kernel
theorem dX4_pass_41 : decode cX4_pass 41 = .ok (.ireturn, 1) := by decide +kernel
theorem dX4_pass_42 : decode cX4_pass 42 = .ok (.iconst 0, 1) := by decide +kernel
theorem dX4_pass_43 : decode cX4_pass 43 = .ok (.istore_n 3, 1) := by decide +kernel
theorem dX4_pass_44 : decode cX4_pass 44 = .ok (.iconst 0, 1) := by decide +kernel
theorem dX4_pass_45 : decode cX4_pass 45 = .ok (.istore 4, 2) := by decide +kernel
theorem dX4_pass_47 : decode cX4_pass 47 = .ok (.iload 4, 2) := by decide +kernel
theorem dX4_pass_49 : decode cX4_pass 49 = .ok (.iload_n 1, 1) := by decide +kernel
theorem dX4_pass_50 : decode cX4_pass 50 = .ok (.if_icmp .ge 16, 3) := by decide +kernel
theorem dX4_pass_53 : decode cX4_pass 53 = .ok (.iload_n 3, 1) := by decide +kernel
theorem dX4_pass_54 : decode cX4_pass 54 = .ok (.aload_n 0, 1) := by decide +kernel
theorem dX4_pass_55 : decode cX4_pass 55 = .ok (.invokevirtual 160, 3) := by decide +kernel
theorem dX4_pass_58 : decode cX4_pass 58 = .ok (.iadd, 1) := by decide +kernel
theorem dX4_pass_59 : decode cX4_pass 59 = .ok (.istore_n 3, 1) := by decide +kernel
theorem dX4_pass_60 : decode cX4_pass 60 = .ok (.iinc 4 1, 3) := by decide +kernel
theorem dX4_pass_63 : decode cX4_pass 63 = .ok (.goto (-16), 3) := by decide +kernel
theorem dX4_pass_66 : decode cX4_pass 66 = .ok (.iload_n 3, 1) := by decide +kernel
theorem dX4_pass_67 : decode cX4_pass 67 = .ok (.ireturn, 1) := by decide +kernel
theorem dX4_today_0 : decode cX4_today 0 = .ok (.aload_n 0, 1) := by decide +kernel
theorem dX4_today_1 : decode cX4_today 1 = .ok (.iconst 0, 1) := by decide +kernel
theorem dX4_today_2 : decode cX4_today 2 = .ok (.putfield 54, 3) := by decide +kernel
theorem dX4_today_5 : decode cX4_today 5 = .ok (.aload_n 0, 1) := by decide +kernel
theorem dX4_today_6 : decode cX4_today 6 = .ok (.getfield 148, 3) := by decide +kernel
theorem dX4_today_9 : decode cX4_today 9 = .ok (.ireturn, 1) := by decide +kernel
theorem dX4_balance_0 : decode cX4_balance 0 = .ok (.aload_n 0, 1) := by decide +kernel
theorem dX4_balance_1 : decode cX4_balance 1 = .ok (.iconst 0, 1) := by decide +kernel
theorem dX4_balance_2 : decode cX4_balance 2 = .ok (.putfield 54, 3) := by decide +kernel
theorem dX4_balance_5 : decode cX4_balance 5 = .ok (.aload_n 0, 1) := by decide +kernel
theorem dX4_balance_6 : decode cX4_balance 6 = .ok (.getfield 86, 3) := by decide +kernel
theorem dX4_balance_9 : decode cX4_balance 9 = .ok (.aload_n 0, 1) := by decide +kernel
theorem dX4_balance_10 : decode cX4_balance 10 = .ok (.getfield 157, 3) := by decide +kernel
theorem dX4_balance_13 : decode cX4_balance 13 = .ok (.isub, 1) := by decide +kernel
theorem dX4_balance_14 : decode cX4_balance 14 = .ok (.istore_n 1, 1) := by decide +kernel
theorem dX4_balance_15 : decode cX4_balance 15 = .ok (.iconst 0, 1) := by decide +kernel
theorem dX4_balance_16 : decode cX4_balance 16 = .ok (.istore_n 2, 1) := by decide +kernel
theorem dX4_balance_17 : decode cX4_balance 17 = .ok (.iload_n 2, 1) := by decide +kernel
theorem dX4_balance_18 : decode cX4_balance 18 = .ok (.aload_n 0, 1) := by decide +kernel
theorem dX4_balance_19 : decode cX4_balance 19 = .ok (.getfield 64, 3) := by decide +kernel
theorem dX4_balance_22 : decode cX4_balance 22 = .ok (.if_icmp .ge 47, 3) := by decide +kernel
theorem dX4_balance_25 : decode cX4_balance 25 = .ok (.iload_n 1, 1) := by decide +kernel
theorem dX4_balance_26 : decode cX4_balance 26 = .ok (.aload_n 0, 1) := by decide +kernel
theorem dX4_balance_27 : decode cX4_balance 27 = .ok (.getfield 45, 3) := by decide +kernel
theorem dX4_balance_30 : decode cX4_balance 30 = .ok (.iload_n 2, 1) := by decide +kernel
theorem dX4_balance_31 : decode cX4_balance 31 = .ok (.iaload, 1) := by decide +kernel
theorem dX4_balance_32 : decode cX4_balance 32 = .ok (.iconst 2, 1) := by decide +kernel
theorem dX4_balance_33 : decode cX4_balance 33 = .ok (.if_icmp .ne 12, 3) := by decide +kernel
theorem dX4_balance_36 : decode cX4_balance 36 = .ok (.aload_n 0, 1) := by decide +kernel
theorem dX4_balance_37 : decode cX4_balance 37 = .ok (.getfield 48, 3) := by decide +kernel
theorem dX4_balance_40 : decode cX4_balance 40 = .ok (.iload_n 2, 1) := by decide +kernel
theorem dX4_balance_41 : decode cX4_balance 41 = .ok (.iaload, 1) := by decide +kernel
theorem dX4_balance_42 : decode cX4_balance 42 = .ok (.goto 19, 3) := by decide +kernel
theorem dX4_balance_45 : decode cX4_balance 45 = .ok (.aload_n 0, 1) := by decide +kernel
theorem dX4_balance_46 : decode cX4_balance 46 = .ok (.getfield 45, 3) := by decide +kernel
theorem dX4_balance_49 : decode cX4_balance 49 = .ok (.iload_n 2, 1) := by decide +kernel
theorem dX4_balance_50 : decode cX4_balance 50 = .ok (.iaload, 1) := by decide +kernel
theorem dX4_balance_51 : decode cX4_balance 51 = .ok (.iconst 3, 1) := by decide +kernel
theorem dX4_balance_52 : decode cX4_balance 52 = .ok (.if_icmp .ne 8, 3) := by decide +kernel
theorem dX4_balance_55 : decode cX4_balance 55 = .ok (.bipush 50, 2) := by decide +kernel
theorem dX4_balance_57 : decode cX4_balance 57 = .ok (.goto 4, 3) := by decide +kernel
theorem dX4_balance_60 : decode cX4_balance 60 = .ok (.iconst 0, 1) := by decide +kernel
theorem dX4_balance_61 : decode cX4_balance 61 = .ok (.isub, 1) := by decide +kernel
theorem dX4_balance_62 : decode cX4_balance 62 = .ok (.istore_n 1, 1) := by decide +kernel
theorem dX4_balance_63 : decode cX4_balance 63 = .ok (.iinc 2 1, 3) := by decide +kernel
theorem dX4_balance_66 : decode cX4_balance 66 = .ok (.goto (-49), 3) := by decide +kernel
theorem dX4_balance_69 : decode cX4_balance 69 = .ok (.iload_n 1, 1) := by decide +kernel
theorem dX4_balance_70 : decode cX4_balance 70 = .ok (.ireturn, 1) := by decide +kernel
theorem dJ6_bitCount_0f7a4_0 : decode cJ6_bitCount_0f7a4 0 = .ok (.iload_n 0, 1) := by decide +kernel
theorem dJ6_bitCount_0f7a4_1 : decode cJ6_bitCount_0f7a4 1 = .ok (.iload_n 0, 1) := by decide +kernel
theorem dJ6_bitCount_0f7a4_2 : decode cJ6_bitCount_0f7a4 2 = .ok (.iconst 1, 1) := by decide +kernel
theorem dJ6_bitCount_0f7a4_3 : decode cJ6_bitCount_0f7a4 3 = .ok (.iushr, 1) := by decide +kernel
theorem dJ6_bitCount_0f7a4_4 : decode cJ6_bitCount_0f7a4 4 = .ok (.ldc_w 265, 3) := by decide +kernel
theorem dJ6_bitCount_0f7a4_7 : decode cJ6_bitCount_0f7a4 7 = .ok (.iand, 1) := by decide +kernel
theorem dJ6_bitCount_0f7a4_8 : decode cJ6_bitCount_0f7a4 8 = .ok (.isub, 1) := by decide +kernel
theorem dJ6_bitCount_0f7a4_9 : decode cJ6_bitCount_0f7a4 9 = .ok (.istore_n 0, 1) := by decide +kernel
theorem dJ6_bitCount_0f7a4_10 : decode cJ6_bitCount_0f7a4 10 = .ok (.iload_n 0, 1) := by decide +kernel
theorem dJ6_bitCount_0f7a4_11 : decode cJ6_bitCount_0f7a4 11 = .ok (.ldc_w 266, 3) := by decide +kernel
theorem dJ6_bitCount_0f7a4_14 : decode cJ6_bitCount_0f7a4 14 = .ok (.iand, 1) := by decide +kernel
theorem dJ6_bitCount_0f7a4_15 : decode cJ6_bitCount_0f7a4 15 = .ok (.iload_n 0, 1) := by decide +kernel
theorem dJ6_bitCount_0f7a4_16 : decode cJ6_bitCount_0f7a4 16 = .ok (.iconst 2, 1) := by decide +kernel
theorem dJ6_bitCount_0f7a4_17 : decode cJ6_bitCount_0f7a4 17 = .ok (.iushr, 1) := by decide +kernel
theorem dJ6_bitCount_0f7a4_18 : decode cJ6_bitCount_0f7a4 18 = .ok (.ldc_w 266, 3) := by decide +kernel
theorem dJ6_bitCount_0f7a4_21 : decode cJ6_bitCount_0f7a4 21 = .ok (.iand, 1) := by decide +kernel
theorem dJ6_bitCount_0f7a4_22 : decode cJ6_bitCount_0f7a4 22 = .ok (.iadd, 1) := by decide +kernel
theorem dJ6_bitCount_0f7a4_23 : decode cJ6_bitCount_0f7a4 23 = .ok (.istore_n 0, 1) := by decide +kernel
theorem dJ6_bitCount_0f7a4_24 : decode cJ6_bitCount_0f7a4 24 = .ok (.iload_n 0, 1) := by decide +kernel
theorem dJ6_bitCount_0f7a4_25 : decode cJ6_bitCount_0f7a4 25 = .ok (.iload_n 0, 1) := by decide +kernel
theorem dJ6_bitCount_0f7a4_26 : decode cJ6_bitCount_0f7a4 26 = .ok (.iconst 4, 1) := by decide +kernel
theorem dJ6_bitCount_0f7a4_27 : decode cJ6_bitCount_0f7a4 27 = .ok (.iushr, 1) := by decide +kernel
theorem dJ6_bitCount_0f7a4_28 : decode cJ6_bitCount_0f7a4 28 = .ok (.iadd, 1) := by decide +kernel
theorem dJ6_bitCount_0f7a4_29 : decode cJ6_bitCount_0f7a4 29 = .ok (.ldc_w 267, 3) := by decide +kernel
theorem dJ6_bitCount_0f7a4_32 : decode cJ6_bitCount_0f7a4 32 = .ok (.iand, 1) := by decide +kernel
theorem dJ6_bitCount_0f7a4_33 : decode cJ6_bitCount_0f7a4 33 = .ok (.istore_n 0, 1) := by decide +kernel
theorem dJ6_bitCount_0f7a4_34 : decode cJ6_bitCount_0f7a4 34 = .ok (.iload_n 0, 1) := by decide +kernel
theorem dJ6_bitCount_0f7a4_35 : decode cJ6_bitCount_0f7a4 35 = .ok (.iload_n 0, 1) := by decide +kernel
theorem dJ6_bitCount_0f7a4_36 : decode cJ6_bitCount_0f7a4 36 = .ok (.bipush 8, 2) := by decide +kernel
theorem dJ6_bitCount_0f7a4_38 : decode cJ6_bitCount_0f7a4 38 = .ok (.iushr, 1) := by decide +kernel
theorem dJ6_bitCount_0f7a4_39 : decode cJ6_bitCount_0f7a4 39 = .ok (.iadd, 1) := by decide +kernel
theorem dJ6_bitCount_0f7a4_40 : decode cJ6_bitCount_0f7a4 40 = .ok (.istore_n 0, 1) := by decide +kernel
theorem dJ6_bitCount_0f7a4_41 : decode cJ6_bitCount_0f7a4 41 = .ok (.iload_n 0, 1) := by decide +kernel
theorem dJ6_bitCount_0f7a4_42 : decode cJ6_bitCount_0f7a4 42 = .ok (.iload_n 0, 1) := by decide +kernel
theorem dJ6_bitCount_0f7a4_43 : decode cJ6_bitCount_0f7a4 43 = .ok (.bipush 16, 2) := by decide +kernel
theorem dJ6_bitCount_0f7a4_45 : decode cJ6_bitCount_0f7a4 45 = .ok (.iushr, 1) := by decide +kernel
theorem dJ6_bitCount_0f7a4_46 : decode cJ6_bitCount_0f7a4 46 = .ok (.iadd, 1) := by decide +kernel
theorem dJ6_bitCount_0f7a4_47 : decode cJ6_bitCount_0f7a4 47 = .ok (.istore_n 0, 1) := by decide +kernel
theorem dJ6_bitCount_0f7a4_48 : decode cJ6_bitCount_0f7a4 48 = .ok (.iload_n 0, 1) := by decide +kernel
theorem dJ6_bitCount_0f7a4_49 : decode cJ6_bitCount_0f7a4 49 = .ok (.bipush 63, 2) := by decide +kernel
theorem dJ6_bitCount_0f7a4_51 : decode cJ6_bitCount_0f7a4 51 = .ok (.iand, 1) := by decide +kernel
theorem dJ6_bitCount_0f7a4_52 : decode cJ6_bitCount_0f7a4 52 = .ok (.ireturn, 1) := by decide +kernel
theorem dJ9_max_7cf53_0 : decode cJ9_max_7cf53 0 = .ok (.iload_n 0, 1) := by decide +kernel
theorem dJ9_max_7cf53_1 : decode cJ9_max_7cf53 1 = .ok (.iload_n 1, 1) := by decide +kernel
theorem dJ9_max_7cf53_2 : decode cJ9_max_7cf53 2 = .ok (.if_icmp .lt 7, 3) := by decide +kernel
theorem dJ9_max_7cf53_5 : decode cJ9_max_7cf53 5 = .ok (.iload_n 0, 1) := by decide +kernel
theorem dJ9_max_7cf53_6 : decode cJ9_max_7cf53 6 = .ok (.goto 4, 3) := by decide +kernel
theorem dJ9_max_7cf53_9 : decode cJ9_max_7cf53 9 = .ok (.iload_n 1, 1) := by decide +kernel
theorem dJ9_max_7cf53_10 : decode cJ9_max_7cf53 10 = .ok (.ireturn, 1) := by decide +kernel
theorem dJ9_min_7cf53_0 : decode cJ9_min_7cf53 0 = .ok (.iload_n 0, 1) := by decide +kernel
theorem dJ9_min_7cf53_1 : decode cJ9_min_7cf53 1 = .ok (.iload_n 1, 1) := by decide +kernel
theorem dJ9_min_7cf53_2 : decode cJ9_min_7cf53 2 = .ok (.if_icmp .gt 7, 3) := by decide +kernel
theorem dJ9_min_7cf53_5 : decode cJ9_min_7cf53 5 = .ok (.iload_n 0, 1) := by decide +kernel
theorem dJ9_min_7cf53_6 : decode cJ9_min_7cf53 6 = .ok (.goto 4, 3) := by decide +kernel
theorem dJ9_min_7cf53_9 : decode cJ9_min_7cf53 9 = .ok (.iload_n 1, 1) := by decide +kernel
theorem dJ9_min_7cf53_10 : decode cJ9_min_7cf53 10 = .ok (.ireturn, 1) := by decide +kernel
theorem dL_arrive_0 : decode cL_arrive 0 = .ok (.aload 4, 2) := by decide +kernel
theorem dL_arrive_2 : decode cL_arrive 2 = .ok (.iconst 0, 1) := by decide +kernel
theorem dL_arrive_3 : decode cL_arrive 3 = .ok (.aload_n 0, 1) := by decide +kernel
theorem dL_arrive_4 : decode cL_arrive 4 = .ok (.iload_n 1, 1) := by decide +kernel
theorem dL_arrive_5 : decode cL_arrive 5 = .ok (.iload_n 2, 1) := by decide +kernel
theorem dL_arrive_6 : decode cL_arrive 6 = .ok (.iload_n 3, 1) := by decide +kernel
theorem dL_arrive_7 : decode cL_arrive 7 = .ok (.invokevirtual 7, 3) := by decide +kernel
theorem dL_arrive_10 : decode cL_arrive 10 = .ok (.i2l, 1) := by decide +kernel
theorem dL_arrive_11 : decode cL_arrive 11 = .ok (.lastore, 1) := by decide +kernel
theorem dL_arrive_12 : decode cL_arrive 12 = .ok (.goto 11, 3) := by decide +kernel
theorem dL_arrive_15 : decode cL_arrive 15 = .ok (.astore 5, 2) := by decide +kernel
theorem dL_arrive_17 : decode cL_arrive 17 = .ok (.iconst 1, 1) := by decide +kernel
theorem dL_arrive_18 : decode cL_arrive 18 = .ok (.ireturn, 1) := by decide +kernel
theorem dL_arrive_19 : decode cL_arrive 19 = .ok (.astore 5, 2) := by decide +kernel
theorem dL_arrive_21 : decode cL_arrive 21 = .ok (.iconst 2, 1) := by decide +kernel
theorem dL_arrive_22 : decode cL_arrive 22 = .ok (.ireturn, 1) := by decide +kernel
theorem dL_arrive_23 : decode cL_arrive 23 = .ok (.iconst 0, 1) := by decide +kernel
theorem dL_arrive_24 : decode cL_arrive 24 = .ok (.ireturn, 1) := by decide +kernel
theorem dL_lift_0 : decode cL_lift 0 = .ok (.aload_n 2, 1) := by decide +kernel
theorem dL_lift_1 : decode cL_lift 1 = .ok (.iconst 0, 1) := by decide +kernel
theorem dL_lift_2 : decode cL_lift 2 = .ok (.aload_n 0, 1) := by decide +kernel
theorem dL_lift_3 : decode cL_lift 3 = .ok (.iload_n 1, 1) := by decide +kernel
theorem dL_lift_4 : decode cL_lift 4 = .ok (.invokevirtual 17, 3) := by decide +kernel
theorem dL_lift_7 : decode cL_lift 7 = .ok (.i2l, 1) := by decide +kernel
theorem dL_lift_8 : decode cL_lift 8 = .ok (.lastore, 1) := by decide +kernel
theorem dL_lift_9 : decode cL_lift 9 = .ok (.goto 9, 3) := by decide +kernel
theorem dL_lift_12 : decode cL_lift 12 = .ok (.astore_n 3, 1) := by decide +kernel
theorem dL_lift_13 : decode cL_lift 13 = .ok (.iconst 1, 1) := by decide +kernel
theorem dL_lift_14 : decode cL_lift 14 = .ok (.ireturn, 1) := by decide +kernel
theorem dL_lift_15 : decode cL_lift 15 = .ok (.astore_n 3, 1) := by decide +kernel
theorem dL_lift_16 : decode cL_lift 16 = .ok (.iconst 2, 1) := by decide +kernel
theorem dL_lift_17 : decode cL_lift 17 = .ok (.ireturn, 1) := by decide +kernel
theorem dL_lift_18 : decode cL_lift 18 = .ok (.iconst 0, 1) := by decide +kernel
theorem dL_lift_19 : decode cL_lift 19 = .ok (.ireturn, 1) := by decide +kernel
theorem dL_drop_0 : decode cL_drop 0 = .ok (.aload_n 2, 1) := by decide +kernel
theorem dL_drop_1 : decode cL_drop 1 = .ok (.iconst 0, 1) := by decide +kernel
theorem dL_drop_2 : decode cL_drop 2 = .ok (.aload_n 0, 1) := by decide +kernel
theorem dL_drop_3 : decode cL_drop 3 = .ok (.iload_n 1, 1) := by decide +kernel
theorem dL_drop_4 : decode cL_drop 4 = .ok (.invokevirtual 21, 3) := by decide +kernel
theorem dL_drop_7 : decode cL_drop 7 = .ok (.i2l, 1) := by decide +kernel
theorem dL_drop_8 : decode cL_drop 8 = .ok (.lastore, 1) := by decide +kernel
theorem dL_drop_9 : decode cL_drop 9 = .ok (.goto 9, 3) := by decide +kernel
theorem dL_drop_12 : decode cL_drop 12 = .ok (.astore_n 3, 1) := by decide +kernel
theorem dL_drop_13 : decode cL_drop 13 = .ok (.iconst 1, 1) := by decide +kernel
theorem dL_drop_14 : decode cL_drop 14 = .ok (.ireturn, 1) := by decide +kernel
theorem dL_drop_15 : decode cL_drop 15 = .ok (.astore_n 3, 1) := by decide +kernel
theorem dL_drop_16 : decode cL_drop 16 = .ok (.iconst 2, 1) := by decide +kernel
theorem dL_drop_17 : decode cL_drop 17 = .ok (.ireturn, 1) := by decide +kernel
theorem dL_drop_18 : decode cL_drop 18 = .ok (.iconst 0, 1) := by decide +kernel
theorem dL_drop_19 : decode cL_drop 19 = .ok (.ireturn, 1) := by decide +kernel
theorem dL_dig_0 : decode cL_dig 0 = .ok (.aload_n 2, 1) := by decide +kernel
theorem dL_dig_1 : decode cL_dig 1 = .ok (.iconst 0, 1) := by decide +kernel
theorem dL_dig_2 : decode cL_dig 2 = .ok (.aload_n 0, 1) := by decide +kernel
theorem dL_dig_3 : decode cL_dig 3 = .ok (.iload_n 1, 1) := by decide +kernel
theorem dL_dig_4 : decode cL_dig 4 = .ok (.invokevirtual 24, 3) := by decide +kernel
theorem dL_dig_7 : decode cL_dig 7 = .ok (.i2l, 1) := by decide +kernel
theorem dL_dig_8 : decode cL_dig 8 = .ok (.lastore, 1) := by decide +kernel
theorem dL_dig_9 : decode cL_dig 9 = .ok (.goto 9, 3) := by decide +kernel
theorem dL_dig_12 : decode cL_dig 12 = .ok (.astore_n 3, 1) := by decide +kernel
theorem dL_dig_13 : decode cL_dig 13 = .ok (.iconst 1, 1) := by decide +kernel
theorem dL_dig_14 : decode cL_dig 14 = .ok (.ireturn, 1) := by decide +kernel
theorem dL_dig_15 : decode cL_dig 15 = .ok (.astore_n 3, 1) := by decide +kernel
theorem dL_dig_16 : decode cL_dig 16 = .ok (.iconst 2, 1) := by decide +kernel
theorem dL_dig_17 : decode cL_dig 17 = .ok (.ireturn, 1) := by decide +kernel
theorem dL_dig_18 : decode cL_dig 18 = .ok (.iconst 0, 1) := by decide +kernel
theorem dL_dig_19 : decode cL_dig 19 = .ok (.ireturn, 1) := by decide +kernel
theorem dL_height_0 : decode cL_height 0 = .ok (.aload_n 2, 1) := by decide +kernel
theorem dL_height_1 : decode cL_height 1 = .ok (.iconst 0, 1) := by decide +kernel
theorem dL_height_2 : decode cL_height 2 = .ok (.aload_n 0, 1) := by decide +kernel
theorem dL_height_3 : decode cL_height 3 = .ok (.iload_n 1, 1) := by decide +kernel
theorem dL_height_4 : decode cL_height 4 = .ok (.invokevirtual 29, 3) := by decide +kernel
theorem dL_height_7 : decode cL_height 7 = .ok (.i2l, 1) := by decide +kernel
theorem dL_height_8 : decode cL_height 8 = .ok (.lastore, 1) := by decide +kernel
theorem dL_height_9 : decode cL_height 9 = .ok (.goto 6, 3) := by decide +kernel
theorem dL_height_12 : decode cL_height 12 = .ok (.astore_n 3, 1) := by decide +kernel
theorem dL_height_13 : decode cL_height 13 = .ok (.iconst 1, 1) := by decide +kernel
theorem dL_height_14 : decode cL_height 14 = .ok (.ireturn, 1) := by decide +kernel
theorem dL_height_15 : decode cL_height 15 = .ok (.iconst 0, 1) := by decide +kernel
theorem dL_height_16 : decode cL_height 16 = .ok (.ireturn, 1) := by decide +kernel
theorem dL_at_0 : decode cL_at 0 = .ok (.aload_n 3, 1) := by decide +kernel
theorem dL_at_1 : decode cL_at 1 = .ok (.iconst 0, 1) := by decide +kernel
theorem dL_at_2 : decode cL_at 2 = .ok (.aload_n 0, 1) := by decide +kernel
theorem dL_at_3 : decode cL_at 3 = .ok (.iload_n 1, 1) := by decide +kernel
theorem dL_at_4 : decode cL_at 4 = .ok (.iload_n 2, 1) := by decide +kernel
theorem dL_at_5 : decode cL_at 5 = .ok (.invokevirtual 32, 3) := by decide +kernel
theorem dL_at_8 : decode cL_at 8 = .ok (.i2l, 1) := by decide +kernel
theorem dL_at_9 : decode cL_at 9 = .ok (.lastore, 1) := by decide +kernel
theorem dL_at_10 : decode cL_at 10 = .ok (.goto 7, 3) := by decide +kernel
theorem dL_at_13 : decode cL_at 13 = .ok (.astore 4, 2) := by decide +kernel
theorem dL_at_15 : decode cL_at 15 = .ok (.iconst 1, 1) := by decide +kernel
theorem dL_at_16 : decode cL_at 16 = .ok (.ireturn, 1) := by decide +kernel
theorem dL_at_17 : decode cL_at 17 = .ok (.iconst 0, 1) := by decide +kernel
theorem dL_at_18 : decode cL_at 18 = .ok (.ireturn, 1) := by decide +kernel
theorem dL_stackOf_0 : decode cL_stackOf 0 = .ok (.aload_n 2, 1) := by decide +kernel
theorem dL_stackOf_1 : decode cL_stackOf 1 = .ok (.iconst 0, 1) := by decide +kernel
theorem dL_stackOf_2 : decode cL_stackOf 2 = .ok (.aload_n 0, 1) := by decide +kernel
theorem dL_stackOf_3 : decode cL_stackOf 3 = .ok (.iload_n 1, 1) := by decide +kernel
theorem dL_stackOf_4 : decode cL_stackOf 4 = .ok (.invokevirtual 36, 3) := by decide +kernel
theorem dL_stackOf_7 : decode cL_stackOf 7 = .ok (.i2l, 1) := by decide +kernel
theorem dL_stackOf_8 : decode cL_stackOf 8 = .ok (.lastore, 1) := by decide +kernel
theorem dL_stackOf_9 : decode cL_stackOf 9 = .ok (.goto 6, 3) := by decide +kernel
theorem dL_stackOf_12 : decode cL_stackOf 12 = .ok (.astore_n 3, 1) := by decide +kernel
theorem dL_stackOf_13 : decode cL_stackOf 13 = .ok (.iconst 1, 1) := by decide +kernel
theorem dL_stackOf_14 : decode cL_stackOf 14 = .ok (.ireturn, 1) := by decide +kernel
theorem dL_stackOf_15 : decode cL_stackOf 15 = .ok (.iconst 0, 1) := by decide +kernel
theorem dL_stackOf_16 : decode cL_stackOf 16 = .ok (.ireturn, 1) := by decide +kernel
theorem dL_fewestLifts_0 : decode cL_fewestLifts 0 = .ok (.aload_n 2, 1) := by decide +kernel
theorem dL_fewestLifts_1 : decode cL_fewestLifts 1 = .ok (.iconst 0, 1) := by decide +kernel
theorem dL_fewestLifts_2 : decode cL_fewestLifts 2 = .ok (.aload_n 0, 1) := by decide +kernel
theorem dL_fewestLifts_3 : decode cL_fewestLifts 3 = .ok (.iload_n 1, 1) := by decide +kernel
theorem dL_fewestLifts_4 : decode cL_fewestLifts 4 = .ok (.invokevirtual 39, 3) := by decide +kernel
theorem dL_fewestLifts_7 : decode cL_fewestLifts 7 = .ok (.i2l, 1) := by decide +kernel
theorem dL_fewestLifts_8 : decode cL_fewestLifts 8 = .ok (.lastore, 1) := by decide +kernel
theorem dL_fewestLifts_9 : decode cL_fewestLifts 9 = .ok (.goto 9, 3) := by decide +kernel
theorem dL_fewestLifts_12 : decode cL_fewestLifts 12 = .ok (.astore_n 3, 1) := by decide +kernel
theorem dL_fewestLifts_13 : decode cL_fewestLifts 13 = .ok (.iconst 1, 1) := by decide +kernel
theorem dL_fewestLifts_14 : decode cL_fewestLifts 14 = .ok (.ireturn, 1) := by decide +kernel
theorem dL_fewestLifts_15 : decode cL_fewestLifts 15 = .ok (.astore_n 3, 1) := by decide +kernel
theorem dL_fewestLifts_16 : decode cL_fewestLifts 16 = .ok (.iconst 2, 1) := by decide +kernel
theorem dL_fewestLifts_17 : decode cL_fewestLifts 17 = .ok (.ireturn, 1) := by decide +kernel
theorem dL_fewestLifts_18 : decode cL_fewestLifts 18 = .ok (.iconst 0, 1) := by decide +kernel
theorem dL_fewestLifts_19 : decode cL_fewestLifts 19 = .ok (.ireturn, 1) := by decide +kernel
theorem dL_tell_0 : decode cL_tell 0 = .ok (.aload 5, 2) := by decide +kernel
theorem dL_tell_2 : decode cL_tell 2 = .ok (.iconst 0, 1) := by decide +kernel
theorem dL_tell_3 : decode cL_tell 3 = .ok (.aload_n 0, 1) := by decide +kernel
theorem dL_tell_4 : decode cL_tell 4 = .ok (.iload_n 1, 1) := by decide +kernel
theorem dL_tell_5 : decode cL_tell 5 = .ok (.iload_n 2, 1) := by decide +kernel
theorem dL_tell_6 : decode cL_tell 6 = .ok (.iload_n 3, 1) := by decide +kernel
theorem dL_tell_7 : decode cL_tell 7 = .ok (.iload 4, 2) := by decide +kernel
theorem dL_tell_9 : decode cL_tell 9 = .ok (.invokevirtual 42, 3) := by decide +kernel
theorem dL_tell_12 : decode cL_tell 12 = .ok (.i2l, 1) := by decide +kernel
theorem dL_tell_13 : decode cL_tell 13 = .ok (.lastore, 1) := by decide +kernel
theorem dL_tell_14 : decode cL_tell 14 = .ok (.goto 11, 3) := by decide +kernel
theorem dL_tell_17 : decode cL_tell 17 = .ok (.astore 6, 2) := by decide +kernel
theorem dL_tell_19 : decode cL_tell 19 = .ok (.iconst 1, 1) := by decide +kernel
theorem dL_tell_20 : decode cL_tell 20 = .ok (.ireturn, 1) := by decide +kernel
theorem dL_tell_21 : decode cL_tell 21 = .ok (.astore 6, 2) := by decide +kernel
theorem dL_tell_23 : decode cL_tell 23 = .ok (.iconst 2, 1) := by decide +kernel
theorem dL_tell_24 : decode cL_tell 24 = .ok (.ireturn, 1) := by decide +kernel
theorem dL_tell_25 : decode cL_tell 25 = .ok (.iconst 0, 1) := by decide +kernel
theorem dL_tell_26 : decode cL_tell 26 = .ok (.ireturn, 1) := by decide +kernel
theorem dL_hasPaid_0 : decode cL_hasPaid 0 = .ok (.aload_n 2, 1) := by decide +kernel
theorem dL_hasPaid_1 : decode cL_hasPaid 1 = .ok (.iconst 0, 1) := by decide +kernel
theorem dL_hasPaid_2 : decode cL_hasPaid 2 = .ok (.aload_n 0, 1) := by decide +kernel
theorem dL_hasPaid_3 : decode cL_hasPaid 3 = .ok (.iload_n 1, 1) := by decide +kernel
theorem dL_hasPaid_4 : decode cL_hasPaid 4 = .ok (.invokevirtual 46, 3) := by decide +kernel
theorem dL_hasPaid_7 : decode cL_hasPaid 7 = .ok (.ifCond .eq 7, 3) := by decide +kernel
theorem dL_hasPaid_10 : decode cL_hasPaid 10 = .ok (.lconst 1, 1) := by decide +kernel
theorem dL_hasPaid_11 : decode cL_hasPaid 11 = .ok (.goto 4, 3) := by decide +kernel
theorem dL_hasPaid_14 : decode cL_hasPaid 14 = .ok (.lconst 0, 1) := by decide +kernel
theorem dL_hasPaid_15 : decode cL_hasPaid 15 = .ok (.lastore, 1) := by decide +kernel
theorem dL_hasPaid_16 : decode cL_hasPaid 16 = .ok (.goto 6, 3) := by decide +kernel
theorem dL_hasPaid_19 : decode cL_hasPaid 19 = .ok (.astore_n 3, 1) := by decide +kernel
theorem dL_hasPaid_20 : decode cL_hasPaid 20 = .ok (.iconst 1, 1) := by decide +kernel
theorem dL_hasPaid_21 : decode cL_hasPaid 21 = .ok (.ireturn, 1) := by decide +kernel
theorem dL_hasPaid_22 : decode cL_hasPaid 22 = .ok (.iconst 0, 1) := by decide +kernel
theorem dL_hasPaid_23 : decode cL_hasPaid 23 = .ok (.ireturn, 1) := by decide +kernel
theorem dL_offer_0 : decode cL_offer 0 = .ok (.aload_n 3, 1) := by decide +kernel
theorem dL_offer_1 : decode cL_offer 1 = .ok (.iconst 0, 1) := by decide +kernel
theorem dL_offer_2 : decode cL_offer 2 = .ok (.aload_n 0, 1) := by decide +kernel
theorem dL_offer_3 : decode cL_offer 3 = .ok (.iload_n 1, 1) := by decide +kernel
theorem dL_offer_4 : decode cL_offer 4 = .ok (.iload_n 2, 1) := by decide +kernel
theorem dL_offer_5 : decode cL_offer 5 = .ok (.invokevirtual 50, 3) := by decide +kernel
theorem dL_offer_8 : decode cL_offer 8 = .ok (.i2l, 1) := by decide +kernel
theorem dL_offer_9 : decode cL_offer 9 = .ok (.lastore, 1) := by decide +kernel
theorem dL_offer_10 : decode cL_offer 10 = .ok (.goto 15, 3) := by decide +kernel
theorem dL_offer_13 : decode cL_offer 13 = .ok (.astore 4, 2) := by decide +kernel
theorem dL_offer_15 : decode cL_offer 15 = .ok (.iconst 1, 1) := by decide +kernel
theorem dL_offer_16 : decode cL_offer 16 = .ok (.ireturn, 1) := by decide +kernel
theorem dL_offer_17 : decode cL_offer 17 = .ok (.astore 4, 2) := by decide +kernel
theorem dL_offer_19 : decode cL_offer 19 = .ok (.iconst 2, 1) := by decide +kernel
theorem dL_offer_20 : decode cL_offer 20 = .ok (.ireturn, 1) := by decide +kernel
theorem dL_offer_21 : decode cL_offer 21 = .ok (.astore 4, 2) := by decide +kernel
theorem dL_offer_23 : decode cL_offer 23 = .ok (.iconst 3, 1) := by decide +kernel
theorem dL_offer_24 : decode cL_offer 24 = .ok (.ireturn, 1) := by decide +kernel
theorem dL_offer_25 : decode cL_offer 25 = .ok (.iconst 0, 1) := by decide +kernel
theorem dL_offer_26 : decode cL_offer 26 = .ok (.ireturn, 1) := by decide +kernel
theorem dL_bid_0 : decode cL_bid 0 = .ok (.aload_n 0, 1) := by decide +kernel
theorem dL_bid_1 : decode cL_bid 1 = .ok (.iload_n 1, 1) := by decide +kernel
theorem dL_bid_2 : decode cL_bid 2 = .ok (.iload_n 2, 1) := by decide +kernel
theorem dL_bid_3 : decode cL_bid 3 = .ok (.iload_n 3, 1) := by decide +kernel
theorem dL_bid_4 : decode cL_bid 4 = .ok (.invokevirtual 53, 3) := by decide +kernel
theorem dL_bid_7 : decode cL_bid 7 = .ok (.goto 15, 3) := by decide +kernel
theorem dL_bid_10 : decode cL_bid 10 = .ok (.astore 4, 2) := by decide +kernel
theorem dL_bid_12 : decode cL_bid 12 = .ok (.iconst 1, 1) := by decide +kernel
theorem dL_bid_13 : decode cL_bid 13 = .ok (.ireturn, 1) := by decide +kernel
theorem dL_bid_14 : decode cL_bid 14 = .ok (.astore 4, 2) := by decide +kernel
theorem dL_bid_16 : decode cL_bid 16 = .ok (.iconst 2, 1) := by decide +kernel
theorem dL_bid_17 : decode cL_bid 17 = .ok (.ireturn, 1) := by decide +kernel
theorem dL_bid_18 : decode cL_bid 18 = .ok (.astore 4, 2) := by decide +kernel
theorem dL_bid_20 : decode cL_bid 20 = .ok (.iconst 3, 1) := by decide +kernel
theorem dL_bid_21 : decode cL_bid 21 = .ok (.ireturn, 1) := by decide +kernel
theorem dL_bid_22 : decode cL_bid 22 = .ok (.iconst 0, 1) := by decide +kernel
theorem dL_bid_23 : decode cL_bid 23 = .ok (.ireturn, 1) := by decide +kernel
theorem dL_give_0 : decode cL_give 0 = .ok (.aload_n 2, 1) := by decide +kernel
theorem dL_give_1 : decode cL_give 1 = .ok (.iconst 0, 1) := by decide +kernel
theorem dL_give_2 : decode cL_give 2 = .ok (.aload_n 0, 1) := by decide +kernel
theorem dL_give_3 : decode cL_give 3 = .ok (.iload_n 1, 1) := by decide +kernel
theorem dL_give_4 : decode cL_give 4 = .ok (.invokevirtual 57, 3) := by decide +kernel
theorem dL_give_7 : decode cL_give 7 = .ok (.i2l, 1) := by decide +kernel
theorem dL_give_8 : decode cL_give 8 = .ok (.lastore, 1) := by decide +kernel
theorem dL_give_9 : decode cL_give 9 = .ok (.goto 9, 3) := by decide +kernel
theorem dL_give_12 : decode cL_give 12 = .ok (.astore_n 3, 1) := by decide +kernel
theorem dL_give_13 : decode cL_give 13 = .ok (.iconst 1, 1) := by decide +kernel
theorem dL_give_14 : decode cL_give 14 = .ok (.ireturn, 1) := by decide +kernel
theorem dL_give_15 : decode cL_give 15 = .ok (.astore_n 3, 1) := by decide +kernel
theorem dL_give_16 : decode cL_give 16 = .ok (.iconst 2, 1) := by decide +kernel
theorem dL_give_17 : decode cL_give 17 = .ok (.ireturn, 1) := by decide +kernel
theorem dL_give_18 : decode cL_give 18 = .ok (.iconst 0, 1) := by decide +kernel
theorem dL_give_19 : decode cL_give 19 = .ok (.ireturn, 1) := by decide +kernel
theorem dL_load_0 : decode cL_load 0 = .ok (.aload_n 1, 1) := by decide +kernel
theorem dL_load_1 : decode cL_load 1 = .ok (.iconst 0, 1) := by decide +kernel
theorem dL_load_2 : decode cL_load 2 = .ok (.aload_n 0, 1) := by decide +kernel
theorem dL_load_3 : decode cL_load 3 = .ok (.invokevirtual 60, 3) := by decide +kernel
theorem dL_load_6 : decode cL_load 6 = .ok (.i2l, 1) := by decide +kernel
theorem dL_load_7 : decode cL_load 7 = .ok (.lastore, 1) := by decide +kernel
theorem dL_load_8 : decode cL_load 8 = .ok (.goto 6, 3) := by decide +kernel
theorem dL_load_11 : decode cL_load 11 = .ok (.astore_n 2, 1) := by decide +kernel
theorem dL_load_12 : decode cL_load 12 = .ok (.iconst 1, 1) := by decide +kernel
theorem dL_load_13 : decode cL_load 13 = .ok (.ireturn, 1) := by decide +kernel
theorem dL_load_14 : decode cL_load 14 = .ok (.iconst 0, 1) := by decide +kernel
theorem dL_load_15 : decode cL_load 15 = .ok (.ireturn, 1) := by decide +kernel
theorem dL_state_0 : decode cL_state 0 = .ok (.aload_n 2, 1) := by decide +kernel
theorem dL_state_1 : decode cL_state 1 = .ok (.iconst 0, 1) := by decide +kernel
theorem dL_state_2 : decode cL_state 2 = .ok (.aload_n 0, 1) := by decide +kernel
theorem dL_state_3 : decode cL_state 3 = .ok (.iload_n 1, 1) := by decide +kernel
theorem dL_state_4 : decode cL_state 4 = .ok (.invokevirtual 64, 3) := by decide +kernel
theorem dL_state_7 : decode cL_state 7 = .ok (.i2l, 1) := by decide +kernel
theorem dL_state_8 : decode cL_state 8 = .ok (.lastore, 1) := by decide +kernel
theorem dL_state_9 : decode cL_state 9 = .ok (.goto 6, 3) := by decide +kernel
theorem dL_state_12 : decode cL_state 12 = .ok (.astore_n 3, 1) := by decide +kernel
theorem dL_state_13 : decode cL_state 13 = .ok (.iconst 1, 1) := by decide +kernel
theorem dL_state_14 : decode cL_state 14 = .ok (.ireturn, 1) := by decide +kernel
theorem dL_state_15 : decode cL_state 15 = .ok (.iconst 0, 1) := by decide +kernel
theorem dL_state_16 : decode cL_state 16 = .ok (.ireturn, 1) := by decide +kernel
theorem dL_pass_0 : decode cL_pass 0 = .ok (.aload_n 2, 1) := by decide +kernel
theorem dL_pass_1 : decode cL_pass 1 = .ok (.iconst 0, 1) := by decide +kernel
theorem dL_pass_2 : decode cL_pass 2 = .ok (.aload_n 0, 1) := by decide +kernel
theorem dL_pass_3 : decode cL_pass 3 = .ok (.iload_n 1, 1) := by decide +kernel
theorem dL_pass_4 : decode cL_pass 4 = .ok (.invokevirtual 67, 3) := by decide +kernel
theorem dL_pass_7 : decode cL_pass 7 = .ok (.i2l, 1) := by decide +kernel
theorem dL_pass_8 : decode cL_pass 8 = .ok (.lastore, 1) := by decide +kernel
theorem dL_pass_9 : decode cL_pass 9 = .ok (.goto 9, 3) := by decide +kernel
theorem dL_pass_12 : decode cL_pass 12 = .ok (.astore_n 3, 1) := by decide +kernel
theorem dL_pass_13 : decode cL_pass 13 = .ok (.iconst 1, 1) := by decide +kernel
theorem dL_pass_14 : decode cL_pass 14 = .ok (.ireturn, 1) := by decide +kernel
theorem dL_pass_15 : decode cL_pass 15 = .ok (.astore_n 3, 1) := by decide +kernel
theorem dL_pass_16 : decode cL_pass 16 = .ok (.iconst 2, 1) := by decide +kernel
theorem dL_pass_17 : decode cL_pass 17 = .ok (.ireturn, 1) := by decide +kernel
theorem dL_pass_18 : decode cL_pass 18 = .ok (.iconst 0, 1) := by decide +kernel
theorem dL_pass_19 : decode cL_pass 19 = .ok (.ireturn, 1) := by decide +kernel
