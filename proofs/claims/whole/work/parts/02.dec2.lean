theorem dX8_nextToken_264 : decode cX8_nextToken 264 = .ok (.isub, 1) := by decide +kernel
theorem dX8_nextToken_265 : decode cX8_nextToken 265 = .ok (.iconst 2, 1) := by decide +kernel
theorem dX8_nextToken_266 : decode cX8_nextToken 266 = .ok (.if_icmp .le 7, 3) := by decide +kernel
theorem dX8_nextToken_269 : decode cX8_nextToken 269 = .ok (.iconst 0, 1) := by decide +kernel
theorem dX8_nextToken_270 : decode cX8_nextToken 270 = .ok (.goto 4, 3) := by decide +kernel
theorem dX8_nextToken_273 : decode cX8_nextToken 273 = .ok (.iconst 3, 1) := by decide +kernel
theorem dX8_nextToken_274 : decode cX8_nextToken 274 = .ok (.putfield 102, 3) := by decide +kernel
theorem dX8_nextToken_277 : decode cX8_nextToken 277 = .ok (.return_, 1) := by decide +kernel
theorem dX8_must_0 : decode cX8_must 0 = .ok (.iload_n 1, 1) := by decide +kernel
theorem dX8_must_1 : decode cX8_must 1 = .ok (.ifCond .ne 8, 3) := by decide +kernel
theorem dX8_must_4 : decode cX8_must 4 = .ok (.aload_n 0, 1) := by decide +kernel
theorem dX8_must_5 : decode cX8_must 5 = .ok (.iconst 1, 1) := by decide +kernel
theorem dX8_must_6 : decode cX8_must 6 = .ok (.invokevirtual 105, 3) := by decide +kernel
theorem dX8_must_9 : decode cX8_must 9 = .ok (.aload_n 0, 1) := by decide +kernel
theorem dX8_must_10 : decode cX8_must 10 = .ok (.getfield 78, 3) := by decide +kernel
theorem dX8_must_13 : decode cX8_must 13 = .ok (.ifCond .ne 7, 3) := by decide +kernel
theorem dX8_must_16 : decode cX8_must 16 = .ok (.aload_n 0, 1) := by decide +kernel
theorem dX8_must_17 : decode cX8_must 17 = .ok (.invokevirtual 109, 3) := by decide +kernel
theorem dX8_must_20 : decode cX8_must 20 = .ok (.return_, 1) := by decide +kernel
theorem dX8_isLetter_0 : decode cX8_isLetter 0 = .ok (.aload_n 0, 1) := by decide +kernel
theorem dX8_isLetter_1 : decode cX8_isLetter 1 = .ok (.getfield 78, 3) := by decide +kernel
theorem dX8_isLetter_4 : decode cX8_isLetter 4 = .ok (.ifCond .ne 23, 3) := by decide +kernel
theorem dX8_isLetter_7 : decode cX8_isLetter 7 = .ok (.aload_n 0, 1) := by decide +kernel
theorem dX8_isLetter_8 : decode cX8_isLetter 8 = .ok (.getfield 102, 3) := by decide +kernel
theorem dX8_isLetter_11 : decode cX8_isLetter 11 = .ok (.iconst 2, 1) := by decide +kernel
theorem dX8_isLetter_12 : decode cX8_isLetter 12 = .ok (.if_icmp .ne 15, 3) := by decide +kernel
theorem dX8_isLetter_15 : decode cX8_isLetter 15 = .ok (.aload_n 0, 1) := by decide +kernel
theorem dX8_isLetter_16 : decode cX8_isLetter 16 = .ok (.getfield 91, 3) := by decide +kernel
theorem dX8_isLetter_19 : decode cX8_isLetter 19 = .ok (.iload_n 1, 1) := by decide +kernel
theorem dX8_isLetter_20 : decode cX8_isLetter 20 = .ok (.if_icmp .ne 7, 3) := by decide +kernel
theorem dX8_isLetter_23 : decode cX8_isLetter 23 = .ok (.iconst 1, 1) := by decide +kernel
theorem dX8_isLetter_24 : decode cX8_isLetter 24 = .ok (.goto 4, 3) := by decide +kernel
theorem dX8_isLetter_27 : decode cX8_isLetter 27 = .ok (.iconst 0, 1) := by decide +kernel
theorem dX8_isLetter_28 : decode cX8_isLetter 28 = .ok (.ireturn, 1) := by decide +kernel
theorem dX8_number_0 : decode cX8_number 0 = .ok (.aload_n 0, 1) := by decide +kernel
theorem dX8_number_1 : decode cX8_number 1 = .ok (.getfield 78, 3) := by decide +kernel
theorem dX8_number_4 : decode cX8_number 4 = .ok (.ifCond .ne 16, 3) := by decide +kernel
theorem dX8_number_7 : decode cX8_number 7 = .ok (.aload_n 0, 1) := by decide +kernel
theorem dX8_number_8 : decode cX8_number 8 = .ok (.getfield 102, 3) := by decide +kernel
theorem dX8_number_11 : decode cX8_number 11 = .ok (.iconst 3, 1) := by decide +kernel
theorem dX8_number_12 : decode cX8_number 12 = .ok (.if_icmp .eq 8, 3) := by decide +kernel
theorem dX8_number_15 : decode cX8_number 15 = .ok (.aload_n 0, 1) := by decide +kernel
theorem dX8_number_16 : decode cX8_number 16 = .ok (.iconst 1, 1) := by decide +kernel
theorem dX8_number_17 : decode cX8_number 17 = .ok (.invokevirtual 105, 3) := by decide +kernel
theorem dX8_number_20 : decode cX8_number 20 = .ok (.aload_n 0, 1) := by decide +kernel
theorem dX8_number_21 : decode cX8_number 21 = .ok (.getfield 78, 3) := by decide +kernel
theorem dX8_number_24 : decode cX8_number 24 = .ok (.ifCond .ne 23, 3) := by decide +kernel
theorem dX8_number_27 : decode cX8_number 27 = .ok (.aload_n 0, 1) := by decide +kernel
theorem dX8_number_28 : decode cX8_number 28 = .ok (.getfield 91, 3) := by decide +kernel
theorem dX8_number_31 : decode cX8_number 31 = .ok (.i2l, 1) := by decide +kernel
theorem dX8_number_32 : decode cX8_number 32 = .ok (.iload_n 1, 1) := by decide +kernel
theorem dX8_number_33 : decode cX8_number 33 = .ok (.i2l, 1) := by decide +kernel
theorem dX8_number_34 : decode cX8_number 34 = .ok (.iload_n 2, 1) := by decide +kernel
theorem dX8_number_35 : decode cX8_number 35 = .ok (.i2l, 1) := by decide +kernel
theorem dX8_number_36 : decode cX8_number 36 = .ok (.invokestatic 57, 3) := by decide +kernel
theorem dX8_number_39 : decode cX8_number 39 = .ok (.ifCond .ne 8, 3) := by decide +kernel
theorem dX8_number_42 : decode cX8_number 42 = .ok (.aload_n 0, 1) := by decide +kernel
theorem dX8_number_43 : decode cX8_number 43 = .ok (.iconst 2, 1) := by decide +kernel
theorem dX8_number_44 : decode cX8_number 44 = .ok (.invokevirtual 105, 3) := by decide +kernel
theorem dX8_number_47 : decode cX8_number 47 = .ok (.aload_n 0, 1) := by decide +kernel
theorem dX8_number_48 : decode cX8_number 48 = .ok (.getfield 78, 3) := by decide +kernel
theorem dX8_number_51 : decode cX8_number 51 = .ok (.ifCond .ne 10, 3) := by decide +kernel
theorem dX8_number_54 : decode cX8_number 54 = .ok (.aload_n 0, 1) := by decide +kernel
theorem dX8_number_55 : decode cX8_number 55 = .ok (.getfield 91, 3) := by decide +kernel
theorem dX8_number_58 : decode cX8_number 58 = .ok (.goto 4, 3) := by decide +kernel
theorem dX8_number_61 : decode cX8_number 61 = .ok (.iload_n 1, 1) := by decide +kernel
theorem dX8_number_62 : decode cX8_number 62 = .ok (.istore_n 3, 1) := by decide +kernel
theorem dX8_number_63 : decode cX8_number 63 = .ok (.aload_n 0, 1) := by decide +kernel
theorem dX8_number_64 : decode cX8_number 64 = .ok (.iconst 1, 1) := by decide +kernel
theorem dX8_number_65 : decode cX8_number 65 = .ok (.invokevirtual 112, 3) := by decide +kernel
theorem dX8_number_68 : decode cX8_number 68 = .ok (.iload_n 3, 1) := by decide +kernel
theorem dX8_number_69 : decode cX8_number 69 = .ok (.ireturn, 1) := by decide +kernel
theorem dX8_mustSign_0 : decode cX8_mustSign 0 = .ok (.aload_n 0, 1) := by decide +kernel
theorem dX8_mustSign_1 : decode cX8_mustSign 1 = .ok (.aload_n 0, 1) := by decide +kernel
theorem dX8_mustSign_2 : decode cX8_mustSign 2 = .ok (.getfield 102, 3) := by decide +kernel
theorem dX8_mustSign_5 : decode cX8_mustSign 5 = .ok (.iconst 4, 1) := by decide +kernel
theorem dX8_mustSign_6 : decode cX8_mustSign 6 = .ok (.if_icmp .ne 15, 3) := by decide +kernel
theorem dX8_mustSign_9 : decode cX8_mustSign 9 = .ok (.aload_n 0, 1) := by decide +kernel
theorem dX8_mustSign_10 : decode cX8_mustSign 10 = .ok (.getfield 91, 3) := by decide +kernel
theorem dX8_mustSign_13 : decode cX8_mustSign 13 = .ok (.iload_n 1, 1) := by decide +kernel
theorem dX8_mustSign_14 : decode cX8_mustSign 14 = .ok (.if_icmp .ne 7, 3) := by decide +kernel
theorem dX8_mustSign_17 : decode cX8_mustSign 17 = .ok (.iconst 1, 1) := by decide +kernel
theorem dX8_mustSign_18 : decode cX8_mustSign 18 = .ok (.goto 4, 3) := by decide +kernel
theorem dX8_mustSign_21 : decode cX8_mustSign 21 = .ok (.iconst 0, 1) := by decide +kernel
theorem dX8_mustSign_22 : decode cX8_mustSign 22 = .ok (.invokevirtual 112, 3) := by decide +kernel
theorem dX8_mustSign_25 : decode cX8_mustSign 25 = .ok (.return_, 1) := by decide +kernel
theorem dX8_begin_0 : decode cX8_begin 0 = .ok (.aload_n 0, 1) := by decide +kernel
theorem dX8_begin_1 : decode cX8_begin 1 = .ok (.iconst 0, 1) := by decide +kernel
theorem dX8_begin_2 : decode cX8_begin 2 = .ok (.putfield 87, 3) := by decide +kernel
theorem dX8_begin_5 : decode cX8_begin 5 = .ok (.aload_n 0, 1) := by decide +kernel
theorem dX8_begin_6 : decode cX8_begin 6 = .ok (.iconst 0, 1) := by decide +kernel
theorem dX8_begin_7 : decode cX8_begin 7 = .ok (.putfield 78, 3) := by decide +kernel
theorem dX8_begin_10 : decode cX8_begin 10 = .ok (.aload_n 0, 1) := by decide +kernel
theorem dX8_begin_11 : decode cX8_begin 11 = .ok (.invokevirtual 109, 3) := by decide +kernel
theorem dX8_begin_14 : decode cX8_begin 14 = .ok (.return_, 1) := by decide +kernel
theorem dX8_failed_0 : decode cX8_failed 0 = .ok (.aload_n 0, 1) := by decide +kernel
theorem dX8_failed_1 : decode cX8_failed 1 = .ok (.getfield 78, 3) := by decide +kernel
theorem dX8_failed_4 : decode cX8_failed 4 = .ok (.ifCond .ne 16, 3) := by decide +kernel
theorem dX8_failed_7 : decode cX8_failed 7 = .ok (.aload_n 0, 1) := by decide +kernel
theorem dX8_failed_8 : decode cX8_failed 8 = .ok (.getfield 102, 3) := by decide +kernel
theorem dX8_failed_11 : decode cX8_failed 11 = .ok (.iconst 1, 1) := by decide +kernel
theorem dX8_failed_12 : decode cX8_failed 12 = .ok (.if_icmp .eq 8, 3) := by decide +kernel
theorem dX8_failed_15 : decode cX8_failed 15 = .ok (.aload_n 0, 1) := by decide +kernel
theorem dX8_failed_16 : decode cX8_failed 16 = .ok (.iconst 1, 1) := by decide +kernel
theorem dX8_failed_17 : decode cX8_failed 17 = .ok (.invokevirtual 105, 3) := by decide +kernel
theorem dX8_failed_20 : decode cX8_failed 20 = .ok (.aload_n 0, 1) := by decide +kernel
theorem dX8_failed_21 : decode cX8_failed 21 = .ok (.iconst 0, 1) := by decide +kernel
theorem dX8_failed_22 : decode cX8_failed 22 = .ok (.putfield 74, 3) := by decide +kernel
theorem dX8_failed_25 : decode cX8_failed 25 = .ok (.aload_n 0, 1) := by decide +kernel
theorem dX8_failed_26 : decode cX8_failed 26 = .ok (.aload_n 0, 1) := by decide +kernel
theorem dX8_failed_27 : decode cX8_failed 27 = .ok (.getfield 78, 3) := by decide +kernel
theorem dX8_failed_30 : decode cX8_failed 30 = .ok (.ifCond .le 10, 3) := by decide +kernel
theorem dX8_failed_33 : decode cX8_failed 33 = .ok (.aload_n 0, 1) := by decide +kernel
theorem dX8_failed_34 : decode cX8_failed 34 = .ok (.getfield 78, 3) := by decide +kernel
theorem dX8_failed_37 : decode cX8_failed 37 = .ok (.goto 7, 3) := by decide +kernel
theorem dX8_failed_40 : decode cX8_failed 40 = .ok (.aload_n 0, 1) := by decide +kernel
theorem dX8_failed_41 : decode cX8_failed 41 = .ok (.getfield 116, 3) := by decide +kernel
theorem dX8_failed_44 : decode cX8_failed 44 = .ok (.putfield 116, 3) := by decide +kernel
theorem dX8_failed_47 : decode cX8_failed 47 = .ok (.aload_n 0, 1) := by decide +kernel
theorem dX8_failed_48 : decode cX8_failed 48 = .ok (.getfield 78, 3) := by decide +kernel
theorem dX8_failed_51 : decode cX8_failed 51 = .ok (.ifCond .le 7, 3) := by decide +kernel
theorem dX8_failed_54 : decode cX8_failed 54 = .ok (.iconst 1, 1) := by decide +kernel
theorem dX8_failed_55 : decode cX8_failed 55 = .ok (.goto 4, 3) := by decide +kernel
theorem dX8_failed_58 : decode cX8_failed 58 = .ok (.iconst 0, 1) := by decide +kernel
theorem dX8_failed_59 : decode cX8_failed 59 = .ok (.ireturn, 1) := by decide +kernel
theorem dX8_fault_0 : decode cX8_fault 0 = .ok (.aload_n 0, 1) := by decide +kernel
theorem dX8_fault_1 : decode cX8_fault 1 = .ok (.iconst 0, 1) := by decide +kernel
theorem dX8_fault_2 : decode cX8_fault 2 = .ok (.putfield 47, 3) := by decide +kernel
theorem dX8_fault_5 : decode cX8_fault 5 = .ok (.aload_n 0, 1) := by decide +kernel
theorem dX8_fault_6 : decode cX8_fault 6 = .ok (.getfield 116, 3) := by decide +kernel
theorem dX8_fault_9 : decode cX8_fault 9 = .ok (.ireturn, 1) := by decide +kernel
theorem dX8_kindBy_0 : decode cX8_kindBy 0 = .ok (.iload_n 0, 1) := by decide +kernel
theorem dX8_kindBy_1 : decode cX8_kindBy 1 = .ok (.bipush 98, 2) := by decide +kernel
theorem dX8_kindBy_3 : decode cX8_kindBy 3 = .ok (.if_icmp .ne 7, 3) := by decide +kernel
theorem dX8_kindBy_6 : decode cX8_kindBy 6 = .ok (.iconst 1, 1) := by decide +kernel
theorem dX8_kindBy_7 : decode cX8_kindBy 7 = .ok (.goto 45, 3) := by decide +kernel
theorem dX8_kindBy_10 : decode cX8_kindBy 10 = .ok (.iload_n 0, 1) := by decide +kernel
theorem dX8_kindBy_11 : decode cX8_kindBy 11 = .ok (.bipush 100, 2) := by decide +kernel
theorem dX8_kindBy_13 : decode cX8_kindBy 13 = .ok (.if_icmp .ne 7, 3) := by decide +kernel
theorem dX8_kindBy_16 : decode cX8_kindBy 16 = .ok (.iconst 2, 1) := by decide +kernel
theorem dX8_kindBy_17 : decode cX8_kindBy 17 = .ok (.goto 35, 3) := by decide +kernel
theorem dX8_kindBy_20 : decode cX8_kindBy 20 = .ok (.iload_n 0, 1) := by decide +kernel
theorem dX8_kindBy_21 : decode cX8_kindBy 21 = .ok (.bipush 110, 2) := by decide +kernel
theorem dX8_kindBy_23 : decode cX8_kindBy 23 = .ok (.if_icmp .ne 7, 3) := by decide +kernel
theorem dX8_kindBy_26 : decode cX8_kindBy 26 = .ok (.iconst 3, 1) := by decide +kernel
theorem dX8_kindBy_27 : decode cX8_kindBy 27 = .ok (.goto 25, 3) := by decide +kernel
theorem dX8_kindBy_30 : decode cX8_kindBy 30 = .ok (.iload_n 0, 1) := by decide +kernel
theorem dX8_kindBy_31 : decode cX8_kindBy 31 = .ok (.bipush 108, 2) := by decide +kernel
theorem dX8_kindBy_33 : decode cX8_kindBy 33 = .ok (.if_icmp .ne 7, 3) := by decide +kernel
theorem dX8_kindBy_36 : decode cX8_kindBy 36 = .ok (.iconst 4, 1) := by decide +kernel
theorem dX8_kindBy_37 : decode cX8_kindBy 37 = .ok (.goto 15, 3) := by decide +kernel
theorem dX8_kindBy_40 : decode cX8_kindBy 40 = .ok (.iload_n 0, 1) := by decide +kernel
theorem dX8_kindBy_41 : decode cX8_kindBy 41 = .ok (.bipush 111, 2) := by decide +kernel
theorem dX8_kindBy_43 : decode cX8_kindBy 43 = .ok (.if_icmp .ne 7, 3) := by decide +kernel
theorem dX8_kindBy_46 : decode cX8_kindBy 46 = .ok (.iconst 5, 1) := by decide +kernel
theorem dX8_kindBy_47 : decode cX8_kindBy 47 = .ok (.goto 5, 3) := by decide +kernel
theorem dX8_kindBy_50 : decode cX8_kindBy 50 = .ok (.ldc 90, 2) := by decide +kernel
theorem dX8_kindBy_52 : decode cX8_kindBy 52 = .ok (.ireturn, 1) := by decide +kernel
theorem dX8_isSort_0 : decode cX8_isSort 0 = .ok (.aload_n 0, 1) := by decide +kernel
theorem dX8_isSort_1 : decode cX8_isSort 1 = .ok (.getfield 78, 3) := by decide +kernel
theorem dX8_isSort_4 : decode cX8_isSort 4 = .ok (.ifCond .ne 27, 3) := by decide +kernel
theorem dX8_isSort_7 : decode cX8_isSort 7 = .ok (.aload_n 0, 1) := by decide +kernel
theorem dX8_isSort_8 : decode cX8_isSort 8 = .ok (.getfield 102, 3) := by decide +kernel
theorem dX8_isSort_11 : decode cX8_isSort 11 = .ok (.iconst 2, 1) := by decide +kernel
theorem dX8_isSort_12 : decode cX8_isSort 12 = .ok (.if_icmp .ne 19, 3) := by decide +kernel
theorem dX8_isSort_15 : decode cX8_isSort 15 = .ok (.aload_n 0, 1) := by decide +kernel
theorem dX8_isSort_16 : decode cX8_isSort 16 = .ok (.getfield 91, 3) := by decide +kernel
theorem dX8_isSort_19 : decode cX8_isSort 19 = .ok (.invokestatic 119, 3) := by decide +kernel
theorem dX8_isSort_22 : decode cX8_isSort 22 = .ok (.ldc 90, 2) := by decide +kernel
theorem dX8_isSort_24 : decode cX8_isSort 24 = .ok (.if_icmp .eq 7, 3) := by decide +kernel
theorem dX8_isSort_27 : decode cX8_isSort 27 = .ok (.iconst 1, 1) := by decide +kernel
theorem dX8_isSort_28 : decode cX8_isSort 28 = .ok (.goto 4, 3) := by decide +kernel
theorem dX8_isSort_31 : decode cX8_isSort 31 = .ok (.iconst 0, 1) := by decide +kernel
theorem dX8_isSort_32 : decode cX8_isSort 32 = .ok (.ireturn, 1) := by decide +kernel
theorem dX8_readPipe_0 : decode cX8_readPipe 0 = .ok (.aload_n 0, 1) := by decide +kernel
theorem dX8_readPipe_1 : decode cX8_readPipe 1 = .ok (.getfield 91, 3) := by decide +kernel
theorem dX8_readPipe_4 : decode cX8_readPipe 4 = .ok (.invokestatic 119, 3) := by decide +kernel
theorem dX8_readPipe_7 : decode cX8_readPipe 7 = .ok (.istore_n 1, 1) := by decide +kernel
theorem dX8_readPipe_8 : decode cX8_readPipe 8 = .ok (.aload_n 0, 1) := by decide +kernel
theorem dX8_readPipe_9 : decode cX8_readPipe 9 = .ok (.getfield 22, 3) := by decide +kernel
theorem dX8_readPipe_12 : decode cX8_readPipe 12 = .ok (.iconst 2, 1) := by decide +kernel
theorem dX8_readPipe_13 : decode cX8_readPipe 13 = .ok (.iaload, 1) := by decide +kernel
theorem dX8_readPipe_14 : decode cX8_readPipe 14 = .ok (.bipush 7, 2) := by decide +kernel
theorem dX8_readPipe_16 : decode cX8_readPipe 16 = .ok (.if_icmp .ne 8, 3) := by decide +kernel
theorem dX8_readPipe_19 : decode cX8_readPipe 19 = .ok (.aload_n 0, 1) := by decide +kernel
theorem dX8_readPipe_20 : decode cX8_readPipe 20 = .ok (.iconst 3, 1) := by decide +kernel
theorem dX8_readPipe_21 : decode cX8_readPipe 21 = .ok (.invokevirtual 105, 3) := by decide +kernel
theorem dX8_readPipe_24 : decode cX8_readPipe 24 = .ok (.aload_n 0, 1) := by decide +kernel
theorem dX8_readPipe_25 : decode cX8_readPipe 25 = .ok (.iconst 1, 1) := by decide +kernel
theorem dX8_readPipe_26 : decode cX8_readPipe 26 = .ok (.invokevirtual 112, 3) := by decide +kernel
theorem dX8_readPipe_29 : decode cX8_readPipe 29 = .ok (.aload_n 0, 1) := by decide +kernel
theorem dX8_readPipe_30 : decode cX8_readPipe 30 = .ok (.iconst 0, 1) := by decide +kernel
theorem dX8_readPipe_31 : decode cX8_readPipe 31 = .ok (.aload_n 0, 1) := by decide +kernel
theorem dX8_readPipe_32 : decode cX8_readPipe 32 = .ok (.getfield 22, 3) := by decide +kernel
theorem dX8_readPipe_35 : decode cX8_readPipe 35 = .ok (.iconst 0, 1) := by decide +kernel
theorem dX8_readPipe_36 : decode cX8_readPipe 36 = .ok (.iaload, 1) := by decide +kernel
theorem dX8_readPipe_37 : decode cX8_readPipe 37 = .ok (.iconst 1, 1) := by decide +kernel
theorem dX8_readPipe_38 : decode cX8_readPipe 38 = .ok (.isub, 1) := by decide +kernel
theorem dX8_readPipe_39 : decode cX8_readPipe 39 = .ok (.invokevirtual 122, 3) := by decide +kernel
theorem dX8_readPipe_42 : decode cX8_readPipe 42 = .ok (.istore_n 2, 1) := by decide +kernel
theorem dX8_readPipe_43 : decode cX8_readPipe 43 = .ok (.aload_n 0, 1) := by decide +kernel
theorem dX8_readPipe_44 : decode cX8_readPipe 44 = .ok (.bipush 44, 2) := by decide +kernel
theorem dX8_readPipe_46 : decode cX8_readPipe 46 = .ok (.invokevirtual 126, 3) := by decide +kernel
theorem dX8_readPipe_49 : decode cX8_readPipe 49 = .ok (.aload_n 0, 1) := by decide +kernel
theorem dX8_readPipe_50 : decode cX8_readPipe 50 = .ok (.getfield 78, 3) := by decide +kernel
theorem dX8_readPipe_53 : decode cX8_readPipe 53 = .ok (.ifCond .ne 24, 3) := by decide +kernel
theorem dX8_readPipe_56 : decode cX8_readPipe 56 = .ok (.aload_n 0, 1) := by decide +kernel
theorem dX8_readPipe_57 : decode cX8_readPipe 57 = .ok (.getfield 102, 3) := by decide +kernel
theorem dX8_readPipe_60 : decode cX8_readPipe 60 = .ok (.iconst 3, 1) := by decide +kernel
theorem dX8_readPipe_61 : decode cX8_readPipe 61 = .ok (.if_icmp .ne 16, 3) := by decide +kernel
theorem dX8_readPipe_64 : decode cX8_readPipe 64 = .ok (.aload_n 0, 1) := by decide +kernel
theorem dX8_readPipe_65 : decode cX8_readPipe 65 = .ok (.getfield 91, 3) := by decide +kernel
theorem dX8_readPipe_68 : decode cX8_readPipe 68 = .ok (.iload_n 2, 1) := by decide +kernel
theorem dX8_readPipe_69 : decode cX8_readPipe 69 = .ok (.if_icmp .ne 8, 3) := by decide +kernel
theorem dX8_readPipe_72 : decode cX8_readPipe 72 = .ok (.aload_n 0, 1) := by decide +kernel
theorem dX8_readPipe_73 : decode cX8_readPipe 73 = .ok (.iconst 2, 1) := by decide +kernel
theorem dX8_readPipe_74 : decode cX8_readPipe 74 = .ok (.invokevirtual 105, 3) := by decide +kernel
theorem dX8_readPipe_77 : decode cX8_readPipe 77 = .ok (.aload_n 0, 1) := by decide +kernel
theorem dX8_readPipe_78 : decode cX8_readPipe 78 = .ok (.iconst 0, 1) := by decide +kernel
theorem dX8_readPipe_79 : decode cX8_readPipe 79 = .ok (.aload_n 0, 1) := by decide +kernel
theorem dX8_readPipe_80 : decode cX8_readPipe 80 = .ok (.getfield 22, 3) := by decide +kernel
theorem dX8_readPipe_83 : decode cX8_readPipe 83 = .ok (.iconst 0, 1) := by decide +kernel
theorem dX8_readPipe_84 : decode cX8_readPipe 84 = .ok (.iaload, 1) := by decide +kernel
theorem dX8_readPipe_85 : decode cX8_readPipe 85 = .ok (.iconst 1, 1) := by decide +kernel
theorem dX8_readPipe_86 : decode cX8_readPipe 86 = .ok (.isub, 1) := by decide +kernel
theorem dX8_readPipe_87 : decode cX8_readPipe 87 = .ok (.invokevirtual 122, 3) := by decide +kernel
theorem dX8_readPipe_90 : decode cX8_readPipe 90 = .ok (.istore_n 3, 1) := by decide +kernel
theorem dX8_readPipe_91 : decode cX8_readPipe 91 = .ok (.aload_n 0, 1) := by decide +kernel
theorem dX8_readPipe_92 : decode cX8_readPipe 92 = .ok (.bipush 44, 2) := by decide +kernel
theorem dX8_readPipe_94 : decode cX8_readPipe 94 = .ok (.invokevirtual 126, 3) := by decide +kernel
theorem dX8_readPipe_97 : decode cX8_readPipe 97 = .ok (.aload_n 0, 1) := by decide +kernel
theorem dX8_readPipe_98 : decode cX8_readPipe 98 = .ok (.iconst 1, 1) := by decide +kernel
theorem dX8_readPipe_99 : decode cX8_readPipe 99 = .ok (.iconst 4, 1) := by decide +kernel
theorem dX8_readPipe_100 : decode cX8_readPipe 100 = .ok (.invokevirtual 122, 3) := by decide +kernel
theorem dX8_readPipe_103 : decode cX8_readPipe 103 = .ok (.istore 4, 2) := by decide +kernel
theorem dX8_readPipe_105 : decode cX8_readPipe 105 = .ok (.aload_n 0, 1) := by decide +kernel
theorem dX8_readPipe_106 : decode cX8_readPipe 106 = .ok (.bipush 44, 2) := by decide +kernel
theorem dX8_readPipe_108 : decode cX8_readPipe 108 = .ok (.invokevirtual 126, 3) := by decide +kernel
theorem dX8_readPipe_111 : decode cX8_readPipe 111 = .ok (.aload_n 0, 1) := by decide +kernel
theorem dX8_readPipe_112 : decode cX8_readPipe 112 = .ok (.iconst 0, 1) := by decide +kernel
theorem dX8_readPipe_113 : decode cX8_readPipe 113 = .ok (.bipush 9, 2) := by decide +kernel
theorem dX8_readPipe_115 : decode cX8_readPipe 115 = .ok (.invokevirtual 122, 3) := by decide +kernel
theorem dX8_readPipe_118 : decode cX8_readPipe 118 = .ok (.istore 5, 2) := by decide +kernel
theorem dX8_readPipe_120 : decode cX8_readPipe 120 = .ok (.aload_n 0, 1) := by decide +kernel
theorem dX8_readPipe_121 : decode cX8_readPipe 121 = .ok (.bipush 59, 2) := by decide +kernel
theorem dX8_readPipe_123 : decode cX8_readPipe 123 = .ok (.invokevirtual 126, 3) := by decide +kernel
theorem dX8_readPipe_126 : decode cX8_readPipe 126 = .ok (.aload_n 0, 1) := by decide +kernel
theorem dX8_readPipe_127 : decode cX8_readPipe 127 = .ok (.getfield 78, 3) := by decide +kernel
theorem dX8_readPipe_130 : decode cX8_readPipe 130 = .ok (.ifCond .ne 94, 3) := by decide +kernel
theorem dX8_readPipe_133 : decode cX8_readPipe 133 = .ok (.bipush 17, 2) := by decide +kernel
theorem dX8_readPipe_135 : decode cX8_readPipe 135 = .ok (.bipush 9, 2) := by decide +kernel
theorem dX8_readPipe_137 : decode cX8_readPipe 137 = .ok (.aload_n 0, 1) := by decide +kernel
theorem dX8_readPipe_138 : decode cX8_readPipe 138 = .ok (.getfield 22, 3) := by decide +kernel
theorem dX8_readPipe_141 : decode cX8_readPipe 141 = .ok (.iconst 2, 1) := by decide +kernel
theorem dX8_readPipe_142 : decode cX8_readPipe 142 = .ok (.iaload, 1) := by decide +kernel
theorem dX8_readPipe_143 : decode cX8_readPipe 143 = .ok (.imul, 1) := by decide +kernel
theorem dX8_readPipe_144 : decode cX8_readPipe 144 = .ok (.iadd, 1) := by decide +kernel
theorem dX8_readPipe_145 : decode cX8_readPipe 145 = .ok (.istore 6, 2) := by decide +kernel
theorem dX8_readPipe_147 : decode cX8_readPipe 147 = .ok (.aload_n 0, 1) := by decide +kernel
theorem dX8_readPipe_148 : decode cX8_readPipe 148 = .ok (.getfield 22, 3) := by decide +kernel
theorem dX8_readPipe_151 : decode cX8_readPipe 151 = .ok (.iload 6, 2) := by decide +kernel
theorem dX8_readPipe_153 : decode cX8_readPipe 153 = .ok (.iload_n 1, 1) := by decide +kernel
theorem dX8_readPipe_154 : decode cX8_readPipe 154 = .ok (.iastore, 1) := by decide +kernel
theorem dX8_readPipe_155 : decode cX8_readPipe 155 = .ok (.aload_n 0, 1) := by decide +kernel
theorem dX8_readPipe_156 : decode cX8_readPipe 156 = .ok (.getfield 22, 3) := by decide +kernel
theorem dX8_readPipe_159 : decode cX8_readPipe 159 = .ok (.iload 6, 2) := by decide +kernel
theorem dX8_readPipe_161 : decode cX8_readPipe 161 = .ok (.iconst 1, 1) := by decide +kernel
theorem dX8_readPipe_162 : decode cX8_readPipe 162 = .ok (.iadd, 1) := by decide +kernel
theorem dX8_readPipe_163 : decode cX8_readPipe 163 = .ok (.iload_n 2, 1) := by decide +kernel
theorem dX8_readPipe_164 : decode cX8_readPipe 164 = .ok (.iastore, 1) := by decide +kernel
theorem dX8_readPipe_165 : decode cX8_readPipe 165 = .ok (.aload_n 0, 1) := by decide +kernel
theorem dX8_readPipe_166 : decode cX8_readPipe 166 = .ok (.getfield 22, 3) := by decide +kernel
theorem dX8_readPipe_169 : decode cX8_readPipe 169 = .ok (.iload 6, 2) := by decide +kernel
theorem dX8_readPipe_171 : decode cX8_readPipe 171 = .ok (.iconst 2, 1) := by decide +kernel
theorem dX8_readPipe_172 : decode cX8_readPipe 172 = .ok (.iadd, 1) := by decide +kernel
theorem dX8_readPipe_173 : decode cX8_readPipe 173 = .ok (.iload_n 3, 1) := by decide +kernel
theorem dX8_readPipe_174 : decode cX8_readPipe 174 = .ok (.iastore, 1) := by decide +kernel
theorem dX8_readPipe_175 : decode cX8_readPipe 175 = .ok (.aload_n 0, 1) := by decide +kernel
theorem dX8_readPipe_176 : decode cX8_readPipe 176 = .ok (.getfield 22, 3) := by decide +kernel
theorem dX8_readPipe_179 : decode cX8_readPipe 179 = .ok (.iload 6, 2) := by decide +kernel
theorem dX8_readPipe_181 : decode cX8_readPipe 181 = .ok (.iconst 3, 1) := by decide +kernel
theorem dX8_readPipe_182 : decode cX8_readPipe 182 = .ok (.iadd, 1) := by decide +kernel
theorem dX8_readPipe_183 : decode cX8_readPipe 183 = .ok (.iload 4, 2) := by decide +kernel
theorem dX8_readPipe_185 : decode cX8_readPipe 185 = .ok (.iastore, 1) := by decide +kernel
theorem dX8_readPipe_186 : decode cX8_readPipe 186 = .ok (.aload_n 0, 1) := by decide +kernel
theorem dX8_readPipe_187 : decode cX8_readPipe 187 = .ok (.getfield 22, 3) := by decide +kernel
theorem dX8_readPipe_190 : decode cX8_readPipe 190 = .ok (.iload 6, 2) := by decide +kernel
theorem dX8_readPipe_192 : decode cX8_readPipe 192 = .ok (.iconst 4, 1) := by decide +kernel
theorem dX8_readPipe_193 : decode cX8_readPipe 193 = .ok (.iadd, 1) := by decide +kernel
theorem dX8_readPipe_194 : decode cX8_readPipe 194 = .ok (.iload 5, 2) := by decide +kernel
theorem dX8_readPipe_196 : decode cX8_readPipe 196 = .ok (.iastore, 1) := by decide +kernel
theorem dX8_readPipe_197 : decode cX8_readPipe 197 = .ok (.aload_n 0, 1) := by decide +kernel
theorem dX8_readPipe_198 : decode cX8_readPipe 198 = .ok (.getfield 22, 3) := by decide +kernel
theorem dX8_readPipe_201 : decode cX8_readPipe 201 = .ok (.iconst 4, 1) := by decide +kernel
theorem dX8_readPipe_202 : decode cX8_readPipe 202 = .ok (.dup2, 1) := by decide +kernel
theorem dX8_readPipe_203 : decode cX8_readPipe 203 = .ok (.iaload, 1) := by decide +kernel
theorem dX8_readPipe_204 : decode cX8_readPipe 204 = .ok (.iconst 1, 1) := by decide +kernel
theorem dX8_readPipe_205 : decode cX8_readPipe 205 = .ok (.aload_n 0, 1) := by decide +kernel
theorem dX8_readPipe_206 : decode cX8_readPipe 206 = .ok (.getfield 22, 3) := by decide +kernel
theorem dX8_readPipe_209 : decode cX8_readPipe 209 = .ok (.iconst 2, 1) := by decide +kernel
theorem dX8_readPipe_210 : decode cX8_readPipe 210 = .ok (.iaload, 1) := by decide +kernel
theorem dX8_readPipe_211 : decode cX8_readPipe 211 = .ok (.ishl, 1) := by decide +kernel
theorem dX8_readPipe_212 : decode cX8_readPipe 212 = .ok (.ior, 1) := by decide +kernel
theorem dX8_readPipe_213 : decode cX8_readPipe 213 = .ok (.iastore, 1) := by decide +kernel
theorem dX8_readPipe_214 : decode cX8_readPipe 214 = .ok (.aload_n 0, 1) := by decide +kernel
theorem dX8_readPipe_215 : decode cX8_readPipe 215 = .ok (.getfield 22, 3) := by decide +kernel
theorem dX8_readPipe_218 : decode cX8_readPipe 218 = .ok (.iconst 2, 1) := by decide +kernel
theorem dX8_readPipe_219 : decode cX8_readPipe 219 = .ok (.dup2, 1) := by decide +kernel
theorem dX8_readPipe_220 : decode cX8_readPipe 220 = .ok (.iaload, 1) := by decide +kernel
theorem dX8_readPipe_221 : decode cX8_readPipe 221 = .ok (.iconst 1, 1) := by decide +kernel
theorem dX8_readPipe_222 : decode cX8_readPipe 222 = .ok (.iadd, 1) := by decide +kernel
theorem dX8_readPipe_223 : decode cX8_readPipe 223 = .ok (.iastore, 1) := by decide +kernel
theorem dX8_readPipe_224 : decode cX8_readPipe 224 = .ok (.return_, 1) := by decide +kernel
theorem dX8_house_0 : decode cX8_house 0 = .ok (.aload_n 0, 1) := by decide +kernel
theorem dX8_house_1 : decode cX8_house 1 = .ok (.iconst 0, 1) := by decide +kernel
theorem dX8_house_2 : decode cX8_house 2 = .ok (.putfield 47, 3) := by decide +kernel
theorem dX8_house_5 : decode cX8_house 5 = .ok (.aload_n 0, 1) := by decide +kernel
theorem dX8_house_6 : decode cX8_house 6 = .ok (.invokevirtual 129, 3) := by decide +kernel
theorem dX8_house_9 : decode cX8_house 9 = .ok (.iconst 0, 1) := by decide +kernel
theorem dX8_house_10 : decode cX8_house 10 = .ok (.istore_n 1, 1) := by decide +kernel
theorem dX8_house_11 : decode cX8_house 11 = .ok (.iload_n 1, 1) := by decide +kernel
theorem dX8_house_12 : decode cX8_house 12 = .ok (.bipush 80, 2) := by decide +kernel
theorem dX8_house_14 : decode cX8_house 14 = .ok (.if_icmp .ge 16, 3) := by decide +kernel
theorem dX8_house_17 : decode cX8_house 17 = .ok (.aload_n 0, 1) := by decide +kernel
theorem dX8_house_18 : decode cX8_house 18 = .ok (.getfield 22, 3) := by decide +kernel
theorem dX8_house_21 : decode cX8_house 21 = .ok (.iload_n 1, 1) := by decide +kernel
theorem dX8_house_22 : decode cX8_house 22 = .ok (.iconst 0, 1) := by decide +kernel
theorem dX8_house_23 : decode cX8_house 23 = .ok (.iastore, 1) := by decide +kernel
theorem dX8_house_24 : decode cX8_house 24 = .ok (.iinc 1 1, 3) := by decide +kernel
theorem dX8_house_27 : decode cX8_house 27 = .ok (.goto (-16), 3) := by decide +kernel
theorem dX8_house_30 : decode cX8_house 30 = .ok (.aload_n 0, 1) := by decide +kernel
theorem dX8_house_31 : decode cX8_house 31 = .ok (.aload_n 0, 1) := by decide +kernel
theorem dX8_house_32 : decode cX8_house 32 = .ok (.bipush 109, 2) := by decide +kernel
theorem dX8_house_34 : decode cX8_house 34 = .ok (.invokevirtual 132, 3) := by decide +kernel
theorem dX8_house_37 : decode cX8_house 37 = .ok (.invokevirtual 112, 3) := by decide +kernel
theorem dX8_house_40 : decode cX8_house 40 = .ok (.aload_n 0, 1) := by decide +kernel
theorem dX8_house_41 : decode cX8_house 41 = .ok (.getfield 22, 3) := by decide +kernel
theorem dX8_house_44 : decode cX8_house 44 = .ok (.iconst 0, 1) := by decide +kernel
theorem dX8_house_45 : decode cX8_house 45 = .ok (.aload_n 0, 1) := by decide +kernel
theorem dX8_house_46 : decode cX8_house 46 = .ok (.iconst 2, 1) := by decide +kernel
theorem dX8_house_47 : decode cX8_house 47 = .ok (.bipush 6, 2) := by decide +kernel
theorem dX8_house_49 : decode cX8_house 49 = .ok (.invokevirtual 122, 3) := by decide +kernel
theorem dX8_house_52 : decode cX8_house 52 = .ok (.iastore, 1) := by decide +kernel
theorem dX8_house_53 : decode cX8_house 53 = .ok (.aload_n 0, 1) := by decide +kernel
theorem dX8_house_54 : decode cX8_house 54 = .ok (.bipush 44, 2) := by decide +kernel
theorem dX8_house_56 : decode cX8_house 56 = .ok (.invokevirtual 126, 3) := by decide +kernel
theorem dX8_house_59 : decode cX8_house 59 = .ok (.aload_n 0, 1) := by decide +kernel
theorem dX8_house_60 : decode cX8_house 60 = .ok (.getfield 22, 3) := by decide +kernel
theorem dX8_house_63 : decode cX8_house 63 = .ok (.iconst 1, 1) := by decide +kernel
theorem dX8_house_64 : decode cX8_house 64 = .ok (.aload_n 0, 1) := by decide +kernel
theorem dX8_house_65 : decode cX8_house 65 = .ok (.iconst 0, 1) := by decide +kernel
theorem dX8_house_66 : decode cX8_house 66 = .ok (.bipush 9, 2) := by decide +kernel
theorem dX8_house_68 : decode cX8_house 68 = .ok (.invokevirtual 122, 3) := by decide +kernel
theorem dX8_house_71 : decode cX8_house 71 = .ok (.iastore, 1) := by decide +kernel
theorem dX8_house_72 : decode cX8_house 72 = .ok (.aload_n 0, 1) := by decide +kernel
theorem dX8_house_73 : decode cX8_house 73 = .ok (.bipush 59, 2) := by decide +kernel
theorem dX8_house_75 : decode cX8_house 75 = .ok (.invokevirtual 126, 3) := by decide +kernel
theorem dX8_house_78 : decode cX8_house 78 = .ok (.aload_n 0, 1) := by decide +kernel
theorem dX8_house_79 : decode cX8_house 79 = .ok (.invokevirtual 135, 3) := by decide +kernel
theorem dX8_house_82 : decode cX8_house 82 = .ok (.ifCond .ne 8, 3) := by decide +kernel
theorem dX8_house_85 : decode cX8_house 85 = .ok (.aload_n 0, 1) := by decide +kernel
theorem dX8_house_86 : decode cX8_house 86 = .ok (.iconst 1, 1) := by decide +kernel
theorem dX8_house_87 : decode cX8_house 87 = .ok (.invokevirtual 105, 3) := by decide +kernel
theorem dX8_house_90 : decode cX8_house 90 = .ok (.aload_n 0, 1) := by decide +kernel
theorem dX8_house_91 : decode cX8_house 91 = .ok (.invokevirtual 135, 3) := by decide +kernel
theorem dX8_house_94 : decode cX8_house 94 = .ok (.ifCond .eq 10, 3) := by decide +kernel
theorem dX8_house_97 : decode cX8_house 97 = .ok (.aload_n 0, 1) := by decide +kernel
theorem dX8_house_98 : decode cX8_house 98 = .ok (.invokevirtual 139, 3) := by decide +kernel
theorem dX8_house_101 : decode cX8_house 101 = .ok (.goto (-11), 3) := by decide +kernel
theorem dX8_house_104 : decode cX8_house 104 = .ok (.aload_n 0, 1) := by decide +kernel
theorem dX8_house_105 : decode cX8_house 105 = .ok (.invokevirtual 142, 3) := by decide +kernel
theorem dX8_house_108 : decode cX8_house 108 = .ok (.ifCond .eq 11, 3) := by decide +kernel
theorem dX8_house_111 : decode cX8_house 111 = .ok (.ldc 145, 2) := by decide +kernel
theorem dX8_house_113 : decode cX8_house 113 = .ok (.aload_n 0, 1) := by decide +kernel
theorem dX8_house_114 : decode cX8_house 114 = .ok (.getfield 84, 3) := by decide +kernel
theorem dX8_house_117 : decode cX8_house 117 = .ok (.isub, 1) := by decide +kernel
theorem dX8_house_118 : decode cX8_house 118 = .ok (.ireturn, 1) := by decide +kernel
theorem dX8_house_119 : decode cX8_house 119 = .ok (.aload_n 0, 1) := by decide +kernel
theorem dX8_house_120 : decode cX8_house 120 = .ok (.iconst 0, 1) := by decide +kernel
theorem dX8_house_121 : decode cX8_house 121 = .ok (.putfield 146, 3) := by decide +kernel
theorem dX8_house_124 : decode cX8_house 124 = .ok (.iconst 0, 1) := by decide +kernel
theorem dX8_house_125 : decode cX8_house 125 = .ok (.istore_n 1, 1) := by decide +kernel
theorem dX8_house_126 : decode cX8_house 126 = .ok (.iload_n 1, 1) := by decide +kernel
theorem dX8_house_127 : decode cX8_house 127 = .ok (.bipush 80, 2) := by decide +kernel
theorem dX8_house_129 : decode cX8_house 129 = .ok (.if_icmp .ge 21, 3) := by decide +kernel
theorem dX8_house_132 : decode cX8_house 132 = .ok (.aload_n 0, 1) := by decide +kernel
theorem dX8_house_133 : decode cX8_house 133 = .ok (.getfield 19, 3) := by decide +kernel
theorem dX8_house_136 : decode cX8_house 136 = .ok (.iload_n 1, 1) := by decide +kernel
theorem dX8_house_137 : decode cX8_house 137 = .ok (.aload_n 0, 1) := by decide +kernel
theorem dX8_house_138 : decode cX8_house 138 = .ok (.getfield 22, 3) := by decide +kernel
theorem dX8_house_141 : decode cX8_house 141 = .ok (.iload_n 1, 1) := by decide +kernel
theorem dX8_house_142 : decode cX8_house 142 = .ok (.iaload, 1) := by decide +kernel
theorem dX8_house_143 : decode cX8_house 143 = .ok (.iastore, 1) := by decide +kernel
theorem dX8_house_144 : decode cX8_house 144 = .ok (.iinc 1 1, 3) := by decide +kernel
theorem dX8_house_147 : decode cX8_house 147 = .ok (.goto (-21), 3) := by decide +kernel
theorem dX8_house_150 : decode cX8_house 150 = .ok (.aload_n 0, 1) := by decide +kernel
theorem dX8_house_151 : decode cX8_house 151 = .ok (.getfield 19, 3) := by decide +kernel
theorem dX8_house_154 : decode cX8_house 154 = .ok (.iconst 2, 1) := by decide +kernel
theorem dX8_house_155 : decode cX8_house 155 = .ok (.iaload, 1) := by decide +kernel
theorem dX8_house_156 : decode cX8_house 156 = .ok (.ireturn, 1) := by decide +kernel
theorem dX8_isThere_0 : decode cX8_isThere 0 = .ok (.aload_n 0, 1) := by decide +kernel
theorem dX8_isThere_1 : decode cX8_isThere 1 = .ok (.getfield 19, 3) := by decide +kernel
theorem dX8_isThere_4 : decode cX8_isThere 4 = .ok (.iconst 0, 1) := by decide +kernel
theorem dX8_isThere_5 : decode cX8_isThere 5 = .ok (.iaload, 1) := by decide +kernel
theorem dX8_isThere_6 : decode cX8_isThere 6 = .ok (.ifCond .le 7, 3) := by decide +kernel
theorem dX8_isThere_9 : decode cX8_isThere 9 = .ok (.iconst 1, 1) := by decide +kernel
theorem dX8_isThere_10 : decode cX8_isThere 10 = .ok (.goto 4, 3) := by decide +kernel
theorem dX8_isThere_13 : decode cX8_isThere 13 = .ok (.iconst 0, 1) := by decide +kernel
theorem dX8_isThere_14 : decode cX8_isThere 14 = .ok (.ireturn, 1) := by decide +kernel
theorem dX8_isPipe_0 : decode cX8_isPipe 0 = .ok (.iload_n 1, 1) := by decide +kernel
theorem dX8_isPipe_1 : decode cX8_isPipe 1 = .ok (.i2l, 1) := by decide +kernel
theorem dX8_isPipe_2 : decode cX8_isPipe 2 = .ok (.lconst 0, 1) := by decide +kernel
theorem dX8_isPipe_3 : decode cX8_isPipe 3 = .ok (.aload_n 0, 1) := by decide +kernel
theorem dX8_isPipe_4 : decode cX8_isPipe 4 = .ok (.getfield 19, 3) := by decide +kernel
theorem dX8_isPipe_7 : decode cX8_isPipe 7 = .ok (.iconst 2, 1) := by decide +kernel
theorem dX8_isPipe_8 : decode cX8_isPipe 8 = .ok (.iaload, 1) := by decide +kernel
theorem dX8_isPipe_9 : decode cX8_isPipe 9 = .ok (.iconst 1, 1) := by decide +kernel
theorem dX8_isPipe_10 : decode cX8_isPipe 10 = .ok (.isub, 1) := by decide +kernel
theorem dX8_isPipe_11 : decode cX8_isPipe 11 = .ok (.i2l, 1) := by decide +kernel
theorem dX8_isPipe_12 : decode cX8_isPipe 12 = .ok (.invokestatic 57, 3) := by decide +kernel
theorem dX8_isPipe_15 : decode cX8_isPipe 15 = .ok (.ireturn, 1) := by decide +kernel
theorem dX8_isHorn_0 : decode cX8_isHorn 0 = .ok (.iload_n 1, 1) := by decide +kernel
theorem dX8_isHorn_1 : decode cX8_isHorn 1 = .ok (.i2l, 1) := by decide +kernel
theorem dX8_isHorn_2 : decode cX8_isHorn 2 = .ok (.lconst 0, 1) := by decide +kernel
theorem dX8_isHorn_3 : decode cX8_isHorn 3 = .ok (.aload_n 0, 1) := by decide +kernel
theorem dX8_isHorn_4 : decode cX8_isHorn 4 = .ok (.getfield 19, 3) := by decide +kernel
theorem dX8_isHorn_7 : decode cX8_isHorn 7 = .ok (.iconst 0, 1) := by decide +kernel
theorem dX8_isHorn_8 : decode cX8_isHorn 8 = .ok (.iaload, 1) := by decide +kernel
theorem dX8_isHorn_9 : decode cX8_isHorn 9 = .ok (.iconst 1, 1) := by decide +kernel
theorem dX8_isHorn_10 : decode cX8_isHorn 10 = .ok (.isub, 1) := by decide +kernel
theorem dX8_isHorn_11 : decode cX8_isHorn 11 = .ok (.i2l, 1) := by decide +kernel
theorem dX8_isHorn_12 : decode cX8_isHorn 12 = .ok (.invokestatic 57, 3) := by decide +kernel
theorem dX8_isHorn_15 : decode cX8_isHorn 15 = .ok (.ireturn, 1) := by decide +kernel
theorem dX8_areHorns_0 : decode cX8_areHorns 0 = .ok (.iload_n 1, 1) := by decide +kernel
theorem dX8_areHorns_1 : decode cX8_areHorns 1 = .ok (.i2l, 1) := by decide +kernel
theorem dX8_areHorns_2 : decode cX8_areHorns 2 = .ok (.lconst 0, 1) := by decide +kernel
theorem dX8_areHorns_3 : decode cX8_areHorns 3 = .ok (.iconst 1, 1) := by decide +kernel
theorem dX8_areHorns_4 : decode cX8_areHorns 4 = .ok (.aload_n 0, 1) := by decide +kernel
theorem dX8_areHorns_5 : decode cX8_areHorns 5 = .ok (.getfield 19, 3) := by decide +kernel
theorem dX8_areHorns_8 : decode cX8_areHorns 8 = .ok (.iconst 0, 1) := by decide +kernel
theorem dX8_areHorns_9 : decode cX8_areHorns 9 = .ok (.iaload, 1) := by decide +kernel
theorem dX8_areHorns_10 : decode cX8_areHorns 10 = .ok (.ishl, 1) := by decide +kernel
theorem dX8_areHorns_11 : decode cX8_areHorns 11 = .ok (.iconst 1, 1) := by decide +kernel
theorem dX8_areHorns_12 : decode cX8_areHorns 12 = .ok (.isub, 1) := by decide +kernel
theorem dX8_areHorns_13 : decode cX8_areHorns 13 = .ok (.i2l, 1) := by decide +kernel
theorem dX8_areHorns_14 : decode cX8_areHorns 14 = .ok (.invokestatic 57, 3) := by decide +kernel
theorem dX8_areHorns_17 : decode cX8_areHorns 17 = .ok (.ireturn, 1) := by decide +kernel
theorem dX8_bits_0 : decode cX8_bits 0 = .ok (.iconst 0, 1) := by decide +kernel
theorem dX8_bits_1 : decode cX8_bits 1 = .ok (.istore_n 1, 1) := by decide +kernel
theorem dX8_bits_2 : decode cX8_bits 2 = .ok (.iconst 0, 1) := by decide +kernel
theorem dX8_bits_3 : decode cX8_bits 3 = .ok (.istore_n 2, 1) := by decide +kernel
theorem dX8_bits_4 : decode cX8_bits 4 = .ok (.iload_n 2, 1) := by decide +kernel
theorem dX8_bits_5 : decode cX8_bits 5 = .ok (.bipush 7, 2) := by decide +kernel
theorem dX8_bits_7 : decode cX8_bits 7 = .ok (.if_icmp .ge 17, 3) := by decide +kernel
theorem dX8_bits_10 : decode cX8_bits 10 = .ok (.iload_n 1, 1) := by decide +kernel
theorem dX8_bits_11 : decode cX8_bits 11 = .ok (.iload_n 0, 1) := by decide +kernel
theorem dX8_bits_12 : decode cX8_bits 12 = .ok (.iload_n 2, 1) := by decide +kernel
theorem dX8_bits_13 : decode cX8_bits 13 = .ok (.ishr, 1) := by decide +kernel
theorem dX8_bits_14 : decode cX8_bits 14 = .ok (.iconst 1, 1) := by decide +kernel
theorem dX8_bits_15 : decode cX8_bits 15 = .ok (.iand, 1) := by decide +kernel
theorem dX8_bits_16 : decode cX8_bits 16 = .ok (.iadd, 1) := by decide +kernel
theorem dX8_bits_17 : decode cX8_bits 17 = .ok (.istore_n 1, 1) := by decide +kernel
theorem dX8_bits_18 : decode cX8_bits 18 = .ok (.iinc 2 1, 3) := by decide +kernel
theorem dX8_bits_21 : decode cX8_bits 21 = .ok (.goto (-17), 3) := by decide +kernel
theorem dX8_bits_24 : decode cX8_bits 24 = .ok (.iload_n 1, 1) := by decide +kernel
theorem dX8_bits_25 : decode cX8_bits 25 = .ok (.ireturn, 1) := by decide +kernel
theorem dX8_has_0 : decode cX8_has 0 = .ok (.iload_n 0, 1) := by decide +kernel
theorem dX8_has_1 : decode cX8_has 1 = .ok (.iload_n 1, 1) := by decide +kernel
theorem dX8_has_2 : decode cX8_has 2 = .ok (.ishr, 1) := by decide +kernel
theorem dX8_has_3 : decode cX8_has 3 = .ok (.iconst 1, 1) := by decide +kernel
theorem dX8_has_4 : decode cX8_has 4 = .ok (.iand, 1) := by decide +kernel
theorem dX8_has_5 : decode cX8_has 5 = .ok (.iconst 1, 1) := by decide +kernel
theorem dX8_has_6 : decode cX8_has 6 = .ok (.if_icmp .ne 7, 3) := by decide +kernel
theorem dX8_has_9 : decode cX8_has 9 = .ok (.iconst 1, 1) := by decide +kernel
theorem dX8_has_10 : decode cX8_has 10 = .ok (.goto 4, 3) := by decide +kernel
theorem dX8_has_13 : decode cX8_has 13 = .ok (.iconst 0, 1) := by decide +kernel
theorem dX8_has_14 : decode cX8_has 14 = .ok (.ireturn, 1) := by decide +kernel
theorem dX8_of_0 : decode cX8_of 0 = .ok (.aload_n 0, 1) := by decide +kernel
theorem dX8_of_1 : decode cX8_of 1 = .ok (.bipush 17, 2) := by decide +kernel
theorem dX8_of_3 : decode cX8_of 3 = .ok (.bipush 9, 2) := by decide +kernel
theorem dX8_of_5 : decode cX8_of 5 = .ok (.iload_n 1, 1) := by decide +kernel
theorem dX8_of_6 : decode cX8_of 6 = .ok (.imul, 1) := by decide +kernel
theorem dX8_of_7 : decode cX8_of 7 = .ok (.iadd, 1) := by decide +kernel
theorem dX8_of_8 : decode cX8_of 8 = .ok (.iload_n 2, 1) := by decide +kernel
theorem dX8_of_9 : decode cX8_of 9 = .ok (.iadd, 1) := by decide +kernel
theorem dX8_of_10 : decode cX8_of 10 = .ok (.iaload, 1) := by decide +kernel
theorem dX8_of_11 : decode cX8_of 11 = .ok (.ireturn, 1) := by decide +kernel
theorem dX8_out_0 : decode cX8_out 0 = .ok (.aload_n 0, 1) := by decide +kernel
theorem dX8_out_1 : decode cX8_out 1 = .ok (.iload_n 1, 1) := by decide +kernel
theorem dX8_out_2 : decode cX8_out 2 = .ok (.iconst 5, 1) := by decide +kernel
theorem dX8_out_3 : decode cX8_out 3 = .ok (.aload_n 0, 1) := by decide +kernel
theorem dX8_out_4 : decode cX8_out 4 = .ok (.iload_n 1, 1) := by decide +kernel
theorem dX8_out_5 : decode cX8_out 5 = .ok (.iconst 3, 1) := by decide +kernel
theorem dX8_out_6 : decode cX8_out 6 = .ok (.invokestatic 149, 3) := by decide +kernel
theorem dX8_out_9 : decode cX8_out 9 = .ok (.iadd, 1) := by decide +kernel
theorem dX8_out_10 : decode cX8_out 10 = .ok (.iconst 1, 1) := by decide +kernel
theorem dX8_out_11 : decode cX8_out 11 = .ok (.isub, 1) := by decide +kernel
theorem dX8_out_12 : decode cX8_out 12 = .ok (.invokestatic 149, 3) := by decide +kernel
theorem dX8_out_15 : decode cX8_out 15 = .ok (.istore_n 2, 1) := by decide +kernel
theorem dX8_out_16 : decode cX8_out 16 = .ok (.iload_n 2, 1) := by decide +kernel
theorem dX8_out_17 : decode cX8_out 17 = .ok (.ifCond .ne 5, 3) := by decide +kernel
theorem dX8_out_20 : decode cX8_out 20 = .ok (.iconst 0, 1) := by decide +kernel
theorem dX8_out_21 : decode cX8_out 21 = .ok (.ireturn, 1) := by decide +kernel
theorem dX8_out_22 : decode cX8_out 22 = .ok (.aload_n 0, 1) := by decide +kernel
theorem dX8_out_23 : decode cX8_out 23 = .ok (.iload_n 1, 1) := by decide +kernel
theorem dX8_out_24 : decode cX8_out 24 = .ok (.iconst 0, 1) := by decide +kernel
theorem dX8_out_25 : decode cX8_out 25 = .ok (.invokestatic 149, 3) := by decide +kernel
theorem dX8_out_28 : decode cX8_out 28 = .ok (.istore_n 3, 1) := by decide +kernel
theorem dX8_out_29 : decode cX8_out 29 = .ok (.aload_n 0, 1) := by decide +kernel
theorem dX8_out_30 : decode cX8_out 30 = .ok (.iload_n 1, 1) := by decide +kernel
theorem dX8_out_31 : decode cX8_out 31 = .ok (.iconst 4, 1) := by decide +kernel
theorem dX8_out_32 : decode cX8_out 32 = .ok (.invokestatic 149, 3) := by decide +kernel
theorem dX8_out_35 : decode cX8_out 35 = .ok (.istore 4, 2) := by decide +kernel
theorem dX8_out_37 : decode cX8_out 37 = .ok (.iload_n 3, 1) := by decide +kernel
theorem dX8_out_38 : decode cX8_out 38 = .ok (.iconst 2, 1) := by decide +kernel
theorem dX8_out_39 : decode cX8_out 39 = .ok (.if_icmp .eq 8, 3) := by decide +kernel
theorem dX8_out_42 : decode cX8_out 42 = .ok (.iload_n 3, 1) := by decide +kernel
theorem dX8_out_43 : decode cX8_out 43 = .ok (.iconst 5, 1) := by decide +kernel
theorem dX8_out_44 : decode cX8_out 44 = .ok (.if_icmp .ne 16, 3) := by decide +kernel
theorem dX8_out_47 : decode cX8_out 47 = .ok (.iload_n 2, 1) := by decide +kernel
theorem dX8_out_48 : decode cX8_out 48 = .ok (.bipush 100, 2) := by decide +kernel
theorem dX8_out_50 : decode cX8_out 50 = .ok (.idiv, 1) := by decide +kernel
theorem dX8_out_51 : decode cX8_out 51 = .ok (.iload 4, 2) := by decide +kernel
theorem dX8_out_53 : decode cX8_out 53 = .ok (.iadd, 1) := by decide +kernel
theorem dX8_out_54 : decode cX8_out 54 = .ok (.bipush 10, 2) := by decide +kernel
theorem dX8_out_56 : decode cX8_out 56 = .ok (.irem, 1) := by decide +kernel
theorem dX8_out_57 : decode cX8_out 57 = .ok (.goto 7, 3) := by decide +kernel
theorem dX8_out_60 : decode cX8_out 60 = .ok (.iload_n 2, 1) := by decide +kernel
theorem dX8_out_61 : decode cX8_out 61 = .ok (.bipush 100, 2) := by decide +kernel
theorem dX8_out_63 : decode cX8_out 63 = .ok (.idiv, 1) := by decide +kernel
theorem dX8_out_64 : decode cX8_out 64 = .ok (.istore 5, 2) := by decide +kernel
theorem dX8_out_66 : decode cX8_out 66 = .ok (.iload_n 2, 1) := by decide +kernel
theorem dX8_out_67 : decode cX8_out 67 = .ok (.bipush 100, 2) := by decide +kernel
theorem dX8_out_69 : decode cX8_out 69 = .ok (.irem, 1) := by decide +kernel
theorem dX8_out_70 : decode cX8_out 70 = .ok (.istore 6, 2) := by decide +kernel
theorem dX8_out_72 : decode cX8_out 72 = .ok (.iload_n 3, 1) := by decide +kernel
theorem dX8_out_73 : decode cX8_out 73 = .ok (.iconst 4, 1) := by decide +kernel
theorem dX8_out_74 : decode cX8_out 74 = .ok (.if_icmp .lt 10, 3) := by decide +kernel
theorem dX8_out_77 : decode cX8_out 77 = .ok (.iload 6, 2) := by decide +kernel
theorem dX8_out_79 : decode cX8_out 79 = .ok (.iconst 2, 1) := by decide +kernel
theorem dX8_out_80 : decode cX8_out 80 = .ok (.idiv, 1) := by decide +kernel
theorem dX8_out_81 : decode cX8_out 81 = .ok (.goto 26, 3) := by decide +kernel
theorem dX8_out_84 : decode cX8_out 84 = .ok (.iload_n 3, 1) := by decide +kernel
theorem dX8_out_85 : decode cX8_out 85 = .ok (.iconst 3, 1) := by decide +kernel
theorem dX8_out_86 : decode cX8_out 86 = .ok (.if_icmp .ne 15, 3) := by decide +kernel
theorem dX8_out_89 : decode cX8_out 89 = .ok (.iload 6, 2) := by decide +kernel
theorem dX8_out_91 : decode cX8_out 91 = .ok (.aload_n 0, 1) := by decide +kernel
theorem dX8_out_92 : decode cX8_out 92 = .ok (.iconst 1, 1) := by decide +kernel
theorem dX8_out_93 : decode cX8_out 93 = .ok (.iaload, 1) := by decide +kernel
theorem dX8_out_94 : decode cX8_out 94 = .ok (.isub, 1) := by decide +kernel
theorem dX8_out_95 : decode cX8_out 95 = .ok (.iload 4, 2) := by decide +kernel
theorem dX8_out_97 : decode cX8_out 97 = .ok (.isub, 1) := by decide +kernel
theorem dX8_out_98 : decode cX8_out 98 = .ok (.goto 9, 3) := by decide +kernel
theorem dX8_out_101 : decode cX8_out 101 = .ok (.iload 6, 2) := by decide +kernel
theorem dX8_out_103 : decode cX8_out 103 = .ok (.aload_n 0, 1) := by decide +kernel
theorem dX8_out_104 : decode cX8_out 104 = .ok (.iconst 1, 1) := by decide +kernel
theorem dX8_out_105 : decode cX8_out 105 = .ok (.iaload, 1) := by decide +kernel
theorem dX8_out_106 : decode cX8_out 106 = .ok (.isub, 1) := by decide +kernel
theorem dX8_out_107 : decode cX8_out 107 = .ok (.istore 6, 2) := by decide +kernel
theorem dX8_out_109 : decode cX8_out 109 = .ok (.iload 6, 2) := by decide +kernel
theorem dX8_out_111 : decode cX8_out 111 = .ok (.ifCond .gt 7, 3) := by decide +kernel
theorem dX8_out_114 : decode cX8_out 114 = .ok (.iconst 0, 1) := by decide +kernel
theorem dX8_out_115 : decode cX8_out 115 = .ok (.goto 11, 3) := by decide +kernel
theorem dX8_out_118 : decode cX8_out 118 = .ok (.bipush 100, 2) := by decide +kernel
theorem dX8_out_120 : decode cX8_out 120 = .ok (.iload 5, 2) := by decide +kernel
theorem dX8_out_122 : decode cX8_out 122 = .ok (.imul, 1) := by decide +kernel
theorem dX8_out_123 : decode cX8_out 123 = .ok (.iload 6, 2) := by decide +kernel
theorem dX8_out_125 : decode cX8_out 125 = .ok (.iadd, 1) := by decide +kernel
theorem dX8_out_126 : decode cX8_out 126 = .ok (.ireturn, 1) := by decide +kernel
theorem dX8_breath_0 : decode cX8_breath 0 = .ok (.iconst 0, 1) := by decide +kernel
theorem dX8_breath_1 : decode cX8_breath 1 = .ok (.istore_n 2, 1) := by decide +kernel
theorem dX8_breath_2 : decode cX8_breath 2 = .ok (.iconst 0, 1) := by decide +kernel
theorem dX8_breath_3 : decode cX8_breath 3 = .ok (.istore_n 3, 1) := by decide +kernel
theorem dX8_breath_4 : decode cX8_breath 4 = .ok (.iload_n 3, 1) := by decide +kernel
theorem dX8_breath_5 : decode cX8_breath 5 = .ok (.aload_n 1, 1) := by decide +kernel
theorem dX8_breath_6 : decode cX8_breath 6 = .ok (.iconst 0, 1) := by decide +kernel
theorem dX8_breath_7 : decode cX8_breath 7 = .ok (.iaload, 1) := by decide +kernel
theorem dX8_breath_8 : decode cX8_breath 8 = .ok (.if_icmp .ge 130, 3) := by decide +kernel
theorem dX8_breath_11 : decode cX8_breath 11 = .ok (.aload_n 0, 1) := by decide +kernel
theorem dX8_breath_12 : decode cX8_breath 12 = .ok (.getfield 34, 3) := by decide +kernel
theorem dX8_breath_15 : decode cX8_breath 15 = .ok (.iload_n 3, 1) := by decide +kernel
theorem dX8_breath_16 : decode cX8_breath 16 = .ok (.iconst 0, 1) := by decide +kernel
theorem dX8_breath_17 : decode cX8_breath 17 = .ok (.iastore, 1) := by decide +kernel
theorem dX8_breath_18 : decode cX8_breath 18 = .ok (.iconst 0, 1) := by decide +kernel
theorem dX8_breath_19 : decode cX8_breath 19 = .ok (.istore 4, 2) := by decide +kernel
theorem dX8_breath_21 : decode cX8_breath 21 = .ok (.iload 4, 2) := by decide +kernel
theorem dX8_breath_23 : decode cX8_breath 23 = .ok (.aload_n 1, 1) := by decide +kernel
theorem dX8_breath_24 : decode cX8_breath 24 = .ok (.iconst 2, 1) := by decide +kernel
theorem dX8_breath_25 : decode cX8_breath 25 = .ok (.iaload, 1) := by decide +kernel
theorem dX8_breath_26 : decode cX8_breath 26 = .ok (.if_icmp .ge 66, 3) := by decide +kernel
theorem dX8_breath_29 : decode cX8_breath 29 = .ok (.aload_n 1, 1) := by decide +kernel
theorem dX8_breath_30 : decode cX8_breath 30 = .ok (.iload 4, 2) := by decide +kernel
theorem dX8_breath_32 : decode cX8_breath 32 = .ok (.iconst 2, 1) := by decide +kernel
theorem dX8_breath_33 : decode cX8_breath 33 = .ok (.invokestatic 149, 3) := by decide +kernel
theorem dX8_breath_36 : decode cX8_breath 36 = .ok (.iload_n 3, 1) := by decide +kernel
theorem dX8_breath_37 : decode cX8_breath 37 = .ok (.if_icmp .ne 12, 3) := by decide +kernel
theorem dX8_breath_40 : decode cX8_breath 40 = .ok (.aload_n 1, 1) := by decide +kernel
theorem dX8_breath_41 : decode cX8_breath 41 = .ok (.iload 4, 2) := by decide +kernel
theorem dX8_breath_43 : decode cX8_breath 43 = .ok (.invokestatic 153, 3) := by decide +kernel
theorem dX8_breath_46 : decode cX8_breath 46 = .ok (.goto 4, 3) := by decide +kernel
theorem dX8_breath_49 : decode cX8_breath 49 = .ok (.iconst 0, 1) := by decide +kernel
theorem dX8_breath_50 : decode cX8_breath 50 = .ok (.istore 5, 2) := by decide +kernel
theorem dX8_breath_52 : decode cX8_breath 52 = .ok (.aload_n 0, 1) := by decide +kernel
theorem dX8_breath_53 : decode cX8_breath 53 = .ok (.getfield 34, 3) := by decide +kernel
theorem dX8_breath_56 : decode cX8_breath 56 = .ok (.iload_n 3, 1) := by decide +kernel
theorem dX8_breath_57 : decode cX8_breath 57 = .ok (.iload 5, 2) := by decide +kernel
theorem dX8_breath_59 : decode cX8_breath 59 = .ok (.bipush 100, 2) := by decide +kernel
theorem dX8_breath_61 : decode cX8_breath 61 = .ok (.irem, 1) := by decide +kernel
theorem dX8_breath_62 : decode cX8_breath 62 = .ok (.aload_n 0, 1) := by decide +kernel
theorem dX8_breath_63 : decode cX8_breath 63 = .ok (.getfield 34, 3) := by decide +kernel
theorem dX8_breath_66 : decode cX8_breath 66 = .ok (.iload_n 3, 1) := by decide +kernel
theorem dX8_breath_67 : decode cX8_breath 67 = .ok (.iaload, 1) := by decide +kernel
theorem dX8_breath_68 : decode cX8_breath 68 = .ok (.bipush 100, 2) := by decide +kernel
theorem dX8_breath_70 : decode cX8_breath 70 = .ok (.irem, 1) := by decide +kernel
theorem dX8_breath_71 : decode cX8_breath 71 = .ok (.if_icmp .le 8, 3) := by decide +kernel
theorem dX8_breath_74 : decode cX8_breath 74 = .ok (.iload 5, 2) := by decide +kernel
theorem dX8_breath_76 : decode cX8_breath 76 = .ok (.goto 9, 3) := by decide +kernel
theorem dX8_breath_79 : decode cX8_breath 79 = .ok (.aload_n 0, 1) := by decide +kernel
theorem dX8_breath_80 : decode cX8_breath 80 = .ok (.getfield 34, 3) := by decide +kernel
theorem dX8_breath_83 : decode cX8_breath 83 = .ok (.iload_n 3, 1) := by decide +kernel
theorem dX8_breath_84 : decode cX8_breath 84 = .ok (.iaload, 1) := by decide +kernel
theorem dX8_breath_85 : decode cX8_breath 85 = .ok (.iastore, 1) := by decide +kernel
theorem dX8_breath_86 : decode cX8_breath 86 = .ok (.iinc 4 1, 3) := by decide +kernel
theorem dX8_breath_89 : decode cX8_breath 89 = .ok (.goto (-68), 3) := by decide +kernel
theorem dX8_breath_92 : decode cX8_breath 92 = .ok (.aload_n 0, 1) := by decide +kernel
theorem dX8_breath_93 : decode cX8_breath 93 = .ok (.getfield 34, 3) := by decide +kernel
theorem dX8_breath_96 : decode cX8_breath 96 = .ok (.iload_n 3, 1) := by decide +kernel
theorem dX8_breath_97 : decode cX8_breath 97 = .ok (.iaload, 1) := by decide +kernel
theorem dX8_breath_98 : decode cX8_breath 98 = .ok (.ifCond .le 34, 3) := by decide +kernel
theorem dX8_breath_101 : decode cX8_breath 101 = .ok (.iload_n 2, 1) := by decide +kernel
theorem dX8_breath_102 : decode cX8_breath 102 = .ok (.iconst 1, 1) := by decide +kernel
theorem dX8_breath_103 : decode cX8_breath 103 = .ok (.iload_n 3, 1) := by decide +kernel
theorem dX8_breath_104 : decode cX8_breath 104 = .ok (.ishl, 1) := by decide +kernel
theorem dX8_breath_105 : decode cX8_breath 105 = .ok (.ior, 1) := by decide +kernel
theorem dX8_breath_106 : decode cX8_breath 106 = .ok (.istore_n 2, 1) := by decide +kernel
theorem dX8_breath_107 : decode cX8_breath 107 = .ok (.aload_n 1, 1) := by decide +kernel
theorem dX8_breath_108 : decode cX8_breath 108 = .ok (.iconst 5, 1) := by decide +kernel
theorem dX8_breath_109 : decode cX8_breath 109 = .ok (.iconst 2, 1) := by decide +kernel
theorem dX8_breath_110 : decode cX8_breath 110 = .ok (.iload_n 3, 1) := by decide +kernel
theorem dX8_breath_111 : decode cX8_breath 111 = .ok (.imul, 1) := by decide +kernel
theorem dX8_breath_112 : decode cX8_breath 112 = .ok (.iadd, 1) := by decide +kernel
theorem dX8_breath_113 : decode cX8_breath 113 = .ok (.aload_n 0, 1) := by decide +kernel
theorem dX8_breath_114 : decode cX8_breath 114 = .ok (.getfield 34, 3) := by decide +kernel
theorem dX8_breath_117 : decode cX8_breath 117 = .ok (.iload_n 3, 1) := by decide +kernel
theorem dX8_breath_118 : decode cX8_breath 118 = .ok (.iaload, 1) := by decide +kernel
theorem dX8_breath_119 : decode cX8_breath 119 = .ok (.iastore, 1) := by decide +kernel
theorem dX8_breath_120 : decode cX8_breath 120 = .ok (.aload_n 1, 1) := by decide +kernel
theorem dX8_breath_121 : decode cX8_breath 121 = .ok (.iconst 5, 1) := by decide +kernel
theorem dX8_breath_122 : decode cX8_breath 122 = .ok (.iconst 2, 1) := by decide +kernel
theorem dX8_breath_123 : decode cX8_breath 123 = .ok (.iload_n 3, 1) := by decide +kernel
theorem dX8_breath_124 : decode cX8_breath 124 = .ok (.imul, 1) := by decide +kernel
theorem dX8_breath_125 : decode cX8_breath 125 = .ok (.iadd, 1) := by decide +kernel
theorem dX8_breath_126 : decode cX8_breath 126 = .ok (.iconst 1, 1) := by decide +kernel
theorem dX8_breath_127 : decode cX8_breath 127 = .ok (.iadd, 1) := by decide +kernel
theorem dX8_breath_128 : decode cX8_breath 128 = .ok (.aload_n 1, 1) := by decide +kernel
theorem dX8_breath_129 : decode cX8_breath 129 = .ok (.iconst 3, 1) := by decide +kernel
theorem dX8_breath_130 : decode cX8_breath 130 = .ok (.iaload, 1) := by decide +kernel
theorem dX8_breath_131 : decode cX8_breath 131 = .ok (.iastore, 1) := by decide +kernel
theorem dX8_breath_132 : decode cX8_breath 132 = .ok (.iinc 3 1, 3) := by decide +kernel
theorem dX8_breath_135 : decode cX8_breath 135 = .ok (.goto (-131), 3) := by decide +kernel
theorem dX8_breath_138 : decode cX8_breath 138 = .ok (.iconst 0, 1) := by decide +kernel
theorem dX8_breath_139 : decode cX8_breath 139 = .ok (.istore_n 3, 1) := by decide +kernel
theorem dX8_breath_140 : decode cX8_breath 140 = .ok (.iload_n 3, 1) := by decide +kernel
theorem dX8_breath_141 : decode cX8_breath 141 = .ok (.aload_n 1, 1) := by decide +kernel
theorem dX8_breath_142 : decode cX8_breath 142 = .ok (.iconst 2, 1) := by decide +kernel
theorem dX8_breath_143 : decode cX8_breath 143 = .ok (.iaload, 1) := by decide +kernel
theorem dX8_breath_144 : decode cX8_breath 144 = .ok (.if_icmp .ge 86, 3) := by decide +kernel
theorem dX8_breath_147 : decode cX8_breath 147 = .ok (.bipush 17, 2) := by decide +kernel
theorem dX8_breath_149 : decode cX8_breath 149 = .ok (.bipush 9, 2) := by decide +kernel
theorem dX8_breath_151 : decode cX8_breath 151 = .ok (.iload_n 3, 1) := by decide +kernel
theorem dX8_breath_152 : decode cX8_breath 152 = .ok (.imul, 1) := by decide +kernel
theorem dX8_breath_153 : decode cX8_breath 153 = .ok (.iadd, 1) := by decide +kernel
theorem dX8_breath_154 : decode cX8_breath 154 = .ok (.iconst 5, 1) := by decide +kernel
theorem dX8_breath_155 : decode cX8_breath 155 = .ok (.iadd, 1) := by decide +kernel
theorem dX8_breath_156 : decode cX8_breath 156 = .ok (.istore 4, 2) := by decide +kernel
theorem dX8_breath_158 : decode cX8_breath 158 = .ok (.aload_n 1, 1) := by decide +kernel
theorem dX8_breath_159 : decode cX8_breath 159 = .ok (.iload_n 3, 1) := by decide +kernel
theorem dX8_breath_160 : decode cX8_breath 160 = .ok (.iconst 3, 1) := by decide +kernel
theorem dX8_breath_161 : decode cX8_breath 161 = .ok (.invokestatic 149, 3) := by decide +kernel
theorem dX8_breath_164 : decode cX8_breath 164 = .ok (.iconst 1, 1) := by decide +kernel
theorem dX8_breath_165 : decode cX8_breath 165 = .ok (.isub, 1) := by decide +kernel
theorem dX8_breath_166 : decode cX8_breath 166 = .ok (.istore 5, 2) := by decide +kernel
theorem dX8_breath_168 : decode cX8_breath 168 = .ok (.iload 5, 2) := by decide +kernel
theorem dX8_breath_170 : decode cX8_breath 170 = .ok (.ifCond .le 25, 3) := by decide +kernel
theorem dX8_breath_173 : decode cX8_breath 173 = .ok (.aload_n 1, 1) := by decide +kernel
theorem dX8_breath_174 : decode cX8_breath 174 = .ok (.iload 4, 2) := by decide +kernel
theorem dX8_breath_176 : decode cX8_breath 176 = .ok (.iload 5, 2) := by decide +kernel
theorem dX8_breath_178 : decode cX8_breath 178 = .ok (.iadd, 1) := by decide +kernel
theorem dX8_breath_179 : decode cX8_breath 179 = .ok (.aload_n 1, 1) := by decide +kernel
theorem dX8_breath_180 : decode cX8_breath 180 = .ok (.iload 4, 2) := by decide +kernel
theorem dX8_breath_182 : decode cX8_breath 182 = .ok (.iload 5, 2) := by decide +kernel
theorem dX8_breath_184 : decode cX8_breath 184 = .ok (.iadd, 1) := by decide +kernel
theorem dX8_breath_185 : decode cX8_breath 185 = .ok (.iconst 1, 1) := by decide +kernel
theorem dX8_breath_186 : decode cX8_breath 186 = .ok (.isub, 1) := by decide +kernel
theorem dX8_breath_187 : decode cX8_breath 187 = .ok (.iaload, 1) := by decide +kernel
theorem dX8_breath_188 : decode cX8_breath 188 = .ok (.iastore, 1) := by decide +kernel
theorem dX8_breath_189 : decode cX8_breath 189 = .ok (.iinc 5 (-1), 3) := by decide +kernel
theorem dX8_breath_192 : decode cX8_breath 192 = .ok (.goto (-24), 3) := by decide +kernel
theorem dX8_breath_195 : decode cX8_breath 195 = .ok (.aload_n 1, 1) := by decide +kernel
theorem dX8_breath_196 : decode cX8_breath 196 = .ok (.iload 4, 2) := by decide +kernel
theorem dX8_breath_198 : decode cX8_breath 198 = .ok (.aload_n 1, 1) := by decide +kernel
theorem dX8_breath_199 : decode cX8_breath 199 = .ok (.iconst 4, 1) := by decide +kernel
theorem dX8_breath_200 : decode cX8_breath 200 = .ok (.iaload, 1) := by decide +kernel
theorem dX8_breath_201 : decode cX8_breath 201 = .ok (.iload_n 3, 1) := by decide +kernel
theorem dX8_breath_202 : decode cX8_breath 202 = .ok (.invokestatic 157, 3) := by decide +kernel
theorem dX8_breath_205 : decode cX8_breath 205 = .ok (.ifCond .eq 17, 3) := by decide +kernel
theorem dX8_breath_208 : decode cX8_breath 208 = .ok (.aload_n 0, 1) := by decide +kernel
theorem dX8_breath_209 : decode cX8_breath 209 = .ok (.getfield 34, 3) := by decide +kernel
theorem dX8_breath_212 : decode cX8_breath 212 = .ok (.aload_n 1, 1) := by decide +kernel
theorem dX8_breath_213 : decode cX8_breath 213 = .ok (.iload_n 3, 1) := by decide +kernel
theorem dX8_breath_214 : decode cX8_breath 214 = .ok (.iconst 1, 1) := by decide +kernel
theorem dX8_breath_215 : decode cX8_breath 215 = .ok (.invokestatic 149, 3) := by decide +kernel
theorem dX8_breath_218 : decode cX8_breath 218 = .ok (.iaload, 1) := by decide +kernel
theorem dX8_breath_219 : decode cX8_breath 219 = .ok (.goto 4, 3) := by decide +kernel
theorem dX8_breath_222 : decode cX8_breath 222 = .ok (.iconst 0, 1) := by decide +kernel
theorem dX8_breath_223 : decode cX8_breath 223 = .ok (.iastore, 1) := by decide +kernel
theorem dX8_breath_224 : decode cX8_breath 224 = .ok (.iinc 3 1, 3) := by decide +kernel
theorem dX8_breath_227 : decode cX8_breath 227 = .ok (.goto (-87), 3) := by decide +kernel
theorem dX8_breath_230 : decode cX8_breath 230 = .ok (.aload_n 1, 1) := by decide +kernel
theorem dX8_breath_231 : decode cX8_breath 231 = .ok (.iconst 3, 1) := by decide +kernel
theorem dX8_breath_232 : decode cX8_breath 232 = .ok (.dup2, 1) := by decide +kernel
theorem dX8_breath_233 : decode cX8_breath 233 = .ok (.iaload, 1) := by decide +kernel
theorem dX8_breath_234 : decode cX8_breath 234 = .ok (.iconst 1, 1) := by decide +kernel
theorem dX8_breath_235 : decode cX8_breath 235 = .ok (.iadd, 1) := by decide +kernel
theorem dX8_breath_236 : decode cX8_breath 236 = .ok (.iastore, 1) := by decide +kernel
theorem dX8_breath_237 : decode cX8_breath 237 = .ok (.iload_n 2, 1) := by decide +kernel
theorem dX8_breath_238 : decode cX8_breath 238 = .ok (.ireturn, 1) := by decide +kernel
theorem dX8_speech_0 : decode cX8_speech 0 = .ok (.iconst 0, 1) := by decide +kernel
theorem dX8_speech_1 : decode cX8_speech 1 = .ok (.istore 4, 2) := by decide +kernel
theorem dX8_speech_3 : decode cX8_speech 3 = .ok (.iconst 0, 1) := by decide +kernel
theorem dX8_speech_4 : decode cX8_speech 4 = .ok (.istore 5, 2) := by decide +kernel
theorem dX8_speech_6 : decode cX8_speech 6 = .ok (.iload 5, 2) := by decide +kernel
theorem dX8_speech_8 : decode cX8_speech 8 = .ok (.aload_n 0, 1) := by decide +kernel
theorem dX8_speech_9 : decode cX8_speech 9 = .ok (.iconst 2, 1) := by decide +kernel
theorem dX8_speech_10 : decode cX8_speech 10 = .ok (.iaload, 1) := by decide +kernel
theorem dX8_speech_11 : decode cX8_speech 11 = .ok (.if_icmp .ge 66, 3) := by decide +kernel
theorem dX8_speech_14 : decode cX8_speech 14 = .ok (.aload_n 0, 1) := by decide +kernel
theorem dX8_speech_15 : decode cX8_speech 15 = .ok (.iload 5, 2) := by decide +kernel
theorem dX8_speech_17 : decode cX8_speech 17 = .ok (.iconst 1, 1) := by decide +kernel
theorem dX8_speech_18 : decode cX8_speech 18 = .ok (.invokestatic 149, 3) := by decide +kernel
theorem dX8_speech_21 : decode cX8_speech 21 = .ok (.iload_n 1, 1) := by decide +kernel
theorem dX8_speech_22 : decode cX8_speech 22 = .ok (.if_icmp .ne 49, 3) := by decide +kernel
theorem dX8_speech_25 : decode cX8_speech 25 = .ok (.aload_n 0, 1) := by decide +kernel
theorem dX8_speech_26 : decode cX8_speech 26 = .ok (.iconst 4, 1) := by decide +kernel
theorem dX8_speech_27 : decode cX8_speech 27 = .ok (.iaload, 1) := by decide +kernel
theorem dX8_speech_28 : decode cX8_speech 28 = .ok (.iload 5, 2) := by decide +kernel
theorem dX8_speech_30 : decode cX8_speech 30 = .ok (.invokestatic 157, 3) := by decide +kernel
theorem dX8_speech_33 : decode cX8_speech 33 = .ok (.ifCond .eq 38, 3) := by decide +kernel
theorem dX8_speech_36 : decode cX8_speech 36 = .ok (.aload_n 0, 1) := by decide +kernel
theorem dX8_speech_37 : decode cX8_speech 37 = .ok (.iload 5, 2) := by decide +kernel
theorem dX8_speech_39 : decode cX8_speech 39 = .ok (.iconst 5, 1) := by decide +kernel
theorem dX8_speech_40 : decode cX8_speech 40 = .ok (.invokestatic 149, 3) := by decide +kernel
theorem dX8_speech_43 : decode cX8_speech 43 = .ok (.bipush 100, 2) := by decide +kernel
theorem dX8_speech_45 : decode cX8_speech 45 = .ok (.irem, 1) := by decide +kernel
theorem dX8_speech_46 : decode cX8_speech 46 = .ok (.iload_n 3, 1) := by decide +kernel
theorem dX8_speech_47 : decode cX8_speech 47 = .ok (.if_icmp .ge 24, 3) := by decide +kernel
theorem dX8_speech_50 : decode cX8_speech 50 = .ok (.aload_n 0, 1) := by decide +kernel
theorem dX8_speech_51 : decode cX8_speech 51 = .ok (.bipush 17, 2) := by decide +kernel
theorem dX8_speech_53 : decode cX8_speech 53 = .ok (.bipush 9, 2) := by decide +kernel
theorem dX8_speech_55 : decode cX8_speech 55 = .ok (.iload 5, 2) := by decide +kernel
theorem dX8_speech_57 : decode cX8_speech 57 = .ok (.imul, 1) := by decide +kernel
theorem dX8_speech_58 : decode cX8_speech 58 = .ok (.iadd, 1) := by decide +kernel
theorem dX8_speech_59 : decode cX8_speech 59 = .ok (.iconst 5, 1) := by decide +kernel
theorem dX8_speech_60 : decode cX8_speech 60 = .ok (.iadd, 1) := by decide +kernel
theorem dX8_speech_61 : decode cX8_speech 61 = .ok (.bipush 100, 2) := by decide +kernel
theorem dX8_speech_63 : decode cX8_speech 63 = .ok (.iload_n 2, 1) := by decide +kernel
theorem dX8_speech_64 : decode cX8_speech 64 = .ok (.imul, 1) := by decide +kernel
theorem dX8_speech_65 : decode cX8_speech 65 = .ok (.iload_n 3, 1) := by decide +kernel
theorem dX8_speech_66 : decode cX8_speech 66 = .ok (.iadd, 1) := by decide +kernel
theorem dX8_speech_67 : decode cX8_speech 67 = .ok (.iastore, 1) := by decide +kernel
theorem dX8_speech_68 : decode cX8_speech 68 = .ok (.iinc 4 1, 3) := by decide +kernel
theorem dX8_speech_71 : decode cX8_speech 71 = .ok (.iinc 5 1, 3) := by decide +kernel
theorem dX8_speech_74 : decode cX8_speech 74 = .ok (.goto (-68), 3) := by decide +kernel
theorem dX8_speech_77 : decode cX8_speech 77 = .ok (.iload 4, 2) := by decide +kernel
theorem dX8_speech_79 : decode cX8_speech 79 = .ok (.ireturn, 1) := by decide +kernel
theorem dX8_soundsIn_0 : decode cX8_soundsIn 0 = .ok (.iconst 0, 1) := by decide +kernel
theorem dX8_soundsIn_1 : decode cX8_soundsIn 1 = .ok (.istore_n 2, 1) := by decide +kernel
theorem dX8_soundsIn_2 : decode cX8_soundsIn 2 = .ok (.iconst 0, 1) := by decide +kernel
theorem dX8_soundsIn_3 : decode cX8_soundsIn 3 = .ok (.istore_n 3, 1) := by decide +kernel
theorem dX8_soundsIn_4 : decode cX8_soundsIn 4 = .ok (.iload_n 3, 1) := by decide +kernel
theorem dX8_soundsIn_5 : decode cX8_soundsIn 5 = .ok (.aload_n 0, 1) := by decide +kernel
theorem dX8_soundsIn_6 : decode cX8_soundsIn 6 = .ok (.iload_n 1, 1) := by decide +kernel
theorem dX8_soundsIn_7 : decode cX8_soundsIn 7 = .ok (.iconst 3, 1) := by decide +kernel
theorem dX8_soundsIn_8 : decode cX8_soundsIn 8 = .ok (.invokestatic 149, 3) := by decide +kernel
theorem dX8_soundsIn_11 : decode cX8_soundsIn 11 = .ok (.if_icmp .ge 28, 3) := by decide +kernel
theorem dX8_soundsIn_14 : decode cX8_soundsIn 14 = .ok (.iload_n 2, 1) := by decide +kernel
theorem dX8_soundsIn_15 : decode cX8_soundsIn 15 = .ok (.aload_n 0, 1) := by decide +kernel
theorem dX8_soundsIn_16 : decode cX8_soundsIn 16 = .ok (.iload_n 1, 1) := by decide +kernel
theorem dX8_soundsIn_17 : decode cX8_soundsIn 17 = .ok (.iconst 5, 1) := by decide +kernel
theorem dX8_soundsIn_18 : decode cX8_soundsIn 18 = .ok (.iload_n 3, 1) := by decide +kernel
theorem dX8_soundsIn_19 : decode cX8_soundsIn 19 = .ok (.iadd, 1) := by decide +kernel
theorem dX8_soundsIn_20 : decode cX8_soundsIn 20 = .ok (.invokestatic 149, 3) := by decide +kernel
theorem dX8_soundsIn_23 : decode cX8_soundsIn 23 = .ok (.ifCond .le 7, 3) := by decide +kernel
theorem dX8_soundsIn_26 : decode cX8_soundsIn 26 = .ok (.iconst 1, 1) := by decide +kernel
theorem dX8_soundsIn_27 : decode cX8_soundsIn 27 = .ok (.goto 4, 3) := by decide +kernel
theorem dX8_soundsIn_30 : decode cX8_soundsIn 30 = .ok (.iconst 0, 1) := by decide +kernel
theorem dX8_soundsIn_31 : decode cX8_soundsIn 31 = .ok (.iadd, 1) := by decide +kernel
theorem dX8_soundsIn_32 : decode cX8_soundsIn 32 = .ok (.istore_n 2, 1) := by decide +kernel
theorem dX8_soundsIn_33 : decode cX8_soundsIn 33 = .ok (.iinc 3 1, 3) := by decide +kernel
theorem dX8_soundsIn_36 : decode cX8_soundsIn 36 = .ok (.goto (-32), 3) := by decide +kernel
theorem dX8_soundsIn_39 : decode cX8_soundsIn 39 = .ok (.iload_n 2, 1) := by decide +kernel
theorem dX8_soundsIn_40 : decode cX8_soundsIn 40 = .ok (.ireturn, 1) := by decide +kernel
theorem dX8_sounds_0 : decode cX8_sounds 0 = .ok (.iconst 0, 1) := by decide +kernel
theorem dX8_sounds_1 : decode cX8_sounds 1 = .ok (.istore_n 1, 1) := by decide +kernel
theorem dX8_sounds_2 : decode cX8_sounds 2 = .ok (.iconst 0, 1) := by decide +kernel
theorem dX8_sounds_3 : decode cX8_sounds 3 = .ok (.istore_n 2, 1) := by decide +kernel
theorem dX8_sounds_4 : decode cX8_sounds 4 = .ok (.iload_n 2, 1) := by decide +kernel
theorem dX8_sounds_5 : decode cX8_sounds 5 = .ok (.aload_n 0, 1) := by decide +kernel
theorem dX8_sounds_6 : decode cX8_sounds 6 = .ok (.iconst 2, 1) := by decide +kernel
theorem dX8_sounds_7 : decode cX8_sounds 7 = .ok (.iaload, 1) := by decide +kernel
theorem dX8_sounds_8 : decode cX8_sounds 8 = .ok (.if_icmp .ge 17, 3) := by decide +kernel
theorem dX8_sounds_11 : decode cX8_sounds 11 = .ok (.iload_n 1, 1) := by decide +kernel
theorem dX8_sounds_12 : decode cX8_sounds 12 = .ok (.aload_n 0, 1) := by decide +kernel
theorem dX8_sounds_13 : decode cX8_sounds 13 = .ok (.iload_n 2, 1) := by decide +kernel
theorem dX8_sounds_14 : decode cX8_sounds 14 = .ok (.invokestatic 161, 3) := by decide +kernel
theorem dX8_sounds_17 : decode cX8_sounds 17 = .ok (.iadd, 1) := by decide +kernel
theorem dX8_sounds_18 : decode cX8_sounds 18 = .ok (.istore_n 1, 1) := by decide +kernel
theorem dX8_sounds_19 : decode cX8_sounds 19 = .ok (.iinc 2 1, 3) := by decide +kernel
theorem dX8_sounds_22 : decode cX8_sounds 22 = .ok (.goto (-18), 3) := by decide +kernel
theorem dX8_sounds_25 : decode cX8_sounds 25 = .ok (.iload_n 1, 1) := by decide +kernel
theorem dX8_sounds_26 : decode cX8_sounds 26 = .ok (.ireturn, 1) := by decide +kernel
theorem dX8_silence_0 : decode cX8_silence 0 = .ok (.aload_n 0, 1) := by decide +kernel
theorem dX8_silence_1 : decode cX8_silence 1 = .ok (.invokestatic 164, 3) := by decide +kernel
theorem dX8_silence_4 : decode cX8_silence 4 = .ok (.istore_n 1, 1) := by decide +kernel
theorem dX8_silence_5 : decode cX8_silence 5 = .ok (.iconst 0, 1) := by decide +kernel
theorem dX8_silence_6 : decode cX8_silence 6 = .ok (.istore_n 2, 1) := by decide +kernel
theorem dX8_silence_7 : decode cX8_silence 7 = .ok (.iload_n 2, 1) := by decide +kernel
theorem dX8_silence_8 : decode cX8_silence 8 = .ok (.aload_n 0, 1) := by decide +kernel
theorem dX8_silence_9 : decode cX8_silence 9 = .ok (.iconst 2, 1) := by decide +kernel
theorem dX8_silence_10 : decode cX8_silence 10 = .ok (.iaload, 1) := by decide +kernel
theorem dX8_silence_11 : decode cX8_silence 11 = .ok (.if_icmp .ge 36, 3) := by decide +kernel
theorem dX8_silence_14 : decode cX8_silence 14 = .ok (.iconst 0, 1) := by decide +kernel
theorem dX8_silence_15 : decode cX8_silence 15 = .ok (.istore_n 3, 1) := by decide +kernel
theorem dX8_silence_16 : decode cX8_silence 16 = .ok (.iload_n 3, 1) := by decide +kernel
theorem dX8_silence_17 : decode cX8_silence 17 = .ok (.iconst 4, 1) := by decide +kernel
theorem dX8_silence_18 : decode cX8_silence 18 = .ok (.if_icmp .ge 23, 3) := by decide +kernel
theorem dX8_silence_21 : decode cX8_silence 21 = .ok (.aload_n 0, 1) := by decide +kernel
theorem dX8_silence_22 : decode cX8_silence 22 = .ok (.bipush 17, 2) := by decide +kernel
theorem dX8_silence_24 : decode cX8_silence 24 = .ok (.bipush 9, 2) := by decide +kernel
theorem dX8_silence_26 : decode cX8_silence 26 = .ok (.iload_n 2, 1) := by decide +kernel
theorem dX8_silence_27 : decode cX8_silence 27 = .ok (.imul, 1) := by decide +kernel
theorem dX8_silence_28 : decode cX8_silence 28 = .ok (.iadd, 1) := by decide +kernel
theorem dX8_silence_29 : decode cX8_silence 29 = .ok (.iconst 5, 1) := by decide +kernel
theorem dX8_silence_30 : decode cX8_silence 30 = .ok (.iadd, 1) := by decide +kernel
theorem dX8_silence_31 : decode cX8_silence 31 = .ok (.iload_n 3, 1) := by decide +kernel
theorem dX8_silence_32 : decode cX8_silence 32 = .ok (.iadd, 1) := by decide +kernel
theorem dX8_silence_33 : decode cX8_silence 33 = .ok (.iconst 0, 1) := by decide +kernel
theorem dX8_silence_34 : decode cX8_silence 34 = .ok (.iastore, 1) := by decide +kernel
theorem dX8_silence_35 : decode cX8_silence 35 = .ok (.iinc 3 1, 3) := by decide +kernel
theorem dX8_silence_38 : decode cX8_silence 38 = .ok (.goto (-22), 3) := by decide +kernel
theorem dX8_silence_41 : decode cX8_silence 41 = .ok (.iinc 2 1, 3) := by decide +kernel
theorem dX8_silence_44 : decode cX8_silence 44 = .ok (.goto (-37), 3) := by decide +kernel
theorem dX8_silence_47 : decode cX8_silence 47 = .ok (.iload_n 1, 1) := by decide +kernel
theorem dX8_silence_48 : decode cX8_silence 48 = .ok (.ireturn, 1) := by decide +kernel
theorem dX8_layThen_0 : decode cX8_layThen 0 = .ok (.iconst 0, 1) := by decide +kernel
theorem dX8_layThen_1 : decode cX8_layThen 1 = .ok (.istore_n 1, 1) := by decide +kernel
theorem dX8_layThen_2 : decode cX8_layThen 2 = .ok (.iload_n 1, 1) := by decide +kernel
theorem dX8_layThen_3 : decode cX8_layThen 3 = .ok (.bipush 80, 2) := by decide +kernel
theorem dX8_layThen_5 : decode cX8_layThen 5 = .ok (.if_icmp .ge 21, 3) := by decide +kernel
theorem dX8_layThen_8 : decode cX8_layThen 8 = .ok (.aload_n 0, 1) := by decide +kernel
theorem dX8_layThen_9 : decode cX8_layThen 9 = .ok (.getfield 25, 3) := by decide +kernel
theorem dX8_layThen_12 : decode cX8_layThen 12 = .ok (.iload_n 1, 1) := by decide +kernel
theorem dX8_layThen_13 : decode cX8_layThen 13 = .ok (.aload_n 0, 1) := by decide +kernel
theorem dX8_layThen_14 : decode cX8_layThen 14 = .ok (.getfield 19, 3) := by decide +kernel
theorem dX8_layThen_17 : decode cX8_layThen 17 = .ok (.iload_n 1, 1) := by decide +kernel
theorem dX8_layThen_18 : decode cX8_layThen 18 = .ok (.iaload, 1) := by decide +kernel
theorem dX8_layThen_19 : decode cX8_layThen 19 = .ok (.iastore, 1) := by decide +kernel
theorem dX8_layThen_20 : decode cX8_layThen 20 = .ok (.iinc 1 1, 3) := by decide +kernel
theorem dX8_layThen_23 : decode cX8_layThen 23 = .ok (.goto (-21), 3) := by decide +kernel
theorem dX8_layThen_26 : decode cX8_layThen 26 = .ok (.return_, 1) := by decide +kernel
theorem dX8_hearersIn_0 : decode cX8_hearersIn 0 = .ok (.iconst 0, 1) := by decide +kernel
theorem dX8_hearersIn_1 : decode cX8_hearersIn 1 = .ok (.istore_n 2, 1) := by decide +kernel
theorem dX8_hearersIn_2 : decode cX8_hearersIn 2 = .ok (.iconst 0, 1) := by decide +kernel
theorem dX8_hearersIn_3 : decode cX8_hearersIn 3 = .ok (.istore_n 3, 1) := by decide +kernel
theorem dX8_hearersIn_4 : decode cX8_hearersIn 4 = .ok (.iload_n 3, 1) := by decide +kernel
theorem dX8_hearersIn_5 : decode cX8_hearersIn 5 = .ok (.iload_n 1, 1) := by decide +kernel
theorem dX8_hearersIn_6 : decode cX8_hearersIn 6 = .ok (.if_icmp .ge 20, 3) := by decide +kernel
theorem dX8_hearersIn_9 : decode cX8_hearersIn 9 = .ok (.iload_n 2, 1) := by decide +kernel
theorem dX8_hearersIn_10 : decode cX8_hearersIn 10 = .ok (.aload_n 0, 1) := by decide +kernel
theorem dX8_hearersIn_11 : decode cX8_hearersIn 11 = .ok (.aload_n 0, 1) := by decide +kernel
theorem dX8_hearersIn_12 : decode cX8_hearersIn 12 = .ok (.getfield 25, 3) := by decide +kernel
theorem dX8_hearersIn_15 : decode cX8_hearersIn 15 = .ok (.invokevirtual 168, 3) := by decide +kernel
theorem dX8_hearersIn_18 : decode cX8_hearersIn 18 = .ok (.ior, 1) := by decide +kernel
theorem dX8_hearersIn_19 : decode cX8_hearersIn 19 = .ok (.istore_n 2, 1) := by decide +kernel
theorem dX8_hearersIn_20 : decode cX8_hearersIn 20 = .ok (.iinc 3 1, 3) := by decide +kernel
theorem dX8_hearersIn_23 : decode cX8_hearersIn 23 = .ok (.goto (-19), 3) := by decide +kernel
theorem dX8_hearersIn_26 : decode cX8_hearersIn 26 = .ok (.iload_n 2, 1) := by decide +kernel
theorem dX8_hearersIn_27 : decode cX8_hearersIn 27 = .ok (.ireturn, 1) := by decide +kernel
theorem dX8_keep_0 : decode cX8_keep 0 = .ok (.aload_n 0, 1) := by decide +kernel
theorem dX8_keep_1 : decode cX8_keep 1 = .ok (.getfield 146, 3) := by decide +kernel
theorem dX8_keep_4 : decode cX8_keep 4 = .ok (.bipush 24, 2) := by decide +kernel
theorem dX8_keep_6 : decode cX8_keep 6 = .ok (.if_icmp .ne 43, 3) := by decide +kernel
theorem dX8_keep_9 : decode cX8_keep 9 = .ok (.iconst 0, 1) := by decide +kernel
theorem dX8_keep_10 : decode cX8_keep 10 = .ok (.istore_n 1, 1) := by decide +kernel
theorem dX8_keep_11 : decode cX8_keep 11 = .ok (.iload_n 1, 1) := by decide +kernel
theorem dX8_keep_12 : decode cX8_keep 12 = .ok (.sipush 1840, 3) := by decide +kernel
theorem dX8_keep_15 : decode cX8_keep 15 = .ok (.if_icmp .ge 24, 3) := by decide +kernel
theorem dX8_keep_18 : decode cX8_keep 18 = .ok (.aload_n 0, 1) := by decide +kernel
theorem dX8_keep_19 : decode cX8_keep 19 = .ok (.getfield 28, 3) := by decide +kernel
theorem dX8_keep_22 : decode cX8_keep 22 = .ok (.iload_n 1, 1) := by decide +kernel
theorem dX8_keep_23 : decode cX8_keep 23 = .ok (.aload_n 0, 1) := by decide +kernel
theorem dX8_keep_24 : decode cX8_keep 24 = .ok (.getfield 28, 3) := by decide +kernel
theorem dX8_keep_27 : decode cX8_keep 27 = .ok (.iload_n 1, 1) := by decide +kernel
theorem dX8_keep_28 : decode cX8_keep 28 = .ok (.bipush 80, 2) := by decide +kernel
theorem dX8_keep_30 : decode cX8_keep 30 = .ok (.iadd, 1) := by decide +kernel
theorem dX8_keep_31 : decode cX8_keep 31 = .ok (.iaload, 1) := by decide +kernel
theorem dX8_keep_32 : decode cX8_keep 32 = .ok (.iastore, 1) := by decide +kernel
theorem dX8_keep_33 : decode cX8_keep 33 = .ok (.iinc 1 1, 3) := by decide +kernel
theorem dX8_keep_36 : decode cX8_keep 36 = .ok (.goto (-25), 3) := by decide +kernel
theorem dX8_keep_39 : decode cX8_keep 39 = .ok (.aload_n 0, 1) := by decide +kernel
theorem dX8_keep_40 : decode cX8_keep 40 = .ok (.dup, 1) := by decide +kernel
theorem dX8_keep_41 : decode cX8_keep 41 = .ok (.getfield 146, 3) := by decide +kernel
theorem dX8_keep_44 : decode cX8_keep 44 = .ok (.iconst 1, 1) := by decide +kernel
theorem dX8_keep_45 : decode cX8_keep 45 = .ok (.isub, 1) := by decide +kernel
theorem dX8_keep_46 : decode cX8_keep 46 = .ok (.putfield 146, 3) := by decide +kernel
theorem dX8_keep_49 : decode cX8_keep 49 = .ok (.iconst 0, 1) := by decide +kernel
theorem dX8_keep_50 : decode cX8_keep 50 = .ok (.istore_n 1, 1) := by decide +kernel
theorem dX8_keep_51 : decode cX8_keep 51 = .ok (.iload_n 1, 1) := by decide +kernel
theorem dX8_keep_52 : decode cX8_keep 52 = .ok (.bipush 80, 2) := by decide +kernel
theorem dX8_keep_54 : decode cX8_keep 54 = .ok (.if_icmp .ge 29, 3) := by decide +kernel
theorem dX8_keep_57 : decode cX8_keep 57 = .ok (.aload_n 0, 1) := by decide +kernel
theorem dX8_keep_58 : decode cX8_keep 58 = .ok (.getfield 28, 3) := by decide +kernel
theorem dX8_keep_61 : decode cX8_keep 61 = .ok (.bipush 80, 2) := by decide +kernel
theorem dX8_keep_63 : decode cX8_keep 63 = .ok (.aload_n 0, 1) := by decide +kernel
theorem dX8_keep_64 : decode cX8_keep 64 = .ok (.getfield 146, 3) := by decide +kernel
theorem dX8_keep_67 : decode cX8_keep 67 = .ok (.imul, 1) := by decide +kernel
theorem dX8_keep_68 : decode cX8_keep 68 = .ok (.iload_n 1, 1) := by decide +kernel
theorem dX8_keep_69 : decode cX8_keep 69 = .ok (.iadd, 1) := by decide +kernel
theorem dX8_keep_70 : decode cX8_keep 70 = .ok (.aload_n 0, 1) := by decide +kernel
theorem dX8_keep_71 : decode cX8_keep 71 = .ok (.getfield 19, 3) := by decide +kernel
theorem dX8_keep_74 : decode cX8_keep 74 = .ok (.iload_n 1, 1) := by decide +kernel
theorem dX8_keep_75 : decode cX8_keep 75 = .ok (.iaload, 1) := by decide +kernel
theorem dX8_keep_76 : decode cX8_keep 76 = .ok (.iastore, 1) := by decide +kernel
theorem dX8_keep_77 : decode cX8_keep 77 = .ok (.iinc 1 1, 3) := by decide +kernel
theorem dX8_keep_80 : decode cX8_keep 80 = .ok (.goto (-29), 3) := by decide +kernel
theorem dX8_keep_83 : decode cX8_keep 83 = .ok (.aload_n 0, 1) := by decide +kernel
theorem dX8_keep_84 : decode cX8_keep 84 = .ok (.dup, 1) := by decide +kernel
theorem dX8_keep_85 : decode cX8_keep 85 = .ok (.getfield 146, 3) := by decide +kernel
theorem dX8_keep_88 : decode cX8_keep 88 = .ok (.iconst 1, 1) := by decide +kernel
theorem dX8_keep_89 : decode cX8_keep 89 = .ok (.iadd, 1) := by decide +kernel
theorem dX8_keep_90 : decode cX8_keep 90 = .ok (.putfield 146, 3) := by decide +kernel
theorem dX8_keep_93 : decode cX8_keep 93 = .ok (.return_, 1) := by decide +kernel
theorem dX8_breathe_0 : decode cX8_breathe 0 = .ok (.aload_n 0, 1) := by decide +kernel
theorem dX8_breathe_1 : decode cX8_breathe 1 = .ok (.iconst 0, 1) := by decide +kernel
theorem dX8_breathe_2 : decode cX8_breathe 2 = .ok (.putfield 47, 3) := by decide +kernel
theorem dX8_breathe_5 : decode cX8_breathe 5 = .ok (.aload_n 0, 1) := by decide +kernel
theorem dX8_breathe_6 : decode cX8_breathe 6 = .ok (.invokevirtual 171, 3) := by decide +kernel
theorem dX8_breathe_9 : decode cX8_breathe 9 = .ok (.ifCond .ne 6, 3) := by decide +kernel
theorem dX8_breathe_12 : decode cX8_breathe 12 = .ok (.ldc 174, 2) := by decide +kernel
theorem dX8_breathe_14 : decode cX8_breathe 14 = .ok (.ireturn, 1) := by decide +kernel
theorem dX8_breathe_15 : decode cX8_breathe 15 = .ok (.iload_n 1, 1) := by decide +kernel
theorem dX8_breathe_16 : decode cX8_breathe 16 = .ok (.i2l, 1) := by decide +kernel
theorem dX8_breathe_17 : decode cX8_breathe 17 = .ok (.lconst 1, 1) := by decide +kernel
theorem dX8_breathe_18 : decode cX8_breathe 18 = .ok (.ldc2_w 175, 3) := by decide +kernel
theorem dX8_breathe_21 : decode cX8_breathe 21 = .ok (.invokestatic 57, 3) := by decide +kernel
theorem dX8_breathe_24 : decode cX8_breathe 24 = .ok (.ifCond .ne 6, 3) := by decide +kernel
theorem dX8_breathe_27 : decode cX8_breathe 27 = .ok (.ldc 67, 2) := by decide +kernel
theorem dX8_breathe_29 : decode cX8_breathe 29 = .ok (.ireturn, 1) := by decide +kernel
theorem dX8_breathe_30 : decode cX8_breathe 30 = .ok (.aload_n 0, 1) := by decide +kernel
theorem dX8_breathe_31 : decode cX8_breathe 31 = .ok (.getfield 19, 3) := by decide +kernel
theorem dX8_breathe_34 : decode cX8_breathe 34 = .ok (.iconst 3, 1) := by decide +kernel
theorem dX8_breathe_35 : decode cX8_breathe 35 = .ok (.iaload, 1) := by decide +kernel
theorem dX8_breathe_36 : decode cX8_breathe 36 = .ok (.iload_n 1, 1) := by decide +kernel
theorem dX8_breathe_37 : decode cX8_breathe 37 = .ok (.iadd, 1) := by decide +kernel
theorem dX8_breathe_38 : decode cX8_breathe 38 = .ok (.sipush 999, 3) := by decide +kernel
theorem dX8_breathe_41 : decode cX8_breathe 41 = .ok (.if_icmp .le 6, 3) := by decide +kernel
theorem dX8_breathe_44 : decode cX8_breathe 44 = .ok (.ldc 77, 2) := by decide +kernel
theorem dX8_breathe_46 : decode cX8_breathe 46 = .ok (.ireturn, 1) := by decide +kernel
theorem dX8_breathe_47 : decode cX8_breathe 47 = .ok (.iconst 0, 1) := by decide +kernel
theorem dX8_breathe_48 : decode cX8_breathe 48 = .ok (.istore_n 2, 1) := by decide +kernel
theorem dX8_breathe_49 : decode cX8_breathe 49 = .ok (.iconst 0, 1) := by decide +kernel
theorem dX8_breathe_50 : decode cX8_breathe 50 = .ok (.istore_n 3, 1) := by decide +kernel
theorem dX8_breathe_51 : decode cX8_breathe 51 = .ok (.iload_n 3, 1) := by decide +kernel
theorem dX8_breathe_52 : decode cX8_breathe 52 = .ok (.iload_n 1, 1) := by decide +kernel
theorem dX8_breathe_53 : decode cX8_breathe 53 = .ok (.if_icmp .ge 22, 3) := by decide +kernel
theorem dX8_breathe_56 : decode cX8_breathe 56 = .ok (.aload_n 0, 1) := by decide +kernel
theorem dX8_breathe_57 : decode cX8_breathe 57 = .ok (.invokevirtual 177, 3) := by decide +kernel
theorem dX8_breathe_60 : decode cX8_breathe 60 = .ok (.aload_n 0, 1) := by decide +kernel
theorem dX8_breathe_61 : decode cX8_breathe 61 = .ok (.aload_n 0, 1) := by decide +kernel
theorem dX8_breathe_62 : decode cX8_breathe 62 = .ok (.getfield 19, 3) := by decide +kernel
theorem dX8_breathe_65 : decode cX8_breathe 65 = .ok (.invokevirtual 168, 3) := by decide +kernel
theorem dX8_breathe_68 : decode cX8_breathe 68 = .ok (.istore_n 2, 1) := by decide +kernel
theorem dX8_breathe_69 : decode cX8_breathe 69 = .ok (.iinc 3 1, 3) := by decide +kernel
theorem dX8_breathe_72 : decode cX8_breathe 72 = .ok (.goto (-21), 3) := by decide +kernel
theorem dX8_breathe_75 : decode cX8_breathe 75 = .ok (.iload_n 2, 1) := by decide +kernel
theorem dX8_breathe_76 : decode cX8_breathe 76 = .ok (.ireturn, 1) := by decide +kernel
theorem dX8_speak_0 : decode cX8_speak 0 = .ok (.aload_n 0, 1) := by decide +kernel
theorem dX8_speak_1 : decode cX8_speak 1 = .ok (.iconst 0, 1) := by decide +kernel
theorem dX8_speak_2 : decode cX8_speak 2 = .ok (.putfield 47, 3) := by decide +kernel
theorem dX8_speak_5 : decode cX8_speak 5 = .ok (.aload_n 0, 1) := by decide +kernel
theorem dX8_speak_6 : decode cX8_speak 6 = .ok (.iload_n 1, 1) := by decide +kernel
theorem dX8_speak_7 : decode cX8_speak 7 = .ok (.invokevirtual 180, 3) := by decide +kernel
theorem dX8_speak_10 : decode cX8_speak 10 = .ok (.ifCond .eq 27, 3) := by decide +kernel
theorem dX8_speak_13 : decode cX8_speak 13 = .ok (.iload_n 2, 1) := by decide +kernel
theorem dX8_speak_14 : decode cX8_speak 14 = .ok (.i2l, 1) := by decide +kernel
theorem dX8_speak_15 : decode cX8_speak 15 = .ok (.lconst 0, 1) := by decide +kernel
theorem dX8_speak_16 : decode cX8_speak 16 = .ok (.ldc2_w 183, 3) := by decide +kernel
theorem dX8_speak_19 : decode cX8_speak 19 = .ok (.invokestatic 57, 3) := by decide +kernel
theorem dX8_speak_22 : decode cX8_speak 22 = .ok (.ifCond .eq 15, 3) := by decide +kernel
theorem dX8_speak_25 : decode cX8_speak 25 = .ok (.iload_n 3, 1) := by decide +kernel
theorem dX8_speak_26 : decode cX8_speak 26 = .ok (.i2l, 1) := by decide +kernel
theorem dX8_speak_27 : decode cX8_speak 27 = .ok (.lconst 1, 1) := by decide +kernel
theorem dX8_speak_28 : decode cX8_speak 28 = .ok (.ldc2_w 185, 3) := by decide +kernel
theorem dX8_speak_31 : decode cX8_speak 31 = .ok (.invokestatic 57, 3) := by decide +kernel
theorem dX8_speak_34 : decode cX8_speak 34 = .ok (.ifCond .ne 6, 3) := by decide +kernel
theorem dX8_speak_37 : decode cX8_speak 37 = .ok (.ldc 67, 2) := by decide +kernel
theorem dX8_speak_39 : decode cX8_speak 39 = .ok (.ireturn, 1) := by decide +kernel
theorem dX8_speak_40 : decode cX8_speak 40 = .ok (.aload_n 0, 1) := by decide +kernel
theorem dX8_speak_41 : decode cX8_speak 41 = .ok (.invokevirtual 177, 3) := by decide +kernel
theorem dX8_speak_44 : decode cX8_speak 44 = .ok (.aload_n 0, 1) := by decide +kernel
theorem dX8_speak_45 : decode cX8_speak 45 = .ok (.getfield 19, 3) := by decide +kernel
theorem dX8_speak_48 : decode cX8_speak 48 = .ok (.iload_n 1, 1) := by decide +kernel
theorem dX8_speak_49 : decode cX8_speak 49 = .ok (.iload_n 2, 1) := by decide +kernel
theorem dX8_speak_50 : decode cX8_speak 50 = .ok (.iload_n 3, 1) := by decide +kernel
theorem dX8_speak_51 : decode cX8_speak 51 = .ok (.invokestatic 187, 3) := by decide +kernel
theorem dX8_speak_54 : decode cX8_speak 54 = .ok (.ireturn, 1) := by decide +kernel
theorem dX8_tap_0 : decode cX8_tap 0 = .ok (.aload_n 0, 1) := by decide +kernel
theorem dX8_tap_1 : decode cX8_tap 1 = .ok (.iconst 0, 1) := by decide +kernel
theorem dX8_tap_2 : decode cX8_tap 2 = .ok (.putfield 47, 3) := by decide +kernel
theorem dX8_tap_5 : decode cX8_tap 5 = .ok (.aload_n 0, 1) := by decide +kernel
theorem dX8_tap_6 : decode cX8_tap 6 = .ok (.iload_n 1, 1) := by decide +kernel
theorem dX8_tap_7 : decode cX8_tap 7 = .ok (.invokevirtual 191, 3) := by decide +kernel
theorem dX8_tap_10 : decode cX8_tap 10 = .ok (.ifCond .eq 13, 3) := by decide +kernel
theorem dX8_tap_13 : decode cX8_tap 13 = .ok (.iload_n 2, 1) := by decide +kernel
theorem dX8_tap_14 : decode cX8_tap 14 = .ok (.i2l, 1) := by decide +kernel
theorem dX8_tap_15 : decode cX8_tap 15 = .ok (.lconst 0, 1) := by decide +kernel
theorem dX8_tap_16 : decode cX8_tap 16 = .ok (.lconst 1, 1) := by decide +kernel
theorem dX8_tap_17 : decode cX8_tap 17 = .ok (.invokestatic 57, 3) := by decide +kernel
theorem dX8_tap_20 : decode cX8_tap 20 = .ok (.ifCond .ne 6, 3) := by decide +kernel
theorem dX8_tap_23 : decode cX8_tap 23 = .ok (.ldc 67, 2) := by decide +kernel
theorem dX8_tap_25 : decode cX8_tap 25 = .ok (.ireturn, 1) := by decide +kernel
theorem dX8_tap_26 : decode cX8_tap 26 = .ok (.aload_n 0, 1) := by decide +kernel
theorem dX8_tap_27 : decode cX8_tap 27 = .ok (.getfield 19, 3) := by decide +kernel
theorem dX8_tap_30 : decode cX8_tap 30 = .ok (.iconst 4, 1) := by decide +kernel
theorem dX8_tap_31 : decode cX8_tap 31 = .ok (.iaload, 1) := by decide +kernel
theorem dX8_tap_32 : decode cX8_tap 32 = .ok (.iload_n 1, 1) := by decide +kernel
theorem dX8_tap_33 : decode cX8_tap 33 = .ok (.ishr, 1) := by decide +kernel
theorem dX8_tap_34 : decode cX8_tap 34 = .ok (.iconst 1, 1) := by decide +kernel
theorem dX8_tap_35 : decode cX8_tap 35 = .ok (.iand, 1) := by decide +kernel
theorem dX8_tap_36 : decode cX8_tap 36 = .ok (.iload_n 2, 1) := by decide +kernel
theorem dX8_tap_37 : decode cX8_tap 37 = .ok (.if_icmp .ne 6, 3) := by decide +kernel
theorem dX8_tap_40 : decode cX8_tap 40 = .ok (.ldc 174, 2) := by decide +kernel
theorem dX8_tap_42 : decode cX8_tap 42 = .ok (.ireturn, 1) := by decide +kernel
theorem dX8_tap_43 : decode cX8_tap 43 = .ok (.aload_n 0, 1) := by decide +kernel
theorem dX8_tap_44 : decode cX8_tap 44 = .ok (.invokevirtual 177, 3) := by decide +kernel
theorem dX8_tap_47 : decode cX8_tap 47 = .ok (.aload_n 0, 1) := by decide +kernel
theorem dX8_tap_48 : decode cX8_tap 48 = .ok (.getfield 19, 3) := by decide +kernel
theorem dX8_tap_51 : decode cX8_tap 51 = .ok (.iconst 4, 1) := by decide +kernel
theorem dX8_tap_52 : decode cX8_tap 52 = .ok (.dup2, 1) := by decide +kernel
theorem dX8_tap_53 : decode cX8_tap 53 = .ok (.iaload, 1) := by decide +kernel
theorem dX8_tap_54 : decode cX8_tap 54 = .ok (.iconst 1, 1) := by decide +kernel
theorem dX8_tap_55 : decode cX8_tap 55 = .ok (.iload_n 1, 1) := by decide +kernel
theorem dX8_tap_56 : decode cX8_tap 56 = .ok (.ishl, 1) := by decide +kernel
theorem dX8_tap_57 : decode cX8_tap 57 = .ok (.ixor, 1) := by decide +kernel
theorem dX8_tap_58 : decode cX8_tap 58 = .ok (.iastore, 1) := by decide +kernel
theorem dX8_tap_59 : decode cX8_tap 59 = .ok (.aload_n 0, 1) := by decide +kernel
theorem dX8_tap_60 : decode cX8_tap 60 = .ok (.getfield 19, 3) := by decide +kernel
theorem dX8_tap_63 : decode cX8_tap 63 = .ok (.iconst 4, 1) := by decide +kernel
theorem dX8_tap_64 : decode cX8_tap 64 = .ok (.iaload, 1) := by decide +kernel
theorem dX8_tap_65 : decode cX8_tap 65 = .ok (.ireturn, 1) := by decide +kernel
theorem dX8_dent_0 : decode cX8_dent 0 = .ok (.aload_n 0, 1) := by decide +kernel
theorem dX8_dent_1 : decode cX8_dent 1 = .ok (.iconst 0, 1) := by decide +kernel
theorem dX8_dent_2 : decode cX8_dent 2 = .ok (.putfield 47, 3) := by decide +kernel
theorem dX8_dent_5 : decode cX8_dent 5 = .ok (.aload_n 0, 1) := by decide +kernel
theorem dX8_dent_6 : decode cX8_dent 6 = .ok (.iload_n 1, 1) := by decide +kernel
theorem dX8_dent_7 : decode cX8_dent 7 = .ok (.invokevirtual 191, 3) := by decide +kernel
theorem dX8_dent_10 : decode cX8_dent 10 = .ok (.ifCond .eq 15, 3) := by decide +kernel
theorem dX8_dent_13 : decode cX8_dent 13 = .ok (.iload_n 2, 1) := by decide +kernel
theorem dX8_dent_14 : decode cX8_dent 14 = .ok (.i2l, 1) := by decide +kernel
theorem dX8_dent_15 : decode cX8_dent 15 = .ok (.lconst 0, 1) := by decide +kernel
theorem dX8_dent_16 : decode cX8_dent 16 = .ok (.ldc2_w 183, 3) := by decide +kernel
theorem dX8_dent_19 : decode cX8_dent 19 = .ok (.invokestatic 57, 3) := by decide +kernel
theorem dX8_dent_22 : decode cX8_dent 22 = .ok (.ifCond .ne 6, 3) := by decide +kernel
theorem dX8_dent_25 : decode cX8_dent 25 = .ok (.ldc 67, 2) := by decide +kernel
theorem dX8_dent_27 : decode cX8_dent 27 = .ok (.ireturn, 1) := by decide +kernel
theorem dX8_dent_28 : decode cX8_dent 28 = .ok (.aload_n 0, 1) := by decide +kernel
theorem dX8_dent_29 : decode cX8_dent 29 = .ok (.invokevirtual 177, 3) := by decide +kernel
theorem dX8_dent_32 : decode cX8_dent 32 = .ok (.aload_n 0, 1) := by decide +kernel
theorem dX8_dent_33 : decode cX8_dent 33 = .ok (.getfield 19, 3) := by decide +kernel
theorem dX8_dent_36 : decode cX8_dent 36 = .ok (.iload_n 1, 1) := by decide +kernel
theorem dX8_dent_37 : decode cX8_dent 37 = .ok (.iconst 4, 1) := by decide +kernel
theorem dX8_dent_38 : decode cX8_dent 38 = .ok (.invokestatic 149, 3) := by decide +kernel
theorem dX8_dent_41 : decode cX8_dent 41 = .ok (.istore_n 3, 1) := by decide +kernel
theorem dX8_dent_42 : decode cX8_dent 42 = .ok (.aload_n 0, 1) := by decide +kernel
theorem dX8_dent_43 : decode cX8_dent 43 = .ok (.getfield 19, 3) := by decide +kernel
theorem dX8_dent_46 : decode cX8_dent 46 = .ok (.bipush 17, 2) := by decide +kernel
theorem dX8_dent_48 : decode cX8_dent 48 = .ok (.bipush 9, 2) := by decide +kernel
theorem dX8_dent_50 : decode cX8_dent 50 = .ok (.iload_n 1, 1) := by decide +kernel
theorem dX8_dent_51 : decode cX8_dent 51 = .ok (.imul, 1) := by decide +kernel
theorem dX8_dent_52 : decode cX8_dent 52 = .ok (.iadd, 1) := by decide +kernel
theorem dX8_dent_53 : decode cX8_dent 53 = .ok (.iconst 4, 1) := by decide +kernel
theorem dX8_dent_54 : decode cX8_dent 54 = .ok (.iadd, 1) := by decide +kernel
theorem dX8_dent_55 : decode cX8_dent 55 = .ok (.iload_n 2, 1) := by decide +kernel
theorem dX8_dent_56 : decode cX8_dent 56 = .ok (.iastore, 1) := by decide +kernel
theorem dX8_dent_57 : decode cX8_dent 57 = .ok (.iload_n 3, 1) := by decide +kernel
theorem dX8_dent_58 : decode cX8_dent 58 = .ok (.ireturn, 1) := by decide +kernel
theorem dX8_hush_0 : decode cX8_hush 0 = .ok (.aload_n 0, 1) := by decide +kernel
theorem dX8_hush_1 : decode cX8_hush 1 = .ok (.iconst 0, 1) := by decide +kernel
theorem dX8_hush_2 : decode cX8_hush 2 = .ok (.putfield 47, 3) := by decide +kernel
theorem dX8_hush_5 : decode cX8_hush 5 = .ok (.aload_n 0, 1) := by decide +kernel
theorem dX8_hush_6 : decode cX8_hush 6 = .ok (.invokevirtual 171, 3) := by decide +kernel
theorem dX8_hush_9 : decode cX8_hush 9 = .ok (.ifCond .ne 6, 3) := by decide +kernel
theorem dX8_hush_12 : decode cX8_hush 12 = .ok (.ldc 174, 2) := by decide +kernel
theorem dX8_hush_14 : decode cX8_hush 14 = .ok (.ireturn, 1) := by decide +kernel
theorem dX8_hush_15 : decode cX8_hush 15 = .ok (.aload_n 0, 1) := by decide +kernel
theorem dX8_hush_16 : decode cX8_hush 16 = .ok (.invokevirtual 177, 3) := by decide +kernel
theorem dX8_hush_19 : decode cX8_hush 19 = .ok (.aload_n 0, 1) := by decide +kernel
theorem dX8_hush_20 : decode cX8_hush 20 = .ok (.getfield 19, 3) := by decide +kernel
theorem dX8_hush_23 : decode cX8_hush 23 = .ok (.invokestatic 194, 3) := by decide +kernel
theorem dX8_hush_26 : decode cX8_hush 26 = .ok (.ireturn, 1) := by decide +kernel
theorem dX8_undo_0 : decode cX8_undo 0 = .ok (.aload_n 0, 1) := by decide +kernel
theorem dX8_undo_1 : decode cX8_undo 1 = .ok (.iconst 0, 1) := by decide +kernel
theorem dX8_undo_2 : decode cX8_undo 2 = .ok (.putfield 47, 3) := by decide +kernel
theorem dX8_undo_5 : decode cX8_undo 5 = .ok (.aload_n 0, 1) := by decide +kernel
theorem dX8_undo_6 : decode cX8_undo 6 = .ok (.getfield 146, 3) := by decide +kernel
theorem dX8_undo_9 : decode cX8_undo 9 = .ok (.ifCond .ne 6, 3) := by decide +kernel
theorem dX8_undo_12 : decode cX8_undo 12 = .ok (.ldc 174, 2) := by decide +kernel
theorem dX8_undo_14 : decode cX8_undo 14 = .ok (.ireturn, 1) := by decide +kernel
theorem dX8_undo_15 : decode cX8_undo 15 = .ok (.aload_n 0, 1) := by decide +kernel
theorem dX8_undo_16 : decode cX8_undo 16 = .ok (.dup, 1) := by decide +kernel
theorem dX8_undo_17 : decode cX8_undo 17 = .ok (.getfield 146, 3) := by decide +kernel
theorem dX8_undo_20 : decode cX8_undo 20 = .ok (.iconst 1, 1) := by decide +kernel
theorem dX8_undo_21 : decode cX8_undo 21 = .ok (.isub, 1) := by decide +kernel
theorem dX8_undo_22 : decode cX8_undo 22 = .ok (.putfield 146, 3) := by decide +kernel
theorem dX8_undo_25 : decode cX8_undo 25 = .ok (.iconst 0, 1) := by decide +kernel
theorem dX8_undo_26 : decode cX8_undo 26 = .ok (.istore_n 1, 1) := by decide +kernel
theorem dX8_undo_27 : decode cX8_undo 27 = .ok (.iload_n 1, 1) := by decide +kernel
theorem dX8_undo_28 : decode cX8_undo 28 = .ok (.bipush 80, 2) := by decide +kernel
theorem dX8_undo_30 : decode cX8_undo 30 = .ok (.if_icmp .ge 29, 3) := by decide +kernel
theorem dX8_undo_33 : decode cX8_undo 33 = .ok (.aload_n 0, 1) := by decide +kernel
theorem dX8_undo_34 : decode cX8_undo 34 = .ok (.getfield 19, 3) := by decide +kernel
theorem dX8_undo_37 : decode cX8_undo 37 = .ok (.iload_n 1, 1) := by decide +kernel
theorem dX8_undo_38 : decode cX8_undo 38 = .ok (.aload_n 0, 1) := by decide +kernel
theorem dX8_undo_39 : decode cX8_undo 39 = .ok (.getfield 28, 3) := by decide +kernel
theorem dX8_undo_42 : decode cX8_undo 42 = .ok (.bipush 80, 2) := by decide +kernel
theorem dX8_undo_44 : decode cX8_undo 44 = .ok (.aload_n 0, 1) := by decide +kernel
theorem dX8_undo_45 : decode cX8_undo 45 = .ok (.getfield 146, 3) := by decide +kernel
theorem dX8_undo_48 : decode cX8_undo 48 = .ok (.imul, 1) := by decide +kernel
theorem dX8_undo_49 : decode cX8_undo 49 = .ok (.iload_n 1, 1) := by decide +kernel
theorem dX8_undo_50 : decode cX8_undo 50 = .ok (.iadd, 1) := by decide +kernel
theorem dX8_undo_51 : decode cX8_undo 51 = .ok (.iaload, 1) := by decide +kernel
theorem dX8_undo_52 : decode cX8_undo 52 = .ok (.iastore, 1) := by decide +kernel
theorem dX8_undo_53 : decode cX8_undo 53 = .ok (.iinc 1 1, 3) := by decide +kernel
theorem dX8_undo_56 : decode cX8_undo 56 = .ok (.goto (-29), 3) := by decide +kernel
theorem dX8_undo_59 : decode cX8_undo 59 = .ok (.aload_n 0, 1) := by decide +kernel
theorem dX8_undo_60 : decode cX8_undo 60 = .ok (.getfield 146, 3) := by decide +kernel
theorem dX8_undo_63 : decode cX8_undo 63 = .ok (.ireturn, 1) := by decide +kernel
theorem dX8_pipe_0 : decode cX8_pipe 0 = .ok (.aload_n 0, 1) := by decide +kernel
theorem dX8_pipe_1 : decode cX8_pipe 1 = .ok (.iconst 0, 1) := by decide +kernel
theorem dX8_pipe_2 : decode cX8_pipe 2 = .ok (.putfield 47, 3) := by decide +kernel
theorem dX8_pipe_5 : decode cX8_pipe 5 = .ok (.aload_n 0, 1) := by decide +kernel
theorem dX8_pipe_6 : decode cX8_pipe 6 = .ok (.iload_n 1, 1) := by decide +kernel
theorem dX8_pipe_7 : decode cX8_pipe 7 = .ok (.invokevirtual 191, 3) := by decide +kernel
theorem dX8_pipe_10 : decode cX8_pipe 10 = .ok (.ifCond .eq 15, 3) := by decide +kernel
theorem dX8_pipe_13 : decode cX8_pipe 13 = .ok (.iload_n 2, 1) := by decide +kernel
theorem dX8_pipe_14 : decode cX8_pipe 14 = .ok (.i2l, 1) := by decide +kernel
theorem dX8_pipe_15 : decode cX8_pipe 15 = .ok (.lconst 0, 1) := by decide +kernel
theorem dX8_pipe_16 : decode cX8_pipe 16 = .ok (.ldc2_w 197, 3) := by decide +kernel
theorem dX8_pipe_19 : decode cX8_pipe 19 = .ok (.invokestatic 57, 3) := by decide +kernel
theorem dX8_pipe_22 : decode cX8_pipe 22 = .ok (.ifCond .ne 6, 3) := by decide +kernel
theorem dX8_pipe_25 : decode cX8_pipe 25 = .ok (.ldc 67, 2) := by decide +kernel
theorem dX8_pipe_27 : decode cX8_pipe 27 = .ok (.ireturn, 1) := by decide +kernel
theorem dX8_pipe_28 : decode cX8_pipe 28 = .ok (.iload_n 2, 1) := by decide +kernel
theorem dX8_pipe_29 : decode cX8_pipe 29 = .ok (.iconst 4, 1) := by decide +kernel
theorem dX8_pipe_30 : decode cX8_pipe 30 = .ok (.if_icmp .ge 17, 3) := by decide +kernel
theorem dX8_pipe_33 : decode cX8_pipe 33 = .ok (.aload_n 0, 1) := by decide +kernel
theorem dX8_pipe_34 : decode cX8_pipe 34 = .ok (.getfield 19, 3) := by decide +kernel
theorem dX8_pipe_37 : decode cX8_pipe 37 = .ok (.iload_n 1, 1) := by decide +kernel
theorem dX8_pipe_38 : decode cX8_pipe 38 = .ok (.iconst 1, 1) := by decide +kernel
theorem dX8_pipe_39 : decode cX8_pipe 39 = .ok (.iload_n 2, 1) := by decide +kernel
theorem dX8_pipe_40 : decode cX8_pipe 40 = .ok (.iadd, 1) := by decide +kernel
theorem dX8_pipe_41 : decode cX8_pipe 41 = .ok (.invokestatic 149, 3) := by decide +kernel
theorem dX8_pipe_44 : decode cX8_pipe 44 = .ok (.goto 29, 3) := by decide +kernel
theorem dX8_pipe_47 : decode cX8_pipe 47 = .ok (.iload_n 2, 1) := by decide +kernel
theorem dX8_pipe_48 : decode cX8_pipe 48 = .ok (.iconst 4, 1) := by decide +kernel
theorem dX8_pipe_49 : decode cX8_pipe 49 = .ok (.if_icmp .ne 16, 3) := by decide +kernel
theorem dX8_pipe_52 : decode cX8_pipe 52 = .ok (.aload_n 0, 1) := by decide +kernel
theorem dX8_pipe_53 : decode cX8_pipe 53 = .ok (.getfield 19, 3) := by decide +kernel
theorem dX8_pipe_56 : decode cX8_pipe 56 = .ok (.iconst 4, 1) := by decide +kernel
theorem dX8_pipe_57 : decode cX8_pipe 57 = .ok (.iaload, 1) := by decide +kernel
theorem dX8_pipe_58 : decode cX8_pipe 58 = .ok (.iload_n 1, 1) := by decide +kernel
theorem dX8_pipe_59 : decode cX8_pipe 59 = .ok (.ishr, 1) := by decide +kernel
theorem dX8_pipe_60 : decode cX8_pipe 60 = .ok (.iconst 1, 1) := by decide +kernel
theorem dX8_pipe_61 : decode cX8_pipe 61 = .ok (.iand, 1) := by decide +kernel
theorem dX8_pipe_62 : decode cX8_pipe 62 = .ok (.goto 11, 3) := by decide +kernel
theorem dX8_pipe_65 : decode cX8_pipe 65 = .ok (.aload_n 0, 1) := by decide +kernel
theorem dX8_pipe_66 : decode cX8_pipe 66 = .ok (.getfield 19, 3) := by decide +kernel
theorem dX8_pipe_69 : decode cX8_pipe 69 = .ok (.iload_n 1, 1) := by decide +kernel
theorem dX8_pipe_70 : decode cX8_pipe 70 = .ok (.invokestatic 161, 3) := by decide +kernel
theorem dX8_pipe_73 : decode cX8_pipe 73 = .ok (.ireturn, 1) := by decide +kernel
theorem dX8_inside_0 : decode cX8_inside 0 = .ok (.aload_n 0, 1) := by decide +kernel
theorem dX8_inside_1 : decode cX8_inside 1 = .ok (.iconst 0, 1) := by decide +kernel
theorem dX8_inside_2 : decode cX8_inside 2 = .ok (.putfield 47, 3) := by decide +kernel
theorem dX8_inside_5 : decode cX8_inside 5 = .ok (.aload_n 0, 1) := by decide +kernel
theorem dX8_inside_6 : decode cX8_inside 6 = .ok (.iload_n 1, 1) := by decide +kernel
theorem dX8_inside_7 : decode cX8_inside 7 = .ok (.invokevirtual 191, 3) := by decide +kernel
theorem dX8_inside_10 : decode cX8_inside 10 = .ok (.ifCond .eq 24, 3) := by decide +kernel
theorem dX8_inside_13 : decode cX8_inside 13 = .ok (.iload_n 2, 1) := by decide +kernel
theorem dX8_inside_14 : decode cX8_inside 14 = .ok (.i2l, 1) := by decide +kernel
theorem dX8_inside_15 : decode cX8_inside 15 = .ok (.lconst 0, 1) := by decide +kernel
theorem dX8_inside_16 : decode cX8_inside 16 = .ok (.aload_n 0, 1) := by decide +kernel
theorem dX8_inside_17 : decode cX8_inside 17 = .ok (.getfield 19, 3) := by decide +kernel
theorem dX8_inside_20 : decode cX8_inside 20 = .ok (.iload_n 1, 1) := by decide +kernel
theorem dX8_inside_21 : decode cX8_inside 21 = .ok (.iconst 3, 1) := by decide +kernel
theorem dX8_inside_22 : decode cX8_inside 22 = .ok (.invokestatic 149, 3) := by decide +kernel
theorem dX8_inside_25 : decode cX8_inside 25 = .ok (.iconst 1, 1) := by decide +kernel
theorem dX8_inside_26 : decode cX8_inside 26 = .ok (.isub, 1) := by decide +kernel
theorem dX8_inside_27 : decode cX8_inside 27 = .ok (.i2l, 1) := by decide +kernel
theorem dX8_inside_28 : decode cX8_inside 28 = .ok (.invokestatic 57, 3) := by decide +kernel
theorem dX8_inside_31 : decode cX8_inside 31 = .ok (.ifCond .ne 6, 3) := by decide +kernel
theorem dX8_inside_34 : decode cX8_inside 34 = .ok (.ldc 67, 2) := by decide +kernel
theorem dX8_inside_36 : decode cX8_inside 36 = .ok (.ireturn, 1) := by decide +kernel
theorem dX8_inside_37 : decode cX8_inside 37 = .ok (.aload_n 0, 1) := by decide +kernel
theorem dX8_inside_38 : decode cX8_inside 38 = .ok (.getfield 19, 3) := by decide +kernel
theorem dX8_inside_41 : decode cX8_inside 41 = .ok (.iload_n 1, 1) := by decide +kernel
theorem dX8_inside_42 : decode cX8_inside 42 = .ok (.iconst 5, 1) := by decide +kernel
theorem dX8_inside_43 : decode cX8_inside 43 = .ok (.iload_n 2, 1) := by decide +kernel
theorem dX8_inside_44 : decode cX8_inside 44 = .ok (.iadd, 1) := by decide +kernel
theorem dX8_inside_45 : decode cX8_inside 45 = .ok (.invokestatic 149, 3) := by decide +kernel
theorem dX8_inside_48 : decode cX8_inside 48 = .ok (.istore_n 3, 1) := by decide +kernel
theorem dX8_inside_49 : decode cX8_inside 49 = .ok (.iload_n 3, 1) := by decide +kernel
theorem dX8_inside_50 : decode cX8_inside 50 = .ok (.ifCond .ne 8, 3) := by decide +kernel
theorem dX8_inside_53 : decode cX8_inside 53 = .ok (.ldc 90, 2) := by decide +kernel
theorem dX8_inside_55 : decode cX8_inside 55 = .ok (.goto 4, 3) := by decide +kernel
theorem dX8_inside_58 : decode cX8_inside 58 = .ok (.iload_n 3, 1) := by decide +kernel
theorem dX8_inside_59 : decode cX8_inside 59 = .ok (.ireturn, 1) := by decide +kernel
theorem dX8_horn_0 : decode cX8_horn 0 = .ok (.aload_n 0, 1) := by decide +kernel
theorem dX8_horn_1 : decode cX8_horn 1 = .ok (.iconst 0, 1) := by decide +kernel
theorem dX8_horn_2 : decode cX8_horn 2 = .ok (.putfield 47, 3) := by decide +kernel
theorem dX8_horn_5 : decode cX8_horn 5 = .ok (.aload_n 0, 1) := by decide +kernel
theorem dX8_horn_6 : decode cX8_horn 6 = .ok (.iload_n 1, 1) := by decide +kernel
theorem dX8_horn_7 : decode cX8_horn 7 = .ok (.invokevirtual 180, 3) := by decide +kernel
theorem dX8_horn_10 : decode cX8_horn 10 = .ok (.ifCond .ne 6, 3) := by decide +kernel
theorem dX8_horn_13 : decode cX8_horn 13 = .ok (.ldc 67, 2) := by decide +kernel
theorem dX8_horn_15 : decode cX8_horn 15 = .ok (.ireturn, 1) := by decide +kernel
theorem dX8_horn_16 : decode cX8_horn 16 = .ok (.aload_n 0, 1) := by decide +kernel
theorem dX8_horn_17 : decode cX8_horn 17 = .ok (.getfield 19, 3) := by decide +kernel
theorem dX8_horn_20 : decode cX8_horn 20 = .ok (.iconst 5, 1) := by decide +kernel
theorem dX8_horn_21 : decode cX8_horn 21 = .ok (.iconst 2, 1) := by decide +kernel
theorem dX8_horn_22 : decode cX8_horn 22 = .ok (.iload_n 1, 1) := by decide +kernel
theorem dX8_horn_23 : decode cX8_horn 23 = .ok (.imul, 1) := by decide +kernel
theorem dX8_horn_24 : decode cX8_horn 24 = .ok (.iadd, 1) := by decide +kernel
theorem dX8_horn_25 : decode cX8_horn 25 = .ok (.iaload, 1) := by decide +kernel
theorem dX8_horn_26 : decode cX8_horn 26 = .ok (.istore_n 3, 1) := by decide +kernel
theorem dX8_horn_27 : decode cX8_horn 27 = .ok (.iconst 0, 1) := by decide +kernel
theorem dX8_horn_28 : decode cX8_horn 28 = .ok (.istore 4, 2) := by decide +kernel
theorem dX8_horn_30 : decode cX8_horn 30 = .ok (.iconst 0, 1) := by decide +kernel
theorem dX8_horn_31 : decode cX8_horn 31 = .ok (.istore 5, 2) := by decide +kernel
theorem dX8_horn_33 : decode cX8_horn 33 = .ok (.iload 5, 2) := by decide +kernel
theorem dX8_horn_35 : decode cX8_horn 35 = .ok (.aload_n 0, 1) := by decide +kernel
theorem dX8_horn_36 : decode cX8_horn 36 = .ok (.getfield 19, 3) := by decide +kernel
theorem dX8_horn_39 : decode cX8_horn 39 = .ok (.iconst 2, 1) := by decide +kernel
theorem dX8_horn_40 : decode cX8_horn 40 = .ok (.iaload, 1) := by decide +kernel
theorem dX8_horn_41 : decode cX8_horn 41 = .ok (.if_icmp .ge 45, 3) := by decide +kernel
theorem dX8_horn_44 : decode cX8_horn 44 = .ok (.iload 4, 2) := by decide +kernel
theorem dX8_horn_46 : decode cX8_horn 46 = .ok (.aload_n 0, 1) := by decide +kernel
theorem dX8_horn_47 : decode cX8_horn 47 = .ok (.getfield 19, 3) := by decide +kernel
theorem dX8_horn_50 : decode cX8_horn 50 = .ok (.iload 5, 2) := by decide +kernel
theorem dX8_horn_52 : decode cX8_horn 52 = .ok (.iload_n 2, 1) := by decide +kernel
theorem dX8_horn_53 : decode cX8_horn 53 = .ok (.iconst 3, 1) := by decide +kernel
theorem dX8_horn_54 : decode cX8_horn 54 = .ok (.if_icmp .ne 7, 3) := by decide +kernel
theorem dX8_horn_57 : decode cX8_horn 57 = .ok (.iconst 1, 1) := by decide +kernel
theorem dX8_horn_58 : decode cX8_horn 58 = .ok (.goto 4, 3) := by decide +kernel
theorem dX8_horn_61 : decode cX8_horn 61 = .ok (.iconst 2, 1) := by decide +kernel
theorem dX8_horn_62 : decode cX8_horn 62 = .ok (.invokestatic 149, 3) := by decide +kernel
theorem dX8_horn_65 : decode cX8_horn 65 = .ok (.iload_n 1, 1) := by decide +kernel
theorem dX8_horn_66 : decode cX8_horn 66 = .ok (.if_icmp .ne 10, 3) := by decide +kernel
theorem dX8_horn_69 : decode cX8_horn 69 = .ok (.iconst 1, 1) := by decide +kernel
theorem dX8_horn_70 : decode cX8_horn 70 = .ok (.iload 5, 2) := by decide +kernel
theorem dX8_horn_72 : decode cX8_horn 72 = .ok (.ishl, 1) := by decide +kernel
theorem dX8_horn_73 : decode cX8_horn 73 = .ok (.goto 4, 3) := by decide +kernel
theorem dX8_horn_76 : decode cX8_horn 76 = .ok (.iconst 0, 1) := by decide +kernel
theorem dX8_horn_77 : decode cX8_horn 77 = .ok (.ior, 1) := by decide +kernel
theorem dX8_horn_78 : decode cX8_horn 78 = .ok (.istore 4, 2) := by decide +kernel
theorem dX8_horn_80 : decode cX8_horn 80 = .ok (.iinc 5 1, 3) := by decide +kernel
theorem dX8_horn_83 : decode cX8_horn 83 = .ok (.goto (-50), 3) := by decide +kernel
theorem dX8_horn_86 : decode cX8_horn 86 = .ok (.iload_n 2, 1) := by decide +kernel
theorem dX8_horn_87 : decode cX8_horn 87 = .ok (.tableswitch 77 0 4 #[33, 47, 52, 74, 74], 33) := by decide +kernel
theorem dX8_horn_120 : decode cX8_horn 120 = .ok (.iload_n 3, 1) := by decide +kernel
theorem dX8_horn_121 : decode cX8_horn 121 = .ok (.ifCond .ne 8, 3) := by decide +kernel
theorem dX8_horn_124 : decode cX8_horn 124 = .ok (.ldc 90, 2) := by decide +kernel
theorem dX8_horn_126 : decode cX8_horn 126 = .ok (.goto 7, 3) := by decide +kernel
theorem dX8_horn_129 : decode cX8_horn 129 = .ok (.iload_n 3, 1) := by decide +kernel
theorem dX8_horn_130 : decode cX8_horn 130 = .ok (.bipush 100, 2) := by decide +kernel
theorem dX8_horn_132 : decode cX8_horn 132 = .ok (.idiv, 1) := by decide +kernel
theorem dX8_horn_133 : decode cX8_horn 133 = .ok (.ireturn, 1) := by decide +kernel
theorem dX8_horn_134 : decode cX8_horn 134 = .ok (.iload_n 3, 1) := by decide +kernel
theorem dX8_horn_135 : decode cX8_horn 135 = .ok (.bipush 100, 2) := by decide +kernel
theorem dX8_horn_137 : decode cX8_horn 137 = .ok (.irem, 1) := by decide +kernel
theorem dX8_horn_138 : decode cX8_horn 138 = .ok (.ireturn, 1) := by decide +kernel
theorem dX8_horn_139 : decode cX8_horn 139 = .ok (.iload_n 3, 1) := by decide +kernel
theorem dX8_horn_140 : decode cX8_horn 140 = .ok (.ifCond .ne 8, 3) := by decide +kernel
theorem dX8_horn_143 : decode cX8_horn 143 = .ok (.ldc 90, 2) := by decide +kernel
theorem dX8_horn_145 : decode cX8_horn 145 = .ok (.goto 15, 3) := by decide +kernel
theorem dX8_horn_148 : decode cX8_horn 148 = .ok (.aload_n 0, 1) := by decide +kernel
theorem dX8_horn_149 : decode cX8_horn 149 = .ok (.getfield 19, 3) := by decide +kernel
theorem dX8_horn_152 : decode cX8_horn 152 = .ok (.iconst 5, 1) := by decide +kernel
theorem dX8_horn_153 : decode cX8_horn 153 = .ok (.iconst 2, 1) := by decide +kernel
theorem dX8_horn_154 : decode cX8_horn 154 = .ok (.iload_n 1, 1) := by decide +kernel
theorem dX8_horn_155 : decode cX8_horn 155 = .ok (.imul, 1) := by decide +kernel
theorem dX8_horn_156 : decode cX8_horn 156 = .ok (.iadd, 1) := by decide +kernel
theorem dX8_horn_157 : decode cX8_horn 157 = .ok (.iconst 1, 1) := by decide +kernel
theorem dX8_horn_158 : decode cX8_horn 158 = .ok (.iadd, 1) := by decide +kernel
theorem dX8_horn_159 : decode cX8_horn 159 = .ok (.iaload, 1) := by decide +kernel
theorem dX8_horn_160 : decode cX8_horn 160 = .ok (.ireturn, 1) := by decide +kernel
theorem dX8_horn_161 : decode cX8_horn 161 = .ok (.iload 4, 2) := by decide +kernel
theorem dX8_horn_163 : decode cX8_horn 163 = .ok (.ireturn, 1) := by decide +kernel
theorem dX8_horn_164 : decode cX8_horn 164 = .ok (.ldc 67, 2) := by decide +kernel
theorem dX8_horn_166 : decode cX8_horn 166 = .ok (.ireturn, 1) := by decide +kernel
theorem dX8_ahead_0 : decode cX8_ahead 0 = .ok (.aload_n 0, 1) := by decide +kernel
theorem dX8_ahead_1 : decode cX8_ahead 1 = .ok (.iconst 0, 1) := by decide +kernel
theorem dX8_ahead_2 : decode cX8_ahead 2 = .ok (.putfield 47, 3) := by decide +kernel
theorem dX8_ahead_5 : decode cX8_ahead 5 = .ok (.aload_n 0, 1) := by decide +kernel
theorem dX8_ahead_6 : decode cX8_ahead 6 = .ok (.iload_n 1, 1) := by decide +kernel
theorem dX8_ahead_7 : decode cX8_ahead 7 = .ok (.invokevirtual 180, 3) := by decide +kernel
theorem dX8_ahead_10 : decode cX8_ahead 10 = .ok (.ifCond .eq 25, 3) := by decide +kernel
theorem dX8_ahead_13 : decode cX8_ahead 13 = .ok (.iload_n 2, 1) := by decide +kernel
theorem dX8_ahead_14 : decode cX8_ahead 14 = .ok (.i2l, 1) := by decide +kernel
theorem dX8_ahead_15 : decode cX8_ahead 15 = .ok (.lconst 1, 1) := by decide +kernel
theorem dX8_ahead_16 : decode cX8_ahead 16 = .ok (.ldc2_w 199, 3) := by decide +kernel
theorem dX8_ahead_19 : decode cX8_ahead 19 = .ok (.invokestatic 57, 3) := by decide +kernel
theorem dX8_ahead_22 : decode cX8_ahead 22 = .ok (.ifCond .eq 13, 3) := by decide +kernel
theorem dX8_ahead_25 : decode cX8_ahead 25 = .ok (.iload_n 3, 1) := by decide +kernel
theorem dX8_ahead_26 : decode cX8_ahead 26 = .ok (.i2l, 1) := by decide +kernel
theorem dX8_ahead_27 : decode cX8_ahead 27 = .ok (.lconst 0, 1) := by decide +kernel
theorem dX8_ahead_28 : decode cX8_ahead 28 = .ok (.lconst 1, 1) := by decide +kernel
theorem dX8_ahead_29 : decode cX8_ahead 29 = .ok (.invokestatic 57, 3) := by decide +kernel
theorem dX8_ahead_32 : decode cX8_ahead 32 = .ok (.ifCond .ne 6, 3) := by decide +kernel
theorem dX8_ahead_35 : decode cX8_ahead 35 = .ok (.ldc 67, 2) := by decide +kernel
theorem dX8_ahead_37 : decode cX8_ahead 37 = .ok (.ireturn, 1) := by decide +kernel
theorem dX8_ahead_38 : decode cX8_ahead 38 = .ok (.aload_n 0, 1) := by decide +kernel
theorem dX8_ahead_39 : decode cX8_ahead 39 = .ok (.invokevirtual 201, 3) := by decide +kernel
theorem dX8_ahead_42 : decode cX8_ahead 42 = .ok (.aload_n 0, 1) := by decide +kernel
theorem dX8_ahead_43 : decode cX8_ahead 43 = .ok (.iload_n 2, 1) := by decide +kernel
theorem dX8_ahead_44 : decode cX8_ahead 44 = .ok (.invokevirtual 204, 3) := by decide +kernel
theorem dX8_ahead_47 : decode cX8_ahead 47 = .ok (.istore 4, 2) := by decide +kernel
theorem dX8_ahead_49 : decode cX8_ahead 49 = .ok (.aload_n 0, 1) := by decide +kernel
theorem dX8_ahead_50 : decode cX8_ahead 50 = .ok (.getfield 34, 3) := by decide +kernel
theorem dX8_ahead_53 : decode cX8_ahead 53 = .ok (.iload_n 1, 1) := by decide +kernel
theorem dX8_ahead_54 : decode cX8_ahead 54 = .ok (.iaload, 1) := by decide +kernel
theorem dX8_ahead_55 : decode cX8_ahead 55 = .ok (.ifCond .ne 8, 3) := by decide +kernel
theorem dX8_ahead_58 : decode cX8_ahead 58 = .ok (.ldc 90, 2) := by decide +kernel
theorem dX8_ahead_60 : decode cX8_ahead 60 = .ok (.goto 28, 3) := by decide +kernel
theorem dX8_ahead_63 : decode cX8_ahead 63 = .ok (.iload_n 3, 1) := by decide +kernel
theorem dX8_ahead_64 : decode cX8_ahead 64 = .ok (.ifCond .ne 15, 3) := by decide +kernel
theorem dX8_ahead_67 : decode cX8_ahead 67 = .ok (.aload_n 0, 1) := by decide +kernel
theorem dX8_ahead_68 : decode cX8_ahead 68 = .ok (.getfield 34, 3) := by decide +kernel
theorem dX8_ahead_71 : decode cX8_ahead 71 = .ok (.iload_n 1, 1) := by decide +kernel
theorem dX8_ahead_72 : decode cX8_ahead 72 = .ok (.iaload, 1) := by decide +kernel
theorem dX8_ahead_73 : decode cX8_ahead 73 = .ok (.bipush 100, 2) := by decide +kernel
theorem dX8_ahead_75 : decode cX8_ahead 75 = .ok (.idiv, 1) := by decide +kernel
theorem dX8_ahead_76 : decode cX8_ahead 76 = .ok (.goto 12, 3) := by decide +kernel
theorem dX8_ahead_79 : decode cX8_ahead 79 = .ok (.aload_n 0, 1) := by decide +kernel
theorem dX8_ahead_80 : decode cX8_ahead 80 = .ok (.getfield 34, 3) := by decide +kernel
theorem dX8_ahead_83 : decode cX8_ahead 83 = .ok (.iload_n 1, 1) := by decide +kernel
theorem dX8_ahead_84 : decode cX8_ahead 84 = .ok (.iaload, 1) := by decide +kernel
theorem dX8_ahead_85 : decode cX8_ahead 85 = .ok (.bipush 100, 2) := by decide +kernel
theorem dX8_ahead_87 : decode cX8_ahead 87 = .ok (.irem, 1) := by decide +kernel
theorem dX8_ahead_88 : decode cX8_ahead 88 = .ok (.ireturn, 1) := by decide +kernel
theorem dX8_firstBy_0 : decode cX8_firstBy 0 = .ok (.iconst 1, 1) := by decide +kernel
theorem dX8_firstBy_1 : decode cX8_firstBy 1 = .ok (.istore_n 2, 1) := by decide +kernel
theorem dX8_firstBy_2 : decode cX8_firstBy 2 = .ok (.iload_n 2, 1) := by decide +kernel
theorem dX8_firstBy_3 : decode cX8_firstBy 3 = .ok (.bipush 60, 2) := by decide +kernel
theorem dX8_firstBy_5 : decode cX8_firstBy 5 = .ok (.if_icmp .gt 26, 3) := by decide +kernel
theorem dX8_firstBy_8 : decode cX8_firstBy 8 = .ok (.aload_n 0, 1) := by decide +kernel
theorem dX8_firstBy_9 : decode cX8_firstBy 9 = .ok (.aload_n 0, 1) := by decide +kernel
theorem dX8_firstBy_10 : decode cX8_firstBy 10 = .ok (.getfield 25, 3) := by decide +kernel
theorem dX8_firstBy_13 : decode cX8_firstBy 13 = .ok (.invokevirtual 168, 3) := by decide +kernel
theorem dX8_firstBy_16 : decode cX8_firstBy 16 = .ok (.iload_n 1, 1) := by decide +kernel
theorem dX8_firstBy_17 : decode cX8_firstBy 17 = .ok (.invokestatic 157, 3) := by decide +kernel
theorem dX8_firstBy_20 : decode cX8_firstBy 20 = .ok (.ifCond .eq 5, 3) := by decide +kernel
theorem dX8_firstBy_23 : decode cX8_firstBy 23 = .ok (.iload_n 2, 1) := by decide +kernel
theorem dX8_firstBy_24 : decode cX8_firstBy 24 = .ok (.ireturn, 1) := by decide +kernel
theorem dX8_firstBy_25 : decode cX8_firstBy 25 = .ok (.iinc 2 1, 3) := by decide +kernel
theorem dX8_firstBy_28 : decode cX8_firstBy 28 = .ok (.goto (-26), 3) := by decide +kernel
theorem dX8_firstBy_31 : decode cX8_firstBy 31 = .ok (.ldc 90, 2) := by decide +kernel
theorem dX8_firstBy_33 : decode cX8_firstBy 33 = .ok (.ireturn, 1) := by decide +kernel
theorem dX8_first_0 : decode cX8_first 0 = .ok (.aload_n 0, 1) := by decide +kernel
theorem dX8_first_1 : decode cX8_first 1 = .ok (.iconst 0, 1) := by decide +kernel
theorem dX8_first_2 : decode cX8_first 2 = .ok (.putfield 47, 3) := by decide +kernel
theorem dX8_first_5 : decode cX8_first 5 = .ok (.aload_n 0, 1) := by decide +kernel
theorem dX8_first_6 : decode cX8_first 6 = .ok (.iload_n 1, 1) := by decide +kernel
theorem dX8_first_7 : decode cX8_first 7 = .ok (.invokevirtual 180, 3) := by decide +kernel
theorem dX8_first_10 : decode cX8_first 10 = .ok (.ifCond .ne 6, 3) := by decide +kernel
theorem dX8_first_13 : decode cX8_first 13 = .ok (.ldc 67, 2) := by decide +kernel
theorem dX8_first_15 : decode cX8_first 15 = .ok (.ireturn, 1) := by decide +kernel
theorem dX8_first_16 : decode cX8_first 16 = .ok (.aload_n 0, 1) := by decide +kernel
theorem dX8_first_17 : decode cX8_first 17 = .ok (.invokevirtual 201, 3) := by decide +kernel
theorem dX8_first_20 : decode cX8_first 20 = .ok (.aload_n 0, 1) := by decide +kernel
theorem dX8_first_21 : decode cX8_first 21 = .ok (.iload_n 1, 1) := by decide +kernel
theorem dX8_first_22 : decode cX8_first 22 = .ok (.invokevirtual 207, 3) := by decide +kernel
theorem dX8_first_25 : decode cX8_first 25 = .ok (.ireturn, 1) := by decide +kernel
theorem dX8_hearers_0 : decode cX8_hearers 0 = .ok (.aload_n 0, 1) := by decide +kernel
theorem dX8_hearers_1 : decode cX8_hearers 1 = .ok (.iconst 0, 1) := by decide +kernel
theorem dX8_hearers_2 : decode cX8_hearers 2 = .ok (.putfield 47, 3) := by decide +kernel
theorem dX8_hearers_5 : decode cX8_hearers 5 = .ok (.aload_n 0, 1) := by decide +kernel
theorem dX8_hearers_6 : decode cX8_hearers 6 = .ok (.invokevirtual 171, 3) := by decide +kernel
theorem dX8_hearers_9 : decode cX8_hearers 9 = .ok (.ifCond .ne 6, 3) := by decide +kernel
theorem dX8_hearers_12 : decode cX8_hearers 12 = .ok (.ldc 174, 2) := by decide +kernel
theorem dX8_hearers_14 : decode cX8_hearers 14 = .ok (.ireturn, 1) := by decide +kernel
theorem dX8_hearers_15 : decode cX8_hearers 15 = .ok (.iload_n 1, 1) := by decide +kernel
theorem dX8_hearers_16 : decode cX8_hearers 16 = .ok (.i2l, 1) := by decide +kernel
theorem dX8_hearers_17 : decode cX8_hearers 17 = .ok (.lconst 1, 1) := by decide +kernel
theorem dX8_hearers_18 : decode cX8_hearers 18 = .ok (.ldc2_w 199, 3) := by decide +kernel
theorem dX8_hearers_21 : decode cX8_hearers 21 = .ok (.invokestatic 57, 3) := by decide +kernel
theorem dX8_hearers_24 : decode cX8_hearers 24 = .ok (.ifCond .ne 6, 3) := by decide +kernel
theorem dX8_hearers_27 : decode cX8_hearers 27 = .ok (.ldc 67, 2) := by decide +kernel
theorem dX8_hearers_29 : decode cX8_hearers 29 = .ok (.ireturn, 1) := by decide +kernel
theorem dX8_hearers_30 : decode cX8_hearers 30 = .ok (.aload_n 0, 1) := by decide +kernel
theorem dX8_hearers_31 : decode cX8_hearers 31 = .ok (.invokevirtual 201, 3) := by decide +kernel
theorem dX8_hearers_34 : decode cX8_hearers 34 = .ok (.aload_n 0, 1) := by decide +kernel
theorem dX8_hearers_35 : decode cX8_hearers 35 = .ok (.iload_n 1, 1) := by decide +kernel
theorem dX8_hearers_36 : decode cX8_hearers 36 = .ok (.invokevirtual 204, 3) := by decide +kernel
theorem dX8_hearers_39 : decode cX8_hearers 39 = .ok (.ireturn, 1) := by decide +kernel
theorem dX8_quiet_0 : decode cX8_quiet 0 = .ok (.aload_n 0, 1) := by decide +kernel
theorem dX8_quiet_1 : decode cX8_quiet 1 = .ok (.iconst 0, 1) := by decide +kernel
theorem dX8_quiet_2 : decode cX8_quiet 2 = .ok (.putfield 47, 3) := by decide +kernel
theorem dX8_quiet_5 : decode cX8_quiet 5 = .ok (.aload_n 0, 1) := by decide +kernel
theorem dX8_quiet_6 : decode cX8_quiet 6 = .ok (.invokevirtual 171, 3) := by decide +kernel
theorem dX8_quiet_9 : decode cX8_quiet 9 = .ok (.ifCond .ne 6, 3) := by decide +kernel
theorem dX8_quiet_12 : decode cX8_quiet 12 = .ok (.ldc 174, 2) := by decide +kernel
theorem dX8_quiet_14 : decode cX8_quiet 14 = .ok (.ireturn, 1) := by decide +kernel
theorem dX8_quiet_15 : decode cX8_quiet 15 = .ok (.aload_n 0, 1) := by decide +kernel
theorem dX8_quiet_16 : decode cX8_quiet 16 = .ok (.invokevirtual 201, 3) := by decide +kernel
theorem dX8_quiet_19 : decode cX8_quiet 19 = .ok (.iconst 0, 1) := by decide +kernel
theorem dX8_quiet_20 : decode cX8_quiet 20 = .ok (.istore_n 1, 1) := by decide +kernel
theorem dX8_quiet_21 : decode cX8_quiet 21 = .ok (.iload_n 1, 1) := by decide +kernel
theorem dX8_quiet_22 : decode cX8_quiet 22 = .ok (.bipush 60, 2) := by decide +kernel
theorem dX8_quiet_24 : decode cX8_quiet 24 = .ok (.if_icmp .gt 30, 3) := by decide +kernel
theorem dX8_quiet_27 : decode cX8_quiet 27 = .ok (.aload_n 0, 1) := by decide +kernel
theorem dX8_quiet_28 : decode cX8_quiet 28 = .ok (.getfield 25, 3) := by decide +kernel
theorem dX8_quiet_31 : decode cX8_quiet 31 = .ok (.invokestatic 164, 3) := by decide +kernel
theorem dX8_quiet_34 : decode cX8_quiet 34 = .ok (.ifCond .ne 5, 3) := by decide +kernel
theorem dX8_quiet_37 : decode cX8_quiet 37 = .ok (.iload_n 1, 1) := by decide +kernel
theorem dX8_quiet_38 : decode cX8_quiet 38 = .ok (.ireturn, 1) := by decide +kernel
theorem dX8_quiet_39 : decode cX8_quiet 39 = .ok (.aload_n 0, 1) := by decide +kernel
theorem dX8_quiet_40 : decode cX8_quiet 40 = .ok (.aload_n 0, 1) := by decide +kernel
theorem dX8_quiet_41 : decode cX8_quiet 41 = .ok (.getfield 25, 3) := by decide +kernel
theorem dX8_quiet_44 : decode cX8_quiet 44 = .ok (.invokevirtual 168, 3) := by decide +kernel
theorem dX8_quiet_47 : decode cX8_quiet 47 = .ok (.istore_n 2, 1) := by decide +kernel
theorem dX8_quiet_48 : decode cX8_quiet 48 = .ok (.iinc 1 1, 3) := by decide +kernel
theorem dX8_quiet_51 : decode cX8_quiet 51 = .ok (.goto (-30), 3) := by decide +kernel
theorem dX8_quiet_54 : decode cX8_quiet 54 = .ok (.ldc 90, 2) := by decide +kernel
theorem dX8_quiet_56 : decode cX8_quiet 56 = .ok (.ireturn, 1) := by decide +kernel
theorem dX8_shuts_0 : decode cX8_shuts 0 = .ok (.aload_n 0, 1) := by decide +kernel
theorem dX8_shuts_1 : decode cX8_shuts 1 = .ok (.iconst 0, 1) := by decide +kernel
theorem dX8_shuts_2 : decode cX8_shuts 2 = .ok (.putfield 47, 3) := by decide +kernel
theorem dX8_shuts_5 : decode cX8_shuts 5 = .ok (.aload_n 0, 1) := by decide +kernel
theorem dX8_shuts_6 : decode cX8_shuts 6 = .ok (.invokevirtual 171, 3) := by decide +kernel
theorem dX8_shuts_9 : decode cX8_shuts 9 = .ok (.ifCond .ne 6, 3) := by decide +kernel
theorem dX8_shuts_12 : decode cX8_shuts 12 = .ok (.ldc 174, 2) := by decide +kernel
theorem dX8_shuts_14 : decode cX8_shuts 14 = .ok (.ireturn, 1) := by decide +kernel
theorem dX8_shuts_15 : decode cX8_shuts 15 = .ok (.aload_n 0, 1) := by decide +kernel
theorem dX8_shuts_16 : decode cX8_shuts 16 = .ok (.iload_n 1, 1) := by decide +kernel
theorem dX8_shuts_17 : decode cX8_shuts 17 = .ok (.invokevirtual 180, 3) := by decide +kernel
theorem dX8_shuts_20 : decode cX8_shuts 20 = .ok (.ifCond .eq 34, 3) := by decide +kernel
theorem dX8_shuts_23 : decode cX8_shuts 23 = .ok (.aload_n 0, 1) := by decide +kernel
theorem dX8_shuts_24 : decode cX8_shuts 24 = .ok (.iload_n 2, 1) := by decide +kernel
theorem dX8_shuts_25 : decode cX8_shuts 25 = .ok (.invokevirtual 210, 3) := by decide +kernel
theorem dX8_shuts_28 : decode cX8_shuts 28 = .ok (.ifCond .eq 26, 3) := by decide +kernel
theorem dX8_shuts_31 : decode cX8_shuts 31 = .ok (.iload_n 3, 1) := by decide +kernel
theorem dX8_shuts_32 : decode cX8_shuts 32 = .ok (.i2l, 1) := by decide +kernel
theorem dX8_shuts_33 : decode cX8_shuts 33 = .ok (.lconst 1, 1) := by decide +kernel
theorem dX8_shuts_34 : decode cX8_shuts 34 = .ok (.ldc2_w 213, 3) := by decide +kernel
theorem dX8_shuts_37 : decode cX8_shuts 37 = .ok (.invokestatic 57, 3) := by decide +kernel
theorem dX8_shuts_40 : decode cX8_shuts 40 = .ok (.ifCond .eq 14, 3) := by decide +kernel
theorem dX8_shuts_43 : decode cX8_shuts 43 = .ok (.iload 4, 2) := by decide +kernel
theorem dX8_shuts_45 : decode cX8_shuts 45 = .ok (.i2l, 1) := by decide +kernel
theorem dX8_shuts_46 : decode cX8_shuts 46 = .ok (.lconst 0, 1) := by decide +kernel
theorem dX8_shuts_47 : decode cX8_shuts 47 = .ok (.lconst 1, 1) := by decide +kernel
theorem dX8_shuts_48 : decode cX8_shuts 48 = .ok (.invokestatic 57, 3) := by decide +kernel
theorem dX8_shuts_51 : decode cX8_shuts 51 = .ok (.ifCond .ne 6, 3) := by decide +kernel
theorem dX8_shuts_54 : decode cX8_shuts 54 = .ok (.ldc 67, 2) := by decide +kernel
theorem dX8_shuts_56 : decode cX8_shuts 56 = .ok (.ireturn, 1) := by decide +kernel
theorem dX8_shuts_57 : decode cX8_shuts 57 = .ok (.ldc 90, 2) := by decide +kernel
theorem dX8_shuts_59 : decode cX8_shuts 59 = .ok (.istore 5, 2) := by decide +kernel
theorem dX8_shuts_61 : decode cX8_shuts 61 = .ok (.iconst 0, 1) := by decide +kernel
theorem dX8_shuts_62 : decode cX8_shuts 62 = .ok (.istore 6, 2) := by decide +kernel
theorem dX8_shuts_64 : decode cX8_shuts 64 = .ok (.iload 6, 2) := by decide +kernel
theorem dX8_shuts_66 : decode cX8_shuts 66 = .ok (.aload_n 0, 1) := by decide +kernel
theorem dX8_shuts_67 : decode cX8_shuts 67 = .ok (.getfield 19, 3) := by decide +kernel
theorem dX8_shuts_70 : decode cX8_shuts 70 = .ok (.iconst 4, 1) := by decide +kernel
theorem dX8_shuts_71 : decode cX8_shuts 71 = .ok (.iaload, 1) := by decide +kernel
theorem dX8_shuts_72 : decode cX8_shuts 72 = .ok (.if_icmp .gt 92, 3) := by decide +kernel
theorem dX8_shuts_75 : decode cX8_shuts 75 = .ok (.iload 6, 2) := by decide +kernel
theorem dX8_shuts_77 : decode cX8_shuts 77 = .ok (.aload_n 0, 1) := by decide +kernel
theorem dX8_shuts_78 : decode cX8_shuts 78 = .ok (.getfield 19, 3) := by decide +kernel
theorem dX8_shuts_81 : decode cX8_shuts 81 = .ok (.iconst 4, 1) := by decide +kernel
theorem dX8_shuts_82 : decode cX8_shuts 82 = .ok (.iaload, 1) := by decide +kernel
theorem dX8_shuts_83 : decode cX8_shuts 83 = .ok (.iconst (-1), 1) := by decide +kernel
theorem dX8_shuts_84 : decode cX8_shuts 84 = .ok (.ixor, 1) := by decide +kernel
theorem dX8_shuts_85 : decode cX8_shuts 85 = .ok (.iand, 1) := by decide +kernel
theorem dX8_shuts_86 : decode cX8_shuts 86 = .ok (.ifCond .ne 72, 3) := by decide +kernel
theorem dX8_shuts_89 : decode cX8_shuts 89 = .ok (.iload 5, 2) := by decide +kernel
theorem dX8_shuts_91 : decode cX8_shuts 91 = .ok (.ldc 90, 2) := by decide +kernel
theorem dX8_shuts_93 : decode cX8_shuts 93 = .ok (.if_icmp .eq 16, 3) := by decide +kernel
theorem dX8_shuts_96 : decode cX8_shuts 96 = .ok (.iload 6, 2) := by decide +kernel
theorem dX8_shuts_98 : decode cX8_shuts 98 = .ok (.invokestatic 215, 3) := by decide +kernel
theorem dX8_shuts_101 : decode cX8_shuts 101 = .ok (.iload 5, 2) := by decide +kernel
theorem dX8_shuts_103 : decode cX8_shuts 103 = .ok (.invokestatic 215, 3) := by decide +kernel
theorem dX8_shuts_106 : decode cX8_shuts 106 = .ok (.if_icmp .ge 52, 3) := by decide +kernel
theorem dX8_shuts_109 : decode cX8_shuts 109 = .ok (.aload_n 0, 1) := by decide +kernel
theorem dX8_shuts_110 : decode cX8_shuts 110 = .ok (.invokevirtual 201, 3) := by decide +kernel
theorem dX8_shuts_113 : decode cX8_shuts 113 = .ok (.aload_n 0, 1) := by decide +kernel
theorem dX8_shuts_114 : decode cX8_shuts 114 = .ok (.getfield 25, 3) := by decide +kernel
theorem dX8_shuts_117 : decode cX8_shuts 117 = .ok (.iconst 4, 1) := by decide +kernel
theorem dX8_shuts_118 : decode cX8_shuts 118 = .ok (.dup2, 1) := by decide +kernel
theorem dX8_shuts_119 : decode cX8_shuts 119 = .ok (.iaload, 1) := by decide +kernel
theorem dX8_shuts_120 : decode cX8_shuts 120 = .ok (.iload 6, 2) := by decide +kernel
theorem dX8_shuts_122 : decode cX8_shuts 122 = .ok (.iconst (-1), 1) := by decide +kernel
theorem dX8_shuts_123 : decode cX8_shuts 123 = .ok (.ixor, 1) := by decide +kernel
theorem dX8_shuts_124 : decode cX8_shuts 124 = .ok (.iand, 1) := by decide +kernel
theorem dX8_shuts_125 : decode cX8_shuts 125 = .ok (.iastore, 1) := by decide +kernel
theorem dX8_shuts_126 : decode cX8_shuts 126 = .ok (.aload_n 0, 1) := by decide +kernel
theorem dX8_shuts_127 : decode cX8_shuts 127 = .ok (.getfield 25, 3) := by decide +kernel
theorem dX8_shuts_130 : decode cX8_shuts 130 = .ok (.iload_n 1, 1) := by decide +kernel
theorem dX8_shuts_131 : decode cX8_shuts 131 = .ok (.iconst 0, 1) := by decide +kernel
theorem dX8_shuts_132 : decode cX8_shuts 132 = .ok (.bipush 50, 2) := by decide +kernel
theorem dX8_shuts_134 : decode cX8_shuts 134 = .ok (.invokestatic 187, 3) := by decide +kernel
theorem dX8_shuts_137 : decode cX8_shuts 137 = .ok (.istore 7, 2) := by decide +kernel
theorem dX8_shuts_139 : decode cX8_shuts 139 = .ok (.aload_n 0, 1) := by decide +kernel
theorem dX8_shuts_140 : decode cX8_shuts 140 = .ok (.iload_n 3, 1) := by decide +kernel
theorem dX8_shuts_141 : decode cX8_shuts 141 = .ok (.invokevirtual 204, 3) := by decide +kernel
theorem dX8_shuts_144 : decode cX8_shuts 144 = .ok (.iload_n 2, 1) := by decide +kernel
theorem dX8_shuts_145 : decode cX8_shuts 145 = .ok (.iand, 1) := by decide +kernel
theorem dX8_shuts_146 : decode cX8_shuts 146 = .ok (.ifCond .ne 8, 3) := by decide +kernel
theorem dX8_shuts_149 : decode cX8_shuts 149 = .ok (.iload 6, 2) := by decide +kernel
theorem dX8_shuts_151 : decode cX8_shuts 151 = .ok (.goto 5, 3) := by decide +kernel
theorem dX8_shuts_154 : decode cX8_shuts 154 = .ok (.iload 5, 2) := by decide +kernel
theorem dX8_shuts_156 : decode cX8_shuts 156 = .ok (.istore 5, 2) := by decide +kernel
theorem dX8_shuts_158 : decode cX8_shuts 158 = .ok (.iinc 6 1, 3) := by decide +kernel
theorem dX8_shuts_161 : decode cX8_shuts 161 = .ok (.goto (-97), 3) := by decide +kernel
theorem dX8_shuts_164 : decode cX8_shuts 164 = .ok (.iload 5, 2) := by decide +kernel
theorem dX8_shuts_166 : decode cX8_shuts 166 = .ok (.ldc 90, 2) := by decide +kernel
theorem dX8_shuts_168 : decode cX8_shuts 168 = .ok (.if_icmp .eq 9, 3) := by decide +kernel
theorem dX8_shuts_171 : decode cX8_shuts 171 = .ok (.iload 4, 2) := by decide +kernel
theorem dX8_shuts_173 : decode cX8_shuts 173 = .ok (.iconst 1, 1) := by decide +kernel
theorem dX8_shuts_174 : decode cX8_shuts 174 = .ok (.if_icmp .ne 8, 3) := by decide +kernel
theorem dX8_shuts_177 : decode cX8_shuts 177 = .ok (.iload 5, 2) := by decide +kernel
theorem dX8_shuts_179 : decode cX8_shuts 179 = .ok (.goto 8, 3) := by decide +kernel
theorem dX8_shuts_182 : decode cX8_shuts 182 = .ok (.iload 5, 2) := by decide +kernel
theorem dX8_shuts_184 : decode cX8_shuts 184 = .ok (.invokestatic 215, 3) := by decide +kernel
theorem dX8_shuts_187 : decode cX8_shuts 187 = .ok (.ireturn, 1) := by decide +kernel
theorem dX8_opens_0 : decode cX8_opens 0 = .ok (.aload_n 0, 1) := by decide +kernel
theorem dX8_opens_1 : decode cX8_opens 1 = .ok (.iconst 0, 1) := by decide +kernel
theorem dX8_opens_2 : decode cX8_opens 2 = .ok (.putfield 47, 3) := by decide +kernel
theorem dX8_opens_5 : decode cX8_opens 5 = .ok (.aload_n 0, 1) := by decide +kernel
theorem dX8_opens_6 : decode cX8_opens 6 = .ok (.iload_n 1, 1) := by decide +kernel
theorem dX8_opens_7 : decode cX8_opens 7 = .ok (.invokevirtual 180, 3) := by decide +kernel
theorem dX8_opens_10 : decode cX8_opens 10 = .ok (.ifCond .eq 34, 3) := by decide +kernel
theorem dX8_opens_13 : decode cX8_opens 13 = .ok (.aload_n 0, 1) := by decide +kernel
theorem dX8_opens_14 : decode cX8_opens 14 = .ok (.iload_n 2, 1) := by decide +kernel
theorem dX8_opens_15 : decode cX8_opens 15 = .ok (.invokevirtual 180, 3) := by decide +kernel
theorem dX8_opens_18 : decode cX8_opens 18 = .ok (.ifCond .eq 26, 3) := by decide +kernel
theorem dX8_opens_21 : decode cX8_opens 21 = .ok (.iload_n 3, 1) := by decide +kernel
theorem dX8_opens_22 : decode cX8_opens 22 = .ok (.i2l, 1) := by decide +kernel
theorem dX8_opens_23 : decode cX8_opens 23 = .ok (.lconst 1, 1) := by decide +kernel
theorem dX8_opens_24 : decode cX8_opens 24 = .ok (.ldc2_w 213, 3) := by decide +kernel
theorem dX8_opens_27 : decode cX8_opens 27 = .ok (.invokestatic 57, 3) := by decide +kernel
theorem dX8_opens_30 : decode cX8_opens 30 = .ok (.ifCond .eq 14, 3) := by decide +kernel
theorem dX8_opens_33 : decode cX8_opens 33 = .ok (.iload 4, 2) := by decide +kernel
theorem dX8_opens_35 : decode cX8_opens 35 = .ok (.i2l, 1) := by decide +kernel
theorem dX8_opens_36 : decode cX8_opens 36 = .ok (.lconst 0, 1) := by decide +kernel
theorem dX8_opens_37 : decode cX8_opens 37 = .ok (.lconst 1, 1) := by decide +kernel
theorem dX8_opens_38 : decode cX8_opens 38 = .ok (.invokestatic 57, 3) := by decide +kernel
theorem dX8_opens_41 : decode cX8_opens 41 = .ok (.ifCond .ne 6, 3) := by decide +kernel
theorem dX8_opens_44 : decode cX8_opens 44 = .ok (.ldc 67, 2) := by decide +kernel
theorem dX8_opens_46 : decode cX8_opens 46 = .ok (.ireturn, 1) := by decide +kernel
theorem dX8_opens_47 : decode cX8_opens 47 = .ok (.iconst 1, 1) := by decide +kernel
theorem dX8_opens_48 : decode cX8_opens 48 = .ok (.aload_n 0, 1) := by decide +kernel
theorem dX8_opens_49 : decode cX8_opens 49 = .ok (.getfield 19, 3) := by decide +kernel
theorem dX8_opens_52 : decode cX8_opens 52 = .ok (.iconst 2, 1) := by decide +kernel
theorem dX8_opens_53 : decode cX8_opens 53 = .ok (.iaload, 1) := by decide +kernel
theorem dX8_opens_54 : decode cX8_opens 54 = .ok (.ishl, 1) := by decide +kernel
theorem dX8_opens_55 : decode cX8_opens 55 = .ok (.iconst 1, 1) := by decide +kernel
theorem dX8_opens_56 : decode cX8_opens 56 = .ok (.isub, 1) := by decide +kernel
theorem dX8_opens_57 : decode cX8_opens 57 = .ok (.aload_n 0, 1) := by decide +kernel
theorem dX8_opens_58 : decode cX8_opens 58 = .ok (.getfield 19, 3) := by decide +kernel
theorem dX8_opens_61 : decode cX8_opens 61 = .ok (.iconst 4, 1) := by decide +kernel
theorem dX8_opens_62 : decode cX8_opens 62 = .ok (.iaload, 1) := by decide +kernel
theorem dX8_opens_63 : decode cX8_opens 63 = .ok (.iconst (-1), 1) := by decide +kernel
theorem dX8_opens_64 : decode cX8_opens 64 = .ok (.ixor, 1) := by decide +kernel
theorem dX8_opens_65 : decode cX8_opens 65 = .ok (.iand, 1) := by decide +kernel
theorem dX8_opens_66 : decode cX8_opens 66 = .ok (.istore 5, 2) := by decide +kernel
theorem dX8_opens_68 : decode cX8_opens 68 = .ok (.ldc 90, 2) := by decide +kernel
theorem dX8_opens_70 : decode cX8_opens 70 = .ok (.istore 6, 2) := by decide +kernel
theorem dX8_opens_72 : decode cX8_opens 72 = .ok (.iconst 0, 1) := by decide +kernel
theorem dX8_opens_73 : decode cX8_opens 73 = .ok (.istore 7, 2) := by decide +kernel
theorem dX8_opens_75 : decode cX8_opens 75 = .ok (.iload 7, 2) := by decide +kernel
theorem dX8_opens_77 : decode cX8_opens 77 = .ok (.iload 5, 2) := by decide +kernel
theorem dX8_opens_79 : decode cX8_opens 79 = .ok (.if_icmp .gt 88, 3) := by decide +kernel
theorem dX8_opens_82 : decode cX8_opens 82 = .ok (.iload 7, 2) := by decide +kernel
theorem dX8_opens_84 : decode cX8_opens 84 = .ok (.iload 5, 2) := by decide +kernel
theorem dX8_opens_86 : decode cX8_opens 86 = .ok (.iconst (-1), 1) := by decide +kernel
theorem dX8_opens_87 : decode cX8_opens 87 = .ok (.ixor, 1) := by decide +kernel
theorem dX8_opens_88 : decode cX8_opens 88 = .ok (.iand, 1) := by decide +kernel
theorem dX8_opens_89 : decode cX8_opens 89 = .ok (.ifCond .ne 72, 3) := by decide +kernel
theorem dX8_opens_92 : decode cX8_opens 92 = .ok (.iload 6, 2) := by decide +kernel
theorem dX8_opens_94 : decode cX8_opens 94 = .ok (.ldc 90, 2) := by decide +kernel
theorem dX8_opens_96 : decode cX8_opens 96 = .ok (.if_icmp .eq 16, 3) := by decide +kernel
theorem dX8_opens_99 : decode cX8_opens 99 = .ok (.iload 7, 2) := by decide +kernel
theorem dX8_opens_101 : decode cX8_opens 101 = .ok (.invokestatic 215, 3) := by decide +kernel
theorem dX8_opens_104 : decode cX8_opens 104 = .ok (.iload 6, 2) := by decide +kernel
theorem dX8_opens_106 : decode cX8_opens 106 = .ok (.invokestatic 215, 3) := by decide +kernel
theorem dX8_opens_109 : decode cX8_opens 109 = .ok (.if_icmp .ge 52, 3) := by decide +kernel
theorem dX8_opens_112 : decode cX8_opens 112 = .ok (.aload_n 0, 1) := by decide +kernel
theorem dX8_opens_113 : decode cX8_opens 113 = .ok (.invokevirtual 201, 3) := by decide +kernel
theorem dX8_opens_116 : decode cX8_opens 116 = .ok (.aload_n 0, 1) := by decide +kernel
theorem dX8_opens_117 : decode cX8_opens 117 = .ok (.getfield 25, 3) := by decide +kernel
theorem dX8_opens_120 : decode cX8_opens 120 = .ok (.iconst 4, 1) := by decide +kernel
theorem dX8_opens_121 : decode cX8_opens 121 = .ok (.dup2, 1) := by decide +kernel
theorem dX8_opens_122 : decode cX8_opens 122 = .ok (.iaload, 1) := by decide +kernel
theorem dX8_opens_123 : decode cX8_opens 123 = .ok (.iload 7, 2) := by decide +kernel
theorem dX8_opens_125 : decode cX8_opens 125 = .ok (.ior, 1) := by decide +kernel
theorem dX8_opens_126 : decode cX8_opens 126 = .ok (.iastore, 1) := by decide +kernel
theorem dX8_opens_127 : decode cX8_opens 127 = .ok (.aload_n 0, 1) := by decide +kernel
theorem dX8_opens_128 : decode cX8_opens 128 = .ok (.getfield 25, 3) := by decide +kernel
theorem dX8_opens_131 : decode cX8_opens 131 = .ok (.iload_n 1, 1) := by decide +kernel
theorem dX8_opens_132 : decode cX8_opens 132 = .ok (.iconst 0, 1) := by decide +kernel
theorem dX8_opens_133 : decode cX8_opens 133 = .ok (.bipush 50, 2) := by decide +kernel
theorem dX8_opens_135 : decode cX8_opens 135 = .ok (.invokestatic 187, 3) := by decide +kernel
theorem dX8_opens_138 : decode cX8_opens 138 = .ok (.istore 8, 2) := by decide +kernel
theorem dX8_opens_140 : decode cX8_opens 140 = .ok (.aload_n 0, 1) := by decide +kernel
theorem dX8_opens_141 : decode cX8_opens 141 = .ok (.iload_n 3, 1) := by decide +kernel
theorem dX8_opens_142 : decode cX8_opens 142 = .ok (.invokevirtual 204, 3) := by decide +kernel
theorem dX8_opens_145 : decode cX8_opens 145 = .ok (.iload_n 2, 1) := by decide +kernel
theorem dX8_opens_146 : decode cX8_opens 146 = .ok (.invokestatic 157, 3) := by decide +kernel
theorem dX8_opens_149 : decode cX8_opens 149 = .ok (.ifCond .eq 8, 3) := by decide +kernel
theorem dX8_opens_152 : decode cX8_opens 152 = .ok (.iload 7, 2) := by decide +kernel
theorem dX8_opens_154 : decode cX8_opens 154 = .ok (.goto 5, 3) := by decide +kernel
theorem dX8_opens_157 : decode cX8_opens 157 = .ok (.iload 6, 2) := by decide +kernel
theorem dX8_opens_159 : decode cX8_opens 159 = .ok (.istore 6, 2) := by decide +kernel
theorem dX8_opens_161 : decode cX8_opens 161 = .ok (.iinc 7 1, 3) := by decide +kernel
theorem dX8_opens_164 : decode cX8_opens 164 = .ok (.goto (-89), 3) := by decide +kernel
theorem dX8_opens_167 : decode cX8_opens 167 = .ok (.iload 6, 2) := by decide +kernel
theorem dX8_opens_169 : decode cX8_opens 169 = .ok (.ldc 90, 2) := by decide +kernel
theorem dX8_opens_171 : decode cX8_opens 171 = .ok (.if_icmp .eq 9, 3) := by decide +kernel
theorem dX8_opens_174 : decode cX8_opens 174 = .ok (.iload 4, 2) := by decide +kernel
theorem dX8_opens_176 : decode cX8_opens 176 = .ok (.iconst 1, 1) := by decide +kernel
theorem dX8_opens_177 : decode cX8_opens 177 = .ok (.if_icmp .ne 8, 3) := by decide +kernel
theorem dX8_opens_180 : decode cX8_opens 180 = .ok (.iload 6, 2) := by decide +kernel
theorem dX8_opens_182 : decode cX8_opens 182 = .ok (.goto 8, 3) := by decide +kernel
theorem dX8_opens_185 : decode cX8_opens 185 = .ok (.iload 6, 2) := by decide +kernel
theorem dX8_opens_187 : decode cX8_opens 187 = .ok (.invokestatic 215, 3) := by decide +kernel
theorem dX8_opens_190 : decode cX8_opens 190 = .ok (.ireturn, 1) := by decide +kernel
theorem dX8_loud_0 : decode cX8_loud 0 = .ok (.aload_n 0, 1) := by decide +kernel
theorem dX8_loud_1 : decode cX8_loud 1 = .ok (.iconst 0, 1) := by decide +kernel
theorem dX8_loud_2 : decode cX8_loud 2 = .ok (.putfield 47, 3) := by decide +kernel
theorem dX8_loud_5 : decode cX8_loud 5 = .ok (.aload_n 0, 1) := by decide +kernel
theorem dX8_loud_6 : decode cX8_loud 6 = .ok (.iload_n 1, 1) := by decide +kernel
theorem dX8_loud_7 : decode cX8_loud 7 = .ok (.invokevirtual 180, 3) := by decide +kernel
theorem dX8_loud_10 : decode cX8_loud 10 = .ok (.ifCond .eq 23, 3) := by decide +kernel
theorem dX8_loud_13 : decode cX8_loud 13 = .ok (.aload_n 0, 1) := by decide +kernel
theorem dX8_loud_14 : decode cX8_loud 14 = .ok (.iload_n 2, 1) := by decide +kernel
theorem dX8_loud_15 : decode cX8_loud 15 = .ok (.invokevirtual 180, 3) := by decide +kernel
theorem dX8_loud_18 : decode cX8_loud 18 = .ok (.ifCond .eq 15, 3) := by decide +kernel
theorem dX8_loud_21 : decode cX8_loud 21 = .ok (.iload_n 3, 1) := by decide +kernel
theorem dX8_loud_22 : decode cX8_loud 22 = .ok (.i2l, 1) := by decide +kernel
theorem dX8_loud_23 : decode cX8_loud 23 = .ok (.lconst 1, 1) := by decide +kernel
theorem dX8_loud_24 : decode cX8_loud 24 = .ok (.ldc2_w 213, 3) := by decide +kernel
theorem dX8_loud_27 : decode cX8_loud 27 = .ok (.invokestatic 57, 3) := by decide +kernel
theorem dX8_loud_30 : decode cX8_loud 30 = .ok (.ifCond .ne 6, 3) := by decide +kernel
theorem dX8_loud_33 : decode cX8_loud 33 = .ok (.ldc 67, 2) := by decide +kernel
theorem dX8_loud_35 : decode cX8_loud 35 = .ok (.ireturn, 1) := by decide +kernel
theorem dX8_loud_36 : decode cX8_loud 36 = .ok (.iconst 1, 1) := by decide +kernel
theorem dX8_loud_37 : decode cX8_loud 37 = .ok (.istore 4, 2) := by decide +kernel
theorem dX8_loud_39 : decode cX8_loud 39 = .ok (.iload 4, 2) := by decide +kernel
theorem dX8_loud_41 : decode cX8_loud 41 = .ok (.bipush 100, 2) := by decide +kernel
theorem dX8_loud_43 : decode cX8_loud 43 = .ok (.if_icmp .ge 41, 3) := by decide +kernel
theorem dX8_loud_46 : decode cX8_loud 46 = .ok (.aload_n 0, 1) := by decide +kernel
theorem dX8_loud_47 : decode cX8_loud 47 = .ok (.invokevirtual 201, 3) := by decide +kernel
theorem dX8_loud_50 : decode cX8_loud 50 = .ok (.aload_n 0, 1) := by decide +kernel
theorem dX8_loud_51 : decode cX8_loud 51 = .ok (.getfield 25, 3) := by decide +kernel
theorem dX8_loud_54 : decode cX8_loud 54 = .ok (.iload_n 1, 1) := by decide +kernel
theorem dX8_loud_55 : decode cX8_loud 55 = .ok (.iconst 0, 1) := by decide +kernel
theorem dX8_loud_56 : decode cX8_loud 56 = .ok (.iload 4, 2) := by decide +kernel
theorem dX8_loud_58 : decode cX8_loud 58 = .ok (.invokestatic 187, 3) := by decide +kernel
theorem dX8_loud_61 : decode cX8_loud 61 = .ok (.istore 5, 2) := by decide +kernel
theorem dX8_loud_63 : decode cX8_loud 63 = .ok (.aload_n 0, 1) := by decide +kernel
theorem dX8_loud_64 : decode cX8_loud 64 = .ok (.iload_n 3, 1) := by decide +kernel
theorem dX8_loud_65 : decode cX8_loud 65 = .ok (.invokevirtual 204, 3) := by decide +kernel
theorem dX8_loud_68 : decode cX8_loud 68 = .ok (.iload_n 2, 1) := by decide +kernel
theorem dX8_loud_69 : decode cX8_loud 69 = .ok (.invokestatic 157, 3) := by decide +kernel
theorem dX8_loud_72 : decode cX8_loud 72 = .ok (.ifCond .eq 6, 3) := by decide +kernel
theorem dX8_loud_75 : decode cX8_loud 75 = .ok (.iload 4, 2) := by decide +kernel
theorem dX8_loud_77 : decode cX8_loud 77 = .ok (.ireturn, 1) := by decide +kernel
theorem dX8_loud_78 : decode cX8_loud 78 = .ok (.iinc 4 1, 3) := by decide +kernel
theorem dX8_loud_81 : decode cX8_loud 81 = .ok (.goto (-42), 3) := by decide +kernel
theorem dX8_loud_84 : decode cX8_loud 84 = .ok (.ldc 90, 2) := by decide +kernel
theorem dX8_loud_86 : decode cX8_loud 86 = .ok (.ireturn, 1) := by decide +kernel
theorem dX8_say_0 : decode cX8_say 0 = .ok (.aload_n 0, 1) := by decide +kernel
theorem dX8_say_1 : decode cX8_say 1 = .ok (.iconst 0, 1) := by decide +kernel
theorem dX8_say_2 : decode cX8_say 2 = .ok (.putfield 47, 3) := by decide +kernel
theorem dX8_say_5 : decode cX8_say 5 = .ok (.aload_n 0, 1) := by decide +kernel
theorem dX8_say_6 : decode cX8_say 6 = .ok (.iload_n 1, 1) := by decide +kernel
theorem dX8_say_7 : decode cX8_say 7 = .ok (.invokevirtual 180, 3) := by decide +kernel
theorem dX8_say_10 : decode cX8_say 10 = .ok (.ifCond .eq 36, 3) := by decide +kernel
theorem dX8_say_13 : decode cX8_say 13 = .ok (.aload_n 0, 1) := by decide +kernel
theorem dX8_say_14 : decode cX8_say 14 = .ok (.iload_n 2, 1) := by decide +kernel
theorem dX8_say_15 : decode cX8_say 15 = .ok (.invokevirtual 180, 3) := by decide +kernel
theorem dX8_say_18 : decode cX8_say 18 = .ok (.ifCond .eq 28, 3) := by decide +kernel
theorem dX8_say_21 : decode cX8_say 21 = .ok (.iload_n 3, 1) := by decide +kernel
theorem dX8_say_22 : decode cX8_say 22 = .ok (.i2l, 1) := by decide +kernel
theorem dX8_say_23 : decode cX8_say 23 = .ok (.lconst 0, 1) := by decide +kernel
theorem dX8_say_24 : decode cX8_say 24 = .ok (.ldc2_w 183, 3) := by decide +kernel
theorem dX8_say_27 : decode cX8_say 27 = .ok (.invokestatic 57, 3) := by decide +kernel
theorem dX8_say_30 : decode cX8_say 30 = .ok (.ifCond .eq 16, 3) := by decide +kernel
theorem dX8_say_33 : decode cX8_say 33 = .ok (.iload 4, 2) := by decide +kernel
theorem dX8_say_35 : decode cX8_say 35 = .ok (.i2l, 1) := by decide +kernel
theorem dX8_say_36 : decode cX8_say 36 = .ok (.lconst 1, 1) := by decide +kernel
theorem dX8_say_37 : decode cX8_say 37 = .ok (.ldc2_w 213, 3) := by decide +kernel
theorem dX8_say_40 : decode cX8_say 40 = .ok (.invokestatic 57, 3) := by decide +kernel
theorem dX8_say_43 : decode cX8_say 43 = .ok (.ifCond .ne 6, 3) := by decide +kernel
theorem dX8_say_46 : decode cX8_say 46 = .ok (.ldc 67, 2) := by decide +kernel
theorem dX8_say_48 : decode cX8_say 48 = .ok (.ireturn, 1) := by decide +kernel
theorem dX8_say_49 : decode cX8_say 49 = .ok (.iconst 0, 1) := by decide +kernel
theorem dX8_say_50 : decode cX8_say 50 = .ok (.istore 5, 2) := by decide +kernel
theorem dX8_say_52 : decode cX8_say 52 = .ok (.iconst 0, 1) := by decide +kernel
theorem dX8_say_53 : decode cX8_say 53 = .ok (.istore 6, 2) := by decide +kernel
theorem dX8_say_55 : decode cX8_say 55 = .ok (.iload 6, 2) := by decide +kernel
theorem dX8_say_57 : decode cX8_say 57 = .ok (.bipush 10, 2) := by decide +kernel
theorem dX8_say_59 : decode cX8_say 59 = .ok (.if_icmp .ge 96, 3) := by decide +kernel
theorem dX8_say_62 : decode cX8_say 62 = .ok (.aload_n 0, 1) := by decide +kernel
theorem dX8_say_63 : decode cX8_say 63 = .ok (.invokevirtual 201, 3) := by decide +kernel
theorem dX8_say_66 : decode cX8_say 66 = .ok (.aload_n 0, 1) := by decide +kernel
theorem dX8_say_67 : decode cX8_say 67 = .ok (.getfield 25, 3) := by decide +kernel
theorem dX8_say_70 : decode cX8_say 70 = .ok (.iload_n 1, 1) := by decide +kernel
theorem dX8_say_71 : decode cX8_say 71 = .ok (.iload 6, 2) := by decide +kernel
theorem dX8_say_73 : decode cX8_say 73 = .ok (.bipush 60, 2) := by decide +kernel
theorem dX8_say_75 : decode cX8_say 75 = .ok (.invokestatic 187, 3) := by decide +kernel
theorem dX8_say_78 : decode cX8_say 78 = .ok (.istore 7, 2) := by decide +kernel
theorem dX8_say_80 : decode cX8_say 80 = .ok (.iconst 0, 1) := by decide +kernel
theorem dX8_say_81 : decode cX8_say 81 = .ok (.istore 8, 2) := by decide +kernel
theorem dX8_say_83 : decode cX8_say 83 = .ok (.iload 8, 2) := by decide +kernel
theorem dX8_say_85 : decode cX8_say 85 = .ok (.iload 4, 2) := by decide +kernel
theorem dX8_say_87 : decode cX8_say 87 = .ok (.if_icmp .ge 62, 3) := by decide +kernel
theorem dX8_say_90 : decode cX8_say 90 = .ok (.aload_n 0, 1) := by decide +kernel
theorem dX8_say_91 : decode cX8_say 91 = .ok (.aload_n 0, 1) := by decide +kernel
theorem dX8_say_92 : decode cX8_say 92 = .ok (.getfield 25, 3) := by decide +kernel
theorem dX8_say_95 : decode cX8_say 95 = .ok (.invokevirtual 168, 3) := by decide +kernel
theorem dX8_say_98 : decode cX8_say 98 = .ok (.iload_n 2, 1) := by decide +kernel
theorem dX8_say_99 : decode cX8_say 99 = .ok (.invokestatic 157, 3) := by decide +kernel
theorem dX8_say_102 : decode cX8_say 102 = .ok (.ifCond .eq 20, 3) := by decide +kernel
theorem dX8_say_105 : decode cX8_say 105 = .ok (.aload_n 0, 1) := by decide +kernel
theorem dX8_say_106 : decode cX8_say 106 = .ok (.getfield 34, 3) := by decide +kernel
theorem dX8_say_109 : decode cX8_say 109 = .ok (.iload_n 2, 1) := by decide +kernel
theorem dX8_say_110 : decode cX8_say 110 = .ok (.iaload, 1) := by decide +kernel
theorem dX8_say_111 : decode cX8_say 111 = .ok (.bipush 100, 2) := by decide +kernel
theorem dX8_say_113 : decode cX8_say 113 = .ok (.idiv, 1) := by decide +kernel
theorem dX8_say_114 : decode cX8_say 114 = .ok (.iload_n 3, 1) := by decide +kernel
theorem dX8_say_115 : decode cX8_say 115 = .ok (.if_icmp .ne 7, 3) := by decide +kernel
theorem dX8_say_118 : decode cX8_say 118 = .ok (.iconst 1, 1) := by decide +kernel
theorem dX8_say_119 : decode cX8_say 119 = .ok (.goto 4, 3) := by decide +kernel
theorem dX8_say_122 : decode cX8_say 122 = .ok (.iconst 0, 1) := by decide +kernel
theorem dX8_say_123 : decode cX8_say 123 = .ok (.istore 9, 2) := by decide +kernel
theorem dX8_say_125 : decode cX8_say 125 = .ok (.iload 5, 2) := by decide +kernel
theorem dX8_say_127 : decode cX8_say 127 = .ok (.iload 9, 2) := by decide +kernel
theorem dX8_say_129 : decode cX8_say 129 = .ok (.ifCond .eq 10, 3) := by decide +kernel
theorem dX8_say_132 : decode cX8_say 132 = .ok (.iconst 1, 1) := by decide +kernel
theorem dX8_say_133 : decode cX8_say 133 = .ok (.iload 6, 2) := by decide +kernel
theorem dX8_say_135 : decode cX8_say 135 = .ok (.ishl, 1) := by decide +kernel
theorem dX8_say_136 : decode cX8_say 136 = .ok (.goto 4, 3) := by decide +kernel
theorem dX8_say_139 : decode cX8_say 139 = .ok (.iconst 0, 1) := by decide +kernel
theorem dX8_say_140 : decode cX8_say 140 = .ok (.ior, 1) := by decide +kernel
theorem dX8_say_141 : decode cX8_say 141 = .ok (.istore 5, 2) := by decide +kernel
theorem dX8_say_143 : decode cX8_say 143 = .ok (.iinc 8 1, 3) := by decide +kernel
theorem dX8_say_146 : decode cX8_say 146 = .ok (.goto (-63), 3) := by decide +kernel
theorem dX8_say_149 : decode cX8_say 149 = .ok (.iinc 6 1, 3) := by decide +kernel
theorem dX8_say_152 : decode cX8_say 152 = .ok (.goto (-97), 3) := by decide +kernel
theorem dX8_say_155 : decode cX8_say 155 = .ok (.iload 5, 2) := by decide +kernel
theorem dX8_say_157 : decode cX8_say 157 = .ok (.ireturn, 1) := by decide +kernel
theorem dX8_round_0 : decode cX8_round 0 = .ok (.aload_n 0, 1) := by decide +kernel
theorem dX8_round_1 : decode cX8_round 1 = .ok (.iconst 0, 1) := by decide +kernel
theorem dX8_round_2 : decode cX8_round 2 = .ok (.putfield 47, 3) := by decide +kernel
theorem dX8_round_5 : decode cX8_round 5 = .ok (.aload_n 0, 1) := by decide +kernel
theorem dX8_round_6 : decode cX8_round 6 = .ok (.iload_n 1, 1) := by decide +kernel
theorem dX8_round_7 : decode cX8_round 7 = .ok (.invokevirtual 180, 3) := by decide +kernel
theorem dX8_round_10 : decode cX8_round 10 = .ok (.ifCond .ne 6, 3) := by decide +kernel
theorem dX8_round_13 : decode cX8_round 13 = .ok (.ldc 67, 2) := by decide +kernel
theorem dX8_round_15 : decode cX8_round 15 = .ok (.ireturn, 1) := by decide +kernel
theorem dX8_round_16 : decode cX8_round 16 = .ok (.aload_n 0, 1) := by decide +kernel
theorem dX8_round_17 : decode cX8_round 17 = .ok (.invokevirtual 201, 3) := by decide +kernel
theorem dX8_round_20 : decode cX8_round 20 = .ok (.aload_n 0, 1) := by decide +kernel
theorem dX8_round_21 : decode cX8_round 21 = .ok (.getfield 25, 3) := by decide +kernel
theorem dX8_round_24 : decode cX8_round 24 = .ok (.invokestatic 194, 3) := by decide +kernel
theorem dX8_round_27 : decode cX8_round 27 = .ok (.istore_n 2, 1) := by decide +kernel
theorem dX8_round_28 : decode cX8_round 28 = .ok (.aload_n 0, 1) := by decide +kernel
theorem dX8_round_29 : decode cX8_round 29 = .ok (.getfield 25, 3) := by decide +kernel
theorem dX8_round_32 : decode cX8_round 32 = .ok (.iload_n 1, 1) := by decide +kernel
theorem dX8_round_33 : decode cX8_round 33 = .ok (.iconst 0, 1) := by decide +kernel
theorem dX8_round_34 : decode cX8_round 34 = .ok (.bipush 90, 2) := by decide +kernel
theorem dX8_round_36 : decode cX8_round 36 = .ok (.invokestatic 187, 3) := by decide +kernel
theorem dX8_round_39 : decode cX8_round 39 = .ok (.istore_n 3, 1) := by decide +kernel
theorem dX8_round_40 : decode cX8_round 40 = .ok (.aload_n 0, 1) := by decide +kernel
theorem dX8_round_41 : decode cX8_round 41 = .ok (.iload_n 1, 1) := by decide +kernel
theorem dX8_round_42 : decode cX8_round 42 = .ok (.invokevirtual 207, 3) := by decide +kernel
theorem dX8_round_45 : decode cX8_round 45 = .ok (.ireturn, 1) := by decide +kernel
theorem dX8_way_0 : decode cX8_way 0 = .ok (.aload_n 0, 1) := by decide +kernel
theorem dX8_way_1 : decode cX8_way 1 = .ok (.iconst 0, 1) := by decide +kernel
theorem dX8_way_2 : decode cX8_way 2 = .ok (.putfield 47, 3) := by decide +kernel
theorem dX8_way_5 : decode cX8_way 5 = .ok (.aload_n 0, 1) := by decide +kernel
theorem dX8_way_6 : decode cX8_way 6 = .ok (.iload_n 1, 1) := by decide +kernel
theorem dX8_way_7 : decode cX8_way 7 = .ok (.invokevirtual 180, 3) := by decide +kernel
theorem dX8_way_10 : decode cX8_way 10 = .ok (.ifCond .eq 11, 3) := by decide +kernel
theorem dX8_way_13 : decode cX8_way 13 = .ok (.aload_n 0, 1) := by decide +kernel
theorem dX8_way_14 : decode cX8_way 14 = .ok (.iload_n 2, 1) := by decide +kernel
theorem dX8_way_15 : decode cX8_way 15 = .ok (.invokevirtual 180, 3) := by decide +kernel
theorem dX8_way_18 : decode cX8_way 18 = .ok (.ifCond .ne 6, 3) := by decide +kernel
theorem dX8_way_21 : decode cX8_way 21 = .ok (.ldc 67, 2) := by decide +kernel
theorem dX8_way_23 : decode cX8_way 23 = .ok (.ireturn, 1) := by decide +kernel
theorem dX8_way_24 : decode cX8_way 24 = .ok (.iconst 1, 1) := by decide +kernel
theorem dX8_way_25 : decode cX8_way 25 = .ok (.iload_n 1, 1) := by decide +kernel
theorem dX8_way_26 : decode cX8_way 26 = .ok (.ishl, 1) := by decide +kernel
theorem dX8_way_27 : decode cX8_way 27 = .ok (.istore_n 3, 1) := by decide +kernel
theorem dX8_way_28 : decode cX8_way 28 = .ok (.iconst 0, 1) := by decide +kernel
theorem dX8_way_29 : decode cX8_way 29 = .ok (.istore 4, 2) := by decide +kernel
theorem dX8_way_31 : decode cX8_way 31 = .ok (.iload 4, 2) := by decide +kernel
theorem dX8_way_33 : decode cX8_way 33 = .ok (.bipush 7, 2) := by decide +kernel
theorem dX8_way_35 : decode cX8_way 35 = .ok (.if_icmp .ge 98, 3) := by decide +kernel
theorem dX8_way_38 : decode cX8_way 38 = .ok (.iload_n 3, 1) := by decide +kernel
theorem dX8_way_39 : decode cX8_way 39 = .ok (.iload_n 2, 1) := by decide +kernel
theorem dX8_way_40 : decode cX8_way 40 = .ok (.invokestatic 157, 3) := by decide +kernel
theorem dX8_way_43 : decode cX8_way 43 = .ok (.ifCond .eq 6, 3) := by decide +kernel
theorem dX8_way_46 : decode cX8_way 46 = .ok (.iload 4, 2) := by decide +kernel
theorem dX8_way_48 : decode cX8_way 48 = .ok (.ireturn, 1) := by decide +kernel
theorem dX8_way_49 : decode cX8_way 49 = .ok (.iload_n 3, 1) := by decide +kernel
theorem dX8_way_50 : decode cX8_way 50 = .ok (.istore 5, 2) := by decide +kernel
theorem dX8_way_52 : decode cX8_way 52 = .ok (.iconst 0, 1) := by decide +kernel
theorem dX8_way_53 : decode cX8_way 53 = .ok (.istore 6, 2) := by decide +kernel
theorem dX8_way_55 : decode cX8_way 55 = .ok (.iload 6, 2) := by decide +kernel
theorem dX8_way_57 : decode cX8_way 57 = .ok (.aload_n 0, 1) := by decide +kernel
theorem dX8_way_58 : decode cX8_way 58 = .ok (.getfield 19, 3) := by decide +kernel
theorem dX8_way_61 : decode cX8_way 61 = .ok (.iconst 2, 1) := by decide +kernel
theorem dX8_way_62 : decode cX8_way 62 = .ok (.iaload, 1) := by decide +kernel
theorem dX8_way_63 : decode cX8_way 63 = .ok (.if_icmp .ge 61, 3) := by decide +kernel
theorem dX8_way_66 : decode cX8_way 66 = .ok (.iload 5, 2) := by decide +kernel
theorem dX8_way_68 : decode cX8_way 68 = .ok (.aload_n 0, 1) := by decide +kernel
theorem dX8_way_69 : decode cX8_way 69 = .ok (.getfield 19, 3) := by decide +kernel
theorem dX8_way_72 : decode cX8_way 72 = .ok (.iconst 4, 1) := by decide +kernel
theorem dX8_way_73 : decode cX8_way 73 = .ok (.iaload, 1) := by decide +kernel
theorem dX8_way_74 : decode cX8_way 74 = .ok (.iload 6, 2) := by decide +kernel
theorem dX8_way_76 : decode cX8_way 76 = .ok (.invokestatic 157, 3) := by decide +kernel
theorem dX8_way_79 : decode cX8_way 79 = .ok (.ifCond .eq 35, 3) := by decide +kernel
theorem dX8_way_82 : decode cX8_way 82 = .ok (.iload_n 3, 1) := by decide +kernel
theorem dX8_way_83 : decode cX8_way 83 = .ok (.aload_n 0, 1) := by decide +kernel
theorem dX8_way_84 : decode cX8_way 84 = .ok (.getfield 19, 3) := by decide +kernel
theorem dX8_way_87 : decode cX8_way 87 = .ok (.iload 6, 2) := by decide +kernel
theorem dX8_way_89 : decode cX8_way 89 = .ok (.iconst 1, 1) := by decide +kernel
theorem dX8_way_90 : decode cX8_way 90 = .ok (.invokestatic 149, 3) := by decide +kernel
theorem dX8_way_93 : decode cX8_way 93 = .ok (.invokestatic 157, 3) := by decide +kernel
theorem dX8_way_96 : decode cX8_way 96 = .ok (.ifCond .eq 18, 3) := by decide +kernel
theorem dX8_way_99 : decode cX8_way 99 = .ok (.iconst 1, 1) := by decide +kernel
theorem dX8_way_100 : decode cX8_way 100 = .ok (.aload_n 0, 1) := by decide +kernel
theorem dX8_way_101 : decode cX8_way 101 = .ok (.getfield 19, 3) := by decide +kernel
theorem dX8_way_104 : decode cX8_way 104 = .ok (.iload 6, 2) := by decide +kernel
theorem dX8_way_106 : decode cX8_way 106 = .ok (.iconst 2, 1) := by decide +kernel
theorem dX8_way_107 : decode cX8_way 107 = .ok (.invokestatic 149, 3) := by decide +kernel
theorem dX8_way_110 : decode cX8_way 110 = .ok (.ishl, 1) := by decide +kernel
theorem dX8_way_111 : decode cX8_way 111 = .ok (.goto 4, 3) := by decide +kernel
theorem dX8_way_114 : decode cX8_way 114 = .ok (.iconst 0, 1) := by decide +kernel
theorem dX8_way_115 : decode cX8_way 115 = .ok (.ior, 1) := by decide +kernel
theorem dX8_way_116 : decode cX8_way 116 = .ok (.istore 5, 2) := by decide +kernel
theorem dX8_way_118 : decode cX8_way 118 = .ok (.iinc 6 1, 3) := by decide +kernel
theorem dX8_way_121 : decode cX8_way 121 = .ok (.goto (-66), 3) := by decide +kernel
theorem dX8_way_124 : decode cX8_way 124 = .ok (.iload 5, 2) := by decide +kernel
theorem dX8_way_126 : decode cX8_way 126 = .ok (.istore_n 3, 1) := by decide +kernel
theorem dX8_way_127 : decode cX8_way 127 = .ok (.iinc 4 1, 3) := by decide +kernel
theorem dX8_way_130 : decode cX8_way 130 = .ok (.goto (-99), 3) := by decide +kernel
theorem dX8_way_133 : decode cX8_way 133 = .ok (.ldc 90, 2) := by decide +kernel
theorem dX8_way_135 : decode cX8_way 135 = .ok (.ireturn, 1) := by decide +kernel
theorem dX8_hearsSo_0 : decode cX8_hearsSo 0 = .ok (.iconst 1, 1) := by decide +kernel
theorem dX8_hearsSo_1 : decode cX8_hearsSo 1 = .ok (.istore 4, 2) := by decide +kernel
theorem dX8_hearsSo_3 : decode cX8_hearsSo 3 = .ok (.iconst 0, 1) := by decide +kernel
theorem dX8_hearsSo_4 : decode cX8_hearsSo 4 = .ok (.istore 5, 2) := by decide +kernel
theorem dX8_hearsSo_6 : decode cX8_hearsSo 6 = .ok (.iload 5, 2) := by decide +kernel
theorem dX8_hearsSo_8 : decode cX8_hearsSo 8 = .ok (.iload_n 3, 1) := by decide +kernel
theorem dX8_hearsSo_9 : decode cX8_hearsSo 9 = .ok (.if_icmp .ge 65, 3) := by decide +kernel
theorem dX8_hearsSo_12 : decode cX8_hearsSo 12 = .ok (.aload_n 0, 1) := by decide +kernel
theorem dX8_hearsSo_13 : decode cX8_hearsSo 13 = .ok (.aload_n 0, 1) := by decide +kernel
theorem dX8_hearsSo_14 : decode cX8_hearsSo 14 = .ok (.getfield 25, 3) := by decide +kernel
theorem dX8_hearsSo_17 : decode cX8_hearsSo 17 = .ok (.invokevirtual 168, 3) := by decide +kernel
theorem dX8_hearsSo_20 : decode cX8_hearsSo 20 = .ok (.iload_n 1, 1) := by decide +kernel
theorem dX8_hearsSo_21 : decode cX8_hearsSo 21 = .ok (.invokestatic 157, 3) := by decide +kernel
theorem dX8_hearsSo_24 : decode cX8_hearsSo 24 = .ok (.ifCond .eq 15, 3) := by decide +kernel
theorem dX8_hearsSo_27 : decode cX8_hearsSo 27 = .ok (.aload_n 0, 1) := by decide +kernel
theorem dX8_hearsSo_28 : decode cX8_hearsSo 28 = .ok (.getfield 34, 3) := by decide +kernel
theorem dX8_hearsSo_31 : decode cX8_hearsSo 31 = .ok (.iload_n 1, 1) := by decide +kernel
theorem dX8_hearsSo_32 : decode cX8_hearsSo 32 = .ok (.iaload, 1) := by decide +kernel
theorem dX8_hearsSo_33 : decode cX8_hearsSo 33 = .ok (.bipush 100, 2) := by decide +kernel
theorem dX8_hearsSo_35 : decode cX8_hearsSo 35 = .ok (.idiv, 1) := by decide +kernel
theorem dX8_hearsSo_36 : decode cX8_hearsSo 36 = .ok (.goto 4, 3) := by decide +kernel
theorem dX8_hearsSo_39 : decode cX8_hearsSo 39 = .ok (.iconst (-1), 1) := by decide +kernel
theorem dX8_hearsSo_40 : decode cX8_hearsSo 40 = .ok (.istore 6, 2) := by decide +kernel
theorem dX8_hearsSo_42 : decode cX8_hearsSo 42 = .ok (.iload 4, 2) := by decide +kernel
theorem dX8_hearsSo_44 : decode cX8_hearsSo 44 = .ok (.ifCond .eq 21, 3) := by decide +kernel
theorem dX8_hearsSo_47 : decode cX8_hearsSo 47 = .ok (.iload 6, 2) := by decide +kernel
theorem dX8_hearsSo_49 : decode cX8_hearsSo 49 = .ok (.aload_n 0, 1) := by decide +kernel
theorem dX8_hearsSo_50 : decode cX8_hearsSo 50 = .ok (.getfield 16, 3) := by decide +kernel
theorem dX8_hearsSo_53 : decode cX8_hearsSo 53 = .ok (.iload_n 2, 1) := by decide +kernel
theorem dX8_hearsSo_54 : decode cX8_hearsSo 54 = .ok (.iload 5, 2) := by decide +kernel
theorem dX8_hearsSo_56 : decode cX8_hearsSo 56 = .ok (.iadd, 1) := by decide +kernel
theorem dX8_hearsSo_57 : decode cX8_hearsSo 57 = .ok (.iaload, 1) := by decide +kernel
theorem dX8_hearsSo_58 : decode cX8_hearsSo 58 = .ok (.if_icmp .ne 7, 3) := by decide +kernel
theorem dX8_hearsSo_61 : decode cX8_hearsSo 61 = .ok (.iconst 1, 1) := by decide +kernel
theorem dX8_hearsSo_62 : decode cX8_hearsSo 62 = .ok (.goto 4, 3) := by decide +kernel
theorem dX8_hearsSo_65 : decode cX8_hearsSo 65 = .ok (.iconst 0, 1) := by decide +kernel
theorem dX8_hearsSo_66 : decode cX8_hearsSo 66 = .ok (.istore 4, 2) := by decide +kernel
theorem dX8_hearsSo_68 : decode cX8_hearsSo 68 = .ok (.iinc 5 1, 3) := by decide +kernel
theorem dX8_hearsSo_71 : decode cX8_hearsSo 71 = .ok (.goto (-65), 3) := by decide +kernel
theorem dX8_hearsSo_74 : decode cX8_hearsSo 74 = .ok (.iload 4, 2) := by decide +kernel
theorem dX8_hearsSo_76 : decode cX8_hearsSo 76 = .ok (.ireturn, 1) := by decide +kernel
theorem dX8_rowFound_0 : decode cX8_rowFound 0 = .ok (.aload_n 0, 1) := by decide +kernel
theorem dX8_rowFound_1 : decode cX8_rowFound 1 = .ok (.getfield 7, 3) := by decide +kernel
theorem dX8_rowFound_4 : decode cX8_rowFound 4 = .ok (.iload_n 1, 1) := by decide +kernel
theorem dX8_rowFound_5 : decode cX8_rowFound 5 = .ok (.iaload, 1) := by decide +kernel
theorem dX8_rowFound_6 : decode cX8_rowFound 6 = .ok (.ifCond .ge 9, 3) := by decide +kernel
theorem dX8_rowFound_9 : decode cX8_rowFound 9 = .ok (.aload_n 0, 1) := by decide +kernel
theorem dX8_rowFound_10 : decode cX8_rowFound 10 = .ok (.iconst 1, 1) := by decide +kernel
theorem dX8_rowFound_11 : decode cX8_rowFound 11 = .ok (.invokevirtual 68, 3) := by decide +kernel
theorem dX8_rowFound_14 : decode cX8_rowFound 14 = .ok (.ireturn, 1) := by decide +kernel
theorem dX8_rowFound_15 : decode cX8_rowFound 15 = .ok (.iload_n 2, 1) := by decide +kernel
theorem dX8_rowFound_16 : decode cX8_rowFound 16 = .ok (.ifCond .lt 19, 3) := by decide +kernel
theorem dX8_rowFound_19 : decode cX8_rowFound 19 = .ok (.iload_n 2, 1) := by decide +kernel
theorem dX8_rowFound_20 : decode cX8_rowFound 20 = .ok (.i2l, 1) := by decide +kernel
theorem dX8_rowFound_21 : decode cX8_rowFound 21 = .ok (.iload_n 3, 1) := by decide +kernel
theorem dX8_rowFound_22 : decode cX8_rowFound 22 = .ok (.i2l, 1) := by decide +kernel
theorem dX8_rowFound_23 : decode cX8_rowFound 23 = .ok (.ladd, 1) := by decide +kernel
theorem dX8_rowFound_24 : decode cX8_rowFound 24 = .ok (.aload_n 0, 1) := by decide +kernel
theorem dX8_rowFound_25 : decode cX8_rowFound 25 = .ok (.getfield 13, 3) := by decide +kernel
theorem dX8_rowFound_28 : decode cX8_rowFound 28 = .ok (.iload_n 1, 1) := by decide +kernel
theorem dX8_rowFound_29 : decode cX8_rowFound 29 = .ok (.iaload, 1) := by decide +kernel
theorem dX8_rowFound_30 : decode cX8_rowFound 30 = .ok (.i2l, 1) := by decide +kernel
theorem dX8_rowFound_31 : decode cX8_rowFound 31 = .ok (.lcmp, 1) := by decide +kernel
theorem dX8_rowFound_32 : decode cX8_rowFound 32 = .ok (.ifCond .le 9, 3) := by decide +kernel
theorem dX8_rowFound_35 : decode cX8_rowFound 35 = .ok (.aload_n 0, 1) := by decide +kernel
theorem dX8_rowFound_36 : decode cX8_rowFound 36 = .ok (.iconst 2, 1) := by decide +kernel
theorem dX8_rowFound_37 : decode cX8_rowFound 37 = .ok (.invokevirtual 68, 3) := by decide +kernel
theorem dX8_rowFound_40 : decode cX8_rowFound 40 = .ok (.ireturn, 1) := by decide +kernel
theorem dX8_rowFound_41 : decode cX8_rowFound 41 = .ok (.aload_n 0, 1) := by decide +kernel
theorem dX8_rowFound_42 : decode cX8_rowFound 42 = .ok (.iconst 0, 1) := by decide +kernel
theorem dX8_rowFound_43 : decode cX8_rowFound 43 = .ok (.putfield 51, 3) := by decide +kernel
theorem dX8_rowFound_46 : decode cX8_rowFound 46 = .ok (.iconst 0, 1) := by decide +kernel
theorem dX8_rowFound_47 : decode cX8_rowFound 47 = .ok (.ireturn, 1) := by decide +kernel
theorem dX8_who_0 : decode cX8_who 0 = .ok (.aload_n 0, 1) := by decide +kernel
theorem dX8_who_1 : decode cX8_who 1 = .ok (.iconst 0, 1) := by decide +kernel
theorem dX8_who_2 : decode cX8_who 2 = .ok (.putfield 47, 3) := by decide +kernel
theorem dX8_who_5 : decode cX8_who 5 = .ok (.aload_n 0, 1) := by decide +kernel
theorem dX8_who_6 : decode cX8_who 6 = .ok (.iload_n 1, 1) := by decide +kernel
theorem dX8_who_7 : decode cX8_who 7 = .ok (.invokevirtual 191, 3) := by decide +kernel
theorem dX8_who_10 : decode cX8_who 10 = .ok (.ifCond .eq 44, 3) := by decide +kernel
theorem dX8_who_13 : decode cX8_who 13 = .ok (.iload_n 2, 1) := by decide +kernel
theorem dX8_who_14 : decode cX8_who 14 = .ok (.i2l, 1) := by decide +kernel
theorem dX8_who_15 : decode cX8_who 15 = .ok (.lconst 0, 1) := by decide +kernel
theorem dX8_who_16 : decode cX8_who 16 = .ok (.ldc2_w 65, 3) := by decide +kernel
theorem dX8_who_19 : decode cX8_who 19 = .ok (.invokestatic 57, 3) := by decide +kernel
theorem dX8_who_22 : decode cX8_who 22 = .ok (.ifCond .eq 32, 3) := by decide +kernel
theorem dX8_who_25 : decode cX8_who 25 = .ok (.aload_n 0, 1) := by decide +kernel
theorem dX8_who_26 : decode cX8_who 26 = .ok (.iload_n 3, 1) := by decide +kernel
theorem dX8_who_27 : decode cX8_who 27 = .ok (.invokevirtual 180, 3) := by decide +kernel
theorem dX8_who_30 : decode cX8_who 30 = .ok (.ifCond .eq 24, 3) := by decide +kernel
theorem dX8_who_33 : decode cX8_who 33 = .ok (.iload 4, 2) := by decide +kernel
theorem dX8_who_35 : decode cX8_who 35 = .ok (.invokestatic 61, 3) := by decide +kernel
theorem dX8_who_38 : decode cX8_who 38 = .ok (.ifCond .eq 16, 3) := by decide +kernel
theorem dX8_who_41 : decode cX8_who 41 = .ok (.iload 6, 2) := by decide +kernel
theorem dX8_who_43 : decode cX8_who 43 = .ok (.i2l, 1) := by decide +kernel
theorem dX8_who_44 : decode cX8_who 44 = .ok (.lconst 1, 1) := by decide +kernel
theorem dX8_who_45 : decode cX8_who 45 = .ok (.ldc2_w 218, 3) := by decide +kernel
theorem dX8_who_48 : decode cX8_who 48 = .ok (.invokestatic 57, 3) := by decide +kernel
theorem dX8_who_51 : decode cX8_who 51 = .ok (.ifCond .ne 6, 3) := by decide +kernel
theorem dX8_who_54 : decode cX8_who 54 = .ok (.ldc 67, 2) := by decide +kernel
theorem dX8_who_56 : decode cX8_who 56 = .ok (.ireturn, 1) := by decide +kernel
theorem dX8_who_57 : decode cX8_who 57 = .ok (.aload_n 0, 1) := by decide +kernel
theorem dX8_who_58 : decode cX8_who 58 = .ok (.iload 4, 2) := by decide +kernel
theorem dX8_who_60 : decode cX8_who 60 = .ok (.iload 5, 2) := by decide +kernel
theorem dX8_who_62 : decode cX8_who 62 = .ok (.iload 6, 2) := by decide +kernel
theorem dX8_who_64 : decode cX8_who 64 = .ok (.invokevirtual 220, 3) := by decide +kernel
theorem dX8_who_67 : decode cX8_who 67 = .ok (.istore 7, 2) := by decide +kernel
theorem dX8_who_69 : decode cX8_who 69 = .ok (.iload 7, 2) := by decide +kernel
theorem dX8_who_71 : decode cX8_who 71 = .ok (.ifCond .eq 6, 3) := by decide +kernel
theorem dX8_who_74 : decode cX8_who 74 = .ok (.iload 7, 2) := by decide +kernel
theorem dX8_who_76 : decode cX8_who 76 = .ok (.ireturn, 1) := by decide +kernel
theorem dX8_who_77 : decode cX8_who 77 = .ok (.iconst 0, 1) := by decide +kernel
theorem dX8_who_78 : decode cX8_who 78 = .ok (.istore 8, 2) := by decide +kernel
theorem dX8_who_80 : decode cX8_who 80 = .ok (.iload_n 2, 1) := by decide +kernel
theorem dX8_who_81 : decode cX8_who 81 = .ok (.ifCond .ne 7, 3) := by decide +kernel
theorem dX8_who_84 : decode cX8_who 84 = .ok (.iconst 1, 1) := by decide +kernel
theorem dX8_who_85 : decode cX8_who 85 = .ok (.goto 4, 3) := by decide +kernel
theorem dX8_who_88 : decode cX8_who 88 = .ok (.iconst 0, 1) := by decide +kernel
theorem dX8_who_89 : decode cX8_who 89 = .ok (.istore 9, 2) := by decide +kernel
theorem dX8_who_91 : decode cX8_who 91 = .ok (.iload 9, 2) := by decide +kernel
theorem dX8_who_93 : decode cX8_who 93 = .ok (.iload_n 2, 1) := by decide +kernel
theorem dX8_who_94 : decode cX8_who 94 = .ok (.ifCond .ne 7, 3) := by decide +kernel
theorem dX8_who_97 : decode cX8_who 97 = .ok (.iconst 5, 1) := by decide +kernel
theorem dX8_who_98 : decode cX8_who 98 = .ok (.goto 14, 3) := by decide +kernel
theorem dX8_who_101 : decode cX8_who 101 = .ok (.iload_n 2, 1) := by decide +kernel
theorem dX8_who_102 : decode cX8_who 102 = .ok (.iconst 1, 1) := by decide +kernel
theorem dX8_who_103 : decode cX8_who 103 = .ok (.if_icmp .ne 8, 3) := by decide +kernel
theorem dX8_who_106 : decode cX8_who 106 = .ok (.bipush 9, 2) := by decide +kernel
theorem dX8_who_108 : decode cX8_who 108 = .ok (.goto 4, 3) := by decide +kernel
theorem dX8_who_111 : decode cX8_who 111 = .ok (.iconst 1, 1) := by decide +kernel
theorem dX8_who_112 : decode cX8_who 112 = .ok (.if_icmp .gt 112, 3) := by decide +kernel
theorem dX8_who_115 : decode cX8_who 115 = .ok (.aload_n 0, 1) := by decide +kernel
theorem dX8_who_116 : decode cX8_who 116 = .ok (.invokevirtual 201, 3) := by decide +kernel
theorem dX8_who_119 : decode cX8_who 119 = .ok (.iload_n 2, 1) := by decide +kernel
theorem dX8_who_120 : decode cX8_who 120 = .ok (.iconst 2, 1) := by decide +kernel
theorem dX8_who_121 : decode cX8_who 121 = .ok (.if_icmp .ne 42, 3) := by decide +kernel
