theorem dX0_init_0 : decode cX0_init 0 = .ok (.aload_n 0, 1) := by decide +kernel
theorem dX0_init_1 : decode cX0_init 1 = .ok (.invokespecial 3, 3) := by decide +kernel
theorem dX0_init_4 : decode cX0_init 4 = .ok (.aload_n 0, 1) := by decide +kernel
theorem dX0_init_5 : decode cX0_init 5 = .ok (.iconst (-1), 1) := by decide +kernel
theorem dX0_init_6 : decode cX0_init 6 = .ok (.putfield 9, 3) := by decide +kernel
theorem dX0_init_9 : decode cX0_init 9 = .ok (.aload_n 0, 1) := by decide +kernel
theorem dX0_init_10 : decode cX0_init 10 = .ok (.iconst 0, 1) := by decide +kernel
theorem dX0_init_11 : decode cX0_init 11 = .ok (.putfield 15, 3) := by decide +kernel
theorem dX0_init_14 : decode cX0_init 14 = .ok (.aload_n 0, 1) := by decide +kernel
theorem dX0_init_15 : decode cX0_init 15 = .ok (.iload_n 1, 1) := by decide +kernel
theorem dX0_init_16 : decode cX0_init 16 = .ok (.putfield 19, 3) := by decide +kernel
theorem dX0_init_19 : decode cX0_init 19 = .ok (.aload_n 0, 1) := by decide +kernel
theorem dX0_init_20 : decode cX0_init 20 = .ok (.iload_n 2, 1) := by decide +kernel
theorem dX0_init_21 : decode cX0_init 21 = .ok (.putfield 22, 3) := by decide +kernel
theorem dX0_init_24 : decode cX0_init 24 = .ok (.aload_n 0, 1) := by decide +kernel
theorem dX0_init_25 : decode cX0_init 25 = .ok (.iload_n 3, 1) := by decide +kernel
theorem dX0_init_26 : decode cX0_init 26 = .ok (.putfield 25, 3) := by decide +kernel
theorem dX0_init_29 : decode cX0_init 29 = .ok (.aload_n 0, 1) := by decide +kernel
theorem dX0_init_30 : decode cX0_init 30 = .ok (.iload 4, 2) := by decide +kernel
theorem dX0_init_32 : decode cX0_init 32 = .ok (.putfield 28, 3) := by decide +kernel
theorem dX0_init_35 : decode cX0_init 35 = .ok (.aload_n 0, 1) := by decide +kernel
theorem dX0_init_36 : decode cX0_init 36 = .ok (.iload 5, 2) := by decide +kernel
theorem dX0_init_38 : decode cX0_init 38 = .ok (.putfield 31, 3) := by decide +kernel
theorem dX0_init_41 : decode cX0_init 41 = .ok (.aload_n 0, 1) := by decide +kernel
theorem dX0_init_42 : decode cX0_init 42 = .ok (.iload 6, 2) := by decide +kernel
theorem dX0_init_44 : decode cX0_init 44 = .ok (.putfield 34, 3) := by decide +kernel
theorem dX0_init_47 : decode cX0_init 47 = .ok (.aload_n 0, 1) := by decide +kernel
theorem dX0_init_48 : decode cX0_init 48 = .ok (.iload 7, 2) := by decide +kernel
theorem dX0_init_50 : decode cX0_init 50 = .ok (.putfield 37, 3) := by decide +kernel
theorem dX0_init_53 : decode cX0_init 53 = .ok (.return_, 1) := by decide +kernel
theorem dX0_fits_0 : decode cX0_fits 0 = .ok (.aload_n 0, 1) := by decide +kernel
theorem dX0_fits_1 : decode cX0_fits 1 = .ok (.getfield 37, 3) := by decide +kernel
theorem dX0_fits_4 : decode cX0_fits 4 = .ok (.aload_n 1, 1) := by decide +kernel
theorem dX0_fits_5 : decode cX0_fits 5 = .ok (.getfield 40, 3) := by decide +kernel
theorem dX0_fits_8 : decode cX0_fits 8 = .ok (.ishr, 1) := by decide +kernel
theorem dX0_fits_9 : decode cX0_fits 9 = .ok (.iconst 1, 1) := by decide +kernel
theorem dX0_fits_10 : decode cX0_fits 10 = .ok (.iand, 1) := by decide +kernel
theorem dX0_fits_11 : decode cX0_fits 11 = .ok (.iconst 1, 1) := by decide +kernel
theorem dX0_fits_12 : decode cX0_fits 12 = .ok (.if_icmp .ne 7, 3) := by decide +kernel
theorem dX0_fits_15 : decode cX0_fits 15 = .ok (.iconst 1, 1) := by decide +kernel
theorem dX0_fits_16 : decode cX0_fits 16 = .ok (.goto 4, 3) := by decide +kernel
theorem dX0_fits_19 : decode cX0_fits 19 = .ok (.iconst 0, 1) := by decide +kernel
theorem dX0_fits_20 : decode cX0_fits 20 = .ok (.ireturn, 1) := by decide +kernel
theorem dX1_init_0 : decode cX1_init 0 = .ok (.aload_n 0, 1) := by decide +kernel
theorem dX1_init_1 : decode cX1_init 1 = .ok (.invokespecial 3, 3) := by decide +kernel
theorem dX1_init_4 : decode cX1_init 4 = .ok (.aload_n 0, 1) := by decide +kernel
theorem dX1_init_5 : decode cX1_init 5 = .ok (.iconst (-1), 1) := by decide +kernel
theorem dX1_init_6 : decode cX1_init 6 = .ok (.putfield 9, 3) := by decide +kernel
theorem dX1_init_9 : decode cX1_init 9 = .ok (.aload_n 0, 1) := by decide +kernel
theorem dX1_init_10 : decode cX1_init 10 = .ok (.iconst 0, 1) := by decide +kernel
theorem dX1_init_11 : decode cX1_init 11 = .ok (.putfield 15, 3) := by decide +kernel
theorem dX1_init_14 : decode cX1_init 14 = .ok (.aload_n 0, 1) := by decide +kernel
theorem dX1_init_15 : decode cX1_init 15 = .ok (.iconst 0, 1) := by decide +kernel
theorem dX1_init_16 : decode cX1_init 16 = .ok (.putfield 18, 3) := by decide +kernel
theorem dX1_init_19 : decode cX1_init 19 = .ok (.aload_n 0, 1) := by decide +kernel
theorem dX1_init_20 : decode cX1_init 20 = .ok (.iconst 0, 1) := by decide +kernel
theorem dX1_init_21 : decode cX1_init 21 = .ok (.putfield 21, 3) := by decide +kernel
theorem dX1_init_24 : decode cX1_init 24 = .ok (.aload_n 0, 1) := by decide +kernel
theorem dX1_init_25 : decode cX1_init 25 = .ok (.iconst (-1), 1) := by decide +kernel
theorem dX1_init_26 : decode cX1_init 26 = .ok (.putfield 24, 3) := by decide +kernel
theorem dX1_init_29 : decode cX1_init 29 = .ok (.aload_n 0, 1) := by decide +kernel
theorem dX1_init_30 : decode cX1_init 30 = .ok (.aload_n 1, 1) := by decide +kernel
theorem dX1_init_31 : decode cX1_init 31 = .ok (.putfield 27, 3) := by decide +kernel
theorem dX1_init_34 : decode cX1_init 34 = .ok (.aload_n 0, 1) := by decide +kernel
theorem dX1_init_35 : decode cX1_init 35 = .ok (.iload_n 2, 1) := by decide +kernel
theorem dX1_init_36 : decode cX1_init 36 = .ok (.putfield 31, 3) := by decide +kernel
theorem dX1_init_39 : decode cX1_init 39 = .ok (.aload_n 0, 1) := by decide +kernel
theorem dX1_init_40 : decode cX1_init 40 = .ok (.iload_n 3, 1) := by decide +kernel
theorem dX1_init_41 : decode cX1_init 41 = .ok (.putfield 34, 3) := by decide +kernel
theorem dX1_init_44 : decode cX1_init 44 = .ok (.aload_n 0, 1) := by decide +kernel
theorem dX1_init_45 : decode cX1_init 45 = .ok (.iload 4, 2) := by decide +kernel
theorem dX1_init_47 : decode cX1_init 47 = .ok (.putfield 37, 3) := by decide +kernel
theorem dX1_init_50 : decode cX1_init 50 = .ok (.aload_n 0, 1) := by decide +kernel
theorem dX1_init_51 : decode cX1_init 51 = .ok (.iload 5, 2) := by decide +kernel
theorem dX1_init_53 : decode cX1_init 53 = .ok (.putfield 40, 3) := by decide +kernel
theorem dX1_init_56 : decode cX1_init 56 = .ok (.aload_n 0, 1) := by decide +kernel
theorem dX1_init_57 : decode cX1_init 57 = .ok (.iload 6, 2) := by decide +kernel
theorem dX1_init_59 : decode cX1_init 59 = .ok (.putfield 43, 3) := by decide +kernel
theorem dX1_init_62 : decode cX1_init 62 = .ok (.aload_n 0, 1) := by decide +kernel
theorem dX1_init_63 : decode cX1_init 63 = .ok (.iload 7, 2) := by decide +kernel
theorem dX1_init_65 : decode cX1_init 65 = .ok (.putfield 47, 3) := by decide +kernel
theorem dX1_init_68 : decode cX1_init 68 = .ok (.return_, 1) := by decide +kernel
theorem dX1_waitsFor_0 : decode cX1_waitsFor 0 = .ok (.aload_n 0, 1) := by decide +kernel
theorem dX1_waitsFor_1 : decode cX1_waitsFor 1 = .ok (.getfield 15, 3) := by decide +kernel
theorem dX1_waitsFor_4 : decode cX1_waitsFor 4 = .ok (.ifCond .ne 15, 3) := by decide +kernel
theorem dX1_waitsFor_7 : decode cX1_waitsFor 7 = .ok (.aload_n 0, 1) := by decide +kernel
theorem dX1_waitsFor_8 : decode cX1_waitsFor 8 = .ok (.getfield 27, 3) := by decide +kernel
theorem dX1_waitsFor_11 : decode cX1_waitsFor 11 = .ok (.aload_n 1, 1) := by decide +kernel
theorem dX1_waitsFor_12 : decode cX1_waitsFor 12 = .ok (.if_acmp .ne 7, 3) := by decide +kernel
theorem dX1_waitsFor_15 : decode cX1_waitsFor 15 = .ok (.iconst 1, 1) := by decide +kernel
theorem dX1_waitsFor_16 : decode cX1_waitsFor 16 = .ok (.goto 4, 3) := by decide +kernel
theorem dX1_waitsFor_19 : decode cX1_waitsFor 19 = .ok (.iconst 0, 1) := by decide +kernel
theorem dX1_waitsFor_20 : decode cX1_waitsFor 20 = .ok (.ireturn, 1) := by decide +kernel
theorem dX1_isAheadOf_0 : decode cX1_isAheadOf 0 = .ok (.aload_n 0, 1) := by decide +kernel
theorem dX1_isAheadOf_1 : decode cX1_isAheadOf 1 = .ok (.getfield 43, 3) := by decide +kernel
theorem dX1_isAheadOf_4 : decode cX1_isAheadOf 4 = .ok (.aload_n 1, 1) := by decide +kernel
theorem dX1_isAheadOf_5 : decode cX1_isAheadOf 5 = .ok (.getfield 43, 3) := by decide +kernel
theorem dX1_isAheadOf_8 : decode cX1_isAheadOf 8 = .ok (.if_icmp .eq 8, 3) := by decide +kernel
theorem dX1_isAheadOf_11 : decode cX1_isAheadOf 11 = .ok (.aload_n 0, 1) := by decide +kernel
theorem dX1_isAheadOf_12 : decode cX1_isAheadOf 12 = .ok (.getfield 43, 3) := by decide +kernel
theorem dX1_isAheadOf_15 : decode cX1_isAheadOf 15 = .ok (.ireturn, 1) := by decide +kernel
theorem dX1_isAheadOf_16 : decode cX1_isAheadOf 16 = .ok (.aload_n 0, 1) := by decide +kernel
theorem dX1_isAheadOf_17 : decode cX1_isAheadOf 17 = .ok (.getfield 31, 3) := by decide +kernel
theorem dX1_isAheadOf_20 : decode cX1_isAheadOf 20 = .ok (.aload_n 1, 1) := by decide +kernel
theorem dX1_isAheadOf_21 : decode cX1_isAheadOf 21 = .ok (.getfield 31, 3) := by decide +kernel
theorem dX1_isAheadOf_24 : decode cX1_isAheadOf 24 = .ok (.if_icmp .eq 20, 3) := by decide +kernel
theorem dX1_isAheadOf_27 : decode cX1_isAheadOf 27 = .ok (.aload_n 0, 1) := by decide +kernel
theorem dX1_isAheadOf_28 : decode cX1_isAheadOf 28 = .ok (.getfield 31, 3) := by decide +kernel
theorem dX1_isAheadOf_31 : decode cX1_isAheadOf 31 = .ok (.aload_n 1, 1) := by decide +kernel
theorem dX1_isAheadOf_32 : decode cX1_isAheadOf 32 = .ok (.getfield 31, 3) := by decide +kernel
theorem dX1_isAheadOf_35 : decode cX1_isAheadOf 35 = .ok (.if_icmp .ge 7, 3) := by decide +kernel
theorem dX1_isAheadOf_38 : decode cX1_isAheadOf 38 = .ok (.iconst 1, 1) := by decide +kernel
theorem dX1_isAheadOf_39 : decode cX1_isAheadOf 39 = .ok (.goto 4, 3) := by decide +kernel
theorem dX1_isAheadOf_42 : decode cX1_isAheadOf 42 = .ok (.iconst 0, 1) := by decide +kernel
theorem dX1_isAheadOf_43 : decode cX1_isAheadOf 43 = .ok (.ireturn, 1) := by decide +kernel
theorem dX1_isAheadOf_44 : decode cX1_isAheadOf 44 = .ok (.aload_n 0, 1) := by decide +kernel
theorem dX1_isAheadOf_45 : decode cX1_isAheadOf 45 = .ok (.getfield 21, 3) := by decide +kernel
theorem dX1_isAheadOf_48 : decode cX1_isAheadOf 48 = .ok (.aload_n 1, 1) := by decide +kernel
theorem dX1_isAheadOf_49 : decode cX1_isAheadOf 49 = .ok (.getfield 21, 3) := by decide +kernel
theorem dX1_isAheadOf_52 : decode cX1_isAheadOf 52 = .ok (.if_icmp .eq 22, 3) := by decide +kernel
theorem dX1_isAheadOf_55 : decode cX1_isAheadOf 55 = .ok (.aload_n 0, 1) := by decide +kernel
theorem dX1_isAheadOf_56 : decode cX1_isAheadOf 56 = .ok (.getfield 21, 3) := by decide +kernel
theorem dX1_isAheadOf_59 : decode cX1_isAheadOf 59 = .ok (.aload_n 1, 1) := by decide +kernel
theorem dX1_isAheadOf_60 : decode cX1_isAheadOf 60 = .ok (.getfield 21, 3) := by decide +kernel
theorem dX1_isAheadOf_63 : decode cX1_isAheadOf 63 = .ok (.if_icmp .le 7, 3) := by decide +kernel
theorem dX1_isAheadOf_66 : decode cX1_isAheadOf 66 = .ok (.iconst 1, 1) := by decide +kernel
theorem dX1_isAheadOf_67 : decode cX1_isAheadOf 67 = .ok (.goto 23, 3) := by decide +kernel
theorem dX1_isAheadOf_70 : decode cX1_isAheadOf 70 = .ok (.iconst 0, 1) := by decide +kernel
theorem dX1_isAheadOf_71 : decode cX1_isAheadOf 71 = .ok (.goto 19, 3) := by decide +kernel
theorem dX1_isAheadOf_74 : decode cX1_isAheadOf 74 = .ok (.aload_n 0, 1) := by decide +kernel
theorem dX1_isAheadOf_75 : decode cX1_isAheadOf 75 = .ok (.getfield 9, 3) := by decide +kernel
theorem dX1_isAheadOf_78 : decode cX1_isAheadOf 78 = .ok (.aload_n 1, 1) := by decide +kernel
theorem dX1_isAheadOf_79 : decode cX1_isAheadOf 79 = .ok (.getfield 9, 3) := by decide +kernel
theorem dX1_isAheadOf_82 : decode cX1_isAheadOf 82 = .ok (.if_icmp .ge 7, 3) := by decide +kernel
theorem dX1_isAheadOf_85 : decode cX1_isAheadOf 85 = .ok (.iconst 1, 1) := by decide +kernel
theorem dX1_isAheadOf_86 : decode cX1_isAheadOf 86 = .ok (.goto 4, 3) := by decide +kernel
theorem dX1_isAheadOf_89 : decode cX1_isAheadOf 89 = .ok (.iconst 0, 1) := by decide +kernel
theorem dX1_isAheadOf_90 : decode cX1_isAheadOf 90 = .ok (.ireturn, 1) := by decide +kernel
theorem dX2_init_0 : decode cX2_init 0 = .ok (.aload_n 0, 1) := by decide +kernel
theorem dX2_init_1 : decode cX2_init 1 = .ok (.invokespecial 3, 3) := by decide +kernel
theorem dX2_init_4 : decode cX2_init 4 = .ok (.aload_n 0, 1) := by decide +kernel
theorem dX2_init_5 : decode cX2_init 5 = .ok (.iconst 0, 1) := by decide +kernel
theorem dX2_init_6 : decode cX2_init 6 = .ok (.putfield 9, 3) := by decide +kernel
theorem dX2_init_9 : decode cX2_init 9 = .ok (.aload_n 0, 1) := by decide +kernel
theorem dX2_init_10 : decode cX2_init 10 = .ok (.iconst 0, 1) := by decide +kernel
theorem dX2_init_11 : decode cX2_init 11 = .ok (.putfield 15, 3) := by decide +kernel
theorem dX2_init_14 : decode cX2_init 14 = .ok (.aload_n 0, 1) := by decide +kernel
theorem dX2_init_15 : decode cX2_init 15 = .ok (.iconst 0, 1) := by decide +kernel
theorem dX2_init_16 : decode cX2_init 16 = .ok (.putfield 18, 3) := by decide +kernel
theorem dX2_init_19 : decode cX2_init 19 = .ok (.aload_n 0, 1) := by decide +kernel
theorem dX2_init_20 : decode cX2_init 20 = .ok (.iconst 0, 1) := by decide +kernel
theorem dX2_init_21 : decode cX2_init 21 = .ok (.putfield 21, 3) := by decide +kernel
theorem dX2_init_24 : decode cX2_init 24 = .ok (.aload_n 0, 1) := by decide +kernel
theorem dX2_init_25 : decode cX2_init 25 = .ok (.iconst 0, 1) := by decide +kernel
theorem dX2_init_26 : decode cX2_init 26 = .ok (.putfield 24, 3) := by decide +kernel
theorem dX2_init_29 : decode cX2_init 29 = .ok (.aload_n 0, 1) := by decide +kernel
theorem dX2_init_30 : decode cX2_init 30 = .ok (.iload_n 1, 1) := by decide +kernel
theorem dX2_init_31 : decode cX2_init 31 = .ok (.putfield 27, 3) := by decide +kernel
theorem dX2_init_34 : decode cX2_init 34 = .ok (.aload_n 0, 1) := by decide +kernel
theorem dX2_init_35 : decode cX2_init 35 = .ok (.iload_n 2, 1) := by decide +kernel
theorem dX2_init_36 : decode cX2_init 36 = .ok (.putfield 30, 3) := by decide +kernel
theorem dX2_init_39 : decode cX2_init 39 = .ok (.aload_n 0, 1) := by decide +kernel
theorem dX2_init_40 : decode cX2_init 40 = .ok (.iload_n 3, 1) := by decide +kernel
theorem dX2_init_41 : decode cX2_init 41 = .ok (.putfield 33, 3) := by decide +kernel
theorem dX2_init_44 : decode cX2_init 44 = .ok (.aload_n 0, 1) := by decide +kernel
theorem dX2_init_45 : decode cX2_init 45 = .ok (.iload 4, 2) := by decide +kernel
theorem dX2_init_47 : decode cX2_init 47 = .ok (.putfield 36, 3) := by decide +kernel
theorem dX2_init_50 : decode cX2_init 50 = .ok (.aload_n 0, 1) := by decide +kernel
theorem dX2_init_51 : decode cX2_init 51 = .ok (.iload 5, 2) := by decide +kernel
theorem dX2_init_53 : decode cX2_init 53 = .ok (.putfield 39, 3) := by decide +kernel
theorem dX2_init_56 : decode cX2_init 56 = .ok (.return_, 1) := by decide +kernel
theorem dX2_tideAt_0 : decode cX2_tideAt 0 = .ok (.iload_n 1, 1) := by decide +kernel
theorem dX2_tideAt_1 : decode cX2_tideAt 1 = .ok (.aload_n 0, 1) := by decide +kernel
theorem dX2_tideAt_2 : decode cX2_tideAt 2 = .ok (.getfield 36, 3) := by decide +kernel
theorem dX2_tideAt_5 : decode cX2_tideAt 5 = .ok (.iadd, 1) := by decide +kernel
theorem dX2_tideAt_6 : decode cX2_tideAt 6 = .ok (.sipush 720, 3) := by decide +kernel
theorem dX2_tideAt_9 : decode cX2_tideAt 9 = .ok (.irem, 1) := by decide +kernel
theorem dX2_tideAt_10 : decode cX2_tideAt 10 = .ok (.sipush 360, 3) := by decide +kernel
theorem dX2_tideAt_13 : decode cX2_tideAt 13 = .ok (.isub, 1) := by decide +kernel
theorem dX2_tideAt_14 : decode cX2_tideAt 14 = .ok (.invokestatic 43, 3) := by decide +kernel
theorem dX2_tideAt_17 : decode cX2_tideAt 17 = .ok (.istore_n 2, 1) := by decide +kernel
theorem dX2_tideAt_18 : decode cX2_tideAt 18 = .ok (.aload_n 0, 1) := by decide +kernel
theorem dX2_tideAt_19 : decode cX2_tideAt 19 = .ok (.getfield 33, 3) := by decide +kernel
theorem dX2_tideAt_22 : decode cX2_tideAt 22 = .ok (.iload_n 2, 1) := by decide +kernel
theorem dX2_tideAt_23 : decode cX2_tideAt 23 = .ok (.sipush 180, 3) := by decide +kernel
theorem dX2_tideAt_26 : decode cX2_tideAt 26 = .ok (.isub, 1) := by decide +kernel
theorem dX2_tideAt_27 : decode cX2_tideAt 27 = .ok (.imul, 1) := by decide +kernel
theorem dX2_tideAt_28 : decode cX2_tideAt 28 = .ok (.sipush 180, 3) := by decide +kernel
theorem dX2_tideAt_31 : decode cX2_tideAt 31 = .ok (.idiv, 1) := by decide +kernel
theorem dX2_tideAt_32 : decode cX2_tideAt 32 = .ok (.ireturn, 1) := by decide +kernel
set_option maxRecDepth 20000 in
theorem ggX2_waterAt_X2_tideAt : GoodIn wsX2_waterAt wsX2_tideAt := goodIn_r _ [6, 7, 8, 9, 10, 11, 12, 13, 14, 15, 16, 17, 18, 19, 20, 21, 22] (by decide +kernel) (by decide +kernel)
set_option maxRecDepth 20000 in
theorem gX2_waterAt_X2_tideAt : GoodIn wsX2_waterAt (wsV RX2 49 RX2 yX2_tideAt wsX2_tideAt) := goodIn_app (goodIn_of _ (by decide +kernel)) ggX2_waterAt_X2_tideAt
theorem dX2_waterAt_0 : decode cX2_waterAt 0 = .ok (.aload_n 0, 1) := by decide +kernel
theorem dX2_waterAt_1 : decode cX2_waterAt 1 = .ok (.getfield 30, 3) := by decide +kernel
theorem dX2_waterAt_4 : decode cX2_waterAt 4 = .ok (.aload_n 0, 1) := by decide +kernel
theorem dX2_waterAt_5 : decode cX2_waterAt 5 = .ok (.iload_n 1, 1) := by decide +kernel
theorem dX2_waterAt_6 : decode cX2_waterAt 6 = .ok (.invokevirtual 49, 3) := by decide +kernel
theorem dX2_waterAt_9 : decode cX2_waterAt 9 = .ok (.iadd, 1) := by decide +kernel
theorem dX2_waterAt_10 : decode cX2_waterAt 10 = .ok (.ireturn, 1) := by decide +kernel
theorem dX2_gapAt_0 : decode cX2_gapAt 0 = .ok (.iload_n 1, 1) := by decide +kernel
theorem dX2_gapAt_1 : decode cX2_gapAt 1 = .ok (.aload_n 0, 1) := by decide +kernel
theorem dX2_gapAt_2 : decode cX2_gapAt 2 = .ok (.getfield 15, 3) := by decide +kernel
theorem dX2_gapAt_5 : decode cX2_gapAt 5 = .ok (.isub, 1) := by decide +kernel
theorem dX2_gapAt_6 : decode cX2_gapAt 6 = .ok (.ireturn, 1) := by decide +kernel
set_option maxRecDepth 20000 in
theorem ggX2_longestGapAt_X2_gapAt : GoodIn wsX2_longestGapAt wsX2_gapAt := goodIn_r _ [10, 11, 12, 13, 14, 15, 16, 17, 18, 19, 20, 21] (by decide +kernel) (by decide +kernel)
set_option maxRecDepth 20000 in
theorem gX2_longestGapAt_X2_gapAt : GoodIn wsX2_longestGapAt (wsV RX2 52 RX2 yX2_gapAt wsX2_gapAt) := goodIn_app (goodIn_of _ (by decide +kernel)) ggX2_longestGapAt_X2_gapAt
theorem dX2_longestGapAt_0 : decode cX2_longestGapAt 0 = .ok (.aload_n 0, 1) := by decide +kernel
theorem dX2_longestGapAt_1 : decode cX2_longestGapAt 1 = .ok (.getfield 21, 3) := by decide +kernel
theorem dX2_longestGapAt_4 : decode cX2_longestGapAt 4 = .ok (.aload_n 0, 1) := by decide +kernel
theorem dX2_longestGapAt_5 : decode cX2_longestGapAt 5 = .ok (.iload_n 1, 1) := by decide +kernel
theorem dX2_longestGapAt_6 : decode cX2_longestGapAt 6 = .ok (.invokevirtual 52, 3) := by decide +kernel
theorem dX2_longestGapAt_9 : decode cX2_longestGapAt 9 = .ok (.invokestatic 55, 3) := by decide +kernel
theorem dX2_longestGapAt_12 : decode cX2_longestGapAt 12 = .ok (.ireturn, 1) := by decide +kernel
set_option maxRecDepth 20000 in
theorem ggX2_longestCauseAt_X2_gapAt : GoodIn wsX2_longestCauseAt wsX2_gapAt := goodIn_r _ [8, 9, 10, 11, 12, 13, 14, 15, 16, 17, 18, 19] (by decide +kernel) (by decide +kernel)
set_option maxRecDepth 20000 in
theorem gX2_longestCauseAt_X2_gapAt : GoodIn wsX2_longestCauseAt (wsV RX2 52 RX2 yX2_gapAt wsX2_gapAt) := goodIn_app (goodIn_of _ (by decide +kernel)) ggX2_longestCauseAt_X2_gapAt
theorem dX2_longestCauseAt_0 : decode cX2_longestCauseAt 0 = .ok (.aload_n 0, 1) := by decide +kernel
theorem dX2_longestCauseAt_1 : decode cX2_longestCauseAt 1 = .ok (.iload_n 1, 1) := by decide +kernel
theorem dX2_longestCauseAt_2 : decode cX2_longestCauseAt 2 = .ok (.invokevirtual 52, 3) := by decide +kernel
theorem dX2_longestCauseAt_5 : decode cX2_longestCauseAt 5 = .ok (.aload_n 0, 1) := by decide +kernel
theorem dX2_longestCauseAt_6 : decode cX2_longestCauseAt 6 = .ok (.getfield 21, 3) := by decide +kernel
theorem dX2_longestCauseAt_9 : decode cX2_longestCauseAt 9 = .ok (.if_icmp .le 10, 3) := by decide +kernel
theorem dX2_longestCauseAt_12 : decode cX2_longestCauseAt 12 = .ok (.aload_n 0, 1) := by decide +kernel
theorem dX2_longestCauseAt_13 : decode cX2_longestCauseAt 13 = .ok (.getfield 18, 3) := by decide +kernel
theorem dX2_longestCauseAt_16 : decode cX2_longestCauseAt 16 = .ok (.goto 7, 3) := by decide +kernel
theorem dX2_longestCauseAt_19 : decode cX2_longestCauseAt 19 = .ok (.aload_n 0, 1) := by decide +kernel
theorem dX2_longestCauseAt_20 : decode cX2_longestCauseAt 20 = .ok (.getfield 24, 3) := by decide +kernel
theorem dX2_longestCauseAt_23 : decode cX2_longestCauseAt 23 = .ok (.ireturn, 1) := by decide +kernel
set_option maxRecDepth 20000 in
theorem ggX2_endGap_X2_longestCauseAt : GoodIn wsX2_endGap wsX2_longestCauseAt := goodIn_r _ [9, 1, 4, 2, 10, 11, 12, 8, 13, 3, 22, 23, 24, 25, 26, 27, 28, 29, 30, 31] (by decide +kernel) (by decide +kernel)
set_option maxRecDepth 20000 in
theorem gX2_endGap_X2_longestCauseAt : GoodIn wsX2_endGap (wsV RX2 59 RX2 yX2_longestCauseAt wsX2_longestCauseAt) := goodIn_app (goodIn_of _ (by decide +kernel)) ggX2_endGap_X2_longestCauseAt
set_option maxRecDepth 20000 in
theorem ggX2_endGap_X2_longestGapAt : GoodIn wsX2_endGap wsX2_longestGapAt := goodIn_r _ [17, 1, 18, 19, 20, 21, 10, 11, 12, 8, 13, 3, 22, 23, 24, 25, 26, 27, 28, 29, 30, 31] (by decide +kernel) (by decide +kernel)
set_option maxRecDepth 20000 in
theorem gX2_endGap_X2_longestGapAt : GoodIn wsX2_endGap (wsV RX2 62 RX2 yX2_longestGapAt wsX2_longestGapAt) := goodIn_app (goodIn_of _ (by decide +kernel)) ggX2_endGap_X2_longestGapAt
theorem dX2_endGap_0 : decode cX2_endGap 0 = .ok (.aload_n 0, 1) := by decide +kernel
theorem dX2_endGap_1 : decode cX2_endGap 1 = .ok (.iload_n 1, 1) := by decide +kernel
theorem dX2_endGap_2 : decode cX2_endGap 2 = .ok (.invokevirtual 59, 3) := by decide +kernel
theorem dX2_endGap_5 : decode cX2_endGap 5 = .ok (.istore_n 2, 1) := by decide +kernel
theorem dX2_endGap_6 : decode cX2_endGap 6 = .ok (.aload_n 0, 1) := by decide +kernel
theorem dX2_endGap_7 : decode cX2_endGap 7 = .ok (.aload_n 0, 1) := by decide +kernel
theorem dX2_endGap_8 : decode cX2_endGap 8 = .ok (.iload_n 1, 1) := by decide +kernel
theorem dX2_endGap_9 : decode cX2_endGap 9 = .ok (.invokevirtual 62, 3) := by decide +kernel
theorem dX2_endGap_12 : decode cX2_endGap 12 = .ok (.putfield 21, 3) := by decide +kernel
theorem dX2_endGap_15 : decode cX2_endGap 15 = .ok (.aload_n 0, 1) := by decide +kernel
theorem dX2_endGap_16 : decode cX2_endGap 16 = .ok (.iload_n 2, 1) := by decide +kernel
theorem dX2_endGap_17 : decode cX2_endGap 17 = .ok (.putfield 24, 3) := by decide +kernel
theorem dX2_endGap_20 : decode cX2_endGap 20 = .ok (.aload_n 0, 1) := by decide +kernel
theorem dX2_endGap_21 : decode cX2_endGap 21 = .ok (.iload_n 1, 1) := by decide +kernel
theorem dX2_endGap_22 : decode cX2_endGap 22 = .ok (.putfield 15, 3) := by decide +kernel
theorem dX2_endGap_25 : decode cX2_endGap 25 = .ok (.aload_n 0, 1) := by decide +kernel
theorem dX2_endGap_26 : decode cX2_endGap 26 = .ok (.iconst 0, 1) := by decide +kernel
theorem dX2_endGap_27 : decode cX2_endGap 27 = .ok (.putfield 18, 3) := by decide +kernel
theorem dX2_endGap_30 : decode cX2_endGap 30 = .ok (.return_, 1) := by decide +kernel
theorem dX2_tellCancelled_0 : decode cX2_tellCancelled 0 = .ok (.aload_n 0, 1) := by decide +kernel
theorem dX2_tellCancelled_1 : decode cX2_tellCancelled 1 = .ok (.getfield 18, 3) := by decide +kernel
theorem dX2_tellCancelled_4 : decode cX2_tellCancelled 4 = .ok (.ifCond .ne 8, 3) := by decide +kernel
theorem dX2_tellCancelled_7 : decode cX2_tellCancelled 7 = .ok (.aload_n 0, 1) := by decide +kernel
theorem dX2_tellCancelled_8 : decode cX2_tellCancelled 8 = .ok (.iload_n 1, 1) := by decide +kernel
theorem dX2_tellCancelled_9 : decode cX2_tellCancelled 9 = .ok (.putfield 18, 3) := by decide +kernel
theorem dX2_tellCancelled_12 : decode cX2_tellCancelled 12 = .ok (.return_, 1) := by decide +kernel
set_option maxRecDepth 20000 in
theorem ggX3_init_X4_init : GoodIn wsX3_init wsX4_init := goodIn_r _ [28, 29, 2, 3, 30, 31, 32, 48, 49, 50] (by decide +kernel) (by decide +kernel)
set_option maxRecDepth 20000 in
theorem gX3_init_X4_init : GoodIn wsX3_init (wsX4_init) := ggX3_init_X4_init
set_option maxRecDepth 20000 in
theorem ggX3_init_Jx4a65c_init_da8c8 : GoodIn wsX3_init wsJx4a65c_init_da8c8 := goodIn_r _ [35, 36, 37, 38, 39, 40, 41, 42, 43, 44, 45, 46, 47, 2, 3, 67, 68, 69] (by decide +kernel) (by decide +kernel)
set_option maxRecDepth 20000 in
theorem gX3_init_Jx4a65c_init_da8c8 : GoodIn wsX3_init (wsJx4a65c_init_da8c8) := ggX3_init_Jx4a65c_init_da8c8
theorem dX3_init_0 : decode cX3_init 0 = .ok (.aload_n 0, 1) := by decide +kernel
theorem dX3_init_1 : decode cX3_init 1 = .ok (.invokespecial 3, 3) := by decide +kernel
theorem dX3_init_4 : decode cX3_init 4 = .ok (.aload_n 0, 1) := by decide +kernel
theorem dX3_init_5 : decode cX3_init 5 = .ok (.new 9, 3) := by decide +kernel
theorem dX3_init_8 : decode cX3_init 8 = .ok (.dup, 1) := by decide +kernel
theorem dX3_init_9 : decode cX3_init 9 = .ok (.iconst 0, 1) := by decide +kernel
theorem dX3_init_10 : decode cX3_init 10 = .ok (.invokespecial 11, 3) := by decide +kernel
theorem dX3_init_13 : decode cX3_init 13 = .ok (.putfield 14, 3) := by decide +kernel
theorem dX3_init_16 : decode cX3_init 16 = .ok (.aload_n 0, 1) := by decide +kernel
theorem dX3_init_17 : decode cX3_init 17 = .ok (.new 9, 3) := by decide +kernel
theorem dX3_init_20 : decode cX3_init 20 = .ok (.dup, 1) := by decide +kernel
theorem dX3_init_21 : decode cX3_init 21 = .ok (.iconst 1, 1) := by decide +kernel
theorem dX3_init_22 : decode cX3_init 22 = .ok (.invokespecial 11, 3) := by decide +kernel
theorem dX3_init_25 : decode cX3_init 25 = .ok (.putfield 20, 3) := by decide +kernel
theorem dX3_init_28 : decode cX3_init 28 = .ok (.aload_n 0, 1) := by decide +kernel
theorem dX3_init_29 : decode cX3_init 29 = .ok (.new 23, 3) := by decide +kernel
theorem dX3_init_32 : decode cX3_init 32 = .ok (.dup, 1) := by decide +kernel
theorem dX3_init_33 : decode cX3_init 33 = .ok (.invokespecial 25, 3) := by decide +kernel
theorem dX3_init_36 : decode cX3_init 36 = .ok (.putfield 26, 3) := by decide +kernel
theorem dX3_init_39 : decode cX3_init 39 = .ok (.aload_n 0, 1) := by decide +kernel
theorem dX3_init_40 : decode cX3_init 40 = .ok (.new 23, 3) := by decide +kernel
theorem dX3_init_43 : decode cX3_init 43 = .ok (.dup, 1) := by decide +kernel
theorem dX3_init_44 : decode cX3_init 44 = .ok (.invokespecial 25, 3) := by decide +kernel
theorem dX3_init_47 : decode cX3_init 47 = .ok (.putfield 30, 3) := by decide +kernel
theorem dX3_init_50 : decode cX3_init 50 = .ok (.aload_n 0, 1) := by decide +kernel
theorem dX3_init_51 : decode cX3_init 51 = .ok (.iconst 0, 1) := by decide +kernel
theorem dX3_init_52 : decode cX3_init 52 = .ok (.putfield 33, 3) := by decide +kernel
theorem dX3_init_55 : decode cX3_init 55 = .ok (.aload_n 0, 1) := by decide +kernel
theorem dX3_init_56 : decode cX3_init 56 = .ok (.iconst 0, 1) := by decide +kernel
theorem dX3_init_57 : decode cX3_init 57 = .ok (.putfield 37, 3) := by decide +kernel
theorem dX3_init_60 : decode cX3_init 60 = .ok (.aload_n 0, 1) := by decide +kernel
theorem dX3_init_61 : decode cX3_init 61 = .ok (.iconst 0, 1) := by decide +kernel
theorem dX3_init_62 : decode cX3_init 62 = .ok (.putfield 40, 3) := by decide +kernel
theorem dX3_init_65 : decode cX3_init 65 = .ok (.aload_n 0, 1) := by decide +kernel
theorem dX3_init_66 : decode cX3_init 66 = .ok (.iconst 0, 1) := by decide +kernel
theorem dX3_init_67 : decode cX3_init 67 = .ok (.putfield 43, 3) := by decide +kernel
theorem dX3_init_70 : decode cX3_init 70 = .ok (.aload_n 0, 1) := by decide +kernel
theorem dX3_init_71 : decode cX3_init 71 = .ok (.iconst 0, 1) := by decide +kernel
theorem dX3_init_72 : decode cX3_init 72 = .ok (.putfield 46, 3) := by decide +kernel
theorem dX3_init_75 : decode cX3_init 75 = .ok (.aload_n 0, 1) := by decide +kernel
theorem dX3_init_76 : decode cX3_init 76 = .ok (.iload_n 1, 1) := by decide +kernel
theorem dX3_init_77 : decode cX3_init 77 = .ok (.putfield 49, 3) := by decide +kernel
theorem dX3_init_80 : decode cX3_init 80 = .ok (.aload_n 0, 1) := by decide +kernel
theorem dX3_init_81 : decode cX3_init 81 = .ok (.aload_n 2, 1) := by decide +kernel
theorem dX3_init_82 : decode cX3_init 82 = .ok (.putfield 52, 3) := by decide +kernel
theorem dX3_init_85 : decode cX3_init 85 = .ok (.aload_n 0, 1) := by decide +kernel
theorem dX3_init_86 : decode cX3_init 86 = .ok (.aload_n 3, 1) := by decide +kernel
theorem dX3_init_87 : decode cX3_init 87 = .ok (.putfield 56, 3) := by decide +kernel
theorem dX3_init_90 : decode cX3_init 90 = .ok (.aload_n 0, 1) := by decide +kernel
theorem dX3_init_91 : decode cX3_init 91 = .ok (.aload 4, 2) := by decide +kernel
theorem dX3_init_93 : decode cX3_init 93 = .ok (.putfield 60, 3) := by decide +kernel
theorem dX3_init_96 : decode cX3_init 96 = .ok (.aload_n 0, 1) := by decide +kernel
theorem dX3_init_97 : decode cX3_init 97 = .ok (.iload 5, 2) := by decide +kernel
theorem dX3_init_99 : decode cX3_init 99 = .ok (.putfield 63, 3) := by decide +kernel
theorem dX3_init_102 : decode cX3_init 102 = .ok (.aload_n 0, 1) := by decide +kernel
theorem dX3_init_103 : decode cX3_init 103 = .ok (.iload 6, 2) := by decide +kernel
theorem dX3_init_105 : decode cX3_init 105 = .ok (.putfield 66, 3) := by decide +kernel
theorem dX3_init_108 : decode cX3_init 108 = .ok (.aload_n 0, 1) := by decide +kernel
theorem dX3_init_109 : decode cX3_init 109 = .ok (.iload 7, 2) := by decide +kernel
theorem dX3_init_111 : decode cX3_init 111 = .ok (.putfield 69, 3) := by decide +kernel
theorem dX3_init_114 : decode cX3_init 114 = .ok (.return_, 1) := by decide +kernel
theorem dX3_arrival_0 : decode cX3_arrival 0 = .ok (.aload_n 0, 1) := by decide +kernel
theorem dX3_arrival_1 : decode cX3_arrival 1 = .ok (.getfield 63, 3) := by decide +kernel
theorem dX3_arrival_4 : decode cX3_arrival 4 = .ok (.aload_n 0, 1) := by decide +kernel
theorem dX3_arrival_5 : decode cX3_arrival 5 = .ok (.getfield 66, 3) := by decide +kernel
theorem dX3_arrival_8 : decode cX3_arrival 8 = .ok (.iadd, 1) := by decide +kernel
theorem dX3_arrival_9 : decode cX3_arrival 9 = .ok (.ireturn, 1) := by decide +kernel
set_option maxRecDepth 20000 in
theorem ggX3_refusal_X3_hasLength : GoodIn wsX3_refusal wsX3_hasLength := goodIn_r _ [13, 14, 15, 7, 16, 58, 59, 60, 30, 31, 32, 33, 34, 35, 36, 37, 38, 39, 40, 41, 42, 43, 44, 45, 46, 47, 48, 49, 50, 51, 52, 53, 54, 55, 56, 57, 61, 62, 63, 64, 65, 66, 67, 68, 69] (by decide +kernel) (by decide +kernel)
set_option maxRecDepth 20000 in
theorem gX3_refusal_X3_hasLength : GoodIn wsX3_refusal (wsV RX3 83 RX3 yX3_hasLength wsX3_hasLength) := goodIn_app (goodIn_of _ (by decide +kernel)) ggX3_refusal_X3_hasLength
set_option maxRecDepth 20000 in
theorem ggX3_refusal_X3_canTake : GoodIn wsX3_refusal wsX3_canTake := goodIn_r _ [20, 4, 6, 21, 22, 23, 24, 7, 25, 26, 27, 28, 12, 29, 3, 5, 9, 10, 11, 13, 14, 15, 16, 58, 59, 60, 30, 31, 32, 33, 34, 35, 36, 37, 38, 39, 40, 41, 42, 43, 44, 45, 46, 47, 48, 49, 50, 51, 52, 53, 54, 55, 56, 57, 61, 62, 63, 64, 65, 66, 67, 68, 69] (by decide +kernel) (by decide +kernel)
set_option maxRecDepth 20000 in
theorem gX3_refusal_X3_canTake : GoodIn wsX3_refusal (wsV RX3 87 RX3 yX3_canTake wsX3_canTake) := goodIn_app (goodIn_of _ (by decide +kernel)) ggX3_refusal_X3_canTake
theorem dX3_refusal_0 : decode cX3_refusal 0 = .ok (.aload_n 1, 1) := by decide +kernel
theorem dX3_refusal_1 : decode cX3_refusal 1 = .ok (.getfield 73, 3) := by decide +kernel
theorem dX3_refusal_4 : decode cX3_refusal 4 = .ok (.ifCond .eq 23, 3) := by decide +kernel
theorem dX3_refusal_7 : decode cX3_refusal 7 = .ok (.aload_n 0, 1) := by decide +kernel
theorem dX3_refusal_8 : decode cX3_refusal 8 = .ok (.getfield 37, 3) := by decide +kernel
theorem dX3_refusal_11 : decode cX3_refusal 11 = .ok (.ifCond .eq 16, 3) := by decide +kernel
theorem dX3_refusal_14 : decode cX3_refusal 14 = .ok (.aload_n 0, 1) := by decide +kernel
theorem dX3_refusal_15 : decode cX3_refusal 15 = .ok (.getfield 37, 3) := by decide +kernel
theorem dX3_refusal_18 : decode cX3_refusal 18 = .ok (.aload_n 1, 1) := by decide +kernel
theorem dX3_refusal_19 : decode cX3_refusal 19 = .ok (.getfield 73, 3) := by decide +kernel
theorem dX3_refusal_22 : decode cX3_refusal 22 = .ok (.if_icmp .eq 5, 3) := by decide +kernel
theorem dX3_refusal_25 : decode cX3_refusal 25 = .ok (.iconst 1, 1) := by decide +kernel
theorem dX3_refusal_26 : decode cX3_refusal 26 = .ok (.ireturn, 1) := by decide +kernel
theorem dX3_refusal_27 : decode cX3_refusal 27 = .ok (.aload_n 0, 1) := by decide +kernel
theorem dX3_refusal_28 : decode cX3_refusal 28 = .ok (.getfield 14, 3) := by decide +kernel
theorem dX3_refusal_31 : decode cX3_refusal 31 = .ok (.getfield 76, 3) := by decide +kernel
theorem dX3_refusal_34 : decode cX3_refusal 34 = .ok (.aload_n 0, 1) := by decide +kernel
theorem dX3_refusal_35 : decode cX3_refusal 35 = .ok (.getfield 20, 3) := by decide +kernel
theorem dX3_refusal_38 : decode cX3_refusal 38 = .ok (.getfield 76, 3) := by decide +kernel
theorem dX3_refusal_41 : decode cX3_refusal 41 = .ok (.iadd, 1) := by decide +kernel
theorem dX3_refusal_42 : decode cX3_refusal 42 = .ok (.aload_n 1, 1) := by decide +kernel
theorem dX3_refusal_43 : decode cX3_refusal 43 = .ok (.getfield 79, 3) := by decide +kernel
theorem dX3_refusal_46 : decode cX3_refusal 46 = .ok (.iadd, 1) := by decide +kernel
theorem dX3_refusal_47 : decode cX3_refusal 47 = .ok (.aload_n 0, 1) := by decide +kernel
theorem dX3_refusal_48 : decode cX3_refusal 48 = .ok (.getfield 52, 3) := by decide +kernel
theorem dX3_refusal_51 : decode cX3_refusal 51 = .ok (.getfield 80, 3) := by decide +kernel
theorem dX3_refusal_54 : decode cX3_refusal 54 = .ok (.if_icmp .le 5, 3) := by decide +kernel
theorem dX3_refusal_57 : decode cX3_refusal 57 = .ok (.iconst 2, 1) := by decide +kernel
theorem dX3_refusal_58 : decode cX3_refusal 58 = .ok (.ireturn, 1) := by decide +kernel
theorem dX3_refusal_59 : decode cX3_refusal 59 = .ok (.aload_n 0, 1) := by decide +kernel
theorem dX3_refusal_60 : decode cX3_refusal 60 = .ok (.aload_n 0, 1) := by decide +kernel
theorem dX3_refusal_61 : decode cX3_refusal 61 = .ok (.getfield 14, 3) := by decide +kernel
theorem dX3_refusal_64 : decode cX3_refusal 64 = .ok (.aload_n 1, 1) := by decide +kernel
theorem dX3_refusal_65 : decode cX3_refusal 65 = .ok (.invokevirtual 83, 3) := by decide +kernel
theorem dX3_refusal_68 : decode cX3_refusal 68 = .ok (.ifCond .ne 17, 3) := by decide +kernel
theorem dX3_refusal_71 : decode cX3_refusal 71 = .ok (.aload_n 0, 1) := by decide +kernel
theorem dX3_refusal_72 : decode cX3_refusal 72 = .ok (.aload_n 0, 1) := by decide +kernel
theorem dX3_refusal_73 : decode cX3_refusal 73 = .ok (.getfield 20, 3) := by decide +kernel
theorem dX3_refusal_76 : decode cX3_refusal 76 = .ok (.aload_n 1, 1) := by decide +kernel
theorem dX3_refusal_77 : decode cX3_refusal 77 = .ok (.invokevirtual 83, 3) := by decide +kernel
theorem dX3_refusal_80 : decode cX3_refusal 80 = .ok (.ifCond .ne 5, 3) := by decide +kernel
theorem dX3_refusal_83 : decode cX3_refusal 83 = .ok (.iconst 3, 1) := by decide +kernel
theorem dX3_refusal_84 : decode cX3_refusal 84 = .ok (.ireturn, 1) := by decide +kernel
theorem dX3_refusal_85 : decode cX3_refusal 85 = .ok (.aload_n 0, 1) := by decide +kernel
theorem dX3_refusal_86 : decode cX3_refusal 86 = .ok (.aload_n 0, 1) := by decide +kernel
theorem dX3_refusal_87 : decode cX3_refusal 87 = .ok (.getfield 14, 3) := by decide +kernel
theorem dX3_refusal_90 : decode cX3_refusal 90 = .ok (.aload_n 1, 1) := by decide +kernel
theorem dX3_refusal_91 : decode cX3_refusal 91 = .ok (.invokevirtual 87, 3) := by decide +kernel
theorem dX3_refusal_94 : decode cX3_refusal 94 = .ok (.ifCond .ne 17, 3) := by decide +kernel
theorem dX3_refusal_97 : decode cX3_refusal 97 = .ok (.aload_n 0, 1) := by decide +kernel
theorem dX3_refusal_98 : decode cX3_refusal 98 = .ok (.aload_n 0, 1) := by decide +kernel
theorem dX3_refusal_99 : decode cX3_refusal 99 = .ok (.getfield 20, 3) := by decide +kernel
theorem dX3_refusal_102 : decode cX3_refusal 102 = .ok (.aload_n 1, 1) := by decide +kernel
theorem dX3_refusal_103 : decode cX3_refusal 103 = .ok (.invokevirtual 87, 3) := by decide +kernel
theorem dX3_refusal_106 : decode cX3_refusal 106 = .ok (.ifCond .ne 5, 3) := by decide +kernel
theorem dX3_refusal_109 : decode cX3_refusal 109 = .ok (.iconst 4, 1) := by decide +kernel
theorem dX3_refusal_110 : decode cX3_refusal 110 = .ok (.ireturn, 1) := by decide +kernel
theorem dX3_refusal_111 : decode cX3_refusal 111 = .ok (.iconst 0, 1) := by decide +kernel
theorem dX3_refusal_112 : decode cX3_refusal 112 = .ok (.ireturn, 1) := by decide +kernel
set_option maxRecDepth 20000 in
theorem ggX3_takeAboard_X3_canTake : GoodIn wsX3_takeAboard wsX3_canTake := goodIn_r _ [17, 2, 4, 18, 19, 20, 21, 22, 23, 24, 25, 26, 16, 27, 3, 1, 28, 29, 30, 31, 5, 6, 32, 125, 126, 127, 128, 129, 130, 131, 132, 133, 134, 135, 136, 137, 138, 139, 109, 110, 111, 112, 113, 114, 115, 116, 117, 118, 119, 120, 121, 122, 123, 124, 140, 141, 142, 143, 144, 145, 146, 147, 148] (by decide +kernel) (by decide +kernel)
set_option maxRecDepth 20000 in
theorem gX3_takeAboard_X3_canTake : GoodIn wsX3_takeAboard (wsV RX3 87 RX3 yX3_canTake wsX3_canTake) := goodIn_app (goodIn_of _ (by decide +kernel)) ggX3_takeAboard_X3_canTake
set_option maxRecDepth 20000 in
theorem ggX3_takeAboard_X3_opposite : GoodIn wsX3_takeAboard wsX3_opposite := goodIn_r _ [27, 3, 1, 109, 110, 111, 112, 113, 114, 115, 116, 117, 118, 119, 120, 121, 122, 123, 124] (by decide +kernel) (by decide +kernel)
set_option maxRecDepth 20000 in
theorem gX3_takeAboard_X3_opposite : GoodIn wsX3_takeAboard (wsV RX3 90 RX3 yX3_opposite wsX3_opposite) := goodIn_app (goodIn_of _ (by decide +kernel)) ggX3_takeAboard_X3_opposite
set_option maxRecDepth 20000 in
theorem ggX3_takeAboard_Jx4a65c_add_9ea2d : GoodIn wsX3_takeAboard wsJx4a65c_add_9ea2d := goodIn_r _ [37, 38, 39, 40, 41, 42, 43, 44, 36, 45, 46, 47, 48, 49, 50, 51, 52, 53, 54, 55, 56, 20, 57, 58, 59, 60, 61, 62, 63, 64, 65, 66, 67, 68, 69, 70, 71, 72, 73, 74, 75, 76, 77, 78, 79, 80, 81, 82, 83, 84, 85, 86, 87, 149, 150, 151] (by decide +kernel) (by decide +kernel)
set_option maxRecDepth 20000 in
theorem gX3_takeAboard_Jx4a65c_add_9ea2d : GoodIn wsX3_takeAboard (wsV RX3 103 RJx4a65c yJx4a65c_add_9ea2d wsJx4a65c_add_9ea2d) := goodIn_app (goodIn_of _ (by decide +kernel)) ggX3_takeAboard_Jx4a65c_add_9ea2d
set_option maxRecDepth 20000 in
theorem ggX3_takeAboard_X3_putFirstOff : GoodIn wsX3_takeAboard wsX3_putFirstOff := goodIn_r _ [91, 92, 93, 94, 95, 82, 20, 83, 96, 97, 98, 36, 99, 38, 39, 41, 40, 100, 85, 86, 87, 101, 102, 103, 104, 46, 47, 48, 49, 50, 51, 52, 53, 54, 55, 56, 57, 58, 59, 60, 61, 62, 63, 64, 65, 66, 67, 68, 69, 70, 71, 72, 73, 74, 75, 76, 77, 78, 79, 80, 81, 84, 105, 106, 107, 108, 128, 129, 130, 131, 132, 133, 134, 135, 136, 137, 138, 139, 109, 110, 111, 112, 113, 114, 115, 116, 117, 118, 119, 120, 121, 122, 123, 124, 149, 150, 151] (by decide +kernel) (by decide +kernel)
set_option maxRecDepth 20000 in
theorem gX3_takeAboard_X3_putFirstOff : GoodIn wsX3_takeAboard (wsV RX3 107 RX3 yX3_putFirstOff wsX3_putFirstOff) := goodIn_app (goodIn_of _ (by decide +kernel)) ggX3_takeAboard_X3_putFirstOff
theorem dX3_takeAboard_0 : decode cX3_takeAboard 0 = .ok (.aload_n 0, 1) := by decide +kernel
theorem dX3_takeAboard_1 : decode cX3_takeAboard 1 = .ok (.getfield 20, 3) := by decide +kernel
theorem dX3_takeAboard_4 : decode cX3_takeAboard 4 = .ok (.getfield 76, 3) := by decide +kernel
theorem dX3_takeAboard_7 : decode cX3_takeAboard 7 = .ok (.aload_n 0, 1) := by decide +kernel
theorem dX3_takeAboard_8 : decode cX3_takeAboard 8 = .ok (.getfield 14, 3) := by decide +kernel
theorem dX3_takeAboard_11 : decode cX3_takeAboard 11 = .ok (.getfield 76, 3) := by decide +kernel
theorem dX3_takeAboard_14 : decode cX3_takeAboard 14 = .ok (.if_icmp .ge 10, 3) := by decide +kernel
theorem dX3_takeAboard_17 : decode cX3_takeAboard 17 = .ok (.aload_n 0, 1) := by decide +kernel
theorem dX3_takeAboard_18 : decode cX3_takeAboard 18 = .ok (.getfield 20, 3) := by decide +kernel
theorem dX3_takeAboard_21 : decode cX3_takeAboard 21 = .ok (.goto 7, 3) := by decide +kernel
theorem dX3_takeAboard_24 : decode cX3_takeAboard 24 = .ok (.aload_n 0, 1) := by decide +kernel
theorem dX3_takeAboard_25 : decode cX3_takeAboard 25 = .ok (.getfield 14, 3) := by decide +kernel
theorem dX3_takeAboard_28 : decode cX3_takeAboard 28 = .ok (.astore_n 2, 1) := by decide +kernel
theorem dX3_takeAboard_29 : decode cX3_takeAboard 29 = .ok (.aload_n 0, 1) := by decide +kernel
theorem dX3_takeAboard_30 : decode cX3_takeAboard 30 = .ok (.aload_n 2, 1) := by decide +kernel
theorem dX3_takeAboard_31 : decode cX3_takeAboard 31 = .ok (.aload_n 1, 1) := by decide +kernel
theorem dX3_takeAboard_32 : decode cX3_takeAboard 32 = .ok (.invokevirtual 87, 3) := by decide +kernel
theorem dX3_takeAboard_35 : decode cX3_takeAboard 35 = .ok (.ifCond .eq 7, 3) := by decide +kernel
theorem dX3_takeAboard_38 : decode cX3_takeAboard 38 = .ok (.aload_n 2, 1) := by decide +kernel
theorem dX3_takeAboard_39 : decode cX3_takeAboard 39 = .ok (.goto 8, 3) := by decide +kernel
theorem dX3_takeAboard_42 : decode cX3_takeAboard 42 = .ok (.aload_n 0, 1) := by decide +kernel
theorem dX3_takeAboard_43 : decode cX3_takeAboard 43 = .ok (.aload_n 2, 1) := by decide +kernel
theorem dX3_takeAboard_44 : decode cX3_takeAboard 44 = .ok (.invokevirtual 90, 3) := by decide +kernel
theorem dX3_takeAboard_47 : decode cX3_takeAboard 47 = .ok (.astore_n 3, 1) := by decide +kernel
theorem dX3_takeAboard_48 : decode cX3_takeAboard 48 = .ok (.aload_n 3, 1) := by decide +kernel
theorem dX3_takeAboard_49 : decode cX3_takeAboard 49 = .ok (.dup, 1) := by decide +kernel
theorem dX3_takeAboard_50 : decode cX3_takeAboard 50 = .ok (.getfield 76, 3) := by decide +kernel
theorem dX3_takeAboard_53 : decode cX3_takeAboard 53 = .ok (.aload_n 1, 1) := by decide +kernel
theorem dX3_takeAboard_54 : decode cX3_takeAboard 54 = .ok (.getfield 79, 3) := by decide +kernel
theorem dX3_takeAboard_57 : decode cX3_takeAboard 57 = .ok (.iadd, 1) := by decide +kernel
theorem dX3_takeAboard_58 : decode cX3_takeAboard 58 = .ok (.putfield 76, 3) := by decide +kernel
theorem dX3_takeAboard_61 : decode cX3_takeAboard 61 = .ok (.aload_n 3, 1) := by decide +kernel
theorem dX3_takeAboard_62 : decode cX3_takeAboard 62 = .ok (.dup, 1) := by decide +kernel
theorem dX3_takeAboard_63 : decode cX3_takeAboard 63 = .ok (.getfield 94, 3) := by decide +kernel
theorem dX3_takeAboard_66 : decode cX3_takeAboard 66 = .ok (.aload_n 1, 1) := by decide +kernel
theorem dX3_takeAboard_67 : decode cX3_takeAboard 67 = .ok (.getfield 97, 3) := by decide +kernel
theorem dX3_takeAboard_70 : decode cX3_takeAboard 70 = .ok (.iadd, 1) := by decide +kernel
theorem dX3_takeAboard_71 : decode cX3_takeAboard 71 = .ok (.putfield 94, 3) := by decide +kernel
theorem dX3_takeAboard_74 : decode cX3_takeAboard 74 = .ok (.aload_n 1, 1) := by decide +kernel
theorem dX3_takeAboard_75 : decode cX3_takeAboard 75 = .ok (.getfield 73, 3) := by decide +kernel
theorem dX3_takeAboard_78 : decode cX3_takeAboard 78 = .ok (.ifCond .eq 11, 3) := by decide +kernel
theorem dX3_takeAboard_81 : decode cX3_takeAboard 81 = .ok (.aload_n 0, 1) := by decide +kernel
theorem dX3_takeAboard_82 : decode cX3_takeAboard 82 = .ok (.aload_n 1, 1) := by decide +kernel
theorem dX3_takeAboard_83 : decode cX3_takeAboard 83 = .ok (.getfield 73, 3) := by decide +kernel
theorem dX3_takeAboard_86 : decode cX3_takeAboard 86 = .ok (.putfield 37, 3) := by decide +kernel
theorem dX3_takeAboard_89 : decode cX3_takeAboard 89 = .ok (.aload_n 1, 1) := by decide +kernel
theorem dX3_takeAboard_90 : decode cX3_takeAboard 90 = .ok (.iconst 1, 1) := by decide +kernel
theorem dX3_takeAboard_91 : decode cX3_takeAboard 91 = .ok (.putfield 98, 3) := by decide +kernel
theorem dX3_takeAboard_94 : decode cX3_takeAboard 94 = .ok (.aload_n 1, 1) := by decide +kernel
theorem dX3_takeAboard_95 : decode cX3_takeAboard 95 = .ok (.aload_n 3, 1) := by decide +kernel
theorem dX3_takeAboard_96 : decode cX3_takeAboard 96 = .ok (.getfield 99, 3) := by decide +kernel
theorem dX3_takeAboard_99 : decode cX3_takeAboard 99 = .ok (.putfield 100, 3) := by decide +kernel
theorem dX3_takeAboard_102 : decode cX3_takeAboard 102 = .ok (.aload_n 0, 1) := by decide +kernel
theorem dX3_takeAboard_103 : decode cX3_takeAboard 103 = .ok (.getfield 26, 3) := by decide +kernel
theorem dX3_takeAboard_106 : decode cX3_takeAboard 106 = .ok (.aload_n 1, 1) := by decide +kernel
theorem dX3_takeAboard_107 : decode cX3_takeAboard 107 = .ok (.invokevirtual 103, 3) := by decide +kernel
theorem dX3_takeAboard_110 : decode cX3_takeAboard 110 = .ok (.pop, 1) := by decide +kernel
theorem dX3_takeAboard_111 : decode cX3_takeAboard 111 = .ok (.aload_n 0, 1) := by decide +kernel
theorem dX3_takeAboard_112 : decode cX3_takeAboard 112 = .ok (.aload_n 1, 1) := by decide +kernel
theorem dX3_takeAboard_113 : decode cX3_takeAboard 113 = .ok (.invokevirtual 107, 3) := by decide +kernel
theorem dX3_takeAboard_116 : decode cX3_takeAboard 116 = .ok (.return_, 1) := by decide +kernel
set_option maxRecDepth 20000 in
theorem ggX3_land_Jx4a65c_size_8abf5 : GoodIn wsX3_land wsJx4a65c_size_8abf5 := goodIn_r _ [8, 9, 55, 56, 57] (by decide +kernel) (by decide +kernel)
set_option maxRecDepth 20000 in
theorem gX3_land_Jx4a65c_size_8abf5 : GoodIn wsX3_land (wsV RX3 111 RJx4a65c yJx4a65c_size_8abf5 wsJx4a65c_size_8abf5) := goodIn_app (goodIn_of _ (by decide +kernel)) ggX3_land_Jx4a65c_size_8abf5
set_option maxRecDepth 20000 in
theorem ggX3_land_Jx4a65c_get_915e3 : GoodIn wsX3_land wsJx4a65c_get_915e3 := goodIn_r _ [13, 9, 14, 15, 16, 17, 18, 19, 20, 21, 22, 23, 24, 7, 25, 26, 55, 56, 57] (by decide +kernel) (by decide +kernel)
set_option maxRecDepth 20000 in
theorem gX3_land_Jx4a65c_get_915e3 : GoodIn wsX3_land (wsV RX3 115 RJx4a65c yJx4a65c_get_915e3 wsJx4a65c_get_915e3) := goodIn_app (goodIn_of _ (by decide +kernel)) ggX3_land_Jx4a65c_get_915e3
theorem dX3_land_0 : decode cX3_land 0 = .ok (.iconst 0, 1) := by decide +kernel
theorem dX3_land_1 : decode cX3_land 1 = .ok (.istore_n 1, 1) := by decide +kernel
theorem dX3_land_2 : decode cX3_land 2 = .ok (.iload_n 1, 1) := by decide +kernel
theorem dX3_land_3 : decode cX3_land 3 = .ok (.aload_n 0, 1) := by decide +kernel
theorem dX3_land_4 : decode cX3_land 4 = .ok (.getfield 30, 3) := by decide +kernel
theorem dX3_land_7 : decode cX3_land 7 = .ok (.invokevirtual 111, 3) := by decide +kernel
theorem dX3_land_10 : decode cX3_land 10 = .ok (.if_icmp .ge 24, 3) := by decide +kernel
theorem dX3_land_13 : decode cX3_land 13 = .ok (.aload_n 0, 1) := by decide +kernel
theorem dX3_land_14 : decode cX3_land 14 = .ok (.getfield 30, 3) := by decide +kernel
theorem dX3_land_17 : decode cX3_land 17 = .ok (.iload_n 1, 1) := by decide +kernel
theorem dX3_land_18 : decode cX3_land 18 = .ok (.invokevirtual 115, 3) := by decide +kernel
theorem dX3_land_21 : decode cX3_land 21 = .ok (.checkcast 74, 3) := by decide +kernel
theorem dX3_land_24 : decode cX3_land 24 = .ok (.iconst 2, 1) := by decide +kernel
theorem dX3_land_25 : decode cX3_land 25 = .ok (.putfield 98, 3) := by decide +kernel
theorem dX3_land_28 : decode cX3_land 28 = .ok (.iinc 1 1, 3) := by decide +kernel
theorem dX3_land_31 : decode cX3_land 31 = .ok (.goto (-29), 3) := by decide +kernel
theorem dX3_land_34 : decode cX3_land 34 = .ok (.return_, 1) := by decide +kernel
set_option maxRecDepth 20000 in
theorem ggX3_putFirstOff_Jx4a65c_add_7a177 : GoodIn wsX3_putFirstOff wsJx4a65c_add_7a177 := goodIn_r _ [12, 13, 14, 15, 16, 17, 18, 19, 20, 21, 22, 23, 11, 24, 25, 26, 27, 28, 29, 30, 31, 32, 33, 34, 35, 6, 36, 37, 38, 39, 40, 41, 42, 43, 44, 45, 46, 47, 48, 49, 50, 51, 52, 53, 54, 55, 56, 57, 58, 59, 60, 5, 7, 61, 94, 95, 96] (by decide +kernel) (by decide +kernel)
set_option maxRecDepth 20000 in
theorem gX3_putFirstOff_Jx4a65c_add_7a177 : GoodIn wsX3_putFirstOff (wsV RX3 122 RJx4a65c yJx4a65c_add_7a177 wsJx4a65c_add_7a177) := goodIn_app (goodIn_of _ (by decide +kernel)) ggX3_putFirstOff_Jx4a65c_add_7a177
set_option maxRecDepth 20000 in
theorem ggX3_putFirstOff_Jx4a65c_size_8abf5 : GoodIn wsX3_putFirstOff wsJx4a65c_size_8abf5 := goodIn_r _ [65, 15, 94, 95, 96] (by decide +kernel) (by decide +kernel)
set_option maxRecDepth 20000 in
theorem gX3_putFirstOff_Jx4a65c_size_8abf5 : GoodIn wsX3_putFirstOff (wsV RX3 111 RJx4a65c yJx4a65c_size_8abf5 wsJx4a65c_size_8abf5) := goodIn_app (goodIn_of _ (by decide +kernel)) ggX3_putFirstOff_Jx4a65c_size_8abf5
theorem dX3_putFirstOff_0 : decode cX3_putFirstOff 0 = .ok (.aload_n 1, 1) := by decide +kernel
theorem dX3_putFirstOff_1 : decode cX3_putFirstOff 1 = .ok (.getfield 119, 3) := by decide +kernel
theorem dX3_putFirstOff_4 : decode cX3_putFirstOff 4 = .ok (.ifCond .eq 25, 3) := by decide +kernel
theorem dX3_putFirstOff_7 : decode cX3_putFirstOff 7 = .ok (.aload_n 0, 1) := by decide +kernel
theorem dX3_putFirstOff_8 : decode cX3_putFirstOff 8 = .ok (.getfield 30, 3) := by decide +kernel
theorem dX3_putFirstOff_11 : decode cX3_putFirstOff 11 = .ok (.iconst 0, 1) := by decide +kernel
theorem dX3_putFirstOff_12 : decode cX3_putFirstOff 12 = .ok (.aload_n 1, 1) := by decide +kernel
theorem dX3_putFirstOff_13 : decode cX3_putFirstOff 13 = .ok (.invokevirtual 122, 3) := by decide +kernel
theorem dX3_putFirstOff_16 : decode cX3_putFirstOff 16 = .ok (.aload_n 0, 1) := by decide +kernel
theorem dX3_putFirstOff_17 : decode cX3_putFirstOff 17 = .ok (.dup, 1) := by decide +kernel
theorem dX3_putFirstOff_18 : decode cX3_putFirstOff 18 = .ok (.getfield 33, 3) := by decide +kernel
theorem dX3_putFirstOff_21 : decode cX3_putFirstOff 21 = .ok (.iconst 1, 1) := by decide +kernel
theorem dX3_putFirstOff_22 : decode cX3_putFirstOff 22 = .ok (.iadd, 1) := by decide +kernel
theorem dX3_putFirstOff_23 : decode cX3_putFirstOff 23 = .ok (.putfield 33, 3) := by decide +kernel
theorem dX3_putFirstOff_26 : decode cX3_putFirstOff 26 = .ok (.goto 25, 3) := by decide +kernel
theorem dX3_putFirstOff_29 : decode cX3_putFirstOff 29 = .ok (.aload_n 0, 1) := by decide +kernel
theorem dX3_putFirstOff_30 : decode cX3_putFirstOff 30 = .ok (.getfield 30, 3) := by decide +kernel
theorem dX3_putFirstOff_33 : decode cX3_putFirstOff 33 = .ok (.aload_n 0, 1) := by decide +kernel
theorem dX3_putFirstOff_34 : decode cX3_putFirstOff 34 = .ok (.getfield 33, 3) := by decide +kernel
theorem dX3_putFirstOff_37 : decode cX3_putFirstOff 37 = .ok (.aload_n 0, 1) := by decide +kernel
theorem dX3_putFirstOff_38 : decode cX3_putFirstOff 38 = .ok (.getfield 30, 3) := by decide +kernel
theorem dX3_putFirstOff_41 : decode cX3_putFirstOff 41 = .ok (.invokevirtual 111, 3) := by decide +kernel
theorem dX3_putFirstOff_44 : decode cX3_putFirstOff 44 = .ok (.invokestatic 125, 3) := by decide +kernel
theorem dX3_putFirstOff_47 : decode cX3_putFirstOff 47 = .ok (.aload_n 1, 1) := by decide +kernel
theorem dX3_putFirstOff_48 : decode cX3_putFirstOff 48 = .ok (.invokevirtual 122, 3) := by decide +kernel
theorem dX3_putFirstOff_51 : decode cX3_putFirstOff 51 = .ok (.return_, 1) := by decide +kernel
theorem dX3_opposite_0 : decode cX3_opposite 0 = .ok (.aload_n 1, 1) := by decide +kernel
theorem dX3_opposite_1 : decode cX3_opposite 1 = .ok (.aload_n 0, 1) := by decide +kernel
theorem dX3_opposite_2 : decode cX3_opposite 2 = .ok (.getfield 14, 3) := by decide +kernel
theorem dX3_opposite_5 : decode cX3_opposite 5 = .ok (.if_acmp .ne 10, 3) := by decide +kernel
theorem dX3_opposite_8 : decode cX3_opposite 8 = .ok (.aload_n 0, 1) := by decide +kernel
theorem dX3_opposite_9 : decode cX3_opposite 9 = .ok (.getfield 20, 3) := by decide +kernel
theorem dX3_opposite_12 : decode cX3_opposite 12 = .ok (.goto 7, 3) := by decide +kernel
theorem dX3_opposite_15 : decode cX3_opposite 15 = .ok (.aload_n 0, 1) := by decide +kernel
theorem dX3_opposite_16 : decode cX3_opposite 16 = .ok (.getfield 14, 3) := by decide +kernel
theorem dX3_opposite_19 : decode cX3_opposite 19 = .ok (.areturn, 1) := by decide +kernel
theorem dX3_hasLength_0 : decode cX3_hasLength 0 = .ok (.aload_n 1, 1) := by decide +kernel
theorem dX3_hasLength_1 : decode cX3_hasLength 1 = .ok (.getfield 94, 3) := by decide +kernel
theorem dX3_hasLength_4 : decode cX3_hasLength 4 = .ok (.aload_n 2, 1) := by decide +kernel
theorem dX3_hasLength_5 : decode cX3_hasLength 5 = .ok (.getfield 97, 3) := by decide +kernel
theorem dX3_hasLength_8 : decode cX3_hasLength 8 = .ok (.iadd, 1) := by decide +kernel
theorem dX3_hasLength_9 : decode cX3_hasLength 9 = .ok (.aload_n 0, 1) := by decide +kernel
theorem dX3_hasLength_10 : decode cX3_hasLength 10 = .ok (.getfield 52, 3) := by decide +kernel
theorem dX3_hasLength_13 : decode cX3_hasLength 13 = .ok (.getfield 131, 3) := by decide +kernel
theorem dX3_hasLength_16 : decode cX3_hasLength 16 = .ok (.if_icmp .gt 7, 3) := by decide +kernel
theorem dX3_hasLength_19 : decode cX3_hasLength 19 = .ok (.iconst 1, 1) := by decide +kernel
theorem dX3_hasLength_20 : decode cX3_hasLength 20 = .ok (.goto 4, 3) := by decide +kernel
theorem dX3_hasLength_23 : decode cX3_hasLength 23 = .ok (.iconst 0, 1) := by decide +kernel
theorem dX3_hasLength_24 : decode cX3_hasLength 24 = .ok (.ireturn, 1) := by decide +kernel
set_option maxRecDepth 20000 in
theorem ggX3_canTake_X3_opposite : GoodIn wsX3_canTake wsX3_opposite := goodIn_r _ [13, 14, 15, 38, 39, 40, 41, 42, 43, 44, 45, 46, 47, 48, 49, 50, 51, 52, 53] (by decide +kernel) (by decide +kernel)
set_option maxRecDepth 20000 in
theorem gX3_canTake_X3_opposite : GoodIn wsX3_canTake (wsV RX3 90 RX3 yX3_opposite wsX3_opposite) := goodIn_app (goodIn_of _ (by decide +kernel)) ggX3_canTake_X3_opposite
set_option maxRecDepth 20000 in
theorem ggX3_canTake_X3_hasLength : GoodIn wsX3_canTake wsX3_hasLength := goodIn_r _ [19, 20, 21, 7, 22, 23, 24, 25, 26, 27, 28, 29, 30, 31, 32, 33, 34, 35, 36, 37, 38, 39, 40, 41, 42, 43, 44, 45, 46, 47, 48, 49, 50, 51, 52, 53, 54, 55, 56, 57, 58, 59, 60, 61, 62] (by decide +kernel) (by decide +kernel)
set_option maxRecDepth 20000 in
theorem gX3_canTake_X3_hasLength : GoodIn wsX3_canTake (wsV RX3 83 RX3 yX3_hasLength wsX3_hasLength) := goodIn_app (goodIn_of _ (by decide +kernel)) ggX3_canTake_X3_hasLength
theorem dX3_canTake_0 : decode cX3_canTake 0 = .ok (.aload_n 1, 1) := by decide +kernel
theorem dX3_canTake_1 : decode cX3_canTake 1 = .ok (.getfield 76, 3) := by decide +kernel
theorem dX3_canTake_4 : decode cX3_canTake 4 = .ok (.aload_n 2, 1) := by decide +kernel
theorem dX3_canTake_5 : decode cX3_canTake 5 = .ok (.getfield 79, 3) := by decide +kernel
theorem dX3_canTake_8 : decode cX3_canTake 8 = .ok (.iadd, 1) := by decide +kernel
theorem dX3_canTake_9 : decode cX3_canTake 9 = .ok (.aload_n 0, 1) := by decide +kernel
theorem dX3_canTake_10 : decode cX3_canTake 10 = .ok (.aload_n 1, 1) := by decide +kernel
theorem dX3_canTake_11 : decode cX3_canTake 11 = .ok (.invokevirtual 90, 3) := by decide +kernel
theorem dX3_canTake_14 : decode cX3_canTake 14 = .ok (.getfield 76, 3) := by decide +kernel
theorem dX3_canTake_17 : decode cX3_canTake 17 = .ok (.isub, 1) := by decide +kernel
theorem dX3_canTake_18 : decode cX3_canTake 18 = .ok (.invokestatic 132, 3) := by decide +kernel
theorem dX3_canTake_21 : decode cX3_canTake 21 = .ok (.istore_n 3, 1) := by decide +kernel
theorem dX3_canTake_22 : decode cX3_canTake 22 = .ok (.aload_n 0, 1) := by decide +kernel
theorem dX3_canTake_23 : decode cX3_canTake 23 = .ok (.aload_n 1, 1) := by decide +kernel
theorem dX3_canTake_24 : decode cX3_canTake 24 = .ok (.aload_n 2, 1) := by decide +kernel
theorem dX3_canTake_25 : decode cX3_canTake 25 = .ok (.invokevirtual 83, 3) := by decide +kernel
theorem dX3_canTake_28 : decode cX3_canTake 28 = .ok (.ifCond .eq 18, 3) := by decide +kernel
theorem dX3_canTake_31 : decode cX3_canTake 31 = .ok (.iload_n 3, 1) := by decide +kernel
theorem dX3_canTake_32 : decode cX3_canTake 32 = .ok (.aload_n 0, 1) := by decide +kernel
theorem dX3_canTake_33 : decode cX3_canTake 33 = .ok (.getfield 52, 3) := by decide +kernel
theorem dX3_canTake_36 : decode cX3_canTake 36 = .ok (.getfield 136, 3) := by decide +kernel
theorem dX3_canTake_39 : decode cX3_canTake 39 = .ok (.if_icmp .gt 7, 3) := by decide +kernel
theorem dX3_canTake_42 : decode cX3_canTake 42 = .ok (.iconst 1, 1) := by decide +kernel
theorem dX3_canTake_43 : decode cX3_canTake 43 = .ok (.goto 4, 3) := by decide +kernel
theorem dX3_canTake_46 : decode cX3_canTake 46 = .ok (.iconst 0, 1) := by decide +kernel
theorem dX3_canTake_47 : decode cX3_canTake 47 = .ok (.ireturn, 1) := by decide +kernel
theorem dX4_init_0 : decode cX4_init 0 = .ok (.aload_n 0, 1) := by decide +kernel
theorem dX4_init_1 : decode cX4_init 1 = .ok (.invokespecial 1, 3) := by decide +kernel
theorem dX4_init_4 : decode cX4_init 4 = .ok (.aload_n 0, 1) := by decide +kernel
theorem dX4_init_5 : decode cX4_init 5 = .ok (.iconst 0, 1) := by decide +kernel
theorem dX4_init_6 : decode cX4_init 6 = .ok (.putfield 7, 3) := by decide +kernel
theorem dX4_init_9 : decode cX4_init 9 = .ok (.aload_n 0, 1) := by decide +kernel
theorem dX4_init_10 : decode cX4_init 10 = .ok (.iconst 0, 1) := by decide +kernel
theorem dX4_init_11 : decode cX4_init 11 = .ok (.putfield 13, 3) := by decide +kernel
theorem dX4_init_14 : decode cX4_init 14 = .ok (.aload_n 0, 1) := by decide +kernel
theorem dX4_init_15 : decode cX4_init 15 = .ok (.iload_n 1, 1) := by decide +kernel
theorem dX4_init_16 : decode cX4_init 16 = .ok (.putfield 16, 3) := by decide +kernel
theorem dX4_init_19 : decode cX4_init 19 = .ok (.return_, 1) := by decide +kernel
set_option maxRecDepth 20000 in
theorem ggX5_init_Jx4a65c_init_da8c8 : GoodIn wsX5_init wsJx4a65c_init_da8c8 := goodIn_r _ [16, 17, 18, 19, 20, 21, 22, 23, 24, 25, 26, 27, 28, 2, 3, 29, 30, 31] (by decide +kernel) (by decide +kernel)
set_option maxRecDepth 20000 in
theorem gX5_init_Jx4a65c_init_da8c8 : GoodIn wsX5_init (wsJx4a65c_init_da8c8) := ggX5_init_Jx4a65c_init_da8c8
theorem dX5_init_0 : decode cX5_init 0 = .ok (.aload_n 0, 1) := by decide +kernel
theorem dX5_init_1 : decode cX5_init 1 = .ok (.invokespecial 1, 3) := by decide +kernel
theorem dX5_init_4 : decode cX5_init 4 = .ok (.aload_n 0, 1) := by decide +kernel
theorem dX5_init_5 : decode cX5_init 5 = .ok (.new 7, 3) := by decide +kernel
theorem dX5_init_8 : decode cX5_init 8 = .ok (.dup, 1) := by decide +kernel
theorem dX5_init_9 : decode cX5_init 9 = .ok (.invokespecial 9, 3) := by decide +kernel
theorem dX5_init_12 : decode cX5_init 12 = .ok (.putfield 10, 3) := by decide +kernel
theorem dX5_init_15 : decode cX5_init 15 = .ok (.aload_n 0, 1) := by decide +kernel
theorem dX5_init_16 : decode cX5_init 16 = .ok (.new 7, 3) := by decide +kernel
theorem dX5_init_19 : decode cX5_init 19 = .ok (.dup, 1) := by decide +kernel
theorem dX5_init_20 : decode cX5_init 20 = .ok (.invokespecial 9, 3) := by decide +kernel
theorem dX5_init_23 : decode cX5_init 23 = .ok (.putfield 16, 3) := by decide +kernel
theorem dX5_init_26 : decode cX5_init 26 = .ok (.aload_n 0, 1) := by decide +kernel
theorem dX5_init_27 : decode cX5_init 27 = .ok (.new 7, 3) := by decide +kernel
theorem dX5_init_30 : decode cX5_init 30 = .ok (.dup, 1) := by decide +kernel
theorem dX5_init_31 : decode cX5_init 31 = .ok (.invokespecial 9, 3) := by decide +kernel
theorem dX5_init_34 : decode cX5_init 34 = .ok (.putfield 19, 3) := by decide +kernel
theorem dX5_init_37 : decode cX5_init 37 = .ok (.aload_n 0, 1) := by decide +kernel
theorem dX5_init_38 : decode cX5_init 38 = .ok (.new 7, 3) := by decide +kernel
theorem dX5_init_41 : decode cX5_init 41 = .ok (.dup, 1) := by decide +kernel
theorem dX5_init_42 : decode cX5_init 42 = .ok (.invokespecial 9, 3) := by decide +kernel
theorem dX5_init_45 : decode cX5_init 45 = .ok (.putfield 22, 3) := by decide +kernel
theorem dX5_init_48 : decode cX5_init 48 = .ok (.aload_n 0, 1) := by decide +kernel
theorem dX5_init_49 : decode cX5_init 49 = .ok (.iconst 3, 1) := by decide +kernel
theorem dX5_init_50 : decode cX5_init 50 = .ok (.newarray .int, 2) := by decide +kernel
theorem dX5_init_52 : decode cX5_init 52 = .ok (.dup, 1) := by decide +kernel
theorem dX5_init_53 : decode cX5_init 53 = .ok (.iconst 0, 1) := by decide +kernel
theorem dX5_init_54 : decode cX5_init 54 = .ok (.bipush 100, 2) := by decide +kernel
theorem dX5_init_56 : decode cX5_init 56 = .ok (.iastore, 1) := by decide +kernel
theorem dX5_init_57 : decode cX5_init 57 = .ok (.dup, 1) := by decide +kernel
theorem dX5_init_58 : decode cX5_init 58 = .ok (.iconst 1, 1) := by decide +kernel
theorem dX5_init_59 : decode cX5_init 59 = .ok (.bipush 100, 2) := by decide +kernel
theorem dX5_init_61 : decode cX5_init 61 = .ok (.iastore, 1) := by decide +kernel
theorem dX5_init_62 : decode cX5_init 62 = .ok (.dup, 1) := by decide +kernel
theorem dX5_init_63 : decode cX5_init 63 = .ok (.iconst 2, 1) := by decide +kernel
theorem dX5_init_64 : decode cX5_init 64 = .ok (.bipush 100, 2) := by decide +kernel
theorem dX5_init_66 : decode cX5_init 66 = .ok (.iastore, 1) := by decide +kernel
theorem dX5_init_67 : decode cX5_init 67 = .ok (.putfield 25, 3) := by decide +kernel
theorem dX5_init_70 : decode cX5_init 70 = .ok (.aload_n 0, 1) := by decide +kernel
theorem dX5_init_71 : decode cX5_init 71 = .ok (.iconst 0, 1) := by decide +kernel
theorem dX5_init_72 : decode cX5_init 72 = .ok (.putfield 29, 3) := by decide +kernel
theorem dX5_init_75 : decode cX5_init 75 = .ok (.return_, 1) := by decide +kernel
set_option maxRecDepth 20000 in
theorem ggX5_pier_X5_needWithin : GoodIn wsX5_pier wsX5_needWithin := goodIn_ca (goodIn_r _ [9, 10, 11] (by decide +kernel) (by decide +kernel)) (goodIn_sub (fun _ h => List.mem_cons_of_mem _ (List.mem_append_left _ (List.mem_append_right _ h))) (by decide +kernel))
set_option maxRecDepth 20000 in
theorem gX5_pier_X5_needWithin : GoodIn wsX5_pier (va_wsS RX5 33 yX5_needWithin wsX5_needWithin) := goodIn_app (goodIn_of _ (by decide +kernel)) ggX5_pier_X5_needWithin
set_option maxRecDepth 20000 in
theorem ggX5_pier_Jx4a65c_size_8abf5 : GoodIn wsX5_pier wsJx4a65c_size_8abf5 := goodIn_r _ [16, 17, 109, 110, 111] (by decide +kernel) (by decide +kernel)
set_option maxRecDepth 20000 in
theorem gX5_pier_Jx4a65c_size_8abf5 : GoodIn wsX5_pier (wsV RX5 37 RJx4a65c yJx4a65c_size_8abf5 wsJx4a65c_size_8abf5) := goodIn_app (goodIn_of _ (by decide +kernel)) ggX5_pier_Jx4a65c_size_8abf5
set_option maxRecDepth 20000 in
theorem ggX5_pier_X5_needRoom : GoodIn wsX5_pier wsX5_needRoom := goodIn_ca (goodIn_r _ [20, 21, 22] (by decide +kernel) (by decide +kernel)) (goodIn_sub (fun _ h => List.mem_cons_of_mem _ (List.mem_append_right _ h)) (by decide +kernel))
set_option maxRecDepth 20000 in
theorem gX5_pier_X5_needRoom : GoodIn wsX5_pier (va_wsS RX5 41 yX5_needRoom wsX5_needRoom) := goodIn_app (goodIn_of _ (by decide +kernel)) ggX5_pier_X5_needRoom
set_option maxRecDepth 20000 in
theorem ggX5_pier_X2_init : GoodIn wsX5_pier wsX2_init := goodIn_r _ [25, 26, 27, 28, 29, 30, 31, 32, 33, 34, 35, 36, 37, 38, 99, 100, 101, 102, 103, 104, 105, 106, 107, 108] (by decide +kernel) (by decide +kernel)
set_option maxRecDepth 20000 in
theorem gX5_pier_X2_init : GoodIn wsX5_pier (wsX2_init) := ggX5_pier_X2_init
set_option maxRecDepth 20000 in
theorem ggX5_pier_Jx4a65c_add_9ea2d : GoodIn wsX5_pier wsJx4a65c_add_9ea2d := goodIn_r _ [42, 43, 44, 45, 17, 46, 47, 48, 15, 49, 50, 51, 52, 53, 54, 55, 56, 57, 58, 59, 60, 61, 62, 63, 64, 65, 66, 67, 68, 69, 70, 71, 72, 73, 74, 75, 76, 77, 78, 79, 80, 81, 82, 83, 84, 85, 86, 87, 88, 89, 90, 91, 92, 109, 110, 111] (by decide +kernel) (by decide +kernel)
set_option maxRecDepth 20000 in
theorem gX5_pier_Jx4a65c_add_9ea2d : GoodIn wsX5_pier (wsV RX5 50 RJx4a65c yJx4a65c_add_9ea2d wsJx4a65c_add_9ea2d) := goodIn_app (goodIn_of _ (by decide +kernel)) ggX5_pier_Jx4a65c_add_9ea2d
theorem dX5_pier_0 : decode cX5_pier 0 = .ok (.iload_n 1, 1) := by decide +kernel
theorem dX5_pier_1 : decode cX5_pier 1 = .ok (.iconst 0, 1) := by decide +kernel
theorem dX5_pier_2 : decode cX5_pier 2 = .ok (.sipush 500, 3) := by decide +kernel
theorem dX5_pier_5 : decode cX5_pier 5 = .ok (.invokestatic 33, 3) := by decide +kernel
theorem dX5_pier_8 : decode cX5_pier 8 = .ok (.iload_n 2, 1) := by decide +kernel
theorem dX5_pier_9 : decode cX5_pier 9 = .ok (.iconst 0, 1) := by decide +kernel
theorem dX5_pier_10 : decode cX5_pier 10 = .ok (.sipush 200, 3) := by decide +kernel
theorem dX5_pier_13 : decode cX5_pier 13 = .ok (.invokestatic 33, 3) := by decide +kernel
theorem dX5_pier_16 : decode cX5_pier 16 = .ok (.iload_n 3, 1) := by decide +kernel
theorem dX5_pier_17 : decode cX5_pier 17 = .ok (.iconst 0, 1) := by decide +kernel
theorem dX5_pier_18 : decode cX5_pier 18 = .ok (.sipush 719, 3) := by decide +kernel
theorem dX5_pier_21 : decode cX5_pier 21 = .ok (.invokestatic 33, 3) := by decide +kernel
theorem dX5_pier_24 : decode cX5_pier 24 = .ok (.aload_n 0, 1) := by decide +kernel
theorem dX5_pier_25 : decode cX5_pier 25 = .ok (.getfield 10, 3) := by decide +kernel
theorem dX5_pier_28 : decode cX5_pier 28 = .ok (.invokevirtual 37, 3) := by decide +kernel
theorem dX5_pier_31 : decode cX5_pier 31 = .ok (.bipush 8, 2) := by decide +kernel
theorem dX5_pier_33 : decode cX5_pier 33 = .ok (.invokestatic 41, 3) := by decide +kernel
theorem dX5_pier_36 : decode cX5_pier 36 = .ok (.new 45, 3) := by decide +kernel
theorem dX5_pier_39 : decode cX5_pier 39 = .ok (.dup, 1) := by decide +kernel
theorem dX5_pier_40 : decode cX5_pier 40 = .ok (.aload_n 0, 1) := by decide +kernel
theorem dX5_pier_41 : decode cX5_pier 41 = .ok (.getfield 10, 3) := by decide +kernel
theorem dX5_pier_44 : decode cX5_pier 44 = .ok (.invokevirtual 37, 3) := by decide +kernel
theorem dX5_pier_47 : decode cX5_pier 47 = .ok (.iload_n 1, 1) := by decide +kernel
theorem dX5_pier_48 : decode cX5_pier 48 = .ok (.iload_n 2, 1) := by decide +kernel
theorem dX5_pier_49 : decode cX5_pier 49 = .ok (.iload_n 3, 1) := by decide +kernel
theorem dX5_pier_50 : decode cX5_pier 50 = .ok (.iload 4, 2) := by decide +kernel
theorem dX5_pier_52 : decode cX5_pier 52 = .ok (.invokespecial 47, 3) := by decide +kernel
theorem dX5_pier_55 : decode cX5_pier 55 = .ok (.astore 5, 2) := by decide +kernel
theorem dX5_pier_57 : decode cX5_pier 57 = .ok (.aload_n 0, 1) := by decide +kernel
theorem dX5_pier_58 : decode cX5_pier 58 = .ok (.getfield 10, 3) := by decide +kernel
theorem dX5_pier_61 : decode cX5_pier 61 = .ok (.aload 5, 2) := by decide +kernel
theorem dX5_pier_63 : decode cX5_pier 63 = .ok (.invokevirtual 50, 3) := by decide +kernel
theorem dX5_pier_66 : decode cX5_pier 66 = .ok (.pop, 1) := by decide +kernel
theorem dX5_pier_67 : decode cX5_pier 67 = .ok (.aload 5, 2) := by decide +kernel
theorem dX5_pier_69 : decode cX5_pier 69 = .ok (.getfield 54, 3) := by decide +kernel
theorem dX5_pier_72 : decode cX5_pier 72 = .ok (.ireturn, 1) := by decide +kernel
set_option maxRecDepth 20000 in
theorem ggX5_boat_Jx4a65c_size_8abf5 : GoodIn wsX5_boat wsJx4a65c_size_8abf5 := goodIn_r _ [12, 13, 114, 115, 116] (by decide +kernel) (by decide +kernel)
set_option maxRecDepth 20000 in
theorem gX5_boat_Jx4a65c_size_8abf5 : GoodIn wsX5_boat (wsV RX5 37 RJx4a65c yJx4a65c_size_8abf5 wsJx4a65c_size_8abf5) := goodIn_app (goodIn_of _ (by decide +kernel)) ggX5_boat_Jx4a65c_size_8abf5
set_option maxRecDepth 20000 in
theorem ggX5_boat_X5_needNumber : GoodIn wsX5_boat wsX5_needNumber := goodIn_ca (goodIn_r _ [17, 18, 19] (by decide +kernel) (by decide +kernel)) (goodIn_sub (fun _ h => List.mem_cons_of_mem _ (List.mem_append_left _ (List.mem_append_left _ (List.mem_append_right _ h)))) (by decide +kernel))
set_option maxRecDepth 20000 in
theorem gX5_boat_X5_needNumber : GoodIn wsX5_boat (va_wsS RX5 57 yX5_needNumber wsX5_needNumber) := goodIn_app (goodIn_of _ (by decide +kernel)) ggX5_boat_X5_needNumber
set_option maxRecDepth 20000 in
theorem ggX5_boat_X5_needWithin : GoodIn wsX5_boat wsX5_needWithin := goodIn_ca (goodIn_r _ [22, 23, 24] (by decide +kernel) (by decide +kernel)) (goodIn_sub (fun _ h => List.mem_cons_of_mem _ (List.mem_append_left _ (List.mem_append_right _ h))) (by decide +kernel))
set_option maxRecDepth 20000 in
theorem gX5_boat_X5_needWithin : GoodIn wsX5_boat (va_wsS RX5 33 yX5_needWithin wsX5_needWithin) := goodIn_app (goodIn_of _ (by decide +kernel)) ggX5_boat_X5_needWithin
set_option maxRecDepth 20000 in
theorem ggX5_boat_X5_needRoom : GoodIn wsX5_boat wsX5_needRoom := goodIn_ca (goodIn_r _ [27, 28, 29] (by decide +kernel) (by decide +kernel)) (goodIn_sub (fun _ h => List.mem_cons_of_mem _ (List.mem_append_right _ h)) (by decide +kernel))
set_option maxRecDepth 20000 in
theorem gX5_boat_X5_needRoom : GoodIn wsX5_boat (va_wsS RX5 41 yX5_needRoom wsX5_needRoom) := goodIn_app (goodIn_of _ (by decide +kernel)) ggX5_boat_X5_needRoom
set_option maxRecDepth 20000 in
theorem ggX5_boat_X0_init : GoodIn wsX5_boat wsX0_init := goodIn_r _ [32, 33, 34, 35, 36, 37, 38, 39, 40, 41, 42, 43, 44, 105, 106, 107, 108, 109, 110, 111, 112, 113] (by decide +kernel) (by decide +kernel)
set_option maxRecDepth 20000 in
theorem gX5_boat_X0_init : GoodIn wsX5_boat (wsX0_init) := ggX5_boat_X0_init
set_option maxRecDepth 20000 in
theorem ggX5_boat_Jx4a65c_add_9ea2d : GoodIn wsX5_boat wsJx4a65c_add_9ea2d := goodIn_r _ [48, 49, 50, 51, 13, 52, 53, 54, 11, 55, 56, 57, 58, 59, 60, 61, 62, 63, 64, 65, 66, 67, 68, 69, 70, 71, 72, 73, 74, 75, 76, 77, 78, 79, 80, 81, 82, 83, 84, 85, 86, 87, 88, 89, 90, 91, 92, 93, 94, 95, 96, 97, 98, 114, 115, 116] (by decide +kernel) (by decide +kernel)
set_option maxRecDepth 20000 in
theorem gX5_boat_Jx4a65c_add_9ea2d : GoodIn wsX5_boat (wsV RX5 50 RJx4a65c yJx4a65c_add_9ea2d wsJx4a65c_add_9ea2d) := goodIn_app (goodIn_of _ (by decide +kernel)) ggX5_boat_Jx4a65c_add_9ea2d
theorem dX5_boat_0 : decode cX5_boat 0 = .ok (.iload 7, 2) := by decide +kernel
theorem dX5_boat_2 : decode cX5_boat 2 = .ok (.aload_n 0, 1) := by decide +kernel
theorem dX5_boat_3 : decode cX5_boat 3 = .ok (.getfield 10, 3) := by decide +kernel
theorem dX5_boat_6 : decode cX5_boat 6 = .ok (.invokevirtual 37, 3) := by decide +kernel
theorem dX5_boat_9 : decode cX5_boat 9 = .ok (.invokestatic 57, 3) := by decide +kernel
theorem dX5_boat_12 : decode cX5_boat 12 = .ok (.iload_n 1, 1) := by decide +kernel
theorem dX5_boat_13 : decode cX5_boat 13 = .ok (.iconst 1, 1) := by decide +kernel
theorem dX5_boat_14 : decode cX5_boat 14 = .ok (.sipush 500, 3) := by decide +kernel
theorem dX5_boat_17 : decode cX5_boat 17 = .ok (.invokestatic 33, 3) := by decide +kernel
theorem dX5_boat_20 : decode cX5_boat 20 = .ok (.iload_n 2, 1) := by decide +kernel
theorem dX5_boat_21 : decode cX5_boat 21 = .ok (.iconst 1, 1) := by decide +kernel
theorem dX5_boat_22 : decode cX5_boat 22 = .ok (.sipush 200, 3) := by decide +kernel
theorem dX5_boat_25 : decode cX5_boat 25 = .ok (.invokestatic 33, 3) := by decide +kernel
theorem dX5_boat_28 : decode cX5_boat 28 = .ok (.iload_n 3, 1) := by decide +kernel
theorem dX5_boat_29 : decode cX5_boat 29 = .ok (.iconst 1, 1) := by decide +kernel
theorem dX5_boat_30 : decode cX5_boat 30 = .ok (.sipush 10000, 3) := by decide +kernel
theorem dX5_boat_33 : decode cX5_boat 33 = .ok (.invokestatic 33, 3) := by decide +kernel
theorem dX5_boat_36 : decode cX5_boat 36 = .ok (.iload 4, 2) := by decide +kernel
theorem dX5_boat_38 : decode cX5_boat 38 = .ok (.iconst 0, 1) := by decide +kernel
theorem dX5_boat_39 : decode cX5_boat 39 = .ok (.sipush 10000, 3) := by decide +kernel
theorem dX5_boat_42 : decode cX5_boat 42 = .ok (.invokestatic 33, 3) := by decide +kernel
theorem dX5_boat_45 : decode cX5_boat 45 = .ok (.iload 5, 2) := by decide +kernel
theorem dX5_boat_47 : decode cX5_boat 47 = .ok (.iconst 0, 1) := by decide +kernel
theorem dX5_boat_48 : decode cX5_boat 48 = .ok (.bipush 9, 2) := by decide +kernel
theorem dX5_boat_50 : decode cX5_boat 50 = .ok (.invokestatic 33, 3) := by decide +kernel
theorem dX5_boat_53 : decode cX5_boat 53 = .ok (.iload 6, 2) := by decide +kernel
theorem dX5_boat_55 : decode cX5_boat 55 = .ok (.iconst 0, 1) := by decide +kernel
theorem dX5_boat_56 : decode cX5_boat 56 = .ok (.sipush 255, 3) := by decide +kernel
theorem dX5_boat_59 : decode cX5_boat 59 = .ok (.invokestatic 33, 3) := by decide +kernel
theorem dX5_boat_62 : decode cX5_boat 62 = .ok (.aload_n 0, 1) := by decide +kernel
theorem dX5_boat_63 : decode cX5_boat 63 = .ok (.getfield 16, 3) := by decide +kernel
theorem dX5_boat_66 : decode cX5_boat 66 = .ok (.invokevirtual 37, 3) := by decide +kernel
theorem dX5_boat_69 : decode cX5_boat 69 = .ok (.bipush 6, 2) := by decide +kernel
theorem dX5_boat_71 : decode cX5_boat 71 = .ok (.invokestatic 41, 3) := by decide +kernel
theorem dX5_boat_74 : decode cX5_boat 74 = .ok (.new 60, 3) := by decide +kernel
theorem dX5_boat_77 : decode cX5_boat 77 = .ok (.dup, 1) := by decide +kernel
theorem dX5_boat_78 : decode cX5_boat 78 = .ok (.aload_n 0, 1) := by decide +kernel
theorem dX5_boat_79 : decode cX5_boat 79 = .ok (.getfield 16, 3) := by decide +kernel
theorem dX5_boat_82 : decode cX5_boat 82 = .ok (.invokevirtual 37, 3) := by decide +kernel
theorem dX5_boat_85 : decode cX5_boat 85 = .ok (.iload_n 1, 1) := by decide +kernel
theorem dX5_boat_86 : decode cX5_boat 86 = .ok (.iload_n 2, 1) := by decide +kernel
theorem dX5_boat_87 : decode cX5_boat 87 = .ok (.iload_n 3, 1) := by decide +kernel
theorem dX5_boat_88 : decode cX5_boat 88 = .ok (.iload 4, 2) := by decide +kernel
theorem dX5_boat_90 : decode cX5_boat 90 = .ok (.iload 5, 2) := by decide +kernel
theorem dX5_boat_92 : decode cX5_boat 92 = .ok (.iload 6, 2) := by decide +kernel
theorem dX5_boat_94 : decode cX5_boat 94 = .ok (.invokespecial 62, 3) := by decide +kernel
theorem dX5_boat_97 : decode cX5_boat 97 = .ok (.astore 8, 2) := by decide +kernel
theorem dX5_boat_99 : decode cX5_boat 99 = .ok (.aload 8, 2) := by decide +kernel
theorem dX5_boat_101 : decode cX5_boat 101 = .ok (.iload 7, 2) := by decide +kernel
theorem dX5_boat_103 : decode cX5_boat 103 = .ok (.putfield 65, 3) := by decide +kernel
theorem dX5_boat_106 : decode cX5_boat 106 = .ok (.aload_n 0, 1) := by decide +kernel
theorem dX5_boat_107 : decode cX5_boat 107 = .ok (.getfield 16, 3) := by decide +kernel
theorem dX5_boat_110 : decode cX5_boat 110 = .ok (.aload 8, 2) := by decide +kernel
theorem dX5_boat_112 : decode cX5_boat 112 = .ok (.invokevirtual 50, 3) := by decide +kernel
theorem dX5_boat_115 : decode cX5_boat 115 = .ok (.pop, 1) := by decide +kernel
theorem dX5_boat_116 : decode cX5_boat 116 = .ok (.aload 8, 2) := by decide +kernel
theorem dX5_boat_118 : decode cX5_boat 118 = .ok (.getfield 68, 3) := by decide +kernel
theorem dX5_boat_121 : decode cX5_boat 121 = .ok (.ireturn, 1) := by decide +kernel
set_option maxRecDepth 20000 in
theorem ggX5_swell_Jx4a65c_size_8abf5 : GoodIn wsX5_swell wsJx4a65c_size_8abf5 := goodIn_r _ [8, 9, 54, 55, 56] (by decide +kernel) (by decide +kernel)
set_option maxRecDepth 20000 in
theorem gX5_swell_Jx4a65c_size_8abf5 : GoodIn wsX5_swell (wsV RX5 37 RJx4a65c yJx4a65c_size_8abf5 wsJx4a65c_size_8abf5) := goodIn_app (goodIn_of _ (by decide +kernel)) ggX5_swell_Jx4a65c_size_8abf5
set_option maxRecDepth 20000 in
theorem ggX5_swell_X5_needNumber : GoodIn wsX5_swell wsX5_needNumber := goodIn_ca (goodIn_r _ [13, 14, 15] (by decide +kernel) (by decide +kernel)) (goodIn_sub (fun _ h => List.mem_cons_of_mem _ (List.mem_append_left _ (List.mem_append_right _ h))) (by decide +kernel))
set_option maxRecDepth 20000 in
theorem gX5_swell_X5_needNumber : GoodIn wsX5_swell (va_wsS RX5 57 yX5_needNumber wsX5_needNumber) := goodIn_app (goodIn_of _ (by decide +kernel)) ggX5_swell_X5_needNumber
set_option maxRecDepth 20000 in
theorem ggX5_swell_X5_needWithin : GoodIn wsX5_swell wsX5_needWithin := goodIn_ca (goodIn_r _ [18, 19, 20] (by decide +kernel) (by decide +kernel)) (goodIn_sub (fun _ h => List.mem_cons_of_mem _ (List.mem_append_right _ h)) (by decide +kernel))
set_option maxRecDepth 20000 in
theorem gX5_swell_X5_needWithin : GoodIn wsX5_swell (va_wsS RX5 33 yX5_needWithin wsX5_needWithin) := goodIn_app (goodIn_of _ (by decide +kernel)) ggX5_swell_X5_needWithin
set_option maxRecDepth 20000 in
theorem ggX5_swell_Jx4a65c_get_915e3 : GoodIn wsX5_swell wsJx4a65c_get_915e3 := goodIn_r _ [24, 9, 25, 26, 27, 28, 29, 30, 31, 32, 33, 34, 35, 7, 36, 37, 54, 55, 56] (by decide +kernel) (by decide +kernel)
set_option maxRecDepth 20000 in
theorem gX5_swell_Jx4a65c_get_915e3 : GoodIn wsX5_swell (wsV RX5 69 RJx4a65c yJx4a65c_get_915e3 wsJx4a65c_get_915e3) := goodIn_app (goodIn_of _ (by decide +kernel)) ggX5_swell_Jx4a65c_get_915e3
theorem dX5_swell_0 : decode cX5_swell 0 = .ok (.iload_n 1, 1) := by decide +kernel
theorem dX5_swell_1 : decode cX5_swell 1 = .ok (.aload_n 0, 1) := by decide +kernel
theorem dX5_swell_2 : decode cX5_swell 2 = .ok (.getfield 10, 3) := by decide +kernel
theorem dX5_swell_5 : decode cX5_swell 5 = .ok (.invokevirtual 37, 3) := by decide +kernel
theorem dX5_swell_8 : decode cX5_swell 8 = .ok (.invokestatic 57, 3) := by decide +kernel
theorem dX5_swell_11 : decode cX5_swell 11 = .ok (.iload_n 2, 1) := by decide +kernel
theorem dX5_swell_12 : decode cX5_swell 12 = .ok (.iconst 0, 1) := by decide +kernel
theorem dX5_swell_13 : decode cX5_swell 13 = .ok (.bipush 9, 2) := by decide +kernel
theorem dX5_swell_15 : decode cX5_swell 15 = .ok (.invokestatic 33, 3) := by decide +kernel
theorem dX5_swell_18 : decode cX5_swell 18 = .ok (.aload_n 0, 1) := by decide +kernel
theorem dX5_swell_19 : decode cX5_swell 19 = .ok (.getfield 10, 3) := by decide +kernel
theorem dX5_swell_22 : decode cX5_swell 22 = .ok (.iload_n 1, 1) := by decide +kernel
theorem dX5_swell_23 : decode cX5_swell 23 = .ok (.invokevirtual 69, 3) := by decide +kernel
theorem dX5_swell_26 : decode cX5_swell 26 = .ok (.checkcast 45, 3) := by decide +kernel
theorem dX5_swell_29 : decode cX5_swell 29 = .ok (.astore_n 3, 1) := by decide +kernel
theorem dX5_swell_30 : decode cX5_swell 30 = .ok (.aload_n 3, 1) := by decide +kernel
theorem dX5_swell_31 : decode cX5_swell 31 = .ok (.getfield 73, 3) := by decide +kernel
theorem dX5_swell_34 : decode cX5_swell 34 = .ok (.istore 4, 2) := by decide +kernel
theorem dX5_swell_36 : decode cX5_swell 36 = .ok (.aload_n 3, 1) := by decide +kernel
theorem dX5_swell_37 : decode cX5_swell 37 = .ok (.iload_n 2, 1) := by decide +kernel
theorem dX5_swell_38 : decode cX5_swell 38 = .ok (.putfield 73, 3) := by decide +kernel
theorem dX5_swell_41 : decode cX5_swell 41 = .ok (.iload 4, 2) := by decide +kernel
theorem dX5_swell_43 : decode cX5_swell 43 = .ok (.ireturn, 1) := by decide +kernel
set_option maxRecDepth 20000 in
theorem ggX5_breakDown_Jx4a65c_size_8abf5 : GoodIn wsX5_breakDown wsJx4a65c_size_8abf5 := goodIn_r _ [8, 9, 48, 49, 50] (by decide +kernel) (by decide +kernel)
set_option maxRecDepth 20000 in
theorem gX5_breakDown_Jx4a65c_size_8abf5 : GoodIn wsX5_breakDown (wsV RX5 37 RJx4a65c yJx4a65c_size_8abf5 wsJx4a65c_size_8abf5) := goodIn_app (goodIn_of _ (by decide +kernel)) ggX5_breakDown_Jx4a65c_size_8abf5
set_option maxRecDepth 20000 in
theorem ggX5_breakDown_X5_needNumber : GoodIn wsX5_breakDown wsX5_needNumber := goodIn_ca (goodIn_r _ [13, 14, 15] (by decide +kernel) (by decide +kernel)) (goodIn_sub (fun _ h => List.mem_cons_of_mem _ (List.mem_append_right _ h)) (by decide +kernel))
set_option maxRecDepth 20000 in
theorem gX5_breakDown_X5_needNumber : GoodIn wsX5_breakDown (va_wsS RX5 57 yX5_needNumber wsX5_needNumber) := goodIn_app (goodIn_of _ (by decide +kernel)) ggX5_breakDown_X5_needNumber
set_option maxRecDepth 20000 in
theorem ggX5_breakDown_Jx4a65c_get_915e3 : GoodIn wsX5_breakDown wsJx4a65c_get_915e3 := goodIn_r _ [19, 9, 20, 21, 22, 23, 24, 25, 26, 27, 28, 29, 30, 7, 31, 32, 48, 49, 50] (by decide +kernel) (by decide +kernel)
set_option maxRecDepth 20000 in
theorem gX5_breakDown_Jx4a65c_get_915e3 : GoodIn wsX5_breakDown (wsV RX5 69 RJx4a65c yJx4a65c_get_915e3 wsJx4a65c_get_915e3) := goodIn_app (goodIn_of _ (by decide +kernel)) ggX5_breakDown_Jx4a65c_get_915e3
theorem dX5_breakDown_0 : decode cX5_breakDown 0 = .ok (.iload_n 1, 1) := by decide +kernel
theorem dX5_breakDown_1 : decode cX5_breakDown 1 = .ok (.aload_n 0, 1) := by decide +kernel
theorem dX5_breakDown_2 : decode cX5_breakDown 2 = .ok (.getfield 16, 3) := by decide +kernel
theorem dX5_breakDown_5 : decode cX5_breakDown 5 = .ok (.invokevirtual 37, 3) := by decide +kernel
theorem dX5_breakDown_8 : decode cX5_breakDown 8 = .ok (.invokestatic 57, 3) := by decide +kernel
theorem dX5_breakDown_11 : decode cX5_breakDown 11 = .ok (.aload_n 0, 1) := by decide +kernel
theorem dX5_breakDown_12 : decode cX5_breakDown 12 = .ok (.getfield 16, 3) := by decide +kernel
theorem dX5_breakDown_15 : decode cX5_breakDown 15 = .ok (.iload_n 1, 1) := by decide +kernel
theorem dX5_breakDown_16 : decode cX5_breakDown 16 = .ok (.invokevirtual 69, 3) := by decide +kernel
theorem dX5_breakDown_19 : decode cX5_breakDown 19 = .ok (.checkcast 60, 3) := by decide +kernel
theorem dX5_breakDown_22 : decode cX5_breakDown 22 = .ok (.astore_n 2, 1) := by decide +kernel
theorem dX5_breakDown_23 : decode cX5_breakDown 23 = .ok (.aload_n 2, 1) := by decide +kernel
theorem dX5_breakDown_24 : decode cX5_breakDown 24 = .ok (.aload_n 2, 1) := by decide +kernel
theorem dX5_breakDown_25 : decode cX5_breakDown 25 = .ok (.getfield 76, 3) := by decide +kernel
theorem dX5_breakDown_28 : decode cX5_breakDown 28 = .ok (.ifCond .ne 7, 3) := by decide +kernel
theorem dX5_breakDown_31 : decode cX5_breakDown 31 = .ok (.iconst 1, 1) := by decide +kernel
theorem dX5_breakDown_32 : decode cX5_breakDown 32 = .ok (.goto 4, 3) := by decide +kernel
theorem dX5_breakDown_35 : decode cX5_breakDown 35 = .ok (.iconst 0, 1) := by decide +kernel
theorem dX5_breakDown_36 : decode cX5_breakDown 36 = .ok (.putfield 76, 3) := by decide +kernel
theorem dX5_breakDown_39 : decode cX5_breakDown 39 = .ok (.aload_n 2, 1) := by decide +kernel
theorem dX5_breakDown_40 : decode cX5_breakDown 40 = .ok (.getfield 76, 3) := by decide +kernel
theorem dX5_breakDown_43 : decode cX5_breakDown 43 = .ok (.ireturn, 1) := by decide +kernel
set_option maxRecDepth 20000 in
theorem ggX5_relieve_Jx4a65c_size_8abf5 : GoodIn wsX5_relieve wsJx4a65c_size_8abf5 := goodIn_r _ [13, 14, 60, 61, 62] (by decide +kernel) (by decide +kernel)
set_option maxRecDepth 20000 in
theorem gX5_relieve_Jx4a65c_size_8abf5 : GoodIn wsX5_relieve (wsV RX5 37 RJx4a65c yJx4a65c_size_8abf5 wsJx4a65c_size_8abf5) := goodIn_app (goodIn_of _ (by decide +kernel)) ggX5_relieve_Jx4a65c_size_8abf5
set_option maxRecDepth 20000 in
theorem ggX5_relieve_X5_needNumber : GoodIn wsX5_relieve wsX5_needNumber := goodIn_ca (goodIn_r _ [18, 19, 20] (by decide +kernel) (by decide +kernel)) (goodIn_sub (fun _ h => List.mem_cons_of_mem _ (List.mem_append_right _ h)) (by decide +kernel))
set_option maxRecDepth 20000 in
theorem gX5_relieve_X5_needNumber : GoodIn wsX5_relieve (va_wsS RX5 57 yX5_needNumber wsX5_needNumber) := goodIn_app (goodIn_of _ (by decide +kernel)) ggX5_relieve_X5_needNumber
set_option maxRecDepth 20000 in
theorem ggX5_relieve_Jx4a65c_get_915e3 : GoodIn wsX5_relieve wsJx4a65c_get_915e3 := goodIn_r _ [24, 14, 25, 26, 27, 28, 29, 30, 31, 32, 33, 34, 35, 12, 36, 37, 60, 61, 62] (by decide +kernel) (by decide +kernel)
set_option maxRecDepth 20000 in
theorem gX5_relieve_Jx4a65c_get_915e3 : GoodIn wsX5_relieve (wsV RX5 69 RJx4a65c yJx4a65c_get_915e3 wsJx4a65c_get_915e3) := goodIn_app (goodIn_of _ (by decide +kernel)) ggX5_relieve_Jx4a65c_get_915e3
theorem dX5_relieve_0 : decode cX5_relieve 0 = .ok (.iload_n 1, 1) := by decide +kernel
theorem dX5_relieve_1 : decode cX5_relieve 1 = .ok (.aload_n 0, 1) := by decide +kernel
theorem dX5_relieve_2 : decode cX5_relieve 2 = .ok (.getfield 16, 3) := by decide +kernel
theorem dX5_relieve_5 : decode cX5_relieve 5 = .ok (.invokevirtual 37, 3) := by decide +kernel
theorem dX5_relieve_8 : decode cX5_relieve 8 = .ok (.invokestatic 57, 3) := by decide +kernel
theorem dX5_relieve_11 : decode cX5_relieve 11 = .ok (.iload_n 2, 1) := by decide +kernel
theorem dX5_relieve_12 : decode cX5_relieve 12 = .ok (.aload_n 0, 1) := by decide +kernel
theorem dX5_relieve_13 : decode cX5_relieve 13 = .ok (.getfield 16, 3) := by decide +kernel
theorem dX5_relieve_16 : decode cX5_relieve 16 = .ok (.invokevirtual 37, 3) := by decide +kernel
theorem dX5_relieve_19 : decode cX5_relieve 19 = .ok (.invokestatic 57, 3) := by decide +kernel
theorem dX5_relieve_22 : decode cX5_relieve 22 = .ok (.iload_n 1, 1) := by decide +kernel
theorem dX5_relieve_23 : decode cX5_relieve 23 = .ok (.iload_n 2, 1) := by decide +kernel
theorem dX5_relieve_24 : decode cX5_relieve 24 = .ok (.if_icmp .ne 13, 3) := by decide +kernel
theorem dX5_relieve_27 : decode cX5_relieve 27 = .ok (.new 80, 3) := by decide +kernel
theorem dX5_relieve_30 : decode cX5_relieve 30 = .ok (.dup, 1) := by decide +kernel
theorem dX5_relieve_31 : decode cX5_relieve 31 = .ok (.ldc 82, 2) := by decide +kernel
theorem dX5_relieve_33 : decode cX5_relieve 33 = .ok (.invokespecial 84, 3) := by decide +kernel
theorem dX5_relieve_36 : decode cX5_relieve 36 = .ok (.athrow, 1) := by decide +kernel
theorem dX5_relieve_37 : decode cX5_relieve 37 = .ok (.aload_n 0, 1) := by decide +kernel
theorem dX5_relieve_38 : decode cX5_relieve 38 = .ok (.getfield 16, 3) := by decide +kernel
theorem dX5_relieve_41 : decode cX5_relieve 41 = .ok (.iload_n 1, 1) := by decide +kernel
theorem dX5_relieve_42 : decode cX5_relieve 42 = .ok (.invokevirtual 69, 3) := by decide +kernel
theorem dX5_relieve_45 : decode cX5_relieve 45 = .ok (.checkcast 60, 3) := by decide +kernel
theorem dX5_relieve_48 : decode cX5_relieve 48 = .ok (.astore_n 3, 1) := by decide +kernel
theorem dX5_relieve_49 : decode cX5_relieve 49 = .ok (.aload_n 0, 1) := by decide +kernel
theorem dX5_relieve_50 : decode cX5_relieve 50 = .ok (.getfield 16, 3) := by decide +kernel
theorem dX5_relieve_53 : decode cX5_relieve 53 = .ok (.iload_n 2, 1) := by decide +kernel
theorem dX5_relieve_54 : decode cX5_relieve 54 = .ok (.invokevirtual 69, 3) := by decide +kernel
theorem dX5_relieve_57 : decode cX5_relieve 57 = .ok (.checkcast 60, 3) := by decide +kernel
theorem dX5_relieve_60 : decode cX5_relieve 60 = .ok (.astore 4, 2) := by decide +kernel
theorem dX5_relieve_62 : decode cX5_relieve 62 = .ok (.iconst 0, 1) := by decide +kernel
theorem dX5_relieve_63 : decode cX5_relieve 63 = .ok (.istore 5, 2) := by decide +kernel
theorem dX5_relieve_65 : decode cX5_relieve 65 = .ok (.iconst 0, 1) := by decide +kernel
theorem dX5_relieve_66 : decode cX5_relieve 66 = .ok (.istore 6, 2) := by decide +kernel
theorem dX5_relieve_68 : decode cX5_relieve 68 = .ok (.iload 6, 2) := by decide +kernel
theorem dX5_relieve_70 : decode cX5_relieve 70 = .ok (.aload_n 0, 1) := by decide +kernel
theorem dX5_relieve_71 : decode cX5_relieve 71 = .ok (.getfield 19, 3) := by decide +kernel
theorem dX5_relieve_74 : decode cX5_relieve 74 = .ok (.invokevirtual 37, 3) := by decide +kernel
theorem dX5_relieve_77 : decode cX5_relieve 77 = .ok (.if_icmp .ge 50, 3) := by decide +kernel
theorem dX5_relieve_80 : decode cX5_relieve 80 = .ok (.aload_n 0, 1) := by decide +kernel
theorem dX5_relieve_81 : decode cX5_relieve 81 = .ok (.getfield 19, 3) := by decide +kernel
theorem dX5_relieve_84 : decode cX5_relieve 84 = .ok (.iload 6, 2) := by decide +kernel
theorem dX5_relieve_86 : decode cX5_relieve 86 = .ok (.invokevirtual 69, 3) := by decide +kernel
theorem dX5_relieve_89 : decode cX5_relieve 89 = .ok (.checkcast 87, 3) := by decide +kernel
theorem dX5_relieve_92 : decode cX5_relieve 92 = .ok (.astore 7, 2) := by decide +kernel
theorem dX5_relieve_94 : decode cX5_relieve 94 = .ok (.aload 7, 2) := by decide +kernel
theorem dX5_relieve_96 : decode cX5_relieve 96 = .ok (.getfield 89, 3) := by decide +kernel
theorem dX5_relieve_99 : decode cX5_relieve 99 = .ok (.ifCond .ne 22, 3) := by decide +kernel
theorem dX5_relieve_102 : decode cX5_relieve 102 = .ok (.aload 7, 2) := by decide +kernel
theorem dX5_relieve_104 : decode cX5_relieve 104 = .ok (.getfield 92, 3) := by decide +kernel
theorem dX5_relieve_107 : decode cX5_relieve 107 = .ok (.aload_n 3, 1) := by decide +kernel
theorem dX5_relieve_108 : decode cX5_relieve 108 = .ok (.if_acmp .ne 13, 3) := by decide +kernel
theorem dX5_relieve_111 : decode cX5_relieve 111 = .ok (.aload 7, 2) := by decide +kernel
theorem dX5_relieve_113 : decode cX5_relieve 113 = .ok (.aload 4, 2) := by decide +kernel
theorem dX5_relieve_115 : decode cX5_relieve 115 = .ok (.putfield 92, 3) := by decide +kernel
theorem dX5_relieve_118 : decode cX5_relieve 118 = .ok (.iinc 5 1, 3) := by decide +kernel
theorem dX5_relieve_121 : decode cX5_relieve 121 = .ok (.iinc 6 1, 3) := by decide +kernel
theorem dX5_relieve_124 : decode cX5_relieve 124 = .ok (.goto (-56), 3) := by decide +kernel
theorem dX5_relieve_127 : decode cX5_relieve 127 = .ok (.iload 5, 2) := by decide +kernel
theorem dX5_relieve_129 : decode cX5_relieve 129 = .ok (.ireturn, 1) := by decide +kernel
set_option maxRecDepth 20000 in
theorem ggX5_sailing_Jx4a65c_size_8abf5 : GoodIn wsX5_sailing wsJx4a65c_size_8abf5 := goodIn_r _ [17, 18, 172, 173, 174] (by decide +kernel) (by decide +kernel)
set_option maxRecDepth 20000 in
theorem gX5_sailing_Jx4a65c_size_8abf5 : GoodIn wsX5_sailing (wsV RX5 37 RJx4a65c yJx4a65c_size_8abf5 wsJx4a65c_size_8abf5) := goodIn_app (goodIn_of _ (by decide +kernel)) ggX5_sailing_Jx4a65c_size_8abf5
set_option maxRecDepth 20000 in
theorem ggX5_sailing_X5_needNumber : GoodIn wsX5_sailing wsX5_needNumber := goodIn_ca (goodIn_r _ [22, 23, 24] (by decide +kernel) (by decide +kernel)) (goodIn_sub (fun _ h => List.mem_cons_of_mem _ (List.mem_append_left _ (List.mem_append_right _ h))) (by decide +kernel))
set_option maxRecDepth 20000 in
theorem gX5_sailing_X5_needNumber : GoodIn wsX5_sailing (va_wsS RX5 57 yX5_needNumber wsX5_needNumber) := goodIn_app (goodIn_of _ (by decide +kernel)) ggX5_sailing_X5_needNumber
set_option maxRecDepth 20000 in
theorem ggX5_sailing_X5_needWithin : GoodIn wsX5_sailing wsX5_needWithin := goodIn_ca (goodIn_r _ [27, 1, 2] (by decide +kernel) (by decide +kernel)) (goodIn_sub (fun _ h => List.mem_cons_of_mem _ (List.mem_append_left _ (List.mem_append_left _ (List.mem_append_right _ h)))) (by decide +kernel))
set_option maxRecDepth 20000 in
theorem gX5_sailing_X5_needWithin : GoodIn wsX5_sailing (va_wsS RX5 33 yX5_needWithin wsX5_needWithin) := goodIn_app (goodIn_of _ (by decide +kernel)) ggX5_sailing_X5_needWithin
set_option maxRecDepth 20000 in
theorem ggX5_sailing_X5_needRoom : GoodIn wsX5_sailing wsX5_needRoom := goodIn_ca (goodIn_r _ [30, 31, 32] (by decide +kernel) (by decide +kernel)) (goodIn_sub (fun _ h => List.mem_cons_of_mem _ (List.mem_append_right _ h)) (by decide +kernel))
set_option maxRecDepth 20000 in
theorem gX5_sailing_X5_needRoom : GoodIn wsX5_sailing (va_wsS RX5 41 yX5_needRoom wsX5_needRoom) := goodIn_app (goodIn_of _ (by decide +kernel)) ggX5_sailing_X5_needRoom
set_option maxRecDepth 20000 in
theorem ggX5_sailing_Jx4a65c_get_915e3 : GoodIn wsX5_sailing wsJx4a65c_get_915e3 := goodIn_r _ [36, 18, 37, 38, 39, 40, 41, 42, 43, 44, 45, 46, 47, 16, 48, 49, 172, 173, 174] (by decide +kernel) (by decide +kernel)
set_option maxRecDepth 20000 in
theorem gX5_sailing_Jx4a65c_get_915e3 : GoodIn wsX5_sailing (wsV RX5 69 RJx4a65c yJx4a65c_get_915e3 wsJx4a65c_get_915e3) := goodIn_app (goodIn_of _ (by decide +kernel)) ggX5_sailing_Jx4a65c_get_915e3
set_option maxRecDepth 20000 in
theorem ggX5_sailing_X3_init : GoodIn wsX5_sailing wsX3_init := goodIn_r _ [52, 53, 54, 55, 56, 57, 58, 59, 60, 61, 62, 16, 63, 64, 65, 66, 67, 68, 69, 70, 71, 72, 73, 74, 75, 76, 77, 78, 79, 80, 81, 82, 83, 84, 85, 86, 87, 49, 88, 89, 90, 91, 92, 93, 94, 95, 96, 97, 175, 176, 177, 156, 157, 158, 159, 160, 161, 162, 163, 164, 165, 166, 167, 168, 169, 170, 171, 172, 173, 174] (by decide +kernel) (by decide +kernel)
set_option maxRecDepth 20000 in
theorem gX5_sailing_X3_init : GoodIn wsX5_sailing (wsX3_init) := ggX5_sailing_X3_init
set_option maxRecDepth 20000 in
theorem ggX5_sailing_Jx4a65c_add_9ea2d : GoodIn wsX5_sailing wsJx4a65c_add_9ea2d := goodIn_r _ [101, 102, 103, 49, 18, 104, 105, 106, 16, 107, 108, 109, 110, 111, 112, 113, 114, 115, 87, 116, 117, 118, 119, 120, 121, 122, 123, 124, 125, 126, 127, 128, 129, 130, 131, 132, 133, 134, 135, 136, 137, 138, 139, 140, 141, 142, 143, 144, 145, 146, 147, 148, 149, 172, 173, 174] (by decide +kernel) (by decide +kernel)
set_option maxRecDepth 20000 in
theorem gX5_sailing_Jx4a65c_add_9ea2d : GoodIn wsX5_sailing (wsV RX5 50 RJx4a65c yJx4a65c_add_9ea2d wsJx4a65c_add_9ea2d) := goodIn_app (goodIn_of _ (by decide +kernel)) ggX5_sailing_Jx4a65c_add_9ea2d
theorem dX5_sailing_0 : decode cX5_sailing 0 = .ok (.iload_n 1, 1) := by decide +kernel
theorem dX5_sailing_1 : decode cX5_sailing 1 = .ok (.aload_n 0, 1) := by decide +kernel
theorem dX5_sailing_2 : decode cX5_sailing 2 = .ok (.getfield 16, 3) := by decide +kernel
theorem dX5_sailing_5 : decode cX5_sailing 5 = .ok (.invokevirtual 37, 3) := by decide +kernel
theorem dX5_sailing_8 : decode cX5_sailing 8 = .ok (.invokestatic 57, 3) := by decide +kernel
theorem dX5_sailing_11 : decode cX5_sailing 11 = .ok (.iload_n 2, 1) := by decide +kernel
theorem dX5_sailing_12 : decode cX5_sailing 12 = .ok (.aload_n 0, 1) := by decide +kernel
theorem dX5_sailing_13 : decode cX5_sailing 13 = .ok (.getfield 10, 3) := by decide +kernel
theorem dX5_sailing_16 : decode cX5_sailing 16 = .ok (.invokevirtual 37, 3) := by decide +kernel
theorem dX5_sailing_19 : decode cX5_sailing 19 = .ok (.invokestatic 57, 3) := by decide +kernel
theorem dX5_sailing_22 : decode cX5_sailing 22 = .ok (.iload_n 3, 1) := by decide +kernel
theorem dX5_sailing_23 : decode cX5_sailing 23 = .ok (.aload_n 0, 1) := by decide +kernel
theorem dX5_sailing_24 : decode cX5_sailing 24 = .ok (.getfield 10, 3) := by decide +kernel
theorem dX5_sailing_27 : decode cX5_sailing 27 = .ok (.invokevirtual 37, 3) := by decide +kernel
theorem dX5_sailing_30 : decode cX5_sailing 30 = .ok (.invokestatic 57, 3) := by decide +kernel
theorem dX5_sailing_33 : decode cX5_sailing 33 = .ok (.iload_n 2, 1) := by decide +kernel
theorem dX5_sailing_34 : decode cX5_sailing 34 = .ok (.iload_n 3, 1) := by decide +kernel
theorem dX5_sailing_35 : decode cX5_sailing 35 = .ok (.if_icmp .ne 13, 3) := by decide +kernel
theorem dX5_sailing_38 : decode cX5_sailing 38 = .ok (.new 80, 3) := by decide +kernel
theorem dX5_sailing_41 : decode cX5_sailing 41 = .ok (.dup, 1) := by decide +kernel
theorem dX5_sailing_42 : decode cX5_sailing 42 = .ok (.ldc 96, 2) := by decide +kernel
theorem dX5_sailing_44 : decode cX5_sailing 44 = .ok (.invokespecial 84, 3) := by decide +kernel
theorem dX5_sailing_47 : decode cX5_sailing 47 = .ok (.athrow, 1) := by decide +kernel
theorem dX5_sailing_48 : decode cX5_sailing 48 = .ok (.iload 4, 2) := by decide +kernel
theorem dX5_sailing_50 : decode cX5_sailing 50 = .ok (.iconst 1, 1) := by decide +kernel
theorem dX5_sailing_51 : decode cX5_sailing 51 = .ok (.sipush 20000, 3) := by decide +kernel
theorem dX5_sailing_54 : decode cX5_sailing 54 = .ok (.invokestatic 33, 3) := by decide +kernel
theorem dX5_sailing_57 : decode cX5_sailing 57 = .ok (.iload 5, 2) := by decide +kernel
theorem dX5_sailing_59 : decode cX5_sailing 59 = .ok (.iconst 1, 1) := by decide +kernel
theorem dX5_sailing_60 : decode cX5_sailing 60 = .ok (.sipush 700, 3) := by decide +kernel
theorem dX5_sailing_63 : decode cX5_sailing 63 = .ok (.invokestatic 33, 3) := by decide +kernel
theorem dX5_sailing_66 : decode cX5_sailing 66 = .ok (.aload_n 0, 1) := by decide +kernel
theorem dX5_sailing_67 : decode cX5_sailing 67 = .ok (.getfield 19, 3) := by decide +kernel
theorem dX5_sailing_70 : decode cX5_sailing 70 = .ok (.invokevirtual 37, 3) := by decide +kernel
theorem dX5_sailing_73 : decode cX5_sailing 73 = .ok (.bipush 60, 2) := by decide +kernel
theorem dX5_sailing_75 : decode cX5_sailing 75 = .ok (.invokestatic 41, 3) := by decide +kernel
theorem dX5_sailing_78 : decode cX5_sailing 78 = .ok (.new 87, 3) := by decide +kernel
theorem dX5_sailing_81 : decode cX5_sailing 81 = .ok (.dup, 1) := by decide +kernel
theorem dX5_sailing_82 : decode cX5_sailing 82 = .ok (.aload_n 0, 1) := by decide +kernel
theorem dX5_sailing_83 : decode cX5_sailing 83 = .ok (.getfield 19, 3) := by decide +kernel
theorem dX5_sailing_86 : decode cX5_sailing 86 = .ok (.invokevirtual 37, 3) := by decide +kernel
theorem dX5_sailing_89 : decode cX5_sailing 89 = .ok (.aload_n 0, 1) := by decide +kernel
theorem dX5_sailing_90 : decode cX5_sailing 90 = .ok (.getfield 16, 3) := by decide +kernel
theorem dX5_sailing_93 : decode cX5_sailing 93 = .ok (.iload_n 1, 1) := by decide +kernel
theorem dX5_sailing_94 : decode cX5_sailing 94 = .ok (.invokevirtual 69, 3) := by decide +kernel
theorem dX5_sailing_97 : decode cX5_sailing 97 = .ok (.checkcast 60, 3) := by decide +kernel
theorem dX5_sailing_100 : decode cX5_sailing 100 = .ok (.aload_n 0, 1) := by decide +kernel
theorem dX5_sailing_101 : decode cX5_sailing 101 = .ok (.getfield 10, 3) := by decide +kernel
theorem dX5_sailing_104 : decode cX5_sailing 104 = .ok (.iload_n 2, 1) := by decide +kernel
theorem dX5_sailing_105 : decode cX5_sailing 105 = .ok (.invokevirtual 69, 3) := by decide +kernel
theorem dX5_sailing_108 : decode cX5_sailing 108 = .ok (.checkcast 45, 3) := by decide +kernel
theorem dX5_sailing_111 : decode cX5_sailing 111 = .ok (.aload_n 0, 1) := by decide +kernel
theorem dX5_sailing_112 : decode cX5_sailing 112 = .ok (.getfield 10, 3) := by decide +kernel
theorem dX5_sailing_115 : decode cX5_sailing 115 = .ok (.iload_n 3, 1) := by decide +kernel
theorem dX5_sailing_116 : decode cX5_sailing 116 = .ok (.invokevirtual 69, 3) := by decide +kernel
theorem dX5_sailing_119 : decode cX5_sailing 119 = .ok (.checkcast 45, 3) := by decide +kernel
theorem dX5_sailing_122 : decode cX5_sailing 122 = .ok (.aload_n 0, 1) := by decide +kernel
theorem dX5_sailing_123 : decode cX5_sailing 123 = .ok (.getfield 29, 3) := by decide +kernel
theorem dX5_sailing_126 : decode cX5_sailing 126 = .ok (.iload 4, 2) := by decide +kernel
theorem dX5_sailing_128 : decode cX5_sailing 128 = .ok (.iadd, 1) := by decide +kernel
theorem dX5_sailing_129 : decode cX5_sailing 129 = .ok (.iload 5, 2) := by decide +kernel
theorem dX5_sailing_131 : decode cX5_sailing 131 = .ok (.iload 6, 2) := by decide +kernel
theorem dX5_sailing_133 : decode cX5_sailing 133 = .ok (.invokespecial 98, 3) := by decide +kernel
theorem dX5_sailing_136 : decode cX5_sailing 136 = .ok (.astore 7, 2) := by decide +kernel
theorem dX5_sailing_138 : decode cX5_sailing 138 = .ok (.aload_n 0, 1) := by decide +kernel
theorem dX5_sailing_139 : decode cX5_sailing 139 = .ok (.getfield 19, 3) := by decide +kernel
theorem dX5_sailing_142 : decode cX5_sailing 142 = .ok (.aload 7, 2) := by decide +kernel
theorem dX5_sailing_144 : decode cX5_sailing 144 = .ok (.invokevirtual 50, 3) := by decide +kernel
theorem dX5_sailing_147 : decode cX5_sailing 147 = .ok (.pop, 1) := by decide +kernel
theorem dX5_sailing_148 : decode cX5_sailing 148 = .ok (.aload 7, 2) := by decide +kernel
theorem dX5_sailing_150 : decode cX5_sailing 150 = .ok (.getfield 101, 3) := by decide +kernel
theorem dX5_sailing_153 : decode cX5_sailing 153 = .ok (.ireturn, 1) := by decide +kernel
set_option maxRecDepth 20000 in
theorem ggX5_book_Jx4a65c_size_8abf5 : GoodIn wsX5_book wsJx4a65c_size_8abf5 := goodIn_r _ [12, 13, 140, 141, 142] (by decide +kernel) (by decide +kernel)
set_option maxRecDepth 20000 in
theorem gX5_book_Jx4a65c_size_8abf5 : GoodIn wsX5_book (wsV RX5 37 RJx4a65c yJx4a65c_size_8abf5 wsJx4a65c_size_8abf5) := goodIn_app (goodIn_of _ (by decide +kernel)) ggX5_book_Jx4a65c_size_8abf5
set_option maxRecDepth 20000 in
theorem ggX5_book_X5_needNumber : GoodIn wsX5_book wsX5_needNumber := goodIn_ca (goodIn_r _ [17, 18, 19] (by decide +kernel) (by decide +kernel)) (goodIn_sub (fun _ h => List.mem_cons_of_mem _ (List.mem_append_left _ (List.mem_append_left _ (List.mem_append_right _ h)))) (by decide +kernel))
set_option maxRecDepth 20000 in
theorem gX5_book_X5_needNumber : GoodIn wsX5_book (va_wsS RX5 57 yX5_needNumber wsX5_needNumber) := goodIn_app (goodIn_of _ (by decide +kernel)) ggX5_book_X5_needNumber
set_option maxRecDepth 20000 in
theorem ggX5_book_X5_needWithin : GoodIn wsX5_book wsX5_needWithin := goodIn_ca (goodIn_r _ [22, 23, 24] (by decide +kernel) (by decide +kernel)) (goodIn_sub (fun _ h => List.mem_cons_of_mem _ (List.mem_append_left _ (List.mem_append_right _ h))) (by decide +kernel))
set_option maxRecDepth 20000 in
theorem gX5_book_X5_needWithin : GoodIn wsX5_book (va_wsS RX5 33 yX5_needWithin wsX5_needWithin) := goodIn_app (goodIn_of _ (by decide +kernel)) ggX5_book_X5_needWithin
set_option maxRecDepth 20000 in
theorem ggX5_book_Jx4a65c_get_915e3 : GoodIn wsX5_book wsJx4a65c_get_915e3 := goodIn_r _ [28, 13, 29, 30, 31, 32, 33, 34, 35, 36, 37, 38, 39, 11, 40, 41, 140, 141, 142] (by decide +kernel) (by decide +kernel)
set_option maxRecDepth 20000 in
theorem gX5_book_Jx4a65c_get_915e3 : GoodIn wsX5_book (wsV RX5 69 RJx4a65c yJx4a65c_get_915e3 wsJx4a65c_get_915e3) := goodIn_app (goodIn_of _ (by decide +kernel)) ggX5_book_Jx4a65c_get_915e3
set_option maxRecDepth 20000 in
theorem ggX5_book_X5_needPlanned : GoodIn wsX5_book wsX5_needPlanned := goodIn_ca (goodIn_r _ [44, 45, 46, 47, 143, 144, 145, 146, 147, 148, 149, 150, 151, 152, 153, 154, 155, 156, 157, 158] (by decide +kernel) (by decide +kernel)) (goodIn_sub (fun _ h => List.mem_cons_of_mem _ (List.mem_append_right _ h)) (by decide +kernel))
set_option maxRecDepth 20000 in
theorem gX5_book_X5_needPlanned : GoodIn wsX5_book (va_wsS RX5 102 yX5_needPlanned wsX5_needPlanned) := goodIn_app (goodIn_of _ (by decide +kernel)) ggX5_book_X5_needPlanned
set_option maxRecDepth 20000 in
theorem ggX5_book_X5_needRoom : GoodIn wsX5_book wsX5_needRoom := goodIn_ca (goodIn_r _ [50, 45, 46] (by decide +kernel) (by decide +kernel)) (goodIn_sub (fun _ h => List.mem_cons_of_mem _ (List.mem_append_right _ h)) (by decide +kernel))
set_option maxRecDepth 20000 in
theorem gX5_book_X5_needRoom : GoodIn wsX5_book (va_wsS RX5 41 yX5_needRoom wsX5_needRoom) := goodIn_app (goodIn_of _ (by decide +kernel)) ggX5_book_X5_needRoom
set_option maxRecDepth 20000 in
theorem ggX5_book_X1_init : GoodIn wsX5_book wsX1_init := goodIn_r _ [53, 54, 55, 56, 57, 58, 59, 60, 61, 62, 63, 64, 65, 66, 67, 68, 128, 129, 130, 131, 132, 133, 134, 135, 136, 137, 138, 139] (by decide +kernel) (by decide +kernel)
set_option maxRecDepth 20000 in
theorem gX5_book_X1_init : GoodIn wsX5_book (wsX1_init) := ggX5_book_X1_init
set_option maxRecDepth 20000 in
theorem ggX5_book_Jx4a65c_add_9ea2d : GoodIn wsX5_book wsJx4a65c_add_9ea2d := goodIn_r _ [72, 73, 74, 41, 13, 75, 76, 77, 11, 78, 79, 80, 81, 82, 83, 84, 85, 86, 87, 88, 89, 90, 91, 92, 93, 94, 95, 96, 97, 98, 99, 100, 101, 102, 103, 104, 105, 106, 107, 108, 109, 110, 111, 112, 113, 114, 115, 116, 117, 118, 119, 120, 121, 140, 141, 142] (by decide +kernel) (by decide +kernel)
set_option maxRecDepth 20000 in
theorem gX5_book_Jx4a65c_add_9ea2d : GoodIn wsX5_book (wsV RX5 50 RJx4a65c yJx4a65c_add_9ea2d wsJx4a65c_add_9ea2d) := goodIn_app (goodIn_of _ (by decide +kernel)) ggX5_book_Jx4a65c_add_9ea2d
theorem dX5_book_0 : decode cX5_book 0 = .ok (.iload_n 1, 1) := by decide +kernel
theorem dX5_book_1 : decode cX5_book 1 = .ok (.aload_n 0, 1) := by decide +kernel
theorem dX5_book_2 : decode cX5_book 2 = .ok (.getfield 19, 3) := by decide +kernel
theorem dX5_book_5 : decode cX5_book 5 = .ok (.invokevirtual 37, 3) := by decide +kernel
theorem dX5_book_8 : decode cX5_book 8 = .ok (.invokestatic 57, 3) := by decide +kernel
theorem dX5_book_11 : decode cX5_book 11 = .ok (.iload_n 2, 1) := by decide +kernel
theorem dX5_book_12 : decode cX5_book 12 = .ok (.iconst 3, 1) := by decide +kernel
theorem dX5_book_13 : decode cX5_book 13 = .ok (.invokestatic 57, 3) := by decide +kernel
theorem dX5_book_16 : decode cX5_book 16 = .ok (.iload_n 3, 1) := by decide +kernel
theorem dX5_book_17 : decode cX5_book 17 = .ok (.iconst 1, 1) := by decide +kernel
theorem dX5_book_18 : decode cX5_book 18 = .ok (.bipush 30, 2) := by decide +kernel
theorem dX5_book_20 : decode cX5_book 20 = .ok (.invokestatic 33, 3) := by decide +kernel
theorem dX5_book_23 : decode cX5_book 23 = .ok (.iload 4, 2) := by decide +kernel
theorem dX5_book_25 : decode cX5_book 25 = .ok (.iconst 1, 1) := by decide +kernel
theorem dX5_book_26 : decode cX5_book 26 = .ok (.sipush 1000, 3) := by decide +kernel
theorem dX5_book_29 : decode cX5_book 29 = .ok (.invokestatic 33, 3) := by decide +kernel
theorem dX5_book_32 : decode cX5_book 32 = .ok (.iload 5, 2) := by decide +kernel
theorem dX5_book_34 : decode cX5_book 34 = .ok (.iconst 0, 1) := by decide +kernel
theorem dX5_book_35 : decode cX5_book 35 = .ok (.iconst 3, 1) := by decide +kernel
theorem dX5_book_36 : decode cX5_book 36 = .ok (.invokestatic 33, 3) := by decide +kernel
theorem dX5_book_39 : decode cX5_book 39 = .ok (.aload_n 0, 1) := by decide +kernel
theorem dX5_book_40 : decode cX5_book 40 = .ok (.getfield 19, 3) := by decide +kernel
theorem dX5_book_43 : decode cX5_book 43 = .ok (.iload_n 1, 1) := by decide +kernel
theorem dX5_book_44 : decode cX5_book 44 = .ok (.invokevirtual 69, 3) := by decide +kernel
theorem dX5_book_47 : decode cX5_book 47 = .ok (.checkcast 87, 3) := by decide +kernel
theorem dX5_book_50 : decode cX5_book 50 = .ok (.astore 8, 2) := by decide +kernel
theorem dX5_book_52 : decode cX5_book 52 = .ok (.aload 8, 2) := by decide +kernel
theorem dX5_book_54 : decode cX5_book 54 = .ok (.invokestatic 102, 3) := by decide +kernel
theorem dX5_book_57 : decode cX5_book 57 = .ok (.aload_n 0, 1) := by decide +kernel
theorem dX5_book_58 : decode cX5_book 58 = .ok (.getfield 22, 3) := by decide +kernel
theorem dX5_book_61 : decode cX5_book 61 = .ok (.invokevirtual 37, 3) := by decide +kernel
theorem dX5_book_64 : decode cX5_book 64 = .ok (.bipush 100, 2) := by decide +kernel
theorem dX5_book_66 : decode cX5_book 66 = .ok (.invokestatic 41, 3) := by decide +kernel
theorem dX5_book_69 : decode cX5_book 69 = .ok (.new 106, 3) := by decide +kernel
theorem dX5_book_72 : decode cX5_book 72 = .ok (.dup, 1) := by decide +kernel
theorem dX5_book_73 : decode cX5_book 73 = .ok (.aload 8, 2) := by decide +kernel
theorem dX5_book_75 : decode cX5_book 75 = .ok (.iload_n 2, 1) := by decide +kernel
theorem dX5_book_76 : decode cX5_book 76 = .ok (.iload_n 3, 1) := by decide +kernel
theorem dX5_book_77 : decode cX5_book 77 = .ok (.iload 4, 2) := by decide +kernel
theorem dX5_book_79 : decode cX5_book 79 = .ok (.iload 5, 2) := by decide +kernel
theorem dX5_book_81 : decode cX5_book 81 = .ok (.iload 6, 2) := by decide +kernel
theorem dX5_book_83 : decode cX5_book 83 = .ok (.iload 7, 2) := by decide +kernel
theorem dX5_book_85 : decode cX5_book 85 = .ok (.invokespecial 108, 3) := by decide +kernel
theorem dX5_book_88 : decode cX5_book 88 = .ok (.astore 9, 2) := by decide +kernel
theorem dX5_book_90 : decode cX5_book 90 = .ok (.aload 9, 2) := by decide +kernel
theorem dX5_book_92 : decode cX5_book 92 = .ok (.aload_n 0, 1) := by decide +kernel
theorem dX5_book_93 : decode cX5_book 93 = .ok (.getfield 22, 3) := by decide +kernel
theorem dX5_book_96 : decode cX5_book 96 = .ok (.invokevirtual 37, 3) := by decide +kernel
theorem dX5_book_99 : decode cX5_book 99 = .ok (.putfield 111, 3) := by decide +kernel
theorem dX5_book_102 : decode cX5_book 102 = .ok (.aload_n 0, 1) := by decide +kernel
theorem dX5_book_103 : decode cX5_book 103 = .ok (.getfield 22, 3) := by decide +kernel
theorem dX5_book_106 : decode cX5_book 106 = .ok (.aload 9, 2) := by decide +kernel
theorem dX5_book_108 : decode cX5_book 108 = .ok (.invokevirtual 50, 3) := by decide +kernel
theorem dX5_book_111 : decode cX5_book 111 = .ok (.pop, 1) := by decide +kernel
theorem dX5_book_112 : decode cX5_book 112 = .ok (.aload 9, 2) := by decide +kernel
theorem dX5_book_114 : decode cX5_book 114 = .ok (.getfield 111, 3) := by decide +kernel
theorem dX5_book_117 : decode cX5_book 117 = .ok (.ireturn, 1) := by decide +kernel
set_option maxRecDepth 20000 in
theorem ggX5_rate_X5_needNumber : GoodIn wsX5_rate wsX5_needNumber := goodIn_ca (goodIn_r _ [5, 6, 7] (by decide +kernel) (by decide +kernel)) (goodIn_sub (fun _ h => List.mem_cons_of_mem _ (List.mem_append_left _ (List.mem_append_right _ h))) (by decide +kernel))
set_option maxRecDepth 20000 in
theorem gX5_rate_X5_needNumber : GoodIn wsX5_rate (va_wsS RX5 57 yX5_needNumber wsX5_needNumber) := goodIn_app (goodIn_of _ (by decide +kernel)) ggX5_rate_X5_needNumber
set_option maxRecDepth 20000 in
theorem ggX5_rate_X5_needWithin : GoodIn wsX5_rate wsX5_needWithin := goodIn_ca (goodIn_r _ [10, 11, 12] (by decide +kernel) (by decide +kernel)) (goodIn_sub (fun _ h => List.mem_cons_of_mem _ (List.mem_append_right _ h)) (by decide +kernel))
set_option maxRecDepth 20000 in
theorem gX5_rate_X5_needWithin : GoodIn wsX5_rate (va_wsS RX5 33 yX5_needWithin wsX5_needWithin) := goodIn_app (goodIn_of _ (by decide +kernel)) ggX5_rate_X5_needWithin
theorem dX5_rate_0 : decode cX5_rate 0 = .ok (.iload_n 1, 1) := by decide +kernel
theorem dX5_rate_1 : decode cX5_rate 1 = .ok (.aload_n 0, 1) := by decide +kernel
theorem dX5_rate_2 : decode cX5_rate 2 = .ok (.getfield 25, 3) := by decide +kernel
theorem dX5_rate_5 : decode cX5_rate 5 = .ok (.arraylength, 1) := by decide +kernel
theorem dX5_rate_6 : decode cX5_rate 6 = .ok (.invokestatic 57, 3) := by decide +kernel
theorem dX5_rate_9 : decode cX5_rate 9 = .ok (.iload_n 2, 1) := by decide +kernel
theorem dX5_rate_10 : decode cX5_rate 10 = .ok (.iconst 0, 1) := by decide +kernel
theorem dX5_rate_11 : decode cX5_rate 11 = .ok (.sipush 10000, 3) := by decide +kernel
theorem dX5_rate_14 : decode cX5_rate 14 = .ok (.invokestatic 33, 3) := by decide +kernel
theorem dX5_rate_17 : decode cX5_rate 17 = .ok (.aload_n 0, 1) := by decide +kernel
theorem dX5_rate_18 : decode cX5_rate 18 = .ok (.getfield 25, 3) := by decide +kernel
theorem dX5_rate_21 : decode cX5_rate 21 = .ok (.iload_n 1, 1) := by decide +kernel
theorem dX5_rate_22 : decode cX5_rate 22 = .ok (.iaload, 1) := by decide +kernel
theorem dX5_rate_23 : decode cX5_rate 23 = .ok (.istore_n 3, 1) := by decide +kernel
theorem dX5_rate_24 : decode cX5_rate 24 = .ok (.aload_n 0, 1) := by decide +kernel
theorem dX5_rate_25 : decode cX5_rate 25 = .ok (.getfield 25, 3) := by decide +kernel
theorem dX5_rate_28 : decode cX5_rate 28 = .ok (.iload_n 1, 1) := by decide +kernel
theorem dX5_rate_29 : decode cX5_rate 29 = .ok (.iload_n 2, 1) := by decide +kernel
theorem dX5_rate_30 : decode cX5_rate 30 = .ok (.iastore, 1) := by decide +kernel
theorem dX5_rate_31 : decode cX5_rate 31 = .ok (.iload_n 3, 1) := by decide +kernel
theorem dX5_rate_32 : decode cX5_rate 32 = .ok (.ireturn, 1) := by decide +kernel
set_option maxRecDepth 20000 in
theorem ggX5_pass_X5_needWithin : GoodIn wsX5_pass wsX5_needWithin := goodIn_ca (goodIn_r _ [5, 6, 7] (by decide +kernel) (by decide +kernel)) (goodIn_sub (fun _ h => List.mem_cons_of_mem _ (List.mem_append_right _ h)) (by decide +kernel))
set_option maxRecDepth 20000 in
theorem gX5_pass_X5_needWithin : GoodIn wsX5_pass (va_wsS RX5 33 yX5_needWithin wsX5_needWithin) := goodIn_app (goodIn_of _ (by decide +kernel)) ggX5_pass_X5_needWithin
set_option maxRecDepth 20000 in
theorem ggX5_pass_X5_nextMinuteOfNote : GoodIn wsX5_pass wsX5_nextMinuteOfNote := goodIn_r _ [11, 1, 12, 13, 14, 15, 16, 17, 18, 19, 20, 21, 22, 23, 24, 25, 26, 27, 28, 29, 30, 31, 32, 33, 34, 35, 36, 37, 38, 39, 40, 41, 42, 43, 44, 45, 46, 47, 48, 49, 292, 293, 294, 295, 296, 297, 298, 299, 300, 301, 302, 303, 304, 305, 306, 307, 308, 309, 310, 311, 312, 313, 314, 315, 316] (by decide +kernel) (by decide +kernel)
set_option maxRecDepth 20000 in
theorem gX5_pass_X5_nextMinuteOfNote : GoodIn wsX5_pass (wsV RX5 112 RX5 yX5_nextMinuteOfNote wsX5_nextMinuteOfNote) := goodIn_app (goodIn_of _ (by decide +kernel)) ggX5_pass_X5_nextMinuteOfNote
set_option maxRecDepth 20000 in
theorem ggX5_pass_X5_letArrive : GoodIn wsX5_pass wsX5_letArrive := goodIn_r _ [53, 16, 17, 18, 1, 54, 55, 56, 57, 20, 21, 22, 23, 24, 25, 26, 27, 28, 29, 30, 31, 32, 33, 34, 35, 36, 37, 38, 39, 40, 41, 42, 43, 44, 45, 46, 47, 48, 49, 58, 59, 60, 61, 62, 63, 64, 65, 66, 67, 68, 69, 70, 71, 72, 73, 74, 75, 76, 77, 78, 79, 80, 14, 81, 82, 83, 84, 85, 86, 87, 88, 89, 90, 292, 293, 294, 295, 296, 297, 298, 299, 300, 301, 302, 303, 304, 305, 306, 307, 308, 309, 310, 311, 312, 313, 317, 318, 319, 320, 321, 322, 323, 324, 325, 326, 327, 328, 329, 330, 331, 332, 333, 334, 335, 314, 315, 316, 336, 337, 338, 339, 340, 341, 342, 343, 344, 345, 346, 347] (by decide +kernel) (by decide +kernel)
set_option maxRecDepth 20000 in
theorem gX5_pass_X5_letArrive : GoodIn wsX5_pass (wsV RX5 116 RX5 yX5_letArrive wsX5_letArrive) := goodIn_app (goodIn_of _ (by decide +kernel)) ggX5_pass_X5_letArrive
set_option maxRecDepth 20000 in
theorem ggX5_pass_X5_decideTheDay : GoodIn wsX5_pass wsX5_decideTheDay := goodIn_r _ [94, 16, 17, 18, 19, 1, 20, 21, 22, 23, 24, 25, 26, 27, 28, 29, 30, 31, 32, 33, 34, 35, 36, 37, 38, 39, 40, 41, 42, 95, 96, 97, 4, 98, 54, 99, 43, 44, 45, 46, 47, 48, 49, 100, 101, 102, 55, 103, 104, 105, 106, 107, 108, 109, 110, 111, 112, 113, 114, 115, 116, 117, 118, 119, 61, 120, 66, 121, 122, 123, 124, 125, 126, 127, 128, 129, 130, 131, 132, 133, 134, 135, 136, 137, 138, 139, 292, 293, 294, 295, 296, 297, 298, 299, 300, 301, 302, 303, 304, 305, 306, 307, 308, 309, 310, 311, 312, 313, 314, 315, 316, 327, 328, 329, 330, 331, 332, 333, 334, 335, 317, 318, 319, 320, 321, 322, 323, 324, 325, 326, 336, 337, 338, 339, 340, 341, 342, 343, 344, 345, 346, 347] (by decide +kernel) (by decide +kernel)
set_option maxRecDepth 20000 in
theorem gX5_pass_X5_decideTheDay : GoodIn wsX5_pass (wsV RX5 119 RX5 yX5_decideTheDay wsX5_decideTheDay) := goodIn_app (goodIn_of _ (by decide +kernel)) ggX5_pass_X5_decideTheDay
set_option maxRecDepth 20000 in
theorem ggX5_pass_X5_letDepart : GoodIn wsX5_pass wsX5_letDepart := goodIn_r _ [143, 16, 17, 18, 19, 1, 20, 21, 22, 23, 24, 25, 26, 27, 28, 29, 30, 31, 32, 33, 34, 35, 36, 37, 38, 39, 40, 41, 42, 144, 145, 146, 4, 147, 54, 148, 99, 57, 105, 56, 55, 149, 150, 151, 152, 153, 154, 155, 156, 157, 158, 159, 160, 161, 162, 163, 61, 164, 165, 166, 167, 168, 169, 170, 171, 172, 14, 173, 174, 100, 101, 102, 103, 104, 106, 107, 108, 109, 175, 176, 177, 178, 115, 179, 180, 181, 182, 183, 116, 121, 122, 123, 124, 125, 126, 127, 184, 185, 186, 187, 188, 189, 190, 191, 192, 193, 194, 46, 195, 196, 197, 198, 199, 200, 201, 202, 203, 204, 205, 206, 207, 208, 209, 210, 211, 212, 213, 214, 215, 216, 217, 218, 219, 220, 221, 222, 223, 224, 88, 225, 226, 227, 228, 229, 230, 231, 232, 233, 234, 235, 236, 237, 238, 239, 240, 241, 242, 243, 244, 245, 246, 247, 80, 81, 248, 249, 250, 251, 252, 253, 254, 255, 256, 257, 258, 259, 260, 261, 262, 263, 264, 265, 266, 267, 268, 269, 270, 271, 13, 15, 272, 273, 274, 275, 276, 277, 278, 279, 280, 86, 281, 282, 283, 284, 285, 286, 287, 288, 289, 290, 291, 89, 128, 129, 130, 131, 132, 133, 134, 135, 136, 137, 138, 139, 110, 111, 112, 113, 114, 117, 118, 119, 120, 66, 292, 293, 294, 295, 296, 297, 298, 299, 300, 301, 302, 303, 304, 305, 306, 307, 308, 309, 310, 311, 312, 313, 314, 315, 316, 327, 328, 329, 330, 331, 332, 333, 334, 335, 317, 318, 319, 320, 321, 322, 323, 324, 325, 326, 336, 337, 338, 339, 340, 341, 342, 343, 344, 345, 346, 347, 348, 349, 350] (by decide +kernel) (by decide +kernel)
set_option maxRecDepth 20000 in
theorem gX5_pass_X5_letDepart : GoodIn wsX5_pass (wsV RX5 122 RX5 yX5_letDepart wsX5_letDepart) := goodIn_app (goodIn_of _ (by decide +kernel)) ggX5_pass_X5_letDepart
theorem dX5_pass_0 : decode cX5_pass 0 = .ok (.iload_n 1, 1) := by decide +kernel
theorem dX5_pass_1 : decode cX5_pass 1 = .ok (.iconst 1, 1) := by decide +kernel
theorem dX5_pass_2 : decode cX5_pass 2 = .ok (.sipush 1500, 3) := by decide +kernel
theorem dX5_pass_5 : decode cX5_pass 5 = .ok (.invokestatic 33, 3) := by decide +kernel
theorem dX5_pass_8 : decode cX5_pass 8 = .ok (.aload_n 0, 1) := by decide +kernel
theorem dX5_pass_9 : decode cX5_pass 9 = .ok (.getfield 29, 3) := by decide +kernel
theorem dX5_pass_12 : decode cX5_pass 12 = .ok (.iload_n 1, 1) := by decide +kernel
theorem dX5_pass_13 : decode cX5_pass 13 = .ok (.iadd, 1) := by decide +kernel
theorem dX5_pass_14 : decode cX5_pass 14 = .ok (.istore_n 2, 1) := by decide +kernel
theorem dX5_pass_15 : decode cX5_pass 15 = .ok (.iconst 0, 1) := by decide +kernel
theorem dX5_pass_16 : decode cX5_pass 16 = .ok (.istore_n 3, 1) := by decide +kernel
theorem dX5_pass_17 : decode cX5_pass 17 = .ok (.iload_n 3, 1) := by decide +kernel
theorem dX5_pass_18 : decode cX5_pass 18 = .ok (.iload_n 1, 1) := by decide +kernel
theorem dX5_pass_19 : decode cX5_pass 19 = .ok (.if_icmp .ge 52, 3) := by decide +kernel
theorem dX5_pass_22 : decode cX5_pass 22 = .ok (.aload_n 0, 1) := by decide +kernel
theorem dX5_pass_23 : decode cX5_pass 23 = .ok (.getfield 29, 3) := by decide +kernel
theorem dX5_pass_26 : decode cX5_pass 26 = .ok (.iload_n 2, 1) := by decide +kernel
theorem dX5_pass_27 : decode cX5_pass 27 = .ok (.if_icmp .ge 44, 3) := by decide +kernel
theorem dX5_pass_30 : decode cX5_pass 30 = .ok (.aload_n 0, 1) := by decide +kernel
theorem dX5_pass_31 : decode cX5_pass 31 = .ok (.aload_n 0, 1) := by decide +kernel
theorem dX5_pass_32 : decode cX5_pass 32 = .ok (.iload_n 2, 1) := by decide +kernel
theorem dX5_pass_33 : decode cX5_pass 33 = .ok (.invokevirtual 112, 3) := by decide +kernel
theorem dX5_pass_36 : decode cX5_pass 36 = .ok (.putfield 29, 3) := by decide +kernel
theorem dX5_pass_39 : decode cX5_pass 39 = .ok (.aload_n 0, 1) := by decide +kernel
theorem dX5_pass_40 : decode cX5_pass 40 = .ok (.invokevirtual 116, 3) := by decide +kernel
theorem dX5_pass_43 : decode cX5_pass 43 = .ok (.aload_n 0, 1) := by decide +kernel
theorem dX5_pass_44 : decode cX5_pass 44 = .ok (.getfield 29, 3) := by decide +kernel
theorem dX5_pass_47 : decode cX5_pass 47 = .ok (.sipush 1440, 3) := by decide +kernel
theorem dX5_pass_50 : decode cX5_pass 50 = .ok (.irem, 1) := by decide +kernel
theorem dX5_pass_51 : decode cX5_pass 51 = .ok (.sipush 300, 3) := by decide +kernel
theorem dX5_pass_54 : decode cX5_pass 54 = .ok (.if_icmp .ne 7, 3) := by decide +kernel
theorem dX5_pass_57 : decode cX5_pass 57 = .ok (.aload_n 0, 1) := by decide +kernel
theorem dX5_pass_58 : decode cX5_pass 58 = .ok (.invokevirtual 119, 3) := by decide +kernel
theorem dX5_pass_61 : decode cX5_pass 61 = .ok (.aload_n 0, 1) := by decide +kernel
theorem dX5_pass_62 : decode cX5_pass 62 = .ok (.invokevirtual 122, 3) := by decide +kernel
theorem dX5_pass_65 : decode cX5_pass 65 = .ok (.iinc 3 1, 3) := by decide +kernel
theorem dX5_pass_68 : decode cX5_pass 68 = .ok (.goto (-51), 3) := by decide +kernel
theorem dX5_pass_71 : decode cX5_pass 71 = .ok (.aload_n 0, 1) := by decide +kernel
theorem dX5_pass_72 : decode cX5_pass 72 = .ok (.getfield 29, 3) := by decide +kernel
theorem dX5_pass_75 : decode cX5_pass 75 = .ok (.ireturn, 1) := by decide +kernel
set_option maxRecDepth 20000 in
theorem ggX5_tide_Jx4a65c_size_8abf5 : GoodIn wsX5_tide wsJx4a65c_size_8abf5 := goodIn_r _ [8, 9, 55, 56, 57] (by decide +kernel) (by decide +kernel)
set_option maxRecDepth 20000 in
theorem gX5_tide_Jx4a65c_size_8abf5 : GoodIn wsX5_tide (wsV RX5 37 RJx4a65c yJx4a65c_size_8abf5 wsJx4a65c_size_8abf5) := goodIn_app (goodIn_of _ (by decide +kernel)) ggX5_tide_Jx4a65c_size_8abf5
set_option maxRecDepth 20000 in
theorem ggX5_tide_X5_needNumber : GoodIn wsX5_tide wsX5_needNumber := goodIn_ca (goodIn_r _ [13, 14, 15] (by decide +kernel) (by decide +kernel)) (goodIn_sub (fun _ h => List.mem_cons_of_mem _ (List.mem_append_left _ (List.mem_append_right _ h))) (by decide +kernel))
set_option maxRecDepth 20000 in
theorem gX5_tide_X5_needNumber : GoodIn wsX5_tide (va_wsS RX5 57 yX5_needNumber wsX5_needNumber) := goodIn_app (goodIn_of _ (by decide +kernel)) ggX5_tide_X5_needNumber
set_option maxRecDepth 20000 in
theorem ggX5_tide_X5_needWithin : GoodIn wsX5_tide wsX5_needWithin := goodIn_ca (goodIn_r _ [18, 19, 20] (by decide +kernel) (by decide +kernel)) (goodIn_sub (fun _ h => List.mem_cons_of_mem _ (List.mem_append_right _ h)) (by decide +kernel))
set_option maxRecDepth 20000 in
theorem gX5_tide_X5_needWithin : GoodIn wsX5_tide (va_wsS RX5 33 yX5_needWithin wsX5_needWithin) := goodIn_app (goodIn_of _ (by decide +kernel)) ggX5_tide_X5_needWithin
set_option maxRecDepth 20000 in
theorem ggX5_tide_Jx4a65c_get_915e3 : GoodIn wsX5_tide wsJx4a65c_get_915e3 := goodIn_r _ [24, 9, 25, 26, 27, 28, 29, 30, 31, 32, 33, 34, 35, 7, 36, 37, 55, 56, 57] (by decide +kernel) (by decide +kernel)
set_option maxRecDepth 20000 in
theorem gX5_tide_Jx4a65c_get_915e3 : GoodIn wsX5_tide (wsV RX5 69 RJx4a65c yJx4a65c_get_915e3 wsJx4a65c_get_915e3) := goodIn_app (goodIn_of _ (by decide +kernel)) ggX5_tide_Jx4a65c_get_915e3
set_option maxRecDepth 20000 in
theorem ggX5_tide_X2_tideAt : GoodIn wsX5_tide wsX2_tideAt := goodIn_r _ [42, 43, 44, 45, 46, 47, 48, 58, 59, 60, 61, 62, 63, 64, 65, 66, 67] (by decide +kernel) (by decide +kernel)
set_option maxRecDepth 20000 in
theorem gX5_tide_X2_tideAt : GoodIn wsX5_tide (wsV RX5 126 RX2 yX2_tideAt wsX2_tideAt) := goodIn_app (goodIn_of _ (by decide +kernel)) ggX5_tide_X2_tideAt
theorem dX5_tide_0 : decode cX5_tide 0 = .ok (.iload_n 1, 1) := by decide +kernel
theorem dX5_tide_1 : decode cX5_tide 1 = .ok (.aload_n 0, 1) := by decide +kernel
theorem dX5_tide_2 : decode cX5_tide 2 = .ok (.getfield 10, 3) := by decide +kernel
theorem dX5_tide_5 : decode cX5_tide 5 = .ok (.invokevirtual 37, 3) := by decide +kernel
theorem dX5_tide_8 : decode cX5_tide 8 = .ok (.invokestatic 57, 3) := by decide +kernel
theorem dX5_tide_11 : decode cX5_tide 11 = .ok (.iload_n 2, 1) := by decide +kernel
theorem dX5_tide_12 : decode cX5_tide 12 = .ok (.iconst 0, 1) := by decide +kernel
theorem dX5_tide_13 : decode cX5_tide 13 = .ok (.ldc 125, 2) := by decide +kernel
theorem dX5_tide_15 : decode cX5_tide 15 = .ok (.invokestatic 33, 3) := by decide +kernel
theorem dX5_tide_18 : decode cX5_tide 18 = .ok (.aload_n 0, 1) := by decide +kernel
theorem dX5_tide_19 : decode cX5_tide 19 = .ok (.getfield 10, 3) := by decide +kernel
theorem dX5_tide_22 : decode cX5_tide 22 = .ok (.iload_n 1, 1) := by decide +kernel
theorem dX5_tide_23 : decode cX5_tide 23 = .ok (.invokevirtual 69, 3) := by decide +kernel
theorem dX5_tide_26 : decode cX5_tide 26 = .ok (.checkcast 45, 3) := by decide +kernel
theorem dX5_tide_29 : decode cX5_tide 29 = .ok (.iload_n 2, 1) := by decide +kernel
theorem dX5_tide_30 : decode cX5_tide 30 = .ok (.invokevirtual 126, 3) := by decide +kernel
theorem dX5_tide_33 : decode cX5_tide 33 = .ok (.ireturn, 1) := by decide +kernel
set_option maxRecDepth 20000 in
theorem ggX5_boatOf_Jx4a65c_size_8abf5 : GoodIn wsX5_boatOf wsJx4a65c_size_8abf5 := goodIn_r _ [10, 11, 65, 66, 67] (by decide +kernel) (by decide +kernel)
set_option maxRecDepth 20000 in
theorem gX5_boatOf_Jx4a65c_size_8abf5 : GoodIn wsX5_boatOf (wsV RX5 37 RJx4a65c yJx4a65c_size_8abf5 wsJx4a65c_size_8abf5) := goodIn_app (goodIn_of _ (by decide +kernel)) ggX5_boatOf_Jx4a65c_size_8abf5
set_option maxRecDepth 20000 in
theorem ggX5_boatOf_X5_needNumber : GoodIn wsX5_boatOf wsX5_needNumber := goodIn_ca (goodIn_r _ [15, 16, 17] (by decide +kernel) (by decide +kernel)) (goodIn_sub (fun _ h => List.mem_cons_of_mem _ (List.mem_append_left _ (List.mem_append_right _ h))) (by decide +kernel))
set_option maxRecDepth 20000 in
theorem gX5_boatOf_X5_needNumber : GoodIn wsX5_boatOf (va_wsS RX5 57 yX5_needNumber wsX5_needNumber) := goodIn_app (goodIn_of _ (by decide +kernel)) ggX5_boatOf_X5_needNumber
set_option maxRecDepth 20000 in
theorem ggX5_boatOf_X5_needWithin : GoodIn wsX5_boatOf wsX5_needWithin := goodIn_ca (goodIn_r _ [20, 21, 22] (by decide +kernel) (by decide +kernel)) (goodIn_sub (fun _ h => List.mem_cons_of_mem _ (List.mem_append_right _ h)) (by decide +kernel))
set_option maxRecDepth 20000 in
theorem gX5_boatOf_X5_needWithin : GoodIn wsX5_boatOf (va_wsS RX5 33 yX5_needWithin wsX5_needWithin) := goodIn_app (goodIn_of _ (by decide +kernel)) ggX5_boatOf_X5_needWithin
set_option maxRecDepth 20000 in
theorem ggX5_boatOf_Jx4a65c_get_915e3 : GoodIn wsX5_boatOf wsJx4a65c_get_915e3 := goodIn_r _ [26, 11, 27, 28, 29, 30, 31, 32, 33, 34, 35, 36, 37, 9, 38, 39, 65, 66, 67] (by decide +kernel) (by decide +kernel)
set_option maxRecDepth 20000 in
theorem gX5_boatOf_Jx4a65c_get_915e3 : GoodIn wsX5_boatOf (wsV RX5 69 RJx4a65c yJx4a65c_get_915e3 wsJx4a65c_get_915e3) := goodIn_app (goodIn_of _ (by decide +kernel)) ggX5_boatOf_Jx4a65c_get_915e3
set_option maxRecDepth 20000 in
theorem ggX5_boatOf_X5_crewMinutes : GoodIn wsX5_boatOf wsX5_crewMinutes := goodIn_r _ [43, 44, 45, 46, 47, 48, 49, 6, 7, 8, 9, 10, 11, 23, 24, 25, 26, 27, 28, 29, 30, 31, 32, 33, 34, 35, 36, 37, 38, 39, 50, 51, 52, 53, 54, 55, 68, 69, 70, 71, 72, 73, 74, 75, 76, 77, 78, 79, 80, 81, 82, 83, 65, 66, 67] (by decide +kernel) (by decide +kernel)
set_option maxRecDepth 20000 in
theorem gX5_boatOf_X5_crewMinutes : GoodIn wsX5_boatOf (wsV RX5 129 RX5 yX5_crewMinutes wsX5_crewMinutes) := goodIn_app (goodIn_of _ (by decide +kernel)) ggX5_boatOf_X5_crewMinutes
theorem dX5_boatOf_0 : decode cX5_boatOf 0 = .ok (.iload_n 1, 1) := by decide +kernel
theorem dX5_boatOf_1 : decode cX5_boatOf 1 = .ok (.aload_n 0, 1) := by decide +kernel
theorem dX5_boatOf_2 : decode cX5_boatOf 2 = .ok (.getfield 16, 3) := by decide +kernel
theorem dX5_boatOf_5 : decode cX5_boatOf 5 = .ok (.invokevirtual 37, 3) := by decide +kernel
theorem dX5_boatOf_8 : decode cX5_boatOf 8 = .ok (.invokestatic 57, 3) := by decide +kernel
theorem dX5_boatOf_11 : decode cX5_boatOf 11 = .ok (.iload_n 2, 1) := by decide +kernel
theorem dX5_boatOf_12 : decode cX5_boatOf 12 = .ok (.iconst 0, 1) := by decide +kernel
theorem dX5_boatOf_13 : decode cX5_boatOf 13 = .ok (.iconst 2, 1) := by decide +kernel
theorem dX5_boatOf_14 : decode cX5_boatOf 14 = .ok (.invokestatic 33, 3) := by decide +kernel
theorem dX5_boatOf_17 : decode cX5_boatOf 17 = .ok (.aload_n 0, 1) := by decide +kernel
theorem dX5_boatOf_18 : decode cX5_boatOf 18 = .ok (.getfield 16, 3) := by decide +kernel
theorem dX5_boatOf_21 : decode cX5_boatOf 21 = .ok (.iload_n 1, 1) := by decide +kernel
theorem dX5_boatOf_22 : decode cX5_boatOf 22 = .ok (.invokevirtual 69, 3) := by decide +kernel
theorem dX5_boatOf_25 : decode cX5_boatOf 25 = .ok (.checkcast 60, 3) := by decide +kernel
theorem dX5_boatOf_28 : decode cX5_boatOf 28 = .ok (.astore_n 3, 1) := by decide +kernel
theorem dX5_boatOf_29 : decode cX5_boatOf 29 = .ok (.iload_n 2, 1) := by decide +kernel
theorem dX5_boatOf_30 : decode cX5_boatOf 30 = .ok (.ifCond .ne 8, 3) := by decide +kernel
theorem dX5_boatOf_33 : decode cX5_boatOf 33 = .ok (.aload_n 3, 1) := by decide +kernel
theorem dX5_boatOf_34 : decode cX5_boatOf 34 = .ok (.getfield 65, 3) := by decide +kernel
theorem dX5_boatOf_37 : decode cX5_boatOf 37 = .ok (.ireturn, 1) := by decide +kernel
theorem dX5_boatOf_38 : decode cX5_boatOf 38 = .ok (.iload_n 2, 1) := by decide +kernel
theorem dX5_boatOf_39 : decode cX5_boatOf 39 = .ok (.iconst 1, 1) := by decide +kernel
theorem dX5_boatOf_40 : decode cX5_boatOf 40 = .ok (.if_icmp .ne 16, 3) := by decide +kernel
theorem dX5_boatOf_43 : decode cX5_boatOf 43 = .ok (.aload_n 3, 1) := by decide +kernel
theorem dX5_boatOf_44 : decode cX5_boatOf 44 = .ok (.getfield 76, 3) := by decide +kernel
theorem dX5_boatOf_47 : decode cX5_boatOf 47 = .ok (.ifCond .eq 7, 3) := by decide +kernel
theorem dX5_boatOf_50 : decode cX5_boatOf 50 = .ok (.iconst 1, 1) := by decide +kernel
theorem dX5_boatOf_51 : decode cX5_boatOf 51 = .ok (.goto 4, 3) := by decide +kernel
theorem dX5_boatOf_54 : decode cX5_boatOf 54 = .ok (.iconst 0, 1) := by decide +kernel
theorem dX5_boatOf_55 : decode cX5_boatOf 55 = .ok (.ireturn, 1) := by decide +kernel
theorem dX5_boatOf_56 : decode cX5_boatOf 56 = .ok (.aload_n 0, 1) := by decide +kernel
theorem dX5_boatOf_57 : decode cX5_boatOf 57 = .ok (.aload_n 3, 1) := by decide +kernel
theorem dX5_boatOf_58 : decode cX5_boatOf 58 = .ok (.aload_n 0, 1) := by decide +kernel
theorem dX5_boatOf_59 : decode cX5_boatOf 59 = .ok (.getfield 29, 3) := by decide +kernel
theorem dX5_boatOf_62 : decode cX5_boatOf 62 = .ok (.sipush 1440, 3) := by decide +kernel
theorem dX5_boatOf_65 : decode cX5_boatOf 65 = .ok (.idiv, 1) := by decide +kernel
theorem dX5_boatOf_66 : decode cX5_boatOf 66 = .ok (.invokevirtual 129, 3) := by decide +kernel
theorem dX5_boatOf_69 : decode cX5_boatOf 69 = .ok (.ireturn, 1) := by decide +kernel
set_option maxRecDepth 20000 in
theorem ggX5_sailingOf_Jx4a65c_size_8abf5 : GoodIn wsX5_sailingOf wsJx4a65c_size_8abf5 := goodIn_r _ [16, 17, 80, 81, 82] (by decide +kernel) (by decide +kernel)
set_option maxRecDepth 20000 in
theorem gX5_sailingOf_Jx4a65c_size_8abf5 : GoodIn wsX5_sailingOf (wsV RX5 37 RJx4a65c yJx4a65c_size_8abf5 wsJx4a65c_size_8abf5) := goodIn_app (goodIn_of _ (by decide +kernel)) ggX5_sailingOf_Jx4a65c_size_8abf5
set_option maxRecDepth 20000 in
theorem ggX5_sailingOf_X5_needNumber : GoodIn wsX5_sailingOf wsX5_needNumber := goodIn_ca (goodIn_r _ [21, 22, 23] (by decide +kernel) (by decide +kernel)) (goodIn_sub (fun _ h => List.mem_cons_of_mem _ (List.mem_append_left _ (List.mem_append_right _ h))) (by decide +kernel))
set_option maxRecDepth 20000 in
theorem gX5_sailingOf_X5_needNumber : GoodIn wsX5_sailingOf (va_wsS RX5 57 yX5_needNumber wsX5_needNumber) := goodIn_app (goodIn_of _ (by decide +kernel)) ggX5_sailingOf_X5_needNumber
set_option maxRecDepth 20000 in
theorem ggX5_sailingOf_X5_needWithin : GoodIn wsX5_sailingOf wsX5_needWithin := goodIn_ca (goodIn_r _ [26, 27, 28] (by decide +kernel) (by decide +kernel)) (goodIn_sub (fun _ h => List.mem_cons_of_mem _ (List.mem_append_right _ h)) (by decide +kernel))
set_option maxRecDepth 20000 in
theorem gX5_sailingOf_X5_needWithin : GoodIn wsX5_sailingOf (va_wsS RX5 33 yX5_needWithin wsX5_needWithin) := goodIn_app (goodIn_of _ (by decide +kernel)) ggX5_sailingOf_X5_needWithin
set_option maxRecDepth 20000 in
theorem ggX5_sailingOf_Jx4a65c_get_915e3 : GoodIn wsX5_sailingOf wsJx4a65c_get_915e3 := goodIn_r _ [32, 17, 33, 34, 35, 36, 37, 38, 39, 40, 41, 42, 43, 15, 44, 45, 80, 81, 82] (by decide +kernel) (by decide +kernel)
set_option maxRecDepth 20000 in
theorem gX5_sailingOf_Jx4a65c_get_915e3 : GoodIn wsX5_sailingOf (wsV RX5 69 RJx4a65c yJx4a65c_get_915e3 wsJx4a65c_get_915e3) := goodIn_app (goodIn_of _ (by decide +kernel)) ggX5_sailingOf_Jx4a65c_get_915e3
theorem dX5_sailingOf_0 : decode cX5_sailingOf 0 = .ok (.iload_n 1, 1) := by decide +kernel
theorem dX5_sailingOf_1 : decode cX5_sailingOf 1 = .ok (.aload_n 0, 1) := by decide +kernel
theorem dX5_sailingOf_2 : decode cX5_sailingOf 2 = .ok (.getfield 19, 3) := by decide +kernel
theorem dX5_sailingOf_5 : decode cX5_sailingOf 5 = .ok (.invokevirtual 37, 3) := by decide +kernel
theorem dX5_sailingOf_8 : decode cX5_sailingOf 8 = .ok (.invokestatic 57, 3) := by decide +kernel
theorem dX5_sailingOf_11 : decode cX5_sailingOf 11 = .ok (.iload_n 2, 1) := by decide +kernel
theorem dX5_sailingOf_12 : decode cX5_sailingOf 12 = .ok (.iconst 0, 1) := by decide +kernel
theorem dX5_sailingOf_13 : decode cX5_sailingOf 13 = .ok (.bipush 6, 2) := by decide +kernel
theorem dX5_sailingOf_15 : decode cX5_sailingOf 15 = .ok (.invokestatic 33, 3) := by decide +kernel
theorem dX5_sailingOf_18 : decode cX5_sailingOf 18 = .ok (.aload_n 0, 1) := by decide +kernel
theorem dX5_sailingOf_19 : decode cX5_sailingOf 19 = .ok (.getfield 19, 3) := by decide +kernel
theorem dX5_sailingOf_22 : decode cX5_sailingOf 22 = .ok (.iload_n 1, 1) := by decide +kernel
theorem dX5_sailingOf_23 : decode cX5_sailingOf 23 = .ok (.invokevirtual 69, 3) := by decide +kernel
theorem dX5_sailingOf_26 : decode cX5_sailingOf 26 = .ok (.checkcast 87, 3) := by decide +kernel
theorem dX5_sailingOf_29 : decode cX5_sailingOf 29 = .ok (.astore_n 3, 1) := by decide +kernel
theorem dX5_sailingOf_30 : decode cX5_sailingOf 30 = .ok (.iload_n 2, 1) := by decide +kernel
theorem dX5_sailingOf_31 : decode cX5_sailingOf 31 = .ok (.tableswitch 79 0 5 #[37, 42, 47, 55, 63, 71], 37) := by decide +kernel
theorem dX5_sailingOf_68 : decode cX5_sailingOf 68 = .ok (.aload_n 3, 1) := by decide +kernel
theorem dX5_sailingOf_69 : decode cX5_sailingOf 69 = .ok (.getfield 89, 3) := by decide +kernel
theorem dX5_sailingOf_72 : decode cX5_sailingOf 72 = .ok (.ireturn, 1) := by decide +kernel
theorem dX5_sailingOf_73 : decode cX5_sailingOf 73 = .ok (.aload_n 3, 1) := by decide +kernel
theorem dX5_sailingOf_74 : decode cX5_sailingOf 74 = .ok (.getfield 133, 3) := by decide +kernel
theorem dX5_sailingOf_77 : decode cX5_sailingOf 77 = .ok (.ireturn, 1) := by decide +kernel
theorem dX5_sailingOf_78 : decode cX5_sailingOf 78 = .ok (.aload_n 3, 1) := by decide +kernel
theorem dX5_sailingOf_79 : decode cX5_sailingOf 79 = .ok (.getfield 92, 3) := by decide +kernel
theorem dX5_sailingOf_82 : decode cX5_sailingOf 82 = .ok (.getfield 68, 3) := by decide +kernel
theorem dX5_sailingOf_85 : decode cX5_sailingOf 85 = .ok (.ireturn, 1) := by decide +kernel
theorem dX5_sailingOf_86 : decode cX5_sailingOf 86 = .ok (.aload_n 3, 1) := by decide +kernel
theorem dX5_sailingOf_87 : decode cX5_sailingOf 87 = .ok (.getfield 136, 3) := by decide +kernel
theorem dX5_sailingOf_90 : decode cX5_sailingOf 90 = .ok (.invokevirtual 37, 3) := by decide +kernel
theorem dX5_sailingOf_93 : decode cX5_sailingOf 93 = .ok (.ireturn, 1) := by decide +kernel
theorem dX5_sailingOf_94 : decode cX5_sailingOf 94 = .ok (.aload_n 3, 1) := by decide +kernel
theorem dX5_sailingOf_95 : decode cX5_sailingOf 95 = .ok (.getfield 139, 3) := by decide +kernel
theorem dX5_sailingOf_98 : decode cX5_sailingOf 98 = .ok (.getfield 143, 3) := by decide +kernel
theorem dX5_sailingOf_101 : decode cX5_sailingOf 101 = .ok (.ireturn, 1) := by decide +kernel
theorem dX5_sailingOf_102 : decode cX5_sailingOf 102 = .ok (.aload_n 3, 1) := by decide +kernel
theorem dX5_sailingOf_103 : decode cX5_sailingOf 103 = .ok (.getfield 148, 3) := by decide +kernel
theorem dX5_sailingOf_106 : decode cX5_sailingOf 106 = .ok (.getfield 143, 3) := by decide +kernel
theorem dX5_sailingOf_109 : decode cX5_sailingOf 109 = .ok (.ireturn, 1) := by decide +kernel
theorem dX5_sailingOf_110 : decode cX5_sailingOf 110 = .ok (.aload_n 3, 1) := by decide +kernel
theorem dX5_sailingOf_111 : decode cX5_sailingOf 111 = .ok (.getfield 151, 3) := by decide +kernel
theorem dX5_sailingOf_114 : decode cX5_sailingOf 114 = .ok (.ireturn, 1) := by decide +kernel
set_option maxRecDepth 20000 in
theorem ggX5_against_Jx4a65c_size_8abf5 : GoodIn wsX5_against wsJx4a65c_size_8abf5 := goodIn_r _ [8, 9, 94, 95, 96] (by decide +kernel) (by decide +kernel)
set_option maxRecDepth 20000 in
theorem gX5_against_Jx4a65c_size_8abf5 : GoodIn wsX5_against (wsV RX5 37 RJx4a65c yJx4a65c_size_8abf5 wsJx4a65c_size_8abf5) := goodIn_app (goodIn_of _ (by decide +kernel)) ggX5_against_Jx4a65c_size_8abf5
set_option maxRecDepth 20000 in
theorem ggX5_against_X5_needNumber : GoodIn wsX5_against wsX5_needNumber := goodIn_ca (goodIn_r _ [13, 14, 15] (by decide +kernel) (by decide +kernel)) (goodIn_sub (fun _ h => List.mem_cons_of_mem _ (List.mem_append_left _ (List.mem_append_right _ h))) (by decide +kernel))
set_option maxRecDepth 20000 in
theorem gX5_against_X5_needNumber : GoodIn wsX5_against (va_wsS RX5 57 yX5_needNumber wsX5_needNumber) := goodIn_app (goodIn_of _ (by decide +kernel)) ggX5_against_X5_needNumber
set_option maxRecDepth 20000 in
theorem ggX5_against_Jx4a65c_get_915e3 : GoodIn wsX5_against wsJx4a65c_get_915e3 := goodIn_r _ [19, 9, 20, 21, 22, 23, 24, 25, 26, 27, 28, 29, 30, 7, 31, 32, 94, 95, 96] (by decide +kernel) (by decide +kernel)
set_option maxRecDepth 20000 in
theorem gX5_against_Jx4a65c_get_915e3 : GoodIn wsX5_against (wsV RX5 69 RJx4a65c yJx4a65c_get_915e3 wsJx4a65c_get_915e3) := goodIn_app (goodIn_of _ (by decide +kernel)) ggX5_against_Jx4a65c_get_915e3
set_option maxRecDepth 20000 in
theorem ggX5_against_X5_needPlanned : GoodIn wsX5_against wsX5_needPlanned := goodIn_ca (goodIn_r _ [35, 36, 37, 38, 97, 98, 99, 100, 101, 102, 103, 104, 105, 106, 107, 108, 109, 110, 111, 112] (by decide +kernel) (by decide +kernel)) (goodIn_sub (fun _ h => List.mem_cons_of_mem _ (List.mem_append_right _ h)) (by decide +kernel))
set_option maxRecDepth 20000 in
theorem gX5_against_X5_needPlanned : GoodIn wsX5_against (va_wsS RX5 102 yX5_needPlanned wsX5_needPlanned) := goodIn_app (goodIn_of _ (by decide +kernel)) ggX5_against_X5_needPlanned
set_option maxRecDepth 20000 in
theorem ggX5_against_X5_reasonAtDeparture : GoodIn wsX5_against wsX5_reasonAtDeparture := goodIn_r _ [42, 43, 44, 45, 46, 47, 48, 49, 50, 51, 52, 53, 54, 55, 56, 57, 58, 59, 60, 12, 61, 1, 2, 38, 62, 4, 5, 6, 7, 8, 9, 16, 17, 18, 19, 20, 21, 22, 23, 24, 25, 26, 27, 28, 29, 30, 31, 32, 63, 64, 65, 66, 67, 68, 69, 70, 71, 72, 73, 74, 75, 76, 77, 78, 79, 80, 81, 82, 83, 84, 85, 86, 87, 97, 98, 99, 100, 101, 102, 103, 104, 105, 106, 107, 108, 109, 110, 111, 112, 113, 114, 115, 116, 117, 118, 119, 120, 121, 122, 123, 124, 125, 126, 127, 128, 129, 130, 131, 88, 89, 90, 91, 92, 93, 94, 95, 96] (by decide +kernel) (by decide +kernel)
set_option maxRecDepth 20000 in
theorem gX5_against_X5_reasonAtDeparture : GoodIn wsX5_against (wsV RX5 154 RX5 yX5_reasonAtDeparture wsX5_reasonAtDeparture) := goodIn_app (goodIn_of _ (by decide +kernel)) ggX5_against_X5_reasonAtDeparture
theorem dX5_against_0 : decode cX5_against 0 = .ok (.iload_n 1, 1) := by decide +kernel
theorem dX5_against_1 : decode cX5_against 1 = .ok (.aload_n 0, 1) := by decide +kernel
theorem dX5_against_2 : decode cX5_against 2 = .ok (.getfield 19, 3) := by decide +kernel
theorem dX5_against_5 : decode cX5_against 5 = .ok (.invokevirtual 37, 3) := by decide +kernel
theorem dX5_against_8 : decode cX5_against 8 = .ok (.invokestatic 57, 3) := by decide +kernel
theorem dX5_against_11 : decode cX5_against 11 = .ok (.aload_n 0, 1) := by decide +kernel
theorem dX5_against_12 : decode cX5_against 12 = .ok (.getfield 19, 3) := by decide +kernel
theorem dX5_against_15 : decode cX5_against 15 = .ok (.iload_n 1, 1) := by decide +kernel
theorem dX5_against_16 : decode cX5_against 16 = .ok (.invokevirtual 69, 3) := by decide +kernel
theorem dX5_against_19 : decode cX5_against 19 = .ok (.checkcast 87, 3) := by decide +kernel
theorem dX5_against_22 : decode cX5_against 22 = .ok (.astore_n 2, 1) := by decide +kernel
theorem dX5_against_23 : decode cX5_against 23 = .ok (.aload_n 2, 1) := by decide +kernel
theorem dX5_against_24 : decode cX5_against 24 = .ok (.invokestatic 102, 3) := by decide +kernel
theorem dX5_against_27 : decode cX5_against 27 = .ok (.aload_n 0, 1) := by decide +kernel
theorem dX5_against_28 : decode cX5_against 28 = .ok (.aload_n 2, 1) := by decide +kernel
theorem dX5_against_29 : decode cX5_against 29 = .ok (.aload_n 0, 1) := by decide +kernel
theorem dX5_against_30 : decode cX5_against 30 = .ok (.getfield 29, 3) := by decide +kernel
theorem dX5_against_33 : decode cX5_against 33 = .ok (.invokevirtual 154, 3) := by decide +kernel
theorem dX5_against_36 : decode cX5_against 36 = .ok (.ireturn, 1) := by decide +kernel
set_option maxRecDepth 20000 in
theorem ggX5_bookingOf_Jx4a65c_size_8abf5 : GoodIn wsX5_bookingOf wsJx4a65c_size_8abf5 := goodIn_r _ [13, 14, 88, 89, 90] (by decide +kernel) (by decide +kernel)
set_option maxRecDepth 20000 in
theorem gX5_bookingOf_Jx4a65c_size_8abf5 : GoodIn wsX5_bookingOf (wsV RX5 37 RJx4a65c yJx4a65c_size_8abf5 wsJx4a65c_size_8abf5) := goodIn_app (goodIn_of _ (by decide +kernel)) ggX5_bookingOf_Jx4a65c_size_8abf5
set_option maxRecDepth 20000 in
theorem ggX5_bookingOf_X5_needNumber : GoodIn wsX5_bookingOf wsX5_needNumber := goodIn_ca (goodIn_r _ [18, 19, 20] (by decide +kernel) (by decide +kernel)) (goodIn_sub (fun _ h => List.mem_cons_of_mem _ (List.mem_append_left _ (List.mem_append_right _ h))) (by decide +kernel))
set_option maxRecDepth 20000 in
theorem gX5_bookingOf_X5_needNumber : GoodIn wsX5_bookingOf (va_wsS RX5 57 yX5_needNumber wsX5_needNumber) := goodIn_app (goodIn_of _ (by decide +kernel)) ggX5_bookingOf_X5_needNumber
set_option maxRecDepth 20000 in
theorem ggX5_bookingOf_X5_needWithin : GoodIn wsX5_bookingOf wsX5_needWithin := goodIn_ca (goodIn_r _ [23, 24, 25] (by decide +kernel) (by decide +kernel)) (goodIn_sub (fun _ h => List.mem_cons_of_mem _ (List.mem_append_right _ h)) (by decide +kernel))
set_option maxRecDepth 20000 in
theorem gX5_bookingOf_X5_needWithin : GoodIn wsX5_bookingOf (va_wsS RX5 33 yX5_needWithin wsX5_needWithin) := goodIn_app (goodIn_of _ (by decide +kernel)) ggX5_bookingOf_X5_needWithin
set_option maxRecDepth 20000 in
theorem ggX5_bookingOf_Jx4a65c_get_915e3 : GoodIn wsX5_bookingOf wsJx4a65c_get_915e3 := goodIn_r _ [29, 14, 30, 31, 32, 33, 34, 35, 36, 37, 38, 39, 40, 12, 41, 42, 88, 89, 90] (by decide +kernel) (by decide +kernel)
set_option maxRecDepth 20000 in
theorem gX5_bookingOf_Jx4a65c_get_915e3 : GoodIn wsX5_bookingOf (wsV RX5 69 RJx4a65c yJx4a65c_get_915e3 wsJx4a65c_get_915e3) := goodIn_app (goodIn_of _ (by decide +kernel)) ggX5_bookingOf_Jx4a65c_get_915e3
set_option maxRecDepth 20000 in
theorem ggX5_bookingOf_X5_fare : GoodIn wsX5_bookingOf wsX5_fare := goodIn_r _ [46, 3, 47, 48, 49, 50, 51, 52, 53, 60, 61, 62, 63, 64, 65, 66, 67, 68, 69, 70, 71, 54, 55, 56, 57, 58, 59] (by decide +kernel) (by decide +kernel)
set_option maxRecDepth 20000 in
theorem gX5_bookingOf_X5_fare : GoodIn wsX5_bookingOf (wsV RX5 170 RX5 yX5_fare wsX5_fare) := goodIn_app (goodIn_of _ (by decide +kernel)) ggX5_bookingOf_X5_fare
theorem dX5_bookingOf_0 : decode cX5_bookingOf 0 = .ok (.iload_n 1, 1) := by decide +kernel
theorem dX5_bookingOf_1 : decode cX5_bookingOf 1 = .ok (.aload_n 0, 1) := by decide +kernel
theorem dX5_bookingOf_2 : decode cX5_bookingOf 2 = .ok (.getfield 22, 3) := by decide +kernel
theorem dX5_bookingOf_5 : decode cX5_bookingOf 5 = .ok (.invokevirtual 37, 3) := by decide +kernel
theorem dX5_bookingOf_8 : decode cX5_bookingOf 8 = .ok (.invokestatic 57, 3) := by decide +kernel
theorem dX5_bookingOf_11 : decode cX5_bookingOf 11 = .ok (.iload_n 2, 1) := by decide +kernel
theorem dX5_bookingOf_12 : decode cX5_bookingOf 12 = .ok (.iconst 0, 1) := by decide +kernel
theorem dX5_bookingOf_13 : decode cX5_bookingOf 13 = .ok (.iconst 5, 1) := by decide +kernel
theorem dX5_bookingOf_14 : decode cX5_bookingOf 14 = .ok (.invokestatic 33, 3) := by decide +kernel
theorem dX5_bookingOf_17 : decode cX5_bookingOf 17 = .ok (.aload_n 0, 1) := by decide +kernel
theorem dX5_bookingOf_18 : decode cX5_bookingOf 18 = .ok (.getfield 22, 3) := by decide +kernel
theorem dX5_bookingOf_21 : decode cX5_bookingOf 21 = .ok (.iload_n 1, 1) := by decide +kernel
theorem dX5_bookingOf_22 : decode cX5_bookingOf 22 = .ok (.invokevirtual 69, 3) := by decide +kernel
theorem dX5_bookingOf_25 : decode cX5_bookingOf 25 = .ok (.checkcast 106, 3) := by decide +kernel
theorem dX5_bookingOf_28 : decode cX5_bookingOf 28 = .ok (.astore_n 3, 1) := by decide +kernel
theorem dX5_bookingOf_29 : decode cX5_bookingOf 29 = .ok (.iload_n 2, 1) := by decide +kernel
theorem dX5_bookingOf_30 : decode cX5_bookingOf 30 = .ok (.tableswitch 62 0 4 #[34, 39, 47, 52, 57], 34) := by decide +kernel
theorem dX5_bookingOf_64 : decode cX5_bookingOf 64 = .ok (.aload_n 3, 1) := by decide +kernel
theorem dX5_bookingOf_65 : decode cX5_bookingOf 65 = .ok (.getfield 158, 3) := by decide +kernel
theorem dX5_bookingOf_68 : decode cX5_bookingOf 68 = .ok (.ireturn, 1) := by decide +kernel
theorem dX5_bookingOf_69 : decode cX5_bookingOf 69 = .ok (.aload_n 3, 1) := by decide +kernel
theorem dX5_bookingOf_70 : decode cX5_bookingOf 70 = .ok (.getfield 159, 3) := by decide +kernel
theorem dX5_bookingOf_73 : decode cX5_bookingOf 73 = .ok (.getfield 101, 3) := by decide +kernel
theorem dX5_bookingOf_76 : decode cX5_bookingOf 76 = .ok (.ireturn, 1) := by decide +kernel
theorem dX5_bookingOf_77 : decode cX5_bookingOf 77 = .ok (.aload_n 3, 1) := by decide +kernel
theorem dX5_bookingOf_78 : decode cX5_bookingOf 78 = .ok (.getfield 163, 3) := by decide +kernel
theorem dX5_bookingOf_81 : decode cX5_bookingOf 81 = .ok (.ireturn, 1) := by decide +kernel
theorem dX5_bookingOf_82 : decode cX5_bookingOf 82 = .ok (.aload_n 3, 1) := by decide +kernel
theorem dX5_bookingOf_83 : decode cX5_bookingOf 83 = .ok (.getfield 164, 3) := by decide +kernel
theorem dX5_bookingOf_86 : decode cX5_bookingOf 86 = .ok (.ireturn, 1) := by decide +kernel
theorem dX5_bookingOf_87 : decode cX5_bookingOf 87 = .ok (.aload_n 3, 1) := by decide +kernel
theorem dX5_bookingOf_88 : decode cX5_bookingOf 88 = .ok (.getfield 167, 3) := by decide +kernel
theorem dX5_bookingOf_91 : decode cX5_bookingOf 91 = .ok (.ireturn, 1) := by decide +kernel
theorem dX5_bookingOf_92 : decode cX5_bookingOf 92 = .ok (.aload_n 0, 1) := by decide +kernel
theorem dX5_bookingOf_93 : decode cX5_bookingOf 93 = .ok (.aload_n 3, 1) := by decide +kernel
theorem dX5_bookingOf_94 : decode cX5_bookingOf 94 = .ok (.invokevirtual 170, 3) := by decide +kernel
theorem dX5_bookingOf_97 : decode cX5_bookingOf 97 = .ok (.ireturn, 1) := by decide +kernel
set_option maxRecDepth 20000 in
theorem ggX5_plan_Jx4a65c_size_8abf5 : GoodIn wsX5_plan wsJx4a65c_size_8abf5 := goodIn_r _ [13, 14, 70, 71, 72] (by decide +kernel) (by decide +kernel)
set_option maxRecDepth 20000 in
theorem gX5_plan_Jx4a65c_size_8abf5 : GoodIn wsX5_plan (wsV RX5 37 RJx4a65c yJx4a65c_size_8abf5 wsJx4a65c_size_8abf5) := goodIn_app (goodIn_of _ (by decide +kernel)) ggX5_plan_Jx4a65c_size_8abf5
set_option maxRecDepth 20000 in
theorem ggX5_plan_X5_needNumber : GoodIn wsX5_plan wsX5_needNumber := goodIn_ca (goodIn_r _ [18, 1, 2] (by decide +kernel) (by decide +kernel)) (goodIn_sub (fun _ h => List.mem_cons_of_mem _ (List.mem_append_right _ h)) (by decide +kernel))
set_option maxRecDepth 20000 in
theorem gX5_plan_X5_needNumber : GoodIn wsX5_plan (va_wsS RX5 57 yX5_needNumber wsX5_needNumber) := goodIn_app (goodIn_of _ (by decide +kernel)) ggX5_plan_X5_needNumber
set_option maxRecDepth 20000 in
theorem ggX5_plan_Jx4a65c_get_915e3 : GoodIn wsX5_plan wsJx4a65c_get_915e3 := goodIn_r _ [22, 14, 23, 24, 25, 26, 27, 28, 29, 30, 31, 32, 33, 12, 34, 35, 70, 71, 72] (by decide +kernel) (by decide +kernel)
set_option maxRecDepth 20000 in
theorem gX5_plan_Jx4a65c_get_915e3 : GoodIn wsX5_plan (wsV RX5 69 RJx4a65c yJx4a65c_get_915e3 wsJx4a65c_get_915e3) := goodIn_app (goodIn_of _ (by decide +kernel)) ggX5_plan_Jx4a65c_get_915e3
theorem dX5_plan_0 : decode cX5_plan 0 = .ok (.iload_n 1, 1) := by decide +kernel
theorem dX5_plan_1 : decode cX5_plan 1 = .ok (.aload_n 0, 1) := by decide +kernel
theorem dX5_plan_2 : decode cX5_plan 2 = .ok (.getfield 19, 3) := by decide +kernel
theorem dX5_plan_5 : decode cX5_plan 5 = .ok (.invokevirtual 37, 3) := by decide +kernel
theorem dX5_plan_8 : decode cX5_plan 8 = .ok (.invokestatic 57, 3) := by decide +kernel
theorem dX5_plan_11 : decode cX5_plan 11 = .ok (.iload_n 2, 1) := by decide +kernel
theorem dX5_plan_12 : decode cX5_plan 12 = .ok (.ifCond .ge 13, 3) := by decide +kernel
theorem dX5_plan_15 : decode cX5_plan 15 = .ok (.new 174, 3) := by decide +kernel
theorem dX5_plan_18 : decode cX5_plan 18 = .ok (.dup, 1) := by decide +kernel
theorem dX5_plan_19 : decode cX5_plan 19 = .ok (.ldc 176, 2) := by decide +kernel
theorem dX5_plan_21 : decode cX5_plan 21 = .ok (.invokespecial 178, 3) := by decide +kernel
theorem dX5_plan_24 : decode cX5_plan 24 = .ok (.athrow, 1) := by decide +kernel
theorem dX5_plan_25 : decode cX5_plan 25 = .ok (.aload_n 0, 1) := by decide +kernel
theorem dX5_plan_26 : decode cX5_plan 26 = .ok (.getfield 19, 3) := by decide +kernel
theorem dX5_plan_29 : decode cX5_plan 29 = .ok (.iload_n 1, 1) := by decide +kernel
theorem dX5_plan_30 : decode cX5_plan 30 = .ok (.invokevirtual 69, 3) := by decide +kernel
theorem dX5_plan_33 : decode cX5_plan 33 = .ok (.checkcast 87, 3) := by decide +kernel
theorem dX5_plan_36 : decode cX5_plan 36 = .ok (.astore 4, 2) := by decide +kernel
theorem dX5_plan_38 : decode cX5_plan 38 = .ok (.iload_n 3, 1) := by decide +kernel
theorem dX5_plan_39 : decode cX5_plan 39 = .ok (.ifCond .eq 11, 3) := by decide +kernel
theorem dX5_plan_42 : decode cX5_plan 42 = .ok (.aload 4, 2) := by decide +kernel
theorem dX5_plan_44 : decode cX5_plan 44 = .ok (.getfield 179, 3) := by decide +kernel
theorem dX5_plan_47 : decode cX5_plan 47 = .ok (.goto 8, 3) := by decide +kernel
theorem dX5_plan_50 : decode cX5_plan 50 = .ok (.aload 4, 2) := by decide +kernel
theorem dX5_plan_52 : decode cX5_plan 52 = .ok (.getfield 136, 3) := by decide +kernel
theorem dX5_plan_55 : decode cX5_plan 55 = .ok (.astore 5, 2) := by decide +kernel
theorem dX5_plan_57 : decode cX5_plan 57 = .ok (.iload_n 2, 1) := by decide +kernel
theorem dX5_plan_58 : decode cX5_plan 58 = .ok (.aload 5, 2) := by decide +kernel
theorem dX5_plan_60 : decode cX5_plan 60 = .ok (.invokevirtual 37, 3) := by decide +kernel
theorem dX5_plan_63 : decode cX5_plan 63 = .ok (.if_icmp .ge 18, 3) := by decide +kernel
theorem dX5_plan_66 : decode cX5_plan 66 = .ok (.aload 5, 2) := by decide +kernel
theorem dX5_plan_68 : decode cX5_plan 68 = .ok (.iload_n 2, 1) := by decide +kernel
theorem dX5_plan_69 : decode cX5_plan 69 = .ok (.invokevirtual 69, 3) := by decide +kernel
theorem dX5_plan_72 : decode cX5_plan 72 = .ok (.checkcast 106, 3) := by decide +kernel
theorem dX5_plan_75 : decode cX5_plan 75 = .ok (.getfield 111, 3) := by decide +kernel
theorem dX5_plan_78 : decode cX5_plan 78 = .ok (.goto 4, 3) := by decide +kernel
theorem dX5_plan_81 : decode cX5_plan 81 = .ok (.iconst (-1), 1) := by decide +kernel
theorem dX5_plan_82 : decode cX5_plan 82 = .ok (.ireturn, 1) := by decide +kernel
set_option maxRecDepth 20000 in
theorem ggX5_gap_Jx4a65c_size_8abf5 : GoodIn wsX5_gap wsJx4a65c_size_8abf5 := goodIn_r _ [8, 9, 66, 67, 68] (by decide +kernel) (by decide +kernel)
set_option maxRecDepth 20000 in
theorem gX5_gap_Jx4a65c_size_8abf5 : GoodIn wsX5_gap (wsV RX5 37 RJx4a65c yJx4a65c_size_8abf5 wsJx4a65c_size_8abf5) := goodIn_app (goodIn_of _ (by decide +kernel)) ggX5_gap_Jx4a65c_size_8abf5
set_option maxRecDepth 20000 in
theorem ggX5_gap_X5_needNumber : GoodIn wsX5_gap wsX5_needNumber := goodIn_ca (goodIn_r _ [13, 14, 15] (by decide +kernel) (by decide +kernel)) (goodIn_sub (fun _ h => List.mem_cons_of_mem _ (List.mem_append_left _ (List.mem_append_right _ h))) (by decide +kernel))
set_option maxRecDepth 20000 in
theorem gX5_gap_X5_needNumber : GoodIn wsX5_gap (va_wsS RX5 57 yX5_needNumber wsX5_needNumber) := goodIn_app (goodIn_of _ (by decide +kernel)) ggX5_gap_X5_needNumber
set_option maxRecDepth 20000 in
theorem ggX5_gap_X5_needWithin : GoodIn wsX5_gap wsX5_needWithin := goodIn_ca (goodIn_r _ [18, 19, 20] (by decide +kernel) (by decide +kernel)) (goodIn_sub (fun _ h => List.mem_cons_of_mem _ (List.mem_append_right _ h)) (by decide +kernel))
set_option maxRecDepth 20000 in
theorem gX5_gap_X5_needWithin : GoodIn wsX5_gap (va_wsS RX5 33 yX5_needWithin wsX5_needWithin) := goodIn_app (goodIn_of _ (by decide +kernel)) ggX5_gap_X5_needWithin
set_option maxRecDepth 20000 in
theorem ggX5_gap_Jx4a65c_get_915e3 : GoodIn wsX5_gap wsJx4a65c_get_915e3 := goodIn_r _ [24, 9, 25, 26, 27, 28, 29, 30, 31, 32, 33, 34, 35, 7, 36, 37, 66, 67, 68] (by decide +kernel) (by decide +kernel)
set_option maxRecDepth 20000 in
theorem gX5_gap_Jx4a65c_get_915e3 : GoodIn wsX5_gap (wsV RX5 69 RJx4a65c yJx4a65c_get_915e3 wsJx4a65c_get_915e3) := goodIn_app (goodIn_of _ (by decide +kernel)) ggX5_gap_Jx4a65c_get_915e3
set_option maxRecDepth 20000 in
theorem ggX5_gap_X2_gapAt : GoodIn wsX5_gap wsX2_gapAt := goodIn_r _ [42, 43, 69, 70, 71, 72, 73, 74, 75, 76, 77, 78] (by decide +kernel) (by decide +kernel)
set_option maxRecDepth 20000 in
theorem gX5_gap_X2_gapAt : GoodIn wsX5_gap (wsV RX5 182 RX2 yX2_gapAt wsX2_gapAt) := goodIn_app (goodIn_of _ (by decide +kernel)) ggX5_gap_X2_gapAt
set_option maxRecDepth 20000 in
theorem ggX5_gap_X2_longestGapAt : GoodIn wsX5_gap wsX2_longestGapAt := goodIn_r _ [47, 48, 49, 50, 51, 52, 53, 39, 40, 41, 42, 43, 69, 70, 71, 72, 73, 74, 75, 76, 77, 78] (by decide +kernel) (by decide +kernel)
set_option maxRecDepth 20000 in
theorem gX5_gap_X2_longestGapAt : GoodIn wsX5_gap (wsV RX5 185 RX2 yX2_longestGapAt wsX2_longestGapAt) := goodIn_app (goodIn_of _ (by decide +kernel)) ggX5_gap_X2_longestGapAt
set_option maxRecDepth 20000 in
theorem ggX5_gap_X2_longestCauseAt : GoodIn wsX5_gap wsX2_longestCauseAt := goodIn_r _ [57, 48, 58, 59, 53, 39, 40, 41, 42, 43, 69, 70, 71, 72, 73, 74, 75, 76, 77, 78] (by decide +kernel) (by decide +kernel)
set_option maxRecDepth 20000 in
theorem gX5_gap_X2_longestCauseAt : GoodIn wsX5_gap (wsV RX5 188 RX2 yX2_longestCauseAt wsX2_longestCauseAt) := goodIn_app (goodIn_of _ (by decide +kernel)) ggX5_gap_X2_longestCauseAt
theorem dX5_gap_0 : decode cX5_gap 0 = .ok (.iload_n 1, 1) := by decide +kernel
theorem dX5_gap_1 : decode cX5_gap 1 = .ok (.aload_n 0, 1) := by decide +kernel
theorem dX5_gap_2 : decode cX5_gap 2 = .ok (.getfield 10, 3) := by decide +kernel
theorem dX5_gap_5 : decode cX5_gap 5 = .ok (.invokevirtual 37, 3) := by decide +kernel
theorem dX5_gap_8 : decode cX5_gap 8 = .ok (.invokestatic 57, 3) := by decide +kernel
theorem dX5_gap_11 : decode cX5_gap 11 = .ok (.iload_n 2, 1) := by decide +kernel
theorem dX5_gap_12 : decode cX5_gap 12 = .ok (.iconst 0, 1) := by decide +kernel
theorem dX5_gap_13 : decode cX5_gap 13 = .ok (.iconst 2, 1) := by decide +kernel
theorem dX5_gap_14 : decode cX5_gap 14 = .ok (.invokestatic 33, 3) := by decide +kernel
theorem dX5_gap_17 : decode cX5_gap 17 = .ok (.aload_n 0, 1) := by decide +kernel
theorem dX5_gap_18 : decode cX5_gap 18 = .ok (.getfield 10, 3) := by decide +kernel
theorem dX5_gap_21 : decode cX5_gap 21 = .ok (.iload_n 1, 1) := by decide +kernel
theorem dX5_gap_22 : decode cX5_gap 22 = .ok (.invokevirtual 69, 3) := by decide +kernel
theorem dX5_gap_25 : decode cX5_gap 25 = .ok (.checkcast 45, 3) := by decide +kernel
theorem dX5_gap_28 : decode cX5_gap 28 = .ok (.astore_n 3, 1) := by decide +kernel
theorem dX5_gap_29 : decode cX5_gap 29 = .ok (.iload_n 2, 1) := by decide +kernel
theorem dX5_gap_30 : decode cX5_gap 30 = .ok (.ifCond .ne 12, 3) := by decide +kernel
theorem dX5_gap_33 : decode cX5_gap 33 = .ok (.aload_n 3, 1) := by decide +kernel
theorem dX5_gap_34 : decode cX5_gap 34 = .ok (.aload_n 0, 1) := by decide +kernel
theorem dX5_gap_35 : decode cX5_gap 35 = .ok (.getfield 29, 3) := by decide +kernel
theorem dX5_gap_38 : decode cX5_gap 38 = .ok (.invokevirtual 182, 3) := by decide +kernel
theorem dX5_gap_41 : decode cX5_gap 41 = .ok (.ireturn, 1) := by decide +kernel
theorem dX5_gap_42 : decode cX5_gap 42 = .ok (.iload_n 2, 1) := by decide +kernel
theorem dX5_gap_43 : decode cX5_gap 43 = .ok (.iconst 1, 1) := by decide +kernel
theorem dX5_gap_44 : decode cX5_gap 44 = .ok (.if_icmp .ne 14, 3) := by decide +kernel
theorem dX5_gap_47 : decode cX5_gap 47 = .ok (.aload_n 3, 1) := by decide +kernel
theorem dX5_gap_48 : decode cX5_gap 48 = .ok (.aload_n 0, 1) := by decide +kernel
theorem dX5_gap_49 : decode cX5_gap 49 = .ok (.getfield 29, 3) := by decide +kernel
theorem dX5_gap_52 : decode cX5_gap 52 = .ok (.invokevirtual 185, 3) := by decide +kernel
theorem dX5_gap_55 : decode cX5_gap 55 = .ok (.goto 11, 3) := by decide +kernel
theorem dX5_gap_58 : decode cX5_gap 58 = .ok (.aload_n 3, 1) := by decide +kernel
theorem dX5_gap_59 : decode cX5_gap 59 = .ok (.aload_n 0, 1) := by decide +kernel
theorem dX5_gap_60 : decode cX5_gap 60 = .ok (.getfield 29, 3) := by decide +kernel
theorem dX5_gap_63 : decode cX5_gap 63 = .ok (.invokevirtual 188, 3) := by decide +kernel
theorem dX5_gap_66 : decode cX5_gap 66 = .ok (.ireturn, 1) := by decide +kernel
set_option maxRecDepth 20000 in
theorem ggX5_performance_Jx4a65c_size_8abf5 : GoodIn wsX5_performance wsJx4a65c_size_8abf5 := goodIn_r _ [9, 10, 50, 51, 52] (by decide +kernel) (by decide +kernel)
set_option maxRecDepth 20000 in
theorem gX5_performance_Jx4a65c_size_8abf5 : GoodIn wsX5_performance (wsV RX5 37 RJx4a65c yJx4a65c_size_8abf5 wsJx4a65c_size_8abf5) := goodIn_app (goodIn_of _ (by decide +kernel)) ggX5_performance_Jx4a65c_size_8abf5
set_option maxRecDepth 20000 in
theorem ggX5_performance_Jx4a65c_get_915e3 : GoodIn wsX5_performance wsJx4a65c_get_915e3 := goodIn_r _ [14, 10, 15, 16, 17, 18, 19, 20, 21, 22, 23, 24, 25, 8, 26, 27, 50, 51, 52] (by decide +kernel) (by decide +kernel)
set_option maxRecDepth 20000 in
theorem gX5_performance_Jx4a65c_get_915e3 : GoodIn wsX5_performance (wsV RX5 69 RJx4a65c yJx4a65c_get_915e3 wsJx4a65c_get_915e3) := goodIn_app (goodIn_of _ (by decide +kernel)) ggX5_performance_Jx4a65c_get_915e3
theorem dX5_performance_0 : decode cX5_performance 0 = .ok (.iconst 0, 1) := by decide +kernel
theorem dX5_performance_1 : decode cX5_performance 1 = .ok (.istore_n 1, 1) := by decide +kernel
theorem dX5_performance_2 : decode cX5_performance 2 = .ok (.iconst 0, 1) := by decide +kernel
theorem dX5_performance_3 : decode cX5_performance 3 = .ok (.istore_n 2, 1) := by decide +kernel
theorem dX5_performance_4 : decode cX5_performance 4 = .ok (.iconst 0, 1) := by decide +kernel
theorem dX5_performance_5 : decode cX5_performance 5 = .ok (.istore_n 3, 1) := by decide +kernel
theorem dX5_performance_6 : decode cX5_performance 6 = .ok (.iload_n 3, 1) := by decide +kernel
theorem dX5_performance_7 : decode cX5_performance 7 = .ok (.aload_n 0, 1) := by decide +kernel
theorem dX5_performance_8 : decode cX5_performance 8 = .ok (.getfield 19, 3) := by decide +kernel
theorem dX5_performance_11 : decode cX5_performance 11 = .ok (.invokevirtual 37, 3) := by decide +kernel
theorem dX5_performance_14 : decode cX5_performance 14 = .ok (.if_icmp .ge 58, 3) := by decide +kernel
theorem dX5_performance_17 : decode cX5_performance 17 = .ok (.aload_n 0, 1) := by decide +kernel
theorem dX5_performance_18 : decode cX5_performance 18 = .ok (.getfield 19, 3) := by decide +kernel
theorem dX5_performance_21 : decode cX5_performance 21 = .ok (.iload_n 3, 1) := by decide +kernel
theorem dX5_performance_22 : decode cX5_performance 22 = .ok (.invokevirtual 69, 3) := by decide +kernel
theorem dX5_performance_25 : decode cX5_performance 25 = .ok (.checkcast 87, 3) := by decide +kernel
theorem dX5_performance_28 : decode cX5_performance 28 = .ok (.astore 4, 2) := by decide +kernel
theorem dX5_performance_30 : decode cX5_performance 30 = .ok (.aload 4, 2) := by decide +kernel
theorem dX5_performance_32 : decode cX5_performance 32 = .ok (.getfield 191, 3) := by decide +kernel
theorem dX5_performance_35 : decode cX5_performance 35 = .ok (.ifCond .eq 31, 3) := by decide +kernel
theorem dX5_performance_38 : decode cX5_performance 38 = .ok (.aload 4, 2) := by decide +kernel
theorem dX5_performance_40 : decode cX5_performance 40 = .ok (.getfield 89, 3) := by decide +kernel
theorem dX5_performance_43 : decode cX5_performance 43 = .ok (.ifCond .eq 23, 3) := by decide +kernel
theorem dX5_performance_46 : decode cX5_performance 46 = .ok (.iinc 1 1, 3) := by decide +kernel
theorem dX5_performance_49 : decode cX5_performance 49 = .ok (.iload_n 2, 1) := by decide +kernel
theorem dX5_performance_50 : decode cX5_performance 50 = .ok (.aload 4, 2) := by decide +kernel
theorem dX5_performance_52 : decode cX5_performance 52 = .ok (.getfield 89, 3) := by decide +kernel
theorem dX5_performance_55 : decode cX5_performance 55 = .ok (.iconst 3, 1) := by decide +kernel
theorem dX5_performance_56 : decode cX5_performance 56 = .ok (.if_icmp .ne 7, 3) := by decide +kernel
theorem dX5_performance_59 : decode cX5_performance 59 = .ok (.iconst 0, 1) := by decide +kernel
theorem dX5_performance_60 : decode cX5_performance 60 = .ok (.goto 4, 3) := by decide +kernel
theorem dX5_performance_63 : decode cX5_performance 63 = .ok (.iconst 1, 1) := by decide +kernel
theorem dX5_performance_64 : decode cX5_performance 64 = .ok (.iadd, 1) := by decide +kernel
theorem dX5_performance_65 : decode cX5_performance 65 = .ok (.istore_n 2, 1) := by decide +kernel
theorem dX5_performance_66 : decode cX5_performance 66 = .ok (.iinc 3 1, 3) := by decide +kernel
theorem dX5_performance_69 : decode cX5_performance 69 = .ok (.goto (-63), 3) := by decide +kernel
theorem dX5_performance_72 : decode cX5_performance 72 = .ok (.iload_n 1, 1) := by decide +kernel
theorem dX5_performance_73 : decode cX5_performance 73 = .ok (.ifCond .ne 7, 3) := by decide +kernel
theorem dX5_performance_76 : decode cX5_performance 76 = .ok (.dconst 1, 1) := by decide +kernel
theorem dX5_performance_77 : decode cX5_performance 77 = .ok (.goto 8, 3) := by decide +kernel
theorem dX5_performance_80 : decode cX5_performance 80 = .ok (.iload_n 2, 1) := by decide +kernel
theorem dX5_performance_81 : decode cX5_performance 81 = .ok (.i2d, 1) := by decide +kernel
theorem dX5_performance_82 : decode cX5_performance 82 = .ok (.iload_n 1, 1) := by decide +kernel
theorem dX5_performance_83 : decode cX5_performance 83 = .ok (.i2d, 1) := by decide +kernel
theorem dX5_performance_84 : decode cX5_performance 84 = .ok (.ddiv, 1) := by decide +kernel
theorem dX5_performance_85 : decode cX5_performance 85 = .ok (.dreturn, 1) := by decide +kernel
set_option maxRecDepth 20000 in
theorem ggX5_penalty_X5_performance : GoodIn wsX5_penalty wsX5_performance := goodIn_r _ [6, 7, 8, 9, 10, 11, 12, 13, 14, 15, 16, 17, 18, 19, 20, 21, 22, 23, 24, 25, 26, 27, 28, 29, 30, 31, 32, 33, 34, 35, 36, 37, 38, 39, 40, 41, 42, 43, 44, 45, 46, 47, 48, 49, 50, 51, 52, 53, 54, 55, 56, 57, 58] (by decide +kernel) (by decide +kernel)
set_option maxRecDepth 20000 in
theorem gX5_penalty_X5_performance : GoodIn wsX5_penalty (wsV RX5 196 RX5 yX5_performance wsX5_performance) := goodIn_app (goodIn_of _ (by decide +kernel)) ggX5_penalty_X5_performance
theorem dX5_penalty_0 : decode cX5_penalty 0 = .ok (.ldc2_w 194, 3) := by decide +kernel
theorem dX5_penalty_3 : decode cX5_penalty 3 = .ok (.dconst 1, 1) := by decide +kernel
theorem dX5_penalty_4 : decode cX5_penalty 4 = .ok (.aload_n 0, 1) := by decide +kernel
theorem dX5_penalty_5 : decode cX5_penalty 5 = .ok (.invokevirtual 196, 3) := by decide +kernel
theorem dX5_penalty_8 : decode cX5_penalty 8 = .ok (.dsub, 1) := by decide +kernel
theorem dX5_penalty_9 : decode cX5_penalty 9 = .ok (.dmul, 1) := by decide +kernel
theorem dX5_penalty_10 : decode cX5_penalty 10 = .ok (.d2i, 1) := by decide +kernel
theorem dX5_penalty_11 : decode cX5_penalty 11 = .ok (.ireturn, 1) := by decide +kernel
theorem dX5_needNumber_0 : decode cX5_needNumber 0 = .ok (.iload_n 0, 1) := by decide +kernel
theorem dX5_needNumber_1 : decode cX5_needNumber 1 = .ok (.ifCond .lt 8, 3) := by decide +kernel
theorem dX5_needNumber_4 : decode cX5_needNumber 4 = .ok (.iload_n 0, 1) := by decide +kernel
theorem dX5_needNumber_5 : decode cX5_needNumber 5 = .ok (.iload_n 1, 1) := by decide +kernel
theorem dX5_needNumber_6 : decode cX5_needNumber 6 = .ok (.if_icmp .lt 13, 3) := by decide +kernel
theorem dX5_needNumber_9 : decode cX5_needNumber 9 = .ok (.new 174, 3) := by decide +kernel
theorem dX5_needNumber_12 : decode cX5_needNumber 12 = .ok (.dup, 1) := by decide +kernel
theorem dX5_needNumber_13 : decode cX5_needNumber 13 = .ok (.ldc 200, 2) := by decide +kernel
theorem dX5_needNumber_15 : decode cX5_needNumber 15 = .ok (.invokespecial 178, 3) := by decide +kernel
theorem dX5_needNumber_18 : decode cX5_needNumber 18 = .ok (.athrow, 1) := by decide +kernel
theorem dX5_needNumber_19 : decode cX5_needNumber 19 = .ok (.return_, 1) := by decide +kernel
theorem dX5_needWithin_0 : decode cX5_needWithin 0 = .ok (.iload_n 0, 1) := by decide +kernel
theorem dX5_needWithin_1 : decode cX5_needWithin 1 = .ok (.iload_n 1, 1) := by decide +kernel
theorem dX5_needWithin_2 : decode cX5_needWithin 2 = .ok (.if_icmp .lt 8, 3) := by decide +kernel
theorem dX5_needWithin_5 : decode cX5_needWithin 5 = .ok (.iload_n 0, 1) := by decide +kernel
theorem dX5_needWithin_6 : decode cX5_needWithin 6 = .ok (.iload_n 2, 1) := by decide +kernel
theorem dX5_needWithin_7 : decode cX5_needWithin 7 = .ok (.if_icmp .le 13, 3) := by decide +kernel
theorem dX5_needWithin_10 : decode cX5_needWithin 10 = .ok (.new 80, 3) := by decide +kernel
theorem dX5_needWithin_13 : decode cX5_needWithin 13 = .ok (.dup, 1) := by decide +kernel
theorem dX5_needWithin_14 : decode cX5_needWithin 14 = .ok (.ldc 202, 2) := by decide +kernel
theorem dX5_needWithin_16 : decode cX5_needWithin 16 = .ok (.invokespecial 84, 3) := by decide +kernel
theorem dX5_needWithin_19 : decode cX5_needWithin 19 = .ok (.athrow, 1) := by decide +kernel
theorem dX5_needWithin_20 : decode cX5_needWithin 20 = .ok (.return_, 1) := by decide +kernel
theorem dX5_needRoom_0 : decode cX5_needRoom 0 = .ok (.iload_n 0, 1) := by decide +kernel
theorem dX5_needRoom_1 : decode cX5_needRoom 1 = .ok (.iload_n 1, 1) := by decide +kernel
theorem dX5_needRoom_2 : decode cX5_needRoom 2 = .ok (.if_icmp .lt 13, 3) := by decide +kernel
theorem dX5_needRoom_5 : decode cX5_needRoom 5 = .ok (.new 204, 3) := by decide +kernel
theorem dX5_needRoom_8 : decode cX5_needRoom 8 = .ok (.dup, 1) := by decide +kernel
theorem dX5_needRoom_9 : decode cX5_needRoom 9 = .ok (.ldc 206, 2) := by decide +kernel
theorem dX5_needRoom_11 : decode cX5_needRoom 11 = .ok (.invokespecial 208, 3) := by decide +kernel
theorem dX5_needRoom_14 : decode cX5_needRoom 14 = .ok (.athrow, 1) := by decide +kernel
theorem dX5_needRoom_15 : decode cX5_needRoom 15 = .ok (.return_, 1) := by decide +kernel
theorem dX5_needPlanned_0 : decode cX5_needPlanned 0 = .ok (.aload_n 0, 1) := by decide +kernel
theorem dX5_needPlanned_1 : decode cX5_needPlanned 1 = .ok (.getfield 89, 3) := by decide +kernel
theorem dX5_needPlanned_4 : decode cX5_needPlanned 4 = .ok (.ifCond .eq 13, 3) := by decide +kernel
theorem dX5_needPlanned_7 : decode cX5_needPlanned 7 = .ok (.new 204, 3) := by decide +kernel
theorem dX5_needPlanned_10 : decode cX5_needPlanned 10 = .ok (.dup, 1) := by decide +kernel
theorem dX5_needPlanned_11 : decode cX5_needPlanned 11 = .ok (.ldc 209, 2) := by decide +kernel
theorem dX5_needPlanned_13 : decode cX5_needPlanned 13 = .ok (.invokespecial 208, 3) := by decide +kernel
theorem dX5_needPlanned_16 : decode cX5_needPlanned 16 = .ok (.athrow, 1) := by decide +kernel
theorem dX5_needPlanned_17 : decode cX5_needPlanned 17 = .ok (.return_, 1) := by decide +kernel
set_option maxRecDepth 20000 in
theorem ggX5_nextMinuteOfNote_Jx4a65c_size_8abf5 : GoodIn wsX5_nextMinuteOfNote wsJx4a65c_size_8abf5 := goodIn_r _ [14, 15, 62, 63, 64] (by decide +kernel) (by decide +kernel)
set_option maxRecDepth 20000 in
theorem gX5_nextMinuteOfNote_Jx4a65c_size_8abf5 : GoodIn wsX5_nextMinuteOfNote (wsV RX5 37 RJx4a65c yJx4a65c_size_8abf5 wsJx4a65c_size_8abf5) := goodIn_app (goodIn_of _ (by decide +kernel)) ggX5_nextMinuteOfNote_Jx4a65c_size_8abf5
set_option maxRecDepth 20000 in
theorem ggX5_nextMinuteOfNote_Jx4a65c_get_915e3 : GoodIn wsX5_nextMinuteOfNote wsJx4a65c_get_915e3 := goodIn_r _ [19, 15, 20, 21, 22, 23, 24, 25, 26, 27, 28, 29, 30, 13, 31, 32, 62, 63, 64] (by decide +kernel) (by decide +kernel)
set_option maxRecDepth 20000 in
theorem gX5_nextMinuteOfNote_Jx4a65c_get_915e3 : GoodIn wsX5_nextMinuteOfNote (wsV RX5 69 RJx4a65c yJx4a65c_get_915e3 wsJx4a65c_get_915e3) := goodIn_app (goodIn_of _ (by decide +kernel)) ggX5_nextMinuteOfNote_Jx4a65c_get_915e3
set_option maxRecDepth 20000 in
theorem ggX5_nextMinuteOfNote_X3_arrival : GoodIn wsX5_nextMinuteOfNote wsX3_arrival := goodIn_r _ [37, 38, 39, 46, 47, 48, 49, 50, 51, 52, 53, 54, 55, 56, 57, 58, 59, 60, 61] (by decide +kernel) (by decide +kernel)
set_option maxRecDepth 20000 in
theorem gX5_nextMinuteOfNote_X3_arrival : GoodIn wsX5_nextMinuteOfNote (wsV RX5 220 RX3 yX3_arrival wsX3_arrival) := goodIn_app (goodIn_of _ (by decide +kernel)) ggX5_nextMinuteOfNote_X3_arrival
theorem dX5_nextMinuteOfNote_0 : decode cX5_nextMinuteOfNote 0 = .ok (.aload_n 0, 1) := by decide +kernel
theorem dX5_nextMinuteOfNote_1 : decode cX5_nextMinuteOfNote 1 = .ok (.getfield 29, 3) := by decide +kernel
theorem dX5_nextMinuteOfNote_4 : decode cX5_nextMinuteOfNote 4 = .ok (.aload_n 0, 1) := by decide +kernel
theorem dX5_nextMinuteOfNote_5 : decode cX5_nextMinuteOfNote 5 = .ok (.getfield 29, 3) := by decide +kernel
theorem dX5_nextMinuteOfNote_8 : decode cX5_nextMinuteOfNote 8 = .ok (.sipush 1440, 3) := by decide +kernel
theorem dX5_nextMinuteOfNote_11 : decode cX5_nextMinuteOfNote 11 = .ok (.irem, 1) := by decide +kernel
theorem dX5_nextMinuteOfNote_12 : decode cX5_nextMinuteOfNote 12 = .ok (.isub, 1) := by decide +kernel
theorem dX5_nextMinuteOfNote_13 : decode cX5_nextMinuteOfNote 13 = .ok (.sipush 300, 3) := by decide +kernel
theorem dX5_nextMinuteOfNote_16 : decode cX5_nextMinuteOfNote 16 = .ok (.iadd, 1) := by decide +kernel
theorem dX5_nextMinuteOfNote_17 : decode cX5_nextMinuteOfNote 17 = .ok (.istore_n 2, 1) := by decide +kernel
theorem dX5_nextMinuteOfNote_18 : decode cX5_nextMinuteOfNote 18 = .ok (.iload_n 2, 1) := by decide +kernel
theorem dX5_nextMinuteOfNote_19 : decode cX5_nextMinuteOfNote 19 = .ok (.aload_n 0, 1) := by decide +kernel
theorem dX5_nextMinuteOfNote_20 : decode cX5_nextMinuteOfNote 20 = .ok (.getfield 29, 3) := by decide +kernel
theorem dX5_nextMinuteOfNote_23 : decode cX5_nextMinuteOfNote 23 = .ok (.if_icmp .gt 9, 3) := by decide +kernel
theorem dX5_nextMinuteOfNote_26 : decode cX5_nextMinuteOfNote 26 = .ok (.iinc 2 1440, 6) := by decide +kernel
theorem dX5_nextMinuteOfNote_32 : decode cX5_nextMinuteOfNote 32 = .ok (.iload_n 1, 1) := by decide +kernel
theorem dX5_nextMinuteOfNote_33 : decode cX5_nextMinuteOfNote 33 = .ok (.iload_n 2, 1) := by decide +kernel
theorem dX5_nextMinuteOfNote_34 : decode cX5_nextMinuteOfNote 34 = .ok (.invokestatic 211, 3) := by decide +kernel
theorem dX5_nextMinuteOfNote_37 : decode cX5_nextMinuteOfNote 37 = .ok (.istore_n 3, 1) := by decide +kernel
theorem dX5_nextMinuteOfNote_38 : decode cX5_nextMinuteOfNote 38 = .ok (.iconst 0, 1) := by decide +kernel
theorem dX5_nextMinuteOfNote_39 : decode cX5_nextMinuteOfNote 39 = .ok (.istore 4, 2) := by decide +kernel
theorem dX5_nextMinuteOfNote_41 : decode cX5_nextMinuteOfNote 41 = .ok (.iload 4, 2) := by decide +kernel
theorem dX5_nextMinuteOfNote_43 : decode cX5_nextMinuteOfNote 43 = .ok (.aload_n 0, 1) := by decide +kernel
theorem dX5_nextMinuteOfNote_44 : decode cX5_nextMinuteOfNote 44 = .ok (.getfield 19, 3) := by decide +kernel
theorem dX5_nextMinuteOfNote_47 : decode cX5_nextMinuteOfNote 47 = .ok (.invokevirtual 37, 3) := by decide +kernel
theorem dX5_nextMinuteOfNote_50 : decode cX5_nextMinuteOfNote 50 = .ok (.if_icmp .ge 64, 3) := by decide +kernel
theorem dX5_nextMinuteOfNote_53 : decode cX5_nextMinuteOfNote 53 = .ok (.aload_n 0, 1) := by decide +kernel
theorem dX5_nextMinuteOfNote_54 : decode cX5_nextMinuteOfNote 54 = .ok (.getfield 19, 3) := by decide +kernel
theorem dX5_nextMinuteOfNote_57 : decode cX5_nextMinuteOfNote 57 = .ok (.iload 4, 2) := by decide +kernel
theorem dX5_nextMinuteOfNote_59 : decode cX5_nextMinuteOfNote 59 = .ok (.invokevirtual 69, 3) := by decide +kernel
theorem dX5_nextMinuteOfNote_62 : decode cX5_nextMinuteOfNote 62 = .ok (.checkcast 87, 3) := by decide +kernel
theorem dX5_nextMinuteOfNote_65 : decode cX5_nextMinuteOfNote 65 = .ok (.astore 5, 2) := by decide +kernel
theorem dX5_nextMinuteOfNote_67 : decode cX5_nextMinuteOfNote 67 = .ok (.aload 5, 2) := by decide +kernel
theorem dX5_nextMinuteOfNote_69 : decode cX5_nextMinuteOfNote 69 = .ok (.getfield 89, 3) := by decide +kernel
theorem dX5_nextMinuteOfNote_72 : decode cX5_nextMinuteOfNote 72 = .ok (.ifCond .ne 11, 3) := by decide +kernel
theorem dX5_nextMinuteOfNote_75 : decode cX5_nextMinuteOfNote 75 = .ok (.aload 5, 2) := by decide +kernel
theorem dX5_nextMinuteOfNote_77 : decode cX5_nextMinuteOfNote 77 = .ok (.getfield 217, 3) := by decide +kernel
theorem dX5_nextMinuteOfNote_80 : decode cX5_nextMinuteOfNote 80 = .ok (.goto 8, 3) := by decide +kernel
theorem dX5_nextMinuteOfNote_83 : decode cX5_nextMinuteOfNote 83 = .ok (.aload 5, 2) := by decide +kernel
theorem dX5_nextMinuteOfNote_85 : decode cX5_nextMinuteOfNote 85 = .ok (.invokevirtual 220, 3) := by decide +kernel
theorem dX5_nextMinuteOfNote_88 : decode cX5_nextMinuteOfNote 88 = .ok (.istore 6, 2) := by decide +kernel
theorem dX5_nextMinuteOfNote_90 : decode cX5_nextMinuteOfNote 90 = .ok (.iload 6, 2) := by decide +kernel
theorem dX5_nextMinuteOfNote_92 : decode cX5_nextMinuteOfNote 92 = .ok (.aload_n 0, 1) := by decide +kernel
theorem dX5_nextMinuteOfNote_93 : decode cX5_nextMinuteOfNote 93 = .ok (.getfield 29, 3) := by decide +kernel
theorem dX5_nextMinuteOfNote_96 : decode cX5_nextMinuteOfNote 96 = .ok (.if_icmp .le 12, 3) := by decide +kernel
theorem dX5_nextMinuteOfNote_99 : decode cX5_nextMinuteOfNote 99 = .ok (.iload 6, 2) := by decide +kernel
theorem dX5_nextMinuteOfNote_101 : decode cX5_nextMinuteOfNote 101 = .ok (.iload_n 3, 1) := by decide +kernel
theorem dX5_nextMinuteOfNote_102 : decode cX5_nextMinuteOfNote 102 = .ok (.if_icmp .ge 6, 3) := by decide +kernel
theorem dX5_nextMinuteOfNote_105 : decode cX5_nextMinuteOfNote 105 = .ok (.iload 6, 2) := by decide +kernel
theorem dX5_nextMinuteOfNote_107 : decode cX5_nextMinuteOfNote 107 = .ok (.istore_n 3, 1) := by decide +kernel
theorem dX5_nextMinuteOfNote_108 : decode cX5_nextMinuteOfNote 108 = .ok (.iinc 4 1, 3) := by decide +kernel
theorem dX5_nextMinuteOfNote_111 : decode cX5_nextMinuteOfNote 111 = .ok (.goto (-70), 3) := by decide +kernel
theorem dX5_nextMinuteOfNote_114 : decode cX5_nextMinuteOfNote 114 = .ok (.iload_n 3, 1) := by decide +kernel
theorem dX5_nextMinuteOfNote_115 : decode cX5_nextMinuteOfNote 115 = .ok (.ireturn, 1) := by decide +kernel
set_option maxRecDepth 20000 in
theorem ggX5_letArrive_Jx4a65c_size_8abf5 : GoodIn wsX5_letArrive wsJx4a65c_size_8abf5 := goodIn_r _ [13, 14, 114, 115, 116] (by decide +kernel) (by decide +kernel)
set_option maxRecDepth 20000 in
theorem gX5_letArrive_Jx4a65c_size_8abf5 : GoodIn wsX5_letArrive (wsV RX5 37 RJx4a65c yJx4a65c_size_8abf5 wsJx4a65c_size_8abf5) := goodIn_app (goodIn_of _ (by decide +kernel)) ggX5_letArrive_Jx4a65c_size_8abf5
set_option maxRecDepth 20000 in
theorem ggX5_letArrive_Jx4a65c_get_915e3 : GoodIn wsX5_letArrive wsJx4a65c_get_915e3 := goodIn_r _ [18, 14, 19, 20, 21, 22, 23, 24, 25, 26, 27, 28, 29, 12, 30, 31, 114, 115, 116] (by decide +kernel) (by decide +kernel)
set_option maxRecDepth 20000 in
theorem gX5_letArrive_Jx4a65c_get_915e3 : GoodIn wsX5_letArrive (wsV RX5 69 RJx4a65c yJx4a65c_get_915e3 wsJx4a65c_get_915e3) := goodIn_app (goodIn_of _ (by decide +kernel)) ggX5_letArrive_Jx4a65c_get_915e3
set_option maxRecDepth 20000 in
theorem ggX5_letArrive_X3_arrival : GoodIn wsX5_letArrive wsX3_arrival := goodIn_r _ [36, 37, 38, 79, 80, 81, 82, 83, 84, 85, 86, 87, 88, 89, 90, 91, 92, 93, 94] (by decide +kernel) (by decide +kernel)
set_option maxRecDepth 20000 in
theorem gX5_letArrive_X3_arrival : GoodIn wsX5_letArrive (wsV RX5 220 RX3 yX3_arrival wsX3_arrival) := goodIn_app (goodIn_of _ (by decide +kernel)) ggX5_letArrive_X3_arrival
set_option maxRecDepth 20000 in
theorem ggX5_letArrive_X2_endGap : GoodIn wsX5_letArrive wsX2_endGap := goodIn_r _ [43, 44, 45, 46, 47, 48, 49, 50, 42, 51, 52, 53, 54, 55, 56, 57, 58, 59, 60, 61, 62, 63, 95, 96, 97, 98, 99, 100, 101, 102, 103, 104] (by decide +kernel) (by decide +kernel)
set_option maxRecDepth 20000 in
theorem gX5_letArrive_X2_endGap : GoodIn wsX5_letArrive (wsV RX5 227 RX2 yX2_endGap wsX2_endGap) := goodIn_app (goodIn_of _ (by decide +kernel)) ggX5_letArrive_X2_endGap
set_option maxRecDepth 20000 in
theorem ggX5_letArrive_X3_land : GoodIn wsX5_letArrive wsX3_land := goodIn_r _ [67, 68, 69, 70, 71, 10, 11, 12, 13, 14, 72, 16, 17, 18, 19, 20, 21, 22, 23, 24, 25, 26, 27, 28, 29, 30, 31, 79, 80, 81, 82, 83, 84, 85, 86, 87, 88, 89, 90, 91, 92, 93, 94, 117, 118, 119, 120, 121, 122, 123, 124, 125, 126, 127, 128, 114, 115, 116] (by decide +kernel) (by decide +kernel)
set_option maxRecDepth 20000 in
theorem gX5_letArrive_X3_land : GoodIn wsX5_letArrive (wsV RX5 231 RX3 yX3_land wsX3_land) := goodIn_app (goodIn_of _ (by decide +kernel)) ggX5_letArrive_X3_land
theorem dX5_letArrive_0 : decode cX5_letArrive 0 = .ok (.iconst 0, 1) := by decide +kernel
theorem dX5_letArrive_1 : decode cX5_letArrive 1 = .ok (.istore_n 1, 1) := by decide +kernel
theorem dX5_letArrive_2 : decode cX5_letArrive 2 = .ok (.iload_n 1, 1) := by decide +kernel
theorem dX5_letArrive_3 : decode cX5_letArrive 3 = .ok (.aload_n 0, 1) := by decide +kernel
theorem dX5_letArrive_4 : decode cX5_letArrive 4 = .ok (.getfield 19, 3) := by decide +kernel
theorem dX5_letArrive_7 : decode cX5_letArrive 7 = .ok (.invokevirtual 37, 3) := by decide +kernel
theorem dX5_letArrive_10 : decode cX5_letArrive 10 = .ok (.if_icmp .ge 74, 3) := by decide +kernel
theorem dX5_letArrive_13 : decode cX5_letArrive 13 = .ok (.aload_n 0, 1) := by decide +kernel
theorem dX5_letArrive_14 : decode cX5_letArrive 14 = .ok (.getfield 19, 3) := by decide +kernel
theorem dX5_letArrive_17 : decode cX5_letArrive 17 = .ok (.iload_n 1, 1) := by decide +kernel
theorem dX5_letArrive_18 : decode cX5_letArrive 18 = .ok (.invokevirtual 69, 3) := by decide +kernel
theorem dX5_letArrive_21 : decode cX5_letArrive 21 = .ok (.checkcast 87, 3) := by decide +kernel
theorem dX5_letArrive_24 : decode cX5_letArrive 24 = .ok (.astore_n 2, 1) := by decide +kernel
theorem dX5_letArrive_25 : decode cX5_letArrive 25 = .ok (.aload_n 2, 1) := by decide +kernel
theorem dX5_letArrive_26 : decode cX5_letArrive 26 = .ok (.getfield 89, 3) := by decide +kernel
theorem dX5_letArrive_29 : decode cX5_letArrive 29 = .ok (.iconst 1, 1) := by decide +kernel
theorem dX5_letArrive_30 : decode cX5_letArrive 30 = .ok (.if_icmp .ne 48, 3) := by decide +kernel
theorem dX5_letArrive_33 : decode cX5_letArrive 33 = .ok (.aload_n 2, 1) := by decide +kernel
theorem dX5_letArrive_34 : decode cX5_letArrive 34 = .ok (.invokevirtual 220, 3) := by decide +kernel
theorem dX5_letArrive_37 : decode cX5_letArrive 37 = .ok (.aload_n 0, 1) := by decide +kernel
theorem dX5_letArrive_38 : decode cX5_letArrive 38 = .ok (.getfield 29, 3) := by decide +kernel
theorem dX5_letArrive_41 : decode cX5_letArrive 41 = .ok (.if_icmp .ne 37, 3) := by decide +kernel
theorem dX5_letArrive_44 : decode cX5_letArrive 44 = .ok (.aload_n 2, 1) := by decide +kernel
theorem dX5_letArrive_45 : decode cX5_letArrive 45 = .ok (.iconst 2, 1) := by decide +kernel
theorem dX5_letArrive_46 : decode cX5_letArrive 46 = .ok (.putfield 89, 3) := by decide +kernel
theorem dX5_letArrive_49 : decode cX5_letArrive 49 = .ok (.aload_n 2, 1) := by decide +kernel
theorem dX5_letArrive_50 : decode cX5_letArrive 50 = .ok (.getfield 92, 3) := by decide +kernel
theorem dX5_letArrive_53 : decode cX5_letArrive 53 = .ok (.aload_n 2, 1) := by decide +kernel
theorem dX5_letArrive_54 : decode cX5_letArrive 54 = .ok (.getfield 223, 3) := by decide +kernel
theorem dX5_letArrive_57 : decode cX5_letArrive 57 = .ok (.getfield 54, 3) := by decide +kernel
theorem dX5_letArrive_60 : decode cX5_letArrive 60 = .ok (.putfield 65, 3) := by decide +kernel
theorem dX5_letArrive_63 : decode cX5_letArrive 63 = .ok (.aload_n 2, 1) := by decide +kernel
theorem dX5_letArrive_64 : decode cX5_letArrive 64 = .ok (.getfield 223, 3) := by decide +kernel
theorem dX5_letArrive_67 : decode cX5_letArrive 67 = .ok (.aload_n 0, 1) := by decide +kernel
theorem dX5_letArrive_68 : decode cX5_letArrive 68 = .ok (.getfield 29, 3) := by decide +kernel
theorem dX5_letArrive_71 : decode cX5_letArrive 71 = .ok (.invokevirtual 227, 3) := by decide +kernel
theorem dX5_letArrive_74 : decode cX5_letArrive 74 = .ok (.aload_n 2, 1) := by decide +kernel
theorem dX5_letArrive_75 : decode cX5_letArrive 75 = .ok (.invokevirtual 231, 3) := by decide +kernel
theorem dX5_letArrive_78 : decode cX5_letArrive 78 = .ok (.iinc 1 1, 3) := by decide +kernel
theorem dX5_letArrive_81 : decode cX5_letArrive 81 = .ok (.goto (-79), 3) := by decide +kernel
theorem dX5_letArrive_84 : decode cX5_letArrive 84 = .ok (.return_, 1) := by decide +kernel
set_option maxRecDepth 20000 in
theorem ggX5_decideTheDay_Jx4a65c_size_8abf5 : GoodIn wsX5_decideTheDay wsJx4a65c_size_8abf5 := goodIn_r _ [10, 11, 108, 109, 110] (by decide +kernel) (by decide +kernel)
set_option maxRecDepth 20000 in
theorem gX5_decideTheDay_Jx4a65c_size_8abf5 : GoodIn wsX5_decideTheDay (wsV RX5 37 RJx4a65c yJx4a65c_size_8abf5 wsJx4a65c_size_8abf5) := goodIn_app (goodIn_of _ (by decide +kernel)) ggX5_decideTheDay_Jx4a65c_size_8abf5
set_option maxRecDepth 20000 in
theorem ggX5_decideTheDay_Jx4a65c_get_915e3 : GoodIn wsX5_decideTheDay wsJx4a65c_get_915e3 := goodIn_r _ [15, 11, 16, 17, 18, 19, 20, 21, 22, 23, 24, 25, 26, 9, 27, 28, 108, 109, 110] (by decide +kernel) (by decide +kernel)
set_option maxRecDepth 20000 in
theorem gX5_decideTheDay_Jx4a65c_get_915e3 : GoodIn wsX5_decideTheDay (wsV RX5 69 RJx4a65c yJx4a65c_get_915e3 wsJx4a65c_get_915e3) := goodIn_app (goodIn_of _ (by decide +kernel)) ggX5_decideTheDay_Jx4a65c_get_915e3
set_option maxRecDepth 20000 in
theorem ggX5_decideTheDay_X5_reasonAtDecision : GoodIn wsX5_decideTheDay wsX5_reasonAtDecision := goodIn_r _ [33, 34, 35, 36, 37, 38, 39, 40, 41, 42, 43, 44, 32, 45, 46, 47, 48, 49, 50, 51, 52, 53, 92, 93, 94, 95, 96, 97, 98, 99, 100, 101, 102, 103, 104, 105, 106, 107, 111, 112, 113, 114, 115, 116, 117, 118, 119, 120, 121, 122, 123, 124, 125, 126, 127, 128, 129] (by decide +kernel) (by decide +kernel)
set_option maxRecDepth 20000 in
theorem gX5_decideTheDay_X5_reasonAtDecision : GoodIn wsX5_decideTheDay (wsV RX5 234 RX5 yX5_reasonAtDecision wsX5_reasonAtDecision) := goodIn_app (goodIn_of _ (by decide +kernel)) ggX5_decideTheDay_X5_reasonAtDecision
set_option maxRecDepth 20000 in
theorem ggX5_decideTheDay_X5_cancel : GoodIn wsX5_decideTheDay wsX5_cancel := goodIn_r _ [57, 3, 58, 46, 59, 60, 61, 62, 63, 64, 65, 66, 6, 7, 8, 9, 10, 11, 12, 13, 14, 15, 16, 17, 18, 19, 20, 21, 22, 23, 24, 25, 26, 27, 28, 67, 68, 69, 70, 71, 72, 73, 74, 75, 76, 32, 77, 78, 79, 80, 81, 82, 83, 84, 85, 1, 2, 49, 4, 92, 93, 94, 95, 96, 97, 98, 99, 100, 101, 102, 103, 104, 105, 106, 107, 86, 87, 88, 89, 90, 91, 120, 121, 122, 123, 124, 125, 126, 127, 128, 129, 108, 109, 110, 130, 131, 132, 133, 134, 135, 136, 137, 138, 139, 140, 141] (by decide +kernel) (by decide +kernel)
set_option maxRecDepth 20000 in
theorem gX5_decideTheDay_X5_cancel : GoodIn wsX5_decideTheDay (wsV RX5 238 RX5 yX5_cancel wsX5_cancel) := goodIn_app (goodIn_of _ (by decide +kernel)) ggX5_decideTheDay_X5_cancel
theorem dX5_decideTheDay_0 : decode cX5_decideTheDay 0 = .ok (.iconst 0, 1) := by decide +kernel
theorem dX5_decideTheDay_1 : decode cX5_decideTheDay 1 = .ok (.istore_n 1, 1) := by decide +kernel
theorem dX5_decideTheDay_2 : decode cX5_decideTheDay 2 = .ok (.iload_n 1, 1) := by decide +kernel
theorem dX5_decideTheDay_3 : decode cX5_decideTheDay 3 = .ok (.aload_n 0, 1) := by decide +kernel
theorem dX5_decideTheDay_4 : decode cX5_decideTheDay 4 = .ok (.getfield 19, 3) := by decide +kernel
theorem dX5_decideTheDay_7 : decode cX5_decideTheDay 7 = .ok (.invokevirtual 37, 3) := by decide +kernel
theorem dX5_decideTheDay_10 : decode cX5_decideTheDay 10 = .ok (.if_icmp .ge 63, 3) := by decide +kernel
theorem dX5_decideTheDay_13 : decode cX5_decideTheDay 13 = .ok (.aload_n 0, 1) := by decide +kernel
theorem dX5_decideTheDay_14 : decode cX5_decideTheDay 14 = .ok (.getfield 19, 3) := by decide +kernel
theorem dX5_decideTheDay_17 : decode cX5_decideTheDay 17 = .ok (.iload_n 1, 1) := by decide +kernel
theorem dX5_decideTheDay_18 : decode cX5_decideTheDay 18 = .ok (.invokevirtual 69, 3) := by decide +kernel
theorem dX5_decideTheDay_21 : decode cX5_decideTheDay 21 = .ok (.checkcast 87, 3) := by decide +kernel
theorem dX5_decideTheDay_24 : decode cX5_decideTheDay 24 = .ok (.astore_n 2, 1) := by decide +kernel
theorem dX5_decideTheDay_25 : decode cX5_decideTheDay 25 = .ok (.aload_n 2, 1) := by decide +kernel
theorem dX5_decideTheDay_26 : decode cX5_decideTheDay 26 = .ok (.getfield 89, 3) := by decide +kernel
theorem dX5_decideTheDay_29 : decode cX5_decideTheDay 29 = .ok (.ifCond .ne 38, 3) := by decide +kernel
theorem dX5_decideTheDay_32 : decode cX5_decideTheDay 32 = .ok (.aload_n 2, 1) := by decide +kernel
theorem dX5_decideTheDay_33 : decode cX5_decideTheDay 33 = .ok (.getfield 217, 3) := by decide +kernel
theorem dX5_decideTheDay_36 : decode cX5_decideTheDay 36 = .ok (.sipush 1440, 3) := by decide +kernel
theorem dX5_decideTheDay_39 : decode cX5_decideTheDay 39 = .ok (.idiv, 1) := by decide +kernel
theorem dX5_decideTheDay_40 : decode cX5_decideTheDay 40 = .ok (.aload_n 0, 1) := by decide +kernel
theorem dX5_decideTheDay_41 : decode cX5_decideTheDay 41 = .ok (.getfield 29, 3) := by decide +kernel
theorem dX5_decideTheDay_44 : decode cX5_decideTheDay 44 = .ok (.sipush 1440, 3) := by decide +kernel
theorem dX5_decideTheDay_47 : decode cX5_decideTheDay 47 = .ok (.idiv, 1) := by decide +kernel
theorem dX5_decideTheDay_48 : decode cX5_decideTheDay 48 = .ok (.if_icmp .ne 19, 3) := by decide +kernel
theorem dX5_decideTheDay_51 : decode cX5_decideTheDay 51 = .ok (.aload_n 0, 1) := by decide +kernel
theorem dX5_decideTheDay_52 : decode cX5_decideTheDay 52 = .ok (.aload_n 2, 1) := by decide +kernel
theorem dX5_decideTheDay_53 : decode cX5_decideTheDay 53 = .ok (.invokevirtual 234, 3) := by decide +kernel
theorem dX5_decideTheDay_56 : decode cX5_decideTheDay 56 = .ok (.istore_n 3, 1) := by decide +kernel
theorem dX5_decideTheDay_57 : decode cX5_decideTheDay 57 = .ok (.iload_n 3, 1) := by decide +kernel
theorem dX5_decideTheDay_58 : decode cX5_decideTheDay 58 = .ok (.ifCond .eq 9, 3) := by decide +kernel
theorem dX5_decideTheDay_61 : decode cX5_decideTheDay 61 = .ok (.aload_n 0, 1) := by decide +kernel
theorem dX5_decideTheDay_62 : decode cX5_decideTheDay 62 = .ok (.aload_n 2, 1) := by decide +kernel
theorem dX5_decideTheDay_63 : decode cX5_decideTheDay 63 = .ok (.iload_n 3, 1) := by decide +kernel
theorem dX5_decideTheDay_64 : decode cX5_decideTheDay 64 = .ok (.invokevirtual 238, 3) := by decide +kernel
theorem dX5_decideTheDay_67 : decode cX5_decideTheDay 67 = .ok (.iinc 1 1, 3) := by decide +kernel
theorem dX5_decideTheDay_70 : decode cX5_decideTheDay 70 = .ok (.goto (-68), 3) := by decide +kernel
theorem dX5_decideTheDay_73 : decode cX5_decideTheDay 73 = .ok (.return_, 1) := by decide +kernel
set_option maxRecDepth 20000 in
theorem ggX5_letDepart_Jx4a65c_size_8abf5 : GoodIn wsX5_letDepart wsJx4a65c_size_8abf5 := goodIn_r _ [10, 11, 256, 257, 258] (by decide +kernel) (by decide +kernel)
set_option maxRecDepth 20000 in
theorem gX5_letDepart_Jx4a65c_size_8abf5 : GoodIn wsX5_letDepart (wsV RX5 37 RJx4a65c yJx4a65c_size_8abf5 wsJx4a65c_size_8abf5) := goodIn_app (goodIn_of _ (by decide +kernel)) ggX5_letDepart_Jx4a65c_size_8abf5
set_option maxRecDepth 20000 in
theorem ggX5_letDepart_Jx4a65c_get_915e3 : GoodIn wsX5_letDepart wsJx4a65c_get_915e3 := goodIn_r _ [15, 11, 16, 17, 18, 19, 20, 21, 22, 23, 24, 25, 26, 9, 27, 28, 256, 257, 258] (by decide +kernel) (by decide +kernel)
set_option maxRecDepth 20000 in
theorem gX5_letDepart_Jx4a65c_get_915e3 : GoodIn wsX5_letDepart (wsV RX5 69 RJx4a65c yJx4a65c_get_915e3 wsJx4a65c_get_915e3) := goodIn_app (goodIn_of _ (by decide +kernel)) ggX5_letDepart_Jx4a65c_get_915e3
set_option maxRecDepth 20000 in
theorem ggX5_letDepart_X5_reasonAtDeparture : GoodIn wsX5_letDepart wsX5_reasonAtDeparture := goodIn_r _ [33, 34, 35, 36, 37, 38, 39, 40, 41, 42, 43, 44, 45, 46, 47, 48, 49, 50, 51, 32, 52, 1, 2, 3, 4, 6, 7, 8, 9, 10, 11, 12, 13, 14, 15, 16, 17, 18, 19, 20, 21, 22, 23, 24, 25, 26, 27, 28, 53, 54, 55, 56, 57, 58, 59, 60, 61, 62, 63, 64, 65, 66, 67, 68, 69, 70, 71, 72, 73, 74, 75, 76, 77, 240, 241, 242, 243, 244, 245, 246, 247, 248, 249, 250, 251, 252, 253, 254, 255, 259, 260, 261, 262, 263, 264, 265, 266, 267, 268, 269, 270, 271, 272, 273, 274, 275, 276, 277, 234, 235, 236, 237, 238, 239, 256, 257, 258] (by decide +kernel) (by decide +kernel)
set_option maxRecDepth 20000 in
theorem gX5_letDepart_X5_reasonAtDeparture : GoodIn wsX5_letDepart (wsV RX5 154 RX5 yX5_reasonAtDeparture wsX5_reasonAtDeparture) := goodIn_app (goodIn_of _ (by decide +kernel)) ggX5_letDepart_X5_reasonAtDeparture
set_option maxRecDepth 20000 in
theorem ggX5_letDepart_X5_sail : GoodIn wsX5_letDepart wsX5_sail := goodIn_r _ [81, 3, 34, 37, 82, 83, 6, 7, 8, 9, 10, 11, 84, 85, 86, 32, 87, 88, 12, 13, 14, 15, 16, 17, 18, 19, 20, 21, 22, 23, 24, 25, 26, 27, 28, 89, 90, 91, 92, 93, 94, 95, 96, 97, 98, 99, 100, 101, 102, 103, 104, 105, 106, 107, 108, 109, 110, 111, 112, 113, 114, 115, 116, 117, 118, 119, 120, 121, 122, 123, 124, 125, 126, 127, 128, 65, 66, 67, 129, 130, 131, 132, 133, 134, 135, 136, 137, 138, 139, 140, 141, 142, 143, 144, 145, 146, 147, 148, 149, 150, 151, 152, 153, 154, 155, 156, 157, 158, 159, 160, 161, 162, 163, 164, 165, 166, 167, 168, 169, 170, 171, 172, 173, 174, 175, 176, 177, 178, 179, 180, 181, 182, 183, 184, 185, 186, 187, 188, 189, 190, 191, 192, 193, 194, 195, 196, 197, 198, 199, 200, 201, 202, 203, 204, 205, 206, 207, 208, 209, 210, 211, 212, 213, 214, 215, 216, 217, 218, 219, 220, 221, 222, 223, 1, 2, 38, 40, 4, 240, 241, 242, 243, 244, 245, 246, 247, 248, 249, 250, 251, 252, 253, 254, 255, 259, 260, 261, 262, 263, 264, 265, 266, 267, 234, 235, 236, 237, 238, 239, 256, 257, 258, 278, 279, 280, 281, 282, 283, 284, 285, 286, 287, 288, 289, 290, 291, 292] (by decide +kernel) (by decide +kernel)
set_option maxRecDepth 20000 in
theorem gX5_letDepart_X5_sail : GoodIn wsX5_letDepart (wsV RX5 242 RX5 yX5_sail wsX5_sail) := goodIn_app (goodIn_of _ (by decide +kernel)) ggX5_letDepart_X5_sail
set_option maxRecDepth 20000 in
theorem ggX5_letDepart_X5_cancel : GoodIn wsX5_letDepart wsX5_cancel := goodIn_r _ [227, 3, 228, 40, 82, 88, 229, 230, 231, 56, 232, 233, 6, 7, 8, 9, 10, 11, 12, 13, 14, 15, 16, 17, 18, 19, 20, 21, 22, 23, 24, 25, 26, 27, 28, 89, 90, 91, 92, 93, 94, 95, 212, 213, 214, 32, 215, 216, 217, 218, 219, 220, 221, 222, 223, 1, 2, 38, 4, 240, 241, 242, 243, 244, 245, 246, 247, 248, 249, 250, 251, 252, 253, 254, 255, 234, 235, 236, 237, 238, 239, 268, 269, 270, 271, 272, 273, 274, 275, 276, 277, 256, 257, 258, 278, 279, 280, 281, 282, 283, 284, 285, 286, 287, 288, 289] (by decide +kernel) (by decide +kernel)
set_option maxRecDepth 20000 in
theorem gX5_letDepart_X5_cancel : GoodIn wsX5_letDepart (wsV RX5 238 RX5 yX5_cancel wsX5_cancel) := goodIn_app (goodIn_of _ (by decide +kernel)) ggX5_letDepart_X5_cancel
theorem dX5_letDepart_0 : decode cX5_letDepart 0 = .ok (.iconst 0, 1) := by decide +kernel
theorem dX5_letDepart_1 : decode cX5_letDepart 1 = .ok (.istore_n 1, 1) := by decide +kernel
theorem dX5_letDepart_2 : decode cX5_letDepart 2 = .ok (.iload_n 1, 1) := by decide +kernel
theorem dX5_letDepart_3 : decode cX5_letDepart 3 = .ok (.aload_n 0, 1) := by decide +kernel
theorem dX5_letDepart_4 : decode cX5_letDepart 4 = .ok (.getfield 19, 3) := by decide +kernel
theorem dX5_letDepart_7 : decode cX5_letDepart 7 = .ok (.invokevirtual 37, 3) := by decide +kernel
theorem dX5_letDepart_10 : decode cX5_letDepart 10 = .ok (.if_icmp .ge 67, 3) := by decide +kernel
theorem dX5_letDepart_13 : decode cX5_letDepart 13 = .ok (.aload_n 0, 1) := by decide +kernel
theorem dX5_letDepart_14 : decode cX5_letDepart 14 = .ok (.getfield 19, 3) := by decide +kernel
theorem dX5_letDepart_17 : decode cX5_letDepart 17 = .ok (.iload_n 1, 1) := by decide +kernel
theorem dX5_letDepart_18 : decode cX5_letDepart 18 = .ok (.invokevirtual 69, 3) := by decide +kernel
theorem dX5_letDepart_21 : decode cX5_letDepart 21 = .ok (.checkcast 87, 3) := by decide +kernel
theorem dX5_letDepart_24 : decode cX5_letDepart 24 = .ok (.astore_n 2, 1) := by decide +kernel
theorem dX5_letDepart_25 : decode cX5_letDepart 25 = .ok (.aload_n 2, 1) := by decide +kernel
theorem dX5_letDepart_26 : decode cX5_letDepart 26 = .ok (.getfield 89, 3) := by decide +kernel
theorem dX5_letDepart_29 : decode cX5_letDepart 29 = .ok (.ifCond .ne 42, 3) := by decide +kernel
theorem dX5_letDepart_32 : decode cX5_letDepart 32 = .ok (.aload_n 2, 1) := by decide +kernel
theorem dX5_letDepart_33 : decode cX5_letDepart 33 = .ok (.getfield 217, 3) := by decide +kernel
theorem dX5_letDepart_36 : decode cX5_letDepart 36 = .ok (.aload_n 0, 1) := by decide +kernel
theorem dX5_letDepart_37 : decode cX5_letDepart 37 = .ok (.getfield 29, 3) := by decide +kernel
theorem dX5_letDepart_40 : decode cX5_letDepart 40 = .ok (.if_icmp .ne 31, 3) := by decide +kernel
theorem dX5_letDepart_43 : decode cX5_letDepart 43 = .ok (.aload_n 0, 1) := by decide +kernel
theorem dX5_letDepart_44 : decode cX5_letDepart 44 = .ok (.aload_n 2, 1) := by decide +kernel
theorem dX5_letDepart_45 : decode cX5_letDepart 45 = .ok (.aload_n 0, 1) := by decide +kernel
theorem dX5_letDepart_46 : decode cX5_letDepart 46 = .ok (.getfield 29, 3) := by decide +kernel
theorem dX5_letDepart_49 : decode cX5_letDepart 49 = .ok (.invokevirtual 154, 3) := by decide +kernel
theorem dX5_letDepart_52 : decode cX5_letDepart 52 = .ok (.istore_n 3, 1) := by decide +kernel
theorem dX5_letDepart_53 : decode cX5_letDepart 53 = .ok (.iload_n 3, 1) := by decide +kernel
theorem dX5_letDepart_54 : decode cX5_letDepart 54 = .ok (.ifCond .ne 11, 3) := by decide +kernel
theorem dX5_letDepart_57 : decode cX5_letDepart 57 = .ok (.aload_n 0, 1) := by decide +kernel
theorem dX5_letDepart_58 : decode cX5_letDepart 58 = .ok (.aload_n 2, 1) := by decide +kernel
theorem dX5_letDepart_59 : decode cX5_letDepart 59 = .ok (.invokevirtual 242, 3) := by decide +kernel
theorem dX5_letDepart_62 : decode cX5_letDepart 62 = .ok (.goto 9, 3) := by decide +kernel
theorem dX5_letDepart_65 : decode cX5_letDepart 65 = .ok (.aload_n 0, 1) := by decide +kernel
theorem dX5_letDepart_66 : decode cX5_letDepart 66 = .ok (.aload_n 2, 1) := by decide +kernel
theorem dX5_letDepart_67 : decode cX5_letDepart 67 = .ok (.iload_n 3, 1) := by decide +kernel
theorem dX5_letDepart_68 : decode cX5_letDepart 68 = .ok (.invokevirtual 238, 3) := by decide +kernel
theorem dX5_letDepart_71 : decode cX5_letDepart 71 = .ok (.iinc 1 1, 3) := by decide +kernel
theorem dX5_letDepart_74 : decode cX5_letDepart 74 = .ok (.goto (-72), 3) := by decide +kernel
theorem dX5_letDepart_77 : decode cX5_letDepart 77 = .ok (.return_, 1) := by decide +kernel
set_option maxRecDepth 20000 in
theorem ggX5_cancel_X2_tellCancelled : GoodIn wsX5_cancel wsX2_tellCancelled := goodIn_r _ [10, 11, 81, 82, 83, 84, 85, 86, 87, 88, 89, 90] (by decide +kernel) (by decide +kernel)
set_option maxRecDepth 20000 in
theorem gX5_cancel_X2_tellCancelled : GoodIn wsX5_cancel (wsV RX5 245 RX2 yX2_tellCancelled wsX2_tellCancelled) := goodIn_app (goodIn_of _ (by decide +kernel)) ggX5_cancel_X2_tellCancelled
set_option maxRecDepth 20000 in
theorem ggX5_cancel_Jx4a65c_size_8abf5 : GoodIn wsX5_cancel wsJx4a65c_size_8abf5 := goodIn_r _ [16, 17, 91, 92, 93] (by decide +kernel) (by decide +kernel)
set_option maxRecDepth 20000 in
theorem gX5_cancel_Jx4a65c_size_8abf5 : GoodIn wsX5_cancel (wsV RX5 37 RJx4a65c yJx4a65c_size_8abf5 wsJx4a65c_size_8abf5) := goodIn_app (goodIn_of _ (by decide +kernel)) ggX5_cancel_Jx4a65c_size_8abf5
set_option maxRecDepth 20000 in
theorem ggX5_cancel_Jx4a65c_get_915e3 : GoodIn wsX5_cancel wsJx4a65c_get_915e3 := goodIn_r _ [21, 17, 22, 23, 24, 25, 26, 27, 28, 29, 30, 31, 32, 15, 33, 34, 91, 92, 93] (by decide +kernel) (by decide +kernel)
set_option maxRecDepth 20000 in
theorem gX5_cancel_Jx4a65c_get_915e3 : GoodIn wsX5_cancel (wsV RX5 69 RJx4a65c yJx4a65c_get_915e3 wsJx4a65c_get_915e3) := goodIn_app (goodIn_of _ (by decide +kernel)) ggX5_cancel_Jx4a65c_get_915e3
set_option maxRecDepth 20000 in
theorem ggX5_cancel_X1_waitsFor : GoodIn wsX5_cancel wsX1_waitsFor := goodIn_r _ [39, 40, 41, 94, 95, 96, 97, 98, 99, 100, 101, 102, 103, 104, 105] (by decide +kernel) (by decide +kernel)
set_option maxRecDepth 20000 in
theorem gX5_cancel_X1_waitsFor : GoodIn wsX5_cancel (wsV RX5 248 RX1 yX1_waitsFor wsX1_waitsFor) := goodIn_app (goodIn_of _ (by decide +kernel)) ggX5_cancel_X1_waitsFor
set_option maxRecDepth 20000 in
theorem ggX5_cancel_X5_leaveBehind : GoodIn wsX5_cancel wsX5_leaveBehind := goodIn_r _ [46, 47, 48, 49, 50, 51, 52, 53, 45, 54, 55, 56, 1, 57, 3, 58, 12, 13, 14, 15, 16, 17, 18, 19, 20, 21, 22, 23, 24, 25, 26, 27, 28, 29, 30, 31, 32, 33, 34, 94, 95, 96, 97, 98, 99, 100, 101, 102, 103, 104, 105, 75, 76, 77, 78, 79, 80, 59, 60, 61, 62, 63, 64, 65, 66, 67, 68, 69, 70, 71, 72, 73, 74, 91, 92, 93] (by decide +kernel) (by decide +kernel)
set_option maxRecDepth 20000 in
theorem gX5_cancel_X5_leaveBehind : GoodIn wsX5_cancel (wsV RX5 252 RX5 yX5_leaveBehind wsX5_leaveBehind) := goodIn_app (goodIn_of _ (by decide +kernel)) ggX5_cancel_X5_leaveBehind
theorem dX5_cancel_0 : decode cX5_cancel 0 = .ok (.aload_n 1, 1) := by decide +kernel
theorem dX5_cancel_1 : decode cX5_cancel 1 = .ok (.iconst 3, 1) := by decide +kernel
theorem dX5_cancel_2 : decode cX5_cancel 2 = .ok (.putfield 89, 3) := by decide +kernel
theorem dX5_cancel_5 : decode cX5_cancel 5 = .ok (.aload_n 1, 1) := by decide +kernel
theorem dX5_cancel_6 : decode cX5_cancel 6 = .ok (.iload_n 2, 1) := by decide +kernel
theorem dX5_cancel_7 : decode cX5_cancel 7 = .ok (.putfield 133, 3) := by decide +kernel
theorem dX5_cancel_10 : decode cX5_cancel 10 = .ok (.aload_n 1, 1) := by decide +kernel
theorem dX5_cancel_11 : decode cX5_cancel 11 = .ok (.getfield 223, 3) := by decide +kernel
theorem dX5_cancel_14 : decode cX5_cancel 14 = .ok (.iload_n 2, 1) := by decide +kernel
theorem dX5_cancel_15 : decode cX5_cancel 15 = .ok (.invokevirtual 245, 3) := by decide +kernel
theorem dX5_cancel_18 : decode cX5_cancel 18 = .ok (.iconst 0, 1) := by decide +kernel
theorem dX5_cancel_19 : decode cX5_cancel 19 = .ok (.istore_n 3, 1) := by decide +kernel
theorem dX5_cancel_20 : decode cX5_cancel 20 = .ok (.iload_n 3, 1) := by decide +kernel
theorem dX5_cancel_21 : decode cX5_cancel 21 = .ok (.aload_n 0, 1) := by decide +kernel
theorem dX5_cancel_22 : decode cX5_cancel 22 = .ok (.getfield 22, 3) := by decide +kernel
theorem dX5_cancel_25 : decode cX5_cancel 25 = .ok (.invokevirtual 37, 3) := by decide +kernel
theorem dX5_cancel_28 : decode cX5_cancel 28 = .ok (.if_icmp .ge 38, 3) := by decide +kernel
theorem dX5_cancel_31 : decode cX5_cancel 31 = .ok (.aload_n 0, 1) := by decide +kernel
theorem dX5_cancel_32 : decode cX5_cancel 32 = .ok (.getfield 22, 3) := by decide +kernel
theorem dX5_cancel_35 : decode cX5_cancel 35 = .ok (.iload_n 3, 1) := by decide +kernel
theorem dX5_cancel_36 : decode cX5_cancel 36 = .ok (.invokevirtual 69, 3) := by decide +kernel
theorem dX5_cancel_39 : decode cX5_cancel 39 = .ok (.checkcast 106, 3) := by decide +kernel
theorem dX5_cancel_42 : decode cX5_cancel 42 = .ok (.astore 4, 2) := by decide +kernel
theorem dX5_cancel_44 : decode cX5_cancel 44 = .ok (.aload 4, 2) := by decide +kernel
theorem dX5_cancel_46 : decode cX5_cancel 46 = .ok (.aload_n 1, 1) := by decide +kernel
theorem dX5_cancel_47 : decode cX5_cancel 47 = .ok (.invokevirtual 248, 3) := by decide +kernel
theorem dX5_cancel_50 : decode cX5_cancel 50 = .ok (.ifCond .eq 10, 3) := by decide +kernel
theorem dX5_cancel_53 : decode cX5_cancel 53 = .ok (.aload_n 0, 1) := by decide +kernel
theorem dX5_cancel_54 : decode cX5_cancel 54 = .ok (.aload 4, 2) := by decide +kernel
theorem dX5_cancel_56 : decode cX5_cancel 56 = .ok (.iconst 5, 1) := by decide +kernel
theorem dX5_cancel_57 : decode cX5_cancel 57 = .ok (.invokevirtual 252, 3) := by decide +kernel
theorem dX5_cancel_60 : decode cX5_cancel 60 = .ok (.iinc 3 1, 3) := by decide +kernel
theorem dX5_cancel_63 : decode cX5_cancel 63 = .ok (.goto (-43), 3) := by decide +kernel
theorem dX5_cancel_66 : decode cX5_cancel 66 = .ok (.return_, 1) := by decide +kernel
set_option maxRecDepth 20000 in
theorem ggX5_sail_Jx4a65c_size_8abf5 : GoodIn wsX5_sail wsJx4a65c_size_8abf5 := goodIn_r _ [10, 11, 209, 210, 211] (by decide +kernel) (by decide +kernel)
set_option maxRecDepth 20000 in
theorem gX5_sail_Jx4a65c_size_8abf5 : GoodIn wsX5_sail (wsV RX5 37 RJx4a65c yJx4a65c_size_8abf5 wsJx4a65c_size_8abf5) := goodIn_app (goodIn_of _ (by decide +kernel)) ggX5_sail_Jx4a65c_size_8abf5
set_option maxRecDepth 20000 in
theorem ggX5_sail_X5_firstInLine : GoodIn wsX5_sail wsX5_firstInLine := goodIn_r _ [16, 4, 17, 6, 7, 8, 9, 10, 11, 18, 19, 20, 21, 22, 23, 24, 25, 26, 27, 28, 29, 30, 31, 32, 33, 34, 35, 36, 37, 38, 39, 40, 41, 42, 43, 44, 45, 46, 47, 48, 49, 203, 204, 205, 206, 207, 208, 209, 210, 211, 212, 213, 214, 215, 216, 217, 218, 219, 220, 221, 222, 223] (by decide +kernel) (by decide +kernel)
set_option maxRecDepth 20000 in
theorem gX5_sail_X5_firstInLine : GoodIn wsX5_sail (wsV RX5 256 RX5 yX5_firstInLine wsX5_firstInLine) := goodIn_app (goodIn_of _ (by decide +kernel)) ggX5_sail_X5_firstInLine
set_option maxRecDepth 20000 in
theorem ggX5_sail_X3_refusal : GoodIn wsX5_sail wsX3_refusal := goodIn_r _ [54, 55, 56, 57, 58, 59, 60, 61, 62, 63, 64, 65, 53, 66, 67, 68, 69, 70, 71, 72, 73, 74, 75, 76, 77, 78, 79, 80, 81, 82, 212, 213, 214, 215, 216, 217, 218, 219, 220, 221, 222, 223, 178, 179, 180, 181, 182, 183, 184, 185, 186, 187, 188, 189, 190, 191, 192, 193, 224, 225, 226, 194, 195, 196, 197, 198, 199, 200, 201, 202] (by decide +kernel) (by decide +kernel)
set_option maxRecDepth 20000 in
theorem gX5_sail_X3_refusal : GoodIn wsX5_sail (wsV RX5 260 RX3 yX3_refusal wsX3_refusal) := goodIn_app (goodIn_of _ (by decide +kernel)) ggX5_sail_X3_refusal
set_option maxRecDepth 20000 in
theorem ggX5_sail_X3_takeAboard : GoodIn wsX5_sail wsX3_takeAboard := goodIn_r _ [86, 59, 58, 57, 60, 67, 68, 55, 56, 87, 88, 89, 90, 70, 71, 72, 53, 73, 74, 75, 76, 77, 61, 78, 79, 80, 81, 82, 63, 64, 65, 66, 69, 91, 92, 93, 9, 94, 95, 96, 34, 11, 97, 98, 99, 100, 101, 102, 103, 104, 105, 106, 107, 108, 109, 110, 111, 112, 113, 114, 115, 116, 117, 118, 119, 120, 121, 122, 123, 124, 125, 126, 127, 128, 129, 130, 131, 132, 133, 134, 135, 136, 137, 138, 139, 140, 141, 142, 143, 144, 145, 146, 147, 148, 149, 150, 151, 152, 153, 154, 155, 156, 157, 158, 159, 160, 7, 8, 10, 178, 179, 180, 181, 182, 183, 184, 185, 186, 187, 188, 189, 190, 191, 192, 193, 224, 225, 226, 212, 213, 214, 215, 216, 217, 218, 219, 220, 221, 222, 223, 194, 195, 196, 197, 198, 199, 200, 201, 202, 209, 210, 211] (by decide +kernel) (by decide +kernel)
set_option maxRecDepth 20000 in
theorem gX5_sail_X3_takeAboard : GoodIn wsX5_sail (wsV RX5 263 RX3 yX3_takeAboard wsX3_takeAboard) := goodIn_app (goodIn_of _ (by decide +kernel)) ggX5_sail_X3_takeAboard
set_option maxRecDepth 20000 in
theorem ggX5_sail_X5_leaveBehind : GoodIn wsX5_sail wsX5_leaveBehind := goodIn_r _ [164, 165, 166, 167, 168, 169, 170, 171, 15, 172, 173, 174, 1, 175, 176, 177, 6, 7, 8, 9, 10, 11, 18, 19, 20, 21, 22, 23, 24, 25, 26, 27, 28, 29, 30, 31, 32, 33, 34, 212, 213, 214, 215, 216, 217, 218, 219, 220, 221, 222, 223, 203, 204, 205, 206, 207, 208, 178, 179, 180, 181, 182, 183, 184, 185, 186, 187, 188, 189, 190, 191, 192, 193, 209, 210, 211] (by decide +kernel) (by decide +kernel)
set_option maxRecDepth 20000 in
theorem gX5_sail_X5_leaveBehind : GoodIn wsX5_sail (wsV RX5 252 RX5 yX5_leaveBehind wsX5_leaveBehind) := goodIn_app (goodIn_of _ (by decide +kernel)) ggX5_sail_X5_leaveBehind
theorem dX5_sail_0 : decode cX5_sail 0 = .ok (.aload_n 1, 1) := by decide +kernel
theorem dX5_sail_1 : decode cX5_sail 1 = .ok (.iconst 1, 1) := by decide +kernel
theorem dX5_sail_2 : decode cX5_sail 2 = .ok (.putfield 89, 3) := by decide +kernel
theorem dX5_sail_5 : decode cX5_sail 5 = .ok (.aload_n 1, 1) := by decide +kernel
theorem dX5_sail_6 : decode cX5_sail 6 = .ok (.getfield 92, 3) := by decide +kernel
theorem dX5_sail_9 : decode cX5_sail 9 = .ok (.iconst (-1), 1) := by decide +kernel
theorem dX5_sail_10 : decode cX5_sail 10 = .ok (.putfield 65, 3) := by decide +kernel
theorem dX5_sail_13 : decode cX5_sail 13 = .ok (.iconst 0, 1) := by decide +kernel
theorem dX5_sail_14 : decode cX5_sail 14 = .ok (.istore_n 2, 1) := by decide +kernel
theorem dX5_sail_15 : decode cX5_sail 15 = .ok (.iload_n 2, 1) := by decide +kernel
theorem dX5_sail_16 : decode cX5_sail 16 = .ok (.aload_n 0, 1) := by decide +kernel
theorem dX5_sail_17 : decode cX5_sail 17 = .ok (.getfield 22, 3) := by decide +kernel
theorem dX5_sail_20 : decode cX5_sail 20 = .ok (.invokevirtual 37, 3) := by decide +kernel
theorem dX5_sail_23 : decode cX5_sail 23 = .ok (.if_icmp .ge 57, 3) := by decide +kernel
theorem dX5_sail_26 : decode cX5_sail 26 = .ok (.aload_n 0, 1) := by decide +kernel
theorem dX5_sail_27 : decode cX5_sail 27 = .ok (.aload_n 1, 1) := by decide +kernel
theorem dX5_sail_28 : decode cX5_sail 28 = .ok (.invokevirtual 256, 3) := by decide +kernel
theorem dX5_sail_31 : decode cX5_sail 31 = .ok (.astore_n 3, 1) := by decide +kernel
theorem dX5_sail_32 : decode cX5_sail 32 = .ok (.aload_n 3, 1) := by decide +kernel
theorem dX5_sail_33 : decode cX5_sail 33 = .ok (.ifnonnull 4, 3) := by decide +kernel
theorem dX5_sail_36 : decode cX5_sail 36 = .ok (.return_, 1) := by decide +kernel
theorem dX5_sail_37 : decode cX5_sail 37 = .ok (.aload_n 1, 1) := by decide +kernel
theorem dX5_sail_38 : decode cX5_sail 38 = .ok (.aload_n 3, 1) := by decide +kernel
theorem dX5_sail_39 : decode cX5_sail 39 = .ok (.invokevirtual 260, 3) := by decide +kernel
theorem dX5_sail_42 : decode cX5_sail 42 = .ok (.istore 4, 2) := by decide +kernel
theorem dX5_sail_44 : decode cX5_sail 44 = .ok (.iload 4, 2) := by decide +kernel
theorem dX5_sail_46 : decode cX5_sail 46 = .ok (.ifCond .ne 11, 3) := by decide +kernel
theorem dX5_sail_49 : decode cX5_sail 49 = .ok (.aload_n 1, 1) := by decide +kernel
theorem dX5_sail_50 : decode cX5_sail 50 = .ok (.aload_n 3, 1) := by decide +kernel
theorem dX5_sail_51 : decode cX5_sail 51 = .ok (.invokevirtual 263, 3) := by decide +kernel
theorem dX5_sail_54 : decode cX5_sail 54 = .ok (.goto 20, 3) := by decide +kernel
theorem dX5_sail_57 : decode cX5_sail 57 = .ok (.aload_n 1, 1) := by decide +kernel
theorem dX5_sail_58 : decode cX5_sail 58 = .ok (.dup, 1) := by decide +kernel
theorem dX5_sail_59 : decode cX5_sail 59 = .ok (.getfield 151, 3) := by decide +kernel
theorem dX5_sail_62 : decode cX5_sail 62 = .ok (.iconst 1, 1) := by decide +kernel
theorem dX5_sail_63 : decode cX5_sail 63 = .ok (.iadd, 1) := by decide +kernel
theorem dX5_sail_64 : decode cX5_sail 64 = .ok (.putfield 151, 3) := by decide +kernel
theorem dX5_sail_67 : decode cX5_sail 67 = .ok (.aload_n 0, 1) := by decide +kernel
theorem dX5_sail_68 : decode cX5_sail 68 = .ok (.aload_n 3, 1) := by decide +kernel
theorem dX5_sail_69 : decode cX5_sail 69 = .ok (.iload 4, 2) := by decide +kernel
theorem dX5_sail_71 : decode cX5_sail 71 = .ok (.invokevirtual 252, 3) := by decide +kernel
theorem dX5_sail_74 : decode cX5_sail 74 = .ok (.iinc 2 1, 3) := by decide +kernel
theorem dX5_sail_77 : decode cX5_sail 77 = .ok (.goto (-62), 3) := by decide +kernel
theorem dX5_sail_80 : decode cX5_sail 80 = .ok (.return_, 1) := by decide +kernel
set_option maxRecDepth 20000 in
theorem ggX5_firstInLine_Jx4a65c_size_8abf5 : GoodIn wsX5_firstInLine wsJx4a65c_size_8abf5 := goodIn_r _ [7, 8, 47, 48, 49] (by decide +kernel) (by decide +kernel)
set_option maxRecDepth 20000 in
theorem gX5_firstInLine_Jx4a65c_size_8abf5 : GoodIn wsX5_firstInLine (wsV RX5 37 RJx4a65c yJx4a65c_size_8abf5 wsJx4a65c_size_8abf5) := goodIn_app (goodIn_of _ (by decide +kernel)) ggX5_firstInLine_Jx4a65c_size_8abf5
set_option maxRecDepth 20000 in
theorem ggX5_firstInLine_Jx4a65c_get_915e3 : GoodIn wsX5_firstInLine wsJx4a65c_get_915e3 := goodIn_r _ [12, 8, 13, 14, 15, 16, 17, 18, 19, 20, 21, 22, 23, 6, 24, 25, 47, 48, 49] (by decide +kernel) (by decide +kernel)
set_option maxRecDepth 20000 in
theorem gX5_firstInLine_Jx4a65c_get_915e3 : GoodIn wsX5_firstInLine (wsV RX5 69 RJx4a65c yJx4a65c_get_915e3 wsJx4a65c_get_915e3) := goodIn_app (goodIn_of _ (by decide +kernel)) ggX5_firstInLine_Jx4a65c_get_915e3
set_option maxRecDepth 20000 in
theorem ggX5_firstInLine_X1_waitsFor : GoodIn wsX5_firstInLine wsX1_waitsFor := goodIn_r _ [30, 31, 32, 50, 51, 52, 53, 54, 55, 56, 57, 58, 59, 60, 61] (by decide +kernel) (by decide +kernel)
set_option maxRecDepth 20000 in
theorem gX5_firstInLine_X1_waitsFor : GoodIn wsX5_firstInLine (wsV RX5 248 RX1 yX1_waitsFor wsX1_waitsFor) := goodIn_app (goodIn_of _ (by decide +kernel)) ggX5_firstInLine_X1_waitsFor
set_option maxRecDepth 20000 in
theorem ggX5_firstInLine_X1_isAheadOf : GoodIn wsX5_firstInLine wsX1_isAheadOf := goodIn_r _ [36, 37, 38, 39, 40, 50, 51, 52, 53, 54, 55, 56, 57, 58, 59, 60, 61] (by decide +kernel) (by decide +kernel)
set_option maxRecDepth 20000 in
theorem gX5_firstInLine_X1_isAheadOf : GoodIn wsX5_firstInLine (wsV RX5 267 RX1 yX1_isAheadOf wsX1_isAheadOf) := goodIn_app (goodIn_of _ (by decide +kernel)) ggX5_firstInLine_X1_isAheadOf
theorem dX5_firstInLine_0 : decode cX5_firstInLine 0 = .ok (.aconst_null, 1) := by decide +kernel
theorem dX5_firstInLine_1 : decode cX5_firstInLine 1 = .ok (.astore_n 2, 1) := by decide +kernel
theorem dX5_firstInLine_2 : decode cX5_firstInLine 2 = .ok (.iconst 0, 1) := by decide +kernel
theorem dX5_firstInLine_3 : decode cX5_firstInLine 3 = .ok (.istore_n 3, 1) := by decide +kernel
theorem dX5_firstInLine_4 : decode cX5_firstInLine 4 = .ok (.iload_n 3, 1) := by decide +kernel
theorem dX5_firstInLine_5 : decode cX5_firstInLine 5 = .ok (.aload_n 0, 1) := by decide +kernel
theorem dX5_firstInLine_6 : decode cX5_firstInLine 6 = .ok (.getfield 22, 3) := by decide +kernel
theorem dX5_firstInLine_9 : decode cX5_firstInLine 9 = .ok (.invokevirtual 37, 3) := by decide +kernel
theorem dX5_firstInLine_12 : decode cX5_firstInLine 12 = .ok (.if_icmp .ge 47, 3) := by decide +kernel
theorem dX5_firstInLine_15 : decode cX5_firstInLine 15 = .ok (.aload_n 0, 1) := by decide +kernel
theorem dX5_firstInLine_16 : decode cX5_firstInLine 16 = .ok (.getfield 22, 3) := by decide +kernel
theorem dX5_firstInLine_19 : decode cX5_firstInLine 19 = .ok (.iload_n 3, 1) := by decide +kernel
theorem dX5_firstInLine_20 : decode cX5_firstInLine 20 = .ok (.invokevirtual 69, 3) := by decide +kernel
theorem dX5_firstInLine_23 : decode cX5_firstInLine 23 = .ok (.checkcast 106, 3) := by decide +kernel
theorem dX5_firstInLine_26 : decode cX5_firstInLine 26 = .ok (.astore 4, 2) := by decide +kernel
theorem dX5_firstInLine_28 : decode cX5_firstInLine 28 = .ok (.aload 4, 2) := by decide +kernel
theorem dX5_firstInLine_30 : decode cX5_firstInLine 30 = .ok (.aload_n 1, 1) := by decide +kernel
theorem dX5_firstInLine_31 : decode cX5_firstInLine 31 = .ok (.invokevirtual 248, 3) := by decide +kernel
theorem dX5_firstInLine_34 : decode cX5_firstInLine 34 = .ok (.ifCond .eq 19, 3) := by decide +kernel
theorem dX5_firstInLine_37 : decode cX5_firstInLine 37 = .ok (.aload_n 2, 1) := by decide +kernel
theorem dX5_firstInLine_38 : decode cX5_firstInLine 38 = .ok (.ifnull 12, 3) := by decide +kernel
theorem dX5_firstInLine_41 : decode cX5_firstInLine 41 = .ok (.aload 4, 2) := by decide +kernel
theorem dX5_firstInLine_43 : decode cX5_firstInLine 43 = .ok (.aload_n 2, 1) := by decide +kernel
theorem dX5_firstInLine_44 : decode cX5_firstInLine 44 = .ok (.invokevirtual 267, 3) := by decide +kernel
theorem dX5_firstInLine_47 : decode cX5_firstInLine 47 = .ok (.ifCond .eq 6, 3) := by decide +kernel
theorem dX5_firstInLine_50 : decode cX5_firstInLine 50 = .ok (.aload 4, 2) := by decide +kernel
theorem dX5_firstInLine_52 : decode cX5_firstInLine 52 = .ok (.astore_n 2, 1) := by decide +kernel
theorem dX5_firstInLine_53 : decode cX5_firstInLine 53 = .ok (.iinc 3 1, 3) := by decide +kernel
theorem dX5_firstInLine_56 : decode cX5_firstInLine 56 = .ok (.goto (-52), 3) := by decide +kernel
theorem dX5_firstInLine_59 : decode cX5_firstInLine 59 = .ok (.aload_n 2, 1) := by decide +kernel
theorem dX5_firstInLine_60 : decode cX5_firstInLine 60 = .ok (.areturn, 1) := by decide +kernel
set_option maxRecDepth 20000 in
theorem ggX5_leaveBehind_X5_nextSailingLike : GoodIn wsX5_leaveBehind wsX5_nextSailingLike := goodIn_r _ [9, 10, 11, 12, 13, 14, 15, 16, 17, 18, 19, 20, 21, 22, 23, 24, 25, 26, 27, 28, 29, 30, 31, 32, 33, 34, 35, 36, 37, 38, 51, 52, 53, 54, 55, 56, 57, 58, 59, 60, 61, 62, 63, 64, 65, 66, 67, 68, 69, 70, 71, 72, 73, 74, 75] (by decide +kernel) (by decide +kernel)
set_option maxRecDepth 20000 in
theorem gX5_leaveBehind_X5_nextSailingLike : GoodIn wsX5_leaveBehind (wsV RX5 271 RX5 yX5_nextSailingLike wsX5_nextSailingLike) := goodIn_app (goodIn_of _ (by decide +kernel)) ggX5_leaveBehind_X5_nextSailingLike
theorem dX5_leaveBehind_0 : decode cX5_leaveBehind 0 = .ok (.aload_n 1, 1) := by decide +kernel
theorem dX5_leaveBehind_1 : decode cX5_leaveBehind 1 = .ok (.iload_n 2, 1) := by decide +kernel
theorem dX5_leaveBehind_2 : decode cX5_leaveBehind 2 = .ok (.putfield 163, 3) := by decide +kernel
theorem dX5_leaveBehind_5 : decode cX5_leaveBehind 5 = .ok (.aload_n 1, 1) := by decide +kernel
theorem dX5_leaveBehind_6 : decode cX5_leaveBehind 6 = .ok (.dup, 1) := by decide +kernel
theorem dX5_leaveBehind_7 : decode cX5_leaveBehind 7 = .ok (.getfield 164, 3) := by decide +kernel
theorem dX5_leaveBehind_10 : decode cX5_leaveBehind 10 = .ok (.iconst 1, 1) := by decide +kernel
theorem dX5_leaveBehind_11 : decode cX5_leaveBehind 11 = .ok (.iadd, 1) := by decide +kernel
theorem dX5_leaveBehind_12 : decode cX5_leaveBehind 12 = .ok (.putfield 164, 3) := by decide +kernel
theorem dX5_leaveBehind_15 : decode cX5_leaveBehind 15 = .ok (.aload_n 0, 1) := by decide +kernel
theorem dX5_leaveBehind_16 : decode cX5_leaveBehind 16 = .ok (.aload_n 1, 1) := by decide +kernel
theorem dX5_leaveBehind_17 : decode cX5_leaveBehind 17 = .ok (.getfield 159, 3) := by decide +kernel
theorem dX5_leaveBehind_20 : decode cX5_leaveBehind 20 = .ok (.invokevirtual 271, 3) := by decide +kernel
theorem dX5_leaveBehind_23 : decode cX5_leaveBehind 23 = .ok (.astore_n 3, 1) := by decide +kernel
theorem dX5_leaveBehind_24 : decode cX5_leaveBehind 24 = .ok (.aload_n 3, 1) := by decide +kernel
theorem dX5_leaveBehind_25 : decode cX5_leaveBehind 25 = .ok (.ifnonnull 11, 3) := by decide +kernel
theorem dX5_leaveBehind_28 : decode cX5_leaveBehind 28 = .ok (.aload_n 1, 1) := by decide +kernel
theorem dX5_leaveBehind_29 : decode cX5_leaveBehind 29 = .ok (.iconst 3, 1) := by decide +kernel
theorem dX5_leaveBehind_30 : decode cX5_leaveBehind 30 = .ok (.putfield 158, 3) := by decide +kernel
theorem dX5_leaveBehind_33 : decode cX5_leaveBehind 33 = .ok (.goto 8, 3) := by decide +kernel
theorem dX5_leaveBehind_36 : decode cX5_leaveBehind 36 = .ok (.aload_n 1, 1) := by decide +kernel
theorem dX5_leaveBehind_37 : decode cX5_leaveBehind 37 = .ok (.aload_n 3, 1) := by decide +kernel
theorem dX5_leaveBehind_38 : decode cX5_leaveBehind 38 = .ok (.putfield 159, 3) := by decide +kernel
theorem dX5_leaveBehind_41 : decode cX5_leaveBehind 41 = .ok (.return_, 1) := by decide +kernel
set_option maxRecDepth 20000 in
theorem ggX5_nextSailingLike_Jx4a65c_size_8abf5 : GoodIn wsX5_nextSailingLike wsJx4a65c_size_8abf5 := goodIn_r _ [11, 12, 52, 53, 54] (by decide +kernel) (by decide +kernel)
set_option maxRecDepth 20000 in
theorem gX5_nextSailingLike_Jx4a65c_size_8abf5 : GoodIn wsX5_nextSailingLike (wsV RX5 37 RJx4a65c yJx4a65c_size_8abf5 wsJx4a65c_size_8abf5) := goodIn_app (goodIn_of _ (by decide +kernel)) ggX5_nextSailingLike_Jx4a65c_size_8abf5
set_option maxRecDepth 20000 in
theorem ggX5_nextSailingLike_Jx4a65c_get_915e3 : GoodIn wsX5_nextSailingLike wsJx4a65c_get_915e3 := goodIn_r _ [16, 12, 17, 18, 19, 20, 21, 22, 23, 24, 25, 26, 27, 10, 28, 29, 52, 53, 54] (by decide +kernel) (by decide +kernel)
set_option maxRecDepth 20000 in
theorem gX5_nextSailingLike_Jx4a65c_get_915e3 : GoodIn wsX5_nextSailingLike (wsV RX5 69 RJx4a65c yJx4a65c_get_915e3 wsJx4a65c_get_915e3) := goodIn_app (goodIn_of _ (by decide +kernel)) ggX5_nextSailingLike_Jx4a65c_get_915e3
theorem dX5_nextSailingLike_0 : decode cX5_nextSailingLike 0 = .ok (.aconst_null, 1) := by decide +kernel
theorem dX5_nextSailingLike_1 : decode cX5_nextSailingLike 1 = .ok (.astore_n 2, 1) := by decide +kernel
theorem dX5_nextSailingLike_2 : decode cX5_nextSailingLike 2 = .ok (.iconst 0, 1) := by decide +kernel
theorem dX5_nextSailingLike_3 : decode cX5_nextSailingLike 3 = .ok (.istore_n 3, 1) := by decide +kernel
theorem dX5_nextSailingLike_4 : decode cX5_nextSailingLike 4 = .ok (.iload_n 3, 1) := by decide +kernel
theorem dX5_nextSailingLike_5 : decode cX5_nextSailingLike 5 = .ok (.aload_n 0, 1) := by decide +kernel
theorem dX5_nextSailingLike_6 : decode cX5_nextSailingLike 6 = .ok (.getfield 19, 3) := by decide +kernel
theorem dX5_nextSailingLike_9 : decode cX5_nextSailingLike 9 = .ok (.invokevirtual 37, 3) := by decide +kernel
theorem dX5_nextSailingLike_12 : decode cX5_nextSailingLike 12 = .ok (.if_icmp .ge 73, 3) := by decide +kernel
theorem dX5_nextSailingLike_15 : decode cX5_nextSailingLike 15 = .ok (.aload_n 0, 1) := by decide +kernel
theorem dX5_nextSailingLike_16 : decode cX5_nextSailingLike 16 = .ok (.getfield 19, 3) := by decide +kernel
theorem dX5_nextSailingLike_19 : decode cX5_nextSailingLike 19 = .ok (.iload_n 3, 1) := by decide +kernel
theorem dX5_nextSailingLike_20 : decode cX5_nextSailingLike 20 = .ok (.invokevirtual 69, 3) := by decide +kernel
theorem dX5_nextSailingLike_23 : decode cX5_nextSailingLike 23 = .ok (.checkcast 87, 3) := by decide +kernel
theorem dX5_nextSailingLike_26 : decode cX5_nextSailingLike 26 = .ok (.astore 4, 2) := by decide +kernel
theorem dX5_nextSailingLike_28 : decode cX5_nextSailingLike 28 = .ok (.aload 4, 2) := by decide +kernel
theorem dX5_nextSailingLike_30 : decode cX5_nextSailingLike 30 = .ok (.getfield 89, 3) := by decide +kernel
theorem dX5_nextSailingLike_33 : decode cX5_nextSailingLike 33 = .ok (.ifCond .ne 46, 3) := by decide +kernel
theorem dX5_nextSailingLike_36 : decode cX5_nextSailingLike 36 = .ok (.aload 4, 2) := by decide +kernel
theorem dX5_nextSailingLike_38 : decode cX5_nextSailingLike 38 = .ok (.getfield 275, 3) := by decide +kernel
theorem dX5_nextSailingLike_41 : decode cX5_nextSailingLike 41 = .ok (.aload_n 1, 1) := by decide +kernel
theorem dX5_nextSailingLike_42 : decode cX5_nextSailingLike 42 = .ok (.getfield 275, 3) := by decide +kernel
theorem dX5_nextSailingLike_45 : decode cX5_nextSailingLike 45 = .ok (.if_acmp .ne 34, 3) := by decide +kernel
theorem dX5_nextSailingLike_48 : decode cX5_nextSailingLike 48 = .ok (.aload 4, 2) := by decide +kernel
theorem dX5_nextSailingLike_50 : decode cX5_nextSailingLike 50 = .ok (.getfield 223, 3) := by decide +kernel
theorem dX5_nextSailingLike_53 : decode cX5_nextSailingLike 53 = .ok (.aload_n 1, 1) := by decide +kernel
theorem dX5_nextSailingLike_54 : decode cX5_nextSailingLike 54 = .ok (.getfield 223, 3) := by decide +kernel
theorem dX5_nextSailingLike_57 : decode cX5_nextSailingLike 57 = .ok (.if_acmp .ne 22, 3) := by decide +kernel
theorem dX5_nextSailingLike_60 : decode cX5_nextSailingLike 60 = .ok (.aload_n 2, 1) := by decide +kernel
theorem dX5_nextSailingLike_61 : decode cX5_nextSailingLike 61 = .ok (.ifnull 15, 3) := by decide +kernel
theorem dX5_nextSailingLike_64 : decode cX5_nextSailingLike 64 = .ok (.aload 4, 2) := by decide +kernel
theorem dX5_nextSailingLike_66 : decode cX5_nextSailingLike 66 = .ok (.getfield 217, 3) := by decide +kernel
theorem dX5_nextSailingLike_69 : decode cX5_nextSailingLike 69 = .ok (.aload_n 2, 1) := by decide +kernel
theorem dX5_nextSailingLike_70 : decode cX5_nextSailingLike 70 = .ok (.getfield 217, 3) := by decide +kernel
theorem dX5_nextSailingLike_73 : decode cX5_nextSailingLike 73 = .ok (.if_icmp .ge 6, 3) := by decide +kernel
theorem dX5_nextSailingLike_76 : decode cX5_nextSailingLike 76 = .ok (.aload 4, 2) := by decide +kernel
theorem dX5_nextSailingLike_78 : decode cX5_nextSailingLike 78 = .ok (.astore_n 2, 1) := by decide +kernel
theorem dX5_nextSailingLike_79 : decode cX5_nextSailingLike 79 = .ok (.iinc 3 1, 3) := by decide +kernel
theorem dX5_nextSailingLike_82 : decode cX5_nextSailingLike 82 = .ok (.goto (-78), 3) := by decide +kernel
theorem dX5_nextSailingLike_85 : decode cX5_nextSailingLike 85 = .ok (.aload_n 2, 1) := by decide +kernel
theorem dX5_nextSailingLike_86 : decode cX5_nextSailingLike 86 = .ok (.areturn, 1) := by decide +kernel
set_option maxRecDepth 20000 in
theorem ggX5_reasonAtDecision_X3_arrival : GoodIn wsX5_reasonAtDecision wsX3_arrival := goodIn_r _ [7, 8, 9, 22, 23, 24, 25, 26, 27, 28, 29, 30, 31, 32, 33, 34, 35, 36, 37] (by decide +kernel) (by decide +kernel)
set_option maxRecDepth 20000 in
theorem gX5_reasonAtDecision_X3_arrival : GoodIn wsX5_reasonAtDecision (wsV RX5 220 RX3 yX3_arrival wsX3_arrival) := goodIn_app (goodIn_of _ (by decide +kernel)) ggX5_reasonAtDecision_X3_arrival
set_option maxRecDepth 20000 in
theorem ggX5_reasonAtDecision_X5_reasonOfNightOrSwell : GoodIn wsX5_reasonAtDecision wsX5_reasonOfNightOrSwell := goodIn_r _ [13, 14, 15, 1, 16, 17, 18, 19, 20, 12, 21, 22, 23, 24, 25, 26, 27, 28, 29, 30, 31, 32, 33, 34, 35, 36, 37, 47, 48, 49, 50, 51, 52, 53, 54, 55, 56, 38, 39, 40, 41, 42, 43, 44, 45, 46] (by decide +kernel) (by decide +kernel)
set_option maxRecDepth 20000 in
theorem gX5_reasonAtDecision_X5_reasonOfNightOrSwell : GoodIn wsX5_reasonAtDecision (va_wsS RX5 278 yX5_reasonOfNightOrSwell wsX5_reasonOfNightOrSwell) := goodIn_app (goodIn_of _ (by decide +kernel)) ggX5_reasonAtDecision_X5_reasonOfNightOrSwell
theorem dX5_reasonAtDecision_0 : decode cX5_reasonAtDecision 0 = .ok (.aload_n 1, 1) := by decide +kernel
theorem dX5_reasonAtDecision_1 : decode cX5_reasonAtDecision 1 = .ok (.getfield 92, 3) := by decide +kernel
theorem dX5_reasonAtDecision_4 : decode cX5_reasonAtDecision 4 = .ok (.getfield 76, 3) := by decide +kernel
theorem dX5_reasonAtDecision_7 : decode cX5_reasonAtDecision 7 = .ok (.ifCond .eq 5, 3) := by decide +kernel
theorem dX5_reasonAtDecision_10 : decode cX5_reasonAtDecision 10 = .ok (.iconst 1, 1) := by decide +kernel
theorem dX5_reasonAtDecision_11 : decode cX5_reasonAtDecision 11 = .ok (.ireturn, 1) := by decide +kernel
theorem dX5_reasonAtDecision_12 : decode cX5_reasonAtDecision 12 = .ok (.aload_n 1, 1) := by decide +kernel
theorem dX5_reasonAtDecision_13 : decode cX5_reasonAtDecision 13 = .ok (.aload_n 1, 1) := by decide +kernel
theorem dX5_reasonAtDecision_14 : decode cX5_reasonAtDecision 14 = .ok (.invokevirtual 220, 3) := by decide +kernel
theorem dX5_reasonAtDecision_17 : decode cX5_reasonAtDecision 17 = .ok (.invokestatic 278, 3) := by decide +kernel
theorem dX5_reasonAtDecision_20 : decode cX5_reasonAtDecision 20 = .ok (.ireturn, 1) := by decide +kernel
set_option maxRecDepth 20000 in
theorem ggX5_reasonAtDeparture_X0_fits : GoodIn wsX5_reasonAtDeparture wsX0_fits := goodIn_r _ [13, 14, 15, 89, 90, 91, 92, 93, 94, 95, 96, 97, 98, 99, 100, 101, 102, 103, 104, 105, 106, 107] (by decide +kernel) (by decide +kernel)
set_option maxRecDepth 20000 in
theorem gX5_reasonAtDeparture_X0_fits : GoodIn wsX5_reasonAtDeparture (wsV RX5 284 RX0 yX0_fits wsX0_fits) := goodIn_app (goodIn_of _ (by decide +kernel)) ggX5_reasonAtDeparture_X0_fits
set_option maxRecDepth 20000 in
theorem ggX5_reasonAtDeparture_X5_crewMinutes : GoodIn wsX5_reasonAtDeparture wsX5_crewMinutes := goodIn_r _ [20, 21, 22, 23, 1, 24, 2, 25, 26, 27, 28, 29, 30, 31, 32, 33, 34, 35, 36, 37, 38, 39, 40, 41, 42, 43, 44, 45, 46, 47, 108, 109, 110, 111, 112, 113, 73, 74, 75, 76, 77, 78, 79, 80, 81, 82, 83, 84, 85, 86, 87, 88, 114, 115, 116] (by decide +kernel) (by decide +kernel)
set_option maxRecDepth 20000 in
theorem gX5_reasonAtDeparture_X5_crewMinutes : GoodIn wsX5_reasonAtDeparture (wsV RX5 129 RX5 yX5_crewMinutes wsX5_crewMinutes) := goodIn_app (goodIn_of _ (by decide +kernel)) ggX5_reasonAtDeparture_X5_crewMinutes
set_option maxRecDepth 20000 in
theorem ggX5_reasonAtDeparture_X2_waterAt : GoodIn wsX5_reasonAtDeparture wsX2_waterAt := goodIn_r _ [52, 53, 54, 55, 56, 51, 57, 58, 59, 60, 61, 62, 63, 98, 99, 100, 101, 102, 103, 104, 105, 106, 107] (by decide +kernel) (by decide +kernel)
set_option maxRecDepth 20000 in
theorem gX5_reasonAtDeparture_X2_waterAt : GoodIn wsX5_reasonAtDeparture (wsV RX5 288 RX2 yX2_waterAt wsX2_waterAt) := goodIn_app (goodIn_of _ (by decide +kernel)) ggX5_reasonAtDeparture_X2_waterAt
set_option maxRecDepth 20000 in
theorem ggX5_reasonAtDeparture_X5_reasonOfNightOrSwell : GoodIn wsX5_reasonAtDeparture wsX5_reasonOfNightOrSwell := goodIn_r _ [66, 7, 67, 1, 68, 5, 69, 70, 71, 19, 72, 73, 74, 75, 76, 77, 78, 79, 80, 81, 82, 83, 84, 85, 86, 87, 88, 98, 99, 100, 101, 102, 103, 104, 105, 106, 107, 89, 90, 91, 92, 93, 94, 95, 96, 97] (by decide +kernel) (by decide +kernel)
set_option maxRecDepth 20000 in
theorem gX5_reasonAtDeparture_X5_reasonOfNightOrSwell : GoodIn wsX5_reasonAtDeparture (va_wsS RX5 278 yX5_reasonOfNightOrSwell wsX5_reasonOfNightOrSwell) := goodIn_app (goodIn_of _ (by decide +kernel)) ggX5_reasonAtDeparture_X5_reasonOfNightOrSwell
theorem dX5_reasonAtDeparture_0 : decode cX5_reasonAtDeparture 0 = .ok (.aload_n 1, 1) := by decide +kernel
theorem dX5_reasonAtDeparture_1 : decode cX5_reasonAtDeparture 1 = .ok (.getfield 92, 3) := by decide +kernel
theorem dX5_reasonAtDeparture_4 : decode cX5_reasonAtDeparture 4 = .ok (.astore_n 3, 1) := by decide +kernel
theorem dX5_reasonAtDeparture_5 : decode cX5_reasonAtDeparture 5 = .ok (.iload_n 2, 1) := by decide +kernel
theorem dX5_reasonAtDeparture_6 : decode cX5_reasonAtDeparture 6 = .ok (.aload_n 1, 1) := by decide +kernel
theorem dX5_reasonAtDeparture_7 : decode cX5_reasonAtDeparture 7 = .ok (.getfield 281, 3) := by decide +kernel
theorem dX5_reasonAtDeparture_10 : decode cX5_reasonAtDeparture 10 = .ok (.iadd, 1) := by decide +kernel
theorem dX5_reasonAtDeparture_11 : decode cX5_reasonAtDeparture 11 = .ok (.istore 4, 2) := by decide +kernel
theorem dX5_reasonAtDeparture_13 : decode cX5_reasonAtDeparture 13 = .ok (.aload_n 3, 1) := by decide +kernel
theorem dX5_reasonAtDeparture_14 : decode cX5_reasonAtDeparture 14 = .ok (.getfield 76, 3) := by decide +kernel
theorem dX5_reasonAtDeparture_17 : decode cX5_reasonAtDeparture 17 = .ok (.ifCond .ne 39, 3) := by decide +kernel
theorem dX5_reasonAtDeparture_20 : decode cX5_reasonAtDeparture 20 = .ok (.aload_n 3, 1) := by decide +kernel
theorem dX5_reasonAtDeparture_21 : decode cX5_reasonAtDeparture 21 = .ok (.getfield 65, 3) := by decide +kernel
theorem dX5_reasonAtDeparture_24 : decode cX5_reasonAtDeparture 24 = .ok (.aload_n 1, 1) := by decide +kernel
theorem dX5_reasonAtDeparture_25 : decode cX5_reasonAtDeparture 25 = .ok (.getfield 275, 3) := by decide +kernel
theorem dX5_reasonAtDeparture_28 : decode cX5_reasonAtDeparture 28 = .ok (.getfield 54, 3) := by decide +kernel
theorem dX5_reasonAtDeparture_31 : decode cX5_reasonAtDeparture 31 = .ok (.if_icmp .ne 25, 3) := by decide +kernel
theorem dX5_reasonAtDeparture_34 : decode cX5_reasonAtDeparture 34 = .ok (.aload_n 3, 1) := by decide +kernel
theorem dX5_reasonAtDeparture_35 : decode cX5_reasonAtDeparture 35 = .ok (.aload_n 1, 1) := by decide +kernel
theorem dX5_reasonAtDeparture_36 : decode cX5_reasonAtDeparture 36 = .ok (.getfield 275, 3) := by decide +kernel
theorem dX5_reasonAtDeparture_39 : decode cX5_reasonAtDeparture 39 = .ok (.invokevirtual 284, 3) := by decide +kernel
theorem dX5_reasonAtDeparture_42 : decode cX5_reasonAtDeparture 42 = .ok (.ifCond .eq 14, 3) := by decide +kernel
theorem dX5_reasonAtDeparture_45 : decode cX5_reasonAtDeparture 45 = .ok (.aload_n 3, 1) := by decide +kernel
theorem dX5_reasonAtDeparture_46 : decode cX5_reasonAtDeparture 46 = .ok (.aload_n 1, 1) := by decide +kernel
theorem dX5_reasonAtDeparture_47 : decode cX5_reasonAtDeparture 47 = .ok (.getfield 223, 3) := by decide +kernel
theorem dX5_reasonAtDeparture_50 : decode cX5_reasonAtDeparture 50 = .ok (.invokevirtual 284, 3) := by decide +kernel
theorem dX5_reasonAtDeparture_53 : decode cX5_reasonAtDeparture 53 = .ok (.ifCond .ne 5, 3) := by decide +kernel
theorem dX5_reasonAtDeparture_56 : decode cX5_reasonAtDeparture 56 = .ok (.iconst 1, 1) := by decide +kernel
theorem dX5_reasonAtDeparture_57 : decode cX5_reasonAtDeparture 57 = .ok (.ireturn, 1) := by decide +kernel
theorem dX5_reasonAtDeparture_58 : decode cX5_reasonAtDeparture 58 = .ok (.aload_n 0, 1) := by decide +kernel
theorem dX5_reasonAtDeparture_59 : decode cX5_reasonAtDeparture 59 = .ok (.aload_n 3, 1) := by decide +kernel
theorem dX5_reasonAtDeparture_60 : decode cX5_reasonAtDeparture 60 = .ok (.iload_n 2, 1) := by decide +kernel
theorem dX5_reasonAtDeparture_61 : decode cX5_reasonAtDeparture 61 = .ok (.sipush 1440, 3) := by decide +kernel
theorem dX5_reasonAtDeparture_64 : decode cX5_reasonAtDeparture 64 = .ok (.idiv, 1) := by decide +kernel
theorem dX5_reasonAtDeparture_65 : decode cX5_reasonAtDeparture 65 = .ok (.invokevirtual 129, 3) := by decide +kernel
theorem dX5_reasonAtDeparture_68 : decode cX5_reasonAtDeparture 68 = .ok (.aload_n 1, 1) := by decide +kernel
theorem dX5_reasonAtDeparture_69 : decode cX5_reasonAtDeparture 69 = .ok (.getfield 281, 3) := by decide +kernel
theorem dX5_reasonAtDeparture_72 : decode cX5_reasonAtDeparture 72 = .ok (.iadd, 1) := by decide +kernel
theorem dX5_reasonAtDeparture_73 : decode cX5_reasonAtDeparture 73 = .ok (.sipush 720, 3) := by decide +kernel
theorem dX5_reasonAtDeparture_76 : decode cX5_reasonAtDeparture 76 = .ok (.if_icmp .le 5, 3) := by decide +kernel
theorem dX5_reasonAtDeparture_79 : decode cX5_reasonAtDeparture 79 = .ok (.iconst 2, 1) := by decide +kernel
theorem dX5_reasonAtDeparture_80 : decode cX5_reasonAtDeparture 80 = .ok (.ireturn, 1) := by decide +kernel
theorem dX5_reasonAtDeparture_81 : decode cX5_reasonAtDeparture 81 = .ok (.aload_n 1, 1) := by decide +kernel
theorem dX5_reasonAtDeparture_82 : decode cX5_reasonAtDeparture 82 = .ok (.getfield 275, 3) := by decide +kernel
theorem dX5_reasonAtDeparture_85 : decode cX5_reasonAtDeparture 85 = .ok (.iload_n 2, 1) := by decide +kernel
theorem dX5_reasonAtDeparture_86 : decode cX5_reasonAtDeparture 86 = .ok (.invokevirtual 288, 3) := by decide +kernel
theorem dX5_reasonAtDeparture_89 : decode cX5_reasonAtDeparture 89 = .ok (.aload_n 3, 1) := by decide +kernel
theorem dX5_reasonAtDeparture_90 : decode cX5_reasonAtDeparture 90 = .ok (.getfield 291, 3) := by decide +kernel
theorem dX5_reasonAtDeparture_93 : decode cX5_reasonAtDeparture 93 = .ok (.if_icmp .lt 19, 3) := by decide +kernel
theorem dX5_reasonAtDeparture_96 : decode cX5_reasonAtDeparture 96 = .ok (.aload_n 1, 1) := by decide +kernel
theorem dX5_reasonAtDeparture_97 : decode cX5_reasonAtDeparture 97 = .ok (.getfield 223, 3) := by decide +kernel
theorem dX5_reasonAtDeparture_100 : decode cX5_reasonAtDeparture 100 = .ok (.iload 4, 2) := by decide +kernel
theorem dX5_reasonAtDeparture_102 : decode cX5_reasonAtDeparture 102 = .ok (.invokevirtual 288, 3) := by decide +kernel
theorem dX5_reasonAtDeparture_105 : decode cX5_reasonAtDeparture 105 = .ok (.aload_n 3, 1) := by decide +kernel
theorem dX5_reasonAtDeparture_106 : decode cX5_reasonAtDeparture 106 = .ok (.getfield 291, 3) := by decide +kernel
theorem dX5_reasonAtDeparture_109 : decode cX5_reasonAtDeparture 109 = .ok (.if_icmp .ge 5, 3) := by decide +kernel
theorem dX5_reasonAtDeparture_112 : decode cX5_reasonAtDeparture 112 = .ok (.iconst 3, 1) := by decide +kernel
theorem dX5_reasonAtDeparture_113 : decode cX5_reasonAtDeparture 113 = .ok (.ireturn, 1) := by decide +kernel
theorem dX5_reasonAtDeparture_114 : decode cX5_reasonAtDeparture 114 = .ok (.aload_n 1, 1) := by decide +kernel
theorem dX5_reasonAtDeparture_115 : decode cX5_reasonAtDeparture 115 = .ok (.iload 4, 2) := by decide +kernel
theorem dX5_reasonAtDeparture_117 : decode cX5_reasonAtDeparture 117 = .ok (.invokestatic 278, 3) := by decide +kernel
theorem dX5_reasonAtDeparture_120 : decode cX5_reasonAtDeparture 120 = .ok (.ireturn, 1) := by decide +kernel
set_option maxRecDepth 20000 in
theorem ggX5_reasonOfNightOrSwell_X5_isNight : GoodIn wsX5_reasonOfNightOrSwell wsX5_isNight := goodIn_r _ [10] (by decide +kernel) (by decide +kernel)
set_option maxRecDepth 20000 in
theorem gX5_reasonOfNightOrSwell_X5_isNight : GoodIn wsX5_reasonOfNightOrSwell (va_wsS RX5 297 yX5_isNight wsX5_isNight) := goodIn_app (goodIn_of _ (by decide +kernel)) ggX5_reasonOfNightOrSwell_X5_isNight
theorem dX5_reasonOfNightOrSwell_0 : decode cX5_reasonOfNightOrSwell 0 = .ok (.aload_n 0, 1) := by decide +kernel
theorem dX5_reasonOfNightOrSwell_1 : decode cX5_reasonOfNightOrSwell 1 = .ok (.getfield 223, 3) := by decide +kernel
theorem dX5_reasonOfNightOrSwell_4 : decode cX5_reasonOfNightOrSwell 4 = .ok (.getfield 294, 3) := by decide +kernel
theorem dX5_reasonOfNightOrSwell_7 : decode cX5_reasonOfNightOrSwell 7 = .ok (.ifCond .ne 12, 3) := by decide +kernel
theorem dX5_reasonOfNightOrSwell_10 : decode cX5_reasonOfNightOrSwell 10 = .ok (.iload_n 1, 1) := by decide +kernel
theorem dX5_reasonOfNightOrSwell_11 : decode cX5_reasonOfNightOrSwell 11 = .ok (.invokestatic 297, 3) := by decide +kernel
theorem dX5_reasonOfNightOrSwell_14 : decode cX5_reasonOfNightOrSwell 14 = .ok (.ifCond .eq 5, 3) := by decide +kernel
theorem dX5_reasonOfNightOrSwell_17 : decode cX5_reasonOfNightOrSwell 17 = .ok (.iconst 4, 1) := by decide +kernel
theorem dX5_reasonOfNightOrSwell_18 : decode cX5_reasonOfNightOrSwell 18 = .ok (.ireturn, 1) := by decide +kernel
theorem dX5_reasonOfNightOrSwell_19 : decode cX5_reasonOfNightOrSwell 19 = .ok (.aload_n 0, 1) := by decide +kernel
theorem dX5_reasonOfNightOrSwell_20 : decode cX5_reasonOfNightOrSwell 20 = .ok (.getfield 92, 3) := by decide +kernel
theorem dX5_reasonOfNightOrSwell_23 : decode cX5_reasonOfNightOrSwell 23 = .ok (.getfield 301, 3) := by decide +kernel
theorem dX5_reasonOfNightOrSwell_26 : decode cX5_reasonOfNightOrSwell 26 = .ok (.istore_n 2, 1) := by decide +kernel
theorem dX5_reasonOfNightOrSwell_27 : decode cX5_reasonOfNightOrSwell 27 = .ok (.aload_n 0, 1) := by decide +kernel
theorem dX5_reasonOfNightOrSwell_28 : decode cX5_reasonOfNightOrSwell 28 = .ok (.getfield 275, 3) := by decide +kernel
theorem dX5_reasonOfNightOrSwell_31 : decode cX5_reasonOfNightOrSwell 31 = .ok (.getfield 73, 3) := by decide +kernel
theorem dX5_reasonOfNightOrSwell_34 : decode cX5_reasonOfNightOrSwell 34 = .ok (.iload_n 2, 1) := by decide +kernel
theorem dX5_reasonOfNightOrSwell_35 : decode cX5_reasonOfNightOrSwell 35 = .ok (.if_icmp .gt 14, 3) := by decide +kernel
theorem dX5_reasonOfNightOrSwell_38 : decode cX5_reasonOfNightOrSwell 38 = .ok (.aload_n 0, 1) := by decide +kernel
theorem dX5_reasonOfNightOrSwell_39 : decode cX5_reasonOfNightOrSwell 39 = .ok (.getfield 223, 3) := by decide +kernel
theorem dX5_reasonOfNightOrSwell_42 : decode cX5_reasonOfNightOrSwell 42 = .ok (.getfield 73, 3) := by decide +kernel
theorem dX5_reasonOfNightOrSwell_45 : decode cX5_reasonOfNightOrSwell 45 = .ok (.iload_n 2, 1) := by decide +kernel
theorem dX5_reasonOfNightOrSwell_46 : decode cX5_reasonOfNightOrSwell 46 = .ok (.if_icmp .le 5, 3) := by decide +kernel
theorem dX5_reasonOfNightOrSwell_49 : decode cX5_reasonOfNightOrSwell 49 = .ok (.iconst 5, 1) := by decide +kernel
theorem dX5_reasonOfNightOrSwell_50 : decode cX5_reasonOfNightOrSwell 50 = .ok (.ireturn, 1) := by decide +kernel
theorem dX5_reasonOfNightOrSwell_51 : decode cX5_reasonOfNightOrSwell 51 = .ok (.iconst 0, 1) := by decide +kernel
theorem dX5_reasonOfNightOrSwell_52 : decode cX5_reasonOfNightOrSwell 52 = .ok (.ireturn, 1) := by decide +kernel
theorem dX5_isNight_0 : decode cX5_isNight 0 = .ok (.iload_n 0, 1) := by decide +kernel
theorem dX5_isNight_1 : decode cX5_isNight 1 = .ok (.sipush 1440, 3) := by decide +kernel
theorem dX5_isNight_4 : decode cX5_isNight 4 = .ok (.irem, 1) := by decide +kernel
theorem dX5_isNight_5 : decode cX5_isNight 5 = .ok (.istore_n 1, 1) := by decide +kernel
theorem dX5_isNight_6 : decode cX5_isNight 6 = .ok (.iload_n 1, 1) := by decide +kernel
theorem dX5_isNight_7 : decode cX5_isNight 7 = .ok (.sipush 360, 3) := by decide +kernel
theorem dX5_isNight_10 : decode cX5_isNight 10 = .ok (.if_icmp .lt 10, 3) := by decide +kernel
theorem dX5_isNight_13 : decode cX5_isNight 13 = .ok (.iload_n 1, 1) := by decide +kernel
theorem dX5_isNight_14 : decode cX5_isNight 14 = .ok (.sipush 1320, 3) := by decide +kernel
theorem dX5_isNight_17 : decode cX5_isNight 17 = .ok (.if_icmp .lt 7, 3) := by decide +kernel
theorem dX5_isNight_20 : decode cX5_isNight 20 = .ok (.iconst 1, 1) := by decide +kernel
theorem dX5_isNight_21 : decode cX5_isNight 21 = .ok (.goto 4, 3) := by decide +kernel
theorem dX5_isNight_24 : decode cX5_isNight 24 = .ok (.iconst 0, 1) := by decide +kernel
theorem dX5_isNight_25 : decode cX5_isNight 25 = .ok (.ireturn, 1) := by decide +kernel
set_option maxRecDepth 20000 in
theorem ggX5_crewMinutes_Jx4a65c_size_8abf5 : GoodIn wsX5_crewMinutes wsJx4a65c_size_8abf5 := goodIn_r _ [11, 12, 52, 53, 54] (by decide +kernel) (by decide +kernel)
set_option maxRecDepth 20000 in
theorem gX5_crewMinutes_Jx4a65c_size_8abf5 : GoodIn wsX5_crewMinutes (wsV RX5 37 RJx4a65c yJx4a65c_size_8abf5 wsJx4a65c_size_8abf5) := goodIn_app (goodIn_of _ (by decide +kernel)) ggX5_crewMinutes_Jx4a65c_size_8abf5
set_option maxRecDepth 20000 in
theorem ggX5_crewMinutes_Jx4a65c_get_915e3 : GoodIn wsX5_crewMinutes wsJx4a65c_get_915e3 := goodIn_r _ [16, 12, 17, 18, 19, 20, 21, 22, 23, 24, 25, 26, 27, 10, 28, 29, 52, 53, 54] (by decide +kernel) (by decide +kernel)
set_option maxRecDepth 20000 in
theorem gX5_crewMinutes_Jx4a65c_get_915e3 : GoodIn wsX5_crewMinutes (wsV RX5 69 RJx4a65c yJx4a65c_get_915e3 wsJx4a65c_get_915e3) := goodIn_app (goodIn_of _ (by decide +kernel)) ggX5_crewMinutes_Jx4a65c_get_915e3
theorem dX5_crewMinutes_0 : decode cX5_crewMinutes 0 = .ok (.iconst 0, 1) := by decide +kernel
theorem dX5_crewMinutes_1 : decode cX5_crewMinutes 1 = .ok (.istore_n 3, 1) := by decide +kernel
theorem dX5_crewMinutes_2 : decode cX5_crewMinutes 2 = .ok (.iconst 0, 1) := by decide +kernel
theorem dX5_crewMinutes_3 : decode cX5_crewMinutes 3 = .ok (.istore 4, 2) := by decide +kernel
theorem dX5_crewMinutes_5 : decode cX5_crewMinutes 5 = .ok (.iload 4, 2) := by decide +kernel
theorem dX5_crewMinutes_7 : decode cX5_crewMinutes 7 = .ok (.aload_n 0, 1) := by decide +kernel
theorem dX5_crewMinutes_8 : decode cX5_crewMinutes 8 = .ok (.getfield 19, 3) := by decide +kernel
theorem dX5_crewMinutes_11 : decode cX5_crewMinutes 11 = .ok (.invokevirtual 37, 3) := by decide +kernel
theorem dX5_crewMinutes_14 : decode cX5_crewMinutes 14 = .ok (.if_icmp .ge 83, 3) := by decide +kernel
theorem dX5_crewMinutes_17 : decode cX5_crewMinutes 17 = .ok (.aload_n 0, 1) := by decide +kernel
theorem dX5_crewMinutes_18 : decode cX5_crewMinutes 18 = .ok (.getfield 19, 3) := by decide +kernel
theorem dX5_crewMinutes_21 : decode cX5_crewMinutes 21 = .ok (.iload 4, 2) := by decide +kernel
theorem dX5_crewMinutes_23 : decode cX5_crewMinutes 23 = .ok (.invokevirtual 69, 3) := by decide +kernel
theorem dX5_crewMinutes_26 : decode cX5_crewMinutes 26 = .ok (.checkcast 87, 3) := by decide +kernel
theorem dX5_crewMinutes_29 : decode cX5_crewMinutes 29 = .ok (.astore 5, 2) := by decide +kernel
theorem dX5_crewMinutes_31 : decode cX5_crewMinutes 31 = .ok (.aload 5, 2) := by decide +kernel
theorem dX5_crewMinutes_33 : decode cX5_crewMinutes 33 = .ok (.getfield 89, 3) := by decide +kernel
theorem dX5_crewMinutes_36 : decode cX5_crewMinutes 36 = .ok (.iconst 1, 1) := by decide +kernel
theorem dX5_crewMinutes_37 : decode cX5_crewMinutes 37 = .ok (.if_icmp .eq 12, 3) := by decide +kernel
theorem dX5_crewMinutes_40 : decode cX5_crewMinutes 40 = .ok (.aload 5, 2) := by decide +kernel
theorem dX5_crewMinutes_42 : decode cX5_crewMinutes 42 = .ok (.getfield 89, 3) := by decide +kernel
theorem dX5_crewMinutes_45 : decode cX5_crewMinutes 45 = .ok (.iconst 2, 1) := by decide +kernel
theorem dX5_crewMinutes_46 : decode cX5_crewMinutes 46 = .ok (.if_icmp .ne 7, 3) := by decide +kernel
theorem dX5_crewMinutes_49 : decode cX5_crewMinutes 49 = .ok (.iconst 1, 1) := by decide +kernel
theorem dX5_crewMinutes_50 : decode cX5_crewMinutes 50 = .ok (.goto 4, 3) := by decide +kernel
theorem dX5_crewMinutes_53 : decode cX5_crewMinutes 53 = .ok (.iconst 0, 1) := by decide +kernel
theorem dX5_crewMinutes_54 : decode cX5_crewMinutes 54 = .ok (.istore 6, 2) := by decide +kernel
theorem dX5_crewMinutes_56 : decode cX5_crewMinutes 56 = .ok (.iload 6, 2) := by decide +kernel
theorem dX5_crewMinutes_58 : decode cX5_crewMinutes 58 = .ok (.ifCond .eq 33, 3) := by decide +kernel
theorem dX5_crewMinutes_61 : decode cX5_crewMinutes 61 = .ok (.aload 5, 2) := by decide +kernel
theorem dX5_crewMinutes_63 : decode cX5_crewMinutes 63 = .ok (.getfield 92, 3) := by decide +kernel
theorem dX5_crewMinutes_66 : decode cX5_crewMinutes 66 = .ok (.aload_n 1, 1) := by decide +kernel
theorem dX5_crewMinutes_67 : decode cX5_crewMinutes 67 = .ok (.if_acmp .ne 24, 3) := by decide +kernel
theorem dX5_crewMinutes_70 : decode cX5_crewMinutes 70 = .ok (.aload 5, 2) := by decide +kernel
theorem dX5_crewMinutes_72 : decode cX5_crewMinutes 72 = .ok (.getfield 217, 3) := by decide +kernel
theorem dX5_crewMinutes_75 : decode cX5_crewMinutes 75 = .ok (.sipush 1440, 3) := by decide +kernel
theorem dX5_crewMinutes_78 : decode cX5_crewMinutes 78 = .ok (.idiv, 1) := by decide +kernel
theorem dX5_crewMinutes_79 : decode cX5_crewMinutes 79 = .ok (.iload_n 2, 1) := by decide +kernel
theorem dX5_crewMinutes_80 : decode cX5_crewMinutes 80 = .ok (.if_icmp .ne 11, 3) := by decide +kernel
theorem dX5_crewMinutes_83 : decode cX5_crewMinutes 83 = .ok (.iload_n 3, 1) := by decide +kernel
theorem dX5_crewMinutes_84 : decode cX5_crewMinutes 84 = .ok (.aload 5, 2) := by decide +kernel
theorem dX5_crewMinutes_86 : decode cX5_crewMinutes 86 = .ok (.getfield 281, 3) := by decide +kernel
theorem dX5_crewMinutes_89 : decode cX5_crewMinutes 89 = .ok (.iadd, 1) := by decide +kernel
theorem dX5_crewMinutes_90 : decode cX5_crewMinutes 90 = .ok (.istore_n 3, 1) := by decide +kernel
theorem dX5_crewMinutes_91 : decode cX5_crewMinutes 91 = .ok (.iinc 4 1, 3) := by decide +kernel
theorem dX5_crewMinutes_94 : decode cX5_crewMinutes 94 = .ok (.goto (-89), 3) := by decide +kernel
theorem dX5_crewMinutes_97 : decode cX5_crewMinutes 97 = .ok (.iload_n 3, 1) := by decide +kernel
theorem dX5_crewMinutes_98 : decode cX5_crewMinutes 98 = .ok (.ireturn, 1) := by decide +kernel
theorem dX5_fare_0 : decode cX5_fare 0 = .ok (.aload_n 1, 1) := by decide +kernel
theorem dX5_fare_1 : decode cX5_fare 1 = .ok (.getfield 158, 3) := by decide +kernel
theorem dX5_fare_4 : decode cX5_fare 4 = .ok (.iconst 1, 1) := by decide +kernel
theorem dX5_fare_5 : decode cX5_fare 5 = .ok (.if_icmp .eq 13, 3) := by decide +kernel
theorem dX5_fare_8 : decode cX5_fare 8 = .ok (.aload_n 1, 1) := by decide +kernel
theorem dX5_fare_9 : decode cX5_fare 9 = .ok (.getfield 158, 3) := by decide +kernel
theorem dX5_fare_12 : decode cX5_fare 12 = .ok (.iconst 2, 1) := by decide +kernel
theorem dX5_fare_13 : decode cX5_fare 13 = .ok (.if_icmp .eq 5, 3) := by decide +kernel
theorem dX5_fare_16 : decode cX5_fare 16 = .ok (.iconst 0, 1) := by decide +kernel
theorem dX5_fare_17 : decode cX5_fare 17 = .ok (.ireturn, 1) := by decide +kernel
theorem dX5_fare_18 : decode cX5_fare 18 = .ok (.aload_n 1, 1) := by decide +kernel
theorem dX5_fare_19 : decode cX5_fare 19 = .ok (.getfield 302, 3) := by decide +kernel
theorem dX5_fare_22 : decode cX5_fare 22 = .ok (.ifCond .lt 15, 3) := by decide +kernel
theorem dX5_fare_25 : decode cX5_fare 25 = .ok (.aload_n 1, 1) := by decide +kernel
theorem dX5_fare_26 : decode cX5_fare 26 = .ok (.getfield 302, 3) := by decide +kernel
theorem dX5_fare_29 : decode cX5_fare 29 = .ok (.aload_n 0, 1) := by decide +kernel
theorem dX5_fare_30 : decode cX5_fare 30 = .ok (.getfield 25, 3) := by decide +kernel
theorem dX5_fare_33 : decode cX5_fare 33 = .ok (.arraylength, 1) := by decide +kernel
theorem dX5_fare_34 : decode cX5_fare 34 = .ok (.if_icmp .lt 5, 3) := by decide +kernel
theorem dX5_fare_37 : decode cX5_fare 37 = .ok (.iconst 0, 1) := by decide +kernel
theorem dX5_fare_38 : decode cX5_fare 38 = .ok (.ireturn, 1) := by decide +kernel
theorem dX5_fare_39 : decode cX5_fare 39 = .ok (.aload_n 1, 1) := by decide +kernel
theorem dX5_fare_40 : decode cX5_fare 40 = .ok (.getfield 305, 3) := by decide +kernel
theorem dX5_fare_43 : decode cX5_fare 43 = .ok (.aload_n 0, 1) := by decide +kernel
theorem dX5_fare_44 : decode cX5_fare 44 = .ok (.getfield 25, 3) := by decide +kernel
theorem dX5_fare_47 : decode cX5_fare 47 = .ok (.aload_n 1, 1) := by decide +kernel
theorem dX5_fare_48 : decode cX5_fare 48 = .ok (.getfield 302, 3) := by decide +kernel
theorem dX5_fare_51 : decode cX5_fare 51 = .ok (.iaload, 1) := by decide +kernel
theorem dX5_fare_52 : decode cX5_fare 52 = .ok (.imul, 1) := by decide +kernel
theorem dX5_fare_53 : decode cX5_fare 53 = .ok (.istore_n 2, 1) := by decide +kernel
theorem dX5_fare_54 : decode cX5_fare 54 = .ok (.aload_n 1, 1) := by decide +kernel
theorem dX5_fare_55 : decode cX5_fare 55 = .ok (.getfield 302, 3) := by decide +kernel
theorem dX5_fare_58 : decode cX5_fare 58 = .ok (.ifCond .ne 9, 3) := by decide +kernel
theorem dX5_fare_61 : decode cX5_fare 61 = .ok (.iload_n 2, 1) := by decide +kernel
theorem dX5_fare_62 : decode cX5_fare 62 = .ok (.iconst 2, 1) := by decide +kernel
theorem dX5_fare_63 : decode cX5_fare 63 = .ok (.idiv, 1) := by decide +kernel
theorem dX5_fare_64 : decode cX5_fare 64 = .ok (.goto 4, 3) := by decide +kernel
theorem dX5_fare_67 : decode cX5_fare 67 = .ok (.iload_n 2, 1) := by decide +kernel
theorem dX5_fare_68 : decode cX5_fare 68 = .ok (.sipush 5000, 3) := by decide +kernel
theorem dX5_fare_71 : decode cX5_fare 71 = .ok (.invokestatic 211, 3) := by decide +kernel
theorem dX5_fare_74 : decode cX5_fare 74 = .ok (.ireturn, 1) := by decide +kernel
theorem dJ9_abs_0f7a4_0 : decode cJ9_abs_0f7a4 0 = .ok (.iload_n 0, 1) := by decide +kernel
theorem dJ9_abs_0f7a4_1 : decode cJ9_abs_0f7a4 1 = .ok (.ifCond .ge 8, 3) := by decide +kernel
theorem dJ9_abs_0f7a4_4 : decode cJ9_abs_0f7a4 4 = .ok (.iload_n 0, 1) := by decide +kernel
theorem dJ9_abs_0f7a4_5 : decode cJ9_abs_0f7a4 5 = .ok (.ineg, 1) := by decide +kernel
theorem dJ9_abs_0f7a4_6 : decode cJ9_abs_0f7a4 6 = .ok (.goto 4, 3) := by decide +kernel
theorem dJ9_abs_0f7a4_9 : decode cJ9_abs_0f7a4 9 = .ok (.iload_n 0, 1) := by decide +kernel
theorem dJ9_abs_0f7a4_10 : decode cJ9_abs_0f7a4 10 = .ok (.ireturn, 1) := by decide +kernel
theorem dJ9_max_7cf53_0 : decode cJ9_max_7cf53 0 = .ok (.iload_n 0, 1) := by decide +kernel
theorem dJ9_max_7cf53_1 : decode cJ9_max_7cf53 1 = .ok (.iload_n 1, 1) := by decide +kernel
theorem dJ9_max_7cf53_2 : decode cJ9_max_7cf53 2 = .ok (.if_icmp .lt 7, 3) := by decide +kernel
theorem dJ9_max_7cf53_5 : decode cJ9_max_7cf53 5 = .ok (.iload_n 0, 1) := by decide +kernel
theorem dJ9_max_7cf53_6 : decode cJ9_max_7cf53 6 = .ok (.goto 4, 3) := by decide +kernel
theorem dJ9_max_7cf53_9 : decode cJ9_max_7cf53 9 = .ok (.iload_n 1, 1) := by decide +kernel
theorem dJ9_max_7cf53_10 : decode cJ9_max_7cf53 10 = .ok (.ireturn, 1) := by decide +kernel
theorem dJ9_min_7cf53_0 : decode cJ9_min_7cf53 0 = .ok (.iload_n 0, 1) := by decide +kernel
theorem dJ9_min_7cf53_1 : decode cJ9_min_7cf53 1 = .ok (.iload_n 1, 1) := by decide +kernel
theorem dJ9_min_7cf53_2 : decode cJ9_min_7cf53 2 = .ok (.if_icmp .gt 7, 3) := by decide +kernel
theorem dJ9_min_7cf53_5 : decode cJ9_min_7cf53 5 = .ok (.iload_n 0, 1) := by decide +kernel
theorem dJ9_min_7cf53_6 : decode cJ9_min_7cf53 6 = .ok (.goto 4, 3) := by decide +kernel
theorem dJ9_min_7cf53_9 : decode cJ9_min_7cf53 9 = .ok (.iload_n 1, 1) := by decide +kernel
theorem dJ9_min_7cf53_10 : decode cJ9_min_7cf53 10 = .ok (.ireturn, 1) := by decide +kernel
theorem dJxa1e45_init_da8c8_0 : decode cJxa1e45_init_da8c8 0 = .ok (.aload_n 0, 1) := by decide +kernel
theorem dJxa1e45_init_da8c8_1 : decode cJxa1e45_init_da8c8 1 = .ok (.invokespecial 1, 3) := by decide +kernel
theorem dJxa1e45_init_da8c8_4 : decode cJxa1e45_init_da8c8 4 = .ok (.return_, 1) := by decide +kernel
set_option maxRecDepth 20000 in
theorem ggJxc12de_init_da8c8_Jxa1e45_init_da8c8 : GoodIn wsJxc12de_init_da8c8 wsJxa1e45_init_da8c8 := goodIn_r _ [5, 6, 7, 8] (by decide +kernel) (by decide +kernel)
set_option maxRecDepth 20000 in
theorem gJxc12de_init_da8c8_Jxa1e45_init_da8c8 : GoodIn wsJxc12de_init_da8c8 (wsJxa1e45_init_da8c8) := ggJxc12de_init_da8c8_Jxa1e45_init_da8c8
theorem dJxc12de_init_da8c8_0 : decode cJxc12de_init_da8c8 0 = .ok (.aload_n 0, 1) := by decide +kernel
theorem dJxc12de_init_da8c8_1 : decode cJxc12de_init_da8c8 1 = .ok (.invokespecial 1, 3) := by decide +kernel
theorem dJxc12de_init_da8c8_4 : decode cJxc12de_init_da8c8 4 = .ok (.aload_n 0, 1) := by decide +kernel
theorem dJxc12de_init_da8c8_5 : decode cJxc12de_init_da8c8 5 = .ok (.iconst 0, 1) := by decide +kernel
theorem dJxc12de_init_da8c8_6 : decode cJxc12de_init_da8c8 6 = .ok (.putfield 7, 3) := by decide +kernel
theorem dJxc12de_init_da8c8_9 : decode cJxc12de_init_da8c8 9 = .ok (.return_, 1) := by decide +kernel
set_option maxRecDepth 20000 in
theorem ggJx4a65c_init_da8c8_Jxc12de_init_da8c8 : GoodIn wsJx4a65c_init_da8c8 wsJxc12de_init_da8c8 := goodIn_r _ [6, 7, 8, 9, 10, 11, 12, 13, 14, 15, 16, 17] (by decide +kernel) (by decide +kernel)
set_option maxRecDepth 20000 in
theorem gJx4a65c_init_da8c8_Jxc12de_init_da8c8 : GoodIn wsJx4a65c_init_da8c8 (wsJxc12de_init_da8c8) := ggJx4a65c_init_da8c8_Jxc12de_init_da8c8
theorem dJx4a65c_init_da8c8_0 : decode cJx4a65c_init_da8c8 0 = .ok (.aload_n 0, 1) := by decide +kernel
theorem dJx4a65c_init_da8c8_1 : decode cJx4a65c_init_da8c8 1 = .ok (.invokespecial 1, 3) := by decide +kernel
theorem dJx4a65c_init_da8c8_4 : decode cJx4a65c_init_da8c8 4 = .ok (.aload_n 0, 1) := by decide +kernel
theorem dJx4a65c_init_da8c8_5 : decode cJx4a65c_init_da8c8 5 = .ok (.getstatic 39, 3) := by decide +kernel
theorem dJx4a65c_init_da8c8_8 : decode cJx4a65c_init_da8c8 8 = .ok (.putfield 9, 3) := by decide +kernel
theorem dJx4a65c_init_da8c8_11 : decode cJx4a65c_init_da8c8 11 = .ok (.return_, 1) := by decide +kernel
set_option maxRecDepth 20000 in
theorem ggJx4a65c_grow_92f84_J8_newLength_cabcc : GoodIn wsJx4a65c_grow_92f84 wsJ8_newLength_cabcc := goodIn_r _ [11, 12, 4, 5, 6, 13, 14, 15, 10, 16] (by decide +kernel) (by decide +kernel)
set_option maxRecDepth 20000 in
theorem gJx4a65c_grow_92f84_J8_newLength_cabcc : GoodIn wsJx4a65c_grow_92f84 (va_wsS RJx4a65c 73 yJ8_newLength_cabcc wsJ8_newLength_cabcc) := goodIn_app (goodIn_of _ (by decide +kernel)) ggJx4a65c_grow_92f84_J8_newLength_cabcc
set_option maxRecDepth 20000 in
theorem ggJx4a65c_grow_92f84_J7_copyOf_1904c : GoodIn wsJx4a65c_grow_92f84 wsJ7_copyOf_1904c := goodIn_r _ [20, 21, 22, 23, 24, 25, 26, 19, 27, 28, 29, 30, 31, 5, 32, 33, 34, 35, 36] (by decide +kernel) (by decide +kernel)
set_option maxRecDepth 20000 in
theorem gJx4a65c_grow_92f84_J7_copyOf_1904c : GoodIn wsJx4a65c_grow_92f84 (va_wsS RJx4a65c 66 yJ7_copyOf_1904c wsJ7_copyOf_1904c) := goodIn_app (goodIn_of _ (by decide +kernel)) ggJx4a65c_grow_92f84_J7_copyOf_1904c
theorem dJx4a65c_grow_92f84_0 : decode cJx4a65c_grow_92f84 0 = .ok (.aload_n 0, 1) := by decide +kernel
theorem dJx4a65c_grow_92f84_1 : decode cJx4a65c_grow_92f84 1 = .ok (.getfield 9, 3) := by decide +kernel
theorem dJx4a65c_grow_92f84_4 : decode cJx4a65c_grow_92f84 4 = .ok (.arraylength, 1) := by decide +kernel
theorem dJx4a65c_grow_92f84_5 : decode cJx4a65c_grow_92f84 5 = .ok (.istore_n 2, 1) := by decide +kernel
theorem dJx4a65c_grow_92f84_6 : decode cJx4a65c_grow_92f84 6 = .ok (.iload_n 2, 1) := by decide +kernel
theorem dJx4a65c_grow_92f84_7 : decode cJx4a65c_grow_92f84 7 = .ok (.ifCond .gt 13, 3) := by decide +kernel
theorem dJx4a65c_grow_92f84_10 : decode cJx4a65c_grow_92f84 10 = .ok (.aload_n 0, 1) := by decide +kernel
theorem dJx4a65c_grow_92f84_11 : decode cJx4a65c_grow_92f84 11 = .ok (.getfield 9, 3) := by decide +kernel
theorem dJx4a65c_grow_92f84_14 : decode cJx4a65c_grow_92f84 14 = .ok (.getstatic 39, 3) := by decide +kernel
theorem dJx4a65c_grow_92f84_17 : decode cJx4a65c_grow_92f84 17 = .ok (.if_acmp .eq 28, 3) := by decide +kernel
theorem dJx4a65c_grow_92f84_20 : decode cJx4a65c_grow_92f84 20 = .ok (.iload_n 2, 1) := by decide +kernel
theorem dJx4a65c_grow_92f84_21 : decode cJx4a65c_grow_92f84 21 = .ok (.iload_n 1, 1) := by decide +kernel
theorem dJx4a65c_grow_92f84_22 : decode cJx4a65c_grow_92f84 22 = .ok (.iload_n 2, 1) := by decide +kernel
theorem dJx4a65c_grow_92f84_23 : decode cJx4a65c_grow_92f84 23 = .ok (.isub, 1) := by decide +kernel
theorem dJx4a65c_grow_92f84_24 : decode cJx4a65c_grow_92f84 24 = .ok (.iload_n 2, 1) := by decide +kernel
theorem dJx4a65c_grow_92f84_25 : decode cJx4a65c_grow_92f84 25 = .ok (.iconst 1, 1) := by decide +kernel
theorem dJx4a65c_grow_92f84_26 : decode cJx4a65c_grow_92f84 26 = .ok (.ishr, 1) := by decide +kernel
theorem dJx4a65c_grow_92f84_27 : decode cJx4a65c_grow_92f84 27 = .ok (.invokestatic 73, 3) := by decide +kernel
theorem dJx4a65c_grow_92f84_30 : decode cJx4a65c_grow_92f84 30 = .ok (.istore_n 3, 1) := by decide +kernel
theorem dJx4a65c_grow_92f84_31 : decode cJx4a65c_grow_92f84 31 = .ok (.aload_n 0, 1) := by decide +kernel
theorem dJx4a65c_grow_92f84_32 : decode cJx4a65c_grow_92f84 32 = .ok (.aload_n 0, 1) := by decide +kernel
theorem dJx4a65c_grow_92f84_33 : decode cJx4a65c_grow_92f84 33 = .ok (.getfield 9, 3) := by decide +kernel
theorem dJx4a65c_grow_92f84_36 : decode cJx4a65c_grow_92f84 36 = .ok (.iload_n 3, 1) := by decide +kernel
theorem dJx4a65c_grow_92f84_37 : decode cJx4a65c_grow_92f84 37 = .ok (.invokestatic 66, 3) := by decide +kernel
theorem dJx4a65c_grow_92f84_40 : decode cJx4a65c_grow_92f84 40 = .ok (.dup_x1, 1) := by decide +kernel
theorem dJx4a65c_grow_92f84_41 : decode cJx4a65c_grow_92f84 41 = .ok (.putfield 9, 3) := by decide +kernel
theorem dJx4a65c_grow_92f84_44 : decode cJx4a65c_grow_92f84 44 = .ok (.areturn, 1) := by decide +kernel
theorem dJx4a65c_grow_92f84_45 : decode cJx4a65c_grow_92f84 45 = .ok (.aload_n 0, 1) := by decide +kernel
theorem dJx4a65c_grow_92f84_46 : decode cJx4a65c_grow_92f84 46 = .ok (.bipush 10, 2) := by decide +kernel
theorem dJx4a65c_grow_92f84_48 : decode cJx4a65c_grow_92f84 48 = .ok (.iload_n 1, 1) := by decide +kernel
theorem dJx4a65c_grow_92f84_49 : decode cJx4a65c_grow_92f84 49 = .ok (.invokestatic 79, 3) := by decide +kernel
theorem dJx4a65c_grow_92f84_52 : decode cJx4a65c_grow_92f84 52 = .ok (.anewarray 7, 3) := by decide +kernel
theorem dJx4a65c_grow_92f84_55 : decode cJx4a65c_grow_92f84 55 = .ok (.dup_x1, 1) := by decide +kernel
theorem dJx4a65c_grow_92f84_56 : decode cJx4a65c_grow_92f84 56 = .ok (.putfield 9, 3) := by decide +kernel
theorem dJx4a65c_grow_92f84_59 : decode cJx4a65c_grow_92f84 59 = .ok (.areturn, 1) := by decide +kernel
set_option maxRecDepth 20000 in
theorem ggJx4a65c_grow_d5877_Jx4a65c_grow_92f84 : GoodIn wsJx4a65c_grow_d5877 wsJx4a65c_grow_92f84 := goodIn_r _ [6, 7, 8, 9, 10, 11, 12, 13, 14, 15, 16, 17, 18, 19, 20, 21, 22, 23, 24, 25, 26, 27, 28, 29, 30, 31, 32, 33, 34, 35, 36, 37, 38, 39, 40, 41, 42, 43, 44, 45] (by decide +kernel) (by decide +kernel)
set_option maxRecDepth 20000 in
theorem gJx4a65c_grow_d5877_Jx4a65c_grow_92f84 : GoodIn wsJx4a65c_grow_d5877 (wsV RJx4a65c 69 RJx4a65c yJx4a65c_grow_92f84 wsJx4a65c_grow_92f84) := goodIn_app (goodIn_of _ (by decide +kernel)) ggJx4a65c_grow_d5877_Jx4a65c_grow_92f84
theorem dJx4a65c_grow_d5877_0 : decode cJx4a65c_grow_d5877 0 = .ok (.aload_n 0, 1) := by decide +kernel
theorem dJx4a65c_grow_d5877_1 : decode cJx4a65c_grow_d5877 1 = .ok (.aload_n 0, 1) := by decide +kernel
theorem dJx4a65c_grow_d5877_2 : decode cJx4a65c_grow_d5877 2 = .ok (.getfield 48, 3) := by decide +kernel
theorem dJx4a65c_grow_d5877_5 : decode cJx4a65c_grow_d5877 5 = .ok (.iconst 1, 1) := by decide +kernel
theorem dJx4a65c_grow_d5877_6 : decode cJx4a65c_grow_d5877 6 = .ok (.iadd, 1) := by decide +kernel
theorem dJx4a65c_grow_d5877_7 : decode cJx4a65c_grow_d5877 7 = .ok (.invokevirtual 69, 3) := by decide +kernel
theorem dJx4a65c_grow_d5877_10 : decode cJx4a65c_grow_d5877 10 = .ok (.areturn, 1) := by decide +kernel
theorem dJx4a65c_size_8abf5_0 : decode cJx4a65c_size_8abf5 0 = .ok (.aload_n 0, 1) := by decide +kernel
theorem dJx4a65c_size_8abf5_1 : decode cJx4a65c_size_8abf5 1 = .ok (.getfield 48, 3) := by decide +kernel
theorem dJx4a65c_size_8abf5_4 : decode cJx4a65c_size_8abf5 4 = .ok (.ireturn, 1) := by decide +kernel
theorem dJx4a65c_elementData_915e3_0 : decode cJx4a65c_elementData_915e3 0 = .ok (.aload_n 0, 1) := by decide +kernel
theorem dJx4a65c_elementData_915e3_1 : decode cJx4a65c_elementData_915e3 1 = .ok (.getfield 9, 3) := by decide +kernel
theorem dJx4a65c_elementData_915e3_4 : decode cJx4a65c_elementData_915e3 4 = .ok (.iload_n 1, 1) := by decide +kernel
theorem dJx4a65c_elementData_915e3_5 : decode cJx4a65c_elementData_915e3 5 = .ok (.aaload, 1) := by decide +kernel
theorem dJx4a65c_elementData_915e3_6 : decode cJx4a65c_elementData_915e3 6 = .ok (.areturn, 1) := by decide +kernel
set_option maxRecDepth 20000 in
theorem ggJx4a65c_get_915e3_J15_checkIndex_7cf53 : GoodIn wsJx4a65c_get_915e3 wsJ15_checkIndex_7cf53 := goodIn_r _ [5, 6, 7, 8, 9] (by decide +kernel) (by decide +kernel)
set_option maxRecDepth 20000 in
theorem gJx4a65c_get_915e3_J15_checkIndex_7cf53 : GoodIn wsJx4a65c_get_915e3 (va_wsS RJx4a65c 118 yJ15_checkIndex_7cf53 wsJ15_checkIndex_7cf53) := goodIn_app (goodIn_of _ (by decide +kernel)) ggJx4a65c_get_915e3_J15_checkIndex_7cf53
set_option maxRecDepth 20000 in
theorem ggJx4a65c_get_915e3_Jx4a65c_elementData_915e3 : GoodIn wsJx4a65c_get_915e3 wsJx4a65c_elementData_915e3 := goodIn_r _ [14, 15, 16, 17, 18] (by decide +kernel) (by decide +kernel)
set_option maxRecDepth 20000 in
theorem gJx4a65c_get_915e3_Jx4a65c_elementData_915e3 : GoodIn wsJx4a65c_get_915e3 (wsV RJx4a65c 123 RJx4a65c yJx4a65c_elementData_915e3 wsJx4a65c_elementData_915e3) := goodIn_app (goodIn_of _ (by decide +kernel)) ggJx4a65c_get_915e3_Jx4a65c_elementData_915e3
theorem dJx4a65c_get_915e3_0 : decode cJx4a65c_get_915e3 0 = .ok (.iload_n 1, 1) := by decide +kernel
theorem dJx4a65c_get_915e3_1 : decode cJx4a65c_get_915e3 1 = .ok (.aload_n 0, 1) := by decide +kernel
theorem dJx4a65c_get_915e3_2 : decode cJx4a65c_get_915e3 2 = .ok (.getfield 48, 3) := by decide +kernel
theorem dJx4a65c_get_915e3_5 : decode cJx4a65c_get_915e3 5 = .ok (.invokestatic 118, 3) := by decide +kernel
theorem dJx4a65c_get_915e3_8 : decode cJx4a65c_get_915e3 8 = .ok (.pop, 1) := by decide +kernel
theorem dJx4a65c_get_915e3_9 : decode cJx4a65c_get_915e3 9 = .ok (.aload_n 0, 1) := by decide +kernel
theorem dJx4a65c_get_915e3_10 : decode cJx4a65c_get_915e3 10 = .ok (.iload_n 1, 1) := by decide +kernel
theorem dJx4a65c_get_915e3_11 : decode cJx4a65c_get_915e3 11 = .ok (.invokevirtual 123, 3) := by decide +kernel
theorem dJx4a65c_get_915e3_14 : decode cJx4a65c_get_915e3 14 = .ok (.areturn, 1) := by decide +kernel
set_option maxRecDepth 20000 in
theorem ggJx4a65c_add_72be8_Jx4a65c_grow_d5877 : GoodIn wsJx4a65c_add_72be8 wsJx4a65c_grow_d5877 := goodIn_r _ [6, 1, 7, 8, 9, 5, 10, 11, 12, 13, 14, 15, 16, 17, 18, 19, 20, 21, 22, 23, 24, 25, 26, 27, 28, 29, 30, 31, 32, 33, 34, 35, 36, 37, 38, 39, 40, 41, 42, 43, 44, 45, 46, 47, 48, 49] (by decide +kernel) (by decide +kernel)
set_option maxRecDepth 20000 in
theorem gJx4a65c_add_72be8_Jx4a65c_grow_d5877 : GoodIn wsJx4a65c_add_72be8 (wsV RJx4a65c 129 RJx4a65c yJx4a65c_grow_d5877 wsJx4a65c_grow_d5877) := goodIn_app (goodIn_of _ (by decide +kernel)) ggJx4a65c_add_72be8_Jx4a65c_grow_d5877
theorem dJx4a65c_add_72be8_0 : decode cJx4a65c_add_72be8 0 = .ok (.iload_n 3, 1) := by decide +kernel
theorem dJx4a65c_add_72be8_1 : decode cJx4a65c_add_72be8 1 = .ok (.aload_n 2, 1) := by decide +kernel
theorem dJx4a65c_add_72be8_2 : decode cJx4a65c_add_72be8 2 = .ok (.arraylength, 1) := by decide +kernel
theorem dJx4a65c_add_72be8_3 : decode cJx4a65c_add_72be8 3 = .ok (.if_icmp .ne 8, 3) := by decide +kernel
theorem dJx4a65c_add_72be8_6 : decode cJx4a65c_add_72be8 6 = .ok (.aload_n 0, 1) := by decide +kernel
theorem dJx4a65c_add_72be8_7 : decode cJx4a65c_add_72be8 7 = .ok (.invokevirtual 129, 3) := by decide +kernel
theorem dJx4a65c_add_72be8_10 : decode cJx4a65c_add_72be8 10 = .ok (.astore_n 2, 1) := by decide +kernel
theorem dJx4a65c_add_72be8_11 : decode cJx4a65c_add_72be8 11 = .ok (.aload_n 2, 1) := by decide +kernel
theorem dJx4a65c_add_72be8_12 : decode cJx4a65c_add_72be8 12 = .ok (.iload_n 3, 1) := by decide +kernel
theorem dJx4a65c_add_72be8_13 : decode cJx4a65c_add_72be8 13 = .ok (.aload_n 1, 1) := by decide +kernel
theorem dJx4a65c_add_72be8_14 : decode cJx4a65c_add_72be8 14 = .ok (.aastore, 1) := by decide +kernel
theorem dJx4a65c_add_72be8_15 : decode cJx4a65c_add_72be8 15 = .ok (.aload_n 0, 1) := by decide +kernel
theorem dJx4a65c_add_72be8_16 : decode cJx4a65c_add_72be8 16 = .ok (.iload_n 3, 1) := by decide +kernel
theorem dJx4a65c_add_72be8_17 : decode cJx4a65c_add_72be8 17 = .ok (.iconst 1, 1) := by decide +kernel
theorem dJx4a65c_add_72be8_18 : decode cJx4a65c_add_72be8 18 = .ok (.iadd, 1) := by decide +kernel
theorem dJx4a65c_add_72be8_19 : decode cJx4a65c_add_72be8 19 = .ok (.putfield 48, 3) := by decide +kernel
theorem dJx4a65c_add_72be8_22 : decode cJx4a65c_add_72be8 22 = .ok (.return_, 1) := by decide +kernel
set_option maxRecDepth 20000 in
theorem ggJx4a65c_add_9ea2d_Jx4a65c_add_72be8 : GoodIn wsJx4a65c_add_9ea2d wsJx4a65c_add_72be8 := goodIn_r _ [9, 4, 10, 11, 12, 8, 13, 14, 15, 16, 17, 3, 18, 19, 20, 21, 22, 23, 24, 25, 26, 27, 28, 29, 30, 31, 32, 33, 34, 35, 36, 37, 38, 39, 40, 41, 42, 43, 44, 45, 46, 47, 48, 49, 50, 51, 52, 53, 54, 55] (by decide +kernel) (by decide +kernel)
set_option maxRecDepth 20000 in
theorem gJx4a65c_add_9ea2d_Jx4a65c_add_72be8 : GoodIn wsJx4a65c_add_9ea2d (wsV RJx4a65c 131 RJx4a65c yJx4a65c_add_72be8 wsJx4a65c_add_72be8) := goodIn_app (goodIn_of _ (by decide +kernel)) ggJx4a65c_add_9ea2d_Jx4a65c_add_72be8
theorem dJx4a65c_add_9ea2d_0 : decode cJx4a65c_add_9ea2d 0 = .ok (.aload_n 0, 1) := by decide +kernel
theorem dJx4a65c_add_9ea2d_1 : decode cJx4a65c_add_9ea2d 1 = .ok (.dup, 1) := by decide +kernel
theorem dJx4a65c_add_9ea2d_2 : decode cJx4a65c_add_9ea2d 2 = .ok (.getfield 63, 3) := by decide +kernel
theorem dJx4a65c_add_9ea2d_5 : decode cJx4a65c_add_9ea2d 5 = .ok (.iconst 1, 1) := by decide +kernel
theorem dJx4a65c_add_9ea2d_6 : decode cJx4a65c_add_9ea2d 6 = .ok (.iadd, 1) := by decide +kernel
theorem dJx4a65c_add_9ea2d_7 : decode cJx4a65c_add_9ea2d 7 = .ok (.putfield 63, 3) := by decide +kernel
theorem dJx4a65c_add_9ea2d_10 : decode cJx4a65c_add_9ea2d 10 = .ok (.aload_n 0, 1) := by decide +kernel
theorem dJx4a65c_add_9ea2d_11 : decode cJx4a65c_add_9ea2d 11 = .ok (.aload_n 1, 1) := by decide +kernel
theorem dJx4a65c_add_9ea2d_12 : decode cJx4a65c_add_9ea2d 12 = .ok (.aload_n 0, 1) := by decide +kernel
theorem dJx4a65c_add_9ea2d_13 : decode cJx4a65c_add_9ea2d 13 = .ok (.getfield 9, 3) := by decide +kernel
theorem dJx4a65c_add_9ea2d_16 : decode cJx4a65c_add_9ea2d 16 = .ok (.aload_n 0, 1) := by decide +kernel
theorem dJx4a65c_add_9ea2d_17 : decode cJx4a65c_add_9ea2d 17 = .ok (.getfield 48, 3) := by decide +kernel
theorem dJx4a65c_add_9ea2d_20 : decode cJx4a65c_add_9ea2d 20 = .ok (.invokevirtual 131, 3) := by decide +kernel
theorem dJx4a65c_add_9ea2d_23 : decode cJx4a65c_add_9ea2d 23 = .ok (.iconst 1, 1) := by decide +kernel
theorem dJx4a65c_add_9ea2d_24 : decode cJx4a65c_add_9ea2d 24 = .ok (.ireturn, 1) := by decide +kernel
set_option maxRecDepth 20000 in
theorem ggJx4a65c_add_7a177_Jx4a65c_rangeCheckForAdd_d00df : GoodIn wsJx4a65c_add_7a177 wsJx4a65c_rangeCheckForAdd_d00df := goodIn_r _ [13, 3, 54, 55, 56] (by decide +kernel) (by decide +kernel)
set_option maxRecDepth 20000 in
theorem gJx4a65c_add_7a177_Jx4a65c_rangeCheckForAdd_d00df : GoodIn wsJx4a65c_add_7a177 (wsV RJx4a65c 135 RJx4a65c yJx4a65c_rangeCheckForAdd_d00df wsJx4a65c_rangeCheckForAdd_d00df) := goodIn_app (goodIn_of _ (by decide +kernel)) ggJx4a65c_add_7a177_Jx4a65c_rangeCheckForAdd_d00df
set_option maxRecDepth 20000 in
theorem ggJx4a65c_add_7a177_Jx4a65c_grow_d5877 : GoodIn wsJx4a65c_add_7a177 wsJx4a65c_grow_d5877 := goodIn_r _ [17, 3, 18, 19, 20, 12, 21, 4, 22, 23, 24, 25, 26, 27, 28, 29, 30, 31, 32, 33, 34, 35, 36, 37, 38, 39, 40, 41, 42, 43, 44, 45, 46, 47, 48, 49, 50, 51, 52, 53, 6, 7, 8, 54, 55, 56] (by decide +kernel) (by decide +kernel)
set_option maxRecDepth 20000 in
theorem gJx4a65c_add_7a177_Jx4a65c_grow_d5877 : GoodIn wsJx4a65c_add_7a177 (wsV RJx4a65c 129 RJx4a65c yJx4a65c_grow_d5877 wsJx4a65c_grow_d5877) := goodIn_app (goodIn_of _ (by decide +kernel)) ggJx4a65c_add_7a177_Jx4a65c_grow_d5877
theorem dJx4a65c_add_7a177_0 : decode cJx4a65c_add_7a177 0 = .ok (.aload_n 0, 1) := by decide +kernel
theorem dJx4a65c_add_7a177_1 : decode cJx4a65c_add_7a177 1 = .ok (.iload_n 1, 1) := by decide +kernel
theorem dJx4a65c_add_7a177_2 : decode cJx4a65c_add_7a177 2 = .ok (.invokevirtual 135, 3) := by decide +kernel
theorem dJx4a65c_add_7a177_5 : decode cJx4a65c_add_7a177 5 = .ok (.aload_n 0, 1) := by decide +kernel
theorem dJx4a65c_add_7a177_6 : decode cJx4a65c_add_7a177 6 = .ok (.dup, 1) := by decide +kernel
theorem dJx4a65c_add_7a177_7 : decode cJx4a65c_add_7a177 7 = .ok (.getfield 63, 3) := by decide +kernel
theorem dJx4a65c_add_7a177_10 : decode cJx4a65c_add_7a177 10 = .ok (.iconst 1, 1) := by decide +kernel
theorem dJx4a65c_add_7a177_11 : decode cJx4a65c_add_7a177 11 = .ok (.iadd, 1) := by decide +kernel
theorem dJx4a65c_add_7a177_12 : decode cJx4a65c_add_7a177 12 = .ok (.putfield 63, 3) := by decide +kernel
theorem dJx4a65c_add_7a177_15 : decode cJx4a65c_add_7a177 15 = .ok (.aload_n 0, 1) := by decide +kernel
theorem dJx4a65c_add_7a177_16 : decode cJx4a65c_add_7a177 16 = .ok (.getfield 48, 3) := by decide +kernel
theorem dJx4a65c_add_7a177_19 : decode cJx4a65c_add_7a177 19 = .ok (.dup, 1) := by decide +kernel
theorem dJx4a65c_add_7a177_20 : decode cJx4a65c_add_7a177 20 = .ok (.istore_n 3, 1) := by decide +kernel
theorem dJx4a65c_add_7a177_21 : decode cJx4a65c_add_7a177 21 = .ok (.aload_n 0, 1) := by decide +kernel
theorem dJx4a65c_add_7a177_22 : decode cJx4a65c_add_7a177 22 = .ok (.getfield 9, 3) := by decide +kernel
theorem dJx4a65c_add_7a177_25 : decode cJx4a65c_add_7a177 25 = .ok (.dup, 1) := by decide +kernel
theorem dJx4a65c_add_7a177_26 : decode cJx4a65c_add_7a177 26 = .ok (.astore 4, 2) := by decide +kernel
theorem dJx4a65c_add_7a177_28 : decode cJx4a65c_add_7a177 28 = .ok (.arraylength, 1) := by decide +kernel
theorem dJx4a65c_add_7a177_29 : decode cJx4a65c_add_7a177 29 = .ok (.if_icmp .ne 9, 3) := by decide +kernel
theorem dJx4a65c_add_7a177_32 : decode cJx4a65c_add_7a177 32 = .ok (.aload_n 0, 1) := by decide +kernel
theorem dJx4a65c_add_7a177_33 : decode cJx4a65c_add_7a177 33 = .ok (.invokevirtual 129, 3) := by decide +kernel
theorem dJx4a65c_add_7a177_36 : decode cJx4a65c_add_7a177 36 = .ok (.astore 4, 2) := by decide +kernel
theorem dJx4a65c_add_7a177_38 : decode cJx4a65c_add_7a177 38 = .ok (.aload 4, 2) := by decide +kernel
theorem dJx4a65c_add_7a177_40 : decode cJx4a65c_add_7a177 40 = .ok (.iload_n 1, 1) := by decide +kernel
theorem dJx4a65c_add_7a177_41 : decode cJx4a65c_add_7a177 41 = .ok (.aload 4, 2) := by decide +kernel
theorem dJx4a65c_add_7a177_43 : decode cJx4a65c_add_7a177 43 = .ok (.iload_n 1, 1) := by decide +kernel
theorem dJx4a65c_add_7a177_44 : decode cJx4a65c_add_7a177 44 = .ok (.iconst 1, 1) := by decide +kernel
theorem dJx4a65c_add_7a177_45 : decode cJx4a65c_add_7a177 45 = .ok (.iadd, 1) := by decide +kernel
theorem dJx4a65c_add_7a177_46 : decode cJx4a65c_add_7a177 46 = .ok (.iload_n 3, 1) := by decide +kernel
theorem dJx4a65c_add_7a177_47 : decode cJx4a65c_add_7a177 47 = .ok (.iload_n 1, 1) := by decide +kernel
theorem dJx4a65c_add_7a177_48 : decode cJx4a65c_add_7a177 48 = .ok (.isub, 1) := by decide +kernel
theorem dJx4a65c_add_7a177_49 : decode cJx4a65c_add_7a177 49 = .ok (.invokestatic 112, 3) := by decide +kernel
theorem dJx4a65c_add_7a177_52 : decode cJx4a65c_add_7a177 52 = .ok (.aload 4, 2) := by decide +kernel
theorem dJx4a65c_add_7a177_54 : decode cJx4a65c_add_7a177 54 = .ok (.iload_n 1, 1) := by decide +kernel
theorem dJx4a65c_add_7a177_55 : decode cJx4a65c_add_7a177 55 = .ok (.aload_n 2, 1) := by decide +kernel
theorem dJx4a65c_add_7a177_56 : decode cJx4a65c_add_7a177 56 = .ok (.aastore, 1) := by decide +kernel
theorem dJx4a65c_add_7a177_57 : decode cJx4a65c_add_7a177 57 = .ok (.aload_n 0, 1) := by decide +kernel
theorem dJx4a65c_add_7a177_58 : decode cJx4a65c_add_7a177 58 = .ok (.iload_n 3, 1) := by decide +kernel
theorem dJx4a65c_add_7a177_59 : decode cJx4a65c_add_7a177 59 = .ok (.iconst 1, 1) := by decide +kernel
theorem dJx4a65c_add_7a177_60 : decode cJx4a65c_add_7a177 60 = .ok (.iadd, 1) := by decide +kernel
theorem dJx4a65c_add_7a177_61 : decode cJx4a65c_add_7a177 61 = .ok (.putfield 48, 3) := by decide +kernel
theorem dJx4a65c_add_7a177_64 : decode cJx4a65c_add_7a177 64 = .ok (.return_, 1) := by decide +kernel
theorem dJx4a65c_rangeCheckForAdd_d00df_0 : decode cJx4a65c_rangeCheckForAdd_d00df 0 = .ok (.iload_n 1, 1) := by decide +kernel
theorem dJx4a65c_rangeCheckForAdd_d00df_1 : decode cJx4a65c_rangeCheckForAdd_d00df 1 = .ok (.aload_n 0, 1) := by decide +kernel
theorem dJx4a65c_rangeCheckForAdd_d00df_2 : decode cJx4a65c_rangeCheckForAdd_d00df 2 = .ok (.getfield 48, 3) := by decide +kernel
theorem dJx4a65c_rangeCheckForAdd_d00df_5 : decode cJx4a65c_rangeCheckForAdd_d00df 5 = .ok (.if_icmp .gt 7, 3) := by decide +kernel
theorem dJx4a65c_rangeCheckForAdd_d00df_8 : decode cJx4a65c_rangeCheckForAdd_d00df 8 = .ok (.iload_n 1, 1) := by decide +kernel
theorem dJx4a65c_rangeCheckForAdd_d00df_9 : decode cJx4a65c_rangeCheckForAdd_d00df 9 = .ok (.ifCond .ge 16, 3) := by decide +kernel
theorem dJx4a65c_rangeCheckForAdd_d00df_12 : decode cJx4a65c_rangeCheckForAdd_d00df 12 = .ok (.new 187, 3) := by decide +kernel
theorem dJx4a65c_rangeCheckForAdd_d00df_15 : decode cJx4a65c_rangeCheckForAdd_d00df 15 = .ok (.dup, 1) := by decide +kernel
theorem dJx4a65c_rangeCheckForAdd_d00df_16 : decode cJx4a65c_rangeCheckForAdd_d00df 16 = .ok (.aload_n 0, 1) := by decide +kernel
theorem dJx4a65c_rangeCheckForAdd_d00df_17 : decode cJx4a65c_rangeCheckForAdd_d00df 17 = .ok (.iload_n 1, 1) := by decide +kernel
theorem dJx4a65c_rangeCheckForAdd_d00df_18 : decode cJx4a65c_rangeCheckForAdd_d00df 18 = .ok (.invokevirtual 198, 3) := by decide +kernel
theorem dJx4a65c_rangeCheckForAdd_d00df_21 : decode cJx4a65c_rangeCheckForAdd_d00df 21 = .ok (.invokespecial 193, 3) := by decide +kernel
theorem dJx4a65c_rangeCheckForAdd_d00df_24 : decode cJx4a65c_rangeCheckForAdd_d00df 24 = .ok (.athrow, 1) := by decide +kernel
theorem dJx4a65c_rangeCheckForAdd_d00df_25 : decode cJx4a65c_rangeCheckForAdd_d00df 25 = .ok (.return_, 1) := by decide +kernel
set_option maxRecDepth 20000 in
theorem ggJx4a65c_outOfBoundsMsg_b52d3_J4_init_da8c8 : GoodIn wsJx4a65c_outOfBoundsMsg_b52d3 wsJ4_init_da8c8 := goodIn_r _ [7, 8, 9, 10, 11, 12, 13, 14, 15, 16, 17, 18, 19, 20, 21, 22, 23, 24, 25, 26, 237, 238, 239, 240] (by decide +kernel) (by decide +kernel)
set_option maxRecDepth 20000 in
theorem gJx4a65c_outOfBoundsMsg_b52d3_J4_init_da8c8 : GoodIn wsJx4a65c_outOfBoundsMsg_b52d3 (wsJ4_init_da8c8) := ggJx4a65c_outOfBoundsMsg_b52d3_J4_init_da8c8
set_option maxRecDepth 20000 in
theorem ggJx4a65c_outOfBoundsMsg_b52d3_J4_append_15ec4 : GoodIn wsJx4a65c_outOfBoundsMsg_b52d3 wsJ4_append_15ec4 := goodIn_r _ [30, 31, 32, 33, 34, 10, 35, 36, 37, 38, 39, 40, 41, 17, 42, 43, 44, 45, 46, 18, 47, 48, 49, 50, 51, 52, 53, 54, 55, 56, 57, 58, 59, 60, 61, 62, 63, 64, 65, 66, 67, 68, 69, 70, 71, 72, 73, 74, 16, 75, 76, 77, 78, 79, 80, 81, 82, 83, 84, 85, 86, 15, 87, 88, 21, 89, 90, 91, 92, 93, 94, 95, 96, 97, 98, 99, 100, 101, 102, 103, 104, 105, 106, 107, 108, 109, 110, 111, 112, 113, 114, 115, 116, 117, 118, 119, 120, 121, 122, 123, 124, 125, 126, 127, 128, 129, 130, 131, 132, 133, 134, 135, 136, 137, 19, 20, 22, 23, 24, 25, 26, 138, 139, 140, 141, 142, 143, 144, 145, 146, 147, 148, 149, 150, 151, 152, 153, 154, 155, 156, 157, 158, 159, 237, 238, 239, 240, 244, 245, 246, 247] (by decide +kernel) (by decide +kernel)
set_option maxRecDepth 20000 in
theorem gJx4a65c_outOfBoundsMsg_b52d3_J4_append_15ec4 : GoodIn wsJx4a65c_outOfBoundsMsg_b52d3 (wsV RJx4a65c 25 RJ4 yJ4_append_15ec4 wsJ4_append_15ec4) := goodIn_app (goodIn_of _ (by decide +kernel)) ggJx4a65c_outOfBoundsMsg_b52d3_J4_append_15ec4
set_option maxRecDepth 20000 in
theorem ggJx4a65c_outOfBoundsMsg_b52d3_J4_append_bf812 : GoodIn wsJx4a65c_outOfBoundsMsg_b52d3 wsJ4_append_bf812 := goodIn_r _ [163, 164, 165, 33, 166, 10, 167, 36, 17, 168, 169, 170, 171, 42, 43, 44, 45, 46, 18, 47, 48, 49, 50, 51, 52, 53, 54, 55, 56, 57, 58, 59, 60, 61, 62, 63, 64, 65, 66, 67, 68, 69, 70, 71, 72, 73, 74, 16, 75, 76, 77, 78, 79, 80, 81, 82, 83, 84, 85, 86, 15, 172, 173, 174, 175, 176, 177, 178, 21, 179, 90, 91, 92, 93, 94, 95, 96, 97, 98, 99, 100, 101, 102, 103, 104, 105, 180, 181, 182, 183, 184, 106, 107, 108, 109, 110, 237, 238, 239, 240] (by decide +kernel) (by decide +kernel)
set_option maxRecDepth 20000 in
theorem gJx4a65c_outOfBoundsMsg_b52d3_J4_append_bf812 : GoodIn wsJx4a65c_outOfBoundsMsg_b52d3 (wsV RJx4a65c 29 RJ4 yJ4_append_bf812 wsJ4_append_bf812) := goodIn_app (goodIn_of _ (by decide +kernel)) ggJx4a65c_outOfBoundsMsg_b52d3_J4_append_bf812
set_option maxRecDepth 20000 in
theorem ggJx4a65c_outOfBoundsMsg_b52d3_J4_toString_0e30d : GoodIn wsJx4a65c_outOfBoundsMsg_b52d3 wsJ4_toString_0e30d := goodIn_r _ [188, 189, 190, 99, 191, 192, 193, 194, 195, 196, 197, 13, 14, 121, 115, 120, 198, 199, 200, 201, 202, 10, 203, 17, 204, 205, 206, 207, 208, 3, 209, 210, 33, 211, 212, 36, 213, 83, 84, 85, 86, 15, 18, 214, 215, 67, 216, 69, 70, 71, 72, 73, 74, 217, 218, 219, 16, 75, 76, 59, 77, 78, 79, 80, 81, 220, 221, 222, 223, 2, 224, 225, 21, 226, 227, 228, 229, 145, 146, 147, 94, 95, 96, 148, 149, 150, 101, 151, 152, 104, 153, 230, 231, 232, 90, 109, 110, 23, 24, 25, 26, 233, 234, 235, 236, 244, 245, 246, 247, 237, 238, 239, 240] (by decide +kernel) (by decide +kernel)
set_option maxRecDepth 20000 in
theorem gJx4a65c_outOfBoundsMsg_b52d3_J4_toString_0e30d : GoodIn wsJx4a65c_outOfBoundsMsg_b52d3 (wsV RJx4a65c 32 RJ4 yJ4_toString_0e30d wsJ4_toString_0e30d) := goodIn_app (goodIn_of _ (by decide +kernel)) ggJx4a65c_outOfBoundsMsg_b52d3_J4_toString_0e30d
theorem dJx4a65c_outOfBoundsMsg_b52d3_0 : decode cJx4a65c_outOfBoundsMsg_b52d3 0 = .ok (.new 20, 3) := by decide +kernel
theorem dJx4a65c_outOfBoundsMsg_b52d3_3 : decode cJx4a65c_outOfBoundsMsg_b52d3 3 = .ok (.dup, 1) := by decide +kernel
theorem dJx4a65c_outOfBoundsMsg_b52d3_4 : decode cJx4a65c_outOfBoundsMsg_b52d3 4 = .ok (.invokespecial 22, 3) := by decide +kernel
theorem dJx4a65c_outOfBoundsMsg_b52d3_7 : decode cJx4a65c_outOfBoundsMsg_b52d3 7 = .ok (.ldc 201, 2) := by decide +kernel
theorem dJx4a65c_outOfBoundsMsg_b52d3_9 : decode cJx4a65c_outOfBoundsMsg_b52d3 9 = .ok (.invokevirtual 25, 3) := by decide +kernel
theorem dJx4a65c_outOfBoundsMsg_b52d3_12 : decode cJx4a65c_outOfBoundsMsg_b52d3 12 = .ok (.iload_n 1, 1) := by decide +kernel
theorem dJx4a65c_outOfBoundsMsg_b52d3_13 : decode cJx4a65c_outOfBoundsMsg_b52d3 13 = .ok (.invokevirtual 29, 3) := by decide +kernel
theorem dJx4a65c_outOfBoundsMsg_b52d3_16 : decode cJx4a65c_outOfBoundsMsg_b52d3 16 = .ok (.ldc 203, 2) := by decide +kernel
theorem dJx4a65c_outOfBoundsMsg_b52d3_18 : decode cJx4a65c_outOfBoundsMsg_b52d3 18 = .ok (.invokevirtual 25, 3) := by decide +kernel
theorem dJx4a65c_outOfBoundsMsg_b52d3_21 : decode cJx4a65c_outOfBoundsMsg_b52d3 21 = .ok (.aload_n 0, 1) := by decide +kernel
theorem dJx4a65c_outOfBoundsMsg_b52d3_22 : decode cJx4a65c_outOfBoundsMsg_b52d3 22 = .ok (.getfield 48, 3) := by decide +kernel
theorem dJx4a65c_outOfBoundsMsg_b52d3_25 : decode cJx4a65c_outOfBoundsMsg_b52d3 25 = .ok (.invokevirtual 29, 3) := by decide +kernel
theorem dJx4a65c_outOfBoundsMsg_b52d3_28 : decode cJx4a65c_outOfBoundsMsg_b52d3 28 = .ok (.invokevirtual 32, 3) := by decide +kernel
theorem dJx4a65c_outOfBoundsMsg_b52d3_31 : decode cJx4a65c_outOfBoundsMsg_b52d3 31 = .ok (.areturn, 1) := by decide +kernel
set_option maxRecDepth 20000 in
theorem ggJ7_copyOf_1904c_J7_copyOf_6403c : GoodIn wsJ7_copyOf_1904c wsJ7_copyOf_6403c := goodIn_r _ [8, 9, 10, 11, 12, 13, 14, 15, 16, 17, 18] (by decide +kernel) (by decide +kernel)
set_option maxRecDepth 20000 in
theorem gJ7_copyOf_1904c_J7_copyOf_6403c : GoodIn wsJ7_copyOf_1904c (va_wsS RJ7 300 yJ7_copyOf_6403c wsJ7_copyOf_6403c) := goodIn_app (goodIn_of _ (by decide +kernel)) ggJ7_copyOf_1904c_J7_copyOf_6403c
theorem dJ7_copyOf_1904c_0 : decode cJ7_copyOf_1904c 0 = .ok (.aload_n 0, 1) := by decide +kernel
theorem dJ7_copyOf_1904c_1 : decode cJ7_copyOf_1904c 1 = .ok (.iload_n 1, 1) := by decide +kernel
theorem dJ7_copyOf_1904c_2 : decode cJ7_copyOf_1904c 2 = .ok (.aload_n 0, 1) := by decide +kernel
theorem dJ7_copyOf_1904c_3 : decode cJ7_copyOf_1904c 3 = .ok (.invokevirtual 86, 3) := by decide +kernel
theorem dJ7_copyOf_1904c_6 : decode cJ7_copyOf_1904c 6 = .ok (.invokestatic 300, 3) := by decide +kernel
theorem dJ7_copyOf_1904c_9 : decode cJ7_copyOf_1904c 9 = .ok (.areturn, 1) := by decide +kernel
theorem dJ7_copyOf_6403c_0 : decode cJ7_copyOf_6403c 0 = .ok (.aload_n 2, 1) := by decide +kernel
theorem dJ7_copyOf_6403c_1 : decode cJ7_copyOf_6403c 1 = .ok (.ldc 110, 2) := by decide +kernel
theorem dJ7_copyOf_6403c_3 : decode cJ7_copyOf_6403c 3 = .ok (.if_acmp .ne 10, 3) := by decide +kernel
theorem dJ7_copyOf_6403c_6 : decode cJ7_copyOf_6403c 6 = .ok (.iload_n 1, 1) := by decide +kernel
theorem dJ7_copyOf_6403c_7 : decode cJ7_copyOf_6403c 7 = .ok (.anewarray 2, 3) := by decide +kernel
theorem dJ7_copyOf_6403c_10 : decode cJ7_copyOf_6403c 10 = .ok (.goto 14, 3) := by decide +kernel
theorem dJ7_copyOf_6403c_13 : decode cJ7_copyOf_6403c 13 = .ok (.aload_n 2, 1) := by decide +kernel
theorem dJ7_copyOf_6403c_14 : decode cJ7_copyOf_6403c 14 = .ok (.invokevirtual 90, 3) := by decide +kernel
theorem dJ7_copyOf_6403c_17 : decode cJ7_copyOf_6403c 17 = .ok (.iload_n 1, 1) := by decide +kernel
theorem dJ7_copyOf_6403c_18 : decode cJ7_copyOf_6403c 18 = .ok (.invokestatic 95, 3) := by decide +kernel
theorem dJ7_copyOf_6403c_21 : decode cJ7_copyOf_6403c 21 = .ok (.checkcast 110, 3) := by decide +kernel
theorem dJ7_copyOf_6403c_24 : decode cJ7_copyOf_6403c 24 = .ok (.astore_n 3, 1) := by decide +kernel
theorem dJ7_copyOf_6403c_25 : decode cJ7_copyOf_6403c 25 = .ok (.aload_n 0, 1) := by decide +kernel
theorem dJ7_copyOf_6403c_26 : decode cJ7_copyOf_6403c 26 = .ok (.iconst 0, 1) := by decide +kernel
theorem dJ7_copyOf_6403c_27 : decode cJ7_copyOf_6403c 27 = .ok (.aload_n 3, 1) := by decide +kernel
theorem dJ7_copyOf_6403c_28 : decode cJ7_copyOf_6403c 28 = .ok (.iconst 0, 1) := by decide +kernel
theorem dJ7_copyOf_6403c_29 : decode cJ7_copyOf_6403c 29 = .ok (.aload_n 0, 1) := by decide +kernel
theorem dJ7_copyOf_6403c_30 : decode cJ7_copyOf_6403c 30 = .ok (.arraylength, 1) := by decide +kernel
theorem dJ7_copyOf_6403c_31 : decode cJ7_copyOf_6403c 31 = .ok (.iload_n 1, 1) := by decide +kernel
theorem dJ7_copyOf_6403c_32 : decode cJ7_copyOf_6403c 32 = .ok (.invokestatic 304, 3) := by decide +kernel
theorem dJ7_copyOf_6403c_35 : decode cJ7_copyOf_6403c 35 = .ok (.invokestatic 150, 3) := by decide +kernel
theorem dJ7_copyOf_6403c_38 : decode cJ7_copyOf_6403c 38 = .ok (.aload_n 3, 1) := by decide +kernel
theorem dJ7_copyOf_6403c_39 : decode cJ7_copyOf_6403c 39 = .ok (.areturn, 1) := by decide +kernel
theorem dJ7_copyOf_9075b_0 : decode cJ7_copyOf_9075b 0 = .ok (.iload_n 1, 1) := by decide +kernel
theorem dJ7_copyOf_9075b_1 : decode cJ7_copyOf_9075b 1 = .ok (.aload_n 0, 1) := by decide +kernel
theorem dJ7_copyOf_9075b_2 : decode cJ7_copyOf_9075b 2 = .ok (.arraylength, 1) := by decide +kernel
theorem dJ7_copyOf_9075b_3 : decode cJ7_copyOf_9075b 3 = .ok (.if_icmp .ne 11, 3) := by decide +kernel
theorem dJ7_copyOf_9075b_6 : decode cJ7_copyOf_9075b 6 = .ok (.aload_n 0, 1) := by decide +kernel
theorem dJ7_copyOf_9075b_7 : decode cJ7_copyOf_9075b 7 = .ok (.invokevirtual 310, 3) := by decide +kernel
theorem dJ7_copyOf_9075b_10 : decode cJ7_copyOf_9075b 10 = .ok (.checkcast 311, 3) := by decide +kernel
theorem dJ7_copyOf_9075b_13 : decode cJ7_copyOf_9075b 13 = .ok (.areturn, 1) := by decide +kernel
theorem dJ7_copyOf_9075b_14 : decode cJ7_copyOf_9075b 14 = .ok (.iload_n 1, 1) := by decide +kernel
theorem dJ7_copyOf_9075b_15 : decode cJ7_copyOf_9075b 15 = .ok (.newarray .byte, 2) := by decide +kernel
theorem dJ7_copyOf_9075b_17 : decode cJ7_copyOf_9075b 17 = .ok (.astore_n 2, 1) := by decide +kernel
theorem dJ7_copyOf_9075b_18 : decode cJ7_copyOf_9075b 18 = .ok (.aload_n 0, 1) := by decide +kernel
theorem dJ7_copyOf_9075b_19 : decode cJ7_copyOf_9075b 19 = .ok (.iconst 0, 1) := by decide +kernel
theorem dJ7_copyOf_9075b_20 : decode cJ7_copyOf_9075b 20 = .ok (.aload_n 2, 1) := by decide +kernel
theorem dJ7_copyOf_9075b_21 : decode cJ7_copyOf_9075b 21 = .ok (.iconst 0, 1) := by decide +kernel
theorem dJ7_copyOf_9075b_22 : decode cJ7_copyOf_9075b 22 = .ok (.aload_n 0, 1) := by decide +kernel
theorem dJ7_copyOf_9075b_23 : decode cJ7_copyOf_9075b 23 = .ok (.arraylength, 1) := by decide +kernel
theorem dJ7_copyOf_9075b_24 : decode cJ7_copyOf_9075b 24 = .ok (.iload_n 1, 1) := by decide +kernel
theorem dJ7_copyOf_9075b_25 : decode cJ7_copyOf_9075b 25 = .ok (.invokestatic 304, 3) := by decide +kernel
theorem dJ7_copyOf_9075b_28 : decode cJ7_copyOf_9075b 28 = .ok (.invokestatic 150, 3) := by decide +kernel
theorem dJ7_copyOf_9075b_31 : decode cJ7_copyOf_9075b 31 = .ok (.aload_n 2, 1) := by decide +kernel
theorem dJ7_copyOf_9075b_32 : decode cJ7_copyOf_9075b 32 = .ok (.areturn, 1) := by decide +kernel
theorem dJ7_checkLength_df160_0 : decode cJ7_checkLength_df160 0 = .ok (.iload_n 1, 1) := by decide +kernel
theorem dJ7_checkLength_df160_1 : decode cJ7_checkLength_df160 1 = .ok (.iload_n 0, 1) := by decide +kernel
theorem dJ7_checkLength_df160_2 : decode cJ7_checkLength_df160 2 = .ok (.if_icmp .ge 35, 3) := by decide +kernel
theorem dJ7_checkLength_df160_5 : decode cJ7_checkLength_df160 5 = .ok (.new 43, 3) := by decide +kernel
theorem dJ7_checkLength_df160_8 : decode cJ7_checkLength_df160 8 = .ok (.dup, 1) := by decide +kernel
theorem dJ7_checkLength_df160_9 : decode cJ7_checkLength_df160 9 = .ok (.new 45, 3) := by decide +kernel
theorem dJ7_checkLength_df160_12 : decode cJ7_checkLength_df160 12 = .ok (.dup, 1) := by decide +kernel
theorem dJ7_checkLength_df160_13 : decode cJ7_checkLength_df160 13 = .ok (.invokespecial 47, 3) := by decide +kernel
theorem dJ7_checkLength_df160_16 : decode cJ7_checkLength_df160 16 = .ok (.iload_n 0, 1) := by decide +kernel
theorem dJ7_checkLength_df160_17 : decode cJ7_checkLength_df160 17 = .ok (.invokevirtual 54, 3) := by decide +kernel
theorem dJ7_checkLength_df160_20 : decode cJ7_checkLength_df160 20 = .ok (.ldc_w 337, 3) := by decide +kernel
theorem dJ7_checkLength_df160_23 : decode cJ7_checkLength_df160 23 = .ok (.invokevirtual 50, 3) := by decide +kernel
theorem dJ7_checkLength_df160_26 : decode cJ7_checkLength_df160 26 = .ok (.iload_n 1, 1) := by decide +kernel
theorem dJ7_checkLength_df160_27 : decode cJ7_checkLength_df160 27 = .ok (.invokevirtual 54, 3) := by decide +kernel
theorem dJ7_checkLength_df160_30 : decode cJ7_checkLength_df160 30 = .ok (.invokevirtual 61, 3) := by decide +kernel
theorem dJ7_checkLength_df160_33 : decode cJ7_checkLength_df160 33 = .ok (.invokespecial 65, 3) := by decide +kernel
theorem dJ7_checkLength_df160_36 : decode cJ7_checkLength_df160 36 = .ok (.athrow, 1) := by decide +kernel
theorem dJ7_checkLength_df160_37 : decode cJ7_checkLength_df160 37 = .ok (.return_, 1) := by decide +kernel
set_option maxRecDepth 20000 in
theorem ggJ7_copyOfRange_39247_J7_copyOfRangeByte_39247 : GoodIn wsJ7_copyOfRange_39247 wsJ7_copyOfRangeByte_39247 := goodIn_r _ [10, 11, 12, 13, 14, 15, 16, 17, 18, 19, 20, 21, 9, 22, 23, 24, 25, 26, 27, 28, 29] (by decide +kernel) (by decide +kernel)
set_option maxRecDepth 20000 in
theorem gJ7_copyOfRange_39247_J7_copyOfRangeByte_39247 : GoodIn wsJ7_copyOfRange_39247 (va_wsS RJ7 339 yJ7_copyOfRangeByte_39247 wsJ7_copyOfRangeByte_39247) := goodIn_app (goodIn_of _ (by decide +kernel)) ggJ7_copyOfRange_39247_J7_copyOfRangeByte_39247
theorem dJ7_copyOfRange_39247_0 : decode cJ7_copyOfRange_39247 0 = .ok (.iload_n 1, 1) := by decide +kernel
theorem dJ7_copyOfRange_39247_1 : decode cJ7_copyOfRange_39247 1 = .ok (.ifCond .ne 9, 3) := by decide +kernel
theorem dJ7_copyOfRange_39247_4 : decode cJ7_copyOfRange_39247 4 = .ok (.iload_n 2, 1) := by decide +kernel
theorem dJ7_copyOfRange_39247_5 : decode cJ7_copyOfRange_39247 5 = .ok (.aload_n 0, 1) := by decide +kernel
theorem dJ7_copyOfRange_39247_6 : decode cJ7_copyOfRange_39247 6 = .ok (.arraylength, 1) := by decide +kernel
theorem dJ7_copyOfRange_39247_7 : decode cJ7_copyOfRange_39247 7 = .ok (.if_icmp .eq 10, 3) := by decide +kernel
theorem dJ7_copyOfRange_39247_10 : decode cJ7_copyOfRange_39247 10 = .ok (.aload_n 0, 1) := by decide +kernel
theorem dJ7_copyOfRange_39247_11 : decode cJ7_copyOfRange_39247 11 = .ok (.iload_n 1, 1) := by decide +kernel
theorem dJ7_copyOfRange_39247_12 : decode cJ7_copyOfRange_39247 12 = .ok (.iload_n 2, 1) := by decide +kernel
theorem dJ7_copyOfRange_39247_13 : decode cJ7_copyOfRange_39247 13 = .ok (.invokestatic 339, 3) := by decide +kernel
theorem dJ7_copyOfRange_39247_16 : decode cJ7_copyOfRange_39247 16 = .ok (.areturn, 1) := by decide +kernel
theorem dJ7_copyOfRange_39247_17 : decode cJ7_copyOfRange_39247 17 = .ok (.aload_n 0, 1) := by decide +kernel
theorem dJ7_copyOfRange_39247_18 : decode cJ7_copyOfRange_39247 18 = .ok (.invokevirtual 310, 3) := by decide +kernel
theorem dJ7_copyOfRange_39247_21 : decode cJ7_copyOfRange_39247 21 = .ok (.checkcast 311, 3) := by decide +kernel
theorem dJ7_copyOfRange_39247_24 : decode cJ7_copyOfRange_39247 24 = .ok (.areturn, 1) := by decide +kernel
set_option maxRecDepth 20000 in
theorem ggJ7_copyOfRangeByte_39247_J7_checkLength_df160 : GoodIn wsJ7_copyOfRangeByte_39247 wsJ7_checkLength_df160 := goodIn_r _ [13, 14, 15, 16, 17, 18, 19, 20] (by decide +kernel) (by decide +kernel)
set_option maxRecDepth 20000 in
theorem gJ7_copyOfRangeByte_39247_J7_checkLength_df160 : GoodIn wsJ7_copyOfRangeByte_39247 (va_wsS RJ7 343 yJ7_checkLength_df160 wsJ7_checkLength_df160) := goodIn_app (goodIn_of _ (by decide +kernel)) ggJ7_copyOfRangeByte_39247_J7_checkLength_df160
theorem dJ7_copyOfRangeByte_39247_0 : decode cJ7_copyOfRangeByte_39247 0 = .ok (.iload_n 1, 1) := by decide +kernel
theorem dJ7_copyOfRangeByte_39247_1 : decode cJ7_copyOfRangeByte_39247 1 = .ok (.iload_n 2, 1) := by decide +kernel
theorem dJ7_copyOfRangeByte_39247_2 : decode cJ7_copyOfRangeByte_39247 2 = .ok (.invokestatic 343, 3) := by decide +kernel
theorem dJ7_copyOfRangeByte_39247_5 : decode cJ7_copyOfRangeByte_39247 5 = .ok (.iload_n 2, 1) := by decide +kernel
theorem dJ7_copyOfRangeByte_39247_6 : decode cJ7_copyOfRangeByte_39247 6 = .ok (.iload_n 1, 1) := by decide +kernel
theorem dJ7_copyOfRangeByte_39247_7 : decode cJ7_copyOfRangeByte_39247 7 = .ok (.isub, 1) := by decide +kernel
theorem dJ7_copyOfRangeByte_39247_8 : decode cJ7_copyOfRangeByte_39247 8 = .ok (.istore_n 3, 1) := by decide +kernel
theorem dJ7_copyOfRangeByte_39247_9 : decode cJ7_copyOfRangeByte_39247 9 = .ok (.iload_n 3, 1) := by decide +kernel
theorem dJ7_copyOfRangeByte_39247_10 : decode cJ7_copyOfRangeByte_39247 10 = .ok (.newarray .byte, 2) := by decide +kernel
theorem dJ7_copyOfRangeByte_39247_12 : decode cJ7_copyOfRangeByte_39247 12 = .ok (.astore 4, 2) := by decide +kernel
theorem dJ7_copyOfRangeByte_39247_14 : decode cJ7_copyOfRangeByte_39247 14 = .ok (.aload_n 0, 1) := by decide +kernel
theorem dJ7_copyOfRangeByte_39247_15 : decode cJ7_copyOfRangeByte_39247 15 = .ok (.iload_n 1, 1) := by decide +kernel
theorem dJ7_copyOfRangeByte_39247_16 : decode cJ7_copyOfRangeByte_39247 16 = .ok (.aload 4, 2) := by decide +kernel
theorem dJ7_copyOfRangeByte_39247_18 : decode cJ7_copyOfRangeByte_39247 18 = .ok (.iconst 0, 1) := by decide +kernel
theorem dJ7_copyOfRangeByte_39247_19 : decode cJ7_copyOfRangeByte_39247 19 = .ok (.aload_n 0, 1) := by decide +kernel
theorem dJ7_copyOfRangeByte_39247_20 : decode cJ7_copyOfRangeByte_39247 20 = .ok (.arraylength, 1) := by decide +kernel
theorem dJ7_copyOfRangeByte_39247_21 : decode cJ7_copyOfRangeByte_39247 21 = .ok (.iload_n 1, 1) := by decide +kernel
theorem dJ7_copyOfRangeByte_39247_22 : decode cJ7_copyOfRangeByte_39247 22 = .ok (.isub, 1) := by decide +kernel
theorem dJ7_copyOfRangeByte_39247_23 : decode cJ7_copyOfRangeByte_39247 23 = .ok (.iload_n 3, 1) := by decide +kernel
theorem dJ7_copyOfRangeByte_39247_24 : decode cJ7_copyOfRangeByte_39247 24 = .ok (.invokestatic 304, 3) := by decide +kernel
theorem dJ7_copyOfRangeByte_39247_27 : decode cJ7_copyOfRangeByte_39247 27 = .ok (.invokestatic 150, 3) := by decide +kernel
theorem dJ7_copyOfRangeByte_39247_30 : decode cJ7_copyOfRangeByte_39247 30 = .ok (.aload 4, 2) := by decide +kernel
theorem dJ7_copyOfRangeByte_39247_32 : decode cJ7_copyOfRangeByte_39247 32 = .ok (.areturn, 1) := by decide +kernel
set_option maxRecDepth 20000 in
theorem ggJ15_checkIndex_7cf53_J3_checkIndex_8e157 : GoodIn wsJ15_checkIndex_7cf53 wsJ3_checkIndex_8e157 := goodIn_r _ [4] (by decide +kernel) (by decide +kernel)
set_option maxRecDepth 20000 in
theorem gJ15_checkIndex_7cf53_J3_checkIndex_8e157 : GoodIn wsJ15_checkIndex_7cf53 (va_wsS RJ15 105 yJ3_checkIndex_8e157 wsJ3_checkIndex_8e157) := goodIn_app (goodIn_of _ (by decide +kernel)) ggJ15_checkIndex_7cf53_J3_checkIndex_8e157
theorem dJ15_checkIndex_7cf53_0 : decode cJ15_checkIndex_7cf53 0 = .ok (.iload_n 0, 1) := by decide +kernel
theorem dJ15_checkIndex_7cf53_1 : decode cJ15_checkIndex_7cf53 1 = .ok (.iload_n 1, 1) := by decide +kernel
theorem dJ15_checkIndex_7cf53_2 : decode cJ15_checkIndex_7cf53 2 = .ok (.aconst_null, 1) := by decide +kernel
theorem dJ15_checkIndex_7cf53_3 : decode cJ15_checkIndex_7cf53 3 = .ok (.invokestatic 105, 3) := by decide +kernel
theorem dJ15_checkIndex_7cf53_6 : decode cJ15_checkIndex_7cf53 6 = .ok (.ireturn, 1) := by decide +kernel
set_option maxRecDepth 20000 in
theorem ggJ8_newLength_cabcc_J8_hugeLength_7cf53 : GoodIn wsJ8_newLength_cabcc wsJ8_hugeLength_7cf53 := goodIn_r _ [9, 5] (by decide +kernel) (by decide +kernel)
set_option maxRecDepth 20000 in
theorem gJ8_newLength_cabcc_J8_hugeLength_7cf53 : GoodIn wsJ8_newLength_cabcc (va_wsS RJ8 201 yJ8_hugeLength_7cf53 wsJ8_hugeLength_7cf53) := goodIn_app (goodIn_of _ (by decide +kernel)) ggJ8_newLength_cabcc_J8_hugeLength_7cf53
theorem dJ8_newLength_cabcc_0 : decode cJ8_newLength_cabcc 0 = .ok (.iload_n 0, 1) := by decide +kernel
theorem dJ8_newLength_cabcc_1 : decode cJ8_newLength_cabcc 1 = .ok (.iload_n 1, 1) := by decide +kernel
theorem dJ8_newLength_cabcc_2 : decode cJ8_newLength_cabcc 2 = .ok (.iload_n 2, 1) := by decide +kernel
theorem dJ8_newLength_cabcc_3 : decode cJ8_newLength_cabcc 3 = .ok (.invokestatic 194, 3) := by decide +kernel
theorem dJ8_newLength_cabcc_6 : decode cJ8_newLength_cabcc 6 = .ok (.iadd, 1) := by decide +kernel
theorem dJ8_newLength_cabcc_7 : decode cJ8_newLength_cabcc 7 = .ok (.istore_n 3, 1) := by decide +kernel
theorem dJ8_newLength_cabcc_8 : decode cJ8_newLength_cabcc 8 = .ok (.iconst 0, 1) := by decide +kernel
theorem dJ8_newLength_cabcc_9 : decode cJ8_newLength_cabcc 9 = .ok (.iload_n 3, 1) := by decide +kernel
theorem dJ8_newLength_cabcc_10 : decode cJ8_newLength_cabcc 10 = .ok (.if_icmp .ge 11, 3) := by decide +kernel
theorem dJ8_newLength_cabcc_13 : decode cJ8_newLength_cabcc 13 = .ok (.iload_n 3, 1) := by decide +kernel
theorem dJ8_newLength_cabcc_14 : decode cJ8_newLength_cabcc 14 = .ok (.ldc 200, 2) := by decide +kernel
theorem dJ8_newLength_cabcc_16 : decode cJ8_newLength_cabcc 16 = .ok (.if_icmp .gt 5, 3) := by decide +kernel
theorem dJ8_newLength_cabcc_19 : decode cJ8_newLength_cabcc 19 = .ok (.iload_n 3, 1) := by decide +kernel
theorem dJ8_newLength_cabcc_20 : decode cJ8_newLength_cabcc 20 = .ok (.ireturn, 1) := by decide +kernel
theorem dJ8_newLength_cabcc_21 : decode cJ8_newLength_cabcc 21 = .ok (.iload_n 0, 1) := by decide +kernel
theorem dJ8_newLength_cabcc_22 : decode cJ8_newLength_cabcc 22 = .ok (.iload_n 1, 1) := by decide +kernel
theorem dJ8_newLength_cabcc_23 : decode cJ8_newLength_cabcc 23 = .ok (.invokestatic 201, 3) := by decide +kernel
theorem dJ8_newLength_cabcc_26 : decode cJ8_newLength_cabcc 26 = .ok (.ireturn, 1) := by decide +kernel
theorem dJ8_hugeLength_7cf53_0 : decode cJ8_hugeLength_7cf53 0 = .ok (.iload_n 0, 1) := by decide +kernel
theorem dJ8_hugeLength_7cf53_1 : decode cJ8_hugeLength_7cf53 1 = .ok (.iload_n 1, 1) := by decide +kernel
theorem dJ8_hugeLength_7cf53_2 : decode cJ8_hugeLength_7cf53 2 = .ok (.iadd, 1) := by decide +kernel
theorem dJ8_hugeLength_7cf53_3 : decode cJ8_hugeLength_7cf53 3 = .ok (.istore_n 2, 1) := by decide +kernel
theorem dJ8_hugeLength_7cf53_4 : decode cJ8_hugeLength_7cf53 4 = .ok (.iload_n 2, 1) := by decide +kernel
theorem dJ8_hugeLength_7cf53_5 : decode cJ8_hugeLength_7cf53 5 = .ok (.ifCond .ge 44, 3) := by decide +kernel
theorem dJ8_hugeLength_7cf53_8 : decode cJ8_hugeLength_7cf53 8 = .ok (.new 204, 3) := by decide +kernel
theorem dJ8_hugeLength_7cf53_11 : decode cJ8_hugeLength_7cf53 11 = .ok (.dup, 1) := by decide +kernel
theorem dJ8_hugeLength_7cf53_12 : decode cJ8_hugeLength_7cf53 12 = .ok (.new 89, 3) := by decide +kernel
theorem dJ8_hugeLength_7cf53_15 : decode cJ8_hugeLength_7cf53 15 = .ok (.dup, 1) := by decide +kernel
theorem dJ8_hugeLength_7cf53_16 : decode cJ8_hugeLength_7cf53 16 = .ok (.invokespecial 91, 3) := by decide +kernel
theorem dJ8_hugeLength_7cf53_19 : decode cJ8_hugeLength_7cf53 19 = .ok (.ldc 206, 2) := by decide +kernel
theorem dJ8_hugeLength_7cf53_21 : decode cJ8_hugeLength_7cf53 21 = .ok (.invokevirtual 94, 3) := by decide +kernel
theorem dJ8_hugeLength_7cf53_24 : decode cJ8_hugeLength_7cf53 24 = .ok (.iload_n 0, 1) := by decide +kernel
theorem dJ8_hugeLength_7cf53_25 : decode cJ8_hugeLength_7cf53 25 = .ok (.invokevirtual 98, 3) := by decide +kernel
theorem dJ8_hugeLength_7cf53_28 : decode cJ8_hugeLength_7cf53 28 = .ok (.ldc 208, 2) := by decide +kernel
theorem dJ8_hugeLength_7cf53_30 : decode cJ8_hugeLength_7cf53 30 = .ok (.invokevirtual 94, 3) := by decide +kernel
theorem dJ8_hugeLength_7cf53_33 : decode cJ8_hugeLength_7cf53 33 = .ok (.iload_n 1, 1) := by decide +kernel
theorem dJ8_hugeLength_7cf53_34 : decode cJ8_hugeLength_7cf53 34 = .ok (.invokevirtual 98, 3) := by decide +kernel
theorem dJ8_hugeLength_7cf53_37 : decode cJ8_hugeLength_7cf53 37 = .ok (.ldc 210, 2) := by decide +kernel
theorem dJ8_hugeLength_7cf53_39 : decode cJ8_hugeLength_7cf53 39 = .ok (.invokevirtual 94, 3) := by decide +kernel
theorem dJ8_hugeLength_7cf53_42 : decode cJ8_hugeLength_7cf53 42 = .ok (.invokevirtual 101, 3) := by decide +kernel
theorem dJ8_hugeLength_7cf53_45 : decode cJ8_hugeLength_7cf53 45 = .ok (.invokespecial 212, 3) := by decide +kernel
theorem dJ8_hugeLength_7cf53_48 : decode cJ8_hugeLength_7cf53 48 = .ok (.athrow, 1) := by decide +kernel
theorem dJ8_hugeLength_7cf53_49 : decode cJ8_hugeLength_7cf53 49 = .ok (.iload_n 2, 1) := by decide +kernel
theorem dJ8_hugeLength_7cf53_50 : decode cJ8_hugeLength_7cf53 50 = .ok (.ldc 200, 2) := by decide +kernel
theorem dJ8_hugeLength_7cf53_52 : decode cJ8_hugeLength_7cf53 52 = .ok (.if_icmp .gt 6, 3) := by decide +kernel
theorem dJ8_hugeLength_7cf53_55 : decode cJ8_hugeLength_7cf53 55 = .ok (.ldc 200, 2) := by decide +kernel
theorem dJ8_hugeLength_7cf53_57 : decode cJ8_hugeLength_7cf53 57 = .ok (.ireturn, 1) := by decide +kernel
theorem dJ8_hugeLength_7cf53_58 : decode cJ8_hugeLength_7cf53 58 = .ok (.iload_n 2, 1) := by decide +kernel
theorem dJ8_hugeLength_7cf53_59 : decode cJ8_hugeLength_7cf53 59 = .ok (.ireturn, 1) := by decide +kernel
theorem dJ3_checkIndex_8e157_0 : decode cJ3_checkIndex_8e157 0 = .ok (.iload_n 0, 1) := by decide +kernel
theorem dJ3_checkIndex_8e157_1 : decode cJ3_checkIndex_8e157 1 = .ok (.ifCond .lt 8, 3) := by decide +kernel
theorem dJ3_checkIndex_8e157_4 : decode cJ3_checkIndex_8e157 4 = .ok (.iload_n 0, 1) := by decide +kernel
theorem dJ3_checkIndex_8e157_5 : decode cJ3_checkIndex_8e157 5 = .ok (.iload_n 1, 1) := by decide +kernel
theorem dJ3_checkIndex_8e157_6 : decode cJ3_checkIndex_8e157 6 = .ok (.if_icmp .lt 10, 3) := by decide +kernel
theorem dJ3_checkIndex_8e157_9 : decode cJ3_checkIndex_8e157 9 = .ok (.aload_n 2, 1) := by decide +kernel
theorem dJ3_checkIndex_8e157_10 : decode cJ3_checkIndex_8e157 10 = .ok (.iload_n 0, 1) := by decide +kernel
theorem dJ3_checkIndex_8e157_11 : decode cJ3_checkIndex_8e157 11 = .ok (.iload_n 1, 1) := by decide +kernel
theorem dJ3_checkIndex_8e157_12 : decode cJ3_checkIndex_8e157 12 = .ok (.invokestatic 95, 3) := by decide +kernel
theorem dJ3_checkIndex_8e157_15 : decode cJ3_checkIndex_8e157 15 = .ok (.athrow, 1) := by decide +kernel
theorem dJ3_checkIndex_8e157_16 : decode cJ3_checkIndex_8e157 16 = .ok (.iload_n 0, 1) := by decide +kernel
theorem dJ3_checkIndex_8e157_17 : decode cJ3_checkIndex_8e157 17 = .ok (.ireturn, 1) := by decide +kernel
theorem dJ3_checkFromToIndex_8c36e_0 : decode cJ3_checkFromToIndex_8c36e 0 = .ok (.iload_n 0, 1) := by decide +kernel
theorem dJ3_checkFromToIndex_8c36e_1 : decode cJ3_checkFromToIndex_8c36e 1 = .ok (.ifCond .lt 13, 3) := by decide +kernel
theorem dJ3_checkFromToIndex_8c36e_4 : decode cJ3_checkFromToIndex_8c36e 4 = .ok (.iload_n 0, 1) := by decide +kernel
theorem dJ3_checkFromToIndex_8c36e_5 : decode cJ3_checkFromToIndex_8c36e 5 = .ok (.iload_n 1, 1) := by decide +kernel
theorem dJ3_checkFromToIndex_8c36e_6 : decode cJ3_checkFromToIndex_8c36e 6 = .ok (.if_icmp .gt 8, 3) := by decide +kernel
theorem dJ3_checkFromToIndex_8c36e_9 : decode cJ3_checkFromToIndex_8c36e 9 = .ok (.iload_n 1, 1) := by decide +kernel
theorem dJ3_checkFromToIndex_8c36e_10 : decode cJ3_checkFromToIndex_8c36e 10 = .ok (.iload_n 2, 1) := by decide +kernel
theorem dJ3_checkFromToIndex_8c36e_11 : decode cJ3_checkFromToIndex_8c36e 11 = .ok (.if_icmp .le 11, 3) := by decide +kernel
theorem dJ3_checkFromToIndex_8c36e_14 : decode cJ3_checkFromToIndex_8c36e 14 = .ok (.aload_n 3, 1) := by decide +kernel
theorem dJ3_checkFromToIndex_8c36e_15 : decode cJ3_checkFromToIndex_8c36e 15 = .ok (.iload_n 0, 1) := by decide +kernel
theorem dJ3_checkFromToIndex_8c36e_16 : decode cJ3_checkFromToIndex_8c36e 16 = .ok (.iload_n 1, 1) := by decide +kernel
theorem dJ3_checkFromToIndex_8c36e_17 : decode cJ3_checkFromToIndex_8c36e 17 = .ok (.iload_n 2, 1) := by decide +kernel
theorem dJ3_checkFromToIndex_8c36e_18 : decode cJ3_checkFromToIndex_8c36e 18 = .ok (.invokestatic 99, 3) := by decide +kernel
theorem dJ3_checkFromToIndex_8c36e_21 : decode cJ3_checkFromToIndex_8c36e 21 = .ok (.athrow, 1) := by decide +kernel
theorem dJ3_checkFromToIndex_8c36e_22 : decode cJ3_checkFromToIndex_8c36e 22 = .ok (.iload_n 0, 1) := by decide +kernel
theorem dJ3_checkFromToIndex_8c36e_23 : decode cJ3_checkFromToIndex_8c36e 23 = .ok (.ireturn, 1) := by decide +kernel
theorem dJ3_checkFromIndexSize_8c36e_0 : decode cJ3_checkFromIndexSize_8c36e 0 = .ok (.iload_n 2, 1) := by decide +kernel
theorem dJ3_checkFromIndexSize_8c36e_1 : decode cJ3_checkFromIndexSize_8c36e 1 = .ok (.iload_n 0, 1) := by decide +kernel
theorem dJ3_checkFromIndexSize_8c36e_2 : decode cJ3_checkFromIndexSize_8c36e 2 = .ok (.ior, 1) := by decide +kernel
theorem dJ3_checkFromIndexSize_8c36e_3 : decode cJ3_checkFromIndexSize_8c36e 3 = .ok (.iload_n 1, 1) := by decide +kernel
theorem dJ3_checkFromIndexSize_8c36e_4 : decode cJ3_checkFromIndexSize_8c36e 4 = .ok (.ior, 1) := by decide +kernel
theorem dJ3_checkFromIndexSize_8c36e_5 : decode cJ3_checkFromIndexSize_8c36e 5 = .ok (.ifCond .lt 10, 3) := by decide +kernel
theorem dJ3_checkFromIndexSize_8c36e_8 : decode cJ3_checkFromIndexSize_8c36e 8 = .ok (.iload_n 1, 1) := by decide +kernel
theorem dJ3_checkFromIndexSize_8c36e_9 : decode cJ3_checkFromIndexSize_8c36e 9 = .ok (.iload_n 2, 1) := by decide +kernel
theorem dJ3_checkFromIndexSize_8c36e_10 : decode cJ3_checkFromIndexSize_8c36e 10 = .ok (.iload_n 0, 1) := by decide +kernel
theorem dJ3_checkFromIndexSize_8c36e_11 : decode cJ3_checkFromIndexSize_8c36e 11 = .ok (.isub, 1) := by decide +kernel
theorem dJ3_checkFromIndexSize_8c36e_12 : decode cJ3_checkFromIndexSize_8c36e 12 = .ok (.if_icmp .le 11, 3) := by decide +kernel
theorem dJ3_checkFromIndexSize_8c36e_15 : decode cJ3_checkFromIndexSize_8c36e 15 = .ok (.aload_n 3, 1) := by decide +kernel
theorem dJ3_checkFromIndexSize_8c36e_16 : decode cJ3_checkFromIndexSize_8c36e 16 = .ok (.iload_n 0, 1) := by decide +kernel
theorem dJ3_checkFromIndexSize_8c36e_17 : decode cJ3_checkFromIndexSize_8c36e 17 = .ok (.iload_n 1, 1) := by decide +kernel
theorem dJ3_checkFromIndexSize_8c36e_18 : decode cJ3_checkFromIndexSize_8c36e 18 = .ok (.iload_n 2, 1) := by decide +kernel
theorem dJ3_checkFromIndexSize_8c36e_19 : decode cJ3_checkFromIndexSize_8c36e 19 = .ok (.invokestatic 103, 3) := by decide +kernel
theorem dJ3_checkFromIndexSize_8c36e_22 : decode cJ3_checkFromIndexSize_8c36e 22 = .ok (.athrow, 1) := by decide +kernel
theorem dJ3_checkFromIndexSize_8c36e_23 : decode cJ3_checkFromIndexSize_8c36e 23 = .ok (.iload_n 0, 1) := by decide +kernel
theorem dJ3_checkFromIndexSize_8c36e_24 : decode cJ3_checkFromIndexSize_8c36e 24 = .ok (.ireturn, 1) := by decide +kernel
